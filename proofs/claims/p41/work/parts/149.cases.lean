set_option maxHeartbeats 2000000 in
theorem law_case_48 {p : Program} {l : Launch} {e : Env} {s : State} {m : MethodId} {below : List Frame} {meth : Method} {c : Code} {b L : Nat} {xs : Nat → Int32} {D : va_G} {dA : Nat → ClassId} {K : Kmap} {V : Vmap} {cells slots x m0 : Nat} {i : Int} (hI : LI K V x m0) (hR : REL K V x m0) (hL : L ≤ 4096) (h0 : 0 ≤ i) (h8 : i + 8 ≤ L) (hcs : cells + 8 ≤ 600000 ∧ slots + 2704 ≤ 7302250) (kk : ∀ (K1 : Kmap) (V1 : Vmap), LI K1 V1 x m0 → REL K1 V1 x m0 → LG p l e s m below meth c b L xs D dA K1 V1 (cells + 8) (slots + 2704) 2745 [some (.ref b), some (.ref x), some (.ref m0), some (ti i)] []) : LG p l e s m below meth c b L xs D dA K V cells slots 2270 [some (.ref b), some (.ref x), some (.ref m0), some (ti i)] [] := by
  have hR0 := hR.1
  have hA0 := hR.2.1
  have hT0 := hR.2.2.1
  have hY0 := hR.2.2.2.1
  have hP0 := hR.2.2.2.2.1
  have hK0 := hR.2.2.2.2.2.1
  have hS0 := hR.2.2.2.2.2.2
  unfold RLI at hR0
  refine LG.aload_n dL_law_2270 rfl rfl ?_
  refine LG.useWT (fun hW => ?_)
  refine LG.callV (ci := 10) (N := mX11_best) (As := []) dL_law_2271 (RX11, TX11, 20) rfl gV_RL_221 hI.1 (t_X11_best hI.1 hI.2.2.2.2.1) rfl [] rfl rfl (le_cs hcs rfl) (Nat.le_of_ble_eq_true rfl) (g_ip fun X7 K1 V2 r3 h4 hE5 hF6 => ?_)
  have hI10 : LI K1 V2 x m0 := ⟨hE5.obj (by decide) hI.1, hE5.obj (by decide) hI.2.1, (GX.frx hF6 hE5 hI.2.2.1 hW hI.2.1 (by decide +kernel)), (PX0.frx hF6 hE5 hI.2.2.2.1 hW hI.2.1 (by decide +kernel)), (NN.frx 4 3 4 rfl rfl hF6 hE5 hI.2.2.2.2.1 hW hI.1 (by decide +kernel)), (NN.frx 10 9 7 rfl rfl hF6 hE5 hI.2.2.2.2.2.1 hW hI.1 (by decide +kernel)), (PI.frx hI.2.2.2.2.2.2.1 hF6 hE5 hW hI.1 hI.2.2.2.2.1 (by decide +kernel)), (CWI.fr hI.2.2.2.2.2.2.2 hF6 hE5 hW hI.1 (by decide +kernel) (by decide +kernel) (by decide +kernel))⟩
  have hWp11 := hW
  have hY12 : YRL V2 x m0 := YRL.frx hY0 hF6 hE5 hW hI.1 hI.2.1 hI.2.2.2.2.1 (by decide +kernel) (by decide +kernel)
  have hT13 : TXE K1 V2 x m0 := TXE.frx hT0 hF6 hE5 hW hI.1 hI.2.1 (by decide +kernel)
  have hA14 : AB V2 x m0 := AB.frx hA0 hF6 hE5 hW hI.1 hI.2.1 hI.2.2.2.2.1 (by decide +kernel) (by decide +kernel) (Int.le_of_eq (vi_fr hF6 hI.2.1 (hE5.obj (by decide) hI.2.1) (by decide +kernel)).symm)
  have s15 : tdy V2 x = tdy V x := tdy_fr hF6 hE5 hW hI.1 (by decide +kernel) (by decide +kernel)
  have s16 : wsz V2 x = wsz V x := wsz_fr hF6 hE5 hW hI.1 (by decide +kernel) (by decide +kernel)
  have s17 : csz V2 x = csz V x := csz_fr hF6 hE5 hW hI.1 (by decide +kernel) (by decide +kernel)
  have s18 : dsz V2 x = dsz V x := dsz_fr hF6 hE5 hW hI.1 (by decide +kernel) (by decide +kernel)
  clear hW
  have s19 : vi V2 x 4 = vi V x 4 := vi_fr hF6 hI.1 (hE5.obj (by decide) hI.1) (by decide +kernel)
  have s20 : vi V2 x 10 = vi V x 10 := vi_fr hF6 hI.1 (hE5.obj (by decide) hI.1) (by decide +kernel)
  have s21 : vi V2 m0 9 = vi V m0 9 := vi_fr hF6 hI.2.1 (hE5.obj (by decide) hI.2.1) (by decide +kernel)
  have s22 : vi V2 m0 2 = vi V m0 2 := vi_fr hF6 hI.2.1 (hE5.obj (by decide) hI.2.1) (by decide +kernel)
  have s23 : vi V2 m0 91 = vi V m0 91 := vi_fr hF6 hI.2.1 (hE5.obj (by decide) hI.2.1) (by decide +kernel)
  have s24 : vi V2 m0 133 = vi V m0 133 := vi_fr hF6 hI.2.1 (hE5.obj (by decide) hI.2.1) (by decide +kernel)
  have s25 : vi V2 m0 120 = vi V m0 120 := vi_fr hF6 hI.2.1 (hE5.obj (by decide) hI.2.1) (by decide +kernel)
  have s26 : vi V2 x 8 = vi V x 8 := vi_fr hF6 hI.1 (hE5.obj (by decide) hI.1) (by decide +kernel)
  have s27 : vi V2 m0 66 = vi V m0 66 := vi_fr hF6 hI.2.1 (hE5.obj (by decide) hI.2.1) (by decide +kernel)
  have s28 : vi V2 m0 118 = vi V m0 118 := vi_fr hF6 hI.2.1 (hE5.obj (by decide) hI.2.1) (by decide +kernel)
  have hS29 : STE V2 x m0 := STE.frx hS0 hF6 hE5 hWp11 hI.1 hI.2.1 (by decide +kernel) (by decide +kernel)
  have hK30 : WKE V2 x m0 := WKE.frx hK0 hF6 hE5 hWp11 hI.1 hI.2.1 (by decide +kernel) (by decide +kernel)
  have hP31 : PLE V2 x m0 := PLE.frx hP0 hF6 hE5 hWp11 hI.1 hI.2.1 (by omega) (by decide +kernel) (by decide +kernel) (by decide +kernel) (by decide +kernel) (by decide +kernel) (by decide +kernel)
  refine LG.pop dL_law_2274 rfl ?_
  refine LG.aload_n dL_law_2275 rfl rfl ?_
  refine LG.useWT (fun hW => ?_)
  refine LG.callV (ci := 11) (N := mX12_best) (As := []) dL_law_2276 (RX12, TX12, 151) rfl gV_RL_224 hI10.2.1 (t_X12_best hI10.2.1) rfl [] rfl rfl (le_csb hcs rfl) (Nat.le_of_ble_eq_true rfl) (g_ip fun X38 K32 V33 r34 h35 hE36 hF37 => ?_)
  have hI41 : LI K32 V33 x m0 := ⟨hE36.obj (by decide) hI10.1, hE36.obj (by decide) hI10.2.1, (GX.frx hF37 hE36 hI10.2.2.1 hW hI10.2.1 (by decide +kernel)), (PX0.frx hF37 hE36 hI10.2.2.2.1 hW hI10.2.1 (by decide +kernel)), (NN.frx 4 3 4 rfl rfl hF37 hE36 hI10.2.2.2.2.1 hW hI10.1 (by decide +kernel)), (NN.frx 10 9 7 rfl rfl hF37 hE36 hI10.2.2.2.2.2.1 hW hI10.1 (by decide +kernel)), (PI.frx hI10.2.2.2.2.2.2.1 hF37 hE36 hW hI10.1 hI10.2.2.2.2.1 (by decide +kernel)), (CWI.fr hI10.2.2.2.2.2.2.2 hF37 hE36 hW hI10.1 (by decide +kernel) (by decide +kernel) (by decide +kernel))⟩
  have hWp42 := hW
  have hY43 : YRL V33 x m0 := YRL.frx hY12 hF37 hE36 hW hI10.1 hI10.2.1 hI10.2.2.2.2.1 (by decide +kernel) (by decide +kernel)
  have hT44 : TXE K32 V33 x m0 := TXE.frx hT13 hF37 hE36 hW hI10.1 hI10.2.1 (by decide +kernel)
  have hA45 : AB V33 x m0 := AB.frx hA14 hF37 hE36 hW hI10.1 hI10.2.1 hI10.2.2.2.2.1 (by decide +kernel) (by decide +kernel) (Int.le_of_eq (vi_fr hF37 hI10.2.1 (hE36.obj (by decide) hI10.2.1) (by decide +kernel)).symm)
  have s46 : tdy V33 x = tdy V2 x := tdy_fr hF37 hE36 hW hI10.1 (by decide +kernel) (by decide +kernel)
  have s47 : wsz V33 x = wsz V2 x := wsz_fr hF37 hE36 hW hI10.1 (by decide +kernel) (by decide +kernel)
  have s48 : csz V33 x = csz V2 x := csz_fr hF37 hE36 hW hI10.1 (by decide +kernel) (by decide +kernel)
  have s49 : dsz V33 x = dsz V2 x := dsz_fr hF37 hE36 hW hI10.1 (by decide +kernel) (by decide +kernel)
  clear hW
  have s50 : vi V33 x 4 = vi V2 x 4 := vi_fr hF37 hI10.1 (hE36.obj (by decide) hI10.1) (by decide +kernel)
  have s51 : vi V33 x 10 = vi V2 x 10 := vi_fr hF37 hI10.1 (hE36.obj (by decide) hI10.1) (by decide +kernel)
  have s52 : vi V33 m0 9 = vi V2 m0 9 := vi_fr hF37 hI10.2.1 (hE36.obj (by decide) hI10.2.1) (by decide +kernel)
  have s53 : vi V33 m0 2 = vi V2 m0 2 := vi_fr hF37 hI10.2.1 (hE36.obj (by decide) hI10.2.1) (by decide +kernel)
  have s54 : vi V33 m0 91 = vi V2 m0 91 := vi_fr hF37 hI10.2.1 (hE36.obj (by decide) hI10.2.1) (by decide +kernel)
  have s55 : vi V33 m0 133 = vi V2 m0 133 := vi_fr hF37 hI10.2.1 (hE36.obj (by decide) hI10.2.1) (by decide +kernel)
  have s56 : vi V33 m0 120 = vi V2 m0 120 := vi_fr hF37 hI10.2.1 (hE36.obj (by decide) hI10.2.1) (by decide +kernel)
  have s57 : vi V33 x 8 = vi V2 x 8 := vi_fr hF37 hI10.1 (hE36.obj (by decide) hI10.1) (by decide +kernel)
  have s58 : vi V33 m0 66 = vi V2 m0 66 := vi_fr hF37 hI10.2.1 (hE36.obj (by decide) hI10.2.1) (by decide +kernel)
  have s59 : vi V33 m0 118 = vi V2 m0 118 := vi_fr hF37 hI10.2.1 (hE36.obj (by decide) hI10.2.1) (by decide +kernel)
  have hS60 : STE V33 x m0 := STE.frx hS29 hF37 hE36 hWp42 hI10.1 hI10.2.1 (by decide +kernel) (by decide +kernel)
  have hK61 : WKE V33 x m0 := WKE.frx hK30 hF37 hE36 hWp42 hI10.1 hI10.2.1 (by decide +kernel) (by decide +kernel)
  have hP62 : PLE V33 x m0 := PLE.frx hP31 hF37 hE36 hWp42 hI10.1 hI10.2.1 (by omega) (by decide +kernel) (by decide +kernel) (by decide +kernel) (by decide +kernel) (by decide +kernel) (by decide +kernel)
  refine LG.pop dL_law_2279 rfl ?_
  refine LG.goto (tgt := 2745) dL_law_2280 (by decide) ?_
  exact LG.widen (le_cs3 rfl) (kk _ _ hI41 (⟨by unfold RLI; omega, hA45, hT44, hY43, hP62, hK61, hS60⟩))

set_option maxHeartbeats 2000000 in
theorem law_case_49 {p : Program} {l : Launch} {e : Env} {s : State} {m : MethodId} {below : List Frame} {meth : Method} {c : Code} {b L : Nat} {xs : Nat → Int32} {D : va_G} {dA : Nat → ClassId} {K : Kmap} {V : Vmap} {cells slots x m0 : Nat} {i : Int} (hI : LI K V x m0) (hR : REL K V x m0) (hL : L ≤ 4096) (h0 : 0 ≤ i) (h8 : i + 8 ≤ L) (hcs : cells + 8 ≤ 600000 ∧ slots + 2704 ≤ 7302250) (kk : ∀ (K1 : Kmap) (V1 : Vmap), LI K1 V1 x m0 → REL K1 V1 x m0 → LG p l e s m below meth c b L xs D dA K1 V1 (cells + 8) (slots + 2704) 2745 [some (.ref b), some (.ref x), some (.ref m0), some (ti i)] []) : LG p l e s m below meth c b L xs D dA K V cells slots 2283 [some (.ref b), some (.ref x), some (.ref m0), some (ti i)] [] := by
  have hR0 := hR.1
  have hA0 := hR.2.1
  have hT0 := hR.2.2.1
  have hY0 := hR.2.2.2.1
  have hP0 := hR.2.2.2.2.1
  have hK0 := hR.2.2.2.2.2.1
  have hS0 := hR.2.2.2.2.2.2
  unfold RLI at hR0
  refine LG.aload_n dL_law_2283 rfl rfl ?_
  refine LG.aload_n dL_law_2284 rfl rfl ?_
  refine LG.iload_n dL_law_2285 rfl rfl ?_
  refine LG.iconst dL_law_2286 ?_
  refine LG.iadd dL_law_2287 ?_
  refine LG.sld (Y := i + 1) dL_law_2288 (by omega) (by omega) hL ?_
  refine LG.aload_n dL_law_2289 rfl rfl ?_
  refine LG.iload_n dL_law_2290 rfl rfl ?_
  refine LG.iconst dL_law_2291 ?_
  refine LG.iadd dL_law_2292 ?_
  refine LG.sld (Y := i + 2) dL_law_2293 (by omega) (by omega) hL ?_
  refine LG.useWT (fun hW => ?_)
  refine LG.callV (ci := 10) (N := mX11_stop) (As := [ti (xv xs (i + 1)), ti (xv xs (i + 2))]) dL_law_2294 (RX11, TX11, 20) rfl gV_RL_225 hI.1 (t_X11_stop hI.1 xv_ir xv_ir) rfl [] rfl rfl (le_cs hcs rfl) (Nat.le_of_ble_eq_true rfl) (g_is fun X7 K1 V2 r3 h4 hE5 hF6 => ?_)
  have hI10 : LI K1 V2 x m0 := ⟨hE5.obj (by decide) hI.1, hE5.obj (by decide) hI.2.1, (GX.frx hF6 hE5 hI.2.2.1 hW hI.2.1 (by decide +kernel)), (PX0.frx hF6 hE5 hI.2.2.2.1 hW hI.2.1 (by decide +kernel)), (NN.frx 4 3 4 rfl rfl hF6 hE5 hI.2.2.2.2.1 hW hI.1 (by decide +kernel)), (NN.frx 10 9 7 rfl rfl hF6 hE5 hI.2.2.2.2.2.1 hW hI.1 (by decide +kernel)), (PI.frx hI.2.2.2.2.2.2.1 hF6 hE5 hW hI.1 hI.2.2.2.2.1 (by decide +kernel)), (CWI.fr hI.2.2.2.2.2.2.2 hF6 hE5 hW hI.1 (by decide +kernel) (by decide +kernel) (by decide +kernel))⟩
  have hWp11 := hW
  have hY12 : YRL V2 x m0 := YRL.frx hY0 hF6 hE5 hW hI.1 hI.2.1 hI.2.2.2.2.1 (by decide +kernel) (by decide +kernel)
  have hT13 : TXE K1 V2 x m0 := TXE.frx hT0 hF6 hE5 hW hI.1 hI.2.1 (by decide +kernel)
  have hA14 : AB V2 x m0 := AB.frx hA0 hF6 hE5 hW hI.1 hI.2.1 hI.2.2.2.2.1 (by decide +kernel) (by decide +kernel) (Int.le_of_eq (vi_fr hF6 hI.2.1 (hE5.obj (by decide) hI.2.1) (by decide +kernel)).symm)
  have s15 : tdy V2 x = tdy V x := tdy_fr hF6 hE5 hW hI.1 (by decide +kernel) (by decide +kernel)
  have s16 : wsz V2 x = wsz V x := wsz_fr hF6 hE5 hW hI.1 (by decide +kernel) (by decide +kernel)
  have s17 : csz V2 x = csz V x := csz_fr hF6 hE5 hW hI.1 (by decide +kernel) (by decide +kernel)
  have s18 : dsz V2 x = dsz V x := dsz_fr hF6 hE5 hW hI.1 (by decide +kernel) (by decide +kernel)
  clear hW
  have s19 : vi V2 x 4 = vi V x 4 := vi_fr hF6 hI.1 (hE5.obj (by decide) hI.1) (by decide +kernel)
  have s20 : vi V2 x 10 = vi V x 10 := vi_fr hF6 hI.1 (hE5.obj (by decide) hI.1) (by decide +kernel)
  have s21 : vi V2 m0 9 = vi V m0 9 := vi_fr hF6 hI.2.1 (hE5.obj (by decide) hI.2.1) (by decide +kernel)
  have s22 : vi V2 m0 2 = vi V m0 2 := vi_fr hF6 hI.2.1 (hE5.obj (by decide) hI.2.1) (by decide +kernel)
  have s23 : vi V2 m0 91 = vi V m0 91 := vi_fr hF6 hI.2.1 (hE5.obj (by decide) hI.2.1) (by decide +kernel)
  have s24 : vi V2 m0 133 = vi V m0 133 := vi_fr hF6 hI.2.1 (hE5.obj (by decide) hI.2.1) (by decide +kernel)
  have s25 : vi V2 m0 120 = vi V m0 120 := vi_fr hF6 hI.2.1 (hE5.obj (by decide) hI.2.1) (by decide +kernel)
  have s26 : vi V2 x 8 = vi V x 8 := vi_fr hF6 hI.1 (hE5.obj (by decide) hI.1) (by decide +kernel)
  have s27 : vi V2 m0 66 = vi V m0 66 := vi_fr hF6 hI.2.1 (hE5.obj (by decide) hI.2.1) (by decide +kernel)
  have s28 : vi V2 m0 118 = vi V m0 118 := vi_fr hF6 hI.2.1 (hE5.obj (by decide) hI.2.1) (by decide +kernel)
  have hK29 : WKE V2 x m0 := WKE.frx hK0 hF6 hE5 hWp11 hI.1 hI.2.1 (by decide +kernel) (by decide +kernel)
  have hP30 : PLE V2 x m0 := PLE.frx hP0 hF6 hE5 hWp11 hI.1 hI.2.1 (by omega) (by decide +kernel) (by decide +kernel) (by decide +kernel) (by decide +kernel) (by decide +kernel) (by decide +kernel)
  refine LG.pop dL_law_2297 rfl ?_
  refine LG.aload_n dL_law_2298 rfl rfl ?_
  refine LG.aload_n dL_law_2299 rfl rfl ?_
  refine LG.iload_n dL_law_2300 rfl rfl ?_
  refine LG.iconst dL_law_2301 ?_
  refine LG.iadd dL_law_2302 ?_
  refine LG.sld (Y := i + 1) dL_law_2303 (by omega) (by omega) hL ?_
  refine LG.aload_n dL_law_2304 rfl rfl ?_
  refine LG.iload_n dL_law_2305 rfl rfl ?_
  refine LG.iconst dL_law_2306 ?_
  refine LG.iadd dL_law_2307 ?_
  refine LG.sld (Y := i + 2) dL_law_2308 (by omega) (by omega) hL ?_
  refine LG.useWT (fun hW => ?_)
  refine LG.callV (ci := 11) (N := mX12_stop) (As := [ti (xv xs (i + 1)), ti (xv xs (i + 2))]) dL_law_2309 (RX12, TX12, 151) rfl gV_RL_228 hI10.2.1 (t_X12_stop hI10.2.1 xv_ir xv_ir) rfl [] rfl rfl (le_csb hcs rfl) (Nat.le_of_ble_eq_true rfl) (g_is fun X37 K31 V32 r33 h34 hE35 hF36 => ?_)
  have hI40 : LI K31 V32 x m0 := ⟨hE35.obj (by decide) hI10.1, hE35.obj (by decide) hI10.2.1, (GX.frx hF36 hE35 hI10.2.2.1 hW hI10.2.1 (by decide +kernel)), (PX0.frx hF36 hE35 hI10.2.2.2.1 hW hI10.2.1 (by decide +kernel)), (NN.frx 4 3 4 rfl rfl hF36 hE35 hI10.2.2.2.2.1 hW hI10.1 (by decide +kernel)), (NN.frx 10 9 7 rfl rfl hF36 hE35 hI10.2.2.2.2.2.1 hW hI10.1 (by decide +kernel)), (PI.frx hI10.2.2.2.2.2.2.1 hF36 hE35 hW hI10.1 hI10.2.2.2.2.1 (by decide +kernel)), (CWI.fr hI10.2.2.2.2.2.2.2 hF36 hE35 hW hI10.1 (by decide +kernel) (by decide +kernel) (by decide +kernel))⟩
  have hWp41 := hW
  have hY42 : YRL V32 x m0 := YRL.frx hY12 hF36 hE35 hW hI10.1 hI10.2.1 hI10.2.2.2.2.1 (by decide +kernel) (by decide +kernel)
  have hT43 : TXE K31 V32 x m0 := TXE.frx hT13 hF36 hE35 hW hI10.1 hI10.2.1 (by decide +kernel)
  have hA44 : AB V32 x m0 := AB.frx hA14 hF36 hE35 hW hI10.1 hI10.2.1 hI10.2.2.2.2.1 (by decide +kernel) (by decide +kernel) (Int.le_of_eq (vi_fr hF36 hI10.2.1 (hE35.obj (by decide) hI10.2.1) (by decide +kernel)).symm)
  have s45 : tdy V32 x = tdy V2 x := tdy_fr hF36 hE35 hW hI10.1 (by decide +kernel) (by decide +kernel)
  have s46 : wsz V32 x = wsz V2 x := wsz_fr hF36 hE35 hW hI10.1 (by decide +kernel) (by decide +kernel)
  have s47 : csz V32 x = csz V2 x := csz_fr hF36 hE35 hW hI10.1 (by decide +kernel) (by decide +kernel)
  have s48 : dsz V32 x = dsz V2 x := dsz_fr hF36 hE35 hW hI10.1 (by decide +kernel) (by decide +kernel)
  clear hW
  have s49 : vi V32 x 4 = vi V2 x 4 := vi_fr hF36 hI10.1 (hE35.obj (by decide) hI10.1) (by decide +kernel)
  have s50 : vi V32 x 10 = vi V2 x 10 := vi_fr hF36 hI10.1 (hE35.obj (by decide) hI10.1) (by decide +kernel)
  have s51 : vi V32 m0 9 = vi V2 m0 9 := vi_fr hF36 hI10.2.1 (hE35.obj (by decide) hI10.2.1) (by decide +kernel)
  have s52 : vi V32 m0 2 = vi V2 m0 2 := vi_fr hF36 hI10.2.1 (hE35.obj (by decide) hI10.2.1) (by decide +kernel)
  have s53 : vi V32 m0 91 = vi V2 m0 91 := vi_fr hF36 hI10.2.1 (hE35.obj (by decide) hI10.2.1) (by decide +kernel)
  have s54 : vi V32 m0 133 = vi V2 m0 133 := vi_fr hF36 hI10.2.1 (hE35.obj (by decide) hI10.2.1) (by decide +kernel)
  have s55 : vi V32 m0 120 = vi V2 m0 120 := vi_fr hF36 hI10.2.1 (hE35.obj (by decide) hI10.2.1) (by decide +kernel)
  have s56 : vi V32 x 8 = vi V2 x 8 := vi_fr hF36 hI10.1 (hE35.obj (by decide) hI10.1) (by decide +kernel)
  have s57 : vi V32 m0 66 = vi V2 m0 66 := vi_fr hF36 hI10.2.1 (hE35.obj (by decide) hI10.2.1) (by decide +kernel)
  have s58 : vi V32 m0 118 = vi V2 m0 118 := vi_fr hF36 hI10.2.1 (hE35.obj (by decide) hI10.2.1) (by decide +kernel)
  have hK59 : WKE V32 x m0 := WKE.frx hK29 hF36 hE35 hWp41 hI10.1 hI10.2.1 (by decide +kernel) (by decide +kernel)
  have hP60 : PLE V32 x m0 := PLE.frx hP30 hF36 hE35 hWp41 hI10.1 hI10.2.1 (by omega) (by decide +kernel) (by decide +kernel) (by decide +kernel) (by decide +kernel) (by decide +kernel) (by decide +kernel)
  have hKs61 := STE.stop hS0 hP0 hI.1 hI.2.1 hWp11 hWp41 hE5 hF6 hE35 hF36 (h4.2) (h34.2) (by decide +kernel) (by decide +kernel) (by decide +kernel) (by decide +kernel)
  refine LG.pop dL_law_2312 rfl ?_
  refine LG.goto (tgt := 2745) dL_law_2313 (by decide) ?_
  exact LG.widen (le_cs3 rfl) (kk _ _ hI40 (⟨by unfold RLI; omega, hA44, hT43, hY42, hP60, hK59, hKs61.2⟩))

set_option maxHeartbeats 2000000 in
theorem law_case_50 {p : Program} {l : Launch} {e : Env} {s : State} {m : MethodId} {below : List Frame} {meth : Method} {c : Code} {b L : Nat} {xs : Nat → Int32} {D : va_G} {dA : Nat → ClassId} {K : Kmap} {V : Vmap} {cells slots x m0 : Nat} {i : Int} (hI : LI K V x m0) (hR : REL K V x m0) (hL : L ≤ 4096) (h0 : 0 ≤ i) (h8 : i + 8 ≤ L) (hcs : cells + 8 ≤ 600000 ∧ slots + 2704 ≤ 7302250) (kk : ∀ (K1 : Kmap) (V1 : Vmap), LI K1 V1 x m0 → REL K1 V1 x m0 → LG p l e s m below meth c b L xs D dA K1 V1 (cells + 8) (slots + 2704) 2745 [some (.ref b), some (.ref x), some (.ref m0), some (ti i)] []) : LG p l e s m below meth c b L xs D dA K V cells slots 2316 [some (.ref b), some (.ref x), some (.ref m0), some (ti i)] [] := by
  have hR0 := hR.1
  have hA0 := hR.2.1
  have hT0 := hR.2.2.1
  have hY0 := hR.2.2.2.1
  have hP0 := hR.2.2.2.2.1
  have hK0 := hR.2.2.2.2.2.1
  have hS0 := hR.2.2.2.2.2.2
  unfold RLI at hR0
  refine LG.aload_n dL_law_2316 rfl rfl ?_
  refine LG.aload_n dL_law_2317 rfl rfl ?_
  refine LG.iload_n dL_law_2318 rfl rfl ?_
  refine LG.iconst dL_law_2319 ?_
  refine LG.iadd dL_law_2320 ?_
  refine LG.sld (Y := i + 1) dL_law_2321 (by omega) (by omega) hL ?_
  refine LG.aload_n dL_law_2322 rfl rfl ?_
  refine LG.iload_n dL_law_2323 rfl rfl ?_
  refine LG.iconst dL_law_2324 ?_
  refine LG.iadd dL_law_2325 ?_
  refine LG.sld (Y := i + 2) dL_law_2326 (by omega) (by omega) hL ?_
  refine LG.aload_n dL_law_2327 rfl rfl ?_
  refine LG.iload_n dL_law_2328 rfl rfl ?_
  refine LG.iconst dL_law_2329 ?_
  refine LG.iadd dL_law_2330 ?_
  refine LG.sld (Y := i + 3) dL_law_2331 (by omega) (by omega) hL ?_
  refine LG.aload_n dL_law_2332 rfl rfl ?_
  refine LG.iload_n dL_law_2333 rfl rfl ?_
  refine LG.iconst dL_law_2334 ?_
  refine LG.iadd dL_law_2335 ?_
  refine LG.sld (Y := i + 4) dL_law_2336 (by omega) (by omega) hL ?_
  refine LG.useWT (fun hW => ?_)
  refine LG.callV (ci := 10) (N := mX11_open) (As := [ti (xv xs (i + 1)), ti (xv xs (i + 2)), ti (xv xs (i + 3)), ti (xv xs (i + 4))]) dL_law_2337 (RX11, TX11, 20) rfl gV_RL_229 hI.1 (t_X11_open hI.1 xv_ir xv_ir xv_ir xv_ir) rfl [] rfl rfl (le_cs hcs rfl) (Nat.le_of_ble_eq_true rfl) (g_is fun X7 K1 V2 r3 h4 hE5 hF6 => ?_)
  have hI10 : LI K1 V2 x m0 := ⟨hE5.obj (by decide) hI.1, hE5.obj (by decide) hI.2.1, (GX.frx hF6 hE5 hI.2.2.1 hW hI.2.1 (by decide +kernel)), (PX0.frx hF6 hE5 hI.2.2.2.1 hW hI.2.1 (by decide +kernel)), (NN.frx 4 3 4 rfl rfl hF6 hE5 hI.2.2.2.2.1 hW hI.1 (by decide +kernel)), (NN.frx 10 9 7 rfl rfl hF6 hE5 hI.2.2.2.2.2.1 hW hI.1 (by decide +kernel)), (PI.frx hI.2.2.2.2.2.2.1 hF6 hE5 hW hI.1 hI.2.2.2.2.1 (by decide +kernel)), (CWI.fr hI.2.2.2.2.2.2.2 hF6 hE5 hW hI.1 (by decide +kernel) (by decide +kernel) (by decide +kernel))⟩
  have hWp11 := hW
  have hY12 : YRL V2 x m0 := YRL.frx hY0 hF6 hE5 hW hI.1 hI.2.1 hI.2.2.2.2.1 (by decide +kernel) (by decide +kernel)
  have hT13 : TXE K1 V2 x m0 := TXE.frx hT0 hF6 hE5 hW hI.1 hI.2.1 (by decide +kernel)
  have hA14 : AB V2 x m0 := AB.frx hA0 hF6 hE5 hW hI.1 hI.2.1 hI.2.2.2.2.1 (by decide +kernel) (by decide +kernel) (Int.le_of_eq (vi_fr hF6 hI.2.1 (hE5.obj (by decide) hI.2.1) (by decide +kernel)).symm)
  have s15 : tdy V2 x = tdy V x := tdy_fr hF6 hE5 hW hI.1 (by decide +kernel) (by decide +kernel)
  have s16 : wsz V2 x = wsz V x := wsz_fr hF6 hE5 hW hI.1 (by decide +kernel) (by decide +kernel)
  have s17 : csz V2 x = csz V x := csz_fr hF6 hE5 hW hI.1 (by decide +kernel) (by decide +kernel)
  have s18 : dsz V2 x = dsz V x := dsz_fr hF6 hE5 hW hI.1 (by decide +kernel) (by decide +kernel)
  clear hW
  have s19 : vi V2 x 4 = vi V x 4 := vi_fr hF6 hI.1 (hE5.obj (by decide) hI.1) (by decide +kernel)
  have s20 : vi V2 x 10 = vi V x 10 := vi_fr hF6 hI.1 (hE5.obj (by decide) hI.1) (by decide +kernel)
  have s21 : vi V2 m0 9 = vi V m0 9 := vi_fr hF6 hI.2.1 (hE5.obj (by decide) hI.2.1) (by decide +kernel)
  have s22 : vi V2 m0 2 = vi V m0 2 := vi_fr hF6 hI.2.1 (hE5.obj (by decide) hI.2.1) (by decide +kernel)
  have s23 : vi V2 m0 91 = vi V m0 91 := vi_fr hF6 hI.2.1 (hE5.obj (by decide) hI.2.1) (by decide +kernel)
  have s24 : vi V2 m0 133 = vi V m0 133 := vi_fr hF6 hI.2.1 (hE5.obj (by decide) hI.2.1) (by decide +kernel)
  have s25 : vi V2 m0 120 = vi V m0 120 := vi_fr hF6 hI.2.1 (hE5.obj (by decide) hI.2.1) (by decide +kernel)
  have s26 : vi V2 x 8 = vi V x 8 := vi_fr hF6 hI.1 (hE5.obj (by decide) hI.1) (by decide +kernel)
  have s27 : vi V2 m0 66 = vi V m0 66 := vi_fr hF6 hI.2.1 (hE5.obj (by decide) hI.2.1) (by decide +kernel)
  have s28 : vi V2 m0 118 = vi V m0 118 := vi_fr hF6 hI.2.1 (hE5.obj (by decide) hI.2.1) (by decide +kernel)
  have hS29 : STE V2 x m0 := STE.frx hS0 hF6 hE5 hWp11 hI.1 hI.2.1 (by decide +kernel) (by decide +kernel)
  have hK30 : WKE V2 x m0 := WKE.frx hK0 hF6 hE5 hWp11 hI.1 hI.2.1 (by decide +kernel) (by decide +kernel)
  have hP31 : PLE V2 x m0 := PLE.frx hP0 hF6 hE5 hWp11 hI.1 hI.2.1 (by omega) (by decide +kernel) (by decide +kernel) (by decide +kernel) (by decide +kernel) (by decide +kernel) (by decide +kernel)
  refine LG.pop dL_law_2340 rfl ?_
  refine LG.aload_n dL_law_2341 rfl rfl ?_
  refine LG.aload_n dL_law_2342 rfl rfl ?_
  refine LG.iload_n dL_law_2343 rfl rfl ?_
  refine LG.iconst dL_law_2344 ?_
  refine LG.iadd dL_law_2345 ?_
  refine LG.sld (Y := i + 1) dL_law_2346 (by omega) (by omega) hL ?_
  refine LG.aload_n dL_law_2347 rfl rfl ?_
  refine LG.iload_n dL_law_2348 rfl rfl ?_
  refine LG.iconst dL_law_2349 ?_
  refine LG.iadd dL_law_2350 ?_
  refine LG.sld (Y := i + 2) dL_law_2351 (by omega) (by omega) hL ?_
  refine LG.aload_n dL_law_2352 rfl rfl ?_
  refine LG.iload_n dL_law_2353 rfl rfl ?_
  refine LG.iconst dL_law_2354 ?_
  refine LG.iadd dL_law_2355 ?_
  refine LG.sld (Y := i + 3) dL_law_2356 (by omega) (by omega) hL ?_
  refine LG.aload_n dL_law_2357 rfl rfl ?_
  refine LG.iload_n dL_law_2358 rfl rfl ?_
  refine LG.iconst dL_law_2359 ?_
  refine LG.iadd dL_law_2360 ?_
  refine LG.sld (Y := i + 4) dL_law_2361 (by omega) (by omega) hL ?_
  refine LG.useWT (fun hW => ?_)
  refine LG.callV (ci := 11) (N := mX12_open) (As := [ti (xv xs (i + 1)), ti (xv xs (i + 2)), ti (xv xs (i + 3)), ti (xv xs (i + 4))]) dL_law_2362 (RX12, TX12, 151) rfl gV_RL_232 hI10.2.1 (t_X12_open hI10.2.1 xv_ir xv_ir xv_ir xv_ir) rfl [] rfl rfl (le_csb hcs rfl) (Nat.le_of_ble_eq_true rfl) (g_is fun X38 K32 V33 r34 h35 hE36 hF37 => ?_)
  have hI41 : LI K32 V33 x m0 := ⟨hE36.obj (by decide) hI10.1, hE36.obj (by decide) hI10.2.1, (GX.frx hF37 hE36 hI10.2.2.1 hW hI10.2.1 (by decide +kernel)), (PX0.frx hF37 hE36 hI10.2.2.2.1 hW hI10.2.1 (by decide +kernel)), (NN.frx 4 3 4 rfl rfl hF37 hE36 hI10.2.2.2.2.1 hW hI10.1 (by decide +kernel)), (NN.frx 10 9 7 rfl rfl hF37 hE36 hI10.2.2.2.2.2.1 hW hI10.1 (by decide +kernel)), (PI.frx hI10.2.2.2.2.2.2.1 hF37 hE36 hW hI10.1 hI10.2.2.2.2.1 (by decide +kernel)), (CWI.fr hI10.2.2.2.2.2.2.2 hF37 hE36 hW hI10.1 (by decide +kernel) (by decide +kernel) (by decide +kernel))⟩
  have hWp42 := hW
  have hY43 : YRL V33 x m0 := YRL.frx hY12 hF37 hE36 hW hI10.1 hI10.2.1 hI10.2.2.2.2.1 (by decide +kernel) (by decide +kernel)
  have hT44 : TXE K32 V33 x m0 := TXE.frx hT13 hF37 hE36 hW hI10.1 hI10.2.1 (by decide +kernel)
  have hA45 : AB V33 x m0 := AB.frx hA14 hF37 hE36 hW hI10.1 hI10.2.1 hI10.2.2.2.2.1 (by decide +kernel) (by decide +kernel) (Int.le_of_eq (vi_fr hF37 hI10.2.1 (hE36.obj (by decide) hI10.2.1) (by decide +kernel)).symm)
  have s46 : tdy V33 x = tdy V2 x := tdy_fr hF37 hE36 hW hI10.1 (by decide +kernel) (by decide +kernel)
  have s47 : wsz V33 x = wsz V2 x := wsz_fr hF37 hE36 hW hI10.1 (by decide +kernel) (by decide +kernel)
  have s48 : csz V33 x = csz V2 x := csz_fr hF37 hE36 hW hI10.1 (by decide +kernel) (by decide +kernel)
  have s49 : dsz V33 x = dsz V2 x := dsz_fr hF37 hE36 hW hI10.1 (by decide +kernel) (by decide +kernel)
  clear hW
  have s50 : vi V33 x 4 = vi V2 x 4 := vi_fr hF37 hI10.1 (hE36.obj (by decide) hI10.1) (by decide +kernel)
  have s51 : vi V33 x 10 = vi V2 x 10 := vi_fr hF37 hI10.1 (hE36.obj (by decide) hI10.1) (by decide +kernel)
  have s52 : vi V33 m0 9 = vi V2 m0 9 := vi_fr hF37 hI10.2.1 (hE36.obj (by decide) hI10.2.1) (by decide +kernel)
  have s53 : vi V33 m0 2 = vi V2 m0 2 := vi_fr hF37 hI10.2.1 (hE36.obj (by decide) hI10.2.1) (by decide +kernel)
  have s54 : vi V33 m0 91 = vi V2 m0 91 := vi_fr hF37 hI10.2.1 (hE36.obj (by decide) hI10.2.1) (by decide +kernel)
  have s55 : vi V33 m0 133 = vi V2 m0 133 := vi_fr hF37 hI10.2.1 (hE36.obj (by decide) hI10.2.1) (by decide +kernel)
  have s56 : vi V33 m0 120 = vi V2 m0 120 := vi_fr hF37 hI10.2.1 (hE36.obj (by decide) hI10.2.1) (by decide +kernel)
  have s57 : vi V33 x 8 = vi V2 x 8 := vi_fr hF37 hI10.1 (hE36.obj (by decide) hI10.1) (by decide +kernel)
  have s58 : vi V33 m0 66 = vi V2 m0 66 := vi_fr hF37 hI10.2.1 (hE36.obj (by decide) hI10.2.1) (by decide +kernel)
  have s59 : vi V33 m0 118 = vi V2 m0 118 := vi_fr hF37 hI10.2.1 (hE36.obj (by decide) hI10.2.1) (by decide +kernel)
  have hz60 := STE.sz hS0 hF6 hE5 hWp11 hI.2.1 (by decide +kernel)
  have hKd61 := SAY.both (h4.2.2.2) (h35.2.2.2) (by constructor <;> intro _ <;> omega)
  have hS62 : STE V33 x m0 := STE.frx hS29 hF37 hE36 hWp42 hI10.1 hI10.2.1 (by decide +kernel) (by decide +kernel)
  have hK63 : WKE V33 x m0 := WKE.frx hK30 hF37 hE36 hWp42 hI10.1 hI10.2.1 (by decide +kernel) (by decide +kernel)
  have hP64 : PLE V33 x m0 := PLE.frx hP31 hF37 hE36 hWp42 hI10.1 hI10.2.1 (by omega) (by decide +kernel) (by decide +kernel) (by decide +kernel) (by decide +kernel) (by decide +kernel) (by decide +kernel)
  refine LG.pop dL_law_2365 rfl ?_
  refine LG.goto (tgt := 2745) dL_law_2366 (by decide) ?_
  exact LG.widen (le_cs3 rfl) (kk _ _ hI41 (⟨by unfold RLI; omega, hA45, hT44, hY43, hP64, hK63, hS62⟩))

set_option maxHeartbeats 2000000 in
theorem law_case_51 {p : Program} {l : Launch} {e : Env} {s : State} {m : MethodId} {below : List Frame} {meth : Method} {c : Code} {b L : Nat} {xs : Nat → Int32} {D : va_G} {dA : Nat → ClassId} {K : Kmap} {V : Vmap} {cells slots x m0 : Nat} {i : Int} (hI : LI K V x m0) (hR : REL K V x m0) (hL : L ≤ 4096) (h0 : 0 ≤ i) (h8 : i + 8 ≤ L) (hcs : cells + 8 ≤ 600000 ∧ slots + 2704 ≤ 7302250) (kk : ∀ (K1 : Kmap) (V1 : Vmap), LI K1 V1 x m0 → REL K1 V1 x m0 → LG p l e s m below meth c b L xs D dA K1 V1 (cells + 8) (slots + 2704) 2745 [some (.ref b), some (.ref x), some (.ref m0), some (ti i)] []) : LG p l e s m below meth c b L xs D dA K V cells slots 2369 [some (.ref b), some (.ref x), some (.ref m0), some (ti i)] [] := by
  have hR0 := hR.1
  have hA0 := hR.2.1
  have hT0 := hR.2.2.1
  have hY0 := hR.2.2.2.1
  have hP0 := hR.2.2.2.2.1
  have hK0 := hR.2.2.2.2.2.1
  have hS0 := hR.2.2.2.2.2.2
  unfold RLI at hR0
  refine LG.aload_n dL_law_2369 rfl rfl ?_
  refine LG.aload_n dL_law_2370 rfl rfl ?_
  refine LG.iload_n dL_law_2371 rfl rfl ?_
  refine LG.iconst dL_law_2372 ?_
  refine LG.iadd dL_law_2373 ?_
  refine LG.sld (Y := i + 1) dL_law_2374 (by omega) (by omega) hL ?_
  refine LG.aload_n dL_law_2375 rfl rfl ?_
  refine LG.iload_n dL_law_2376 rfl rfl ?_
  refine LG.iconst dL_law_2377 ?_
  refine LG.iadd dL_law_2378 ?_
  refine LG.sld (Y := i + 2) dL_law_2379 (by omega) (by omega) hL ?_
  refine LG.aload_n dL_law_2380 rfl rfl ?_
  refine LG.iload_n dL_law_2381 rfl rfl ?_
  refine LG.iconst dL_law_2382 ?_
  refine LG.iadd dL_law_2383 ?_
  refine LG.sld (Y := i + 3) dL_law_2384 (by omega) (by omega) hL ?_
  refine LG.useWT (fun hW => ?_)
  refine LG.callV (ci := 10) (N := mX11_plan) (As := [ti (xv xs (i + 1)), ti (xv xs (i + 2)), ti (xv xs (i + 3))]) dL_law_2385 (RX11, TX11, 20) rfl gV_RL_233 hI.1 (t_X11_plan hI.1 xv_ir xv_ir xv_ir) rfl [] rfl rfl (le_cs hcs rfl) (Nat.le_of_ble_eq_true rfl) (g_is fun X7 K1 V2 r3 h4 hE5 hF6 => ?_)
  have hI10 : LI K1 V2 x m0 := ⟨hE5.obj (by decide) hI.1, hE5.obj (by decide) hI.2.1, (GX.frx hF6 hE5 hI.2.2.1 hW hI.2.1 (by decide +kernel)), (PX0.frx hF6 hE5 hI.2.2.2.1 hW hI.2.1 (by decide +kernel)), (NN.frx 4 3 4 rfl rfl hF6 hE5 hI.2.2.2.2.1 hW hI.1 (by decide +kernel)), (NN.frx 10 9 7 rfl rfl hF6 hE5 hI.2.2.2.2.2.1 hW hI.1 (by decide +kernel)), (PI.frx hI.2.2.2.2.2.2.1 hF6 hE5 hW hI.1 hI.2.2.2.2.1 (by decide +kernel)), (CWI.fr hI.2.2.2.2.2.2.2 hF6 hE5 hW hI.1 (by decide +kernel) (by decide +kernel) (by decide +kernel))⟩
  have hWp11 := hW
  have hY12 : YRL V2 x m0 := YRL.frx hY0 hF6 hE5 hW hI.1 hI.2.1 hI.2.2.2.2.1 (by decide +kernel) (by decide +kernel)
  have hT13 : TXE K1 V2 x m0 := TXE.frx hT0 hF6 hE5 hW hI.1 hI.2.1 (by decide +kernel)
  have hA14 : AB V2 x m0 := AB.frx hA0 hF6 hE5 hW hI.1 hI.2.1 hI.2.2.2.2.1 (by decide +kernel) (by decide +kernel) (Int.le_of_eq (vi_fr hF6 hI.2.1 (hE5.obj (by decide) hI.2.1) (by decide +kernel)).symm)
  have s15 : tdy V2 x = tdy V x := tdy_fr hF6 hE5 hW hI.1 (by decide +kernel) (by decide +kernel)
  have s16 : wsz V2 x = wsz V x := wsz_fr hF6 hE5 hW hI.1 (by decide +kernel) (by decide +kernel)
  have s17 : csz V2 x = csz V x := csz_fr hF6 hE5 hW hI.1 (by decide +kernel) (by decide +kernel)
  have s18 : dsz V2 x = dsz V x := dsz_fr hF6 hE5 hW hI.1 (by decide +kernel) (by decide +kernel)
  clear hW
  have s19 : vi V2 x 4 = vi V x 4 := vi_fr hF6 hI.1 (hE5.obj (by decide) hI.1) (by decide +kernel)
  have s20 : vi V2 x 10 = vi V x 10 := vi_fr hF6 hI.1 (hE5.obj (by decide) hI.1) (by decide +kernel)
  have s21 : vi V2 m0 9 = vi V m0 9 := vi_fr hF6 hI.2.1 (hE5.obj (by decide) hI.2.1) (by decide +kernel)
  have s22 : vi V2 m0 2 = vi V m0 2 := vi_fr hF6 hI.2.1 (hE5.obj (by decide) hI.2.1) (by decide +kernel)
  have s23 : vi V2 m0 91 = vi V m0 91 := vi_fr hF6 hI.2.1 (hE5.obj (by decide) hI.2.1) (by decide +kernel)
  have s24 : vi V2 m0 133 = vi V m0 133 := vi_fr hF6 hI.2.1 (hE5.obj (by decide) hI.2.1) (by decide +kernel)
  have s25 : vi V2 m0 120 = vi V m0 120 := vi_fr hF6 hI.2.1 (hE5.obj (by decide) hI.2.1) (by decide +kernel)
  have s26 : vi V2 x 8 = vi V x 8 := vi_fr hF6 hI.1 (hE5.obj (by decide) hI.1) (by decide +kernel)
  have s27 : vi V2 m0 66 = vi V m0 66 := vi_fr hF6 hI.2.1 (hE5.obj (by decide) hI.2.1) (by decide +kernel)
  have s28 : vi V2 m0 118 = vi V m0 118 := vi_fr hF6 hI.2.1 (hE5.obj (by decide) hI.2.1) (by decide +kernel)
  have hS29 : STE V2 x m0 := STE.frx hS0 hF6 hE5 hWp11 hI.1 hI.2.1 (by decide +kernel) (by decide +kernel)
  have hK30 : WKE V2 x m0 := WKE.frx hK0 hF6 hE5 hWp11 hI.1 hI.2.1 (by decide +kernel) (by decide +kernel)
  have hP31 : PLE V2 x m0 := PLE.frx hP0 hF6 hE5 hWp11 hI.1 hI.2.1 (by omega) (by decide +kernel) (by decide +kernel) (by decide +kernel) (by decide +kernel) (by decide +kernel) (by decide +kernel)
  refine LG.pop dL_law_2388 rfl ?_
  refine LG.aload_n dL_law_2389 rfl rfl ?_
  refine LG.aload_n dL_law_2390 rfl rfl ?_
  refine LG.iload_n dL_law_2391 rfl rfl ?_
  refine LG.iconst dL_law_2392 ?_
  refine LG.iadd dL_law_2393 ?_
  refine LG.sld (Y := i + 1) dL_law_2394 (by omega) (by omega) hL ?_
  refine LG.aload_n dL_law_2395 rfl rfl ?_
  refine LG.iload_n dL_law_2396 rfl rfl ?_
  refine LG.iconst dL_law_2397 ?_
  refine LG.iadd dL_law_2398 ?_
  refine LG.sld (Y := i + 2) dL_law_2399 (by omega) (by omega) hL ?_
  refine LG.aload_n dL_law_2400 rfl rfl ?_
  refine LG.iload_n dL_law_2401 rfl rfl ?_
  refine LG.iconst dL_law_2402 ?_
  refine LG.iadd dL_law_2403 ?_
  refine LG.sld (Y := i + 3) dL_law_2404 (by omega) (by omega) hL ?_
  refine LG.useWT (fun hW => ?_)
  refine LG.callV (ci := 11) (N := mX12_plan) (As := [ti (xv xs (i + 1)), ti (xv xs (i + 2)), ti (xv xs (i + 3))]) dL_law_2405 (RX12, TX12, 151) rfl gV_RL_236 hI10.2.1 (t_X12_plan hI10.2.1 xv_ir xv_ir xv_ir) rfl [] rfl rfl (le_csb hcs rfl) (Nat.le_of_ble_eq_true rfl) (g_is fun X38 K32 V33 r34 h35 hE36 hF37 => ?_)
  have hI41 : LI K32 V33 x m0 := ⟨hE36.obj (by decide) hI10.1, hE36.obj (by decide) hI10.2.1, (GX.frx hF37 hE36 hI10.2.2.1 hW hI10.2.1 (by decide +kernel)), (PX0.frx hF37 hE36 hI10.2.2.2.1 hW hI10.2.1 (by decide +kernel)), (NN.frx 4 3 4 rfl rfl hF37 hE36 hI10.2.2.2.2.1 hW hI10.1 (by decide +kernel)), (NN.frx 10 9 7 rfl rfl hF37 hE36 hI10.2.2.2.2.2.1 hW hI10.1 (by decide +kernel)), (PI.frx hI10.2.2.2.2.2.2.1 hF37 hE36 hW hI10.1 hI10.2.2.2.2.1 (by decide +kernel)), (CWI.fr hI10.2.2.2.2.2.2.2 hF37 hE36 hW hI10.1 (by decide +kernel) (by decide +kernel) (by decide +kernel))⟩
  have hWp42 := hW
  have hY43 : YRL V33 x m0 := YRL.frx hY12 hF37 hE36 hW hI10.1 hI10.2.1 hI10.2.2.2.2.1 (by decide +kernel) (by decide +kernel)
  have hT44 : TXE K32 V33 x m0 := TXE.frx hT13 hF37 hE36 hW hI10.1 hI10.2.1 (by decide +kernel)
  have hA45 : AB V33 x m0 := AB.frx hA14 hF37 hE36 hW hI10.1 hI10.2.1 hI10.2.2.2.2.1 (by decide +kernel) (by decide +kernel) (Int.le_of_eq (vi_fr hF37 hI10.2.1 (hE36.obj (by decide) hI10.2.1) (by decide +kernel)).symm)
  have s46 : tdy V33 x = tdy V2 x := tdy_fr hF37 hE36 hW hI10.1 (by decide +kernel) (by decide +kernel)
  have s47 : wsz V33 x = wsz V2 x := wsz_fr hF37 hE36 hW hI10.1 (by decide +kernel) (by decide +kernel)
  have s48 : csz V33 x = csz V2 x := csz_fr hF37 hE36 hW hI10.1 (by decide +kernel) (by decide +kernel)
  have s49 : dsz V33 x = dsz V2 x := dsz_fr hF37 hE36 hW hI10.1 (by decide +kernel) (by decide +kernel)
  clear hW
  have s50 : vi V33 x 4 = vi V2 x 4 := vi_fr hF37 hI10.1 (hE36.obj (by decide) hI10.1) (by decide +kernel)
  have s51 : vi V33 x 10 = vi V2 x 10 := vi_fr hF37 hI10.1 (hE36.obj (by decide) hI10.1) (by decide +kernel)
  have s52 : vi V33 m0 9 = vi V2 m0 9 := vi_fr hF37 hI10.2.1 (hE36.obj (by decide) hI10.2.1) (by decide +kernel)
  have s53 : vi V33 m0 2 = vi V2 m0 2 := vi_fr hF37 hI10.2.1 (hE36.obj (by decide) hI10.2.1) (by decide +kernel)
  have s54 : vi V33 m0 91 = vi V2 m0 91 := vi_fr hF37 hI10.2.1 (hE36.obj (by decide) hI10.2.1) (by decide +kernel)
  have s55 : vi V33 m0 133 = vi V2 m0 133 := vi_fr hF37 hI10.2.1 (hE36.obj (by decide) hI10.2.1) (by decide +kernel)
  have s56 : vi V33 m0 120 = vi V2 m0 120 := vi_fr hF37 hI10.2.1 (hE36.obj (by decide) hI10.2.1) (by decide +kernel)
  have s57 : vi V33 x 8 = vi V2 x 8 := vi_fr hF37 hI10.1 (hE36.obj (by decide) hI10.1) (by decide +kernel)
  have s58 : vi V33 m0 66 = vi V2 m0 66 := vi_fr hF37 hI10.2.1 (hE36.obj (by decide) hI10.2.1) (by decide +kernel)
  have s59 : vi V33 m0 118 = vi V2 m0 118 := vi_fr hF37 hI10.2.1 (hE36.obj (by decide) hI10.2.1) (by decide +kernel)
  have hS60 : STE V33 x m0 := STE.frx hS29 hF37 hE36 hWp42 hI10.1 hI10.2.1 (by decide +kernel) (by decide +kernel)
  have hK61 : WKE V33 x m0 := WKE.frx hK30 hF37 hE36 hWp42 hI10.1 hI10.2.1 (by decide +kernel) (by decide +kernel)
  have hP62 : PLE V33 x m0 := PLE.frx hP31 hF37 hE36 hWp42 hI10.1 hI10.2.1 (by omega) (by decide +kernel) (by decide +kernel) (by decide +kernel) (by decide +kernel) (by decide +kernel) (by decide +kernel)
  refine LG.pop dL_law_2408 rfl ?_
  refine LG.goto (tgt := 2745) dL_law_2409 (by decide) ?_
  exact LG.widen (le_cs3 rfl) (kk _ _ hI41 (⟨by unfold RLI; omega, hA45, hT44, hY43, hP62, hK61, hS60⟩))

set_option maxHeartbeats 2000000 in
theorem law_case_52 {p : Program} {l : Launch} {e : Env} {s : State} {m : MethodId} {below : List Frame} {meth : Method} {c : Code} {b L : Nat} {xs : Nat → Int32} {D : va_G} {dA : Nat → ClassId} {K : Kmap} {V : Vmap} {cells slots x m0 : Nat} {i : Int} (hI : LI K V x m0) (hR : REL K V x m0) (hL : L ≤ 4096) (h0 : 0 ≤ i) (h8 : i + 8 ≤ L) (hcs : cells + 8 ≤ 600000 ∧ slots + 2704 ≤ 7302250) (kk : ∀ (K1 : Kmap) (V1 : Vmap), LI K1 V1 x m0 → REL K1 V1 x m0 → LG p l e s m below meth c b L xs D dA K1 V1 (cells + 8) (slots + 2704) 2745 [some (.ref b), some (.ref x), some (.ref m0), some (ti i)] []) : LG p l e s m below meth c b L xs D dA K V cells slots 2412 [some (.ref b), some (.ref x), some (.ref m0), some (ti i)] [] := by
  have hR0 := hR.1
  have hA0 := hR.2.1
  have hT0 := hR.2.2.1
  have hY0 := hR.2.2.2.1
  have hP0 := hR.2.2.2.2.1
  have hK0 := hR.2.2.2.2.2.1
  have hS0 := hR.2.2.2.2.2.2
  unfold RLI at hR0
  refine LG.aload_n dL_law_2412 rfl rfl ?_
  refine LG.aload_n dL_law_2413 rfl rfl ?_
  refine LG.iload_n dL_law_2414 rfl rfl ?_
  refine LG.iconst dL_law_2415 ?_
  refine LG.iadd dL_law_2416 ?_
  refine LG.sld (Y := i + 1) dL_law_2417 (by omega) (by omega) hL ?_
  refine LG.aload_n dL_law_2418 rfl rfl ?_
  refine LG.iload_n dL_law_2419 rfl rfl ?_
  refine LG.iconst dL_law_2420 ?_
  refine LG.iadd dL_law_2421 ?_
  refine LG.sld (Y := i + 2) dL_law_2422 (by omega) (by omega) hL ?_
  refine LG.aload_n dL_law_2423 rfl rfl ?_
  refine LG.iload_n dL_law_2424 rfl rfl ?_
  refine LG.iconst dL_law_2425 ?_
  refine LG.iadd dL_law_2426 ?_
  refine LG.sld (Y := i + 3) dL_law_2427 (by omega) (by omega) hL ?_
  refine LG.aload_n dL_law_2428 rfl rfl ?_
  refine LG.iload_n dL_law_2429 rfl rfl ?_
  refine LG.iconst dL_law_2430 ?_
  refine LG.iadd dL_law_2431 ?_
  refine LG.sld (Y := i + 4) dL_law_2432 (by omega) (by omega) hL ?_
  refine LG.useWT (fun hW => ?_)
  refine LG.callV (ci := 10) (N := mX11_planned) (As := [ti (xv xs (i + 1)), ti (xv xs (i + 2)), ti (xv xs (i + 3)), ti (xv xs (i + 4))]) dL_law_2433 (RX11, TX11, 20) rfl gV_RL_237 hI.1 (t_X11_planned hI.1 xv_ir xv_ir xv_ir xv_ir) rfl [] rfl rfl (le_cs hcs rfl) (Nat.le_of_ble_eq_true rfl) (g_is fun X7 K1 V2 r3 h4 hE5 hF6 => ?_)
  have hI10 : LI K1 V2 x m0 := ⟨hE5.obj (by decide) hI.1, hE5.obj (by decide) hI.2.1, (GX.frx hF6 hE5 hI.2.2.1 hW hI.2.1 (by decide +kernel)), (PX0.frx hF6 hE5 hI.2.2.2.1 hW hI.2.1 (by decide +kernel)), (NN.frx 4 3 4 rfl rfl hF6 hE5 hI.2.2.2.2.1 hW hI.1 (by decide +kernel)), (NN.frx 10 9 7 rfl rfl hF6 hE5 hI.2.2.2.2.2.1 hW hI.1 (by decide +kernel)), (PI.frx hI.2.2.2.2.2.2.1 hF6 hE5 hW hI.1 hI.2.2.2.2.1 (by decide +kernel)), (CWI.fr hI.2.2.2.2.2.2.2 hF6 hE5 hW hI.1 (by decide +kernel) (by decide +kernel) (by decide +kernel))⟩
  have hWp11 := hW
  have hY12 : YRL V2 x m0 := YRL.frx hY0 hF6 hE5 hW hI.1 hI.2.1 hI.2.2.2.2.1 (by decide +kernel) (by decide +kernel)
  have hT13 : TXE K1 V2 x m0 := TXE.frx hT0 hF6 hE5 hW hI.1 hI.2.1 (by decide +kernel)
  have hA14 : AB V2 x m0 := AB.frx hA0 hF6 hE5 hW hI.1 hI.2.1 hI.2.2.2.2.1 (by decide +kernel) (by decide +kernel) (Int.le_of_eq (vi_fr hF6 hI.2.1 (hE5.obj (by decide) hI.2.1) (by decide +kernel)).symm)
  have s15 : tdy V2 x = tdy V x := tdy_fr hF6 hE5 hW hI.1 (by decide +kernel) (by decide +kernel)
  have s16 : wsz V2 x = wsz V x := wsz_fr hF6 hE5 hW hI.1 (by decide +kernel) (by decide +kernel)
  have s17 : csz V2 x = csz V x := csz_fr hF6 hE5 hW hI.1 (by decide +kernel) (by decide +kernel)
  have s18 : dsz V2 x = dsz V x := dsz_fr hF6 hE5 hW hI.1 (by decide +kernel) (by decide +kernel)
  clear hW
  have s19 : vi V2 x 4 = vi V x 4 := vi_fr hF6 hI.1 (hE5.obj (by decide) hI.1) (by decide +kernel)
  have s20 : vi V2 x 10 = vi V x 10 := vi_fr hF6 hI.1 (hE5.obj (by decide) hI.1) (by decide +kernel)
  have s21 : vi V2 m0 9 = vi V m0 9 := vi_fr hF6 hI.2.1 (hE5.obj (by decide) hI.2.1) (by decide +kernel)
  have s22 : vi V2 m0 2 = vi V m0 2 := vi_fr hF6 hI.2.1 (hE5.obj (by decide) hI.2.1) (by decide +kernel)
  have s23 : vi V2 m0 91 = vi V m0 91 := vi_fr hF6 hI.2.1 (hE5.obj (by decide) hI.2.1) (by decide +kernel)
  have s24 : vi V2 m0 133 = vi V m0 133 := vi_fr hF6 hI.2.1 (hE5.obj (by decide) hI.2.1) (by decide +kernel)
  have s25 : vi V2 m0 120 = vi V m0 120 := vi_fr hF6 hI.2.1 (hE5.obj (by decide) hI.2.1) (by decide +kernel)
  have s26 : vi V2 x 8 = vi V x 8 := vi_fr hF6 hI.1 (hE5.obj (by decide) hI.1) (by decide +kernel)
  have s27 : vi V2 m0 66 = vi V m0 66 := vi_fr hF6 hI.2.1 (hE5.obj (by decide) hI.2.1) (by decide +kernel)
  have s28 : vi V2 m0 118 = vi V m0 118 := vi_fr hF6 hI.2.1 (hE5.obj (by decide) hI.2.1) (by decide +kernel)
  have hS29 : STE V2 x m0 := STE.frx hS0 hF6 hE5 hWp11 hI.1 hI.2.1 (by decide +kernel) (by decide +kernel)
  have hK30 : WKE V2 x m0 := WKE.frx hK0 hF6 hE5 hWp11 hI.1 hI.2.1 (by decide +kernel) (by decide +kernel)
  have hP31 : PLE V2 x m0 := PLE.frx hP0 hF6 hE5 hWp11 hI.1 hI.2.1 (by omega) (by decide +kernel) (by decide +kernel) (by decide +kernel) (by decide +kernel) (by decide +kernel) (by decide +kernel)
  refine LG.pop dL_law_2436 rfl ?_
  refine LG.aload_n dL_law_2437 rfl rfl ?_
  refine LG.aload_n dL_law_2438 rfl rfl ?_
  refine LG.iload_n dL_law_2439 rfl rfl ?_
  refine LG.iconst dL_law_2440 ?_
  refine LG.iadd dL_law_2441 ?_
  refine LG.sld (Y := i + 1) dL_law_2442 (by omega) (by omega) hL ?_
  refine LG.aload_n dL_law_2443 rfl rfl ?_
  refine LG.iload_n dL_law_2444 rfl rfl ?_
  refine LG.iconst dL_law_2445 ?_
  refine LG.iadd dL_law_2446 ?_
  refine LG.sld (Y := i + 2) dL_law_2447 (by omega) (by omega) hL ?_
  refine LG.aload_n dL_law_2448 rfl rfl ?_
  refine LG.iload_n dL_law_2449 rfl rfl ?_
  refine LG.iconst dL_law_2450 ?_
  refine LG.iadd dL_law_2451 ?_
  refine LG.sld (Y := i + 3) dL_law_2452 (by omega) (by omega) hL ?_
  refine LG.aload_n dL_law_2453 rfl rfl ?_
  refine LG.iload_n dL_law_2454 rfl rfl ?_
  refine LG.iconst dL_law_2455 ?_
  refine LG.iadd dL_law_2456 ?_
  refine LG.sld (Y := i + 4) dL_law_2457 (by omega) (by omega) hL ?_
  refine LG.useWT (fun hW => ?_)
  refine LG.callV (ci := 11) (N := mX12_planned) (As := [ti (xv xs (i + 1)), ti (xv xs (i + 2)), ti (xv xs (i + 3)), ti (xv xs (i + 4))]) dL_law_2458 (RX12, TX12, 151) rfl gV_RL_240 hI10.2.1 (t_X12_planned hI10.2.1 xv_ir xv_ir xv_ir xv_ir) rfl [] rfl rfl (le_csb hcs rfl) (Nat.le_of_ble_eq_true rfl) (g_is fun X38 K32 V33 r34 h35 hE36 hF37 => ?_)
  have hI41 : LI K32 V33 x m0 := ⟨hE36.obj (by decide) hI10.1, hE36.obj (by decide) hI10.2.1, (GX.frx hF37 hE36 hI10.2.2.1 hW hI10.2.1 (by decide +kernel)), (PX0.frx hF37 hE36 hI10.2.2.2.1 hW hI10.2.1 (by decide +kernel)), (NN.frx 4 3 4 rfl rfl hF37 hE36 hI10.2.2.2.2.1 hW hI10.1 (by decide +kernel)), (NN.frx 10 9 7 rfl rfl hF37 hE36 hI10.2.2.2.2.2.1 hW hI10.1 (by decide +kernel)), (PI.frx hI10.2.2.2.2.2.2.1 hF37 hE36 hW hI10.1 hI10.2.2.2.2.1 (by decide +kernel)), (CWI.fr hI10.2.2.2.2.2.2.2 hF37 hE36 hW hI10.1 (by decide +kernel) (by decide +kernel) (by decide +kernel))⟩
  have hWp42 := hW
  have hY43 : YRL V33 x m0 := YRL.frx hY12 hF37 hE36 hW hI10.1 hI10.2.1 hI10.2.2.2.2.1 (by decide +kernel) (by decide +kernel)
  have hT44 : TXE K32 V33 x m0 := TXE.frx hT13 hF37 hE36 hW hI10.1 hI10.2.1 (by decide +kernel)
  have hA45 : AB V33 x m0 := AB.frx hA14 hF37 hE36 hW hI10.1 hI10.2.1 hI10.2.2.2.2.1 (by decide +kernel) (by decide +kernel) (Int.le_of_eq (vi_fr hF37 hI10.2.1 (hE36.obj (by decide) hI10.2.1) (by decide +kernel)).symm)
  have s46 : tdy V33 x = tdy V2 x := tdy_fr hF37 hE36 hW hI10.1 (by decide +kernel) (by decide +kernel)
  have s47 : wsz V33 x = wsz V2 x := wsz_fr hF37 hE36 hW hI10.1 (by decide +kernel) (by decide +kernel)
  have s48 : csz V33 x = csz V2 x := csz_fr hF37 hE36 hW hI10.1 (by decide +kernel) (by decide +kernel)
  have s49 : dsz V33 x = dsz V2 x := dsz_fr hF37 hE36 hW hI10.1 (by decide +kernel) (by decide +kernel)
  clear hW
  have s50 : vi V33 x 4 = vi V2 x 4 := vi_fr hF37 hI10.1 (hE36.obj (by decide) hI10.1) (by decide +kernel)
  have s51 : vi V33 x 10 = vi V2 x 10 := vi_fr hF37 hI10.1 (hE36.obj (by decide) hI10.1) (by decide +kernel)
  have s52 : vi V33 m0 9 = vi V2 m0 9 := vi_fr hF37 hI10.2.1 (hE36.obj (by decide) hI10.2.1) (by decide +kernel)
  have s53 : vi V33 m0 2 = vi V2 m0 2 := vi_fr hF37 hI10.2.1 (hE36.obj (by decide) hI10.2.1) (by decide +kernel)
  have s54 : vi V33 m0 91 = vi V2 m0 91 := vi_fr hF37 hI10.2.1 (hE36.obj (by decide) hI10.2.1) (by decide +kernel)
  have s55 : vi V33 m0 133 = vi V2 m0 133 := vi_fr hF37 hI10.2.1 (hE36.obj (by decide) hI10.2.1) (by decide +kernel)
  have s56 : vi V33 m0 120 = vi V2 m0 120 := vi_fr hF37 hI10.2.1 (hE36.obj (by decide) hI10.2.1) (by decide +kernel)
  have s57 : vi V33 x 8 = vi V2 x 8 := vi_fr hF37 hI10.1 (hE36.obj (by decide) hI10.1) (by decide +kernel)
  have s58 : vi V33 m0 66 = vi V2 m0 66 := vi_fr hF37 hI10.2.1 (hE36.obj (by decide) hI10.2.1) (by decide +kernel)
  have s59 : vi V33 m0 118 = vi V2 m0 118 := vi_fr hF37 hI10.2.1 (hE36.obj (by decide) hI10.2.1) (by decide +kernel)
  have hS60 : STE V33 x m0 := STE.frx hS29 hF37 hE36 hWp42 hI10.1 hI10.2.1 (by decide +kernel) (by decide +kernel)
  have hK61 : WKE V33 x m0 := WKE.frx hK30 hF37 hE36 hWp42 hI10.1 hI10.2.1 (by decide +kernel) (by decide +kernel)
  have hP62 : PLE V33 x m0 := PLE.frx hP31 hF37 hE36 hWp42 hI10.1 hI10.2.1 (by omega) (by decide +kernel) (by decide +kernel) (by decide +kernel) (by decide +kernel) (by decide +kernel) (by decide +kernel)
  refine LG.pop dL_law_2461 rfl ?_
  refine LG.goto (tgt := 2745) dL_law_2462 (by decide) ?_
  exact LG.widen (le_cs3 rfl) (kk _ _ hI41 (⟨by unfold RLI; omega, hA45, hT44, hY43, hP62, hK61, hS60⟩))

set_option maxHeartbeats 2000000 in
theorem law_case_53 {p : Program} {l : Launch} {e : Env} {s : State} {m : MethodId} {below : List Frame} {meth : Method} {c : Code} {b L : Nat} {xs : Nat → Int32} {D : va_G} {dA : Nat → ClassId} {K : Kmap} {V : Vmap} {cells slots x m0 : Nat} {i : Int} (hI : LI K V x m0) (hR : REL K V x m0) (hL : L ≤ 4096) (h0 : 0 ≤ i) (h8 : i + 8 ≤ L) (hcs : cells + 8 ≤ 600000 ∧ slots + 2704 ≤ 7302250) (kk : ∀ (K1 : Kmap) (V1 : Vmap), LI K1 V1 x m0 → REL K1 V1 x m0 → LG p l e s m below meth c b L xs D dA K1 V1 (cells + 8) (slots + 2704) 2745 [some (.ref b), some (.ref x), some (.ref m0), some (ti i)] []) : LG p l e s m below meth c b L xs D dA K V cells slots 2465 [some (.ref b), some (.ref x), some (.ref m0), some (ti i)] [] := by
  have hR0 := hR.1
  have hA0 := hR.2.1
  have hT0 := hR.2.2.1
  have hY0 := hR.2.2.2.1
  have hP0 := hR.2.2.2.2.1
  have hK0 := hR.2.2.2.2.2.1
  have hS0 := hR.2.2.2.2.2.2
  unfold RLI at hR0
  refine LG.aload_n dL_law_2465 rfl rfl ?_
  refine LG.aload_n dL_law_2466 rfl rfl ?_
  refine LG.iload_n dL_law_2467 rfl rfl ?_
  refine LG.iconst dL_law_2468 ?_
  refine LG.iadd dL_law_2469 ?_
  refine LG.sld (Y := i + 1) dL_law_2470 (by omega) (by omega) hL ?_
  refine LG.aload_n dL_law_2471 rfl rfl ?_
  refine LG.iload_n dL_law_2472 rfl rfl ?_
  refine LG.iconst dL_law_2473 ?_
  refine LG.iadd dL_law_2474 ?_
  refine LG.sld (Y := i + 2) dL_law_2475 (by omega) (by omega) hL ?_
  refine LG.aload_n dL_law_2476 rfl rfl ?_
  refine LG.iload_n dL_law_2477 rfl rfl ?_
  refine LG.iconst dL_law_2478 ?_
  refine LG.iadd dL_law_2479 ?_
  refine LG.sld (Y := i + 3) dL_law_2480 (by omega) (by omega) hL ?_
  refine LG.aload_n dL_law_2481 rfl rfl ?_
  refine LG.iload_n dL_law_2482 rfl rfl ?_
  refine LG.iconst dL_law_2483 ?_
  refine LG.iadd dL_law_2484 ?_
  refine LG.sld (Y := i + 4) dL_law_2485 (by omega) (by omega) hL ?_
  refine LG.nz (tgt := 2494) dL_law_2486 (by decide) dL_law_2489 dL_law_2490 (by decide) dL_law_2493 xv_ir rfl (fun B1 r2 h3 hbB1 => ?_)
  refine LG.useWT (fun hW => ?_)
  refine LG.callV (ci := 10) (N := mX11_report) (As := [ti (xv xs (i + 1)), ti (xv xs (i + 2)), ti (xv xs (i + 3)), ti (B1)]) dL_law_2494 (RX11, TX11, 20) rfl gV_RL_241 hI.1 (t_X11_report hI.1 xv_ir xv_ir xv_ir r2 h3) rfl [] rfl rfl (le_cs hcs rfl) (Nat.le_of_ble_eq_true rfl) (g_is fun X10 K4 V5 r6 h7 hE8 hF9 => ?_)
  have hI13 : LI K4 V5 x m0 := ⟨hE8.obj (by decide) hI.1, hE8.obj (by decide) hI.2.1, (GX.frx hF9 hE8 hI.2.2.1 hW hI.2.1 (by decide +kernel)), (PX0.frx hF9 hE8 hI.2.2.2.1 hW hI.2.1 (by decide +kernel)), (NN.frx 4 3 4 rfl rfl hF9 hE8 hI.2.2.2.2.1 hW hI.1 (by decide +kernel)), (NN.frx 10 9 7 rfl rfl hF9 hE8 hI.2.2.2.2.2.1 hW hI.1 (by decide +kernel)), (PI.frx hI.2.2.2.2.2.2.1 hF9 hE8 hW hI.1 hI.2.2.2.2.1 (by decide +kernel)), (CWI.fr hI.2.2.2.2.2.2.2 hF9 hE8 hW hI.1 (by decide +kernel) (by decide +kernel) (by decide +kernel))⟩
  have hWp14 := hW
  have hY15 : YRL V5 x m0 := YRL.frx hY0 hF9 hE8 hW hI.1 hI.2.1 hI.2.2.2.2.1 (by decide +kernel) (by decide +kernel)
  have hT16 : TXE K4 V5 x m0 := TXE.frx hT0 hF9 hE8 hW hI.1 hI.2.1 (by decide +kernel)
  have hA17 : AB V5 x m0 := AB.frx hA0 hF9 hE8 hW hI.1 hI.2.1 hI.2.2.2.2.1 (by decide +kernel) (by decide +kernel) (Int.le_of_eq (vi_fr hF9 hI.2.1 (hE8.obj (by decide) hI.2.1) (by decide +kernel)).symm)
  have s18 : tdy V5 x = tdy V x := tdy_fr hF9 hE8 hW hI.1 (by decide +kernel) (by decide +kernel)
  have s19 : wsz V5 x = wsz V x := wsz_fr hF9 hE8 hW hI.1 (by decide +kernel) (by decide +kernel)
  have s20 : csz V5 x = csz V x := csz_fr hF9 hE8 hW hI.1 (by decide +kernel) (by decide +kernel)
  have s21 : dsz V5 x = dsz V x := dsz_fr hF9 hE8 hW hI.1 (by decide +kernel) (by decide +kernel)
  clear hW
  have s22 : vi V5 x 4 = vi V x 4 := vi_fr hF9 hI.1 (hE8.obj (by decide) hI.1) (by decide +kernel)
  have s23 : vi V5 x 10 = vi V x 10 := vi_fr hF9 hI.1 (hE8.obj (by decide) hI.1) (by decide +kernel)
  have s24 : vi V5 m0 9 = vi V m0 9 := vi_fr hF9 hI.2.1 (hE8.obj (by decide) hI.2.1) (by decide +kernel)
  have s25 : vi V5 m0 2 = vi V m0 2 := vi_fr hF9 hI.2.1 (hE8.obj (by decide) hI.2.1) (by decide +kernel)
  have s26 : vi V5 m0 91 = vi V m0 91 := vi_fr hF9 hI.2.1 (hE8.obj (by decide) hI.2.1) (by decide +kernel)
  have s27 : vi V5 m0 133 = vi V m0 133 := vi_fr hF9 hI.2.1 (hE8.obj (by decide) hI.2.1) (by decide +kernel)
  have s28 : vi V5 m0 120 = vi V m0 120 := vi_fr hF9 hI.2.1 (hE8.obj (by decide) hI.2.1) (by decide +kernel)
  have s29 : vi V5 x 8 = vi V x 8 := vi_fr hF9 hI.1 (hE8.obj (by decide) hI.1) (by decide +kernel)
  have s30 : vi V5 m0 66 = vi V m0 66 := vi_fr hF9 hI.2.1 (hE8.obj (by decide) hI.2.1) (by decide +kernel)
  have s31 : vi V5 m0 118 = vi V m0 118 := vi_fr hF9 hI.2.1 (hE8.obj (by decide) hI.2.1) (by decide +kernel)
  have hS32 : STE V5 x m0 := STE.frx hS0 hF9 hE8 hWp14 hI.1 hI.2.1 (by decide +kernel) (by decide +kernel)
  have hK33 : WKE V5 x m0 := WKE.frx hK0 hF9 hE8 hWp14 hI.1 hI.2.1 (by decide +kernel) (by decide +kernel)
  have hP34 : PLE V5 x m0 := PLE.frx hP0 hF9 hE8 hWp14 hI.1 hI.2.1 (by omega) (by decide +kernel) (by decide +kernel) (by decide +kernel) (by decide +kernel) (by decide +kernel) (by decide +kernel)
  refine LG.pop dL_law_2497 rfl ?_
  refine LG.aload_n dL_law_2498 rfl rfl ?_
  refine LG.aload_n dL_law_2499 rfl rfl ?_
  refine LG.iload_n dL_law_2500 rfl rfl ?_
  refine LG.iconst dL_law_2501 ?_
  refine LG.iadd dL_law_2502 ?_
  refine LG.sld (Y := i + 1) dL_law_2503 (by omega) (by omega) hL ?_
  refine LG.aload_n dL_law_2504 rfl rfl ?_
  refine LG.iload_n dL_law_2505 rfl rfl ?_
  refine LG.iconst dL_law_2506 ?_
  refine LG.iadd dL_law_2507 ?_
  refine LG.sld (Y := i + 2) dL_law_2508 (by omega) (by omega) hL ?_
  refine LG.aload_n dL_law_2509 rfl rfl ?_
  refine LG.iload_n dL_law_2510 rfl rfl ?_
  refine LG.iconst dL_law_2511 ?_
  refine LG.iadd dL_law_2512 ?_
  refine LG.sld (Y := i + 3) dL_law_2513 (by omega) (by omega) hL ?_
  refine LG.aload_n dL_law_2514 rfl rfl ?_
  refine LG.iload_n dL_law_2515 rfl rfl ?_
  refine LG.iconst dL_law_2516 ?_
  refine LG.iadd dL_law_2517 ?_
  refine LG.sld (Y := i + 4) dL_law_2518 (by omega) (by omega) hL ?_
  refine LG.nz (tgt := 2527) dL_law_2519 (by decide) dL_law_2522 dL_law_2523 (by decide) dL_law_2526 xv_ir rfl (fun B35 r36 h37 hbB35 => ?_)
  refine LG.useWT (fun hW => ?_)
  refine LG.callV (ci := 11) (N := mX12_report) (As := [ti (xv xs (i + 1)), ti (xv xs (i + 2)), ti (xv xs (i + 3)), ti (B35)]) dL_law_2527 (RX12, TX12, 151) rfl gV_RL_245 hI13.2.1 (t_X12_report hI13.2.1 xv_ir xv_ir xv_ir r36 h37) rfl [] rfl rfl (le_csb hcs rfl) (Nat.le_of_ble_eq_true rfl) (g_is fun X44 K38 V39 r40 h41 hE42 hF43 => ?_)
  have hI47 : LI K38 V39 x m0 := ⟨hE42.obj (by decide) hI13.1, hE42.obj (by decide) hI13.2.1, (GX.frx hF43 hE42 hI13.2.2.1 hW hI13.2.1 (by decide +kernel)), (PX0.frx hF43 hE42 hI13.2.2.2.1 hW hI13.2.1 (by decide +kernel)), (NN.frx 4 3 4 rfl rfl hF43 hE42 hI13.2.2.2.2.1 hW hI13.1 (by decide +kernel)), (NN.frx 10 9 7 rfl rfl hF43 hE42 hI13.2.2.2.2.2.1 hW hI13.1 (by decide +kernel)), (PI.frx hI13.2.2.2.2.2.2.1 hF43 hE42 hW hI13.1 hI13.2.2.2.2.1 (by decide +kernel)), (CWI.fr hI13.2.2.2.2.2.2.2 hF43 hE42 hW hI13.1 (by decide +kernel) (by decide +kernel) (by decide +kernel))⟩
  have hWp48 := hW
  have hY49 : YRL V39 x m0 := YRL.frx hY15 hF43 hE42 hW hI13.1 hI13.2.1 hI13.2.2.2.2.1 (by decide +kernel) (by decide +kernel)
  have hT50 : TXE K38 V39 x m0 := TXE.frx hT16 hF43 hE42 hW hI13.1 hI13.2.1 (by decide +kernel)
  have hA51 : AB V39 x m0 := AB.frx hA17 hF43 hE42 hW hI13.1 hI13.2.1 hI13.2.2.2.2.1 (by decide +kernel) (by decide +kernel) (Int.le_of_eq (vi_fr hF43 hI13.2.1 (hE42.obj (by decide) hI13.2.1) (by decide +kernel)).symm)
  have s52 : tdy V39 x = tdy V5 x := tdy_fr hF43 hE42 hW hI13.1 (by decide +kernel) (by decide +kernel)
  have s53 : wsz V39 x = wsz V5 x := wsz_fr hF43 hE42 hW hI13.1 (by decide +kernel) (by decide +kernel)
  have s54 : csz V39 x = csz V5 x := csz_fr hF43 hE42 hW hI13.1 (by decide +kernel) (by decide +kernel)
  have s55 : dsz V39 x = dsz V5 x := dsz_fr hF43 hE42 hW hI13.1 (by decide +kernel) (by decide +kernel)
  clear hW
  have s56 : vi V39 x 4 = vi V5 x 4 := vi_fr hF43 hI13.1 (hE42.obj (by decide) hI13.1) (by decide +kernel)
  have s57 : vi V39 x 10 = vi V5 x 10 := vi_fr hF43 hI13.1 (hE42.obj (by decide) hI13.1) (by decide +kernel)
  have s58 : vi V39 m0 9 = vi V5 m0 9 := vi_fr hF43 hI13.2.1 (hE42.obj (by decide) hI13.2.1) (by decide +kernel)
  have s59 : vi V39 m0 2 = vi V5 m0 2 := vi_fr hF43 hI13.2.1 (hE42.obj (by decide) hI13.2.1) (by decide +kernel)
  have s60 : vi V39 m0 91 = vi V5 m0 91 := vi_fr hF43 hI13.2.1 (hE42.obj (by decide) hI13.2.1) (by decide +kernel)
  have s61 : vi V39 m0 133 = vi V5 m0 133 := vi_fr hF43 hI13.2.1 (hE42.obj (by decide) hI13.2.1) (by decide +kernel)
  have s62 : vi V39 m0 120 = vi V5 m0 120 := vi_fr hF43 hI13.2.1 (hE42.obj (by decide) hI13.2.1) (by decide +kernel)
  have s63 : vi V39 x 8 = vi V5 x 8 := vi_fr hF43 hI13.1 (hE42.obj (by decide) hI13.1) (by decide +kernel)
  have s64 : vi V39 m0 66 = vi V5 m0 66 := vi_fr hF43 hI13.2.1 (hE42.obj (by decide) hI13.2.1) (by decide +kernel)
  have s65 : vi V39 m0 118 = vi V5 m0 118 := vi_fr hF43 hI13.2.1 (hE42.obj (by decide) hI13.2.1) (by decide +kernel)
  have hS66 : STE V39 x m0 := STE.frx hS32 hF43 hE42 hWp48 hI13.1 hI13.2.1 (by decide +kernel) (by decide +kernel)
  have hK67 : WKE V39 x m0 := WKE.frx hK33 hF43 hE42 hWp48 hI13.1 hI13.2.1 (by decide +kernel) (by decide +kernel)
  have hP68 : PLE V39 x m0 := PLE.frx hP34 hF43 hE42 hWp48 hI13.1 hI13.2.1 (by omega) (by decide +kernel) (by decide +kernel) (by decide +kernel) (by decide +kernel) (by decide +kernel) (by decide +kernel)
  refine LG.pop dL_law_2530 rfl ?_
  refine LG.goto (tgt := 2745) dL_law_2531 (by decide) ?_
  exact LG.widen (le_cs3 rfl) (kk _ _ hI47 (⟨by unfold RLI; omega, hA51, hT50, hY49, hP68, hK67, hS66⟩))

set_option maxHeartbeats 2000000 in
theorem law_case_54 {p : Program} {l : Launch} {e : Env} {s : State} {m : MethodId} {below : List Frame} {meth : Method} {c : Code} {b L : Nat} {xs : Nat → Int32} {D : va_G} {dA : Nat → ClassId} {K : Kmap} {V : Vmap} {cells slots x m0 : Nat} {i : Int} (hI : LI K V x m0) (hR : REL K V x m0) (hL : L ≤ 4096) (h0 : 0 ≤ i) (h8 : i + 8 ≤ L) (hcs : cells + 8 ≤ 600000 ∧ slots + 2704 ≤ 7302250) (kk : ∀ (K1 : Kmap) (V1 : Vmap), LI K1 V1 x m0 → REL K1 V1 x m0 → LG p l e s m below meth c b L xs D dA K1 V1 (cells + 8) (slots + 2704) 2745 [some (.ref b), some (.ref x), some (.ref m0), some (ti i)] []) : LG p l e s m below meth c b L xs D dA K V cells slots 2534 [some (.ref b), some (.ref x), some (.ref m0), some (ti i)] [] := by
  have hR0 := hR.1
  have hA0 := hR.2.1
  have hT0 := hR.2.2.1
  have hY0 := hR.2.2.2.1
  have hP0 := hR.2.2.2.2.1
  have hK0 := hR.2.2.2.2.2.1
  have hS0 := hR.2.2.2.2.2.2
  unfold RLI at hR0
  refine LG.aload_n dL_law_2534 rfl rfl ?_
  refine LG.aload_n dL_law_2535 rfl rfl ?_
  refine LG.iload_n dL_law_2536 rfl rfl ?_
  refine LG.iconst dL_law_2537 ?_
  refine LG.iadd dL_law_2538 ?_
  refine LG.sld (Y := i + 1) dL_law_2539 (by omega) (by omega) hL ?_
  refine LG.aload_n dL_law_2540 rfl rfl ?_
  refine LG.iload_n dL_law_2541 rfl rfl ?_
  refine LG.iconst dL_law_2542 ?_
  refine LG.iadd dL_law_2543 ?_
  refine LG.sld (Y := i + 2) dL_law_2544 (by omega) (by omega) hL ?_
  refine LG.aload_n dL_law_2545 rfl rfl ?_
  refine LG.iload_n dL_law_2546 rfl rfl ?_
  refine LG.iconst dL_law_2547 ?_
  refine LG.iadd dL_law_2548 ?_
  refine LG.sld (Y := i + 3) dL_law_2549 (by omega) (by omega) hL ?_
  refine LG.useWT (fun hW => ?_)
  refine LG.callV (ci := 10) (N := mX11_known) (As := [ti (xv xs (i + 1)), ti (xv xs (i + 2)), ti (xv xs (i + 3))]) dL_law_2550 (RX11, TX11, 20) rfl gV_RL_246 hI.1 (t_X11_known hI.1 xv_ir xv_ir xv_ir) rfl [] rfl rfl (le_cs hcs rfl) (Nat.le_of_ble_eq_true rfl) (g_ip fun X7 K1 V2 r3 h4 hE5 hF6 => ?_)
  have hI10 : LI K1 V2 x m0 := ⟨hE5.obj (by decide) hI.1, hE5.obj (by decide) hI.2.1, (GX.frx hF6 hE5 hI.2.2.1 hW hI.2.1 (by decide +kernel)), (PX0.frx hF6 hE5 hI.2.2.2.1 hW hI.2.1 (by decide +kernel)), (NN.frx 4 3 4 rfl rfl hF6 hE5 hI.2.2.2.2.1 hW hI.1 (by decide +kernel)), (NN.frx 10 9 7 rfl rfl hF6 hE5 hI.2.2.2.2.2.1 hW hI.1 (by decide +kernel)), (PI.frx hI.2.2.2.2.2.2.1 hF6 hE5 hW hI.1 hI.2.2.2.2.1 (by decide +kernel)), (CWI.fr hI.2.2.2.2.2.2.2 hF6 hE5 hW hI.1 (by decide +kernel) (by decide +kernel) (by decide +kernel))⟩
  have hWp11 := hW
  have hY12 : YRL V2 x m0 := YRL.frx hY0 hF6 hE5 hW hI.1 hI.2.1 hI.2.2.2.2.1 (by decide +kernel) (by decide +kernel)
  have hT13 : TXE K1 V2 x m0 := TXE.frx hT0 hF6 hE5 hW hI.1 hI.2.1 (by decide +kernel)
  have hA14 : AB V2 x m0 := AB.frx hA0 hF6 hE5 hW hI.1 hI.2.1 hI.2.2.2.2.1 (by decide +kernel) (by decide +kernel) (Int.le_of_eq (vi_fr hF6 hI.2.1 (hE5.obj (by decide) hI.2.1) (by decide +kernel)).symm)
  have s15 : tdy V2 x = tdy V x := tdy_fr hF6 hE5 hW hI.1 (by decide +kernel) (by decide +kernel)
  have s16 : wsz V2 x = wsz V x := wsz_fr hF6 hE5 hW hI.1 (by decide +kernel) (by decide +kernel)
  have s17 : csz V2 x = csz V x := csz_fr hF6 hE5 hW hI.1 (by decide +kernel) (by decide +kernel)
  have s18 : dsz V2 x = dsz V x := dsz_fr hF6 hE5 hW hI.1 (by decide +kernel) (by decide +kernel)
  clear hW
  have s19 : vi V2 x 4 = vi V x 4 := vi_fr hF6 hI.1 (hE5.obj (by decide) hI.1) (by decide +kernel)
  have s20 : vi V2 x 10 = vi V x 10 := vi_fr hF6 hI.1 (hE5.obj (by decide) hI.1) (by decide +kernel)
  have s21 : vi V2 m0 9 = vi V m0 9 := vi_fr hF6 hI.2.1 (hE5.obj (by decide) hI.2.1) (by decide +kernel)
  have s22 : vi V2 m0 2 = vi V m0 2 := vi_fr hF6 hI.2.1 (hE5.obj (by decide) hI.2.1) (by decide +kernel)
  have s23 : vi V2 m0 91 = vi V m0 91 := vi_fr hF6 hI.2.1 (hE5.obj (by decide) hI.2.1) (by decide +kernel)
  have s24 : vi V2 m0 133 = vi V m0 133 := vi_fr hF6 hI.2.1 (hE5.obj (by decide) hI.2.1) (by decide +kernel)
  have s25 : vi V2 m0 120 = vi V m0 120 := vi_fr hF6 hI.2.1 (hE5.obj (by decide) hI.2.1) (by decide +kernel)
  have s26 : vi V2 x 8 = vi V x 8 := vi_fr hF6 hI.1 (hE5.obj (by decide) hI.1) (by decide +kernel)
  have s27 : vi V2 m0 66 = vi V m0 66 := vi_fr hF6 hI.2.1 (hE5.obj (by decide) hI.2.1) (by decide +kernel)
  have s28 : vi V2 m0 118 = vi V m0 118 := vi_fr hF6 hI.2.1 (hE5.obj (by decide) hI.2.1) (by decide +kernel)
  have hS29 : STE V2 x m0 := STE.frx hS0 hF6 hE5 hWp11 hI.1 hI.2.1 (by decide +kernel) (by decide +kernel)
  have hK30 : WKE V2 x m0 := WKE.frx hK0 hF6 hE5 hWp11 hI.1 hI.2.1 (by decide +kernel) (by decide +kernel)
  have hP31 : PLE V2 x m0 := PLE.frx hP0 hF6 hE5 hWp11 hI.1 hI.2.1 (by omega) (by decide +kernel) (by decide +kernel) (by decide +kernel) (by decide +kernel) (by decide +kernel) (by decide +kernel)
  refine LG.pop dL_law_2553 rfl ?_
  refine LG.aload_n dL_law_2554 rfl rfl ?_
  refine LG.aload_n dL_law_2555 rfl rfl ?_
  refine LG.iload_n dL_law_2556 rfl rfl ?_
  refine LG.iconst dL_law_2557 ?_
  refine LG.iadd dL_law_2558 ?_
  refine LG.sld (Y := i + 1) dL_law_2559 (by omega) (by omega) hL ?_
  refine LG.aload_n dL_law_2560 rfl rfl ?_
  refine LG.iload_n dL_law_2561 rfl rfl ?_
  refine LG.iconst dL_law_2562 ?_
  refine LG.iadd dL_law_2563 ?_
  refine LG.sld (Y := i + 2) dL_law_2564 (by omega) (by omega) hL ?_
  refine LG.aload_n dL_law_2565 rfl rfl ?_
  refine LG.iload_n dL_law_2566 rfl rfl ?_
  refine LG.iconst dL_law_2567 ?_
  refine LG.iadd dL_law_2568 ?_
  refine LG.sld (Y := i + 3) dL_law_2569 (by omega) (by omega) hL ?_
  refine LG.useWT (fun hW => ?_)
  refine LG.callV (ci := 11) (N := mX12_known) (As := [ti (xv xs (i + 1)), ti (xv xs (i + 2)), ti (xv xs (i + 3))]) dL_law_2570 (RX12, TX12, 151) rfl gV_RL_249 hI10.2.1 (t_X12_known hI10.2.1 xv_ir xv_ir xv_ir) rfl [] rfl rfl (le_csb hcs rfl) (Nat.le_of_ble_eq_true rfl) (g_ip fun X38 K32 V33 r34 h35 hE36 hF37 => ?_)
  have hI41 : LI K32 V33 x m0 := ⟨hE36.obj (by decide) hI10.1, hE36.obj (by decide) hI10.2.1, (GX.frx hF37 hE36 hI10.2.2.1 hW hI10.2.1 (by decide +kernel)), (PX0.frx hF37 hE36 hI10.2.2.2.1 hW hI10.2.1 (by decide +kernel)), (NN.frx 4 3 4 rfl rfl hF37 hE36 hI10.2.2.2.2.1 hW hI10.1 (by decide +kernel)), (NN.frx 10 9 7 rfl rfl hF37 hE36 hI10.2.2.2.2.2.1 hW hI10.1 (by decide +kernel)), (PI.frx hI10.2.2.2.2.2.2.1 hF37 hE36 hW hI10.1 hI10.2.2.2.2.1 (by decide +kernel)), (CWI.fr hI10.2.2.2.2.2.2.2 hF37 hE36 hW hI10.1 (by decide +kernel) (by decide +kernel) (by decide +kernel))⟩
  have hWp42 := hW
  have hY43 : YRL V33 x m0 := YRL.frx hY12 hF37 hE36 hW hI10.1 hI10.2.1 hI10.2.2.2.2.1 (by decide +kernel) (by decide +kernel)
  have hT44 : TXE K32 V33 x m0 := TXE.frx hT13 hF37 hE36 hW hI10.1 hI10.2.1 (by decide +kernel)
  have hA45 : AB V33 x m0 := AB.frx hA14 hF37 hE36 hW hI10.1 hI10.2.1 hI10.2.2.2.2.1 (by decide +kernel) (by decide +kernel) (Int.le_of_eq (vi_fr hF37 hI10.2.1 (hE36.obj (by decide) hI10.2.1) (by decide +kernel)).symm)
  have s46 : tdy V33 x = tdy V2 x := tdy_fr hF37 hE36 hW hI10.1 (by decide +kernel) (by decide +kernel)
  have s47 : wsz V33 x = wsz V2 x := wsz_fr hF37 hE36 hW hI10.1 (by decide +kernel) (by decide +kernel)
  have s48 : csz V33 x = csz V2 x := csz_fr hF37 hE36 hW hI10.1 (by decide +kernel) (by decide +kernel)
  have s49 : dsz V33 x = dsz V2 x := dsz_fr hF37 hE36 hW hI10.1 (by decide +kernel) (by decide +kernel)
  clear hW
  have s50 : vi V33 x 4 = vi V2 x 4 := vi_fr hF37 hI10.1 (hE36.obj (by decide) hI10.1) (by decide +kernel)
  have s51 : vi V33 x 10 = vi V2 x 10 := vi_fr hF37 hI10.1 (hE36.obj (by decide) hI10.1) (by decide +kernel)
  have s52 : vi V33 m0 9 = vi V2 m0 9 := vi_fr hF37 hI10.2.1 (hE36.obj (by decide) hI10.2.1) (by decide +kernel)
  have s53 : vi V33 m0 2 = vi V2 m0 2 := vi_fr hF37 hI10.2.1 (hE36.obj (by decide) hI10.2.1) (by decide +kernel)
  have s54 : vi V33 m0 91 = vi V2 m0 91 := vi_fr hF37 hI10.2.1 (hE36.obj (by decide) hI10.2.1) (by decide +kernel)
  have s55 : vi V33 m0 133 = vi V2 m0 133 := vi_fr hF37 hI10.2.1 (hE36.obj (by decide) hI10.2.1) (by decide +kernel)
  have s56 : vi V33 m0 120 = vi V2 m0 120 := vi_fr hF37 hI10.2.1 (hE36.obj (by decide) hI10.2.1) (by decide +kernel)
  have s57 : vi V33 x 8 = vi V2 x 8 := vi_fr hF37 hI10.1 (hE36.obj (by decide) hI10.1) (by decide +kernel)
  have s58 : vi V33 m0 66 = vi V2 m0 66 := vi_fr hF37 hI10.2.1 (hE36.obj (by decide) hI10.2.1) (by decide +kernel)
  have s59 : vi V33 m0 118 = vi V2 m0 118 := vi_fr hF37 hI10.2.1 (hE36.obj (by decide) hI10.2.1) (by decide +kernel)
  have hS60 : STE V33 x m0 := STE.frx hS29 hF37 hE36 hWp42 hI10.1 hI10.2.1 (by decide +kernel) (by decide +kernel)
  have hK61 : WKE V33 x m0 := WKE.frx hK30 hF37 hE36 hWp42 hI10.1 hI10.2.1 (by decide +kernel) (by decide +kernel)
  have hP62 : PLE V33 x m0 := PLE.frx hP31 hF37 hE36 hWp42 hI10.1 hI10.2.1 (by omega) (by decide +kernel) (by decide +kernel) (by decide +kernel) (by decide +kernel) (by decide +kernel) (by decide +kernel)
  refine LG.pop dL_law_2573 rfl ?_
  refine LG.goto (tgt := 2745) dL_law_2574 (by decide) ?_
  exact LG.widen (le_cs3 rfl) (kk _ _ hI41 (⟨by unfold RLI; omega, hA45, hT44, hY43, hP62, hK61, hS60⟩))

set_option maxHeartbeats 2000000 in
theorem law_case_55 {p : Program} {l : Launch} {e : Env} {s : State} {m : MethodId} {below : List Frame} {meth : Method} {c : Code} {b L : Nat} {xs : Nat → Int32} {D : va_G} {dA : Nat → ClassId} {K : Kmap} {V : Vmap} {cells slots x m0 : Nat} {i : Int} (hI : LI K V x m0) (hR : REL K V x m0) (hL : L ≤ 4096) (h0 : 0 ≤ i) (h8 : i + 8 ≤ L) (hcs : cells + 8 ≤ 600000 ∧ slots + 2704 ≤ 7302250) (kk : ∀ (K1 : Kmap) (V1 : Vmap), LI K1 V1 x m0 → REL K1 V1 x m0 → LG p l e s m below meth c b L xs D dA K1 V1 (cells + 8) (slots + 2704) 2745 [some (.ref b), some (.ref x), some (.ref m0), some (ti i)] []) : LG p l e s m below meth c b L xs D dA K V cells slots 2577 [some (.ref b), some (.ref x), some (.ref m0), some (ti i)] [] := by
  have hR0 := hR.1
  have hA0 := hR.2.1
  have hT0 := hR.2.2.1
  have hY0 := hR.2.2.2.1
  have hP0 := hR.2.2.2.2.1
  have hK0 := hR.2.2.2.2.2.1
  have hS0 := hR.2.2.2.2.2.2
  unfold RLI at hR0
  refine LG.aload_n dL_law_2577 rfl rfl ?_
  refine LG.aload_n dL_law_2578 rfl rfl ?_
  refine LG.iload_n dL_law_2579 rfl rfl ?_
  refine LG.iconst dL_law_2580 ?_
  refine LG.iadd dL_law_2581 ?_
  refine LG.sld (Y := i + 1) dL_law_2582 (by omega) (by omega) hL ?_
  refine LG.useWT (fun hW => ?_)
  refine LG.callV (ci := 10) (N := mX11_check) (As := [ti (xv xs (i + 1))]) dL_law_2583 (RX11, TX11, 20) rfl gV_RL_250 hI.1 (t_X11_check hI.1 xv_ir) rfl [] rfl rfl (le_cs hcs rfl) (Nat.le_of_ble_eq_true rfl) (g_is fun X7 K1 V2 r3 h4 hE5 hF6 => ?_)
  have hI10 : LI K1 V2 x m0 := ⟨hE5.obj (by decide) hI.1, hE5.obj (by decide) hI.2.1, (GX.frx hF6 hE5 hI.2.2.1 hW hI.2.1 (by decide +kernel)), (PX0.frx hF6 hE5 hI.2.2.2.1 hW hI.2.1 (by decide +kernel)), (NN.frx 4 3 4 rfl rfl hF6 hE5 hI.2.2.2.2.1 hW hI.1 (by decide +kernel)), (NN.frx 10 9 7 rfl rfl hF6 hE5 hI.2.2.2.2.2.1 hW hI.1 (by decide +kernel)), (PI.frx hI.2.2.2.2.2.2.1 hF6 hE5 hW hI.1 hI.2.2.2.2.1 (by decide +kernel)), (CWI.fr hI.2.2.2.2.2.2.2 hF6 hE5 hW hI.1 (by decide +kernel) (by decide +kernel) (by decide +kernel))⟩
  have hWp11 := hW
  have hY12 : YRL V2 x m0 := YRL.frx hY0 hF6 hE5 hW hI.1 hI.2.1 hI.2.2.2.2.1 (by decide +kernel) (by decide +kernel)
  have hWt13 := hW
  have hA14 : AB V2 x m0 := AB.frx hA0 hF6 hE5 hW hI.1 hI.2.1 hI.2.2.2.2.1 (by decide +kernel) (by decide +kernel) (Int.le_of_eq (vi_fr hF6 hI.2.1 (hE5.obj (by decide) hI.2.1) (by decide +kernel)).symm)
  have s15 : tdy V2 x = tdy V x := tdy_fr hF6 hE5 hW hI.1 (by decide +kernel) (by decide +kernel)
  have s16 : wsz V2 x = wsz V x := wsz_fr hF6 hE5 hW hI.1 (by decide +kernel) (by decide +kernel)
  have s17 : csz V2 x = csz V x := csz_fr hF6 hE5 hW hI.1 (by decide +kernel) (by decide +kernel)
  have s18 : dsz V2 x = dsz V x := dsz_fr hF6 hE5 hW hI.1 (by decide +kernel) (by decide +kernel)
  clear hW
  have s19 : vi V2 x 4 = vi V x 4 := vi_fr hF6 hI.1 (hE5.obj (by decide) hI.1) (by decide +kernel)
  have s20 : vi V2 x 10 = vi V x 10 := vi_fr hF6 hI.1 (hE5.obj (by decide) hI.1) (by decide +kernel)
  have s21 : vi V2 m0 9 = vi V m0 9 := vi_fr hF6 hI.2.1 (hE5.obj (by decide) hI.2.1) (by decide +kernel)
  have s22 : vi V2 m0 2 = vi V m0 2 := vi_fr hF6 hI.2.1 (hE5.obj (by decide) hI.2.1) (by decide +kernel)
  have s23 : vi V2 m0 91 = vi V m0 91 := vi_fr hF6 hI.2.1 (hE5.obj (by decide) hI.2.1) (by decide +kernel)
  have s24 : vi V2 m0 133 = vi V m0 133 := vi_fr hF6 hI.2.1 (hE5.obj (by decide) hI.2.1) (by decide +kernel)
  have s25 : vi V2 m0 120 = vi V m0 120 := vi_fr hF6 hI.2.1 (hE5.obj (by decide) hI.2.1) (by decide +kernel)
  have s26 : vi V2 x 8 = vi V x 8 := vi_fr hF6 hI.1 (hE5.obj (by decide) hI.1) (by decide +kernel)
  have s27 : vi V2 m0 66 = vi V m0 66 := vi_fr hF6 hI.2.1 (hE5.obj (by decide) hI.2.1) (by decide +kernel)
  have s28 : vi V2 m0 118 = vi V m0 118 := vi_fr hF6 hI.2.1 (hE5.obj (by decide) hI.2.1) (by decide +kernel)
  have hS29 : STE V2 x m0 := STE.frx hS0 hF6 hE5 hWp11 hI.1 hI.2.1 (by decide +kernel) (by decide +kernel)
  have hK30 : WKE V2 x m0 := WKE.frx hK0 hF6 hE5 hWp11 hI.1 hI.2.1 (by decide +kernel) (by decide +kernel)
  have hP31 : PLE V2 x m0 := PLE.frx hP0 hF6 hE5 hWp11 hI.1 hI.2.1 (by omega) (by decide +kernel) (by decide +kernel) (by decide +kernel) (by decide +kernel) (by decide +kernel) (by decide +kernel)
  refine LG.pop dL_law_2586 rfl ?_
  refine LG.aload_n dL_law_2587 rfl rfl ?_
  refine LG.aload_n dL_law_2588 rfl rfl ?_
  refine LG.iload_n dL_law_2589 rfl rfl ?_
  refine LG.iconst dL_law_2590 ?_
  refine LG.iadd dL_law_2591 ?_
  refine LG.sld (Y := i + 1) dL_law_2592 (by omega) (by omega) hL ?_
  refine LG.useWT (fun hW => ?_)
  refine LG.callV (ci := 11) (N := mX12_check) (As := [ti (xv xs (i + 1))]) dL_law_2593 (RX12, TX12, 151) rfl gV_RL_253 hI10.2.1 (t_X12_check hI10.2.1 xv_ir) rfl [] rfl rfl (le_csb hcs rfl) (Nat.le_of_ble_eq_true rfl) (g_is fun X38 K32 V33 r34 h35 hE36 hF37 => ?_)
  have hI41 : LI K32 V33 x m0 := ⟨hE36.obj (by decide) hI10.1, hE36.obj (by decide) hI10.2.1, (GX.frx hF37 hE36 hI10.2.2.1 hW hI10.2.1 (by decide +kernel)), (PX0.frx hF37 hE36 hI10.2.2.2.1 hW hI10.2.1 (by decide +kernel)), (NN.frx 4 3 4 rfl rfl hF37 hE36 hI10.2.2.2.2.1 hW hI10.1 (by decide +kernel)), (NN.frx 10 9 7 rfl rfl hF37 hE36 hI10.2.2.2.2.2.1 hW hI10.1 (by decide +kernel)), (PI.frx hI10.2.2.2.2.2.2.1 hF37 hE36 hW hI10.1 hI10.2.2.2.2.1 (by decide +kernel)), (CWI.fr hI10.2.2.2.2.2.2.2 hF37 hE36 hW hI10.1 (by decide +kernel) (by decide +kernel) (by decide +kernel))⟩
  have hWp42 := hW
  have hY43 : YRL V33 x m0 := YRL.frx hY12 hF37 hE36 hW hI10.1 hI10.2.1 hI10.2.2.2.2.1 (by decide +kernel) (by decide +kernel)
  have hWt44 := hW
  have hA45 : AB V33 x m0 := AB.frx hA14 hF37 hE36 hW hI10.1 hI10.2.1 hI10.2.2.2.2.1 (by decide +kernel) (by decide +kernel) (Int.le_of_eq (vi_fr hF37 hI10.2.1 (hE36.obj (by decide) hI10.2.1) (by decide +kernel)).symm)
  have s46 : tdy V33 x = tdy V2 x := tdy_fr hF37 hE36 hW hI10.1 (by decide +kernel) (by decide +kernel)
  have s47 : wsz V33 x = wsz V2 x := wsz_fr hF37 hE36 hW hI10.1 (by decide +kernel) (by decide +kernel)
  have s48 : csz V33 x = csz V2 x := csz_fr hF37 hE36 hW hI10.1 (by decide +kernel) (by decide +kernel)
  have s49 : dsz V33 x = dsz V2 x := dsz_fr hF37 hE36 hW hI10.1 (by decide +kernel) (by decide +kernel)
  clear hW
  have s50 : vi V33 x 4 = vi V2 x 4 := vi_fr hF37 hI10.1 (hE36.obj (by decide) hI10.1) (by decide +kernel)
  have s51 : vi V33 x 10 = vi V2 x 10 := vi_fr hF37 hI10.1 (hE36.obj (by decide) hI10.1) (by decide +kernel)
  have s52 : vi V33 m0 9 = vi V2 m0 9 := vi_fr hF37 hI10.2.1 (hE36.obj (by decide) hI10.2.1) (by decide +kernel)
  have s53 : vi V33 m0 2 = vi V2 m0 2 := vi_fr hF37 hI10.2.1 (hE36.obj (by decide) hI10.2.1) (by decide +kernel)
  have s54 : vi V33 m0 91 = vi V2 m0 91 := vi_fr hF37 hI10.2.1 (hE36.obj (by decide) hI10.2.1) (by decide +kernel)
  have s55 : vi V33 m0 133 = vi V2 m0 133 := vi_fr hF37 hI10.2.1 (hE36.obj (by decide) hI10.2.1) (by decide +kernel)
  have s56 : vi V33 m0 120 = vi V2 m0 120 := vi_fr hF37 hI10.2.1 (hE36.obj (by decide) hI10.2.1) (by decide +kernel)
  have s57 : vi V33 x 8 = vi V2 x 8 := vi_fr hF37 hI10.1 (hE36.obj (by decide) hI10.1) (by decide +kernel)
  have s58 : vi V33 m0 66 = vi V2 m0 66 := vi_fr hF37 hI10.2.1 (hE36.obj (by decide) hI10.2.1) (by decide +kernel)
  have s59 : vi V33 m0 118 = vi V2 m0 118 := vi_fr hF37 hI10.2.1 (hE36.obj (by decide) hI10.2.1) (by decide +kernel)
  have hS60 : STE V33 x m0 := STE.frx hS29 hF37 hE36 hWp42 hI10.1 hI10.2.1 (by decide +kernel) (by decide +kernel)
  have hK61 : WKE V33 x m0 := WKE.frx hK30 hF37 hE36 hWp42 hI10.1 hI10.2.1 (by decide +kernel) (by decide +kernel)
  have hP62 : PLE V33 x m0 := PLE.frx hP31 hF37 hE36 hWp42 hI10.1 hI10.2.1 (by omega) (by decide +kernel) (by decide +kernel) (by decide +kernel) (by decide +kernel) (by decide +kernel) (by decide +kernel)
  have hKt63 := TXE.check hT0 hI.1 hI.2.1 hWt13 hWt44 hE5 hF6 hE36 hF37 h4.2 h35.2 (by decide +kernel) (by decide +kernel) (by decide +kernel) (by decide +kernel) (by decide +kernel) (by decide +kernel) (by decide +kernel) (by decide +kernel)
  refine LG.pop dL_law_2596 rfl ?_
  refine LG.goto (tgt := 2745) dL_law_2597 (by decide) ?_
  exact LG.widen (le_cs3 rfl) (kk _ _ hI41 (⟨by unfold RLI; omega, hA45, hKt63, hY43, hP62, hK61, hS60⟩))

set_option maxHeartbeats 2000000 in
theorem law_case_56 {p : Program} {l : Launch} {e : Env} {s : State} {m : MethodId} {below : List Frame} {meth : Method} {c : Code} {b L : Nat} {xs : Nat → Int32} {D : va_G} {dA : Nat → ClassId} {K : Kmap} {V : Vmap} {cells slots x m0 : Nat} {i : Int} (hI : LI K V x m0) (hR : REL K V x m0) (hL : L ≤ 4096) (h0 : 0 ≤ i) (h8 : i + 8 ≤ L) (hcs : cells + 8 ≤ 600000 ∧ slots + 2704 ≤ 7302250) (kk : ∀ (K1 : Kmap) (V1 : Vmap), LI K1 V1 x m0 → REL K1 V1 x m0 → LG p l e s m below meth c b L xs D dA K1 V1 (cells + 8) (slots + 2704) 2745 [some (.ref b), some (.ref x), some (.ref m0), some (ti i)] []) : LG p l e s m below meth c b L xs D dA K V cells slots 2600 [some (.ref b), some (.ref x), some (.ref m0), some (ti i)] [] := by
  have hR0 := hR.1
  have hA0 := hR.2.1
  have hT0 := hR.2.2.1
  have hY0 := hR.2.2.2.1
  have hP0 := hR.2.2.2.2.1
  have hK0 := hR.2.2.2.2.2.1
  have hS0 := hR.2.2.2.2.2.2
  unfold RLI at hR0
  refine LG.aload_n dL_law_2600 rfl rfl ?_
  refine LG.aload_n dL_law_2601 rfl rfl ?_
  refine LG.iload_n dL_law_2602 rfl rfl ?_
  refine LG.iconst dL_law_2603 ?_
  refine LG.iadd dL_law_2604 ?_
  refine LG.sld (Y := i + 1) dL_law_2605 (by omega) (by omega) hL ?_
  refine LG.aload_n dL_law_2606 rfl rfl ?_
  refine LG.iload_n dL_law_2607 rfl rfl ?_
  refine LG.iconst dL_law_2608 ?_
  refine LG.iadd dL_law_2609 ?_
  refine LG.sld (Y := i + 2) dL_law_2610 (by omega) (by omega) hL ?_
  refine LG.useWT (fun hW => ?_)
  refine LG.callV (ci := 10) (N := mX11_look) (As := [ti (xv xs (i + 1)), ti (xv xs (i + 2))]) dL_law_2611 (RX11, TX11, 20) rfl gV_RL_254 hI.1 (t_X11_look hI.1 xv_ir xv_ir) rfl [] rfl rfl (le_cs hcs rfl) (Nat.le_of_ble_eq_true rfl) (g_ip fun X7 K1 V2 r3 h4 hE5 hF6 => ?_)
  have hI10 : LI K1 V2 x m0 := ⟨hE5.obj (by decide) hI.1, hE5.obj (by decide) hI.2.1, (GX.frx hF6 hE5 hI.2.2.1 hW hI.2.1 (by decide +kernel)), (PX0.frx hF6 hE5 hI.2.2.2.1 hW hI.2.1 (by decide +kernel)), (NN.frx 4 3 4 rfl rfl hF6 hE5 hI.2.2.2.2.1 hW hI.1 (by decide +kernel)), (NN.frx 10 9 7 rfl rfl hF6 hE5 hI.2.2.2.2.2.1 hW hI.1 (by decide +kernel)), (PI.frx hI.2.2.2.2.2.2.1 hF6 hE5 hW hI.1 hI.2.2.2.2.1 (by decide +kernel)), (CWI.fr hI.2.2.2.2.2.2.2 hF6 hE5 hW hI.1 (by decide +kernel) (by decide +kernel) (by decide +kernel))⟩
  have hWp11 := hW
  have hY12 : YRL V2 x m0 := YRL.frx hY0 hF6 hE5 hW hI.1 hI.2.1 hI.2.2.2.2.1 (by decide +kernel) (by decide +kernel)
  have hT13 : TXE K1 V2 x m0 := TXE.frx hT0 hF6 hE5 hW hI.1 hI.2.1 (by decide +kernel)
  have hA14 : AB V2 x m0 := AB.frx hA0 hF6 hE5 hW hI.1 hI.2.1 hI.2.2.2.2.1 (by decide +kernel) (by decide +kernel) (Int.le_of_eq (vi_fr hF6 hI.2.1 (hE5.obj (by decide) hI.2.1) (by decide +kernel)).symm)
  have s15 : tdy V2 x = tdy V x := tdy_fr hF6 hE5 hW hI.1 (by decide +kernel) (by decide +kernel)
  have s16 : wsz V2 x = wsz V x := wsz_fr hF6 hE5 hW hI.1 (by decide +kernel) (by decide +kernel)
  have s17 : csz V2 x = csz V x := csz_fr hF6 hE5 hW hI.1 (by decide +kernel) (by decide +kernel)
  have s18 : dsz V2 x = dsz V x := dsz_fr hF6 hE5 hW hI.1 (by decide +kernel) (by decide +kernel)
  clear hW
  have s19 : vi V2 x 4 = vi V x 4 := vi_fr hF6 hI.1 (hE5.obj (by decide) hI.1) (by decide +kernel)
  have s20 : vi V2 x 10 = vi V x 10 := vi_fr hF6 hI.1 (hE5.obj (by decide) hI.1) (by decide +kernel)
  have s21 : vi V2 m0 9 = vi V m0 9 := vi_fr hF6 hI.2.1 (hE5.obj (by decide) hI.2.1) (by decide +kernel)
  have s22 : vi V2 m0 2 = vi V m0 2 := vi_fr hF6 hI.2.1 (hE5.obj (by decide) hI.2.1) (by decide +kernel)
  have s23 : vi V2 m0 91 = vi V m0 91 := vi_fr hF6 hI.2.1 (hE5.obj (by decide) hI.2.1) (by decide +kernel)
  have s24 : vi V2 m0 133 = vi V m0 133 := vi_fr hF6 hI.2.1 (hE5.obj (by decide) hI.2.1) (by decide +kernel)
  have s25 : vi V2 m0 120 = vi V m0 120 := vi_fr hF6 hI.2.1 (hE5.obj (by decide) hI.2.1) (by decide +kernel)
  have s26 : vi V2 x 8 = vi V x 8 := vi_fr hF6 hI.1 (hE5.obj (by decide) hI.1) (by decide +kernel)
  have s27 : vi V2 m0 66 = vi V m0 66 := vi_fr hF6 hI.2.1 (hE5.obj (by decide) hI.2.1) (by decide +kernel)
  have s28 : vi V2 m0 118 = vi V m0 118 := vi_fr hF6 hI.2.1 (hE5.obj (by decide) hI.2.1) (by decide +kernel)
  have hS29 : STE V2 x m0 := STE.frx hS0 hF6 hE5 hWp11 hI.1 hI.2.1 (by decide +kernel) (by decide +kernel)
  have hK30 : WKE V2 x m0 := WKE.frx hK0 hF6 hE5 hWp11 hI.1 hI.2.1 (by decide +kernel) (by decide +kernel)
  have hP31 : PLE V2 x m0 := PLE.frx hP0 hF6 hE5 hWp11 hI.1 hI.2.1 (by omega) (by decide +kernel) (by decide +kernel) (by decide +kernel) (by decide +kernel) (by decide +kernel) (by decide +kernel)
  refine LG.pop dL_law_2614 rfl ?_
  refine LG.aload_n dL_law_2615 rfl rfl ?_
  refine LG.aload_n dL_law_2616 rfl rfl ?_
  refine LG.iload_n dL_law_2617 rfl rfl ?_
  refine LG.iconst dL_law_2618 ?_
  refine LG.iadd dL_law_2619 ?_
  refine LG.sld (Y := i + 1) dL_law_2620 (by omega) (by omega) hL ?_
  refine LG.aload_n dL_law_2621 rfl rfl ?_
  refine LG.iload_n dL_law_2622 rfl rfl ?_
  refine LG.iconst dL_law_2623 ?_
  refine LG.iadd dL_law_2624 ?_
  refine LG.sld (Y := i + 2) dL_law_2625 (by omega) (by omega) hL ?_
  refine LG.useWT (fun hW => ?_)
  refine LG.callV (ci := 11) (N := mX12_look) (As := [ti (xv xs (i + 1)), ti (xv xs (i + 2))]) dL_law_2626 (RX12, TX12, 151) rfl gV_RL_257 hI10.2.1 (t_X12_look hI10.2.1 xv_ir xv_ir) rfl [] rfl rfl (le_csb hcs rfl) (Nat.le_of_ble_eq_true rfl) (g_ip fun X38 K32 V33 r34 h35 hE36 hF37 => ?_)
  have hI41 : LI K32 V33 x m0 := ⟨hE36.obj (by decide) hI10.1, hE36.obj (by decide) hI10.2.1, (GX.frx hF37 hE36 hI10.2.2.1 hW hI10.2.1 (by decide +kernel)), (PX0.frx hF37 hE36 hI10.2.2.2.1 hW hI10.2.1 (by decide +kernel)), (NN.frx 4 3 4 rfl rfl hF37 hE36 hI10.2.2.2.2.1 hW hI10.1 (by decide +kernel)), (NN.frx 10 9 7 rfl rfl hF37 hE36 hI10.2.2.2.2.2.1 hW hI10.1 (by decide +kernel)), (PI.frx hI10.2.2.2.2.2.2.1 hF37 hE36 hW hI10.1 hI10.2.2.2.2.1 (by decide +kernel)), (CWI.fr hI10.2.2.2.2.2.2.2 hF37 hE36 hW hI10.1 (by decide +kernel) (by decide +kernel) (by decide +kernel))⟩
  have hWp42 := hW
  have hY43 : YRL V33 x m0 := YRL.frx hY12 hF37 hE36 hW hI10.1 hI10.2.1 hI10.2.2.2.2.1 (by decide +kernel) (by decide +kernel)
  have hT44 : TXE K32 V33 x m0 := TXE.frx hT13 hF37 hE36 hW hI10.1 hI10.2.1 (by decide +kernel)
  have hA45 : AB V33 x m0 := AB.frx hA14 hF37 hE36 hW hI10.1 hI10.2.1 hI10.2.2.2.2.1 (by decide +kernel) (by decide +kernel) (Int.le_of_eq (vi_fr hF37 hI10.2.1 (hE36.obj (by decide) hI10.2.1) (by decide +kernel)).symm)
  have s46 : tdy V33 x = tdy V2 x := tdy_fr hF37 hE36 hW hI10.1 (by decide +kernel) (by decide +kernel)
  have s47 : wsz V33 x = wsz V2 x := wsz_fr hF37 hE36 hW hI10.1 (by decide +kernel) (by decide +kernel)
  have s48 : csz V33 x = csz V2 x := csz_fr hF37 hE36 hW hI10.1 (by decide +kernel) (by decide +kernel)
  have s49 : dsz V33 x = dsz V2 x := dsz_fr hF37 hE36 hW hI10.1 (by decide +kernel) (by decide +kernel)
  clear hW
  have s50 : vi V33 x 4 = vi V2 x 4 := vi_fr hF37 hI10.1 (hE36.obj (by decide) hI10.1) (by decide +kernel)
  have s51 : vi V33 x 10 = vi V2 x 10 := vi_fr hF37 hI10.1 (hE36.obj (by decide) hI10.1) (by decide +kernel)
  have s52 : vi V33 m0 9 = vi V2 m0 9 := vi_fr hF37 hI10.2.1 (hE36.obj (by decide) hI10.2.1) (by decide +kernel)
  have s53 : vi V33 m0 2 = vi V2 m0 2 := vi_fr hF37 hI10.2.1 (hE36.obj (by decide) hI10.2.1) (by decide +kernel)
  have s54 : vi V33 m0 91 = vi V2 m0 91 := vi_fr hF37 hI10.2.1 (hE36.obj (by decide) hI10.2.1) (by decide +kernel)
  have s55 : vi V33 m0 133 = vi V2 m0 133 := vi_fr hF37 hI10.2.1 (hE36.obj (by decide) hI10.2.1) (by decide +kernel)
  have s56 : vi V33 m0 120 = vi V2 m0 120 := vi_fr hF37 hI10.2.1 (hE36.obj (by decide) hI10.2.1) (by decide +kernel)
  have s57 : vi V33 x 8 = vi V2 x 8 := vi_fr hF37 hI10.1 (hE36.obj (by decide) hI10.1) (by decide +kernel)
  have s58 : vi V33 m0 66 = vi V2 m0 66 := vi_fr hF37 hI10.2.1 (hE36.obj (by decide) hI10.2.1) (by decide +kernel)
  have s59 : vi V33 m0 118 = vi V2 m0 118 := vi_fr hF37 hI10.2.1 (hE36.obj (by decide) hI10.2.1) (by decide +kernel)
  have hS60 : STE V33 x m0 := STE.frx hS29 hF37 hE36 hWp42 hI10.1 hI10.2.1 (by decide +kernel) (by decide +kernel)
  have hK61 : WKE V33 x m0 := WKE.frx hK30 hF37 hE36 hWp42 hI10.1 hI10.2.1 (by decide +kernel) (by decide +kernel)
  have hP62 : PLE V33 x m0 := PLE.frx hP31 hF37 hE36 hWp42 hI10.1 hI10.2.1 (by omega) (by decide +kernel) (by decide +kernel) (by decide +kernel) (by decide +kernel) (by decide +kernel) (by decide +kernel)
  refine LG.pop dL_law_2629 rfl ?_
  refine LG.goto (tgt := 2745) dL_law_2630 (by decide) ?_
  exact LG.widen (le_cs3 rfl) (kk _ _ hI41 (⟨by unfold RLI; omega, hA45, hT44, hY43, hP62, hK61, hS60⟩))

set_option maxHeartbeats 2000000 in
theorem law_case_57 {p : Program} {l : Launch} {e : Env} {s : State} {m : MethodId} {below : List Frame} {meth : Method} {c : Code} {b L : Nat} {xs : Nat → Int32} {D : va_G} {dA : Nat → ClassId} {K : Kmap} {V : Vmap} {cells slots x m0 : Nat} {i : Int} (hI : LI K V x m0) (hR : REL K V x m0) (hL : L ≤ 4096) (h0 : 0 ≤ i) (h8 : i + 8 ≤ L) (hcs : cells + 8 ≤ 600000 ∧ slots + 2704 ≤ 7302250) (kk : ∀ (K1 : Kmap) (V1 : Vmap), LI K1 V1 x m0 → REL K1 V1 x m0 → LG p l e s m below meth c b L xs D dA K1 V1 (cells + 8) (slots + 2704) 2745 [some (.ref b), some (.ref x), some (.ref m0), some (ti i)] []) : LG p l e s m below meth c b L xs D dA K V cells slots 2633 [some (.ref b), some (.ref x), some (.ref m0), some (ti i)] [] := by
  have hR0 := hR.1
  have hA0 := hR.2.1
  have hT0 := hR.2.2.1
  have hY0 := hR.2.2.2.1
  have hP0 := hR.2.2.2.2.1
  have hK0 := hR.2.2.2.2.2.1
  have hS0 := hR.2.2.2.2.2.2
  unfold RLI at hR0
  refine LG.aload_n dL_law_2633 rfl rfl ?_
  refine LG.aload_n dL_law_2634 rfl rfl ?_
  refine LG.iload_n dL_law_2635 rfl rfl ?_
  refine LG.iconst dL_law_2636 ?_
  refine LG.iadd dL_law_2637 ?_
  refine LG.sld (Y := i + 1) dL_law_2638 (by omega) (by omega) hL ?_
  refine LG.aload_n dL_law_2639 rfl rfl ?_
  refine LG.iload_n dL_law_2640 rfl rfl ?_
  refine LG.iconst dL_law_2641 ?_
  refine LG.iadd dL_law_2642 ?_
  refine LG.sld (Y := i + 2) dL_law_2643 (by omega) (by omega) hL ?_
  refine LG.useWT (fun hW => ?_)
  refine LG.callV (ci := 10) (N := mX11_at) (As := [ti (xv xs (i + 1)), ti (xv xs (i + 2))]) dL_law_2644 (RX11, TX11, 20) rfl gV_RL_258 hI.1 (t_X11_at hI.1 xv_ir xv_ir) rfl [] rfl rfl (le_cs hcs rfl) (Nat.le_of_ble_eq_true rfl) (g_ip fun X7 K1 V2 r3 h4 hE5 hF6 => ?_)
  have hI10 : LI K1 V2 x m0 := ⟨hE5.obj (by decide) hI.1, hE5.obj (by decide) hI.2.1, (GX.frx hF6 hE5 hI.2.2.1 hW hI.2.1 (by decide +kernel)), (PX0.frx hF6 hE5 hI.2.2.2.1 hW hI.2.1 (by decide +kernel)), (NN.frx 4 3 4 rfl rfl hF6 hE5 hI.2.2.2.2.1 hW hI.1 (by decide +kernel)), (NN.frx 10 9 7 rfl rfl hF6 hE5 hI.2.2.2.2.2.1 hW hI.1 (by decide +kernel)), (PI.frx hI.2.2.2.2.2.2.1 hF6 hE5 hW hI.1 hI.2.2.2.2.1 (by decide +kernel)), (CWI.fr hI.2.2.2.2.2.2.2 hF6 hE5 hW hI.1 (by decide +kernel) (by decide +kernel) (by decide +kernel))⟩
  have hWp11 := hW
  have hY12 : YRL V2 x m0 := YRL.frx hY0 hF6 hE5 hW hI.1 hI.2.1 hI.2.2.2.2.1 (by decide +kernel) (by decide +kernel)
  have hT13 : TXE K1 V2 x m0 := TXE.frx hT0 hF6 hE5 hW hI.1 hI.2.1 (by decide +kernel)
  have hA14 : AB V2 x m0 := AB.frx hA0 hF6 hE5 hW hI.1 hI.2.1 hI.2.2.2.2.1 (by decide +kernel) (by decide +kernel) (Int.le_of_eq (vi_fr hF6 hI.2.1 (hE5.obj (by decide) hI.2.1) (by decide +kernel)).symm)
  have s15 : tdy V2 x = tdy V x := tdy_fr hF6 hE5 hW hI.1 (by decide +kernel) (by decide +kernel)
  have s16 : wsz V2 x = wsz V x := wsz_fr hF6 hE5 hW hI.1 (by decide +kernel) (by decide +kernel)
  have s17 : csz V2 x = csz V x := csz_fr hF6 hE5 hW hI.1 (by decide +kernel) (by decide +kernel)
  have s18 : dsz V2 x = dsz V x := dsz_fr hF6 hE5 hW hI.1 (by decide +kernel) (by decide +kernel)
  clear hW
  have s19 : vi V2 x 4 = vi V x 4 := vi_fr hF6 hI.1 (hE5.obj (by decide) hI.1) (by decide +kernel)
  have s20 : vi V2 x 10 = vi V x 10 := vi_fr hF6 hI.1 (hE5.obj (by decide) hI.1) (by decide +kernel)
  have s21 : vi V2 m0 9 = vi V m0 9 := vi_fr hF6 hI.2.1 (hE5.obj (by decide) hI.2.1) (by decide +kernel)
  have s22 : vi V2 m0 2 = vi V m0 2 := vi_fr hF6 hI.2.1 (hE5.obj (by decide) hI.2.1) (by decide +kernel)
  have s23 : vi V2 m0 91 = vi V m0 91 := vi_fr hF6 hI.2.1 (hE5.obj (by decide) hI.2.1) (by decide +kernel)
  have s24 : vi V2 m0 133 = vi V m0 133 := vi_fr hF6 hI.2.1 (hE5.obj (by decide) hI.2.1) (by decide +kernel)
  have s25 : vi V2 m0 120 = vi V m0 120 := vi_fr hF6 hI.2.1 (hE5.obj (by decide) hI.2.1) (by decide +kernel)
  have s26 : vi V2 x 8 = vi V x 8 := vi_fr hF6 hI.1 (hE5.obj (by decide) hI.1) (by decide +kernel)
  have s27 : vi V2 m0 66 = vi V m0 66 := vi_fr hF6 hI.2.1 (hE5.obj (by decide) hI.2.1) (by decide +kernel)
  have s28 : vi V2 m0 118 = vi V m0 118 := vi_fr hF6 hI.2.1 (hE5.obj (by decide) hI.2.1) (by decide +kernel)
  have hS29 : STE V2 x m0 := STE.frx hS0 hF6 hE5 hWp11 hI.1 hI.2.1 (by decide +kernel) (by decide +kernel)
  have hK30 : WKE V2 x m0 := WKE.frx hK0 hF6 hE5 hWp11 hI.1 hI.2.1 (by decide +kernel) (by decide +kernel)
  have hP31 : PLE V2 x m0 := PLE.frx hP0 hF6 hE5 hWp11 hI.1 hI.2.1 (by omega) (by decide +kernel) (by decide +kernel) (by decide +kernel) (by decide +kernel) (by decide +kernel) (by decide +kernel)
  refine LG.pop dL_law_2647 rfl ?_
  refine LG.aload_n dL_law_2648 rfl rfl ?_
  refine LG.aload_n dL_law_2649 rfl rfl ?_
  refine LG.iload_n dL_law_2650 rfl rfl ?_
  refine LG.iconst dL_law_2651 ?_
  refine LG.iadd dL_law_2652 ?_
  refine LG.sld (Y := i + 1) dL_law_2653 (by omega) (by omega) hL ?_
  refine LG.aload_n dL_law_2654 rfl rfl ?_
  refine LG.iload_n dL_law_2655 rfl rfl ?_
  refine LG.iconst dL_law_2656 ?_
  refine LG.iadd dL_law_2657 ?_
  refine LG.sld (Y := i + 2) dL_law_2658 (by omega) (by omega) hL ?_
  refine LG.useWT (fun hW => ?_)
  refine LG.callV (ci := 11) (N := mX12_at) (As := [ti (xv xs (i + 1)), ti (xv xs (i + 2))]) dL_law_2659 (RX12, TX12, 151) rfl gV_RL_261 hI10.2.1 (t_X12_at hI10.2.1 xv_ir xv_ir) rfl [] rfl rfl (le_csb hcs rfl) (Nat.le_of_ble_eq_true rfl) (g_ip fun X38 K32 V33 r34 h35 hE36 hF37 => ?_)
  have hI41 : LI K32 V33 x m0 := ⟨hE36.obj (by decide) hI10.1, hE36.obj (by decide) hI10.2.1, (GX.frx hF37 hE36 hI10.2.2.1 hW hI10.2.1 (by decide +kernel)), (PX0.frx hF37 hE36 hI10.2.2.2.1 hW hI10.2.1 (by decide +kernel)), (NN.frx 4 3 4 rfl rfl hF37 hE36 hI10.2.2.2.2.1 hW hI10.1 (by decide +kernel)), (NN.frx 10 9 7 rfl rfl hF37 hE36 hI10.2.2.2.2.2.1 hW hI10.1 (by decide +kernel)), (PI.frx hI10.2.2.2.2.2.2.1 hF37 hE36 hW hI10.1 hI10.2.2.2.2.1 (by decide +kernel)), (CWI.fr hI10.2.2.2.2.2.2.2 hF37 hE36 hW hI10.1 (by decide +kernel) (by decide +kernel) (by decide +kernel))⟩
  have hWp42 := hW
  have hY43 : YRL V33 x m0 := YRL.frx hY12 hF37 hE36 hW hI10.1 hI10.2.1 hI10.2.2.2.2.1 (by decide +kernel) (by decide +kernel)
  have hT44 : TXE K32 V33 x m0 := TXE.frx hT13 hF37 hE36 hW hI10.1 hI10.2.1 (by decide +kernel)
  have hA45 : AB V33 x m0 := AB.frx hA14 hF37 hE36 hW hI10.1 hI10.2.1 hI10.2.2.2.2.1 (by decide +kernel) (by decide +kernel) (Int.le_of_eq (vi_fr hF37 hI10.2.1 (hE36.obj (by decide) hI10.2.1) (by decide +kernel)).symm)
  have s46 : tdy V33 x = tdy V2 x := tdy_fr hF37 hE36 hW hI10.1 (by decide +kernel) (by decide +kernel)
  have s47 : wsz V33 x = wsz V2 x := wsz_fr hF37 hE36 hW hI10.1 (by decide +kernel) (by decide +kernel)
  have s48 : csz V33 x = csz V2 x := csz_fr hF37 hE36 hW hI10.1 (by decide +kernel) (by decide +kernel)
  have s49 : dsz V33 x = dsz V2 x := dsz_fr hF37 hE36 hW hI10.1 (by decide +kernel) (by decide +kernel)
  clear hW
  have s50 : vi V33 x 4 = vi V2 x 4 := vi_fr hF37 hI10.1 (hE36.obj (by decide) hI10.1) (by decide +kernel)
  have s51 : vi V33 x 10 = vi V2 x 10 := vi_fr hF37 hI10.1 (hE36.obj (by decide) hI10.1) (by decide +kernel)
  have s52 : vi V33 m0 9 = vi V2 m0 9 := vi_fr hF37 hI10.2.1 (hE36.obj (by decide) hI10.2.1) (by decide +kernel)
  have s53 : vi V33 m0 2 = vi V2 m0 2 := vi_fr hF37 hI10.2.1 (hE36.obj (by decide) hI10.2.1) (by decide +kernel)
  have s54 : vi V33 m0 91 = vi V2 m0 91 := vi_fr hF37 hI10.2.1 (hE36.obj (by decide) hI10.2.1) (by decide +kernel)
  have s55 : vi V33 m0 133 = vi V2 m0 133 := vi_fr hF37 hI10.2.1 (hE36.obj (by decide) hI10.2.1) (by decide +kernel)
  have s56 : vi V33 m0 120 = vi V2 m0 120 := vi_fr hF37 hI10.2.1 (hE36.obj (by decide) hI10.2.1) (by decide +kernel)
  have s57 : vi V33 x 8 = vi V2 x 8 := vi_fr hF37 hI10.1 (hE36.obj (by decide) hI10.1) (by decide +kernel)
  have s58 : vi V33 m0 66 = vi V2 m0 66 := vi_fr hF37 hI10.2.1 (hE36.obj (by decide) hI10.2.1) (by decide +kernel)
  have s59 : vi V33 m0 118 = vi V2 m0 118 := vi_fr hF37 hI10.2.1 (hE36.obj (by decide) hI10.2.1) (by decide +kernel)
  have hS60 : STE V33 x m0 := STE.frx hS29 hF37 hE36 hWp42 hI10.1 hI10.2.1 (by decide +kernel) (by decide +kernel)
  have hK61 : WKE V33 x m0 := WKE.frx hK30 hF37 hE36 hWp42 hI10.1 hI10.2.1 (by decide +kernel) (by decide +kernel)
  have hP62 : PLE V33 x m0 := PLE.frx hP31 hF37 hE36 hWp42 hI10.1 hI10.2.1 (by omega) (by decide +kernel) (by decide +kernel) (by decide +kernel) (by decide +kernel) (by decide +kernel) (by decide +kernel)
  refine LG.pop dL_law_2662 rfl ?_
  refine LG.goto (tgt := 2745) dL_law_2663 (by decide) ?_
  exact LG.widen (le_cs3 rfl) (kk _ _ hI41 (⟨by unfold RLI; omega, hA45, hT44, hY43, hP62, hK61, hS60⟩))

set_option maxHeartbeats 2000000 in
theorem law_case_58 {p : Program} {l : Launch} {e : Env} {s : State} {m : MethodId} {below : List Frame} {meth : Method} {c : Code} {b L : Nat} {xs : Nat → Int32} {D : va_G} {dA : Nat → ClassId} {K : Kmap} {V : Vmap} {cells slots x m0 : Nat} {i : Int} (hI : LI K V x m0) (hR : REL K V x m0) (hL : L ≤ 4096) (h0 : 0 ≤ i) (h8 : i + 8 ≤ L) (hcs : cells + 8 ≤ 600000 ∧ slots + 2704 ≤ 7302250) (kk : ∀ (K1 : Kmap) (V1 : Vmap), LI K1 V1 x m0 → REL K1 V1 x m0 → LG p l e s m below meth c b L xs D dA K1 V1 (cells + 8) (slots + 2704) 2745 [some (.ref b), some (.ref x), some (.ref m0), some (ti i)] []) : LG p l e s m below meth c b L xs D dA K V cells slots 2666 [some (.ref b), some (.ref x), some (.ref m0), some (ti i)] [] := by
  have hR0 := hR.1
  have hA0 := hR.2.1
  have hT0 := hR.2.2.1
  have hY0 := hR.2.2.2.1
  have hP0 := hR.2.2.2.2.1
  have hK0 := hR.2.2.2.2.2.1
  have hS0 := hR.2.2.2.2.2.2
  unfold RLI at hR0
  refine LG.aload_n dL_law_2666 rfl rfl ?_
  refine LG.aload_n dL_law_2667 rfl rfl ?_
  refine LG.iload_n dL_law_2668 rfl rfl ?_
  refine LG.iconst dL_law_2669 ?_
  refine LG.iadd dL_law_2670 ?_
  refine LG.sld (Y := i + 1) dL_law_2671 (by omega) (by omega) hL ?_
  refine LG.aload_n dL_law_2672 rfl rfl ?_
  refine LG.iload_n dL_law_2673 rfl rfl ?_
  refine LG.iconst dL_law_2674 ?_
  refine LG.iadd dL_law_2675 ?_
  refine LG.sld (Y := i + 2) dL_law_2676 (by omega) (by omega) hL ?_
  refine LG.useWT (fun hW => ?_)
  refine LG.callV (ci := 10) (N := mX11_about) (As := [ti (xv xs (i + 1)), ti (xv xs (i + 2))]) dL_law_2677 (RX11, TX11, 20) rfl gV_RL_262 hI.1 (t_X11_about hI.1 xv_ir xv_ir) rfl [] rfl rfl (le_cs hcs rfl) (Nat.le_of_ble_eq_true rfl) (g_ip fun X7 K1 V2 r3 h4 hE5 hF6 => ?_)
  have hI10 : LI K1 V2 x m0 := ⟨hE5.obj (by decide) hI.1, hE5.obj (by decide) hI.2.1, (GX.frx hF6 hE5 hI.2.2.1 hW hI.2.1 (by decide +kernel)), (PX0.frx hF6 hE5 hI.2.2.2.1 hW hI.2.1 (by decide +kernel)), (NN.frx 4 3 4 rfl rfl hF6 hE5 hI.2.2.2.2.1 hW hI.1 (by decide +kernel)), (NN.frx 10 9 7 rfl rfl hF6 hE5 hI.2.2.2.2.2.1 hW hI.1 (by decide +kernel)), (PI.frx hI.2.2.2.2.2.2.1 hF6 hE5 hW hI.1 hI.2.2.2.2.1 (by decide +kernel)), (CWI.fr hI.2.2.2.2.2.2.2 hF6 hE5 hW hI.1 (by decide +kernel) (by decide +kernel) (by decide +kernel))⟩
  have hWp11 := hW
  have hY12 : YRL V2 x m0 := YRL.frx hY0 hF6 hE5 hW hI.1 hI.2.1 hI.2.2.2.2.1 (by decide +kernel) (by decide +kernel)
  have hT13 : TXE K1 V2 x m0 := TXE.frx hT0 hF6 hE5 hW hI.1 hI.2.1 (by decide +kernel)
  have hA14 : AB V2 x m0 := AB.frx hA0 hF6 hE5 hW hI.1 hI.2.1 hI.2.2.2.2.1 (by decide +kernel) (by decide +kernel) (Int.le_of_eq (vi_fr hF6 hI.2.1 (hE5.obj (by decide) hI.2.1) (by decide +kernel)).symm)
  have s15 : tdy V2 x = tdy V x := tdy_fr hF6 hE5 hW hI.1 (by decide +kernel) (by decide +kernel)
  have s16 : wsz V2 x = wsz V x := wsz_fr hF6 hE5 hW hI.1 (by decide +kernel) (by decide +kernel)
  have s17 : csz V2 x = csz V x := csz_fr hF6 hE5 hW hI.1 (by decide +kernel) (by decide +kernel)
  have s18 : dsz V2 x = dsz V x := dsz_fr hF6 hE5 hW hI.1 (by decide +kernel) (by decide +kernel)
  clear hW
  have s19 : vi V2 x 4 = vi V x 4 := vi_fr hF6 hI.1 (hE5.obj (by decide) hI.1) (by decide +kernel)
  have s20 : vi V2 x 10 = vi V x 10 := vi_fr hF6 hI.1 (hE5.obj (by decide) hI.1) (by decide +kernel)
  have s21 : vi V2 m0 9 = vi V m0 9 := vi_fr hF6 hI.2.1 (hE5.obj (by decide) hI.2.1) (by decide +kernel)
  have s22 : vi V2 m0 2 = vi V m0 2 := vi_fr hF6 hI.2.1 (hE5.obj (by decide) hI.2.1) (by decide +kernel)
  have s23 : vi V2 m0 91 = vi V m0 91 := vi_fr hF6 hI.2.1 (hE5.obj (by decide) hI.2.1) (by decide +kernel)
  have s24 : vi V2 m0 133 = vi V m0 133 := vi_fr hF6 hI.2.1 (hE5.obj (by decide) hI.2.1) (by decide +kernel)
  have s25 : vi V2 m0 120 = vi V m0 120 := vi_fr hF6 hI.2.1 (hE5.obj (by decide) hI.2.1) (by decide +kernel)
  have s26 : vi V2 x 8 = vi V x 8 := vi_fr hF6 hI.1 (hE5.obj (by decide) hI.1) (by decide +kernel)
  have s27 : vi V2 m0 66 = vi V m0 66 := vi_fr hF6 hI.2.1 (hE5.obj (by decide) hI.2.1) (by decide +kernel)
  have s28 : vi V2 m0 118 = vi V m0 118 := vi_fr hF6 hI.2.1 (hE5.obj (by decide) hI.2.1) (by decide +kernel)
  have hS29 : STE V2 x m0 := STE.frx hS0 hF6 hE5 hWp11 hI.1 hI.2.1 (by decide +kernel) (by decide +kernel)
  have hK30 : WKE V2 x m0 := WKE.frx hK0 hF6 hE5 hWp11 hI.1 hI.2.1 (by decide +kernel) (by decide +kernel)
  have hP31 : PLE V2 x m0 := PLE.frx hP0 hF6 hE5 hWp11 hI.1 hI.2.1 (by omega) (by decide +kernel) (by decide +kernel) (by decide +kernel) (by decide +kernel) (by decide +kernel) (by decide +kernel)
  refine LG.pop dL_law_2680 rfl ?_
  refine LG.aload_n dL_law_2681 rfl rfl ?_
  refine LG.aload_n dL_law_2682 rfl rfl ?_
  refine LG.iload_n dL_law_2683 rfl rfl ?_
  refine LG.iconst dL_law_2684 ?_
  refine LG.iadd dL_law_2685 ?_
  refine LG.sld (Y := i + 1) dL_law_2686 (by omega) (by omega) hL ?_
  refine LG.aload_n dL_law_2687 rfl rfl ?_
  refine LG.iload_n dL_law_2688 rfl rfl ?_
  refine LG.iconst dL_law_2689 ?_
  refine LG.iadd dL_law_2690 ?_
  refine LG.sld (Y := i + 2) dL_law_2691 (by omega) (by omega) hL ?_
  refine LG.useWT (fun hW => ?_)
  refine LG.callV (ci := 11) (N := mX12_about) (As := [ti (xv xs (i + 1)), ti (xv xs (i + 2))]) dL_law_2692 (RX12, TX12, 151) rfl gV_RL_265 hI10.2.1 (t_X12_about hI10.2.1 xv_ir xv_ir) rfl [] rfl rfl (le_csb hcs rfl) (Nat.le_of_ble_eq_true rfl) (g_ip fun X38 K32 V33 r34 h35 hE36 hF37 => ?_)
  have hI41 : LI K32 V33 x m0 := ⟨hE36.obj (by decide) hI10.1, hE36.obj (by decide) hI10.2.1, (GX.frx hF37 hE36 hI10.2.2.1 hW hI10.2.1 (by decide +kernel)), (PX0.frx hF37 hE36 hI10.2.2.2.1 hW hI10.2.1 (by decide +kernel)), (NN.frx 4 3 4 rfl rfl hF37 hE36 hI10.2.2.2.2.1 hW hI10.1 (by decide +kernel)), (NN.frx 10 9 7 rfl rfl hF37 hE36 hI10.2.2.2.2.2.1 hW hI10.1 (by decide +kernel)), (PI.frx hI10.2.2.2.2.2.2.1 hF37 hE36 hW hI10.1 hI10.2.2.2.2.1 (by decide +kernel)), (CWI.fr hI10.2.2.2.2.2.2.2 hF37 hE36 hW hI10.1 (by decide +kernel) (by decide +kernel) (by decide +kernel))⟩
  have hWp42 := hW
  have hY43 : YRL V33 x m0 := YRL.frx hY12 hF37 hE36 hW hI10.1 hI10.2.1 hI10.2.2.2.2.1 (by decide +kernel) (by decide +kernel)
  have hT44 : TXE K32 V33 x m0 := TXE.frx hT13 hF37 hE36 hW hI10.1 hI10.2.1 (by decide +kernel)
  have hA45 : AB V33 x m0 := AB.frx hA14 hF37 hE36 hW hI10.1 hI10.2.1 hI10.2.2.2.2.1 (by decide +kernel) (by decide +kernel) (Int.le_of_eq (vi_fr hF37 hI10.2.1 (hE36.obj (by decide) hI10.2.1) (by decide +kernel)).symm)
  have s46 : tdy V33 x = tdy V2 x := tdy_fr hF37 hE36 hW hI10.1 (by decide +kernel) (by decide +kernel)
  have s47 : wsz V33 x = wsz V2 x := wsz_fr hF37 hE36 hW hI10.1 (by decide +kernel) (by decide +kernel)
  have s48 : csz V33 x = csz V2 x := csz_fr hF37 hE36 hW hI10.1 (by decide +kernel) (by decide +kernel)
  have s49 : dsz V33 x = dsz V2 x := dsz_fr hF37 hE36 hW hI10.1 (by decide +kernel) (by decide +kernel)
  clear hW
  have s50 : vi V33 x 4 = vi V2 x 4 := vi_fr hF37 hI10.1 (hE36.obj (by decide) hI10.1) (by decide +kernel)
  have s51 : vi V33 x 10 = vi V2 x 10 := vi_fr hF37 hI10.1 (hE36.obj (by decide) hI10.1) (by decide +kernel)
  have s52 : vi V33 m0 9 = vi V2 m0 9 := vi_fr hF37 hI10.2.1 (hE36.obj (by decide) hI10.2.1) (by decide +kernel)
  have s53 : vi V33 m0 2 = vi V2 m0 2 := vi_fr hF37 hI10.2.1 (hE36.obj (by decide) hI10.2.1) (by decide +kernel)
  have s54 : vi V33 m0 91 = vi V2 m0 91 := vi_fr hF37 hI10.2.1 (hE36.obj (by decide) hI10.2.1) (by decide +kernel)
  have s55 : vi V33 m0 133 = vi V2 m0 133 := vi_fr hF37 hI10.2.1 (hE36.obj (by decide) hI10.2.1) (by decide +kernel)
  have s56 : vi V33 m0 120 = vi V2 m0 120 := vi_fr hF37 hI10.2.1 (hE36.obj (by decide) hI10.2.1) (by decide +kernel)
  have s57 : vi V33 x 8 = vi V2 x 8 := vi_fr hF37 hI10.1 (hE36.obj (by decide) hI10.1) (by decide +kernel)
  have s58 : vi V33 m0 66 = vi V2 m0 66 := vi_fr hF37 hI10.2.1 (hE36.obj (by decide) hI10.2.1) (by decide +kernel)
  have s59 : vi V33 m0 118 = vi V2 m0 118 := vi_fr hF37 hI10.2.1 (hE36.obj (by decide) hI10.2.1) (by decide +kernel)
  have hS60 : STE V33 x m0 := STE.frx hS29 hF37 hE36 hWp42 hI10.1 hI10.2.1 (by decide +kernel) (by decide +kernel)
  have hK61 : WKE V33 x m0 := WKE.frx hK30 hF37 hE36 hWp42 hI10.1 hI10.2.1 (by decide +kernel) (by decide +kernel)
  have hP62 : PLE V33 x m0 := PLE.frx hP31 hF37 hE36 hWp42 hI10.1 hI10.2.1 (by omega) (by decide +kernel) (by decide +kernel) (by decide +kernel) (by decide +kernel) (by decide +kernel) (by decide +kernel)
  refine LG.pop dL_law_2695 rfl ?_
  refine LG.goto (tgt := 2745) dL_law_2696 (by decide) ?_
  exact LG.widen (le_cs3 rfl) (kk _ _ hI41 (⟨by unfold RLI; omega, hA45, hT44, hY43, hP62, hK61, hS60⟩))

set_option maxHeartbeats 2000000 in
theorem law_case_59 {p : Program} {l : Launch} {e : Env} {s : State} {m : MethodId} {below : List Frame} {meth : Method} {c : Code} {b L : Nat} {xs : Nat → Int32} {D : va_G} {dA : Nat → ClassId} {K : Kmap} {V : Vmap} {cells slots x m0 : Nat} {i : Int} (hI : LI K V x m0) (hR : REL K V x m0) (hL : L ≤ 4096) (h0 : 0 ≤ i) (h8 : i + 8 ≤ L) (hcs : cells + 8 ≤ 600000 ∧ slots + 2704 ≤ 7302250) (kk : ∀ (K1 : Kmap) (V1 : Vmap), LI K1 V1 x m0 → REL K1 V1 x m0 → LG p l e s m below meth c b L xs D dA K1 V1 (cells + 8) (slots + 2704) 2745 [some (.ref b), some (.ref x), some (.ref m0), some (ti i)] []) : LG p l e s m below meth c b L xs D dA K V cells slots 2699 [some (.ref b), some (.ref x), some (.ref m0), some (ti i)] [] := by
  have hR0 := hR.1
  have hA0 := hR.2.1
  have hT0 := hR.2.2.1
  have hY0 := hR.2.2.2.1
  have hP0 := hR.2.2.2.2.1
  have hK0 := hR.2.2.2.2.2.1
  have hS0 := hR.2.2.2.2.2.2
  unfold RLI at hR0
  refine LG.aload_n dL_law_2699 rfl rfl ?_
  refine LG.aload_n dL_law_2700 rfl rfl ?_
  refine LG.iload_n dL_law_2701 rfl rfl ?_
  refine LG.iconst dL_law_2702 ?_
  refine LG.iadd dL_law_2703 ?_
  refine LG.sld (Y := i + 1) dL_law_2704 (by omega) (by omega) hL ?_
  refine LG.useWT (fun hW => ?_)
  refine LG.callV (ci := 10) (N := mX11_sum) (As := [ti (xv xs (i + 1))]) dL_law_2705 (RX11, TX11, 20) rfl gV_RL_266 hI.1 (t_X11_sum hI.1 xv_ir) rfl [] rfl rfl (le_cs hcs rfl) (Nat.le_of_ble_eq_true rfl) (g_jp fun X7 K1 V2 hE5 hF6 => ?_)
  have hI10 : LI K1 V2 x m0 := ⟨hE5.obj (by decide) hI.1, hE5.obj (by decide) hI.2.1, (GX.frx hF6 hE5 hI.2.2.1 hW hI.2.1 (by decide +kernel)), (PX0.frx hF6 hE5 hI.2.2.2.1 hW hI.2.1 (by decide +kernel)), (NN.frx 4 3 4 rfl rfl hF6 hE5 hI.2.2.2.2.1 hW hI.1 (by decide +kernel)), (NN.frx 10 9 7 rfl rfl hF6 hE5 hI.2.2.2.2.2.1 hW hI.1 (by decide +kernel)), (PI.frx hI.2.2.2.2.2.2.1 hF6 hE5 hW hI.1 hI.2.2.2.2.1 (by decide +kernel)), (CWI.fr hI.2.2.2.2.2.2.2 hF6 hE5 hW hI.1 (by decide +kernel) (by decide +kernel) (by decide +kernel))⟩
  have hWp11 := hW
  have hY12 : YRL V2 x m0 := YRL.frx hY0 hF6 hE5 hW hI.1 hI.2.1 hI.2.2.2.2.1 (by decide +kernel) (by decide +kernel)
  have hT13 : TXE K1 V2 x m0 := TXE.frx hT0 hF6 hE5 hW hI.1 hI.2.1 (by decide +kernel)
  have hA14 : AB V2 x m0 := AB.frx hA0 hF6 hE5 hW hI.1 hI.2.1 hI.2.2.2.2.1 (by decide +kernel) (by decide +kernel) (Int.le_of_eq (vi_fr hF6 hI.2.1 (hE5.obj (by decide) hI.2.1) (by decide +kernel)).symm)
  have s15 : tdy V2 x = tdy V x := tdy_fr hF6 hE5 hW hI.1 (by decide +kernel) (by decide +kernel)
  have s16 : wsz V2 x = wsz V x := wsz_fr hF6 hE5 hW hI.1 (by decide +kernel) (by decide +kernel)
  have s17 : csz V2 x = csz V x := csz_fr hF6 hE5 hW hI.1 (by decide +kernel) (by decide +kernel)
  have s18 : dsz V2 x = dsz V x := dsz_fr hF6 hE5 hW hI.1 (by decide +kernel) (by decide +kernel)
  clear hW
  have s19 : vi V2 x 4 = vi V x 4 := vi_fr hF6 hI.1 (hE5.obj (by decide) hI.1) (by decide +kernel)
  have s20 : vi V2 x 10 = vi V x 10 := vi_fr hF6 hI.1 (hE5.obj (by decide) hI.1) (by decide +kernel)
  have s21 : vi V2 m0 9 = vi V m0 9 := vi_fr hF6 hI.2.1 (hE5.obj (by decide) hI.2.1) (by decide +kernel)
  have s22 : vi V2 m0 2 = vi V m0 2 := vi_fr hF6 hI.2.1 (hE5.obj (by decide) hI.2.1) (by decide +kernel)
  have s23 : vi V2 m0 91 = vi V m0 91 := vi_fr hF6 hI.2.1 (hE5.obj (by decide) hI.2.1) (by decide +kernel)
  have s24 : vi V2 m0 133 = vi V m0 133 := vi_fr hF6 hI.2.1 (hE5.obj (by decide) hI.2.1) (by decide +kernel)
  have s25 : vi V2 m0 120 = vi V m0 120 := vi_fr hF6 hI.2.1 (hE5.obj (by decide) hI.2.1) (by decide +kernel)
  have s26 : vi V2 x 8 = vi V x 8 := vi_fr hF6 hI.1 (hE5.obj (by decide) hI.1) (by decide +kernel)
  have s27 : vi V2 m0 66 = vi V m0 66 := vi_fr hF6 hI.2.1 (hE5.obj (by decide) hI.2.1) (by decide +kernel)
  have s28 : vi V2 m0 118 = vi V m0 118 := vi_fr hF6 hI.2.1 (hE5.obj (by decide) hI.2.1) (by decide +kernel)
  have hS29 : STE V2 x m0 := STE.frx hS0 hF6 hE5 hWp11 hI.1 hI.2.1 (by decide +kernel) (by decide +kernel)
  have hK30 : WKE V2 x m0 := WKE.frx hK0 hF6 hE5 hWp11 hI.1 hI.2.1 (by decide +kernel) (by decide +kernel)
  have hP31 : PLE V2 x m0 := PLE.frx hP0 hF6 hE5 hWp11 hI.1 hI.2.1 (by omega) (by decide +kernel) (by decide +kernel) (by decide +kernel) (by decide +kernel) (by decide +kernel) (by decide +kernel)
  refine LG.pop2 dL_law_2708 rfl ?_
  refine LG.aload_n dL_law_2709 rfl rfl ?_
  refine LG.aload_n dL_law_2710 rfl rfl ?_
  refine LG.iload_n dL_law_2711 rfl rfl ?_
  refine LG.iconst dL_law_2712 ?_
  refine LG.iadd dL_law_2713 ?_
  refine LG.sld (Y := i + 1) dL_law_2714 (by omega) (by omega) hL ?_
  refine LG.useWT (fun hW => ?_)
  refine LG.callV (ci := 11) (N := mX12_sum) (As := [ti (xv xs (i + 1))]) dL_law_2715 (RX12, TX12, 151) rfl gV_RL_270 hI10.2.1 (t_X12_sum hI10.2.1 xv_ir) rfl [] rfl rfl (le_csb hcs rfl) (Nat.le_of_ble_eq_true rfl) (g_jp fun X38 K32 V33 hE36 hF37 => ?_)
  have hI41 : LI K32 V33 x m0 := ⟨hE36.obj (by decide) hI10.1, hE36.obj (by decide) hI10.2.1, (GX.frx hF37 hE36 hI10.2.2.1 hW hI10.2.1 (by decide +kernel)), (PX0.frx hF37 hE36 hI10.2.2.2.1 hW hI10.2.1 (by decide +kernel)), (NN.frx 4 3 4 rfl rfl hF37 hE36 hI10.2.2.2.2.1 hW hI10.1 (by decide +kernel)), (NN.frx 10 9 7 rfl rfl hF37 hE36 hI10.2.2.2.2.2.1 hW hI10.1 (by decide +kernel)), (PI.frx hI10.2.2.2.2.2.2.1 hF37 hE36 hW hI10.1 hI10.2.2.2.2.1 (by decide +kernel)), (CWI.fr hI10.2.2.2.2.2.2.2 hF37 hE36 hW hI10.1 (by decide +kernel) (by decide +kernel) (by decide +kernel))⟩
  have hWp42 := hW
  have hY43 : YRL V33 x m0 := YRL.frx hY12 hF37 hE36 hW hI10.1 hI10.2.1 hI10.2.2.2.2.1 (by decide +kernel) (by decide +kernel)
  have hT44 : TXE K32 V33 x m0 := TXE.frx hT13 hF37 hE36 hW hI10.1 hI10.2.1 (by decide +kernel)
  have hA45 : AB V33 x m0 := AB.frx hA14 hF37 hE36 hW hI10.1 hI10.2.1 hI10.2.2.2.2.1 (by decide +kernel) (by decide +kernel) (Int.le_of_eq (vi_fr hF37 hI10.2.1 (hE36.obj (by decide) hI10.2.1) (by decide +kernel)).symm)
  have s46 : tdy V33 x = tdy V2 x := tdy_fr hF37 hE36 hW hI10.1 (by decide +kernel) (by decide +kernel)
  have s47 : wsz V33 x = wsz V2 x := wsz_fr hF37 hE36 hW hI10.1 (by decide +kernel) (by decide +kernel)
  have s48 : csz V33 x = csz V2 x := csz_fr hF37 hE36 hW hI10.1 (by decide +kernel) (by decide +kernel)
  have s49 : dsz V33 x = dsz V2 x := dsz_fr hF37 hE36 hW hI10.1 (by decide +kernel) (by decide +kernel)
  clear hW
  have s50 : vi V33 x 4 = vi V2 x 4 := vi_fr hF37 hI10.1 (hE36.obj (by decide) hI10.1) (by decide +kernel)
  have s51 : vi V33 x 10 = vi V2 x 10 := vi_fr hF37 hI10.1 (hE36.obj (by decide) hI10.1) (by decide +kernel)
  have s52 : vi V33 m0 9 = vi V2 m0 9 := vi_fr hF37 hI10.2.1 (hE36.obj (by decide) hI10.2.1) (by decide +kernel)
  have s53 : vi V33 m0 2 = vi V2 m0 2 := vi_fr hF37 hI10.2.1 (hE36.obj (by decide) hI10.2.1) (by decide +kernel)
  have s54 : vi V33 m0 91 = vi V2 m0 91 := vi_fr hF37 hI10.2.1 (hE36.obj (by decide) hI10.2.1) (by decide +kernel)
  have s55 : vi V33 m0 133 = vi V2 m0 133 := vi_fr hF37 hI10.2.1 (hE36.obj (by decide) hI10.2.1) (by decide +kernel)
  have s56 : vi V33 m0 120 = vi V2 m0 120 := vi_fr hF37 hI10.2.1 (hE36.obj (by decide) hI10.2.1) (by decide +kernel)
  have s57 : vi V33 x 8 = vi V2 x 8 := vi_fr hF37 hI10.1 (hE36.obj (by decide) hI10.1) (by decide +kernel)
  have s58 : vi V33 m0 66 = vi V2 m0 66 := vi_fr hF37 hI10.2.1 (hE36.obj (by decide) hI10.2.1) (by decide +kernel)
  have s59 : vi V33 m0 118 = vi V2 m0 118 := vi_fr hF37 hI10.2.1 (hE36.obj (by decide) hI10.2.1) (by decide +kernel)
  have hS60 : STE V33 x m0 := STE.frx hS29 hF37 hE36 hWp42 hI10.1 hI10.2.1 (by decide +kernel) (by decide +kernel)
  have hK61 : WKE V33 x m0 := WKE.frx hK30 hF37 hE36 hWp42 hI10.1 hI10.2.1 (by decide +kernel) (by decide +kernel)
  have hP62 : PLE V33 x m0 := PLE.frx hP31 hF37 hE36 hWp42 hI10.1 hI10.2.1 (by omega) (by decide +kernel) (by decide +kernel) (by decide +kernel) (by decide +kernel) (by decide +kernel) (by decide +kernel)
  refine LG.pop2 dL_law_2718 rfl ?_
  refine LG.goto (tgt := 2745) dL_law_2719 (by decide) ?_
  exact LG.widen (le_cs3 rfl) (kk _ _ hI41 (⟨by unfold RLI; omega, hA45, hT44, hY43, hP62, hK61, hS60⟩))

set_option maxHeartbeats 2000000 in
theorem law_case_60 {p : Program} {l : Launch} {e : Env} {s : State} {m : MethodId} {below : List Frame} {meth : Method} {c : Code} {b L : Nat} {xs : Nat → Int32} {D : va_G} {dA : Nat → ClassId} {K : Kmap} {V : Vmap} {cells slots x m0 : Nat} {i : Int} (hI : LI K V x m0) (hR : REL K V x m0) (hL : L ≤ 4096) (h0 : 0 ≤ i) (h8 : i + 8 ≤ L) (hcs : cells + 8 ≤ 600000 ∧ slots + 2704 ≤ 7302250) (kk : ∀ (K1 : Kmap) (V1 : Vmap), LI K1 V1 x m0 → REL K1 V1 x m0 → LG p l e s m below meth c b L xs D dA K1 V1 (cells + 8) (slots + 2704) 2745 [some (.ref b), some (.ref x), some (.ref m0), some (ti i)] []) : LG p l e s m below meth c b L xs D dA K V cells slots 2722 [some (.ref b), some (.ref x), some (.ref m0), some (ti i)] [] := by
  have hR0 := hR.1
  have hA0 := hR.2.1
  have hT0 := hR.2.2.1
  have hY0 := hR.2.2.2.1
  have hP0 := hR.2.2.2.2.1
  have hK0 := hR.2.2.2.2.2.1
  have hS0 := hR.2.2.2.2.2.2
  unfold RLI at hR0
  refine LG.aload_n dL_law_2722 rfl rfl ?_
  refine LG.aload_n dL_law_2723 rfl rfl ?_
  refine LG.iload_n dL_law_2724 rfl rfl ?_
  refine LG.iconst dL_law_2725 ?_
  refine LG.iadd dL_law_2726 ?_
  refine LG.sld (Y := i + 1) dL_law_2727 (by omega) (by omega) hL ?_
  refine LG.useWT (fun hW => ?_)
  refine LG.callV (ci := 10) (N := mX11_count) (As := [ti (xv xs (i + 1))]) dL_law_2728 (RX11, TX11, 20) rfl gV_RL_271 hI.1 (t_X11_count hI.1 xv_ir) rfl [] rfl rfl (le_cs hcs rfl) (Nat.le_of_ble_eq_true rfl) (g_ip fun X7 K1 V2 r3 h4 hE5 hF6 => ?_)
  have hI10 : LI K1 V2 x m0 := ⟨hE5.obj (by decide) hI.1, hE5.obj (by decide) hI.2.1, (GX.frx hF6 hE5 hI.2.2.1 hW hI.2.1 (by decide +kernel)), (PX0.frx hF6 hE5 hI.2.2.2.1 hW hI.2.1 (by decide +kernel)), (NN.frx 4 3 4 rfl rfl hF6 hE5 hI.2.2.2.2.1 hW hI.1 (by decide +kernel)), (NN.frx 10 9 7 rfl rfl hF6 hE5 hI.2.2.2.2.2.1 hW hI.1 (by decide +kernel)), (PI.frx hI.2.2.2.2.2.2.1 hF6 hE5 hW hI.1 hI.2.2.2.2.1 (by decide +kernel)), (CWI.fr hI.2.2.2.2.2.2.2 hF6 hE5 hW hI.1 (by decide +kernel) (by decide +kernel) (by decide +kernel))⟩
  have hWp11 := hW
  have hY12 : YRL V2 x m0 := YRL.frx hY0 hF6 hE5 hW hI.1 hI.2.1 hI.2.2.2.2.1 (by decide +kernel) (by decide +kernel)
  have hT13 : TXE K1 V2 x m0 := TXE.frx hT0 hF6 hE5 hW hI.1 hI.2.1 (by decide +kernel)
  have hA14 : AB V2 x m0 := AB.frx hA0 hF6 hE5 hW hI.1 hI.2.1 hI.2.2.2.2.1 (by decide +kernel) (by decide +kernel) (Int.le_of_eq (vi_fr hF6 hI.2.1 (hE5.obj (by decide) hI.2.1) (by decide +kernel)).symm)
  have s15 : tdy V2 x = tdy V x := tdy_fr hF6 hE5 hW hI.1 (by decide +kernel) (by decide +kernel)
  have s16 : wsz V2 x = wsz V x := wsz_fr hF6 hE5 hW hI.1 (by decide +kernel) (by decide +kernel)
  have s17 : csz V2 x = csz V x := csz_fr hF6 hE5 hW hI.1 (by decide +kernel) (by decide +kernel)
  have s18 : dsz V2 x = dsz V x := dsz_fr hF6 hE5 hW hI.1 (by decide +kernel) (by decide +kernel)
  clear hW
  have s19 : vi V2 x 4 = vi V x 4 := vi_fr hF6 hI.1 (hE5.obj (by decide) hI.1) (by decide +kernel)
  have s20 : vi V2 x 10 = vi V x 10 := vi_fr hF6 hI.1 (hE5.obj (by decide) hI.1) (by decide +kernel)
  have s21 : vi V2 m0 9 = vi V m0 9 := vi_fr hF6 hI.2.1 (hE5.obj (by decide) hI.2.1) (by decide +kernel)
  have s22 : vi V2 m0 2 = vi V m0 2 := vi_fr hF6 hI.2.1 (hE5.obj (by decide) hI.2.1) (by decide +kernel)
  have s23 : vi V2 m0 91 = vi V m0 91 := vi_fr hF6 hI.2.1 (hE5.obj (by decide) hI.2.1) (by decide +kernel)
  have s24 : vi V2 m0 133 = vi V m0 133 := vi_fr hF6 hI.2.1 (hE5.obj (by decide) hI.2.1) (by decide +kernel)
  have s25 : vi V2 m0 120 = vi V m0 120 := vi_fr hF6 hI.2.1 (hE5.obj (by decide) hI.2.1) (by decide +kernel)
  have s26 : vi V2 x 8 = vi V x 8 := vi_fr hF6 hI.1 (hE5.obj (by decide) hI.1) (by decide +kernel)
  have s27 : vi V2 m0 66 = vi V m0 66 := vi_fr hF6 hI.2.1 (hE5.obj (by decide) hI.2.1) (by decide +kernel)
  have s28 : vi V2 m0 118 = vi V m0 118 := vi_fr hF6 hI.2.1 (hE5.obj (by decide) hI.2.1) (by decide +kernel)
  have hS29 : STE V2 x m0 := STE.frx hS0 hF6 hE5 hWp11 hI.1 hI.2.1 (by decide +kernel) (by decide +kernel)
  have hK30 : WKE V2 x m0 := WKE.frx hK0 hF6 hE5 hWp11 hI.1 hI.2.1 (by decide +kernel) (by decide +kernel)
  have hP31 : PLE V2 x m0 := PLE.frx hP0 hF6 hE5 hWp11 hI.1 hI.2.1 (by omega) (by decide +kernel) (by decide +kernel) (by decide +kernel) (by decide +kernel) (by decide +kernel) (by decide +kernel)
  refine LG.pop dL_law_2731 rfl ?_
  refine LG.aload_n dL_law_2732 rfl rfl ?_
  refine LG.aload_n dL_law_2733 rfl rfl ?_
  refine LG.iload_n dL_law_2734 rfl rfl ?_
  refine LG.iconst dL_law_2735 ?_
  refine LG.iadd dL_law_2736 ?_
  refine LG.sld (Y := i + 1) dL_law_2737 (by omega) (by omega) hL ?_
  refine LG.useWT (fun hW => ?_)
  refine LG.callV (ci := 11) (N := mX12_count) (As := [ti (xv xs (i + 1))]) dL_law_2738 (RX12, TX12, 151) rfl gV_RL_274 hI10.2.1 (t_X12_count hI10.2.1 xv_ir) rfl [] rfl rfl (le_csb hcs rfl) (Nat.le_of_ble_eq_true rfl) (g_ip fun X38 K32 V33 r34 h35 hE36 hF37 => ?_)
  have hI41 : LI K32 V33 x m0 := ⟨hE36.obj (by decide) hI10.1, hE36.obj (by decide) hI10.2.1, (GX.frx hF37 hE36 hI10.2.2.1 hW hI10.2.1 (by decide +kernel)), (PX0.frx hF37 hE36 hI10.2.2.2.1 hW hI10.2.1 (by decide +kernel)), (NN.frx 4 3 4 rfl rfl hF37 hE36 hI10.2.2.2.2.1 hW hI10.1 (by decide +kernel)), (NN.frx 10 9 7 rfl rfl hF37 hE36 hI10.2.2.2.2.2.1 hW hI10.1 (by decide +kernel)), (PI.frx hI10.2.2.2.2.2.2.1 hF37 hE36 hW hI10.1 hI10.2.2.2.2.1 (by decide +kernel)), (CWI.fr hI10.2.2.2.2.2.2.2 hF37 hE36 hW hI10.1 (by decide +kernel) (by decide +kernel) (by decide +kernel))⟩
  have hWp42 := hW
  have hY43 : YRL V33 x m0 := YRL.frx hY12 hF37 hE36 hW hI10.1 hI10.2.1 hI10.2.2.2.2.1 (by decide +kernel) (by decide +kernel)
  have hT44 : TXE K32 V33 x m0 := TXE.frx hT13 hF37 hE36 hW hI10.1 hI10.2.1 (by decide +kernel)
  have hA45 : AB V33 x m0 := AB.frx hA14 hF37 hE36 hW hI10.1 hI10.2.1 hI10.2.2.2.2.1 (by decide +kernel) (by decide +kernel) (Int.le_of_eq (vi_fr hF37 hI10.2.1 (hE36.obj (by decide) hI10.2.1) (by decide +kernel)).symm)
  have s46 : tdy V33 x = tdy V2 x := tdy_fr hF37 hE36 hW hI10.1 (by decide +kernel) (by decide +kernel)
  have s47 : wsz V33 x = wsz V2 x := wsz_fr hF37 hE36 hW hI10.1 (by decide +kernel) (by decide +kernel)
  have s48 : csz V33 x = csz V2 x := csz_fr hF37 hE36 hW hI10.1 (by decide +kernel) (by decide +kernel)
  have s49 : dsz V33 x = dsz V2 x := dsz_fr hF37 hE36 hW hI10.1 (by decide +kernel) (by decide +kernel)
  clear hW
  have s50 : vi V33 x 4 = vi V2 x 4 := vi_fr hF37 hI10.1 (hE36.obj (by decide) hI10.1) (by decide +kernel)
  have s51 : vi V33 x 10 = vi V2 x 10 := vi_fr hF37 hI10.1 (hE36.obj (by decide) hI10.1) (by decide +kernel)
  have s52 : vi V33 m0 9 = vi V2 m0 9 := vi_fr hF37 hI10.2.1 (hE36.obj (by decide) hI10.2.1) (by decide +kernel)
  have s53 : vi V33 m0 2 = vi V2 m0 2 := vi_fr hF37 hI10.2.1 (hE36.obj (by decide) hI10.2.1) (by decide +kernel)
  have s54 : vi V33 m0 91 = vi V2 m0 91 := vi_fr hF37 hI10.2.1 (hE36.obj (by decide) hI10.2.1) (by decide +kernel)
  have s55 : vi V33 m0 133 = vi V2 m0 133 := vi_fr hF37 hI10.2.1 (hE36.obj (by decide) hI10.2.1) (by decide +kernel)
  have s56 : vi V33 m0 120 = vi V2 m0 120 := vi_fr hF37 hI10.2.1 (hE36.obj (by decide) hI10.2.1) (by decide +kernel)
  have s57 : vi V33 x 8 = vi V2 x 8 := vi_fr hF37 hI10.1 (hE36.obj (by decide) hI10.1) (by decide +kernel)
  have s58 : vi V33 m0 66 = vi V2 m0 66 := vi_fr hF37 hI10.2.1 (hE36.obj (by decide) hI10.2.1) (by decide +kernel)
  have s59 : vi V33 m0 118 = vi V2 m0 118 := vi_fr hF37 hI10.2.1 (hE36.obj (by decide) hI10.2.1) (by decide +kernel)
  have hS60 : STE V33 x m0 := STE.frx hS29 hF37 hE36 hWp42 hI10.1 hI10.2.1 (by decide +kernel) (by decide +kernel)
  have hK61 : WKE V33 x m0 := WKE.frx hK30 hF37 hE36 hWp42 hI10.1 hI10.2.1 (by decide +kernel) (by decide +kernel)
  have hP62 : PLE V33 x m0 := PLE.frx hP31 hF37 hE36 hWp42 hI10.1 hI10.2.1 (by omega) (by decide +kernel) (by decide +kernel) (by decide +kernel) (by decide +kernel) (by decide +kernel) (by decide +kernel)
  refine LG.pop dL_law_2741 rfl ?_
  refine LG.goto (tgt := 2745) dL_law_2742 (by decide) ?_
  exact LG.widen (le_cs3 rfl) (kk _ _ hI41 (⟨by unfold RLI; omega, hA45, hT44, hY43, hP62, hK61, hS60⟩))
