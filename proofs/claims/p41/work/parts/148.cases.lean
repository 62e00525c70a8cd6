set_option maxHeartbeats 2000000 in
theorem law_case_32 {p : Program} {l : Launch} {e : Env} {s : State} {m : MethodId} {below : List Frame} {meth : Method} {c : Code} {b L : Nat} {xs : Nat → Int32} {D : va_G} {dA : Nat → ClassId} {K : Kmap} {V : Vmap} {cells slots x m0 : Nat} {i : Int} (hI : LI K V x m0) (hR : REL K V x m0) (hL : L ≤ 4096) (h0 : 0 ≤ i) (h8 : i + 8 ≤ L) (hcs : cells + 8 ≤ 600000 ∧ slots + 2704 ≤ 7302250) (kk : ∀ (K1 : Kmap) (V1 : Vmap), LI K1 V1 x m0 → REL K1 V1 x m0 → LG p l e s m below meth c b L xs D dA K1 V1 (cells + 8) (slots + 2704) 2745 [some (.ref b), some (.ref x), some (.ref m0), some (ti i)] []) : LG p l e s m below meth c b L xs D dA K V cells slots 1732 [some (.ref b), some (.ref x), some (.ref m0), some (ti i)] [] := by
  have hR0 := hR.1
  have hA0 := hR.2.1
  have hT0 := hR.2.2.1
  have hY0 := hR.2.2.2.1
  have hP0 := hR.2.2.2.2.1
  have hK0 := hR.2.2.2.2.2.1
  have hS0 := hR.2.2.2.2.2.2
  unfold RLI at hR0
  refine LG.aload_n dL_law_1732 rfl rfl ?_
  refine LG.aload_n dL_law_1733 rfl rfl ?_
  refine LG.iload_n dL_law_1734 rfl rfl ?_
  refine LG.iconst dL_law_1735 ?_
  refine LG.iadd dL_law_1736 ?_
  refine LG.sld (Y := i + 1) dL_law_1737 (by omega) (by omega) hL ?_
  refine LG.aload_n dL_law_1738 rfl rfl ?_
  refine LG.iload_n dL_law_1739 rfl rfl ?_
  refine LG.iconst dL_law_1740 ?_
  refine LG.iadd dL_law_1741 ?_
  refine LG.sld (Y := i + 2) dL_law_1742 (by omega) (by omega) hL ?_
  refine LG.useWT (fun hW => ?_)
  refine LG.callV (ci := 10) (N := mX11_visit) (As := [ti (xv xs (i + 1)), ti (xv xs (i + 2))]) dL_law_1743 (RX11, TX11, 20) rfl gV_RL_155 hI.1 (t_X11_visit hI.1 xv_ir xv_ir) rfl [] rfl rfl (le_cs hcs rfl) (Nat.le_of_ble_eq_true rfl) (g_is fun X7 K1 V2 r3 h4 hE5 hF6 => ?_)
  have hI10 : LI K1 V2 x m0 := ⟨hE5.obj (by decide) hI.1, hE5.obj (by decide) hI.2.1, (GX.frx hF6 hE5 hI.2.2.1 hW hI.2.1 (by decide +kernel)), (PX0.frx hF6 hE5 hI.2.2.2.1 hW hI.2.1 (by decide +kernel)), (NN.frx 4 3 4 rfl rfl hF6 hE5 hI.2.2.2.2.1 hW hI.1 (by decide +kernel)), (NN.frx 10 9 7 rfl rfl hF6 hE5 hI.2.2.2.2.2.1 hW hI.1 (by decide +kernel)), (PI.frx hI.2.2.2.2.2.2.1 hF6 hE5 hW hI.1 hI.2.2.2.2.1 (by decide +kernel)), (CWI.fr hI.2.2.2.2.2.2.2 hF6 hE5 hW hI.1 (by decide +kernel) (by decide +kernel) (by decide +kernel))⟩
  have hWp11 := hW
  have hY12 : YRL V2 x m0 := YRL.frx hY0 hF6 hE5 hW hI.1 hI.2.1 hI.2.2.2.2.1 (by decide +kernel) (by decide +kernel)
  have hT13 : TXE K1 V2 x m0 := TXE.frx hT0 hF6 hE5 hW hI.1 hI.2.1 (by decide +kernel)
  have hA14 : AB V2 x m0 := AB.frx hA0 hF6 hE5 hW hI.1 hI.2.1 hI.2.2.2.2.1 (by decide +kernel) (by decide +kernel) (Int.le_of_eq (vi_fr hF6 hI.2.1 (hE5.obj (by decide) hI.2.1) (by decide +kernel)).symm)
  have s15 : tdy V2 x = tdy V x := tdy_fr hF6 hE5 hW hI.1 (by decide +kernel) (by decide +kernel)
  have s16 : wsz V2 x = wsz V x := wsz_fr hF6 hE5 hW hI.1 (by decide +kernel) (by decide +kernel)
  have s17 : csz V2 x = csz V x := csz_fr hF6 hE5 hW hI.1 (by decide +kernel) (by decide +kernel)
  have s18 : dsz V2 x = dsz V x := dsz_fr hF6 hE5 hW hI.1 (by decide +kernel) (by decide +kernel)
  clear hW
  have s19 : vi V2 x 4 = vi V x 4 := vi_fr hF6 hI.1 (hE5.obj (by decide) hI.1) (by decide +kernel)
  have s20 : vi V2 x 10 = vi V x 10 := vi_fr hF6 hI.1 (hE5.obj (by decide) hI.1) (by decide +kernel)
  have s21 : vi V2 m0 9 = vi V m0 9 := vi_fr hF6 hI.2.1 (hE5.obj (by decide) hI.2.1) (by decide +kernel)
  have s22 : vi V2 m0 2 = vi V m0 2 := vi_fr hF6 hI.2.1 (hE5.obj (by decide) hI.2.1) (by decide +kernel)
  have s23 : vi V2 m0 91 = vi V m0 91 := vi_fr hF6 hI.2.1 (hE5.obj (by decide) hI.2.1) (by decide +kernel)
  have s24 : vi V2 m0 133 = vi V m0 133 := vi_fr hF6 hI.2.1 (hE5.obj (by decide) hI.2.1) (by decide +kernel)
  have s25 : vi V2 m0 120 = vi V m0 120 := vi_fr hF6 hI.2.1 (hE5.obj (by decide) hI.2.1) (by decide +kernel)
  have s26 : vi V2 x 8 = vi V x 8 := vi_fr hF6 hI.1 (hE5.obj (by decide) hI.1) (by decide +kernel)
  have s27 : vi V2 m0 66 = vi V m0 66 := vi_fr hF6 hI.2.1 (hE5.obj (by decide) hI.2.1) (by decide +kernel)
  have s28 : vi V2 m0 118 = vi V m0 118 := vi_fr hF6 hI.2.1 (hE5.obj (by decide) hI.2.1) (by decide +kernel)
  have hS29 : STE V2 x m0 := STE.frx hS0 hF6 hE5 hWp11 hI.1 hI.2.1 (by decide +kernel) (by decide +kernel)
  have hK30 : WKE V2 x m0 := WKE.frx hK0 hF6 hE5 hWp11 hI.1 hI.2.1 (by decide +kernel) (by decide +kernel)
  have hP31 : PLE V2 x m0 := PLE.frx hP0 hF6 hE5 hWp11 hI.1 hI.2.1 (by omega) (by decide +kernel) (by decide +kernel) (by decide +kernel) (by decide +kernel) (by decide +kernel) (by decide +kernel)
  refine LG.pop dL_law_1746 rfl ?_
  refine LG.aload_n dL_law_1747 rfl rfl ?_
  refine LG.aload_n dL_law_1748 rfl rfl ?_
  refine LG.iload_n dL_law_1749 rfl rfl ?_
  refine LG.iconst dL_law_1750 ?_
  refine LG.iadd dL_law_1751 ?_
  refine LG.sld (Y := i + 1) dL_law_1752 (by omega) (by omega) hL ?_
  refine LG.aload_n dL_law_1753 rfl rfl ?_
  refine LG.iload_n dL_law_1754 rfl rfl ?_
  refine LG.iconst dL_law_1755 ?_
  refine LG.iadd dL_law_1756 ?_
  refine LG.sld (Y := i + 2) dL_law_1757 (by omega) (by omega) hL ?_
  refine LG.useWT (fun hW => ?_)
  refine LG.callV (ci := 11) (N := mX12_visit) (As := [ti (xv xs (i + 1)), ti (xv xs (i + 2))]) dL_law_1758 (RX12, TX12, 151) rfl gV_RL_158 hI10.2.1 (t_X12_visit hI10.2.1 xv_ir xv_ir) rfl [] rfl rfl (le_csb hcs rfl) (Nat.le_of_ble_eq_true rfl) (g_is fun X38 K32 V33 r34 h35 hE36 hF37 => ?_)
  have hI41 : LI K32 V33 x m0 := ⟨hE36.obj (by decide) hI10.1, hE36.obj (by decide) hI10.2.1, (GX.frx hF37 hE36 hI10.2.2.1 hW hI10.2.1 (by decide +kernel)), (PX0.frx hF37 hE36 hI10.2.2.2.1 hW hI10.2.1 (by decide +kernel)), (NN.frx 4 3 4 rfl rfl hF37 hE36 hI10.2.2.2.2.1 hW hI10.1 (by decide +kernel)), (NN.frx 10 9 7 rfl rfl hF37 hE36 hI10.2.2.2.2.2.1 hW hI10.1 (by decide +kernel)), (PI.frx hI10.2.2.2.2.2.2.1 hF37 hE36 hW hI10.1 hI10.2.2.2.2.1 (by decide +kernel)), (CWI.fr hI10.2.2.2.2.2.2.2 hF37 hE36 hW hI10.1 (by decide +kernel) (by decide +kernel) (by decide +kernel))⟩
  have hWp42 := hW
  have hY43 : YRL V33 x m0 := YRL.frx hY12 hF37 hE36 hW hI10.1 hI10.2.1 hI10.2.2.2.2.1 (by decide +kernel) (by decide +kernel)
  have hT44 : TXE K32 V33 x m0 := TXE.frx hT13 hF37 hE36 hW hI10.1 hI10.2.1 (by decide +kernel)
  have hA45 : AB V33 x m0 := AB.frx hA14 hF37 hE36 hW hI10.1 hI10.2.1 hI10.2.2.2.2.1 (by decide +kernel) (by decide +kernel) (Int.le_of_eq (vi_fr hF37 hI10.2.1 (hE36.obj (by decide) hI10.2.1) (by decide +kernel)).symm)
  have s46 : tdy V33 x = tdy V2 x := tdy_fr hF37 hE36 hW hI10.1 (by decide +kernel) (by decide +kernel)
  have s47 : wsz V33 x = wsz V2 x := wsz_fr hF37 hE36 hW hI10.1 (by decide +kernel) (by decide +kernel)
  have s48 : csz V33 x = csz V2 x := csz_fr hF37 hE36 hW hI10.1 (by decide +kernel) (by decide +kernel)
  have s49 : dsz V33 x = dsz V2 x := dsz_fr hF37 hE36 hW hI10.1 (by decide +kernel) (by decide +kernel)
  clear hW
  have s50 : vi V33 x 4 = vi V2 x 4 := vi_fr hF37 hI10.1 (hE36.obj (by decide) hI10.1) (by decide +kernel)
  have s51 : vi V33 x 10 = vi V2 x 10 := vi_fr hF37 hI10.1 (hE36.obj (by decide) hI10.1) (by decide +kernel)
  have s52 : vi V33 m0 9 = vi V2 m0 9 := vi_fr hF37 hI10.2.1 (hE36.obj (by decide) hI10.2.1) (by decide +kernel)
  have s53 : vi V33 m0 2 = vi V2 m0 2 := vi_fr hF37 hI10.2.1 (hE36.obj (by decide) hI10.2.1) (by decide +kernel)
  have s54 : vi V33 m0 91 = vi V2 m0 91 := vi_fr hF37 hI10.2.1 (hE36.obj (by decide) hI10.2.1) (by decide +kernel)
  have s55 : vi V33 m0 133 = vi V2 m0 133 := vi_fr hF37 hI10.2.1 (hE36.obj (by decide) hI10.2.1) (by decide +kernel)
  have s56 : vi V33 m0 120 = vi V2 m0 120 := vi_fr hF37 hI10.2.1 (hE36.obj (by decide) hI10.2.1) (by decide +kernel)
  have s57 : vi V33 x 8 = vi V2 x 8 := vi_fr hF37 hI10.1 (hE36.obj (by decide) hI10.1) (by decide +kernel)
  have s58 : vi V33 m0 66 = vi V2 m0 66 := vi_fr hF37 hI10.2.1 (hE36.obj (by decide) hI10.2.1) (by decide +kernel)
  have s59 : vi V33 m0 118 = vi V2 m0 118 := vi_fr hF37 hI10.2.1 (hE36.obj (by decide) hI10.2.1) (by decide +kernel)
  have hS60 : STE V33 x m0 := STE.frx hS29 hF37 hE36 hWp42 hI10.1 hI10.2.1 (by decide +kernel) (by decide +kernel)
  have hK61 : WKE V33 x m0 := WKE.frx hK30 hF37 hE36 hWp42 hI10.1 hI10.2.1 (by decide +kernel) (by decide +kernel)
  have hP62 : PLE V33 x m0 := PLE.frx hP31 hF37 hE36 hWp42 hI10.1 hI10.2.1 (by omega) (by decide +kernel) (by decide +kernel) (by decide +kernel) (by decide +kernel) (by decide +kernel) (by decide +kernel)
  refine LG.pop dL_law_1761 rfl ?_
  refine LG.goto (tgt := 2745) dL_law_1762 (by decide) ?_
  exact LG.widen (le_cs3 rfl) (kk _ _ hI41 (⟨by unfold RLI; omega, hA45, hT44, hY43, hP62, hK61, hS60⟩))

set_option maxHeartbeats 2000000 in
theorem law_case_33 {p : Program} {l : Launch} {e : Env} {s : State} {m : MethodId} {below : List Frame} {meth : Method} {c : Code} {b L : Nat} {xs : Nat → Int32} {D : va_G} {dA : Nat → ClassId} {K : Kmap} {V : Vmap} {cells slots x m0 : Nat} {i : Int} (hI : LI K V x m0) (hR : REL K V x m0) (hL : L ≤ 4096) (h0 : 0 ≤ i) (h8 : i + 8 ≤ L) (hcs : cells + 8 ≤ 600000 ∧ slots + 2704 ≤ 7302250) (kk : ∀ (K1 : Kmap) (V1 : Vmap), LI K1 V1 x m0 → REL K1 V1 x m0 → LG p l e s m below meth c b L xs D dA K1 V1 (cells + 8) (slots + 2704) 2745 [some (.ref b), some (.ref x), some (.ref m0), some (ti i)] []) : LG p l e s m below meth c b L xs D dA K V cells slots 1765 [some (.ref b), some (.ref x), some (.ref m0), some (ti i)] [] := by
  have hR0 := hR.1
  have hA0 := hR.2.1
  have hT0 := hR.2.2.1
  have hY0 := hR.2.2.2.1
  have hP0 := hR.2.2.2.2.1
  have hK0 := hR.2.2.2.2.2.1
  have hS0 := hR.2.2.2.2.2.2
  unfold RLI at hR0
  refine LG.aload_n dL_law_1765 rfl rfl ?_
  refine LG.aload_n dL_law_1766 rfl rfl ?_
  refine LG.iload_n dL_law_1767 rfl rfl ?_
  refine LG.iconst dL_law_1768 ?_
  refine LG.iadd dL_law_1769 ?_
  refine LG.sld (Y := i + 1) dL_law_1770 (by omega) (by omega) hL ?_
  refine LG.aload_n dL_law_1771 rfl rfl ?_
  refine LG.iload_n dL_law_1772 rfl rfl ?_
  refine LG.iconst dL_law_1773 ?_
  refine LG.iadd dL_law_1774 ?_
  refine LG.sld (Y := i + 2) dL_law_1775 (by omega) (by omega) hL ?_
  refine LG.useWT (fun hW => ?_)
  refine LG.callV (ci := 10) (N := mX11_seen) (As := [ti (xv xs (i + 1)), ti (xv xs (i + 2))]) dL_law_1776 (RX11, TX11, 20) rfl gV_RL_159 hI.1 (t_X11_seen hI.1 xv_ir xv_ir) rfl [] rfl rfl (le_cs hcs rfl) (Nat.le_of_ble_eq_true rfl) (g_ip fun X7 K1 V2 r3 h4 hE5 hF6 => ?_)
  have hI10 : LI K1 V2 x m0 := ⟨hE5.obj (by decide) hI.1, hE5.obj (by decide) hI.2.1, (GX.frx hF6 hE5 hI.2.2.1 hW hI.2.1 (by decide +kernel)), (PX0.frx hF6 hE5 hI.2.2.2.1 hW hI.2.1 (by decide +kernel)), (NN.frx 4 3 4 rfl rfl hF6 hE5 hI.2.2.2.2.1 hW hI.1 (by decide +kernel)), (NN.frx 10 9 7 rfl rfl hF6 hE5 hI.2.2.2.2.2.1 hW hI.1 (by decide +kernel)), (PI.frx hI.2.2.2.2.2.2.1 hF6 hE5 hW hI.1 hI.2.2.2.2.1 (by decide +kernel)), (CWI.fr hI.2.2.2.2.2.2.2 hF6 hE5 hW hI.1 (by decide +kernel) (by decide +kernel) (by decide +kernel))⟩
  have hWp11 := hW
  have hY12 : YRL V2 x m0 := YRL.frx hY0 hF6 hE5 hW hI.1 hI.2.1 hI.2.2.2.2.1 (by decide +kernel) (by decide +kernel)
  have hT13 : TXE K1 V2 x m0 := TXE.frx hT0 hF6 hE5 hW hI.1 hI.2.1 (by decide +kernel)
  have hA14 : AB V2 x m0 := AB.frx hA0 hF6 hE5 hW hI.1 hI.2.1 hI.2.2.2.2.1 (by decide +kernel) (by decide +kernel) (Int.le_of_eq (vi_fr hF6 hI.2.1 (hE5.obj (by decide) hI.2.1) (by decide +kernel)).symm)
  have s15 : tdy V2 x = tdy V x := tdy_fr hF6 hE5 hW hI.1 (by decide +kernel) (by decide +kernel)
  have s16 : wsz V2 x = wsz V x := wsz_fr hF6 hE5 hW hI.1 (by decide +kernel) (by decide +kernel)
  have s17 : csz V2 x = csz V x := csz_fr hF6 hE5 hW hI.1 (by decide +kernel) (by decide +kernel)
  have s18 : dsz V2 x = dsz V x := dsz_fr hF6 hE5 hW hI.1 (by decide +kernel) (by decide +kernel)
  clear hW
  have s19 : vi V2 x 4 = vi V x 4 := vi_fr hF6 hI.1 (hE5.obj (by decide) hI.1) (by decide +kernel)
  have s20 : vi V2 x 10 = vi V x 10 := vi_fr hF6 hI.1 (hE5.obj (by decide) hI.1) (by decide +kernel)
  have s21 : vi V2 m0 9 = vi V m0 9 := vi_fr hF6 hI.2.1 (hE5.obj (by decide) hI.2.1) (by decide +kernel)
  have s22 : vi V2 m0 2 = vi V m0 2 := vi_fr hF6 hI.2.1 (hE5.obj (by decide) hI.2.1) (by decide +kernel)
  have s23 : vi V2 m0 91 = vi V m0 91 := vi_fr hF6 hI.2.1 (hE5.obj (by decide) hI.2.1) (by decide +kernel)
  have s24 : vi V2 m0 133 = vi V m0 133 := vi_fr hF6 hI.2.1 (hE5.obj (by decide) hI.2.1) (by decide +kernel)
  have s25 : vi V2 m0 120 = vi V m0 120 := vi_fr hF6 hI.2.1 (hE5.obj (by decide) hI.2.1) (by decide +kernel)
  have s26 : vi V2 x 8 = vi V x 8 := vi_fr hF6 hI.1 (hE5.obj (by decide) hI.1) (by decide +kernel)
  have s27 : vi V2 m0 66 = vi V m0 66 := vi_fr hF6 hI.2.1 (hE5.obj (by decide) hI.2.1) (by decide +kernel)
  have s28 : vi V2 m0 118 = vi V m0 118 := vi_fr hF6 hI.2.1 (hE5.obj (by decide) hI.2.1) (by decide +kernel)
  have hS29 : STE V2 x m0 := STE.frx hS0 hF6 hE5 hWp11 hI.1 hI.2.1 (by decide +kernel) (by decide +kernel)
  have hK30 : WKE V2 x m0 := WKE.frx hK0 hF6 hE5 hWp11 hI.1 hI.2.1 (by decide +kernel) (by decide +kernel)
  have hP31 : PLE V2 x m0 := PLE.frx hP0 hF6 hE5 hWp11 hI.1 hI.2.1 (by omega) (by decide +kernel) (by decide +kernel) (by decide +kernel) (by decide +kernel) (by decide +kernel) (by decide +kernel)
  refine LG.pop dL_law_1779 rfl ?_
  refine LG.aload_n dL_law_1780 rfl rfl ?_
  refine LG.aload_n dL_law_1781 rfl rfl ?_
  refine LG.iload_n dL_law_1782 rfl rfl ?_
  refine LG.iconst dL_law_1783 ?_
  refine LG.iadd dL_law_1784 ?_
  refine LG.sld (Y := i + 1) dL_law_1785 (by omega) (by omega) hL ?_
  refine LG.aload_n dL_law_1786 rfl rfl ?_
  refine LG.iload_n dL_law_1787 rfl rfl ?_
  refine LG.iconst dL_law_1788 ?_
  refine LG.iadd dL_law_1789 ?_
  refine LG.sld (Y := i + 2) dL_law_1790 (by omega) (by omega) hL ?_
  refine LG.useWT (fun hW => ?_)
  refine LG.callV (ci := 11) (N := mX12_seen) (As := [ti (xv xs (i + 1)), ti (xv xs (i + 2))]) dL_law_1791 (RX12, TX12, 151) rfl gV_RL_162 hI10.2.1 (t_X12_seen hI10.2.1 xv_ir xv_ir) rfl [] rfl rfl (le_csb hcs rfl) (Nat.le_of_ble_eq_true rfl) (g_ip fun X38 K32 V33 r34 h35 hE36 hF37 => ?_)
  have hI41 : LI K32 V33 x m0 := ⟨hE36.obj (by decide) hI10.1, hE36.obj (by decide) hI10.2.1, (GX.frx hF37 hE36 hI10.2.2.1 hW hI10.2.1 (by decide +kernel)), (PX0.frx hF37 hE36 hI10.2.2.2.1 hW hI10.2.1 (by decide +kernel)), (NN.frx 4 3 4 rfl rfl hF37 hE36 hI10.2.2.2.2.1 hW hI10.1 (by decide +kernel)), (NN.frx 10 9 7 rfl rfl hF37 hE36 hI10.2.2.2.2.2.1 hW hI10.1 (by decide +kernel)), (PI.frx hI10.2.2.2.2.2.2.1 hF37 hE36 hW hI10.1 hI10.2.2.2.2.1 (by decide +kernel)), (CWI.fr hI10.2.2.2.2.2.2.2 hF37 hE36 hW hI10.1 (by decide +kernel) (by decide +kernel) (by decide +kernel))⟩
  have hWp42 := hW
  have hY43 : YRL V33 x m0 := YRL.frx hY12 hF37 hE36 hW hI10.1 hI10.2.1 hI10.2.2.2.2.1 (by decide +kernel) (by decide +kernel)
  have hT44 : TXE K32 V33 x m0 := TXE.frx hT13 hF37 hE36 hW hI10.1 hI10.2.1 (by decide +kernel)
  have hA45 : AB V33 x m0 := AB.frx hA14 hF37 hE36 hW hI10.1 hI10.2.1 hI10.2.2.2.2.1 (by decide +kernel) (by decide +kernel) (Int.le_of_eq (vi_fr hF37 hI10.2.1 (hE36.obj (by decide) hI10.2.1) (by decide +kernel)).symm)
  have s46 : tdy V33 x = tdy V2 x := tdy_fr hF37 hE36 hW hI10.1 (by decide +kernel) (by decide +kernel)
  have s47 : wsz V33 x = wsz V2 x := wsz_fr hF37 hE36 hW hI10.1 (by decide +kernel) (by decide +kernel)
  have s48 : csz V33 x = csz V2 x := csz_fr hF37 hE36 hW hI10.1 (by decide +kernel) (by decide +kernel)
  have s49 : dsz V33 x = dsz V2 x := dsz_fr hF37 hE36 hW hI10.1 (by decide +kernel) (by decide +kernel)
  clear hW
  have s50 : vi V33 x 4 = vi V2 x 4 := vi_fr hF37 hI10.1 (hE36.obj (by decide) hI10.1) (by decide +kernel)
  have s51 : vi V33 x 10 = vi V2 x 10 := vi_fr hF37 hI10.1 (hE36.obj (by decide) hI10.1) (by decide +kernel)
  have s52 : vi V33 m0 9 = vi V2 m0 9 := vi_fr hF37 hI10.2.1 (hE36.obj (by decide) hI10.2.1) (by decide +kernel)
  have s53 : vi V33 m0 2 = vi V2 m0 2 := vi_fr hF37 hI10.2.1 (hE36.obj (by decide) hI10.2.1) (by decide +kernel)
  have s54 : vi V33 m0 91 = vi V2 m0 91 := vi_fr hF37 hI10.2.1 (hE36.obj (by decide) hI10.2.1) (by decide +kernel)
  have s55 : vi V33 m0 133 = vi V2 m0 133 := vi_fr hF37 hI10.2.1 (hE36.obj (by decide) hI10.2.1) (by decide +kernel)
  have s56 : vi V33 m0 120 = vi V2 m0 120 := vi_fr hF37 hI10.2.1 (hE36.obj (by decide) hI10.2.1) (by decide +kernel)
  have s57 : vi V33 x 8 = vi V2 x 8 := vi_fr hF37 hI10.1 (hE36.obj (by decide) hI10.1) (by decide +kernel)
  have s58 : vi V33 m0 66 = vi V2 m0 66 := vi_fr hF37 hI10.2.1 (hE36.obj (by decide) hI10.2.1) (by decide +kernel)
  have s59 : vi V33 m0 118 = vi V2 m0 118 := vi_fr hF37 hI10.2.1 (hE36.obj (by decide) hI10.2.1) (by decide +kernel)
  have hS60 : STE V33 x m0 := STE.frx hS29 hF37 hE36 hWp42 hI10.1 hI10.2.1 (by decide +kernel) (by decide +kernel)
  have hK61 : WKE V33 x m0 := WKE.frx hK30 hF37 hE36 hWp42 hI10.1 hI10.2.1 (by decide +kernel) (by decide +kernel)
  have hP62 : PLE V33 x m0 := PLE.frx hP31 hF37 hE36 hWp42 hI10.1 hI10.2.1 (by omega) (by decide +kernel) (by decide +kernel) (by decide +kernel) (by decide +kernel) (by decide +kernel) (by decide +kernel)
  refine LG.pop dL_law_1794 rfl ?_
  refine LG.goto (tgt := 2745) dL_law_1795 (by decide) ?_
  exact LG.widen (le_cs3 rfl) (kk _ _ hI41 (⟨by unfold RLI; omega, hA45, hT44, hY43, hP62, hK61, hS60⟩))

set_option maxHeartbeats 2000000 in
theorem law_case_34 {p : Program} {l : Launch} {e : Env} {s : State} {m : MethodId} {below : List Frame} {meth : Method} {c : Code} {b L : Nat} {xs : Nat → Int32} {D : va_G} {dA : Nat → ClassId} {K : Kmap} {V : Vmap} {cells slots x m0 : Nat} {i : Int} (hI : LI K V x m0) (hR : REL K V x m0) (hL : L ≤ 4096) (h0 : 0 ≤ i) (h8 : i + 8 ≤ L) (hcs : cells + 8 ≤ 600000 ∧ slots + 2704 ≤ 7302250) (kk : ∀ (K1 : Kmap) (V1 : Vmap), LI K1 V1 x m0 → REL K1 V1 x m0 → LG p l e s m below meth c b L xs D dA K1 V1 (cells + 8) (slots + 2704) 2745 [some (.ref b), some (.ref x), some (.ref m0), some (ti i)] []) : LG p l e s m below meth c b L xs D dA K V cells slots 1798 [some (.ref b), some (.ref x), some (.ref m0), some (ti i)] [] := by
  have hR0 := hR.1
  have hA0 := hR.2.1
  have hT0 := hR.2.2.1
  have hY0 := hR.2.2.2.1
  have hP0 := hR.2.2.2.2.1
  have hK0 := hR.2.2.2.2.2.1
  have hS0 := hR.2.2.2.2.2.2
  unfold RLI at hR0
  refine LG.aload_n dL_law_1798 rfl rfl ?_
  refine LG.useWT (fun hW => ?_)
  refine LG.callV (ci := 10) (N := mX11_day) (As := []) dL_law_1799 (RX11, TX11, 20) rfl gV_RL_163 hI.1 (t_X11_day hI.1 hI.2.2.2.2.2.2.2) rfl [] rfl rfl (le_cs hcs rfl) (Nat.le_of_ble_eq_true rfl) (g_is fun X7 K1 V2 r3 h4 hE5 hF6 => ?_)
  have hI10 : LI K1 V2 x m0 := ⟨hE5.obj (by decide) hI.1, hE5.obj (by decide) hI.2.1, (GX.frx hF6 hE5 hI.2.2.1 hW hI.2.1 (by decide +kernel)), (PX0.frx hF6 hE5 hI.2.2.2.1 hW hI.2.1 (by decide +kernel)), (NN.frx 4 3 4 rfl rfl hF6 hE5 hI.2.2.2.2.1 hW hI.1 (by decide +kernel)), (NN.frx 10 9 7 rfl rfl hF6 hE5 hI.2.2.2.2.2.1 hW hI.1 (by decide +kernel)), (PI.frx hI.2.2.2.2.2.2.1 hF6 hE5 hW hI.1 hI.2.2.2.2.1 (by decide +kernel)), (CWI.gro (h4.2.2.1) hE5)⟩
  have hWp11 := hW
  have hY12 : YRL V2 x m0 := YRL.frx hY0 hF6 hE5 hW hI.1 hI.2.1 hI.2.2.2.2.1 (by decide +kernel) (by decide +kernel)
  have hT13 : TXE K1 V2 x m0 := TXE.frx hT0 hF6 hE5 hW hI.1 hI.2.1 (by decide +kernel)
  have hA14 : AB V2 x m0 := AB.frx hA0 hF6 hE5 hW hI.1 hI.2.1 hI.2.2.2.2.1 (by decide +kernel) (by decide +kernel) (Int.le_of_eq (vi_fr hF6 hI.2.1 (hE5.obj (by decide) hI.2.1) (by decide +kernel)).symm)
  have s15 : X7 = -1 ∧ 3599 ≤ tdy V x ∧ tdy V2 x = tdy V x ∨ X7 = tdy V x + 1 ∧ tdy V x < 3599 ∧ tdy V2 x = tdy V x + 1 := h4.2.1
  have s16 : wsz V2 x = wsz V x := wsz_fr hF6 hE5 hW hI.1 (by decide +kernel) (by decide +kernel)
  have s17 : csz V2 x = csz V x := csz_fr hF6 hE5 hW hI.1 (by decide +kernel) (by decide +kernel)
  have s18 : dsz V2 x = dsz V x := dsz_fr hF6 hE5 hW hI.1 (by decide +kernel) (by decide +kernel)
  clear hW
  have s19 : vi V2 x 4 = vi V x 4 := vi_fr hF6 hI.1 (hE5.obj (by decide) hI.1) (by decide +kernel)
  have s20 : vi V2 x 10 = vi V x 10 := vi_fr hF6 hI.1 (hE5.obj (by decide) hI.1) (by decide +kernel)
  have s21 : vi V2 m0 9 = vi V m0 9 := vi_fr hF6 hI.2.1 (hE5.obj (by decide) hI.2.1) (by decide +kernel)
  have s22 : vi V2 m0 2 = vi V m0 2 := vi_fr hF6 hI.2.1 (hE5.obj (by decide) hI.2.1) (by decide +kernel)
  have s23 : vi V2 m0 91 = vi V m0 91 := vi_fr hF6 hI.2.1 (hE5.obj (by decide) hI.2.1) (by decide +kernel)
  have s24 : vi V2 m0 133 = vi V m0 133 := vi_fr hF6 hI.2.1 (hE5.obj (by decide) hI.2.1) (by decide +kernel)
  have s25 : vi V2 m0 120 = vi V m0 120 := vi_fr hF6 hI.2.1 (hE5.obj (by decide) hI.2.1) (by decide +kernel)
  have s26 : vi V2 x 8 = vi V x 8 := vi_fr hF6 hI.1 (hE5.obj (by decide) hI.1) (by decide +kernel)
  have s27 : vi V2 m0 66 = vi V m0 66 := vi_fr hF6 hI.2.1 (hE5.obj (by decide) hI.2.1) (by decide +kernel)
  have s28 : vi V2 m0 118 = vi V m0 118 := vi_fr hF6 hI.2.1 (hE5.obj (by decide) hI.2.1) (by decide +kernel)
  have hS29 : STE V2 x m0 := STE.frx hS0 hF6 hE5 hWp11 hI.1 hI.2.1 (by decide +kernel) (by decide +kernel)
  have hK30 : WKE V2 x m0 := WKE.frx hK0 hF6 hE5 hWp11 hI.1 hI.2.1 (by decide +kernel) (by decide +kernel)
  have h431 : vi V x 4 ≤ vi V2 x 4 := by omega
  refine LG.pop dL_law_1802 rfl ?_
  refine LG.aload_n dL_law_1803 rfl rfl ?_
  refine LG.useWT (fun hW => ?_)
  refine LG.callV (ci := 11) (N := mX12_day) (As := []) dL_law_1804 (RX12, TX12, 151) rfl gV_RL_167 hI10.2.1 (t_X12_day hI10.2.1 hI10.2.2.1) rfl [] rfl rfl (le_csb hcs rfl) (Nat.le_of_ble_eq_true rfl) (g_is fun X38 K32 V33 r34 h35 hE36 hF37 => ?_)
  have hI41 : LI K32 V33 x m0 := ⟨hE36.obj (by decide) hI10.1, hE36.obj (by decide) hI10.2.1, (GX.frx hF37 hE36 hI10.2.2.1 hW hI10.2.1 (by decide +kernel)), (PX0.frx hF37 hE36 hI10.2.2.2.1 hW hI10.2.1 (by decide +kernel)), (NN.frx 4 3 4 rfl rfl hF37 hE36 hI10.2.2.2.2.1 hW hI10.1 (by decide +kernel)), (NN.frx 10 9 7 rfl rfl hF37 hE36 hI10.2.2.2.2.2.1 hW hI10.1 (by decide +kernel)), (PI.frx hI10.2.2.2.2.2.2.1 hF37 hE36 hW hI10.1 hI10.2.2.2.2.1 (by decide +kernel)), (CWI.fr hI10.2.2.2.2.2.2.2 hF37 hE36 hW hI10.1 (by decide +kernel) (by decide +kernel) (by decide +kernel))⟩
  have hWp42 := hW
  have hY43 : YRL V33 x m0 := YRL.frx hY12 hF37 hE36 hW hI10.1 hI10.2.1 hI10.2.2.2.2.1 (by decide +kernel) (by decide +kernel)
  have hT44 : TXE K32 V33 x m0 := TXE.frx hT13 hF37 hE36 hW hI10.1 hI10.2.1 (by decide +kernel)
  have hA45 : AB V33 x m0 := AB.frx hA14 hF37 hE36 hW hI10.1 hI10.2.1 hI10.2.2.2.2.1 (by decide +kernel) (by decide +kernel) (Int.le_of_eq (vi_fr hF37 hI10.2.1 (hE36.obj (by decide) hI10.2.1) (by decide +kernel)).symm)
  have s46 : tdy V33 x = tdy V2 x := tdy_fr hF37 hE36 hW hI10.1 (by decide +kernel) (by decide +kernel)
  have s47 : wsz V33 x = wsz V2 x := wsz_fr hF37 hE36 hW hI10.1 (by decide +kernel) (by decide +kernel)
  have s48 : csz V33 x = csz V2 x := csz_fr hF37 hE36 hW hI10.1 (by decide +kernel) (by decide +kernel)
  have s49 : dsz V33 x = dsz V2 x := dsz_fr hF37 hE36 hW hI10.1 (by decide +kernel) (by decide +kernel)
  clear hW
  have s50 : vi V33 x 4 = vi V2 x 4 := vi_fr hF37 hI10.1 (hE36.obj (by decide) hI10.1) (by decide +kernel)
  have s51 : vi V33 x 10 = vi V2 x 10 := vi_fr hF37 hI10.1 (hE36.obj (by decide) hI10.1) (by decide +kernel)
  have s52 : vi V33 m0 9 = vi V2 m0 9 := vi_fr hF37 hI10.2.1 (hE36.obj (by decide) hI10.2.1) (by decide +kernel)
  have s53 : vi V33 m0 91 = vi V2 m0 91 := vi_fr hF37 hI10.2.1 (hE36.obj (by decide) hI10.2.1) (by decide +kernel)
  have s54 : vi V33 m0 133 = vi V2 m0 133 := vi_fr hF37 hI10.2.1 (hE36.obj (by decide) hI10.2.1) (by decide +kernel)
  have s55 : vi V33 m0 120 = vi V2 m0 120 := vi_fr hF37 hI10.2.1 (hE36.obj (by decide) hI10.2.1) (by decide +kernel)
  have s56 : vi V33 x 8 = vi V2 x 8 := vi_fr hF37 hI10.1 (hE36.obj (by decide) hI10.1) (by decide +kernel)
  have s57 : vi V33 m0 66 = vi V2 m0 66 := vi_fr hF37 hI10.2.1 (hE36.obj (by decide) hI10.2.1) (by decide +kernel)
  have s58 : vi V33 m0 118 = vi V2 m0 118 := vi_fr hF37 hI10.2.1 (hE36.obj (by decide) hI10.2.1) (by decide +kernel)
  have hS59 : STE V33 x m0 := STE.frx hS29 hF37 hE36 hWp42 hI10.1 hI10.2.1 (by decide +kernel) (by decide +kernel)
  have hK60 : WKE V33 x m0 := WKE.frx hK30 hF37 hE36 hWp42 hI10.1 hI10.2.1 (by decide +kernel) (by decide +kernel)
  have h461 : vi V2 x 4 ≤ vi V33 x 4 := by omega
  have hKp62 := PLE.day hP0 hI.1 hI.2.1 hWp11 hWp42 hE5 hF6 hE36 hF37 h431 h461 (by omega) (by omega) (h4.2.2.2) (h35.2) (by decide +kernel) (by decide +kernel) (by decide +kernel) (by decide +kernel) (by decide +kernel) (by decide +kernel)
  refine LG.pop dL_law_1807 rfl ?_
  refine LG.goto (tgt := 2745) dL_law_1808 (by decide) ?_
  exact LG.widen (le_cs3 rfl) (kk _ _ hI41 (⟨by unfold RLI; omega, hA45, hT44, hY43, hKp62, hK60, hS59⟩))

set_option maxHeartbeats 2000000 in
theorem law_case_35 {p : Program} {l : Launch} {e : Env} {s : State} {m : MethodId} {below : List Frame} {meth : Method} {c : Code} {b L : Nat} {xs : Nat → Int32} {D : va_G} {dA : Nat → ClassId} {K : Kmap} {V : Vmap} {cells slots x m0 : Nat} {i : Int} (hI : LI K V x m0) (hR : REL K V x m0) (hL : L ≤ 4096) (h0 : 0 ≤ i) (h8 : i + 8 ≤ L) (hcs : cells + 8 ≤ 600000 ∧ slots + 2704 ≤ 7302250) (kk : ∀ (K1 : Kmap) (V1 : Vmap), LI K1 V1 x m0 → REL K1 V1 x m0 → LG p l e s m below meth c b L xs D dA K1 V1 (cells + 8) (slots + 2704) 2745 [some (.ref b), some (.ref x), some (.ref m0), some (ti i)] []) : LG p l e s m below meth c b L xs D dA K V cells slots 1811 [some (.ref b), some (.ref x), some (.ref m0), some (ti i)] [] := by
  have hR0 := hR.1
  have hA0 := hR.2.1
  have hT0 := hR.2.2.1
  have hY0 := hR.2.2.2.1
  have hP0 := hR.2.2.2.2.1
  have hK0 := hR.2.2.2.2.2.1
  have hS0 := hR.2.2.2.2.2.2
  unfold RLI at hR0
  refine LG.aload_n dL_law_1811 rfl rfl ?_
  refine LG.aload_n dL_law_1812 rfl rfl ?_
  refine LG.iload_n dL_law_1813 rfl rfl ?_
  refine LG.iconst dL_law_1814 ?_
  refine LG.iadd dL_law_1815 ?_
  refine LG.sld (Y := i + 1) dL_law_1816 (by omega) (by omega) hL ?_
  refine LG.aload_n dL_law_1817 rfl rfl ?_
  refine LG.iload_n dL_law_1818 rfl rfl ?_
  refine LG.iconst dL_law_1819 ?_
  refine LG.iadd dL_law_1820 ?_
  refine LG.sld (Y := i + 2) dL_law_1821 (by omega) (by omega) hL ?_
  refine LG.aload_n dL_law_1822 rfl rfl ?_
  refine LG.iload_n dL_law_1823 rfl rfl ?_
  refine LG.iconst dL_law_1824 ?_
  refine LG.iadd dL_law_1825 ?_
  refine LG.sld (Y := i + 3) dL_law_1826 (by omega) (by omega) hL ?_
  refine LG.useWT (fun hW => ?_)
  refine LG.callV (ci := 10) (N := mX11_sound) (As := [ti (xv xs (i + 1)), ti (xv xs (i + 2)), ti (xv xs (i + 3))]) dL_law_1827 (RX11, TX11, 20) rfl gV_RL_168 hI.1 (t_X11_sound hI.1 xv_ir xv_ir xv_ir) rfl [] rfl rfl (le_cs hcs rfl) (Nat.le_of_ble_eq_true rfl) (g_is fun X7 K1 V2 r3 h4 hE5 hF6 => ?_)
  have hI10 : LI K1 V2 x m0 := ⟨hE5.obj (by decide) hI.1, hE5.obj (by decide) hI.2.1, (GX.frx hF6 hE5 hI.2.2.1 hW hI.2.1 (by decide +kernel)), (PX0.frx hF6 hE5 hI.2.2.2.1 hW hI.2.1 (by decide +kernel)), (NN.frx 4 3 4 rfl rfl hF6 hE5 hI.2.2.2.2.1 hW hI.1 (by decide +kernel)), (NN.frx 10 9 7 rfl rfl hF6 hE5 hI.2.2.2.2.2.1 hW hI.1 (by decide +kernel)), (PI.frx hI.2.2.2.2.2.2.1 hF6 hE5 hW hI.1 hI.2.2.2.2.1 (by decide +kernel)), (CWI.fr hI.2.2.2.2.2.2.2 hF6 hE5 hW hI.1 (by decide +kernel) (by decide +kernel) (by decide +kernel))⟩
  have hWp11 := hW
  have hY12 : YRL V2 x m0 := YRL.frx hY0 hF6 hE5 hW hI.1 hI.2.1 hI.2.2.2.2.1 (by decide +kernel) (by decide +kernel)
  have hT13 : TXE K1 V2 x m0 := TXE.frx hT0 hF6 hE5 hW hI.1 hI.2.1 (by decide +kernel)
  have hA14 : AB V2 x m0 := AB.frx hA0 hF6 hE5 hW hI.1 hI.2.1 hI.2.2.2.2.1 (by decide +kernel) (by decide +kernel) (Int.le_of_eq (vi_fr hF6 hI.2.1 (hE5.obj (by decide) hI.2.1) (by decide +kernel)).symm)
  have s15 : tdy V2 x = tdy V x := tdy_fr hF6 hE5 hW hI.1 (by decide +kernel) (by decide +kernel)
  have s16 : wsz V2 x = wsz V x := wsz_fr hF6 hE5 hW hI.1 (by decide +kernel) (by decide +kernel)
  have s17 : csz V2 x = csz V x := csz_fr hF6 hE5 hW hI.1 (by decide +kernel) (by decide +kernel)
  have s18 : dsz V2 x = dsz V x := dsz_fr hF6 hE5 hW hI.1 (by decide +kernel) (by decide +kernel)
  clear hW
  have s19 : vi V2 x 4 = vi V x 4 := vi_fr hF6 hI.1 (hE5.obj (by decide) hI.1) (by decide +kernel)
  have s20 : vi V2 x 10 = vi V x 10 := vi_fr hF6 hI.1 (hE5.obj (by decide) hI.1) (by decide +kernel)
  have s21 : vi V2 m0 9 = vi V m0 9 := vi_fr hF6 hI.2.1 (hE5.obj (by decide) hI.2.1) (by decide +kernel)
  have s22 : vi V2 m0 2 = vi V m0 2 := vi_fr hF6 hI.2.1 (hE5.obj (by decide) hI.2.1) (by decide +kernel)
  have s23 : vi V2 m0 91 = vi V m0 91 := vi_fr hF6 hI.2.1 (hE5.obj (by decide) hI.2.1) (by decide +kernel)
  have s24 : vi V2 m0 133 = vi V m0 133 := vi_fr hF6 hI.2.1 (hE5.obj (by decide) hI.2.1) (by decide +kernel)
  have s25 : vi V2 m0 120 = vi V m0 120 := vi_fr hF6 hI.2.1 (hE5.obj (by decide) hI.2.1) (by decide +kernel)
  have s26 : vi V2 x 8 = vi V x 8 := vi_fr hF6 hI.1 (hE5.obj (by decide) hI.1) (by decide +kernel)
  have s27 : vi V2 m0 66 = vi V m0 66 := vi_fr hF6 hI.2.1 (hE5.obj (by decide) hI.2.1) (by decide +kernel)
  have s28 : vi V2 m0 118 = vi V m0 118 := vi_fr hF6 hI.2.1 (hE5.obj (by decide) hI.2.1) (by decide +kernel)
  have hS29 : STE V2 x m0 := STE.frx hS0 hF6 hE5 hWp11 hI.1 hI.2.1 (by decide +kernel) (by decide +kernel)
  have hK30 : WKE V2 x m0 := WKE.frx hK0 hF6 hE5 hWp11 hI.1 hI.2.1 (by decide +kernel) (by decide +kernel)
  have hP31 : PLE V2 x m0 := PLE.frx hP0 hF6 hE5 hWp11 hI.1 hI.2.1 (by omega) (by decide +kernel) (by decide +kernel) (by decide +kernel) (by decide +kernel) (by decide +kernel) (by decide +kernel)
  refine LG.pop dL_law_1830 rfl ?_
  refine LG.aload_n dL_law_1831 rfl rfl ?_
  refine LG.aload_n dL_law_1832 rfl rfl ?_
  refine LG.iload_n dL_law_1833 rfl rfl ?_
  refine LG.iconst dL_law_1834 ?_
  refine LG.iadd dL_law_1835 ?_
  refine LG.sld (Y := i + 1) dL_law_1836 (by omega) (by omega) hL ?_
  refine LG.aload_n dL_law_1837 rfl rfl ?_
  refine LG.iload_n dL_law_1838 rfl rfl ?_
  refine LG.iconst dL_law_1839 ?_
  refine LG.iadd dL_law_1840 ?_
  refine LG.sld (Y := i + 2) dL_law_1841 (by omega) (by omega) hL ?_
  refine LG.aload_n dL_law_1842 rfl rfl ?_
  refine LG.iload_n dL_law_1843 rfl rfl ?_
  refine LG.iconst dL_law_1844 ?_
  refine LG.iadd dL_law_1845 ?_
  refine LG.sld (Y := i + 3) dL_law_1846 (by omega) (by omega) hL ?_
  refine LG.useWT (fun hW => ?_)
  refine LG.callV (ci := 11) (N := mX12_sound) (As := [ti (xv xs (i + 1)), ti (xv xs (i + 2)), ti (xv xs (i + 3))]) dL_law_1847 (RX12, TX12, 151) rfl gV_RL_171 hI10.2.1 (t_X12_sound hI10.2.1 xv_ir xv_ir xv_ir) rfl [] rfl rfl (le_csb hcs rfl) (Nat.le_of_ble_eq_true rfl) (g_is fun X38 K32 V33 r34 h35 hE36 hF37 => ?_)
  have hI41 : LI K32 V33 x m0 := ⟨hE36.obj (by decide) hI10.1, hE36.obj (by decide) hI10.2.1, (GX.frx hF37 hE36 hI10.2.2.1 hW hI10.2.1 (by decide +kernel)), (PX0.frx hF37 hE36 hI10.2.2.2.1 hW hI10.2.1 (by decide +kernel)), (NN.frx 4 3 4 rfl rfl hF37 hE36 hI10.2.2.2.2.1 hW hI10.1 (by decide +kernel)), (NN.frx 10 9 7 rfl rfl hF37 hE36 hI10.2.2.2.2.2.1 hW hI10.1 (by decide +kernel)), (PI.frx hI10.2.2.2.2.2.2.1 hF37 hE36 hW hI10.1 hI10.2.2.2.2.1 (by decide +kernel)), (CWI.fr hI10.2.2.2.2.2.2.2 hF37 hE36 hW hI10.1 (by decide +kernel) (by decide +kernel) (by decide +kernel))⟩
  have hWp42 := hW
  have hY43 : YRL V33 x m0 := YRL.frx hY12 hF37 hE36 hW hI10.1 hI10.2.1 hI10.2.2.2.2.1 (by decide +kernel) (by decide +kernel)
  have hT44 : TXE K32 V33 x m0 := TXE.frx hT13 hF37 hE36 hW hI10.1 hI10.2.1 (by decide +kernel)
  have hA45 : AB V33 x m0 := AB.frx hA14 hF37 hE36 hW hI10.1 hI10.2.1 hI10.2.2.2.2.1 (by decide +kernel) (by decide +kernel) (Int.le_of_eq (vi_fr hF37 hI10.2.1 (hE36.obj (by decide) hI10.2.1) (by decide +kernel)).symm)
  have s46 : tdy V33 x = tdy V2 x := tdy_fr hF37 hE36 hW hI10.1 (by decide +kernel) (by decide +kernel)
  have s47 : wsz V33 x = wsz V2 x := wsz_fr hF37 hE36 hW hI10.1 (by decide +kernel) (by decide +kernel)
  have s48 : csz V33 x = csz V2 x := csz_fr hF37 hE36 hW hI10.1 (by decide +kernel) (by decide +kernel)
  have s49 : dsz V33 x = dsz V2 x := dsz_fr hF37 hE36 hW hI10.1 (by decide +kernel) (by decide +kernel)
  clear hW
  have s50 : vi V33 x 4 = vi V2 x 4 := vi_fr hF37 hI10.1 (hE36.obj (by decide) hI10.1) (by decide +kernel)
  have s51 : vi V33 x 10 = vi V2 x 10 := vi_fr hF37 hI10.1 (hE36.obj (by decide) hI10.1) (by decide +kernel)
  have s52 : vi V33 m0 9 = vi V2 m0 9 := vi_fr hF37 hI10.2.1 (hE36.obj (by decide) hI10.2.1) (by decide +kernel)
  have s53 : vi V33 m0 2 = vi V2 m0 2 := vi_fr hF37 hI10.2.1 (hE36.obj (by decide) hI10.2.1) (by decide +kernel)
  have s54 : vi V33 m0 91 = vi V2 m0 91 := vi_fr hF37 hI10.2.1 (hE36.obj (by decide) hI10.2.1) (by decide +kernel)
  have s55 : vi V33 m0 133 = vi V2 m0 133 := vi_fr hF37 hI10.2.1 (hE36.obj (by decide) hI10.2.1) (by decide +kernel)
  have s56 : vi V33 m0 120 = vi V2 m0 120 := vi_fr hF37 hI10.2.1 (hE36.obj (by decide) hI10.2.1) (by decide +kernel)
  have s57 : vi V33 x 8 = vi V2 x 8 := vi_fr hF37 hI10.1 (hE36.obj (by decide) hI10.1) (by decide +kernel)
  have s58 : vi V33 m0 66 = vi V2 m0 66 := vi_fr hF37 hI10.2.1 (hE36.obj (by decide) hI10.2.1) (by decide +kernel)
  have s59 : vi V33 m0 118 = vi V2 m0 118 := vi_fr hF37 hI10.2.1 (hE36.obj (by decide) hI10.2.1) (by decide +kernel)
  have hS60 : STE V33 x m0 := STE.frx hS29 hF37 hE36 hWp42 hI10.1 hI10.2.1 (by decide +kernel) (by decide +kernel)
  have hK61 : WKE V33 x m0 := WKE.frx hK30 hF37 hE36 hWp42 hI10.1 hI10.2.1 (by decide +kernel) (by decide +kernel)
  have hP62 : PLE V33 x m0 := PLE.frx hP31 hF37 hE36 hWp42 hI10.1 hI10.2.1 (by omega) (by decide +kernel) (by decide +kernel) (by decide +kernel) (by decide +kernel) (by decide +kernel) (by decide +kernel)
  refine LG.pop dL_law_1850 rfl ?_
  refine LG.goto (tgt := 2745) dL_law_1851 (by decide) ?_
  exact LG.widen (le_cs3 rfl) (kk _ _ hI41 (⟨by unfold RLI; omega, hA45, hT44, hY43, hP62, hK61, hS60⟩))

set_option maxHeartbeats 2000000 in
theorem law_case_36 {p : Program} {l : Launch} {e : Env} {s : State} {m : MethodId} {below : List Frame} {meth : Method} {c : Code} {b L : Nat} {xs : Nat → Int32} {D : va_G} {dA : Nat → ClassId} {K : Kmap} {V : Vmap} {cells slots x m0 : Nat} {i : Int} (hI : LI K V x m0) (hR : REL K V x m0) (hL : L ≤ 4096) (h0 : 0 ≤ i) (h8 : i + 8 ≤ L) (hcs : cells + 8 ≤ 600000 ∧ slots + 2704 ≤ 7302250) (kk : ∀ (K1 : Kmap) (V1 : Vmap), LI K1 V1 x m0 → REL K1 V1 x m0 → LG p l e s m below meth c b L xs D dA K1 V1 (cells + 8) (slots + 2704) 2745 [some (.ref b), some (.ref x), some (.ref m0), some (ti i)] []) : LG p l e s m below meth c b L xs D dA K V cells slots 1854 [some (.ref b), some (.ref x), some (.ref m0), some (ti i)] [] := by
  have hR0 := hR.1
  have hA0 := hR.2.1
  have hT0 := hR.2.2.1
  have hY0 := hR.2.2.2.1
  have hP0 := hR.2.2.2.2.1
  have hK0 := hR.2.2.2.2.2.1
  have hS0 := hR.2.2.2.2.2.2
  unfold RLI at hR0
  refine LG.aload_n dL_law_1854 rfl rfl ?_
  refine LG.aload_n dL_law_1855 rfl rfl ?_
  refine LG.iload_n dL_law_1856 rfl rfl ?_
  refine LG.iconst dL_law_1857 ?_
  refine LG.iadd dL_law_1858 ?_
  refine LG.sld (Y := i + 1) dL_law_1859 (by omega) (by omega) hL ?_
  refine LG.useWT (fun hW => ?_)
  refine LG.callV (ci := 10) (N := mX11_sure) (As := [ti (xv xs (i + 1))]) dL_law_1860 (RX11, TX11, 20) rfl gV_RL_172 hI.1 (t_X11_sure hI.1 xv_ir) rfl [] rfl rfl (le_cs hcs rfl) (Nat.le_of_ble_eq_true rfl) (g_ip fun X7 K1 V2 r3 h4 hE5 hF6 => ?_)
  have hI10 : LI K1 V2 x m0 := ⟨hE5.obj (by decide) hI.1, hE5.obj (by decide) hI.2.1, (GX.frx hF6 hE5 hI.2.2.1 hW hI.2.1 (by decide +kernel)), (PX0.frx hF6 hE5 hI.2.2.2.1 hW hI.2.1 (by decide +kernel)), (NN.frx 4 3 4 rfl rfl hF6 hE5 hI.2.2.2.2.1 hW hI.1 (by decide +kernel)), (NN.frx 10 9 7 rfl rfl hF6 hE5 hI.2.2.2.2.2.1 hW hI.1 (by decide +kernel)), (PI.frx hI.2.2.2.2.2.2.1 hF6 hE5 hW hI.1 hI.2.2.2.2.1 (by decide +kernel)), (CWI.fr hI.2.2.2.2.2.2.2 hF6 hE5 hW hI.1 (by decide +kernel) (by decide +kernel) (by decide +kernel))⟩
  have hWp11 := hW
  have hY12 : YRL V2 x m0 := YRL.frx hY0 hF6 hE5 hW hI.1 hI.2.1 hI.2.2.2.2.1 (by decide +kernel) (by decide +kernel)
  have hT13 : TXE K1 V2 x m0 := TXE.frx hT0 hF6 hE5 hW hI.1 hI.2.1 (by decide +kernel)
  have hA14 : AB V2 x m0 := AB.frx hA0 hF6 hE5 hW hI.1 hI.2.1 hI.2.2.2.2.1 (by decide +kernel) (by decide +kernel) (Int.le_of_eq (vi_fr hF6 hI.2.1 (hE5.obj (by decide) hI.2.1) (by decide +kernel)).symm)
  have s15 : tdy V2 x = tdy V x := tdy_fr hF6 hE5 hW hI.1 (by decide +kernel) (by decide +kernel)
  have s16 : wsz V2 x = wsz V x := wsz_fr hF6 hE5 hW hI.1 (by decide +kernel) (by decide +kernel)
  have s17 : csz V2 x = csz V x := csz_fr hF6 hE5 hW hI.1 (by decide +kernel) (by decide +kernel)
  have s18 : dsz V2 x = dsz V x := dsz_fr hF6 hE5 hW hI.1 (by decide +kernel) (by decide +kernel)
  clear hW
  have s19 : vi V2 x 4 = vi V x 4 := vi_fr hF6 hI.1 (hE5.obj (by decide) hI.1) (by decide +kernel)
  have s20 : vi V2 x 10 = vi V x 10 := vi_fr hF6 hI.1 (hE5.obj (by decide) hI.1) (by decide +kernel)
  have s21 : vi V2 m0 9 = vi V m0 9 := vi_fr hF6 hI.2.1 (hE5.obj (by decide) hI.2.1) (by decide +kernel)
  have s22 : vi V2 m0 2 = vi V m0 2 := vi_fr hF6 hI.2.1 (hE5.obj (by decide) hI.2.1) (by decide +kernel)
  have s23 : vi V2 m0 91 = vi V m0 91 := vi_fr hF6 hI.2.1 (hE5.obj (by decide) hI.2.1) (by decide +kernel)
  have s24 : vi V2 m0 133 = vi V m0 133 := vi_fr hF6 hI.2.1 (hE5.obj (by decide) hI.2.1) (by decide +kernel)
  have s25 : vi V2 m0 120 = vi V m0 120 := vi_fr hF6 hI.2.1 (hE5.obj (by decide) hI.2.1) (by decide +kernel)
  have s26 : vi V2 x 8 = vi V x 8 := vi_fr hF6 hI.1 (hE5.obj (by decide) hI.1) (by decide +kernel)
  have s27 : vi V2 m0 66 = vi V m0 66 := vi_fr hF6 hI.2.1 (hE5.obj (by decide) hI.2.1) (by decide +kernel)
  have s28 : vi V2 m0 118 = vi V m0 118 := vi_fr hF6 hI.2.1 (hE5.obj (by decide) hI.2.1) (by decide +kernel)
  have hS29 : STE V2 x m0 := STE.frx hS0 hF6 hE5 hWp11 hI.1 hI.2.1 (by decide +kernel) (by decide +kernel)
  have hK30 : WKE V2 x m0 := WKE.frx hK0 hF6 hE5 hWp11 hI.1 hI.2.1 (by decide +kernel) (by decide +kernel)
  have hP31 : PLE V2 x m0 := PLE.frx hP0 hF6 hE5 hWp11 hI.1 hI.2.1 (by omega) (by decide +kernel) (by decide +kernel) (by decide +kernel) (by decide +kernel) (by decide +kernel) (by decide +kernel)
  refine LG.pop dL_law_1863 rfl ?_
  refine LG.aload_n dL_law_1864 rfl rfl ?_
  refine LG.aload_n dL_law_1865 rfl rfl ?_
  refine LG.iload_n dL_law_1866 rfl rfl ?_
  refine LG.iconst dL_law_1867 ?_
  refine LG.iadd dL_law_1868 ?_
  refine LG.sld (Y := i + 1) dL_law_1869 (by omega) (by omega) hL ?_
  refine LG.useWT (fun hW => ?_)
  refine LG.callV (ci := 11) (N := mX12_sure) (As := [ti (xv xs (i + 1))]) dL_law_1870 (RX12, TX12, 151) rfl gV_RL_176 hI10.2.1 (t_X12_sure hI10.2.1 xv_ir) rfl [] rfl rfl (le_csb hcs rfl) (Nat.le_of_ble_eq_true rfl) (g_ip fun X38 K32 V33 r34 h35 hE36 hF37 => ?_)
  have hI41 : LI K32 V33 x m0 := ⟨hE36.obj (by decide) hI10.1, hE36.obj (by decide) hI10.2.1, (GX.frx hF37 hE36 hI10.2.2.1 hW hI10.2.1 (by decide +kernel)), (PX0.frx hF37 hE36 hI10.2.2.2.1 hW hI10.2.1 (by decide +kernel)), (NN.frx 4 3 4 rfl rfl hF37 hE36 hI10.2.2.2.2.1 hW hI10.1 (by decide +kernel)), (NN.frx 10 9 7 rfl rfl hF37 hE36 hI10.2.2.2.2.2.1 hW hI10.1 (by decide +kernel)), (PI.frx hI10.2.2.2.2.2.2.1 hF37 hE36 hW hI10.1 hI10.2.2.2.2.1 (by decide +kernel)), (CWI.fr hI10.2.2.2.2.2.2.2 hF37 hE36 hW hI10.1 (by decide +kernel) (by decide +kernel) (by decide +kernel))⟩
  have hWp42 := hW
  have hY43 : YRL V33 x m0 := YRL.frx hY12 hF37 hE36 hW hI10.1 hI10.2.1 hI10.2.2.2.2.1 (by decide +kernel) (by decide +kernel)
  have hT44 : TXE K32 V33 x m0 := TXE.frx hT13 hF37 hE36 hW hI10.1 hI10.2.1 (by decide +kernel)
  have hA45 : AB V33 x m0 := AB.frx hA14 hF37 hE36 hW hI10.1 hI10.2.1 hI10.2.2.2.2.1 (by decide +kernel) (by decide +kernel) (Int.le_of_eq (vi_fr hF37 hI10.2.1 (hE36.obj (by decide) hI10.2.1) (by decide +kernel)).symm)
  have s46 : tdy V33 x = tdy V2 x := tdy_fr hF37 hE36 hW hI10.1 (by decide +kernel) (by decide +kernel)
  have s47 : wsz V33 x = wsz V2 x := wsz_fr hF37 hE36 hW hI10.1 (by decide +kernel) (by decide +kernel)
  have s48 : csz V33 x = csz V2 x := csz_fr hF37 hE36 hW hI10.1 (by decide +kernel) (by decide +kernel)
  have s49 : dsz V33 x = dsz V2 x := dsz_fr hF37 hE36 hW hI10.1 (by decide +kernel) (by decide +kernel)
  clear hW
  have s50 : vi V33 x 4 = vi V2 x 4 := vi_fr hF37 hI10.1 (hE36.obj (by decide) hI10.1) (by decide +kernel)
  have s51 : vi V33 x 10 = vi V2 x 10 := vi_fr hF37 hI10.1 (hE36.obj (by decide) hI10.1) (by decide +kernel)
  have s52 : vi V33 m0 9 = vi V2 m0 9 := vi_fr hF37 hI10.2.1 (hE36.obj (by decide) hI10.2.1) (by decide +kernel)
  have s53 : vi V33 m0 2 = vi V2 m0 2 := vi_fr hF37 hI10.2.1 (hE36.obj (by decide) hI10.2.1) (by decide +kernel)
  have s54 : vi V33 m0 91 = vi V2 m0 91 := vi_fr hF37 hI10.2.1 (hE36.obj (by decide) hI10.2.1) (by decide +kernel)
  have s55 : vi V33 m0 133 = vi V2 m0 133 := vi_fr hF37 hI10.2.1 (hE36.obj (by decide) hI10.2.1) (by decide +kernel)
  have s56 : vi V33 m0 120 = vi V2 m0 120 := vi_fr hF37 hI10.2.1 (hE36.obj (by decide) hI10.2.1) (by decide +kernel)
  have s57 : vi V33 x 8 = vi V2 x 8 := vi_fr hF37 hI10.1 (hE36.obj (by decide) hI10.1) (by decide +kernel)
  have s58 : vi V33 m0 66 = vi V2 m0 66 := vi_fr hF37 hI10.2.1 (hE36.obj (by decide) hI10.2.1) (by decide +kernel)
  have s59 : vi V33 m0 118 = vi V2 m0 118 := vi_fr hF37 hI10.2.1 (hE36.obj (by decide) hI10.2.1) (by decide +kernel)
  have hS60 : STE V33 x m0 := STE.frx hS29 hF37 hE36 hWp42 hI10.1 hI10.2.1 (by decide +kernel) (by decide +kernel)
  have hK61 : WKE V33 x m0 := WKE.frx hK30 hF37 hE36 hWp42 hI10.1 hI10.2.1 (by decide +kernel) (by decide +kernel)
  have hP62 : PLE V33 x m0 := PLE.frx hP31 hF37 hE36 hWp42 hI10.1 hI10.2.1 (by omega) (by decide +kernel) (by decide +kernel) (by decide +kernel) (by decide +kernel) (by decide +kernel) (by decide +kernel)
  refine LG.pop dL_law_1873 rfl ?_
  refine LG.goto (tgt := 2745) dL_law_1874 (by decide) ?_
  exact LG.widen (le_cs3 rfl) (kk _ _ hI41 (⟨by unfold RLI; omega, hA45, hT44, hY43, hP62, hK61, hS60⟩))

set_option maxHeartbeats 2000000 in
theorem law_case_37 {p : Program} {l : Launch} {e : Env} {s : State} {m : MethodId} {below : List Frame} {meth : Method} {c : Code} {b L : Nat} {xs : Nat → Int32} {D : va_G} {dA : Nat → ClassId} {K : Kmap} {V : Vmap} {cells slots x m0 : Nat} {i : Int} (hI : LI K V x m0) (hR : REL K V x m0) (hL : L ≤ 4096) (h0 : 0 ≤ i) (h8 : i + 8 ≤ L) (hcs : cells + 8 ≤ 600000 ∧ slots + 2704 ≤ 7302250) (kk : ∀ (K1 : Kmap) (V1 : Vmap), LI K1 V1 x m0 → REL K1 V1 x m0 → LG p l e s m below meth c b L xs D dA K1 V1 (cells + 8) (slots + 2704) 2745 [some (.ref b), some (.ref x), some (.ref m0), some (ti i)] []) : LG p l e s m below meth c b L xs D dA K V cells slots 1877 [some (.ref b), some (.ref x), some (.ref m0), some (ti i)] [] := by
  have hR0 := hR.1
  have hA0 := hR.2.1
  have hT0 := hR.2.2.1
  have hY0 := hR.2.2.2.1
  have hP0 := hR.2.2.2.2.1
  have hK0 := hR.2.2.2.2.2.1
  have hS0 := hR.2.2.2.2.2.2
  unfold RLI at hR0
  refine LG.aload_n dL_law_1877 rfl rfl ?_
  refine LG.aload_n dL_law_1878 rfl rfl ?_
  refine LG.iload_n dL_law_1879 rfl rfl ?_
  refine LG.iconst dL_law_1880 ?_
  refine LG.iadd dL_law_1881 ?_
  refine LG.sld (Y := i + 1) dL_law_1882 (by omega) (by omega) hL ?_
  refine LG.aload_n dL_law_1883 rfl rfl ?_
  refine LG.iload_n dL_law_1884 rfl rfl ?_
  refine LG.iconst dL_law_1885 ?_
  refine LG.iadd dL_law_1886 ?_
  refine LG.sld (Y := i + 2) dL_law_1887 (by omega) (by omega) hL ?_
  refine LG.useWT (fun hW => ?_)
  refine LG.callV (ci := 10) (N := mX11_drill) (As := [ti (xv xs (i + 1)), ti (xv xs (i + 2))]) dL_law_1888 (RX11, TX11, 20) rfl gV_RL_177 hI.1 (t_X11_drill hI.1 xv_ir xv_ir) rfl [] rfl rfl (le_cs hcs rfl) (Nat.le_of_ble_eq_true rfl) (g_is fun X7 K1 V2 r3 h4 hE5 hF6 => ?_)
  have hI10 : LI K1 V2 x m0 := ⟨hE5.obj (by decide) hI.1, hE5.obj (by decide) hI.2.1, (GX.frx hF6 hE5 hI.2.2.1 hW hI.2.1 (by decide +kernel)), (PX0.frx hF6 hE5 hI.2.2.2.1 hW hI.2.1 (by decide +kernel)), (NN.frx 4 3 4 rfl rfl hF6 hE5 hI.2.2.2.2.1 hW hI.1 (by decide +kernel)), (NN.frx 10 9 7 rfl rfl hF6 hE5 hI.2.2.2.2.2.1 hW hI.1 (by decide +kernel)), (PI.frx hI.2.2.2.2.2.2.1 hF6 hE5 hW hI.1 hI.2.2.2.2.1 (by decide +kernel)), (CWI.fr hI.2.2.2.2.2.2.2 hF6 hE5 hW hI.1 (by decide +kernel) (by decide +kernel) (by decide +kernel))⟩
  have hWp11 := hW
  have hY12 : YRL V2 x m0 := YRL.frx hY0 hF6 hE5 hW hI.1 hI.2.1 hI.2.2.2.2.1 (by decide +kernel) (by decide +kernel)
  have hT13 : TXE K1 V2 x m0 := TXE.frx hT0 hF6 hE5 hW hI.1 hI.2.1 (by decide +kernel)
  have hA14 : AB V2 x m0 := AB.frx hA0 hF6 hE5 hW hI.1 hI.2.1 hI.2.2.2.2.1 (by decide +kernel) (by decide +kernel) (Int.le_of_eq (vi_fr hF6 hI.2.1 (hE5.obj (by decide) hI.2.1) (by decide +kernel)).symm)
  have s15 : tdy V2 x = tdy V x := tdy_fr hF6 hE5 hW hI.1 (by decide +kernel) (by decide +kernel)
  have s16 : wsz V2 x = wsz V x := wsz_fr hF6 hE5 hW hI.1 (by decide +kernel) (by decide +kernel)
  have s17 : csz V2 x = csz V x := csz_fr hF6 hE5 hW hI.1 (by decide +kernel) (by decide +kernel)
  clear hW
  have s18 : vi V2 x 4 = vi V x 4 := vi_fr hF6 hI.1 (hE5.obj (by decide) hI.1) (by decide +kernel)
  have s19 : vi V2 x 10 = vi V x 10 := vi_fr hF6 hI.1 (hE5.obj (by decide) hI.1) (by decide +kernel)
  have s20 : vi V2 m0 9 = vi V m0 9 := vi_fr hF6 hI.2.1 (hE5.obj (by decide) hI.2.1) (by decide +kernel)
  have s21 : vi V2 m0 2 = vi V m0 2 := vi_fr hF6 hI.2.1 (hE5.obj (by decide) hI.2.1) (by decide +kernel)
  have s22 : vi V2 m0 91 = vi V m0 91 := vi_fr hF6 hI.2.1 (hE5.obj (by decide) hI.2.1) (by decide +kernel)
  have s23 : vi V2 m0 133 = vi V m0 133 := vi_fr hF6 hI.2.1 (hE5.obj (by decide) hI.2.1) (by decide +kernel)
  have s24 : vi V2 m0 120 = vi V m0 120 := vi_fr hF6 hI.2.1 (hE5.obj (by decide) hI.2.1) (by decide +kernel)
  have s25 : vi V2 x 8 = vi V x 8 := vi_fr hF6 hI.1 (hE5.obj (by decide) hI.1) (by decide +kernel)
  have s26 : vi V2 m0 66 = vi V m0 66 := vi_fr hF6 hI.2.1 (hE5.obj (by decide) hI.2.1) (by decide +kernel)
  have s27 : vi V2 m0 118 = vi V m0 118 := vi_fr hF6 hI.2.1 (hE5.obj (by decide) hI.2.1) (by decide +kernel)
  have hS28 : STE V2 x m0 := STE.frx hS0 hF6 hE5 hWp11 hI.1 hI.2.1 (by decide +kernel) (by decide +kernel)
  have hK29 : WKE V2 x m0 := WKE.frx hK0 hF6 hE5 hWp11 hI.1 hI.2.1 (by decide +kernel) (by decide +kernel)
  have hP30 : PLE V2 x m0 := PLE.frx hP0 hF6 hE5 hWp11 hI.1 hI.2.1 (by omega) (by decide +kernel) (by decide +kernel) (by decide +kernel) (by decide +kernel) (by decide +kernel) (by decide +kernel)
  refine LG.pop dL_law_1891 rfl ?_
  refine LG.aload_n dL_law_1892 rfl rfl ?_
  refine LG.aload_n dL_law_1893 rfl rfl ?_
  refine LG.iload_n dL_law_1894 rfl rfl ?_
  refine LG.iconst dL_law_1895 ?_
  refine LG.iadd dL_law_1896 ?_
  refine LG.sld (Y := i + 1) dL_law_1897 (by omega) (by omega) hL ?_
  refine LG.aload_n dL_law_1898 rfl rfl ?_
  refine LG.iload_n dL_law_1899 rfl rfl ?_
  refine LG.iconst dL_law_1900 ?_
  refine LG.iadd dL_law_1901 ?_
  refine LG.sld (Y := i + 2) dL_law_1902 (by omega) (by omega) hL ?_
  refine LG.useWT (fun hW => ?_)
  refine LG.callV (ci := 11) (N := mX12_drill) (As := [ti (xv xs (i + 1)), ti (xv xs (i + 2))]) dL_law_1903 (RX12, TX12, 151) rfl gV_RL_180 hI10.2.1 (t_X12_drill hI10.2.1 xv_ir xv_ir) rfl [] rfl rfl (le_csb hcs rfl) (Nat.le_of_ble_eq_true rfl) (g_is fun X37 K31 V32 r33 h34 hE35 hF36 => ?_)
  have hI40 : LI K31 V32 x m0 := ⟨hE35.obj (by decide) hI10.1, hE35.obj (by decide) hI10.2.1, (GX.frx hF36 hE35 hI10.2.2.1 hW hI10.2.1 (by decide +kernel)), (PX0.frx hF36 hE35 hI10.2.2.2.1 hW hI10.2.1 (by decide +kernel)), (NN.frx 4 3 4 rfl rfl hF36 hE35 hI10.2.2.2.2.1 hW hI10.1 (by decide +kernel)), (NN.frx 10 9 7 rfl rfl hF36 hE35 hI10.2.2.2.2.2.1 hW hI10.1 (by decide +kernel)), (PI.frx hI10.2.2.2.2.2.2.1 hF36 hE35 hW hI10.1 hI10.2.2.2.2.1 (by decide +kernel)), (CWI.fr hI10.2.2.2.2.2.2.2 hF36 hE35 hW hI10.1 (by decide +kernel) (by decide +kernel) (by decide +kernel))⟩
  have hWp41 := hW
  have hY42 : YRL V32 x m0 := YRL.frx hY12 hF36 hE35 hW hI10.1 hI10.2.1 hI10.2.2.2.2.1 (by decide +kernel) (by decide +kernel)
  have hT43 : TXE K31 V32 x m0 := TXE.frx hT13 hF36 hE35 hW hI10.1 hI10.2.1 (by decide +kernel)
  have hA44 : AB V32 x m0 := AB.frx hA14 hF36 hE35 hW hI10.1 hI10.2.1 hI10.2.2.2.2.1 (by decide +kernel) (by decide +kernel) (Int.le_of_eq (vi_fr hF36 hI10.2.1 (hE35.obj (by decide) hI10.2.1) (by decide +kernel)).symm)
  have s45 : tdy V32 x = tdy V2 x := tdy_fr hF36 hE35 hW hI10.1 (by decide +kernel) (by decide +kernel)
  have s46 : wsz V32 x = wsz V2 x := wsz_fr hF36 hE35 hW hI10.1 (by decide +kernel) (by decide +kernel)
  have s47 : csz V32 x = csz V2 x := csz_fr hF36 hE35 hW hI10.1 (by decide +kernel) (by decide +kernel)
  have s48 : dsz V32 x = dsz V2 x := dsz_fr hF36 hE35 hW hI10.1 (by decide +kernel) (by decide +kernel)
  clear hW
  have s49 : vi V32 x 4 = vi V2 x 4 := vi_fr hF36 hI10.1 (hE35.obj (by decide) hI10.1) (by decide +kernel)
  have s50 : vi V32 x 10 = vi V2 x 10 := vi_fr hF36 hI10.1 (hE35.obj (by decide) hI10.1) (by decide +kernel)
  have s51 : vi V32 m0 9 = vi V2 m0 9 := vi_fr hF36 hI10.2.1 (hE35.obj (by decide) hI10.2.1) (by decide +kernel)
  have s52 : vi V32 m0 2 = vi V2 m0 2 := vi_fr hF36 hI10.2.1 (hE35.obj (by decide) hI10.2.1) (by decide +kernel)
  have s53 : vi V32 m0 91 = vi V2 m0 91 := vi_fr hF36 hI10.2.1 (hE35.obj (by decide) hI10.2.1) (by decide +kernel)
  have s54 : vi V32 m0 133 = vi V2 m0 133 := vi_fr hF36 hI10.2.1 (hE35.obj (by decide) hI10.2.1) (by decide +kernel)
  have s55 : vi V32 m0 120 = vi V2 m0 120 := vi_fr hF36 hI10.2.1 (hE35.obj (by decide) hI10.2.1) (by decide +kernel)
  have s56 : vi V32 x 8 = vi V2 x 8 := vi_fr hF36 hI10.1 (hE35.obj (by decide) hI10.1) (by decide +kernel)
  have s57 : vi V32 m0 66 = vi V2 m0 66 := vi_fr hF36 hI10.2.1 (hE35.obj (by decide) hI10.2.1) (by decide +kernel)
  have hKd58 := DRC.both hP0 hK0 hI.1 hI.2.1 hWp11 hE5 hF6 (by omega) (by omega) (h4.2) (h34.2) (by decide +kernel) (by decide +kernel) (by decide +kernel) (by decide +kernel)
  have hKe59 := hKd58.2
  have hS60 : STE V32 x m0 := STE.frx hS28 hF36 hE35 hWp41 hI10.1 hI10.2.1 (by decide +kernel) (by decide +kernel)
  have hK61 : WKE V32 x m0 := WKE.frx hK29 hF36 hE35 hWp41 hI10.1 hI10.2.1 (by decide +kernel) (by decide +kernel)
  have hP62 : PLE V32 x m0 := PLE.frx hP30 hF36 hE35 hWp41 hI10.1 hI10.2.1 (by omega) (by decide +kernel) (by decide +kernel) (by decide +kernel) (by decide +kernel) (by decide +kernel) (by decide +kernel)
  refine LG.pop dL_law_1906 rfl ?_
  refine LG.goto (tgt := 2745) dL_law_1907 (by decide) ?_
  exact LG.widen (le_cs3 rfl) (kk _ _ hI40 (⟨by unfold RLI; omega, hA44, hT43, hY42, hP62, hK61, hS60⟩))

set_option maxHeartbeats 2000000 in
theorem law_case_38 {p : Program} {l : Launch} {e : Env} {s : State} {m : MethodId} {below : List Frame} {meth : Method} {c : Code} {b L : Nat} {xs : Nat → Int32} {D : va_G} {dA : Nat → ClassId} {K : Kmap} {V : Vmap} {cells slots x m0 : Nat} {i : Int} (hI : LI K V x m0) (hR : REL K V x m0) (hL : L ≤ 4096) (h0 : 0 ≤ i) (h8 : i + 8 ≤ L) (hcs : cells + 8 ≤ 600000 ∧ slots + 2704 ≤ 7302250) (kk : ∀ (K1 : Kmap) (V1 : Vmap), LI K1 V1 x m0 → REL K1 V1 x m0 → LG p l e s m below meth c b L xs D dA K1 V1 (cells + 8) (slots + 2704) 2745 [some (.ref b), some (.ref x), some (.ref m0), some (ti i)] []) : LG p l e s m below meth c b L xs D dA K V cells slots 1910 [some (.ref b), some (.ref x), some (.ref m0), some (ti i)] [] := by
  have hR0 := hR.1
  have hA0 := hR.2.1
  have hT0 := hR.2.2.1
  have hY0 := hR.2.2.2.1
  have hP0 := hR.2.2.2.2.1
  have hK0 := hR.2.2.2.2.2.1
  have hS0 := hR.2.2.2.2.2.2
  unfold RLI at hR0
  refine LG.aload_n dL_law_1910 rfl rfl ?_
  refine LG.aload_n dL_law_1911 rfl rfl ?_
  refine LG.iload_n dL_law_1912 rfl rfl ?_
  refine LG.iconst dL_law_1913 ?_
  refine LG.iadd dL_law_1914 ?_
  refine LG.sld (Y := i + 1) dL_law_1915 (by omega) (by omega) hL ?_
  refine LG.aload_n dL_law_1916 rfl rfl ?_
  refine LG.iload_n dL_law_1917 rfl rfl ?_
  refine LG.iconst dL_law_1918 ?_
  refine LG.iadd dL_law_1919 ?_
  refine LG.sld (Y := i + 2) dL_law_1920 (by omega) (by omega) hL ?_
  refine LG.useWT (fun hW => ?_)
  refine LG.callV (ci := 10) (N := mX11_speed) (As := [ti (xv xs (i + 1)), ti (xv xs (i + 2))]) dL_law_1921 (RX11, TX11, 20) rfl gV_RL_181 hI.1 (t_X11_speed hI.1 xv_ir xv_ir) rfl [] rfl rfl (le_cs hcs rfl) (Nat.le_of_ble_eq_true rfl) (g_is fun X7 K1 V2 r3 h4 hE5 hF6 => ?_)
  have hI10 : LI K1 V2 x m0 := ⟨hE5.obj (by decide) hI.1, hE5.obj (by decide) hI.2.1, (GX.frx hF6 hE5 hI.2.2.1 hW hI.2.1 (by decide +kernel)), (PX0.frx hF6 hE5 hI.2.2.2.1 hW hI.2.1 (by decide +kernel)), (NN.frx 4 3 4 rfl rfl hF6 hE5 hI.2.2.2.2.1 hW hI.1 (by decide +kernel)), (NN.frx 10 9 7 rfl rfl hF6 hE5 hI.2.2.2.2.2.1 hW hI.1 (by decide +kernel)), (PI.frx hI.2.2.2.2.2.2.1 hF6 hE5 hW hI.1 hI.2.2.2.2.1 (by decide +kernel)), (CWI.fr hI.2.2.2.2.2.2.2 hF6 hE5 hW hI.1 (by decide +kernel) (by decide +kernel) (by decide +kernel))⟩
  have hWp11 := hW
  have hY12 : YRL V2 x m0 := YRL.frx hY0 hF6 hE5 hW hI.1 hI.2.1 hI.2.2.2.2.1 (by decide +kernel) (by decide +kernel)
  have hT13 : TXE K1 V2 x m0 := TXE.frx hT0 hF6 hE5 hW hI.1 hI.2.1 (by decide +kernel)
  have hA14 : AB V2 x m0 := AB.frx hA0 hF6 hE5 hW hI.1 hI.2.1 hI.2.2.2.2.1 (by decide +kernel) (by decide +kernel) (Int.le_of_eq (vi_fr hF6 hI.2.1 (hE5.obj (by decide) hI.2.1) (by decide +kernel)).symm)
  have s15 : tdy V2 x = tdy V x := tdy_fr hF6 hE5 hW hI.1 (by decide +kernel) (by decide +kernel)
  have s16 : wsz V2 x = wsz V x := wsz_fr hF6 hE5 hW hI.1 (by decide +kernel) (by decide +kernel)
  have s17 : csz V2 x = csz V x := csz_fr hF6 hE5 hW hI.1 (by decide +kernel) (by decide +kernel)
  have s18 : dsz V2 x = dsz V x := dsz_fr hF6 hE5 hW hI.1 (by decide +kernel) (by decide +kernel)
  clear hW
  have s19 : vi V2 x 4 = vi V x 4 := vi_fr hF6 hI.1 (hE5.obj (by decide) hI.1) (by decide +kernel)
  have s20 : vi V2 x 10 = vi V x 10 := vi_fr hF6 hI.1 (hE5.obj (by decide) hI.1) (by decide +kernel)
  have s21 : vi V2 m0 9 = vi V m0 9 := vi_fr hF6 hI.2.1 (hE5.obj (by decide) hI.2.1) (by decide +kernel)
  have s22 : vi V2 m0 2 = vi V m0 2 := vi_fr hF6 hI.2.1 (hE5.obj (by decide) hI.2.1) (by decide +kernel)
  have s23 : vi V2 m0 91 = vi V m0 91 := vi_fr hF6 hI.2.1 (hE5.obj (by decide) hI.2.1) (by decide +kernel)
  have s24 : vi V2 m0 133 = vi V m0 133 := vi_fr hF6 hI.2.1 (hE5.obj (by decide) hI.2.1) (by decide +kernel)
  have s25 : vi V2 m0 120 = vi V m0 120 := vi_fr hF6 hI.2.1 (hE5.obj (by decide) hI.2.1) (by decide +kernel)
  have s26 : vi V2 x 8 = vi V x 8 := vi_fr hF6 hI.1 (hE5.obj (by decide) hI.1) (by decide +kernel)
  have s27 : vi V2 m0 66 = vi V m0 66 := vi_fr hF6 hI.2.1 (hE5.obj (by decide) hI.2.1) (by decide +kernel)
  have s28 : vi V2 m0 118 = vi V m0 118 := vi_fr hF6 hI.2.1 (hE5.obj (by decide) hI.2.1) (by decide +kernel)
  have hS29 : STE V2 x m0 := STE.frx hS0 hF6 hE5 hWp11 hI.1 hI.2.1 (by decide +kernel) (by decide +kernel)
  have hK30 : WKE V2 x m0 := WKE.frx hK0 hF6 hE5 hWp11 hI.1 hI.2.1 (by decide +kernel) (by decide +kernel)
  have hP31 : PLE V2 x m0 := PLE.frx hP0 hF6 hE5 hWp11 hI.1 hI.2.1 (by omega) (by decide +kernel) (by decide +kernel) (by decide +kernel) (by decide +kernel) (by decide +kernel) (by decide +kernel)
  refine LG.pop dL_law_1924 rfl ?_
  refine LG.aload_n dL_law_1925 rfl rfl ?_
  refine LG.aload_n dL_law_1926 rfl rfl ?_
  refine LG.iload_n dL_law_1927 rfl rfl ?_
  refine LG.iconst dL_law_1928 ?_
  refine LG.iadd dL_law_1929 ?_
  refine LG.sld (Y := i + 1) dL_law_1930 (by omega) (by omega) hL ?_
  refine LG.aload_n dL_law_1931 rfl rfl ?_
  refine LG.iload_n dL_law_1932 rfl rfl ?_
  refine LG.iconst dL_law_1933 ?_
  refine LG.iadd dL_law_1934 ?_
  refine LG.sld (Y := i + 2) dL_law_1935 (by omega) (by omega) hL ?_
  refine LG.useWT (fun hW => ?_)
  refine LG.callV (ci := 11) (N := mX12_speed) (As := [ti (xv xs (i + 1)), ti (xv xs (i + 2))]) dL_law_1936 (RX12, TX12, 151) rfl gV_RL_184 hI10.2.1 (t_X12_speed hI10.2.1 xv_ir xv_ir) rfl [] rfl rfl (le_csb hcs rfl) (Nat.le_of_ble_eq_true rfl) (g_is fun X38 K32 V33 r34 h35 hE36 hF37 => ?_)
  have hI41 : LI K32 V33 x m0 := ⟨hE36.obj (by decide) hI10.1, hE36.obj (by decide) hI10.2.1, (GX.frx hF37 hE36 hI10.2.2.1 hW hI10.2.1 (by decide +kernel)), (PX0.frx hF37 hE36 hI10.2.2.2.1 hW hI10.2.1 (by decide +kernel)), (NN.frx 4 3 4 rfl rfl hF37 hE36 hI10.2.2.2.2.1 hW hI10.1 (by decide +kernel)), (NN.frx 10 9 7 rfl rfl hF37 hE36 hI10.2.2.2.2.2.1 hW hI10.1 (by decide +kernel)), (PI.frx hI10.2.2.2.2.2.2.1 hF37 hE36 hW hI10.1 hI10.2.2.2.2.1 (by decide +kernel)), (CWI.fr hI10.2.2.2.2.2.2.2 hF37 hE36 hW hI10.1 (by decide +kernel) (by decide +kernel) (by decide +kernel))⟩
  have hWp42 := hW
  have hY43 : YRL V33 x m0 := YRL.frx hY12 hF37 hE36 hW hI10.1 hI10.2.1 hI10.2.2.2.2.1 (by decide +kernel) (by decide +kernel)
  have hT44 : TXE K32 V33 x m0 := TXE.frx hT13 hF37 hE36 hW hI10.1 hI10.2.1 (by decide +kernel)
  have hA45 : AB V33 x m0 := AB.frx hA14 hF37 hE36 hW hI10.1 hI10.2.1 hI10.2.2.2.2.1 (by decide +kernel) (by decide +kernel) (Int.le_of_eq (vi_fr hF37 hI10.2.1 (hE36.obj (by decide) hI10.2.1) (by decide +kernel)).symm)
  have s46 : tdy V33 x = tdy V2 x := tdy_fr hF37 hE36 hW hI10.1 (by decide +kernel) (by decide +kernel)
  have s47 : wsz V33 x = wsz V2 x := wsz_fr hF37 hE36 hW hI10.1 (by decide +kernel) (by decide +kernel)
  have s48 : csz V33 x = csz V2 x := csz_fr hF37 hE36 hW hI10.1 (by decide +kernel) (by decide +kernel)
  have s49 : dsz V33 x = dsz V2 x := dsz_fr hF37 hE36 hW hI10.1 (by decide +kernel) (by decide +kernel)
  clear hW
  have s50 : vi V33 x 4 = vi V2 x 4 := vi_fr hF37 hI10.1 (hE36.obj (by decide) hI10.1) (by decide +kernel)
  have s51 : vi V33 x 10 = vi V2 x 10 := vi_fr hF37 hI10.1 (hE36.obj (by decide) hI10.1) (by decide +kernel)
  have s52 : vi V33 m0 9 = vi V2 m0 9 := vi_fr hF37 hI10.2.1 (hE36.obj (by decide) hI10.2.1) (by decide +kernel)
  have s53 : vi V33 m0 2 = vi V2 m0 2 := vi_fr hF37 hI10.2.1 (hE36.obj (by decide) hI10.2.1) (by decide +kernel)
  have s54 : vi V33 m0 91 = vi V2 m0 91 := vi_fr hF37 hI10.2.1 (hE36.obj (by decide) hI10.2.1) (by decide +kernel)
  have s55 : vi V33 m0 133 = vi V2 m0 133 := vi_fr hF37 hI10.2.1 (hE36.obj (by decide) hI10.2.1) (by decide +kernel)
  have s56 : vi V33 m0 120 = vi V2 m0 120 := vi_fr hF37 hI10.2.1 (hE36.obj (by decide) hI10.2.1) (by decide +kernel)
  have s57 : vi V33 x 8 = vi V2 x 8 := vi_fr hF37 hI10.1 (hE36.obj (by decide) hI10.1) (by decide +kernel)
  have s58 : vi V33 m0 66 = vi V2 m0 66 := vi_fr hF37 hI10.2.1 (hE36.obj (by decide) hI10.2.1) (by decide +kernel)
  have s59 : vi V33 m0 118 = vi V2 m0 118 := vi_fr hF37 hI10.2.1 (hE36.obj (by decide) hI10.2.1) (by decide +kernel)
  have hS60 : STE V33 x m0 := STE.frx hS29 hF37 hE36 hWp42 hI10.1 hI10.2.1 (by decide +kernel) (by decide +kernel)
  have hK61 : WKE V33 x m0 := WKE.frx hK30 hF37 hE36 hWp42 hI10.1 hI10.2.1 (by decide +kernel) (by decide +kernel)
  have hP62 : PLE V33 x m0 := PLE.frx hP31 hF37 hE36 hWp42 hI10.1 hI10.2.1 (by omega) (by decide +kernel) (by decide +kernel) (by decide +kernel) (by decide +kernel) (by decide +kernel) (by decide +kernel)
  refine LG.pop dL_law_1939 rfl ?_
  refine LG.goto (tgt := 2745) dL_law_1940 (by decide) ?_
  exact LG.widen (le_cs3 rfl) (kk _ _ hI41 (⟨by unfold RLI; omega, hA45, hT44, hY43, hP62, hK61, hS60⟩))

set_option maxHeartbeats 2000000 in
theorem law_case_39 {p : Program} {l : Launch} {e : Env} {s : State} {m : MethodId} {below : List Frame} {meth : Method} {c : Code} {b L : Nat} {xs : Nat → Int32} {D : va_G} {dA : Nat → ClassId} {K : Kmap} {V : Vmap} {cells slots x m0 : Nat} {i : Int} (hI : LI K V x m0) (hR : REL K V x m0) (hL : L ≤ 4096) (h0 : 0 ≤ i) (h8 : i + 8 ≤ L) (hcs : cells + 8 ≤ 600000 ∧ slots + 2704 ≤ 7302250) (kk : ∀ (K1 : Kmap) (V1 : Vmap), LI K1 V1 x m0 → REL K1 V1 x m0 → LG p l e s m below meth c b L xs D dA K1 V1 (cells + 8) (slots + 2704) 2745 [some (.ref b), some (.ref x), some (.ref m0), some (ti i)] []) : LG p l e s m below meth c b L xs D dA K V cells slots 1943 [some (.ref b), some (.ref x), some (.ref m0), some (ti i)] [] := by
  have hR0 := hR.1
  have hA0 := hR.2.1
  have hT0 := hR.2.2.1
  have hY0 := hR.2.2.2.1
  have hP0 := hR.2.2.2.2.1
  have hK0 := hR.2.2.2.2.2.1
  have hS0 := hR.2.2.2.2.2.2
  unfold RLI at hR0
  refine LG.aload_n dL_law_1943 rfl rfl ?_
  refine LG.aload_n dL_law_1944 rfl rfl ?_
  refine LG.iload_n dL_law_1945 rfl rfl ?_
  refine LG.iconst dL_law_1946 ?_
  refine LG.iadd dL_law_1947 ?_
  refine LG.sld (Y := i + 1) dL_law_1948 (by omega) (by omega) hL ?_
  refine LG.aload_n dL_law_1949 rfl rfl ?_
  refine LG.iload_n dL_law_1950 rfl rfl ?_
  refine LG.iconst dL_law_1951 ?_
  refine LG.iadd dL_law_1952 ?_
  refine LG.sld (Y := i + 2) dL_law_1953 (by omega) (by omega) hL ?_
  refine LG.aload_n dL_law_1954 rfl rfl ?_
  refine LG.iload_n dL_law_1955 rfl rfl ?_
  refine LG.iconst dL_law_1956 ?_
  refine LG.iadd dL_law_1957 ?_
  refine LG.sld (Y := i + 3) dL_law_1958 (by omega) (by omega) hL ?_
  refine LG.useWT (fun hW => ?_)
  refine LG.callV (ci := 10) (N := mX11_birds) (As := [ti (xv xs (i + 1)), ti (xv xs (i + 2)), ti (xv xs (i + 3))]) dL_law_1959 (RX11, TX11, 20) rfl gV_RL_185 hI.1 (t_X11_birds hI.1 xv_ir xv_ir xv_ir) rfl [] rfl rfl (le_cs hcs rfl) (Nat.le_of_ble_eq_true rfl) (g_is fun X7 K1 V2 r3 h4 hE5 hF6 => ?_)
  have hI10 : LI K1 V2 x m0 := ⟨hE5.obj (by decide) hI.1, hE5.obj (by decide) hI.2.1, (GX.frx hF6 hE5 hI.2.2.1 hW hI.2.1 (by decide +kernel)), (PX0.frx hF6 hE5 hI.2.2.2.1 hW hI.2.1 (by decide +kernel)), (NN.frx 4 3 4 rfl rfl hF6 hE5 hI.2.2.2.2.1 hW hI.1 (by decide +kernel)), (NN.frx 10 9 7 rfl rfl hF6 hE5 hI.2.2.2.2.2.1 hW hI.1 (by decide +kernel)), (PI.frx hI.2.2.2.2.2.2.1 hF6 hE5 hW hI.1 hI.2.2.2.2.1 (by decide +kernel)), (CWI.fr hI.2.2.2.2.2.2.2 hF6 hE5 hW hI.1 (by decide +kernel) (by decide +kernel) (by decide +kernel))⟩
  have hWp11 := hW
  have hY12 : YRL V2 x m0 := YRL.frx hY0 hF6 hE5 hW hI.1 hI.2.1 hI.2.2.2.2.1 (by decide +kernel) (by decide +kernel)
  have hT13 : TXE K1 V2 x m0 := TXE.frx hT0 hF6 hE5 hW hI.1 hI.2.1 (by decide +kernel)
  have hA14 : AB V2 x m0 := AB.frx hA0 hF6 hE5 hW hI.1 hI.2.1 hI.2.2.2.2.1 (by decide +kernel) (by decide +kernel) (Int.le_of_eq (vi_fr hF6 hI.2.1 (hE5.obj (by decide) hI.2.1) (by decide +kernel)).symm)
  have s15 : tdy V2 x = tdy V x := tdy_fr hF6 hE5 hW hI.1 (by decide +kernel) (by decide +kernel)
  have s16 : wsz V2 x = wsz V x := wsz_fr hF6 hE5 hW hI.1 (by decide +kernel) (by decide +kernel)
  have s17 : csz V2 x = csz V x := csz_fr hF6 hE5 hW hI.1 (by decide +kernel) (by decide +kernel)
  have s18 : dsz V2 x = dsz V x := dsz_fr hF6 hE5 hW hI.1 (by decide +kernel) (by decide +kernel)
  clear hW
  have s19 : vi V2 x 4 = vi V x 4 := vi_fr hF6 hI.1 (hE5.obj (by decide) hI.1) (by decide +kernel)
  have s20 : vi V2 x 10 = vi V x 10 := vi_fr hF6 hI.1 (hE5.obj (by decide) hI.1) (by decide +kernel)
  have s21 : vi V2 m0 9 = vi V m0 9 := vi_fr hF6 hI.2.1 (hE5.obj (by decide) hI.2.1) (by decide +kernel)
  have s22 : vi V2 m0 2 = vi V m0 2 := vi_fr hF6 hI.2.1 (hE5.obj (by decide) hI.2.1) (by decide +kernel)
  have s23 : vi V2 m0 91 = vi V m0 91 := vi_fr hF6 hI.2.1 (hE5.obj (by decide) hI.2.1) (by decide +kernel)
  have s24 : vi V2 m0 133 = vi V m0 133 := vi_fr hF6 hI.2.1 (hE5.obj (by decide) hI.2.1) (by decide +kernel)
  have s25 : vi V2 m0 120 = vi V m0 120 := vi_fr hF6 hI.2.1 (hE5.obj (by decide) hI.2.1) (by decide +kernel)
  have s26 : vi V2 x 8 = vi V x 8 := vi_fr hF6 hI.1 (hE5.obj (by decide) hI.1) (by decide +kernel)
  have s27 : vi V2 m0 66 = vi V m0 66 := vi_fr hF6 hI.2.1 (hE5.obj (by decide) hI.2.1) (by decide +kernel)
  have s28 : vi V2 m0 118 = vi V m0 118 := vi_fr hF6 hI.2.1 (hE5.obj (by decide) hI.2.1) (by decide +kernel)
  have hS29 : STE V2 x m0 := STE.frx hS0 hF6 hE5 hWp11 hI.1 hI.2.1 (by decide +kernel) (by decide +kernel)
  have hK30 : WKE V2 x m0 := WKE.frx hK0 hF6 hE5 hWp11 hI.1 hI.2.1 (by decide +kernel) (by decide +kernel)
  have hP31 : PLE V2 x m0 := PLE.frx hP0 hF6 hE5 hWp11 hI.1 hI.2.1 (by omega) (by decide +kernel) (by decide +kernel) (by decide +kernel) (by decide +kernel) (by decide +kernel) (by decide +kernel)
  refine LG.aload_n dL_law_1962 rfl rfl ?_
  refine LG.aload_n dL_law_1963 rfl rfl ?_
  refine LG.iload_n dL_law_1964 rfl rfl ?_
  refine LG.iconst dL_law_1965 ?_
  refine LG.iadd dL_law_1966 ?_
  refine LG.sld (Y := i + 1) dL_law_1967 (by omega) (by omega) hL ?_
  refine LG.aload_n dL_law_1968 rfl rfl ?_
  refine LG.iload_n dL_law_1969 rfl rfl ?_
  refine LG.iconst dL_law_1970 ?_
  refine LG.iadd dL_law_1971 ?_
  refine LG.sld (Y := i + 2) dL_law_1972 (by omega) (by omega) hL ?_
  refine LG.aload_n dL_law_1973 rfl rfl ?_
  refine LG.iload_n dL_law_1974 rfl rfl ?_
  refine LG.iconst dL_law_1975 ?_
  refine LG.iadd dL_law_1976 ?_
  refine LG.sld (Y := i + 3) dL_law_1977 (by omega) (by omega) hL ?_
  refine LG.useWT (fun hW => ?_)
  refine LG.callV (ci := 11) (N := mX12_birds) (As := [ti (xv xs (i + 1)), ti (xv xs (i + 2)), ti (xv xs (i + 3))]) dL_law_1978 (RX12, TX12, 151) rfl gV_RL_188 hI10.2.1 (t_X12_birds hI10.2.1 xv_ir xv_ir xv_ir) rfl [ti X7] rfl rfl (le_csb hcs rfl) (Nat.le_of_ble_eq_true rfl) (g_is fun X38 K32 V33 r34 h35 hE36 hF37 => ?_)
  have hI41 : LI K32 V33 x m0 := ⟨hE36.obj (by decide) hI10.1, hE36.obj (by decide) hI10.2.1, (GX.frx hF37 hE36 hI10.2.2.1 hW hI10.2.1 (by decide +kernel)), (PX0.frx hF37 hE36 hI10.2.2.2.1 hW hI10.2.1 (by decide +kernel)), (NN.frx 4 3 4 rfl rfl hF37 hE36 hI10.2.2.2.2.1 hW hI10.1 (by decide +kernel)), (NN.frx 10 9 7 rfl rfl hF37 hE36 hI10.2.2.2.2.2.1 hW hI10.1 (by decide +kernel)), (PI.frx hI10.2.2.2.2.2.2.1 hF37 hE36 hW hI10.1 hI10.2.2.2.2.1 (by decide +kernel)), (CWI.fr hI10.2.2.2.2.2.2.2 hF37 hE36 hW hI10.1 (by decide +kernel) (by decide +kernel) (by decide +kernel))⟩
  have hWp42 := hW
  have hY43 : YRL V33 x m0 := YRL.frx hY12 hF37 hE36 hW hI10.1 hI10.2.1 hI10.2.2.2.2.1 (by decide +kernel) (by decide +kernel)
  have hT44 : TXE K32 V33 x m0 := TXE.frx hT13 hF37 hE36 hW hI10.1 hI10.2.1 (by decide +kernel)
  have hA45 : AB V33 x m0 := AB.frx hA14 hF37 hE36 hW hI10.1 hI10.2.1 hI10.2.2.2.2.1 (by decide +kernel) (by decide +kernel) (Int.le_of_eq (vi_fr hF37 hI10.2.1 (hE36.obj (by decide) hI10.2.1) (by decide +kernel)).symm)
  have s46 : tdy V33 x = tdy V2 x := tdy_fr hF37 hE36 hW hI10.1 (by decide +kernel) (by decide +kernel)
  have s47 : wsz V33 x = wsz V2 x := wsz_fr hF37 hE36 hW hI10.1 (by decide +kernel) (by decide +kernel)
  have s48 : csz V33 x = csz V2 x := csz_fr hF37 hE36 hW hI10.1 (by decide +kernel) (by decide +kernel)
  have s49 : dsz V33 x = dsz V2 x := dsz_fr hF37 hE36 hW hI10.1 (by decide +kernel) (by decide +kernel)
  clear hW
  have s50 : vi V33 x 4 = vi V2 x 4 := vi_fr hF37 hI10.1 (hE36.obj (by decide) hI10.1) (by decide +kernel)
  have s51 : vi V33 x 10 = vi V2 x 10 := vi_fr hF37 hI10.1 (hE36.obj (by decide) hI10.1) (by decide +kernel)
  have s52 : vi V33 m0 9 = vi V2 m0 9 := vi_fr hF37 hI10.2.1 (hE36.obj (by decide) hI10.2.1) (by decide +kernel)
  have s53 : vi V33 m0 2 = vi V2 m0 2 := vi_fr hF37 hI10.2.1 (hE36.obj (by decide) hI10.2.1) (by decide +kernel)
  have s54 : vi V33 m0 91 = vi V2 m0 91 := vi_fr hF37 hI10.2.1 (hE36.obj (by decide) hI10.2.1) (by decide +kernel)
  have s55 : vi V33 m0 133 = vi V2 m0 133 := vi_fr hF37 hI10.2.1 (hE36.obj (by decide) hI10.2.1) (by decide +kernel)
  have s56 : vi V33 m0 120 = vi V2 m0 120 := vi_fr hF37 hI10.2.1 (hE36.obj (by decide) hI10.2.1) (by decide +kernel)
  have s57 : vi V33 x 8 = vi V2 x 8 := vi_fr hF37 hI10.1 (hE36.obj (by decide) hI10.1) (by decide +kernel)
  have s58 : vi V33 m0 66 = vi V2 m0 66 := vi_fr hF37 hI10.2.1 (hE36.obj (by decide) hI10.2.1) (by decide +kernel)
  have s59 : vi V33 m0 118 = vi V2 m0 118 := vi_fr hF37 hI10.2.1 (hE36.obj (by decide) hI10.2.1) (by decide +kernel)
  have hKd60 := KND.both hP0 hF6 hE5 hWp11 hI.2.1 (h4.2.2.2) (h35.2.2.2) (by decide +kernel)
  have hS61 : STE V33 x m0 := STE.frx hS29 hF37 hE36 hWp42 hI10.1 hI10.2.1 (by decide +kernel) (by decide +kernel)
  have hK62 : WKE V33 x m0 := WKE.frx hK30 hF37 hE36 hWp42 hI10.1 hI10.2.1 (by decide +kernel) (by decide +kernel)
  have hP63 : PLE V33 x m0 := PLE.frx hP31 hF37 hE36 hWp42 hI10.1 hI10.2.1 (by omega) (by decide +kernel) (by decide +kernel) (by decide +kernel) (by decide +kernel) (by decide +kernel) (by decide +kernel)
  have heq : X7 = X38 := (by omega)
  refine LG.icmp_eq (tgt := 2745) dL_law_1981 (by decide) r3 r34 (fun _ => ?_) (fun hc => absurd heq hc)
  exact LG.widen (le_cs3 rfl) (kk _ _ hI41 (⟨by unfold RLI; omega, hA45, hT44, hY43, hP63, hK62, hS61⟩))

set_option maxHeartbeats 2000000 in
theorem law_case_40 {p : Program} {l : Launch} {e : Env} {s : State} {m : MethodId} {below : List Frame} {meth : Method} {c : Code} {b L : Nat} {xs : Nat → Int32} {D : va_G} {dA : Nat → ClassId} {K : Kmap} {V : Vmap} {cells slots x m0 : Nat} {i : Int} (hI : LI K V x m0) (hR : REL K V x m0) (hL : L ≤ 4096) (h0 : 0 ≤ i) (h8 : i + 8 ≤ L) (hcs : cells + 8 ≤ 600000 ∧ slots + 2704 ≤ 7302250) (kk : ∀ (K1 : Kmap) (V1 : Vmap), LI K1 V1 x m0 → REL K1 V1 x m0 → LG p l e s m below meth c b L xs D dA K1 V1 (cells + 8) (slots + 2704) 2745 [some (.ref b), some (.ref x), some (.ref m0), some (ti i)] []) : LG p l e s m below meth c b L xs D dA K V cells slots 1986 [some (.ref b), some (.ref x), some (.ref m0), some (ti i)] [] := by
  have hR0 := hR.1
  have hA0 := hR.2.1
  have hT0 := hR.2.2.1
  have hY0 := hR.2.2.2.1
  have hP0 := hR.2.2.2.2.1
  have hK0 := hR.2.2.2.2.2.1
  have hS0 := hR.2.2.2.2.2.2
  unfold RLI at hR0
  refine LG.aload_n dL_law_1986 rfl rfl ?_
  refine LG.aload_n dL_law_1987 rfl rfl ?_
  refine LG.iload_n dL_law_1988 rfl rfl ?_
  refine LG.iconst dL_law_1989 ?_
  refine LG.iadd dL_law_1990 ?_
  refine LG.sld (Y := i + 1) dL_law_1991 (by omega) (by omega) hL ?_
  refine LG.aload_n dL_law_1992 rfl rfl ?_
  refine LG.iload_n dL_law_1993 rfl rfl ?_
  refine LG.iconst dL_law_1994 ?_
  refine LG.iadd dL_law_1995 ?_
  refine LG.sld (Y := i + 2) dL_law_1996 (by omega) (by omega) hL ?_
  refine LG.aload_n dL_law_1997 rfl rfl ?_
  refine LG.iload_n dL_law_1998 rfl rfl ?_
  refine LG.iconst dL_law_1999 ?_
  refine LG.iadd dL_law_2000 ?_
  refine LG.sld (Y := i + 3) dL_law_2001 (by omega) (by omega) hL ?_
  refine LG.aload_n dL_law_2002 rfl rfl ?_
  refine LG.iload_n dL_law_2003 rfl rfl ?_
  refine LG.iconst dL_law_2004 ?_
  refine LG.iadd dL_law_2005 ?_
  refine LG.sld (Y := i + 4) dL_law_2006 (by omega) (by omega) hL ?_
  refine LG.aload_n dL_law_2007 rfl rfl ?_
  refine LG.iload_n dL_law_2008 rfl rfl ?_
  refine LG.iconst dL_law_2009 ?_
  refine LG.iadd dL_law_2010 ?_
  refine LG.sld (Y := i + 5) dL_law_2011 (by omega) (by omega) hL ?_
  refine LG.useWT (fun hW => ?_)
  refine LG.callV (ci := 10) (N := mX11_loss) (As := [ti (xv xs (i + 1)), ti (xv xs (i + 2)), ti (xv xs (i + 3)), ti (xv xs (i + 4)), ti (xv xs (i + 5))]) dL_law_2012 (RX11, TX11, 20) rfl gV_RL_189 hI.1 (t_X11_loss hI.1 xv_ir xv_ir xv_ir xv_ir xv_ir) rfl [] rfl rfl (le_cs hcs rfl) (Nat.le_of_ble_eq_true rfl) (g_ip fun X7 K1 V2 r3 h4 hE5 hF6 => ?_)
  have hI10 : LI K1 V2 x m0 := ⟨hE5.obj (by decide) hI.1, hE5.obj (by decide) hI.2.1, (GX.frx hF6 hE5 hI.2.2.1 hW hI.2.1 (by decide +kernel)), (PX0.frx hF6 hE5 hI.2.2.2.1 hW hI.2.1 (by decide +kernel)), (NN.frx 4 3 4 rfl rfl hF6 hE5 hI.2.2.2.2.1 hW hI.1 (by decide +kernel)), (NN.frx 10 9 7 rfl rfl hF6 hE5 hI.2.2.2.2.2.1 hW hI.1 (by decide +kernel)), (PI.frx hI.2.2.2.2.2.2.1 hF6 hE5 hW hI.1 hI.2.2.2.2.1 (by decide +kernel)), (CWI.fr hI.2.2.2.2.2.2.2 hF6 hE5 hW hI.1 (by decide +kernel) (by decide +kernel) (by decide +kernel))⟩
  have hWp11 := hW
  have hY12 : YRL V2 x m0 := YRL.frx hY0 hF6 hE5 hW hI.1 hI.2.1 hI.2.2.2.2.1 (by decide +kernel) (by decide +kernel)
  have hT13 : TXE K1 V2 x m0 := TXE.frx hT0 hF6 hE5 hW hI.1 hI.2.1 (by decide +kernel)
  have hA14 : AB V2 x m0 := AB.frx hA0 hF6 hE5 hW hI.1 hI.2.1 hI.2.2.2.2.1 (by decide +kernel) (by decide +kernel) (Int.le_of_eq (vi_fr hF6 hI.2.1 (hE5.obj (by decide) hI.2.1) (by decide +kernel)).symm)
  have s15 : tdy V2 x = tdy V x := tdy_fr hF6 hE5 hW hI.1 (by decide +kernel) (by decide +kernel)
  have s16 : wsz V2 x = wsz V x := wsz_fr hF6 hE5 hW hI.1 (by decide +kernel) (by decide +kernel)
  have s17 : csz V2 x = csz V x := csz_fr hF6 hE5 hW hI.1 (by decide +kernel) (by decide +kernel)
  have s18 : dsz V2 x = dsz V x := dsz_fr hF6 hE5 hW hI.1 (by decide +kernel) (by decide +kernel)
  clear hW
  have s19 : vi V2 x 4 = vi V x 4 := vi_fr hF6 hI.1 (hE5.obj (by decide) hI.1) (by decide +kernel)
  have s20 : vi V2 x 10 = vi V x 10 := vi_fr hF6 hI.1 (hE5.obj (by decide) hI.1) (by decide +kernel)
  have s21 : vi V2 m0 9 = vi V m0 9 := vi_fr hF6 hI.2.1 (hE5.obj (by decide) hI.2.1) (by decide +kernel)
  have s22 : vi V2 m0 2 = vi V m0 2 := vi_fr hF6 hI.2.1 (hE5.obj (by decide) hI.2.1) (by decide +kernel)
  have s23 : vi V2 m0 91 = vi V m0 91 := vi_fr hF6 hI.2.1 (hE5.obj (by decide) hI.2.1) (by decide +kernel)
  have s24 : vi V2 m0 133 = vi V m0 133 := vi_fr hF6 hI.2.1 (hE5.obj (by decide) hI.2.1) (by decide +kernel)
  have s25 : vi V2 m0 120 = vi V m0 120 := vi_fr hF6 hI.2.1 (hE5.obj (by decide) hI.2.1) (by decide +kernel)
  have s26 : vi V2 x 8 = vi V x 8 := vi_fr hF6 hI.1 (hE5.obj (by decide) hI.1) (by decide +kernel)
  have s27 : vi V2 m0 66 = vi V m0 66 := vi_fr hF6 hI.2.1 (hE5.obj (by decide) hI.2.1) (by decide +kernel)
  have s28 : vi V2 m0 118 = vi V m0 118 := vi_fr hF6 hI.2.1 (hE5.obj (by decide) hI.2.1) (by decide +kernel)
  have hS29 : STE V2 x m0 := STE.frx hS0 hF6 hE5 hWp11 hI.1 hI.2.1 (by decide +kernel) (by decide +kernel)
  have hK30 : WKE V2 x m0 := WKE.frx hK0 hF6 hE5 hWp11 hI.1 hI.2.1 (by decide +kernel) (by decide +kernel)
  have hP31 : PLE V2 x m0 := PLE.frx hP0 hF6 hE5 hWp11 hI.1 hI.2.1 (by omega) (by decide +kernel) (by decide +kernel) (by decide +kernel) (by decide +kernel) (by decide +kernel) (by decide +kernel)
  refine LG.pop dL_law_2015 rfl ?_
  refine LG.aload_n dL_law_2016 rfl rfl ?_
  refine LG.aload_n dL_law_2017 rfl rfl ?_
  refine LG.iload_n dL_law_2018 rfl rfl ?_
  refine LG.iconst dL_law_2019 ?_
  refine LG.iadd dL_law_2020 ?_
  refine LG.sld (Y := i + 1) dL_law_2021 (by omega) (by omega) hL ?_
  refine LG.aload_n dL_law_2022 rfl rfl ?_
  refine LG.iload_n dL_law_2023 rfl rfl ?_
  refine LG.iconst dL_law_2024 ?_
  refine LG.iadd dL_law_2025 ?_
  refine LG.sld (Y := i + 2) dL_law_2026 (by omega) (by omega) hL ?_
  refine LG.aload_n dL_law_2027 rfl rfl ?_
  refine LG.iload_n dL_law_2028 rfl rfl ?_
  refine LG.iconst dL_law_2029 ?_
  refine LG.iadd dL_law_2030 ?_
  refine LG.sld (Y := i + 3) dL_law_2031 (by omega) (by omega) hL ?_
  refine LG.aload_n dL_law_2032 rfl rfl ?_
  refine LG.iload_n dL_law_2033 rfl rfl ?_
  refine LG.iconst dL_law_2034 ?_
  refine LG.iadd dL_law_2035 ?_
  refine LG.sld (Y := i + 4) dL_law_2036 (by omega) (by omega) hL ?_
  refine LG.aload_n dL_law_2037 rfl rfl ?_
  refine LG.iload_n dL_law_2038 rfl rfl ?_
  refine LG.iconst dL_law_2039 ?_
  refine LG.iadd dL_law_2040 ?_
  refine LG.sld (Y := i + 5) dL_law_2041 (by omega) (by omega) hL ?_
  refine LG.useWT (fun hW => ?_)
  refine LG.callV (ci := 11) (N := mX12_loss) (As := [ti (xv xs (i + 1)), ti (xv xs (i + 2)), ti (xv xs (i + 3)), ti (xv xs (i + 4)), ti (xv xs (i + 5))]) dL_law_2042 (RX12, TX12, 151) rfl gV_RL_192 hI10.2.1 (t_X12_loss hI10.2.1 xv_ir xv_ir xv_ir xv_ir xv_ir) rfl [] rfl rfl (le_csb hcs rfl) (Nat.le_of_ble_eq_true rfl) (g_ip fun X38 K32 V33 r34 h35 hE36 hF37 => ?_)
  have hI41 : LI K32 V33 x m0 := ⟨hE36.obj (by decide) hI10.1, hE36.obj (by decide) hI10.2.1, (GX.frx hF37 hE36 hI10.2.2.1 hW hI10.2.1 (by decide +kernel)), (PX0.frx hF37 hE36 hI10.2.2.2.1 hW hI10.2.1 (by decide +kernel)), (NN.frx 4 3 4 rfl rfl hF37 hE36 hI10.2.2.2.2.1 hW hI10.1 (by decide +kernel)), (NN.frx 10 9 7 rfl rfl hF37 hE36 hI10.2.2.2.2.2.1 hW hI10.1 (by decide +kernel)), (PI.frx hI10.2.2.2.2.2.2.1 hF37 hE36 hW hI10.1 hI10.2.2.2.2.1 (by decide +kernel)), (CWI.fr hI10.2.2.2.2.2.2.2 hF37 hE36 hW hI10.1 (by decide +kernel) (by decide +kernel) (by decide +kernel))⟩
  have hWp42 := hW
  have hY43 : YRL V33 x m0 := YRL.frx hY12 hF37 hE36 hW hI10.1 hI10.2.1 hI10.2.2.2.2.1 (by decide +kernel) (by decide +kernel)
  have hT44 : TXE K32 V33 x m0 := TXE.frx hT13 hF37 hE36 hW hI10.1 hI10.2.1 (by decide +kernel)
  have hA45 : AB V33 x m0 := AB.frx hA14 hF37 hE36 hW hI10.1 hI10.2.1 hI10.2.2.2.2.1 (by decide +kernel) (by decide +kernel) (Int.le_of_eq (vi_fr hF37 hI10.2.1 (hE36.obj (by decide) hI10.2.1) (by decide +kernel)).symm)
  have s46 : tdy V33 x = tdy V2 x := tdy_fr hF37 hE36 hW hI10.1 (by decide +kernel) (by decide +kernel)
  have s47 : wsz V33 x = wsz V2 x := wsz_fr hF37 hE36 hW hI10.1 (by decide +kernel) (by decide +kernel)
  have s48 : csz V33 x = csz V2 x := csz_fr hF37 hE36 hW hI10.1 (by decide +kernel) (by decide +kernel)
  have s49 : dsz V33 x = dsz V2 x := dsz_fr hF37 hE36 hW hI10.1 (by decide +kernel) (by decide +kernel)
  clear hW
  have s50 : vi V33 x 4 = vi V2 x 4 := vi_fr hF37 hI10.1 (hE36.obj (by decide) hI10.1) (by decide +kernel)
  have s51 : vi V33 x 10 = vi V2 x 10 := vi_fr hF37 hI10.1 (hE36.obj (by decide) hI10.1) (by decide +kernel)
  have s52 : vi V33 m0 9 = vi V2 m0 9 := vi_fr hF37 hI10.2.1 (hE36.obj (by decide) hI10.2.1) (by decide +kernel)
  have s53 : vi V33 m0 2 = vi V2 m0 2 := vi_fr hF37 hI10.2.1 (hE36.obj (by decide) hI10.2.1) (by decide +kernel)
  have s54 : vi V33 m0 91 = vi V2 m0 91 := vi_fr hF37 hI10.2.1 (hE36.obj (by decide) hI10.2.1) (by decide +kernel)
  have s55 : vi V33 m0 133 = vi V2 m0 133 := vi_fr hF37 hI10.2.1 (hE36.obj (by decide) hI10.2.1) (by decide +kernel)
  have s56 : vi V33 m0 120 = vi V2 m0 120 := vi_fr hF37 hI10.2.1 (hE36.obj (by decide) hI10.2.1) (by decide +kernel)
  have s57 : vi V33 x 8 = vi V2 x 8 := vi_fr hF37 hI10.1 (hE36.obj (by decide) hI10.1) (by decide +kernel)
  have s58 : vi V33 m0 66 = vi V2 m0 66 := vi_fr hF37 hI10.2.1 (hE36.obj (by decide) hI10.2.1) (by decide +kernel)
  have s59 : vi V33 m0 118 = vi V2 m0 118 := vi_fr hF37 hI10.2.1 (hE36.obj (by decide) hI10.2.1) (by decide +kernel)
  have hS60 : STE V33 x m0 := STE.frx hS29 hF37 hE36 hWp42 hI10.1 hI10.2.1 (by decide +kernel) (by decide +kernel)
  have hK61 : WKE V33 x m0 := WKE.frx hK30 hF37 hE36 hWp42 hI10.1 hI10.2.1 (by decide +kernel) (by decide +kernel)
  have hP62 : PLE V33 x m0 := PLE.frx hP31 hF37 hE36 hWp42 hI10.1 hI10.2.1 (by omega) (by decide +kernel) (by decide +kernel) (by decide +kernel) (by decide +kernel) (by decide +kernel) (by decide +kernel)
  refine LG.pop dL_law_2045 rfl ?_
  refine LG.goto (tgt := 2745) dL_law_2046 (by decide) ?_
  exact LG.widen (le_cs3 rfl) (kk _ _ hI41 (⟨by unfold RLI; omega, hA45, hT44, hY43, hP62, hK61, hS60⟩))

set_option maxHeartbeats 2000000 in
theorem law_case_41 {p : Program} {l : Launch} {e : Env} {s : State} {m : MethodId} {below : List Frame} {meth : Method} {c : Code} {b L : Nat} {xs : Nat → Int32} {D : va_G} {dA : Nat → ClassId} {K : Kmap} {V : Vmap} {cells slots x m0 : Nat} {i : Int} (hI : LI K V x m0) (hR : REL K V x m0) (hL : L ≤ 4096) (h0 : 0 ≤ i) (h8 : i + 8 ≤ L) (hcs : cells + 8 ≤ 600000 ∧ slots + 2704 ≤ 7302250) (kk : ∀ (K1 : Kmap) (V1 : Vmap), LI K1 V1 x m0 → REL K1 V1 x m0 → LG p l e s m below meth c b L xs D dA K1 V1 (cells + 8) (slots + 2704) 2745 [some (.ref b), some (.ref x), some (.ref m0), some (ti i)] []) : LG p l e s m below meth c b L xs D dA K V cells slots 2049 [some (.ref b), some (.ref x), some (.ref m0), some (ti i)] [] := by
  have hR0 := hR.1
  have hA0 := hR.2.1
  have hT0 := hR.2.2.1
  have hY0 := hR.2.2.2.1
  have hP0 := hR.2.2.2.2.1
  have hK0 := hR.2.2.2.2.2.1
  have hS0 := hR.2.2.2.2.2.2
  unfold RLI at hR0
  refine LG.aload_n dL_law_2049 rfl rfl ?_
  refine LG.aload_n dL_law_2050 rfl rfl ?_
  refine LG.iload_n dL_law_2051 rfl rfl ?_
  refine LG.iconst dL_law_2052 ?_
  refine LG.iadd dL_law_2053 ?_
  refine LG.sld (Y := i + 1) dL_law_2054 (by omega) (by omega) hL ?_
  refine LG.aload_n dL_law_2055 rfl rfl ?_
  refine LG.iload_n dL_law_2056 rfl rfl ?_
  refine LG.iconst dL_law_2057 ?_
  refine LG.iadd dL_law_2058 ?_
  refine LG.sld (Y := i + 2) dL_law_2059 (by omega) (by omega) hL ?_
  refine LG.useWT (fun hW => ?_)
  refine LG.callV (ci := 10) (N := mX11_noise) (As := [ti (xv xs (i + 1)), ti (xv xs (i + 2))]) dL_law_2060 (RX11, TX11, 20) rfl gV_RL_193 hI.1 (t_X11_noise hI.1 xv_ir xv_ir) rfl [] rfl rfl (le_cs hcs rfl) (Nat.le_of_ble_eq_true rfl) (g_ip fun X7 K1 V2 r3 h4 hE5 hF6 => ?_)
  have hI10 : LI K1 V2 x m0 := ⟨hE5.obj (by decide) hI.1, hE5.obj (by decide) hI.2.1, (GX.frx hF6 hE5 hI.2.2.1 hW hI.2.1 (by decide +kernel)), (PX0.frx hF6 hE5 hI.2.2.2.1 hW hI.2.1 (by decide +kernel)), (NN.frx 4 3 4 rfl rfl hF6 hE5 hI.2.2.2.2.1 hW hI.1 (by decide +kernel)), (NN.frx 10 9 7 rfl rfl hF6 hE5 hI.2.2.2.2.2.1 hW hI.1 (by decide +kernel)), (PI.frx hI.2.2.2.2.2.2.1 hF6 hE5 hW hI.1 hI.2.2.2.2.1 (by decide +kernel)), (CWI.fr hI.2.2.2.2.2.2.2 hF6 hE5 hW hI.1 (by decide +kernel) (by decide +kernel) (by decide +kernel))⟩
  have hWp11 := hW
  have hY12 : YRL V2 x m0 := YRL.frx hY0 hF6 hE5 hW hI.1 hI.2.1 hI.2.2.2.2.1 (by decide +kernel) (by decide +kernel)
  have hT13 : TXE K1 V2 x m0 := TXE.frx hT0 hF6 hE5 hW hI.1 hI.2.1 (by decide +kernel)
  have hA14 : AB V2 x m0 := AB.frx hA0 hF6 hE5 hW hI.1 hI.2.1 hI.2.2.2.2.1 (by decide +kernel) (by decide +kernel) (Int.le_of_eq (vi_fr hF6 hI.2.1 (hE5.obj (by decide) hI.2.1) (by decide +kernel)).symm)
  have s15 : tdy V2 x = tdy V x := tdy_fr hF6 hE5 hW hI.1 (by decide +kernel) (by decide +kernel)
  have s16 : wsz V2 x = wsz V x := wsz_fr hF6 hE5 hW hI.1 (by decide +kernel) (by decide +kernel)
  have s17 : csz V2 x = csz V x := csz_fr hF6 hE5 hW hI.1 (by decide +kernel) (by decide +kernel)
  have s18 : dsz V2 x = dsz V x := dsz_fr hF6 hE5 hW hI.1 (by decide +kernel) (by decide +kernel)
  clear hW
  have s19 : vi V2 x 4 = vi V x 4 := vi_fr hF6 hI.1 (hE5.obj (by decide) hI.1) (by decide +kernel)
  have s20 : vi V2 x 10 = vi V x 10 := vi_fr hF6 hI.1 (hE5.obj (by decide) hI.1) (by decide +kernel)
  have s21 : vi V2 m0 9 = vi V m0 9 := vi_fr hF6 hI.2.1 (hE5.obj (by decide) hI.2.1) (by decide +kernel)
  have s22 : vi V2 m0 2 = vi V m0 2 := vi_fr hF6 hI.2.1 (hE5.obj (by decide) hI.2.1) (by decide +kernel)
  have s23 : vi V2 m0 91 = vi V m0 91 := vi_fr hF6 hI.2.1 (hE5.obj (by decide) hI.2.1) (by decide +kernel)
  have s24 : vi V2 m0 133 = vi V m0 133 := vi_fr hF6 hI.2.1 (hE5.obj (by decide) hI.2.1) (by decide +kernel)
  have s25 : vi V2 m0 120 = vi V m0 120 := vi_fr hF6 hI.2.1 (hE5.obj (by decide) hI.2.1) (by decide +kernel)
  have s26 : vi V2 x 8 = vi V x 8 := vi_fr hF6 hI.1 (hE5.obj (by decide) hI.1) (by decide +kernel)
  have s27 : vi V2 m0 66 = vi V m0 66 := vi_fr hF6 hI.2.1 (hE5.obj (by decide) hI.2.1) (by decide +kernel)
  have s28 : vi V2 m0 118 = vi V m0 118 := vi_fr hF6 hI.2.1 (hE5.obj (by decide) hI.2.1) (by decide +kernel)
  have hS29 : STE V2 x m0 := STE.frx hS0 hF6 hE5 hWp11 hI.1 hI.2.1 (by decide +kernel) (by decide +kernel)
  have hK30 : WKE V2 x m0 := WKE.frx hK0 hF6 hE5 hWp11 hI.1 hI.2.1 (by decide +kernel) (by decide +kernel)
  have hP31 : PLE V2 x m0 := PLE.frx hP0 hF6 hE5 hWp11 hI.1 hI.2.1 (by omega) (by decide +kernel) (by decide +kernel) (by decide +kernel) (by decide +kernel) (by decide +kernel) (by decide +kernel)
  refine LG.pop dL_law_2063 rfl ?_
  refine LG.aload_n dL_law_2064 rfl rfl ?_
  refine LG.aload_n dL_law_2065 rfl rfl ?_
  refine LG.iload_n dL_law_2066 rfl rfl ?_
  refine LG.iconst dL_law_2067 ?_
  refine LG.iadd dL_law_2068 ?_
  refine LG.sld (Y := i + 1) dL_law_2069 (by omega) (by omega) hL ?_
  refine LG.aload_n dL_law_2070 rfl rfl ?_
  refine LG.iload_n dL_law_2071 rfl rfl ?_
  refine LG.iconst dL_law_2072 ?_
  refine LG.iadd dL_law_2073 ?_
  refine LG.sld (Y := i + 2) dL_law_2074 (by omega) (by omega) hL ?_
  refine LG.useWT (fun hW => ?_)
  refine LG.callV (ci := 11) (N := mX12_noise) (As := [ti (xv xs (i + 1)), ti (xv xs (i + 2))]) dL_law_2075 (RX12, TX12, 151) rfl gV_RL_196 hI10.2.1 (t_X12_noise hI10.2.1 xv_ir xv_ir) rfl [] rfl rfl (le_csb hcs rfl) (Nat.le_of_ble_eq_true rfl) (g_ip fun X38 K32 V33 r34 h35 hE36 hF37 => ?_)
  have hI41 : LI K32 V33 x m0 := ⟨hE36.obj (by decide) hI10.1, hE36.obj (by decide) hI10.2.1, (GX.frx hF37 hE36 hI10.2.2.1 hW hI10.2.1 (by decide +kernel)), (PX0.frx hF37 hE36 hI10.2.2.2.1 hW hI10.2.1 (by decide +kernel)), (NN.frx 4 3 4 rfl rfl hF37 hE36 hI10.2.2.2.2.1 hW hI10.1 (by decide +kernel)), (NN.frx 10 9 7 rfl rfl hF37 hE36 hI10.2.2.2.2.2.1 hW hI10.1 (by decide +kernel)), (PI.frx hI10.2.2.2.2.2.2.1 hF37 hE36 hW hI10.1 hI10.2.2.2.2.1 (by decide +kernel)), (CWI.fr hI10.2.2.2.2.2.2.2 hF37 hE36 hW hI10.1 (by decide +kernel) (by decide +kernel) (by decide +kernel))⟩
  have hWp42 := hW
  have hY43 : YRL V33 x m0 := YRL.frx hY12 hF37 hE36 hW hI10.1 hI10.2.1 hI10.2.2.2.2.1 (by decide +kernel) (by decide +kernel)
  have hT44 : TXE K32 V33 x m0 := TXE.frx hT13 hF37 hE36 hW hI10.1 hI10.2.1 (by decide +kernel)
  have hA45 : AB V33 x m0 := AB.frx hA14 hF37 hE36 hW hI10.1 hI10.2.1 hI10.2.2.2.2.1 (by decide +kernel) (by decide +kernel) (Int.le_of_eq (vi_fr hF37 hI10.2.1 (hE36.obj (by decide) hI10.2.1) (by decide +kernel)).symm)
  have s46 : tdy V33 x = tdy V2 x := tdy_fr hF37 hE36 hW hI10.1 (by decide +kernel) (by decide +kernel)
  have s47 : wsz V33 x = wsz V2 x := wsz_fr hF37 hE36 hW hI10.1 (by decide +kernel) (by decide +kernel)
  have s48 : csz V33 x = csz V2 x := csz_fr hF37 hE36 hW hI10.1 (by decide +kernel) (by decide +kernel)
  have s49 : dsz V33 x = dsz V2 x := dsz_fr hF37 hE36 hW hI10.1 (by decide +kernel) (by decide +kernel)
  clear hW
  have s50 : vi V33 x 4 = vi V2 x 4 := vi_fr hF37 hI10.1 (hE36.obj (by decide) hI10.1) (by decide +kernel)
  have s51 : vi V33 x 10 = vi V2 x 10 := vi_fr hF37 hI10.1 (hE36.obj (by decide) hI10.1) (by decide +kernel)
  have s52 : vi V33 m0 9 = vi V2 m0 9 := vi_fr hF37 hI10.2.1 (hE36.obj (by decide) hI10.2.1) (by decide +kernel)
  have s53 : vi V33 m0 2 = vi V2 m0 2 := vi_fr hF37 hI10.2.1 (hE36.obj (by decide) hI10.2.1) (by decide +kernel)
  have s54 : vi V33 m0 91 = vi V2 m0 91 := vi_fr hF37 hI10.2.1 (hE36.obj (by decide) hI10.2.1) (by decide +kernel)
  have s55 : vi V33 m0 133 = vi V2 m0 133 := vi_fr hF37 hI10.2.1 (hE36.obj (by decide) hI10.2.1) (by decide +kernel)
  have s56 : vi V33 m0 120 = vi V2 m0 120 := vi_fr hF37 hI10.2.1 (hE36.obj (by decide) hI10.2.1) (by decide +kernel)
  have s57 : vi V33 x 8 = vi V2 x 8 := vi_fr hF37 hI10.1 (hE36.obj (by decide) hI10.1) (by decide +kernel)
  have s58 : vi V33 m0 66 = vi V2 m0 66 := vi_fr hF37 hI10.2.1 (hE36.obj (by decide) hI10.2.1) (by decide +kernel)
  have s59 : vi V33 m0 118 = vi V2 m0 118 := vi_fr hF37 hI10.2.1 (hE36.obj (by decide) hI10.2.1) (by decide +kernel)
  have hS60 : STE V33 x m0 := STE.frx hS29 hF37 hE36 hWp42 hI10.1 hI10.2.1 (by decide +kernel) (by decide +kernel)
  have hK61 : WKE V33 x m0 := WKE.frx hK30 hF37 hE36 hWp42 hI10.1 hI10.2.1 (by decide +kernel) (by decide +kernel)
  have hP62 : PLE V33 x m0 := PLE.frx hP31 hF37 hE36 hWp42 hI10.1 hI10.2.1 (by omega) (by decide +kernel) (by decide +kernel) (by decide +kernel) (by decide +kernel) (by decide +kernel) (by decide +kernel)
  refine LG.pop dL_law_2078 rfl ?_
  refine LG.goto (tgt := 2745) dL_law_2079 (by decide) ?_
  exact LG.widen (le_cs3 rfl) (kk _ _ hI41 (⟨by unfold RLI; omega, hA45, hT44, hY43, hP62, hK61, hS60⟩))

set_option maxHeartbeats 2000000 in
theorem law_case_42 {p : Program} {l : Launch} {e : Env} {s : State} {m : MethodId} {below : List Frame} {meth : Method} {c : Code} {b L : Nat} {xs : Nat → Int32} {D : va_G} {dA : Nat → ClassId} {K : Kmap} {V : Vmap} {cells slots x m0 : Nat} {i : Int} (hI : LI K V x m0) (hR : REL K V x m0) (hL : L ≤ 4096) (h0 : 0 ≤ i) (h8 : i + 8 ≤ L) (hcs : cells + 8 ≤ 600000 ∧ slots + 2704 ≤ 7302250) (kk : ∀ (K1 : Kmap) (V1 : Vmap), LI K1 V1 x m0 → REL K1 V1 x m0 → LG p l e s m below meth c b L xs D dA K1 V1 (cells + 8) (slots + 2704) 2745 [some (.ref b), some (.ref x), some (.ref m0), some (ti i)] []) : LG p l e s m below meth c b L xs D dA K V cells slots 2082 [some (.ref b), some (.ref x), some (.ref m0), some (ti i)] [] := by
  have hR0 := hR.1
  have hA0 := hR.2.1
  have hT0 := hR.2.2.1
  have hY0 := hR.2.2.2.1
  have hP0 := hR.2.2.2.2.1
  have hK0 := hR.2.2.2.2.2.1
  have hS0 := hR.2.2.2.2.2.2
  unfold RLI at hR0
  refine LG.aload_n dL_law_2082 rfl rfl ?_
  refine LG.aload_n dL_law_2083 rfl rfl ?_
  refine LG.iload_n dL_law_2084 rfl rfl ?_
  refine LG.iconst dL_law_2085 ?_
  refine LG.iadd dL_law_2086 ?_
  refine LG.sld (Y := i + 1) dL_law_2087 (by omega) (by omega) hL ?_
  refine LG.aload_n dL_law_2088 rfl rfl ?_
  refine LG.iload_n dL_law_2089 rfl rfl ?_
  refine LG.iconst dL_law_2090 ?_
  refine LG.iadd dL_law_2091 ?_
  refine LG.sld (Y := i + 2) dL_law_2092 (by omega) (by omega) hL ?_
  refine LG.aload_n dL_law_2093 rfl rfl ?_
  refine LG.iload_n dL_law_2094 rfl rfl ?_
  refine LG.iconst dL_law_2095 ?_
  refine LG.iadd dL_law_2096 ?_
  refine LG.sld (Y := i + 3) dL_law_2097 (by omega) (by omega) hL ?_
  refine LG.aload_n dL_law_2098 rfl rfl ?_
  refine LG.iload_n dL_law_2099 rfl rfl ?_
  refine LG.iconst dL_law_2100 ?_
  refine LG.iadd dL_law_2101 ?_
  refine LG.sld (Y := i + 4) dL_law_2102 (by omega) (by omega) hL ?_
  refine LG.aload_n dL_law_2103 rfl rfl ?_
  refine LG.iload_n dL_law_2104 rfl rfl ?_
  refine LG.iconst dL_law_2105 ?_
  refine LG.iadd dL_law_2106 ?_
  refine LG.sld (Y := i + 5) dL_law_2107 (by omega) (by omega) hL ?_
  refine LG.useWT (fun hW => ?_)
  refine LG.callV (ci := 10) (N := mX11_caught) (As := [ti (xv xs (i + 1)), ti (xv xs (i + 2)), ti (xv xs (i + 3)), ti (xv xs (i + 4)), ti (xv xs (i + 5))]) dL_law_2108 (RX11, TX11, 20) rfl gV_RL_197 hI.1 (t_X11_caught hI.1 xv_ir xv_ir xv_ir xv_ir xv_ir hI.2.2.2.2.2.1) rfl [] rfl rfl (le_cs hcs rfl) (Nat.le_of_ble_eq_true rfl) (g_is fun X7 K1 V2 r3 h4 hE5 hF6 => ?_)
  have hI10 : LI K1 V2 x m0 := ⟨hE5.obj (by decide) hI.1, hE5.obj (by decide) hI.2.1, (GX.frx hF6 hE5 hI.2.2.1 hW hI.2.1 (by decide +kernel)), (PX0.frx hF6 hE5 hI.2.2.2.1 hW hI.2.1 (by decide +kernel)), (NN.frx 4 3 4 rfl rfl hF6 hE5 hI.2.2.2.2.1 hW hI.1 (by decide +kernel)), (NN.frx 10 9 7 rfl rfl hF6 hE5 hI.2.2.2.2.2.1 hW hI.1 (by decide +kernel)), (PI.frx hI.2.2.2.2.2.2.1 hF6 hE5 hW hI.1 hI.2.2.2.2.1 (by decide +kernel)), (CWI.fr hI.2.2.2.2.2.2.2 hF6 hE5 hW hI.1 (by decide +kernel) (by decide +kernel) (by decide +kernel))⟩
  have hWp11 := hW
  have hY12 : YRL V2 x m0 := YRL.frx hY0 hF6 hE5 hW hI.1 hI.2.1 hI.2.2.2.2.1 (by decide +kernel) (by decide +kernel)
  have hT13 : TXE K1 V2 x m0 := TXE.frx hT0 hF6 hE5 hW hI.1 hI.2.1 (by decide +kernel)
  have hA14 : AB V2 x m0 := AB.frx hA0 hF6 hE5 hW hI.1 hI.2.1 hI.2.2.2.2.1 (by decide +kernel) (by decide +kernel) (Int.le_of_eq (vi_fr hF6 hI.2.1 (hE5.obj (by decide) hI.2.1) (by decide +kernel)).symm)
  have s15 : tdy V2 x = tdy V x := tdy_fr hF6 hE5 hW hI.1 (by decide +kernel) (by decide +kernel)
  have s16 : wsz V2 x = wsz V x := wsz_fr hF6 hE5 hW hI.1 (by decide +kernel) (by decide +kernel)
  have s17 : (X7 = -1 ∧ csz V2 x = csz V x ∧ ((xv xs (i + 1)) < 0 ∨ vi V x 10 ≤ (xv xs (i + 1)) ∨ (xv xs (i + 2)) < 0 ∨ 3 < (xv xs (i + 2)) ∨ (xv xs (i + 3)) < 0 ∨ 3 < (xv xs (i + 3)) ∨ (xv xs (i + 4)) < 1 ∨ 1000000 < (xv xs (i + 4)) ∨ (xv xs (i + 5)) < 0 ∨ tdy V x < (xv xs (i + 5)) ∨ 200 ≤ csz V x)) ∨ (X7 = csz V x ∧ csz V2 x = csz V x + 1 ∧ csz V x < 200 ∧ (0 ≤ (xv xs (i + 1)) ∧ (xv xs (i + 1)) < vi V x 10 ∧ 0 ≤ (xv xs (i + 2)) ∧ (xv xs (i + 2)) ≤ 3 ∧ 0 ≤ (xv xs (i + 3)) ∧ (xv xs (i + 3)) ≤ 3 ∧ 1 ≤ (xv xs (i + 4)) ∧ (xv xs (i + 4)) ≤ 1000000 ∧ 0 ≤ (xv xs (i + 5)) ∧ (xv xs (i + 5)) ≤ tdy V x)) := h4.2
  have s18 : dsz V2 x = dsz V x := dsz_fr hF6 hE5 hW hI.1 (by decide +kernel) (by decide +kernel)
  clear hW
  have s19 : vi V2 x 4 = vi V x 4 := vi_fr hF6 hI.1 (hE5.obj (by decide) hI.1) (by decide +kernel)
  have s20 : vi V2 x 10 = vi V x 10 := vi_fr hF6 hI.1 (hE5.obj (by decide) hI.1) (by decide +kernel)
  have s21 : vi V2 m0 9 = vi V m0 9 := vi_fr hF6 hI.2.1 (hE5.obj (by decide) hI.2.1) (by decide +kernel)
  have s22 : vi V2 m0 2 = vi V m0 2 := vi_fr hF6 hI.2.1 (hE5.obj (by decide) hI.2.1) (by decide +kernel)
  have s23 : vi V2 m0 91 = vi V m0 91 := vi_fr hF6 hI.2.1 (hE5.obj (by decide) hI.2.1) (by decide +kernel)
  have s24 : vi V2 m0 133 = vi V m0 133 := vi_fr hF6 hI.2.1 (hE5.obj (by decide) hI.2.1) (by decide +kernel)
  have s25 : vi V2 m0 120 = vi V m0 120 := vi_fr hF6 hI.2.1 (hE5.obj (by decide) hI.2.1) (by decide +kernel)
  have s26 : vi V2 x 8 = vi V x 8 := vi_fr hF6 hI.1 (hE5.obj (by decide) hI.1) (by decide +kernel)
  have s27 : vi V2 m0 66 = vi V m0 66 := vi_fr hF6 hI.2.1 (hE5.obj (by decide) hI.2.1) (by decide +kernel)
  have s28 : vi V2 m0 118 = vi V m0 118 := vi_fr hF6 hI.2.1 (hE5.obj (by decide) hI.2.1) (by decide +kernel)
  have hS29 : STE V2 x m0 := STE.frx hS0 hF6 hE5 hWp11 hI.1 hI.2.1 (by decide +kernel) (by decide +kernel)
  have hK30 : WKE V2 x m0 := WKE.frx hK0 hF6 hE5 hWp11 hI.1 hI.2.1 (by decide +kernel) (by decide +kernel)
  have hP31 : PLE V2 x m0 := PLE.frx hP0 hF6 hE5 hWp11 hI.1 hI.2.1 (by omega) (by decide +kernel) (by decide +kernel) (by decide +kernel) (by decide +kernel) (by decide +kernel) (by decide +kernel)
  refine LG.pop dL_law_2111 rfl ?_
  refine LG.aload_n dL_law_2112 rfl rfl ?_
  refine LG.aload_n dL_law_2113 rfl rfl ?_
  refine LG.iload_n dL_law_2114 rfl rfl ?_
  refine LG.iconst dL_law_2115 ?_
  refine LG.iadd dL_law_2116 ?_
  refine LG.sld (Y := i + 1) dL_law_2117 (by omega) (by omega) hL ?_
  refine LG.aload_n dL_law_2118 rfl rfl ?_
  refine LG.iload_n dL_law_2119 rfl rfl ?_
  refine LG.iconst dL_law_2120 ?_
  refine LG.iadd dL_law_2121 ?_
  refine LG.sld (Y := i + 2) dL_law_2122 (by omega) (by omega) hL ?_
  refine LG.aload_n dL_law_2123 rfl rfl ?_
  refine LG.iload_n dL_law_2124 rfl rfl ?_
  refine LG.iconst dL_law_2125 ?_
  refine LG.iadd dL_law_2126 ?_
  refine LG.sld (Y := i + 3) dL_law_2127 (by omega) (by omega) hL ?_
  refine LG.aload_n dL_law_2128 rfl rfl ?_
  refine LG.iload_n dL_law_2129 rfl rfl ?_
  refine LG.iconst dL_law_2130 ?_
  refine LG.iadd dL_law_2131 ?_
  refine LG.sld (Y := i + 4) dL_law_2132 (by omega) (by omega) hL ?_
  refine LG.aload_n dL_law_2133 rfl rfl ?_
  refine LG.iload_n dL_law_2134 rfl rfl ?_
  refine LG.iconst dL_law_2135 ?_
  refine LG.iadd dL_law_2136 ?_
  refine LG.sld (Y := i + 5) dL_law_2137 (by omega) (by omega) hL ?_
  refine LG.useWT (fun hW => ?_)
  refine LG.callV (ci := 11) (N := mX12_caught) (As := [ti (xv xs (i + 1)), ti (xv xs (i + 2)), ti (xv xs (i + 3)), ti (xv xs (i + 4)), ti (xv xs (i + 5))]) dL_law_2138 (RX12, TX12, 151) rfl gV_RL_200 hI10.2.1 (t_X12_caught hI10.2.1 xv_ir xv_ir xv_ir xv_ir xv_ir) rfl [] rfl rfl (le_csb hcs rfl) (Nat.le_of_ble_eq_true rfl) (g_is fun X38 K32 V33 r34 h35 hE36 hF37 => ?_)
  have hI41 : LI K32 V33 x m0 := ⟨hE36.obj (by decide) hI10.1, hE36.obj (by decide) hI10.2.1, (GX.frx hF37 hE36 hI10.2.2.1 hW hI10.2.1 (by decide +kernel)), (PX0.frx hF37 hE36 hI10.2.2.2.1 hW hI10.2.1 (by decide +kernel)), (NN.frx 4 3 4 rfl rfl hF37 hE36 hI10.2.2.2.2.1 hW hI10.1 (by decide +kernel)), (NN.frx 10 9 7 rfl rfl hF37 hE36 hI10.2.2.2.2.2.1 hW hI10.1 (by decide +kernel)), (PI.frx hI10.2.2.2.2.2.2.1 hF37 hE36 hW hI10.1 hI10.2.2.2.2.1 (by decide +kernel)), (CWI.fr hI10.2.2.2.2.2.2.2 hF37 hE36 hW hI10.1 (by decide +kernel) (by decide +kernel) (by decide +kernel))⟩
  have hWp42 := hW
  have hY43 : YRL V33 x m0 := YRL.frx hY12 hF37 hE36 hW hI10.1 hI10.2.1 hI10.2.2.2.2.1 (by decide +kernel) (by decide +kernel)
  have hT44 : TXE K32 V33 x m0 := TXE.frx hT13 hF37 hE36 hW hI10.1 hI10.2.1 (by decide +kernel)
  have hA45 : AB V33 x m0 := AB.frx hA14 hF37 hE36 hW hI10.1 hI10.2.1 hI10.2.2.2.2.1 (by decide +kernel) (by decide +kernel) (Int.le_of_eq (vi_fr hF37 hI10.2.1 (hE36.obj (by decide) hI10.2.1) (by decide +kernel)).symm)
  have s46 : tdy V33 x = tdy V2 x := tdy_fr hF37 hE36 hW hI10.1 (by decide +kernel) (by decide +kernel)
  have s47 : wsz V33 x = wsz V2 x := wsz_fr hF37 hE36 hW hI10.1 (by decide +kernel) (by decide +kernel)
  have s48 : csz V33 x = csz V2 x := csz_fr hF37 hE36 hW hI10.1 (by decide +kernel) (by decide +kernel)
  have s49 : dsz V33 x = dsz V2 x := dsz_fr hF37 hE36 hW hI10.1 (by decide +kernel) (by decide +kernel)
  clear hW
  have s50 : vi V33 x 4 = vi V2 x 4 := vi_fr hF37 hI10.1 (hE36.obj (by decide) hI10.1) (by decide +kernel)
  have s51 : vi V33 x 10 = vi V2 x 10 := vi_fr hF37 hI10.1 (hE36.obj (by decide) hI10.1) (by decide +kernel)
  have s52 : vi V33 m0 9 = vi V2 m0 9 := vi_fr hF37 hI10.2.1 (hE36.obj (by decide) hI10.2.1) (by decide +kernel)
  have s53 : vi V33 m0 2 = vi V2 m0 2 := vi_fr hF37 hI10.2.1 (hE36.obj (by decide) hI10.2.1) (by decide +kernel)
  have s54 : vi V33 m0 91 = vi V2 m0 91 := vi_fr hF37 hI10.2.1 (hE36.obj (by decide) hI10.2.1) (by decide +kernel)
  have s55 : vi V33 m0 133 = vi V2 m0 133 := vi_fr hF37 hI10.2.1 (hE36.obj (by decide) hI10.2.1) (by decide +kernel)
  have s56 : vi V33 x 8 = vi V2 x 8 := vi_fr hF37 hI10.1 (hE36.obj (by decide) hI10.1) (by decide +kernel)
  have s57 : vi V33 m0 66 = vi V2 m0 66 := vi_fr hF37 hI10.2.1 (hE36.obj (by decide) hI10.2.1) (by decide +kernel)
  have s58 : vi V33 m0 118 = vi V2 m0 118 := vi_fr hF37 hI10.2.1 (hE36.obj (by decide) hI10.2.1) (by decide +kernel)
  have hS59 : STE V33 x m0 := STE.frx hS29 hF37 hE36 hWp42 hI10.1 hI10.2.1 (by decide +kernel) (by decide +kernel)
  have hK60 : WKE V33 x m0 := WKE.frx hK30 hF37 hE36 hWp42 hI10.1 hI10.2.1 (by decide +kernel) (by decide +kernel)
  have hP61 : PLE V33 x m0 := PLE.frx hP31 hF37 hE36 hWp42 hI10.1 hI10.2.1 (by omega) (by decide +kernel) (by decide +kernel) (by decide +kernel) (by decide +kernel) (by decide +kernel) (by decide +kernel)
  refine LG.pop dL_law_2141 rfl ?_
  refine LG.goto (tgt := 2745) dL_law_2142 (by decide) ?_
  exact LG.widen (le_cs3 rfl) (kk _ _ hI41 (⟨by unfold RLI; omega, hA45, hT44, hY43, hP61, hK60, hS59⟩))

set_option maxHeartbeats 2000000 in
theorem law_case_43 {p : Program} {l : Launch} {e : Env} {s : State} {m : MethodId} {below : List Frame} {meth : Method} {c : Code} {b L : Nat} {xs : Nat → Int32} {D : va_G} {dA : Nat → ClassId} {K : Kmap} {V : Vmap} {cells slots x m0 : Nat} {i : Int} (hI : LI K V x m0) (hR : REL K V x m0) (hL : L ≤ 4096) (h0 : 0 ≤ i) (h8 : i + 8 ≤ L) (hcs : cells + 8 ≤ 600000 ∧ slots + 2704 ≤ 7302250) (kk : ∀ (K1 : Kmap) (V1 : Vmap), LI K1 V1 x m0 → REL K1 V1 x m0 → LG p l e s m below meth c b L xs D dA K1 V1 (cells + 8) (slots + 2704) 2745 [some (.ref b), some (.ref x), some (.ref m0), some (ti i)] []) : LG p l e s m below meth c b L xs D dA K V cells slots 2145 [some (.ref b), some (.ref x), some (.ref m0), some (ti i)] [] := by
  have hR0 := hR.1
  have hA0 := hR.2.1
  have hT0 := hR.2.2.1
  have hY0 := hR.2.2.2.1
  have hP0 := hR.2.2.2.2.1
  have hK0 := hR.2.2.2.2.2.1
  have hS0 := hR.2.2.2.2.2.2
  unfold RLI at hR0
  refine LG.aload_n dL_law_2145 rfl rfl ?_
  refine LG.useWT (fun hW => ?_)
  refine LG.callV (ci := 10) (N := mX11_over) (As := []) dL_law_2146 (RX11, TX11, 20) rfl gV_RL_201 hI.1 (t_X11_over hI.1 hI.2.2.2.2.2.2.2) rfl [] rfl rfl (le_cs hcs rfl) (Nat.le_of_ble_eq_true rfl) (g_is fun X7 K1 V2 r3 h4 hE5 hF6 => ?_)
  have hI10 : LI K1 V2 x m0 := ⟨hE5.obj (by decide) hI.1, hE5.obj (by decide) hI.2.1, (GX.frx hF6 hE5 hI.2.2.1 hW hI.2.1 (by decide +kernel)), (PX0.frx hF6 hE5 hI.2.2.2.1 hW hI.2.1 (by decide +kernel)), (NN.frx 4 3 4 rfl rfl hF6 hE5 hI.2.2.2.2.1 hW hI.1 (by decide +kernel)), (NN.frx 10 9 7 rfl rfl hF6 hE5 hI.2.2.2.2.2.1 hW hI.1 (by decide +kernel)), (PI.frx hI.2.2.2.2.2.2.1 hF6 hE5 hW hI.1 hI.2.2.2.2.1 (by decide +kernel)), (CWI.gro (h4.2) hE5)⟩
  have hWp11 := hW
  have hY12 : YRL V2 x m0 := YRL.frx hY0 hF6 hE5 hW hI.1 hI.2.1 hI.2.2.2.2.1 (by decide +kernel) (by decide +kernel)
  have hT13 : TXE K1 V2 x m0 := TXE.frx hT0 hF6 hE5 hW hI.1 hI.2.1 (by decide +kernel)
  have hA14 : AB V2 x m0 := AB.frx hA0 hF6 hE5 hW hI.1 hI.2.1 hI.2.2.2.2.1 (by decide +kernel) (by decide +kernel) (Int.le_of_eq (vi_fr hF6 hI.2.1 (hE5.obj (by decide) hI.2.1) (by decide +kernel)).symm)
  have s15 : tdy V2 x = tdy V x := tdy_fr hF6 hE5 hW hI.1 (by decide +kernel) (by decide +kernel)
  have s16 : wsz V2 x = wsz V x := wsz_fr hF6 hE5 hW hI.1 (by decide +kernel) (by decide +kernel)
  have s17 : csz V2 x = csz V x := csz_fr hF6 hE5 hW hI.1 (by decide +kernel) (by decide +kernel)
  have s18 : dsz V2 x = dsz V x := dsz_fr hF6 hE5 hW hI.1 (by decide +kernel) (by decide +kernel)
  clear hW
  have s19 : vi V2 x 4 = vi V x 4 := vi_fr hF6 hI.1 (hE5.obj (by decide) hI.1) (by decide +kernel)
  have s20 : vi V2 x 10 = vi V x 10 := vi_fr hF6 hI.1 (hE5.obj (by decide) hI.1) (by decide +kernel)
  have s21 : vi V2 m0 9 = vi V m0 9 := vi_fr hF6 hI.2.1 (hE5.obj (by decide) hI.2.1) (by decide +kernel)
  have s22 : vi V2 m0 2 = vi V m0 2 := vi_fr hF6 hI.2.1 (hE5.obj (by decide) hI.2.1) (by decide +kernel)
  have s23 : vi V2 m0 91 = vi V m0 91 := vi_fr hF6 hI.2.1 (hE5.obj (by decide) hI.2.1) (by decide +kernel)
  have s24 : vi V2 m0 133 = vi V m0 133 := vi_fr hF6 hI.2.1 (hE5.obj (by decide) hI.2.1) (by decide +kernel)
  have s25 : vi V2 m0 120 = vi V m0 120 := vi_fr hF6 hI.2.1 (hE5.obj (by decide) hI.2.1) (by decide +kernel)
  have s26 : vi V2 x 8 = vi V x 8 := vi_fr hF6 hI.1 (hE5.obj (by decide) hI.1) (by decide +kernel)
  have s27 : vi V2 m0 66 = vi V m0 66 := vi_fr hF6 hI.2.1 (hE5.obj (by decide) hI.2.1) (by decide +kernel)
  have s28 : vi V2 m0 118 = vi V m0 118 := vi_fr hF6 hI.2.1 (hE5.obj (by decide) hI.2.1) (by decide +kernel)
  have hS29 : STE V2 x m0 := STE.frx hS0 hF6 hE5 hWp11 hI.1 hI.2.1 (by decide +kernel) (by decide +kernel)
  have hK30 : WKE V2 x m0 := WKE.frx hK0 hF6 hE5 hWp11 hI.1 hI.2.1 (by decide +kernel) (by decide +kernel)
  have hP31 : PLE V2 x m0 := PLE.frx hP0 hF6 hE5 hWp11 hI.1 hI.2.1 (by omega) (by decide +kernel) (by decide +kernel) (by decide +kernel) (by decide +kernel) (by decide +kernel) (by decide +kernel)
  refine LG.pop dL_law_2149 rfl ?_
  refine LG.aload_n dL_law_2150 rfl rfl ?_
  refine LG.useWT (fun hW => ?_)
  refine LG.callV (ci := 11) (N := mX12_over) (As := []) dL_law_2151 (RX12, TX12, 151) rfl gV_RL_204 hI10.2.1 (t_X12_over hI10.2.1) rfl [] rfl rfl (le_csb hcs rfl) (Nat.le_of_ble_eq_true rfl) (g_is fun X38 K32 V33 r34 h35 hE36 hF37 => ?_)
  have hI41 : LI K32 V33 x m0 := ⟨hE36.obj (by decide) hI10.1, hE36.obj (by decide) hI10.2.1, (GX.frx hF37 hE36 hI10.2.2.1 hW hI10.2.1 (by decide +kernel)), (PX0.frx hF37 hE36 hI10.2.2.2.1 hW hI10.2.1 (by decide +kernel)), (NN.frx 4 3 4 rfl rfl hF37 hE36 hI10.2.2.2.2.1 hW hI10.1 (by decide +kernel)), (NN.frx 10 9 7 rfl rfl hF37 hE36 hI10.2.2.2.2.2.1 hW hI10.1 (by decide +kernel)), (PI.frx hI10.2.2.2.2.2.2.1 hF37 hE36 hW hI10.1 hI10.2.2.2.2.1 (by decide +kernel)), (CWI.fr hI10.2.2.2.2.2.2.2 hF37 hE36 hW hI10.1 (by decide +kernel) (by decide +kernel) (by decide +kernel))⟩
  have hWp42 := hW
  have hY43 : YRL V33 x m0 := YRL.frx hY12 hF37 hE36 hW hI10.1 hI10.2.1 hI10.2.2.2.2.1 (by decide +kernel) (by decide +kernel)
  have hT44 : TXE K32 V33 x m0 := TXE.frx hT13 hF37 hE36 hW hI10.1 hI10.2.1 (by decide +kernel)
  have hA45 : AB V33 x m0 := AB.frx hA14 hF37 hE36 hW hI10.1 hI10.2.1 hI10.2.2.2.2.1 (by decide +kernel) (by decide +kernel) (Int.le_of_eq (vi_fr hF37 hI10.2.1 (hE36.obj (by decide) hI10.2.1) (by decide +kernel)).symm)
  have s46 : tdy V33 x = tdy V2 x := tdy_fr hF37 hE36 hW hI10.1 (by decide +kernel) (by decide +kernel)
  have s47 : wsz V33 x = wsz V2 x := wsz_fr hF37 hE36 hW hI10.1 (by decide +kernel) (by decide +kernel)
  have s48 : csz V33 x = csz V2 x := csz_fr hF37 hE36 hW hI10.1 (by decide +kernel) (by decide +kernel)
  have s49 : dsz V33 x = dsz V2 x := dsz_fr hF37 hE36 hW hI10.1 (by decide +kernel) (by decide +kernel)
  clear hW
  have s50 : vi V33 x 4 = vi V2 x 4 := vi_fr hF37 hI10.1 (hE36.obj (by decide) hI10.1) (by decide +kernel)
  have s51 : vi V33 x 10 = vi V2 x 10 := vi_fr hF37 hI10.1 (hE36.obj (by decide) hI10.1) (by decide +kernel)
  have s52 : vi V33 m0 9 = vi V2 m0 9 := vi_fr hF37 hI10.2.1 (hE36.obj (by decide) hI10.2.1) (by decide +kernel)
  have s53 : vi V33 m0 2 = vi V2 m0 2 := vi_fr hF37 hI10.2.1 (hE36.obj (by decide) hI10.2.1) (by decide +kernel)
  have s54 : vi V33 m0 91 = vi V2 m0 91 := vi_fr hF37 hI10.2.1 (hE36.obj (by decide) hI10.2.1) (by decide +kernel)
  have s55 : vi V33 m0 133 = vi V2 m0 133 := vi_fr hF37 hI10.2.1 (hE36.obj (by decide) hI10.2.1) (by decide +kernel)
  have s56 : vi V33 m0 120 = vi V2 m0 120 := vi_fr hF37 hI10.2.1 (hE36.obj (by decide) hI10.2.1) (by decide +kernel)
  have s57 : vi V33 x 8 = vi V2 x 8 := vi_fr hF37 hI10.1 (hE36.obj (by decide) hI10.1) (by decide +kernel)
  have s58 : vi V33 m0 66 = vi V2 m0 66 := vi_fr hF37 hI10.2.1 (hE36.obj (by decide) hI10.2.1) (by decide +kernel)
  have s59 : vi V33 m0 118 = vi V2 m0 118 := vi_fr hF37 hI10.2.1 (hE36.obj (by decide) hI10.2.1) (by decide +kernel)
  have hS60 : STE V33 x m0 := STE.frx hS29 hF37 hE36 hWp42 hI10.1 hI10.2.1 (by decide +kernel) (by decide +kernel)
  have hK61 : WKE V33 x m0 := WKE.frx hK30 hF37 hE36 hWp42 hI10.1 hI10.2.1 (by decide +kernel) (by decide +kernel)
  have hP62 : PLE V33 x m0 := PLE.frx hP31 hF37 hE36 hWp42 hI10.1 hI10.2.1 (by omega) (by decide +kernel) (by decide +kernel) (by decide +kernel) (by decide +kernel) (by decide +kernel) (by decide +kernel)
  refine LG.pop dL_law_2154 rfl ?_
  refine LG.goto (tgt := 2745) dL_law_2155 (by decide) ?_
  exact LG.widen (le_cs3 rfl) (kk _ _ hI41 (⟨by unfold RLI; omega, hA45, hT44, hY43, hP62, hK61, hS60⟩))

set_option maxHeartbeats 2000000 in
theorem law_case_44 {p : Program} {l : Launch} {e : Env} {s : State} {m : MethodId} {below : List Frame} {meth : Method} {c : Code} {b L : Nat} {xs : Nat → Int32} {D : va_G} {dA : Nat → ClassId} {K : Kmap} {V : Vmap} {cells slots x m0 : Nat} {i : Int} (hI : LI K V x m0) (hR : REL K V x m0) (hL : L ≤ 4096) (h0 : 0 ≤ i) (h8 : i + 8 ≤ L) (hcs : cells + 8 ≤ 600000 ∧ slots + 2704 ≤ 7302250) (kk : ∀ (K1 : Kmap) (V1 : Vmap), LI K1 V1 x m0 → REL K1 V1 x m0 → LG p l e s m below meth c b L xs D dA K1 V1 (cells + 8) (slots + 2704) 2745 [some (.ref b), some (.ref x), some (.ref m0), some (ti i)] []) : LG p l e s m below meth c b L xs D dA K V cells slots 2158 [some (.ref b), some (.ref x), some (.ref m0), some (ti i)] [] := by
  have hR0 := hR.1
  have hA0 := hR.2.1
  have hT0 := hR.2.2.1
  have hY0 := hR.2.2.2.1
  have hP0 := hR.2.2.2.2.1
  have hK0 := hR.2.2.2.2.2.1
  have hS0 := hR.2.2.2.2.2.2
  unfold RLI at hR0
  refine LG.aload_n dL_law_2158 rfl rfl ?_
  refine LG.aload_n dL_law_2159 rfl rfl ?_
  refine LG.iload_n dL_law_2160 rfl rfl ?_
  refine LG.iconst dL_law_2161 ?_
  refine LG.iadd dL_law_2162 ?_
  refine LG.sld (Y := i + 1) dL_law_2163 (by omega) (by omega) hL ?_
  refine LG.useWT (fun hW => ?_)
  refine LG.callV (ci := 10) (N := mX11_doubt) (As := [ti (xv xs (i + 1))]) dL_law_2164 (RX11, TX11, 20) rfl gV_RL_205 hI.1 (t_X11_doubt hI.1 xv_ir) rfl [] rfl rfl (le_cs hcs rfl) (Nat.le_of_ble_eq_true rfl) (g_ip fun X7 K1 V2 r3 h4 hE5 hF6 => ?_)
  have hI10 : LI K1 V2 x m0 := ⟨hE5.obj (by decide) hI.1, hE5.obj (by decide) hI.2.1, (GX.frx hF6 hE5 hI.2.2.1 hW hI.2.1 (by decide +kernel)), (PX0.frx hF6 hE5 hI.2.2.2.1 hW hI.2.1 (by decide +kernel)), (NN.frx 4 3 4 rfl rfl hF6 hE5 hI.2.2.2.2.1 hW hI.1 (by decide +kernel)), (NN.frx 10 9 7 rfl rfl hF6 hE5 hI.2.2.2.2.2.1 hW hI.1 (by decide +kernel)), (PI.frx hI.2.2.2.2.2.2.1 hF6 hE5 hW hI.1 hI.2.2.2.2.1 (by decide +kernel)), (CWI.fr hI.2.2.2.2.2.2.2 hF6 hE5 hW hI.1 (by decide +kernel) (by decide +kernel) (by decide +kernel))⟩
  have hWp11 := hW
  have hY12 : YRL V2 x m0 := YRL.frx hY0 hF6 hE5 hW hI.1 hI.2.1 hI.2.2.2.2.1 (by decide +kernel) (by decide +kernel)
  have hT13 : TXE K1 V2 x m0 := TXE.frx hT0 hF6 hE5 hW hI.1 hI.2.1 (by decide +kernel)
  have hA14 : AB V2 x m0 := AB.frx hA0 hF6 hE5 hW hI.1 hI.2.1 hI.2.2.2.2.1 (by decide +kernel) (by decide +kernel) (Int.le_of_eq (vi_fr hF6 hI.2.1 (hE5.obj (by decide) hI.2.1) (by decide +kernel)).symm)
  have s15 : tdy V2 x = tdy V x := tdy_fr hF6 hE5 hW hI.1 (by decide +kernel) (by decide +kernel)
  have s16 : wsz V2 x = wsz V x := wsz_fr hF6 hE5 hW hI.1 (by decide +kernel) (by decide +kernel)
  have s17 : csz V2 x = csz V x := csz_fr hF6 hE5 hW hI.1 (by decide +kernel) (by decide +kernel)
  have s18 : dsz V2 x = dsz V x := dsz_fr hF6 hE5 hW hI.1 (by decide +kernel) (by decide +kernel)
  clear hW
  have s19 : vi V2 x 4 = vi V x 4 := vi_fr hF6 hI.1 (hE5.obj (by decide) hI.1) (by decide +kernel)
  have s20 : vi V2 x 10 = vi V x 10 := vi_fr hF6 hI.1 (hE5.obj (by decide) hI.1) (by decide +kernel)
  have s21 : vi V2 m0 9 = vi V m0 9 := vi_fr hF6 hI.2.1 (hE5.obj (by decide) hI.2.1) (by decide +kernel)
  have s22 : vi V2 m0 2 = vi V m0 2 := vi_fr hF6 hI.2.1 (hE5.obj (by decide) hI.2.1) (by decide +kernel)
  have s23 : vi V2 m0 91 = vi V m0 91 := vi_fr hF6 hI.2.1 (hE5.obj (by decide) hI.2.1) (by decide +kernel)
  have s24 : vi V2 m0 133 = vi V m0 133 := vi_fr hF6 hI.2.1 (hE5.obj (by decide) hI.2.1) (by decide +kernel)
  have s25 : vi V2 m0 120 = vi V m0 120 := vi_fr hF6 hI.2.1 (hE5.obj (by decide) hI.2.1) (by decide +kernel)
  have s26 : vi V2 x 8 = vi V x 8 := vi_fr hF6 hI.1 (hE5.obj (by decide) hI.1) (by decide +kernel)
  have s27 : vi V2 m0 66 = vi V m0 66 := vi_fr hF6 hI.2.1 (hE5.obj (by decide) hI.2.1) (by decide +kernel)
  have s28 : vi V2 m0 118 = vi V m0 118 := vi_fr hF6 hI.2.1 (hE5.obj (by decide) hI.2.1) (by decide +kernel)
  have hS29 : STE V2 x m0 := STE.frx hS0 hF6 hE5 hWp11 hI.1 hI.2.1 (by decide +kernel) (by decide +kernel)
  have hK30 : WKE V2 x m0 := WKE.frx hK0 hF6 hE5 hWp11 hI.1 hI.2.1 (by decide +kernel) (by decide +kernel)
  have hP31 : PLE V2 x m0 := PLE.frx hP0 hF6 hE5 hWp11 hI.1 hI.2.1 (by omega) (by decide +kernel) (by decide +kernel) (by decide +kernel) (by decide +kernel) (by decide +kernel) (by decide +kernel)
  refine LG.pop dL_law_2167 rfl ?_
  refine LG.aload_n dL_law_2168 rfl rfl ?_
  refine LG.aload_n dL_law_2169 rfl rfl ?_
  refine LG.iload_n dL_law_2170 rfl rfl ?_
  refine LG.iconst dL_law_2171 ?_
  refine LG.iadd dL_law_2172 ?_
  refine LG.sld (Y := i + 1) dL_law_2173 (by omega) (by omega) hL ?_
  refine LG.useWT (fun hW => ?_)
  refine LG.callV (ci := 11) (N := mX12_doubt) (As := [ti (xv xs (i + 1))]) dL_law_2174 (RX12, TX12, 151) rfl gV_RL_208 hI10.2.1 (t_X12_doubt hI10.2.1 xv_ir) rfl [] rfl rfl (le_csb hcs rfl) (Nat.le_of_ble_eq_true rfl) (g_ip fun X38 K32 V33 r34 h35 hE36 hF37 => ?_)
  have hI41 : LI K32 V33 x m0 := ⟨hE36.obj (by decide) hI10.1, hE36.obj (by decide) hI10.2.1, (GX.frx hF37 hE36 hI10.2.2.1 hW hI10.2.1 (by decide +kernel)), (PX0.frx hF37 hE36 hI10.2.2.2.1 hW hI10.2.1 (by decide +kernel)), (NN.frx 4 3 4 rfl rfl hF37 hE36 hI10.2.2.2.2.1 hW hI10.1 (by decide +kernel)), (NN.frx 10 9 7 rfl rfl hF37 hE36 hI10.2.2.2.2.2.1 hW hI10.1 (by decide +kernel)), (PI.frx hI10.2.2.2.2.2.2.1 hF37 hE36 hW hI10.1 hI10.2.2.2.2.1 (by decide +kernel)), (CWI.fr hI10.2.2.2.2.2.2.2 hF37 hE36 hW hI10.1 (by decide +kernel) (by decide +kernel) (by decide +kernel))⟩
  have hWp42 := hW
  have hY43 : YRL V33 x m0 := YRL.frx hY12 hF37 hE36 hW hI10.1 hI10.2.1 hI10.2.2.2.2.1 (by decide +kernel) (by decide +kernel)
  have hT44 : TXE K32 V33 x m0 := TXE.frx hT13 hF37 hE36 hW hI10.1 hI10.2.1 (by decide +kernel)
  have hA45 : AB V33 x m0 := AB.frx hA14 hF37 hE36 hW hI10.1 hI10.2.1 hI10.2.2.2.2.1 (by decide +kernel) (by decide +kernel) (Int.le_of_eq (vi_fr hF37 hI10.2.1 (hE36.obj (by decide) hI10.2.1) (by decide +kernel)).symm)
  have s46 : tdy V33 x = tdy V2 x := tdy_fr hF37 hE36 hW hI10.1 (by decide +kernel) (by decide +kernel)
  have s47 : wsz V33 x = wsz V2 x := wsz_fr hF37 hE36 hW hI10.1 (by decide +kernel) (by decide +kernel)
  have s48 : csz V33 x = csz V2 x := csz_fr hF37 hE36 hW hI10.1 (by decide +kernel) (by decide +kernel)
  have s49 : dsz V33 x = dsz V2 x := dsz_fr hF37 hE36 hW hI10.1 (by decide +kernel) (by decide +kernel)
  clear hW
  have s50 : vi V33 x 4 = vi V2 x 4 := vi_fr hF37 hI10.1 (hE36.obj (by decide) hI10.1) (by decide +kernel)
  have s51 : vi V33 x 10 = vi V2 x 10 := vi_fr hF37 hI10.1 (hE36.obj (by decide) hI10.1) (by decide +kernel)
  have s52 : vi V33 m0 9 = vi V2 m0 9 := vi_fr hF37 hI10.2.1 (hE36.obj (by decide) hI10.2.1) (by decide +kernel)
  have s53 : vi V33 m0 2 = vi V2 m0 2 := vi_fr hF37 hI10.2.1 (hE36.obj (by decide) hI10.2.1) (by decide +kernel)
  have s54 : vi V33 m0 91 = vi V2 m0 91 := vi_fr hF37 hI10.2.1 (hE36.obj (by decide) hI10.2.1) (by decide +kernel)
  have s55 : vi V33 m0 133 = vi V2 m0 133 := vi_fr hF37 hI10.2.1 (hE36.obj (by decide) hI10.2.1) (by decide +kernel)
  have s56 : vi V33 m0 120 = vi V2 m0 120 := vi_fr hF37 hI10.2.1 (hE36.obj (by decide) hI10.2.1) (by decide +kernel)
  have s57 : vi V33 x 8 = vi V2 x 8 := vi_fr hF37 hI10.1 (hE36.obj (by decide) hI10.1) (by decide +kernel)
  have s58 : vi V33 m0 66 = vi V2 m0 66 := vi_fr hF37 hI10.2.1 (hE36.obj (by decide) hI10.2.1) (by decide +kernel)
  have s59 : vi V33 m0 118 = vi V2 m0 118 := vi_fr hF37 hI10.2.1 (hE36.obj (by decide) hI10.2.1) (by decide +kernel)
  have hS60 : STE V33 x m0 := STE.frx hS29 hF37 hE36 hWp42 hI10.1 hI10.2.1 (by decide +kernel) (by decide +kernel)
  have hK61 : WKE V33 x m0 := WKE.frx hK30 hF37 hE36 hWp42 hI10.1 hI10.2.1 (by decide +kernel) (by decide +kernel)
  have hP62 : PLE V33 x m0 := PLE.frx hP31 hF37 hE36 hWp42 hI10.1 hI10.2.1 (by omega) (by decide +kernel) (by decide +kernel) (by decide +kernel) (by decide +kernel) (by decide +kernel) (by decide +kernel)
  refine LG.pop dL_law_2177 rfl ?_
  refine LG.goto (tgt := 2745) dL_law_2178 (by decide) ?_
  exact LG.widen (le_cs3 rfl) (kk _ _ hI41 (⟨by unfold RLI; omega, hA45, hT44, hY43, hP62, hK61, hS60⟩))

set_option maxHeartbeats 2000000 in
theorem law_case_45 {p : Program} {l : Launch} {e : Env} {s : State} {m : MethodId} {below : List Frame} {meth : Method} {c : Code} {b L : Nat} {xs : Nat → Int32} {D : va_G} {dA : Nat → ClassId} {K : Kmap} {V : Vmap} {cells slots x m0 : Nat} {i : Int} (hI : LI K V x m0) (hR : REL K V x m0) (hL : L ≤ 4096) (h0 : 0 ≤ i) (h8 : i + 8 ≤ L) (hcs : cells + 8 ≤ 600000 ∧ slots + 2704 ≤ 7302250) (kk : ∀ (K1 : Kmap) (V1 : Vmap), LI K1 V1 x m0 → REL K1 V1 x m0 → LG p l e s m below meth c b L xs D dA K1 V1 (cells + 8) (slots + 2704) 2745 [some (.ref b), some (.ref x), some (.ref m0), some (ti i)] []) : LG p l e s m below meth c b L xs D dA K V cells slots 2181 [some (.ref b), some (.ref x), some (.ref m0), some (ti i)] [] := by
  have hR0 := hR.1
  have hA0 := hR.2.1
  have hT0 := hR.2.2.1
  have hY0 := hR.2.2.2.1
  have hP0 := hR.2.2.2.2.1
  have hK0 := hR.2.2.2.2.2.1
  have hS0 := hR.2.2.2.2.2.2
  unfold RLI at hR0
  refine LG.aload_n dL_law_2181 rfl rfl ?_
  refine LG.aload_n dL_law_2182 rfl rfl ?_
  refine LG.iload_n dL_law_2183 rfl rfl ?_
  refine LG.iconst dL_law_2184 ?_
  refine LG.iadd dL_law_2185 ?_
  refine LG.sld (Y := i + 1) dL_law_2186 (by omega) (by omega) hL ?_
  refine LG.useWT (fun hW => ?_)
  refine LG.callV (ci := 10) (N := mX11_word) (As := [ti (xv xs (i + 1))]) dL_law_2187 (RX11, TX11, 20) rfl gV_RL_209 hI.1 (t_X11_word hI.1 xv_ir) rfl [] rfl rfl (le_cs hcs rfl) (Nat.le_of_ble_eq_true rfl) (g_is fun X7 K1 V2 r3 h4 hE5 hF6 => ?_)
  have hI10 : LI K1 V2 x m0 := ⟨hE5.obj (by decide) hI.1, hE5.obj (by decide) hI.2.1, (GX.frx hF6 hE5 hI.2.2.1 hW hI.2.1 (by decide +kernel)), (PX0.frx hF6 hE5 hI.2.2.2.1 hW hI.2.1 (by decide +kernel)), (NN.frx 4 3 4 rfl rfl hF6 hE5 hI.2.2.2.2.1 hW hI.1 (by decide +kernel)), (NN.frx 10 9 7 rfl rfl hF6 hE5 hI.2.2.2.2.2.1 hW hI.1 (by decide +kernel)), (PI.frx hI.2.2.2.2.2.2.1 hF6 hE5 hW hI.1 hI.2.2.2.2.1 (by decide +kernel)), (CWI.fr hI.2.2.2.2.2.2.2 hF6 hE5 hW hI.1 (by decide +kernel) (by decide +kernel) (by decide +kernel))⟩
  have hWp11 := hW
  have hY12 : YRL V2 x m0 := YRL.frx hY0 hF6 hE5 hW hI.1 hI.2.1 hI.2.2.2.2.1 (by decide +kernel) (by decide +kernel)
  have hT13 : TXE K1 V2 x m0 := TXE.frx hT0 hF6 hE5 hW hI.1 hI.2.1 (by decide +kernel)
  have hA14 : AB V2 x m0 := AB.frx hA0 hF6 hE5 hW hI.1 hI.2.1 hI.2.2.2.2.1 (by decide +kernel) (by decide +kernel) (Int.le_of_eq (vi_fr hF6 hI.2.1 (hE5.obj (by decide) hI.2.1) (by decide +kernel)).symm)
  have s15 : tdy V2 x = tdy V x := tdy_fr hF6 hE5 hW hI.1 (by decide +kernel) (by decide +kernel)
  have s16 : (X7 = -1 ∧ wsz V2 x = wsz V x ∧ ((xv xs (i + 1)) < 0 ∨ 1000 < (xv xs (i + 1)) ∨ 7 ≤ wsz V x)) ∨ (X7 = wsz V x ∧ wsz V2 x = wsz V x + 1 ∧ wsz V x < 7 ∧ 0 ≤ (xv xs (i + 1)) ∧ (xv xs (i + 1)) ≤ 1000) := h4.2
  have s17 : csz V2 x = csz V x := csz_fr hF6 hE5 hW hI.1 (by decide +kernel) (by decide +kernel)
  have s18 : dsz V2 x = dsz V x := dsz_fr hF6 hE5 hW hI.1 (by decide +kernel) (by decide +kernel)
  clear hW
  have s19 : vi V2 x 4 = vi V x 4 := vi_fr hF6 hI.1 (hE5.obj (by decide) hI.1) (by decide +kernel)
  have s20 : vi V2 x 10 = vi V x 10 := vi_fr hF6 hI.1 (hE5.obj (by decide) hI.1) (by decide +kernel)
  have s21 : vi V2 m0 9 = vi V m0 9 := vi_fr hF6 hI.2.1 (hE5.obj (by decide) hI.2.1) (by decide +kernel)
  have s22 : vi V2 m0 2 = vi V m0 2 := vi_fr hF6 hI.2.1 (hE5.obj (by decide) hI.2.1) (by decide +kernel)
  have s23 : vi V2 m0 91 = vi V m0 91 := vi_fr hF6 hI.2.1 (hE5.obj (by decide) hI.2.1) (by decide +kernel)
  have s24 : vi V2 m0 133 = vi V m0 133 := vi_fr hF6 hI.2.1 (hE5.obj (by decide) hI.2.1) (by decide +kernel)
  have s25 : vi V2 m0 120 = vi V m0 120 := vi_fr hF6 hI.2.1 (hE5.obj (by decide) hI.2.1) (by decide +kernel)
  have s26 : vi V2 x 8 = vi V x 8 := vi_fr hF6 hI.1 (hE5.obj (by decide) hI.1) (by decide +kernel)
  have s27 : vi V2 m0 66 = vi V m0 66 := vi_fr hF6 hI.2.1 (hE5.obj (by decide) hI.2.1) (by decide +kernel)
  have s28 : vi V2 m0 118 = vi V m0 118 := vi_fr hF6 hI.2.1 (hE5.obj (by decide) hI.2.1) (by decide +kernel)
  have hS29 : STE V2 x m0 := STE.frx hS0 hF6 hE5 hWp11 hI.1 hI.2.1 (by decide +kernel) (by decide +kernel)
  have hK30 : WKE V2 x m0 := WKE.frx hK0 hF6 hE5 hWp11 hI.1 hI.2.1 (by decide +kernel) (by decide +kernel)
  have hP31 : PLE V2 x m0 := PLE.frx hP0 hF6 hE5 hWp11 hI.1 hI.2.1 (by omega) (by decide +kernel) (by decide +kernel) (by decide +kernel) (by decide +kernel) (by decide +kernel) (by decide +kernel)
  refine LG.pop dL_law_2190 rfl ?_
  refine LG.aload_n dL_law_2191 rfl rfl ?_
  refine LG.aload_n dL_law_2192 rfl rfl ?_
  refine LG.iload_n dL_law_2193 rfl rfl ?_
  refine LG.iconst dL_law_2194 ?_
  refine LG.iadd dL_law_2195 ?_
  refine LG.sld (Y := i + 1) dL_law_2196 (by omega) (by omega) hL ?_
  refine LG.useWT (fun hW => ?_)
  refine LG.callV (ci := 11) (N := mX12_word) (As := [ti (xv xs (i + 1))]) dL_law_2197 (RX12, TX12, 151) rfl gV_RL_212 hI10.2.1 (t_X12_word hI10.2.1 xv_ir) rfl [] rfl rfl (le_csb hcs rfl) (Nat.le_of_ble_eq_true rfl) (g_is fun X38 K32 V33 r34 h35 hE36 hF37 => ?_)
  have hI41 : LI K32 V33 x m0 := ⟨hE36.obj (by decide) hI10.1, hE36.obj (by decide) hI10.2.1, (GX.frx hF37 hE36 hI10.2.2.1 hW hI10.2.1 (by decide +kernel)), (PX0.frx hF37 hE36 hI10.2.2.2.1 hW hI10.2.1 (by decide +kernel)), (NN.frx 4 3 4 rfl rfl hF37 hE36 hI10.2.2.2.2.1 hW hI10.1 (by decide +kernel)), (NN.frx 10 9 7 rfl rfl hF37 hE36 hI10.2.2.2.2.2.1 hW hI10.1 (by decide +kernel)), (PI.frx hI10.2.2.2.2.2.2.1 hF37 hE36 hW hI10.1 hI10.2.2.2.2.1 (by decide +kernel)), (CWI.fr hI10.2.2.2.2.2.2.2 hF37 hE36 hW hI10.1 (by decide +kernel) (by decide +kernel) (by decide +kernel))⟩
  have hWp42 := hW
  have hY43 : YRL V33 x m0 := YRL.frx hY12 hF37 hE36 hW hI10.1 hI10.2.1 hI10.2.2.2.2.1 (by decide +kernel) (by decide +kernel)
  have hT44 : TXE K32 V33 x m0 := TXE.frx hT13 hF37 hE36 hW hI10.1 hI10.2.1 (by decide +kernel)
  have hA45 : AB V33 x m0 := AB.frx hA14 hF37 hE36 hW hI10.1 hI10.2.1 hI10.2.2.2.2.1 (by decide +kernel) (by decide +kernel) (by omega)
  have s46 : tdy V33 x = tdy V2 x := tdy_fr hF37 hE36 hW hI10.1 (by decide +kernel) (by decide +kernel)
  have s47 : wsz V33 x = wsz V2 x := wsz_fr hF37 hE36 hW hI10.1 (by decide +kernel) (by decide +kernel)
  have s48 : csz V33 x = csz V2 x := csz_fr hF37 hE36 hW hI10.1 (by decide +kernel) (by decide +kernel)
  have s49 : dsz V33 x = dsz V2 x := dsz_fr hF37 hE36 hW hI10.1 (by decide +kernel) (by decide +kernel)
  clear hW
  have s50 : vi V33 x 4 = vi V2 x 4 := vi_fr hF37 hI10.1 (hE36.obj (by decide) hI10.1) (by decide +kernel)
  have s51 : vi V33 x 10 = vi V2 x 10 := vi_fr hF37 hI10.1 (hE36.obj (by decide) hI10.1) (by decide +kernel)
  have s52 : vi V33 m0 9 = vi V2 m0 9 := vi_fr hF37 hI10.2.1 (hE36.obj (by decide) hI10.2.1) (by decide +kernel)
  have s53 : vi V33 m0 2 = vi V2 m0 2 := vi_fr hF37 hI10.2.1 (hE36.obj (by decide) hI10.2.1) (by decide +kernel)
  have s54 : vi V33 m0 91 = vi V2 m0 91 := vi_fr hF37 hI10.2.1 (hE36.obj (by decide) hI10.2.1) (by decide +kernel)
  have s55 : vi V33 m0 120 = vi V2 m0 120 := vi_fr hF37 hI10.2.1 (hE36.obj (by decide) hI10.2.1) (by decide +kernel)
  have s56 : vi V33 x 8 = vi V2 x 8 := vi_fr hF37 hI10.1 (hE36.obj (by decide) hI10.1) (by decide +kernel)
  have s57 : vi V33 m0 66 = vi V2 m0 66 := vi_fr hF37 hI10.2.1 (hE36.obj (by decide) hI10.2.1) (by decide +kernel)
  have s58 : vi V33 m0 118 = vi V2 m0 118 := vi_fr hF37 hI10.2.1 (hE36.obj (by decide) hI10.2.1) (by decide +kernel)
  have hS59 : STE V33 x m0 := STE.frx hS29 hF37 hE36 hWp42 hI10.1 hI10.2.1 (by decide +kernel) (by decide +kernel)
  have hK60 : WKE V33 x m0 := WKE.frx hK30 hF37 hE36 hWp42 hI10.1 hI10.2.1 (by decide +kernel) (by decide +kernel)
  have hP61 : PLE V33 x m0 := PLE.frx hP31 hF37 hE36 hWp42 hI10.1 hI10.2.1 (by omega) (by decide +kernel) (by decide +kernel) (by decide +kernel) (by decide +kernel) (by decide +kernel) (by decide +kernel)
  refine LG.pop dL_law_2200 rfl ?_
  refine LG.goto (tgt := 2745) dL_law_2201 (by decide) ?_
  exact LG.widen (le_cs3 rfl) (kk _ _ hI41 (⟨by unfold RLI; omega, hA45, hT44, hY43, hP61, hK60, hS59⟩))

set_option maxHeartbeats 2000000 in
theorem law_case_46 {p : Program} {l : Launch} {e : Env} {s : State} {m : MethodId} {below : List Frame} {meth : Method} {c : Code} {b L : Nat} {xs : Nat → Int32} {D : va_G} {dA : Nat → ClassId} {K : Kmap} {V : Vmap} {cells slots x m0 : Nat} {i : Int} (hI : LI K V x m0) (hR : REL K V x m0) (hL : L ≤ 4096) (h0 : 0 ≤ i) (h8 : i + 8 ≤ L) (hcs : cells + 8 ≤ 600000 ∧ slots + 2704 ≤ 7302250) (kk : ∀ (K1 : Kmap) (V1 : Vmap), LI K1 V1 x m0 → REL K1 V1 x m0 → LG p l e s m below meth c b L xs D dA K1 V1 (cells + 8) (slots + 2704) 2745 [some (.ref b), some (.ref x), some (.ref m0), some (ti i)] []) : LG p l e s m below meth c b L xs D dA K V cells slots 2204 [some (.ref b), some (.ref x), some (.ref m0), some (ti i)] [] := by
  have hR0 := hR.1
  have hA0 := hR.2.1
  have hT0 := hR.2.2.1
  have hY0 := hR.2.2.2.1
  have hP0 := hR.2.2.2.2.1
  have hK0 := hR.2.2.2.2.2.1
  have hS0 := hR.2.2.2.2.2.2
  unfold RLI at hR0
  refine LG.aload_n dL_law_2204 rfl rfl ?_
  refine LG.aload_n dL_law_2205 rfl rfl ?_
  refine LG.iload_n dL_law_2206 rfl rfl ?_
  refine LG.iconst dL_law_2207 ?_
  refine LG.iadd dL_law_2208 ?_
  refine LG.sld (Y := i + 1) dL_law_2209 (by omega) (by omega) hL ?_
  refine LG.aload_n dL_law_2210 rfl rfl ?_
  refine LG.iload_n dL_law_2211 rfl rfl ?_
  refine LG.iconst dL_law_2212 ?_
  refine LG.iadd dL_law_2213 ?_
  refine LG.sld (Y := i + 2) dL_law_2214 (by omega) (by omega) hL ?_
  refine LG.aload_n dL_law_2215 rfl rfl ?_
  refine LG.iload_n dL_law_2216 rfl rfl ?_
  refine LG.iconst dL_law_2217 ?_
  refine LG.iadd dL_law_2218 ?_
  refine LG.sld (Y := i + 3) dL_law_2219 (by omega) (by omega) hL ?_
  refine LG.useWT (fun hW => ?_)
  refine LG.callV (ci := 10) (N := mX11_asks) (As := [ti (xv xs (i + 1)), ti (xv xs (i + 2)), ti (xv xs (i + 3))]) dL_law_2220 (RX11, TX11, 20) rfl gV_RL_213 hI.1 (t_X11_asks hI.1 xv_ir xv_ir xv_ir hI.2.2.2.2.1) rfl [] rfl rfl (le_cs hcs rfl) (Nat.le_of_ble_eq_true rfl) (g_is fun X7 K1 V2 r3 h4 hE5 hF6 => ?_)
  have hI10 : LI K1 V2 x m0 := ⟨hE5.obj (by decide) hI.1, hE5.obj (by decide) hI.2.1, (GX.frx hF6 hE5 hI.2.2.1 hW hI.2.1 (by decide +kernel)), (PX0.frx hF6 hE5 hI.2.2.2.1 hW hI.2.1 (by decide +kernel)), (NN.frx 4 3 4 rfl rfl hF6 hE5 hI.2.2.2.2.1 hW hI.1 (by decide +kernel)), (NN.frx 10 9 7 rfl rfl hF6 hE5 hI.2.2.2.2.2.1 hW hI.1 (by decide +kernel)), (PI.asks hI.2.2.2.2.2.2.1 h4.2.2.2 hW hI.1 hI.2.2.2.2.1), (CWI.fr hI.2.2.2.2.2.2.2 hF6 hE5 hW hI.1 (by decide +kernel) (by decide +kernel) (by decide +kernel))⟩
  have hWp11 := hW
  have hY12 : YRL V2 x m0 := YRL.frx hY0 hF6 hE5 hW hI.1 hI.2.1 hI.2.2.2.2.1 (by decide +kernel) (by decide +kernel)
  have hT13 : TXE K1 V2 x m0 := TXE.frx hT0 hF6 hE5 hW hI.1 hI.2.1 (by decide +kernel)
  have hW0 := hW
  have s14 : tdy V2 x = tdy V x := tdy_fr hF6 hE5 hW hI.1 (by decide +kernel) (by decide +kernel)
  have s15 : wsz V2 x = wsz V x := wsz_fr hF6 hE5 hW hI.1 (by decide +kernel) (by decide +kernel)
  have s16 : csz V2 x = csz V x := csz_fr hF6 hE5 hW hI.1 (by decide +kernel) (by decide +kernel)
  have s17 : dsz V2 x = dsz V x := dsz_fr hF6 hE5 hW hI.1 (by decide +kernel) (by decide +kernel)
  clear hW
  have s18 : vi V2 x 4 = vi V x 4 := vi_fr hF6 hI.1 (hE5.obj (by decide) hI.1) (by decide +kernel)
  have s19 : vi V2 x 10 = vi V x 10 := vi_fr hF6 hI.1 (hE5.obj (by decide) hI.1) (by decide +kernel)
  have s20 : vi V2 m0 9 = vi V m0 9 := vi_fr hF6 hI.2.1 (hE5.obj (by decide) hI.2.1) (by decide +kernel)
  have s21 : vi V2 m0 2 = vi V m0 2 := vi_fr hF6 hI.2.1 (hE5.obj (by decide) hI.2.1) (by decide +kernel)
  have s22 : vi V2 m0 91 = vi V m0 91 := vi_fr hF6 hI.2.1 (hE5.obj (by decide) hI.2.1) (by decide +kernel)
  have s23 : vi V2 m0 133 = vi V m0 133 := vi_fr hF6 hI.2.1 (hE5.obj (by decide) hI.2.1) (by decide +kernel)
  have s24 : vi V2 m0 120 = vi V m0 120 := vi_fr hF6 hI.2.1 (hE5.obj (by decide) hI.2.1) (by decide +kernel)
  have s25 : vi V2 x 8 = vi V x 8 := vi_fr hF6 hI.1 (hE5.obj (by decide) hI.1) (by decide +kernel)
  have s26 : vi V2 m0 66 = vi V m0 66 := vi_fr hF6 hI.2.1 (hE5.obj (by decide) hI.2.1) (by decide +kernel)
  have s27 : vi V2 m0 118 = vi V m0 118 := vi_fr hF6 hI.2.1 (hE5.obj (by decide) hI.2.1) (by decide +kernel)
  have hS28 : STE V2 x m0 := STE.frx hS0 hF6 hE5 hWp11 hI.1 hI.2.1 (by decide +kernel) (by decide +kernel)
  have hK29 : WKE V2 x m0 := WKE.frx hK0 hF6 hE5 hWp11 hI.1 hI.2.1 (by decide +kernel) (by decide +kernel)
  have hP30 : PLE V2 x m0 := PLE.frx hP0 hF6 hE5 hWp11 hI.1 hI.2.1 (by omega) (by decide +kernel) (by decide +kernel) (by decide +kernel) (by decide +kernel) (by decide +kernel) (by decide +kernel)
  refine LG.pop dL_law_2223 rfl ?_
  refine LG.aload_n dL_law_2224 rfl rfl ?_
  refine LG.aload_n dL_law_2225 rfl rfl ?_
  refine LG.iload_n dL_law_2226 rfl rfl ?_
  refine LG.iconst dL_law_2227 ?_
  refine LG.iadd dL_law_2228 ?_
  refine LG.sld (Y := i + 1) dL_law_2229 (by omega) (by omega) hL ?_
  refine LG.aload_n dL_law_2230 rfl rfl ?_
  refine LG.iload_n dL_law_2231 rfl rfl ?_
  refine LG.iconst dL_law_2232 ?_
  refine LG.iadd dL_law_2233 ?_
  refine LG.sld (Y := i + 2) dL_law_2234 (by omega) (by omega) hL ?_
  refine LG.aload_n dL_law_2235 rfl rfl ?_
  refine LG.iload_n dL_law_2236 rfl rfl ?_
  refine LG.iconst dL_law_2237 ?_
  refine LG.iadd dL_law_2238 ?_
  refine LG.sld (Y := i + 3) dL_law_2239 (by omega) (by omega) hL ?_
  refine LG.useWT (fun hW => ?_)
  refine LG.callV (ci := 11) (N := mX12_asks) (As := [ti (xv xs (i + 1)), ti (xv xs (i + 2)), ti (xv xs (i + 3))]) dL_law_2240 (RX12, TX12, 151) rfl gV_RL_216 hI10.2.1 (t_X12_asks hI10.2.1 xv_ir xv_ir xv_ir) rfl [] rfl rfl (le_csb hcs rfl) (Nat.le_of_ble_eq_true rfl) (g_is fun X37 K31 V32 r33 h34 hE35 hF36 => ?_)
  have hI40 : LI K31 V32 x m0 := ⟨hE35.obj (by decide) hI10.1, hE35.obj (by decide) hI10.2.1, (GX.frx hF36 hE35 hI10.2.2.1 hW hI10.2.1 (by decide +kernel)), (PX0.frx hF36 hE35 hI10.2.2.2.1 hW hI10.2.1 (by decide +kernel)), (NN.frx 4 3 4 rfl rfl hF36 hE35 hI10.2.2.2.2.1 hW hI10.1 (by decide +kernel)), (NN.frx 10 9 7 rfl rfl hF36 hE35 hI10.2.2.2.2.2.1 hW hI10.1 (by decide +kernel)), (PI.frx hI10.2.2.2.2.2.2.1 hF36 hE35 hW hI10.1 hI10.2.2.2.2.1 (by decide +kernel)), (CWI.fr hI10.2.2.2.2.2.2.2 hF36 hE35 hW hI10.1 (by decide +kernel) (by decide +kernel) (by decide +kernel))⟩
  have hWp41 := hW
  have hY42 : YRL V32 x m0 := YRL.frx hY12 hF36 hE35 hW hI10.1 hI10.2.1 hI10.2.2.2.2.1 (by decide +kernel) (by decide +kernel)
  have hT43 : TXE K31 V32 x m0 := TXE.frx hT13 hF36 hE35 hW hI10.1 hI10.2.1 (by decide +kernel)
  have s44 : tdy V32 x = tdy V2 x := tdy_fr hF36 hE35 hW hI10.1 (by decide +kernel) (by decide +kernel)
  have s45 : wsz V32 x = wsz V2 x := wsz_fr hF36 hE35 hW hI10.1 (by decide +kernel) (by decide +kernel)
  have s46 : csz V32 x = csz V2 x := csz_fr hF36 hE35 hW hI10.1 (by decide +kernel) (by decide +kernel)
  have s47 : dsz V32 x = dsz V2 x := dsz_fr hF36 hE35 hW hI10.1 (by decide +kernel) (by decide +kernel)
  clear hW
  have s48 : vi V32 x 4 = vi V2 x 4 := vi_fr hF36 hI10.1 (hE35.obj (by decide) hI10.1) (by decide +kernel)
  have s49 : vi V32 x 10 = vi V2 x 10 := vi_fr hF36 hI10.1 (hE35.obj (by decide) hI10.1) (by decide +kernel)
  have s50 : vi V32 m0 9 = vi V2 m0 9 := vi_fr hF36 hI10.2.1 (hE35.obj (by decide) hI10.2.1) (by decide +kernel)
  have s51 : vi V32 m0 2 = vi V2 m0 2 := vi_fr hF36 hI10.2.1 (hE35.obj (by decide) hI10.2.1) (by decide +kernel)
  have s52 : vi V32 m0 91 = vi V2 m0 91 := vi_fr hF36 hI10.2.1 (hE35.obj (by decide) hI10.2.1) (by decide +kernel)
  have s53 : vi V32 m0 133 = vi V2 m0 133 := vi_fr hF36 hI10.2.1 (hE35.obj (by decide) hI10.2.1) (by decide +kernel)
  have s54 : vi V32 m0 120 = vi V2 m0 120 := vi_fr hF36 hI10.2.1 (hE35.obj (by decide) hI10.2.1) (by decide +kernel)
  have s55 : vi V32 x 8 = vi V2 x 8 := vi_fr hF36 hI10.1 (hE35.obj (by decide) hI10.1) (by decide +kernel)
  have s56 : vi V32 m0 66 = vi V2 m0 66 := vi_fr hF36 hI10.2.1 (hE35.obj (by decide) hI10.2.1) (by decide +kernel)
  have s57 : vi V32 m0 118 = vi V2 m0 118 := vi_fr hF36 hI10.2.1 (hE35.obj (by decide) hI10.2.1) (by decide +kernel)
  have hS58 : STE V32 x m0 := STE.frx hS28 hF36 hE35 hWp41 hI10.1 hI10.2.1 (by decide +kernel) (by decide +kernel)
  have hK59 : WKE V32 x m0 := WKE.frx hK29 hF36 hE35 hWp41 hI10.1 hI10.2.1 (by decide +kernel) (by decide +kernel)
  have hP60 : PLE V32 x m0 := PLE.frx hP30 hF36 hE35 hWp41 hI10.1 hI10.2.1 (by omega) (by decide +kernel) (by decide +kernel) (by decide +kernel) (by decide +kernel) (by decide +kernel) (by decide +kernel)
  have hK61 := AB.asks hA0 hI.2.2.2.2.2.2.1 hW0 hI.1 hI.2.1 hI.2.2.2.2.1 (by omega) (by omega) (hW0.int hI.1 (j := 4) (Nat.le_of_ble_eq_true rfl) rfl).2.2 (hW0.int hI.2.1 (j := 133) (Nat.le_of_ble_eq_true rfl) rfl).2.2 h4.2.2.2 h34.2.2.2
  refine LG.pop dL_law_2243 rfl ?_
  refine LG.goto (tgt := 2745) dL_law_2244 (by decide) ?_
  exact LG.widen (le_cs3 rfl) (kk _ _ hI40 (⟨by unfold RLI; omega, hK61.2.1, hT43, hY42, hP60, hK59, hS58⟩))

set_option maxHeartbeats 2000000 in
theorem law_case_47 {p : Program} {l : Launch} {e : Env} {s : State} {m : MethodId} {below : List Frame} {meth : Method} {c : Code} {b L : Nat} {xs : Nat → Int32} {D : va_G} {dA : Nat → ClassId} {K : Kmap} {V : Vmap} {cells slots x m0 : Nat} {i : Int} (hI : LI K V x m0) (hR : REL K V x m0) (hL : L ≤ 4096) (h0 : 0 ≤ i) (h8 : i + 8 ≤ L) (hcs : cells + 8 ≤ 600000 ∧ slots + 2704 ≤ 7302250) (kk : ∀ (K1 : Kmap) (V1 : Vmap), LI K1 V1 x m0 → REL K1 V1 x m0 → LG p l e s m below meth c b L xs D dA K1 V1 (cells + 8) (slots + 2704) 2745 [some (.ref b), some (.ref x), some (.ref m0), some (ti i)] []) : LG p l e s m below meth c b L xs D dA K V cells slots 2247 [some (.ref b), some (.ref x), some (.ref m0), some (ti i)] [] := by
  have hR0 := hR.1
  have hA0 := hR.2.1
  have hT0 := hR.2.2.1
  have hY0 := hR.2.2.2.1
  have hP0 := hR.2.2.2.2.1
  have hK0 := hR.2.2.2.2.2.1
  have hS0 := hR.2.2.2.2.2.2
  unfold RLI at hR0
  refine LG.aload_n dL_law_2247 rfl rfl ?_
  refine LG.aload_n dL_law_2248 rfl rfl ?_
  refine LG.iload_n dL_law_2249 rfl rfl ?_
  refine LG.iconst dL_law_2250 ?_
  refine LG.iadd dL_law_2251 ?_
  refine LG.sld (Y := i + 1) dL_law_2252 (by omega) (by omega) hL ?_
  refine LG.useWT (fun hW => ?_)
  refine LG.callV (ci := 10) (N := mX11_blocks) (As := [ti (xv xs (i + 1))]) dL_law_2253 (RX11, TX11, 20) rfl gV_RL_217 hI.1 (t_X11_blocks hI.1 xv_ir hI.2.2.2.2.1) rfl [] rfl rfl (le_cs hcs rfl) (Nat.le_of_ble_eq_true rfl) (g_ip fun X7 K1 V2 r3 h4 hE5 hF6 => ?_)
  have hI10 : LI K1 V2 x m0 := ⟨hE5.obj (by decide) hI.1, hE5.obj (by decide) hI.2.1, (GX.frx hF6 hE5 hI.2.2.1 hW hI.2.1 (by decide +kernel)), (PX0.frx hF6 hE5 hI.2.2.2.1 hW hI.2.1 (by decide +kernel)), (NN.frx 4 3 4 rfl rfl hF6 hE5 hI.2.2.2.2.1 hW hI.1 (by decide +kernel)), (NN.frx 10 9 7 rfl rfl hF6 hE5 hI.2.2.2.2.2.1 hW hI.1 (by decide +kernel)), (PI.frx hI.2.2.2.2.2.2.1 hF6 hE5 hW hI.1 hI.2.2.2.2.1 (by decide +kernel)), (CWI.fr hI.2.2.2.2.2.2.2 hF6 hE5 hW hI.1 (by decide +kernel) (by decide +kernel) (by decide +kernel))⟩
  have hWp11 := hW
  have hY12 : YRL V2 x m0 := YRL.frx hY0 hF6 hE5 hW hI.1 hI.2.1 hI.2.2.2.2.1 (by decide +kernel) (by decide +kernel)
  have hT13 : TXE K1 V2 x m0 := TXE.frx hT0 hF6 hE5 hW hI.1 hI.2.1 (by decide +kernel)
  have hW0 := hW
  have hMb := (MSame.frx hF6 hE5 hW hI.2.1 (by decide +kernel))
  have hA14 : AB V2 x m0 := AB.frx hA0 hF6 hE5 hW hI.1 hI.2.1 hI.2.2.2.2.1 (by decide +kernel) (by decide +kernel) (Int.le_of_eq (vi_fr hF6 hI.2.1 (hE5.obj (by decide) hI.2.1) (by decide +kernel)).symm)
  have s15 : tdy V2 x = tdy V x := tdy_fr hF6 hE5 hW hI.1 (by decide +kernel) (by decide +kernel)
  have s16 : wsz V2 x = wsz V x := wsz_fr hF6 hE5 hW hI.1 (by decide +kernel) (by decide +kernel)
  have s17 : csz V2 x = csz V x := csz_fr hF6 hE5 hW hI.1 (by decide +kernel) (by decide +kernel)
  have s18 : dsz V2 x = dsz V x := dsz_fr hF6 hE5 hW hI.1 (by decide +kernel) (by decide +kernel)
  clear hW
  have s19 : vi V2 x 4 = vi V x 4 := vi_fr hF6 hI.1 (hE5.obj (by decide) hI.1) (by decide +kernel)
  have s20 : vi V2 x 10 = vi V x 10 := vi_fr hF6 hI.1 (hE5.obj (by decide) hI.1) (by decide +kernel)
  have s21 : vi V2 m0 9 = vi V m0 9 := vi_fr hF6 hI.2.1 (hE5.obj (by decide) hI.2.1) (by decide +kernel)
  have s22 : vi V2 m0 2 = vi V m0 2 := vi_fr hF6 hI.2.1 (hE5.obj (by decide) hI.2.1) (by decide +kernel)
  have s23 : vi V2 m0 91 = vi V m0 91 := vi_fr hF6 hI.2.1 (hE5.obj (by decide) hI.2.1) (by decide +kernel)
  have s24 : vi V2 m0 133 = vi V m0 133 := vi_fr hF6 hI.2.1 (hE5.obj (by decide) hI.2.1) (by decide +kernel)
  have s25 : vi V2 m0 120 = vi V m0 120 := vi_fr hF6 hI.2.1 (hE5.obj (by decide) hI.2.1) (by decide +kernel)
  have s26 : vi V2 x 8 = vi V x 8 := vi_fr hF6 hI.1 (hE5.obj (by decide) hI.1) (by decide +kernel)
  have s27 : vi V2 m0 66 = vi V m0 66 := vi_fr hF6 hI.2.1 (hE5.obj (by decide) hI.2.1) (by decide +kernel)
  have s28 : vi V2 m0 118 = vi V m0 118 := vi_fr hF6 hI.2.1 (hE5.obj (by decide) hI.2.1) (by decide +kernel)
  have hS29 : STE V2 x m0 := STE.frx hS0 hF6 hE5 hWp11 hI.1 hI.2.1 (by decide +kernel) (by decide +kernel)
  have hK30 : WKE V2 x m0 := WKE.frx hK0 hF6 hE5 hWp11 hI.1 hI.2.1 (by decide +kernel) (by decide +kernel)
  have hP31 : PLE V2 x m0 := PLE.frx hP0 hF6 hE5 hWp11 hI.1 hI.2.1 (by omega) (by decide +kernel) (by decide +kernel) (by decide +kernel) (by decide +kernel) (by decide +kernel) (by decide +kernel)
  refine LG.pop dL_law_2256 rfl ?_
  refine LG.aload_n dL_law_2257 rfl rfl ?_
  refine LG.aload_n dL_law_2258 rfl rfl ?_
  refine LG.iload_n dL_law_2259 rfl rfl ?_
  refine LG.iconst dL_law_2260 ?_
  refine LG.iadd dL_law_2261 ?_
  refine LG.sld (Y := i + 1) dL_law_2262 (by omega) (by omega) hL ?_
  refine LG.useWT (fun hW => ?_)
  refine LG.callV (ci := 11) (N := mX12_blocks) (As := [ti (xv xs (i + 1))]) dL_law_2263 (RX12, TX12, 151) rfl gV_RL_220 hI10.2.1 (t_X12_blocks hI10.2.1 xv_ir) rfl [] rfl rfl (le_csb hcs rfl) (Nat.le_of_ble_eq_true rfl) (g_ip fun X38 K32 V33 r34 h35 hE36 hF37 => ?_)
  have hI41 : LI K32 V33 x m0 := ⟨hE36.obj (by decide) hI10.1, hE36.obj (by decide) hI10.2.1, (GX.frx hF37 hE36 hI10.2.2.1 hW hI10.2.1 (by decide +kernel)), (PX0.frx hF37 hE36 hI10.2.2.2.1 hW hI10.2.1 (by decide +kernel)), (NN.frx 4 3 4 rfl rfl hF37 hE36 hI10.2.2.2.2.1 hW hI10.1 (by decide +kernel)), (NN.frx 10 9 7 rfl rfl hF37 hE36 hI10.2.2.2.2.2.1 hW hI10.1 (by decide +kernel)), (PI.frx hI10.2.2.2.2.2.2.1 hF37 hE36 hW hI10.1 hI10.2.2.2.2.1 (by decide +kernel)), (CWI.fr hI10.2.2.2.2.2.2.2 hF37 hE36 hW hI10.1 (by decide +kernel) (by decide +kernel) (by decide +kernel))⟩
  have hWp42 := hW
  have hY43 : YRL V33 x m0 := YRL.frx hY12 hF37 hE36 hW hI10.1 hI10.2.1 hI10.2.2.2.2.1 (by decide +kernel) (by decide +kernel)
  have hT44 : TXE K32 V33 x m0 := TXE.frx hT13 hF37 hE36 hW hI10.1 hI10.2.1 (by decide +kernel)
  have hA45 : AB V33 x m0 := AB.frx hA14 hF37 hE36 hW hI10.1 hI10.2.1 hI10.2.2.2.2.1 (by decide +kernel) (by decide +kernel) (Int.le_of_eq (vi_fr hF37 hI10.2.1 (hE36.obj (by decide) hI10.2.1) (by decide +kernel)).symm)
  have s46 : tdy V33 x = tdy V2 x := tdy_fr hF37 hE36 hW hI10.1 (by decide +kernel) (by decide +kernel)
  have s47 : wsz V33 x = wsz V2 x := wsz_fr hF37 hE36 hW hI10.1 (by decide +kernel) (by decide +kernel)
  have s48 : csz V33 x = csz V2 x := csz_fr hF37 hE36 hW hI10.1 (by decide +kernel) (by decide +kernel)
  have s49 : dsz V33 x = dsz V2 x := dsz_fr hF37 hE36 hW hI10.1 (by decide +kernel) (by decide +kernel)
  clear hW
  have s50 : vi V33 x 4 = vi V2 x 4 := vi_fr hF37 hI10.1 (hE36.obj (by decide) hI10.1) (by decide +kernel)
  have s51 : vi V33 x 10 = vi V2 x 10 := vi_fr hF37 hI10.1 (hE36.obj (by decide) hI10.1) (by decide +kernel)
  have s52 : vi V33 m0 9 = vi V2 m0 9 := vi_fr hF37 hI10.2.1 (hE36.obj (by decide) hI10.2.1) (by decide +kernel)
  have s53 : vi V33 m0 2 = vi V2 m0 2 := vi_fr hF37 hI10.2.1 (hE36.obj (by decide) hI10.2.1) (by decide +kernel)
  have s54 : vi V33 m0 91 = vi V2 m0 91 := vi_fr hF37 hI10.2.1 (hE36.obj (by decide) hI10.2.1) (by decide +kernel)
  have s55 : vi V33 m0 133 = vi V2 m0 133 := vi_fr hF37 hI10.2.1 (hE36.obj (by decide) hI10.2.1) (by decide +kernel)
  have s56 : vi V33 m0 120 = vi V2 m0 120 := vi_fr hF37 hI10.2.1 (hE36.obj (by decide) hI10.2.1) (by decide +kernel)
  have s57 : vi V33 x 8 = vi V2 x 8 := vi_fr hF37 hI10.1 (hE36.obj (by decide) hI10.1) (by decide +kernel)
  have s58 : vi V33 m0 66 = vi V2 m0 66 := vi_fr hF37 hI10.2.1 (hE36.obj (by decide) hI10.2.1) (by decide +kernel)
  have s59 : vi V33 m0 118 = vi V2 m0 118 := vi_fr hF37 hI10.2.1 (hE36.obj (by decide) hI10.2.1) (by decide +kernel)
  have hS60 : STE V33 x m0 := STE.frx hS29 hF37 hE36 hWp42 hI10.1 hI10.2.1 (by decide +kernel) (by decide +kernel)
  have hK61 : WKE V33 x m0 := WKE.frx hK30 hF37 hE36 hWp42 hI10.1 hI10.2.1 (by decide +kernel) (by decide +kernel)
  have hP62 : PLE V33 x m0 := PLE.frx hP31 hF37 hE36 hWp42 hI10.1 hI10.2.1 (by omega) (by decide +kernel) (by decide +kernel) (by decide +kernel) (by decide +kernel) (by decide +kernel) (by decide +kernel)
  have hK63 := AB.blocks hA0 hMb (by omega) (by omega) (by omega) (by omega) (hW0.int hI.2.1 (j := 133) (Nat.le_of_ble_eq_true rfl) rfl).2.1 (hW0.int hI.2.1 (j := 133) (Nat.le_of_ble_eq_true rfl) rfl).2.2 h4.2 h35.2
  refine LG.pop dL_law_2266 rfl ?_
  refine LG.goto (tgt := 2745) dL_law_2267 (by decide) ?_
  exact LG.widen (le_cs3 rfl) (kk _ _ hI41 (⟨by unfold RLI; omega, hA45, hT44, hY43, hP62, hK61, hS60⟩))
