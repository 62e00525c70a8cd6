set_option maxHeartbeats 4000000 in
set_option maxRecDepth 100000 in
theorem law_case_32 {p : Program} {l : Launch} {e : Env} {s : State} {m : MethodId} {below : List Frame} {meth : Method} {c : Code} {b L : Nat} {xs : Nat → Int32} {D : va_G} {dA : Nat → ClassId} {K : Kmap} {V : Vmap} {H : Heap} {locs : List Loc} {ls : Array Slot} {x m0 : Nat} (hat : lw_At p s m meth c b L xs) (hKN : KN D dA s) (hL : L = 8) (hS : ST D dA kNone s.heap K V H locs) (FXh : FX K V x) (FMh : FM K V m0) (hl : lv_has ls 4 [(3, .int 0), (2, .ref m0), (1, .ref x), (0, .ref b)]) : W p l e room_1 s m #[Value.ref b] below meth c H locs 163 25899 (lw_Z below #[Value.ref b] s) (F0 m 1732 ls []) := by
  have hx := hat.1; have hb := hat.2.1
  have C := law_cx hat hKN
  have hKx : K x = some (0, 10) := FX.kind FXh
  refine lv_aload_n hx hb dL_law_1732 rfl (lv_at hl 2 rfl) ?_
  refine lv_aload_n hx hb dL_law_1733 rfl (lv_at hl 3 rfl) ?_
  refine lv_iload_n hx hb dL_law_1734 rfl (lv_at hl 0 rfl) ?_
  refine lv_iconst (v := 1) hx hb dL_law_1735 (by decide) ?_
  refine lv_iadd hx hb dL_law_1736 ?_
  refine th_is (w := .int 1) (by decide) ?_
  refine va_sld hx hb hat.2.2.2.2.2.2.1 hat.2.2.2.2.2.2.2.1 (law_nb hat) hS.2.1 (i := 1) (by rw [hL]; exact vp_in_iff.mpr (by decide +kernel)) dL_law_1737 ?_
  refine th_is (w := .int (xs 1)) (congrArg (fun j => Value.int (xs j)) (by decide)) ?_
  refine lv_aload_n hx hb dL_law_1738 rfl (lv_at hl 3 rfl) ?_
  refine lv_iload_n hx hb dL_law_1739 rfl (lv_at hl 0 rfl) ?_
  refine lv_iconst (v := 2) hx hb dL_law_1740 (by decide) ?_
  refine lv_iadd hx hb dL_law_1741 ?_
  refine th_is (w := .int 2) (by decide) ?_
  refine va_sld hx hb hat.2.2.2.2.2.2.1 hat.2.2.2.2.2.2.2.1 (law_nb hat) hS.2.1 (i := 2) (by rw [hL]; exact vp_in_iff.mpr (by decide +kernel)) dL_law_1742 ?_
  refine th_is (w := .int (xs 2)) (congrArg (fun j => Value.int (xs j)) (by decide)) ?_
  refine th_goi (th_runV (As := [.int (xs 1), .int (xs 2)]) (rest := []) C hS.1 (RX11, TX11, 20) rfl gV_RL_155 hKx (t_X11_visit rfl rfl FXh) hl rfl rfl rfl rfl ⟨Nat.le_of_ble_eq_true rfl, Nat.le_of_ble_eq_true rfl⟩ (Nat.le_of_ble_eq_true rfl) ⟨Nat.le_of_ble_eq_true rfl, Nat.le_of_ble_eq_true rfl⟩ dL_law_1743) (fun r5940 hq5941 => ?_)
  refine lv_aload_n hx hb dL_law_1746 rfl (lv_at hl 1 rfl) ?_
  refine lv_aload_n hx hb dL_law_1747 rfl (lv_at hl 3 rfl) ?_
  refine lv_iload_n hx hb dL_law_1748 rfl (lv_at hl 0 rfl) ?_
  refine lv_iconst (v := 1) hx hb dL_law_1749 (by decide) ?_
  refine lv_iadd hx hb dL_law_1750 ?_
  refine th_is (w := .int 1) (by decide) ?_
  refine va_sld hx hb hat.2.2.2.2.2.2.1 hat.2.2.2.2.2.2.2.1 (law_nb hat) hS.2.1 (i := 1) (by rw [hL]; exact vp_in_iff.mpr (by decide +kernel)) dL_law_1751 ?_
  refine th_is (w := .int (xs 1)) (congrArg (fun j => Value.int (xs j)) (by decide)) ?_
  refine lv_aload_n hx hb dL_law_1752 rfl (lv_at hl 3 rfl) ?_
  refine lv_iload_n hx hb dL_law_1753 rfl (lv_at hl 0 rfl) ?_
  refine lv_iconst (v := 2) hx hb dL_law_1754 (by decide) ?_
  refine lv_iadd hx hb dL_law_1755 ?_
  refine th_is (w := .int 2) (by decide) ?_
  refine va_sld hx hb hat.2.2.2.2.2.2.1 hat.2.2.2.2.2.2.2.1 (law_nb hat) hS.2.1 (i := 2) (by rw [hL]; exact vp_in_iff.mpr (by decide +kernel)) dL_law_1756 ?_
  refine th_is (w := .int (xs 2)) (congrArg (fun j => Value.int (xs j)) (by decide)) ?_
  refine th_goi (th_runV (As := [.int (xs 1), .int (xs 2)]) (rest := [.int r5940]) C hS.1 (RX12, TX12, 151) rfl gV_RL_158 FMh.1 (t_X12_visit rfl rfl FMh) hl rfl rfl rfl rfl ⟨Nat.le_of_ble_eq_true rfl, Nat.le_of_ble_eq_true rfl⟩ (Nat.le_of_ble_eq_true rfl) ⟨Nat.le_of_ble_eq_true rfl, Nat.le_of_ble_eq_true rfl⟩ dL_law_1757) (fun r5942 hq5943 => ?_)
  refine th_icmp_eq (X := r5940.toInt) (Y := r5942.toInt) (tgt := 2746) hx hb dL_law_1760 (by decide) rfl rfl (fun c5944 => ?_) (fun c5944 => absurd (by omega) c5944)
  exact law_next hat hKN (Nat.le_of_eq hL) hS (lv_sub hl [0, 3] rfl) (Nat.le_of_ble_eq_true rfl) (Nat.le_of_ble_eq_true rfl)

set_option maxHeartbeats 4000000 in
set_option maxRecDepth 100000 in
theorem law_case_33 {p : Program} {l : Launch} {e : Env} {s : State} {m : MethodId} {below : List Frame} {meth : Method} {c : Code} {b L : Nat} {xs : Nat → Int32} {D : va_G} {dA : Nat → ClassId} {K : Kmap} {V : Vmap} {H : Heap} {locs : List Loc} {ls : Array Slot} {x m0 : Nat} (hat : lw_At p s m meth c b L xs) (hKN : KN D dA s) (hL : L = 8) (hS : ST D dA kNone s.heap K V H locs) (FXh : FX K V x) (FMh : FM K V m0) (hl : lv_has ls 4 [(3, .int 0), (2, .ref m0), (1, .ref x), (0, .ref b)]) : W p l e room_1 s m #[Value.ref b] below meth c H locs 163 25899 (lw_Z below #[Value.ref b] s) (F0 m 1765 ls []) := by
  have hx := hat.1; have hb := hat.2.1
  have C := law_cx hat hKN
  have hKx : K x = some (0, 10) := FX.kind FXh
  refine lv_aload_n hx hb dL_law_1765 rfl (lv_at hl 2 rfl) ?_
  refine lv_aload_n hx hb dL_law_1766 rfl (lv_at hl 3 rfl) ?_
  refine lv_iload_n hx hb dL_law_1767 rfl (lv_at hl 0 rfl) ?_
  refine lv_iconst (v := 1) hx hb dL_law_1768 (by decide) ?_
  refine lv_iadd hx hb dL_law_1769 ?_
  refine th_is (w := .int 1) (by decide) ?_
  refine va_sld hx hb hat.2.2.2.2.2.2.1 hat.2.2.2.2.2.2.2.1 (law_nb hat) hS.2.1 (i := 1) (by rw [hL]; exact vp_in_iff.mpr (by decide +kernel)) dL_law_1770 ?_
  refine th_is (w := .int (xs 1)) (congrArg (fun j => Value.int (xs j)) (by decide)) ?_
  refine lv_aload_n hx hb dL_law_1771 rfl (lv_at hl 3 rfl) ?_
  refine lv_iload_n hx hb dL_law_1772 rfl (lv_at hl 0 rfl) ?_
  refine lv_iconst (v := 2) hx hb dL_law_1773 (by decide) ?_
  refine lv_iadd hx hb dL_law_1774 ?_
  refine th_is (w := .int 2) (by decide) ?_
  refine va_sld hx hb hat.2.2.2.2.2.2.1 hat.2.2.2.2.2.2.2.1 (law_nb hat) hS.2.1 (i := 2) (by rw [hL]; exact vp_in_iff.mpr (by decide +kernel)) dL_law_1775 ?_
  refine th_is (w := .int (xs 2)) (congrArg (fun j => Value.int (xs j)) (by decide)) ?_
  refine th_goi (th_runV (As := [.int (xs 1), .int (xs 2)]) (rest := []) C hS.1 (RX11, TX11, 20) rfl gV_RL_159 hKx (t_X11_seen rfl rfl FXh) hl rfl rfl rfl rfl ⟨Nat.le_of_ble_eq_true rfl, Nat.le_of_ble_eq_true rfl⟩ (Nat.le_of_ble_eq_true rfl) ⟨Nat.le_of_ble_eq_true rfl, Nat.le_of_ble_eq_true rfl⟩ dL_law_1776) (fun r5945 hq5946 => ?_)
  refine lv_aload_n hx hb dL_law_1779 rfl (lv_at hl 1 rfl) ?_
  refine lv_aload_n hx hb dL_law_1780 rfl (lv_at hl 3 rfl) ?_
  refine lv_iload_n hx hb dL_law_1781 rfl (lv_at hl 0 rfl) ?_
  refine lv_iconst (v := 1) hx hb dL_law_1782 (by decide) ?_
  refine lv_iadd hx hb dL_law_1783 ?_
  refine th_is (w := .int 1) (by decide) ?_
  refine va_sld hx hb hat.2.2.2.2.2.2.1 hat.2.2.2.2.2.2.2.1 (law_nb hat) hS.2.1 (i := 1) (by rw [hL]; exact vp_in_iff.mpr (by decide +kernel)) dL_law_1784 ?_
  refine th_is (w := .int (xs 1)) (congrArg (fun j => Value.int (xs j)) (by decide)) ?_
  refine lv_aload_n hx hb dL_law_1785 rfl (lv_at hl 3 rfl) ?_
  refine lv_iload_n hx hb dL_law_1786 rfl (lv_at hl 0 rfl) ?_
  refine lv_iconst (v := 2) hx hb dL_law_1787 (by decide) ?_
  refine lv_iadd hx hb dL_law_1788 ?_
  refine th_is (w := .int 2) (by decide) ?_
  refine va_sld hx hb hat.2.2.2.2.2.2.1 hat.2.2.2.2.2.2.2.1 (law_nb hat) hS.2.1 (i := 2) (by rw [hL]; exact vp_in_iff.mpr (by decide +kernel)) dL_law_1789 ?_
  refine th_is (w := .int (xs 2)) (congrArg (fun j => Value.int (xs j)) (by decide)) ?_
  refine th_goi (th_runV (As := [.int (xs 1), .int (xs 2)]) (rest := [.int r5945]) C hS.1 (RX12, TX12, 151) rfl gV_RL_162 FMh.1 (t_X12_seen rfl rfl FMh) hl rfl rfl rfl rfl ⟨Nat.le_of_ble_eq_true rfl, Nat.le_of_ble_eq_true rfl⟩ (Nat.le_of_ble_eq_true rfl) ⟨Nat.le_of_ble_eq_true rfl, Nat.le_of_ble_eq_true rfl⟩ dL_law_1790) (fun r5947 hq5948 => ?_)
  refine th_icmp_eq (X := r5945.toInt) (Y := r5947.toInt) (tgt := 2746) hx hb dL_law_1793 (by decide) rfl rfl (fun c5949 => ?_) (fun c5949 => absurd (by omega) c5949)
  exact law_next hat hKN (Nat.le_of_eq hL) hS (lv_sub hl [0, 3] rfl) (Nat.le_of_ble_eq_true rfl) (Nat.le_of_ble_eq_true rfl)

set_option maxHeartbeats 4000000 in
set_option maxRecDepth 100000 in
theorem law_case_34 {p : Program} {l : Launch} {e : Env} {s : State} {m : MethodId} {below : List Frame} {meth : Method} {c : Code} {b L : Nat} {xs : Nat → Int32} {D : va_G} {dA : Nat → ClassId} {K : Kmap} {V : Vmap} {H : Heap} {locs : List Loc} {ls : Array Slot} {x m0 : Nat} (hat : lw_At p s m meth c b L xs) (hKN : KN D dA s) (hL : L = 8) (hS : ST D dA kNone s.heap K V H locs) (FXh : FX K V x) (FMh : FM K V m0) (hl : lv_has ls 4 [(3, .int 0), (2, .ref m0), (1, .ref x), (0, .ref b)]) : W p l e room_1 s m #[Value.ref b] below meth c H locs 163 25899 (lw_Z below #[Value.ref b] s) (F0 m 1798 ls []) := by
  have hx := hat.1; have hb := hat.2.1
  have C := law_cx hat hKN
  have hKx : K x = some (0, 10) := FX.kind FXh
  refine lv_aload_n hx hb dL_law_1798 rfl (lv_at hl 2 rfl) ?_
  refine th_goiH hS rfl (th_runV (As := []) (rest := []) C hS.1 (RX11, TX11, 20) rfl gV_RL_163 hKx (t_X11_day FXh) hl rfl rfl rfl rfl ⟨Nat.le_of_ble_eq_true rfl, Nat.le_of_ble_eq_true rfl⟩ (Nat.le_of_ble_eq_true rfl) ⟨Nat.le_of_ble_eq_true rfl, Nat.le_of_ble_eq_true rfl⟩ dL_law_1799) (fun r5950 K5952 V5953 H locs1 hq5951 hE5954 hS => ?_)
  obtain ⟨hF5955, hr5956⟩ := hq5951
  have FM5957 := FM.moved FMh hE5954 (hF5955 _ FMh.1)
  refine lv_aload_n hx hb dL_law_1802 rfl (lv_at hl 1 rfl) ?_
  refine th_goiH hS rfl (th_runV (As := []) (rest := [.int r5950]) C hS.1 (RX12, TX12, 151) rfl gV_RL_167 FM5957.1 (t_X12_day FM5957) hl rfl rfl rfl rfl ⟨Nat.le_of_ble_eq_true rfl, Nat.le_of_ble_eq_true rfl⟩ (Nat.le_of_ble_eq_true rfl) ⟨Nat.le_of_ble_eq_true rfl, Nat.le_of_ble_eq_true rfl⟩ dL_law_1803) (fun r5958 K5960 V5961 H locs1 hq5959 hE5962 hS => ?_)
  refine th_icmp_eq (X := r5950.toInt) (Y := r5958.toInt) (tgt := 2746) hx hb dL_law_1806 (by decide) rfl rfl (fun c5963 => ?_) (fun c5963 => absurd (by omega) c5963)
  exact law_next hat hKN (Nat.le_of_eq hL) hS (lv_sub hl [0, 3] rfl) (Nat.le_of_ble_eq_true rfl) (Nat.le_of_ble_eq_true rfl)

set_option maxHeartbeats 4000000 in
set_option maxRecDepth 100000 in
theorem law_case_35 {p : Program} {l : Launch} {e : Env} {s : State} {m : MethodId} {below : List Frame} {meth : Method} {c : Code} {b L : Nat} {xs : Nat → Int32} {D : va_G} {dA : Nat → ClassId} {K : Kmap} {V : Vmap} {H : Heap} {locs : List Loc} {ls : Array Slot} {x m0 : Nat} (hat : lw_At p s m meth c b L xs) (hKN : KN D dA s) (hL : L = 8) (hS : ST D dA kNone s.heap K V H locs) (FXh : FX K V x) (FMh : FM K V m0) (hl : lv_has ls 4 [(3, .int 0), (2, .ref m0), (1, .ref x), (0, .ref b)]) : W p l e room_1 s m #[Value.ref b] below meth c H locs 163 25899 (lw_Z below #[Value.ref b] s) (F0 m 1811 ls []) := by
  have hx := hat.1; have hb := hat.2.1
  have C := law_cx hat hKN
  have hKx : K x = some (0, 10) := FX.kind FXh
  refine lv_aload_n hx hb dL_law_1811 rfl (lv_at hl 2 rfl) ?_
  refine lv_aload_n hx hb dL_law_1812 rfl (lv_at hl 3 rfl) ?_
  refine lv_iload_n hx hb dL_law_1813 rfl (lv_at hl 0 rfl) ?_
  refine lv_iconst (v := 1) hx hb dL_law_1814 (by decide) ?_
  refine lv_iadd hx hb dL_law_1815 ?_
  refine th_is (w := .int 1) (by decide) ?_
  refine va_sld hx hb hat.2.2.2.2.2.2.1 hat.2.2.2.2.2.2.2.1 (law_nb hat) hS.2.1 (i := 1) (by rw [hL]; exact vp_in_iff.mpr (by decide +kernel)) dL_law_1816 ?_
  refine th_is (w := .int (xs 1)) (congrArg (fun j => Value.int (xs j)) (by decide)) ?_
  refine lv_aload_n hx hb dL_law_1817 rfl (lv_at hl 3 rfl) ?_
  refine lv_iload_n hx hb dL_law_1818 rfl (lv_at hl 0 rfl) ?_
  refine lv_iconst (v := 2) hx hb dL_law_1819 (by decide) ?_
  refine lv_iadd hx hb dL_law_1820 ?_
  refine th_is (w := .int 2) (by decide) ?_
  refine va_sld hx hb hat.2.2.2.2.2.2.1 hat.2.2.2.2.2.2.2.1 (law_nb hat) hS.2.1 (i := 2) (by rw [hL]; exact vp_in_iff.mpr (by decide +kernel)) dL_law_1821 ?_
  refine th_is (w := .int (xs 2)) (congrArg (fun j => Value.int (xs j)) (by decide)) ?_
  refine lv_aload_n hx hb dL_law_1822 rfl (lv_at hl 3 rfl) ?_
  refine lv_iload_n hx hb dL_law_1823 rfl (lv_at hl 0 rfl) ?_
  refine lv_iconst (v := 3) hx hb dL_law_1824 (by decide) ?_
  refine lv_iadd hx hb dL_law_1825 ?_
  refine th_is (w := .int 3) (by decide) ?_
  refine va_sld hx hb hat.2.2.2.2.2.2.1 hat.2.2.2.2.2.2.2.1 (law_nb hat) hS.2.1 (i := 3) (by rw [hL]; exact vp_in_iff.mpr (by decide +kernel)) dL_law_1826 ?_
  refine th_is (w := .int (xs 3)) (congrArg (fun j => Value.int (xs j)) (by decide)) ?_
  refine th_goi (th_runV (As := [.int (xs 1), .int (xs 2), .int (xs 3)]) (rest := []) C hS.1 (RX11, TX11, 20) rfl gV_RL_168 hKx (t_X11_sound rfl rfl rfl FXh) hl rfl rfl rfl rfl ⟨Nat.le_of_ble_eq_true rfl, Nat.le_of_ble_eq_true rfl⟩ (Nat.le_of_ble_eq_true rfl) ⟨Nat.le_of_ble_eq_true rfl, Nat.le_of_ble_eq_true rfl⟩ dL_law_1827) (fun r5964 hq5965 => ?_)
  refine lv_aload_n hx hb dL_law_1830 rfl (lv_at hl 1 rfl) ?_
  refine lv_aload_n hx hb dL_law_1831 rfl (lv_at hl 3 rfl) ?_
  refine lv_iload_n hx hb dL_law_1832 rfl (lv_at hl 0 rfl) ?_
  refine lv_iconst (v := 1) hx hb dL_law_1833 (by decide) ?_
  refine lv_iadd hx hb dL_law_1834 ?_
  refine th_is (w := .int 1) (by decide) ?_
  refine va_sld hx hb hat.2.2.2.2.2.2.1 hat.2.2.2.2.2.2.2.1 (law_nb hat) hS.2.1 (i := 1) (by rw [hL]; exact vp_in_iff.mpr (by decide +kernel)) dL_law_1835 ?_
  refine th_is (w := .int (xs 1)) (congrArg (fun j => Value.int (xs j)) (by decide)) ?_
  refine lv_aload_n hx hb dL_law_1836 rfl (lv_at hl 3 rfl) ?_
  refine lv_iload_n hx hb dL_law_1837 rfl (lv_at hl 0 rfl) ?_
  refine lv_iconst (v := 2) hx hb dL_law_1838 (by decide) ?_
  refine lv_iadd hx hb dL_law_1839 ?_
  refine th_is (w := .int 2) (by decide) ?_
  refine va_sld hx hb hat.2.2.2.2.2.2.1 hat.2.2.2.2.2.2.2.1 (law_nb hat) hS.2.1 (i := 2) (by rw [hL]; exact vp_in_iff.mpr (by decide +kernel)) dL_law_1840 ?_
  refine th_is (w := .int (xs 2)) (congrArg (fun j => Value.int (xs j)) (by decide)) ?_
  refine lv_aload_n hx hb dL_law_1841 rfl (lv_at hl 3 rfl) ?_
  refine lv_iload_n hx hb dL_law_1842 rfl (lv_at hl 0 rfl) ?_
  refine lv_iconst (v := 3) hx hb dL_law_1843 (by decide) ?_
  refine lv_iadd hx hb dL_law_1844 ?_
  refine th_is (w := .int 3) (by decide) ?_
  refine va_sld hx hb hat.2.2.2.2.2.2.1 hat.2.2.2.2.2.2.2.1 (law_nb hat) hS.2.1 (i := 3) (by rw [hL]; exact vp_in_iff.mpr (by decide +kernel)) dL_law_1845 ?_
  refine th_is (w := .int (xs 3)) (congrArg (fun j => Value.int (xs j)) (by decide)) ?_
  refine th_goi (th_runV (As := [.int (xs 1), .int (xs 2), .int (xs 3)]) (rest := [.int r5964]) C hS.1 (RX12, TX12, 151) rfl gV_RL_171 FMh.1 (t_X12_sound rfl rfl rfl FMh) hl rfl rfl rfl rfl ⟨Nat.le_of_ble_eq_true rfl, Nat.le_of_ble_eq_true rfl⟩ (Nat.le_of_ble_eq_true rfl) ⟨Nat.le_of_ble_eq_true rfl, Nat.le_of_ble_eq_true rfl⟩ dL_law_1846) (fun r5966 hq5967 => ?_)
  refine th_icmp_eq (X := r5964.toInt) (Y := r5966.toInt) (tgt := 2746) hx hb dL_law_1849 (by decide) rfl rfl (fun c5968 => ?_) (fun c5968 => absurd (by omega) c5968)
  exact law_next hat hKN (Nat.le_of_eq hL) hS (lv_sub hl [0, 3] rfl) (Nat.le_of_ble_eq_true rfl) (Nat.le_of_ble_eq_true rfl)

set_option maxHeartbeats 4000000 in
set_option maxRecDepth 100000 in
theorem law_case_36 {p : Program} {l : Launch} {e : Env} {s : State} {m : MethodId} {below : List Frame} {meth : Method} {c : Code} {b L : Nat} {xs : Nat → Int32} {D : va_G} {dA : Nat → ClassId} {K : Kmap} {V : Vmap} {H : Heap} {locs : List Loc} {ls : Array Slot} {x m0 : Nat} (hat : lw_At p s m meth c b L xs) (hKN : KN D dA s) (hL : L = 8) (hS : ST D dA kNone s.heap K V H locs) (FXh : FX K V x) (FMh : FM K V m0) (hl : lv_has ls 4 [(3, .int 0), (2, .ref m0), (1, .ref x), (0, .ref b)]) : W p l e room_1 s m #[Value.ref b] below meth c H locs 163 25899 (lw_Z below #[Value.ref b] s) (F0 m 1854 ls []) := by
  have hx := hat.1; have hb := hat.2.1
  have C := law_cx hat hKN
  have hKx : K x = some (0, 10) := FX.kind FXh
  refine lv_aload_n hx hb dL_law_1854 rfl (lv_at hl 2 rfl) ?_
  refine lv_aload_n hx hb dL_law_1855 rfl (lv_at hl 3 rfl) ?_
  refine lv_iload_n hx hb dL_law_1856 rfl (lv_at hl 0 rfl) ?_
  refine lv_iconst (v := 1) hx hb dL_law_1857 (by decide) ?_
  refine lv_iadd hx hb dL_law_1858 ?_
  refine th_is (w := .int 1) (by decide) ?_
  refine va_sld hx hb hat.2.2.2.2.2.2.1 hat.2.2.2.2.2.2.2.1 (law_nb hat) hS.2.1 (i := 1) (by rw [hL]; exact vp_in_iff.mpr (by decide +kernel)) dL_law_1859 ?_
  refine th_is (w := .int (xs 1)) (congrArg (fun j => Value.int (xs j)) (by decide)) ?_
  refine th_goi (th_runV (As := [.int (xs 1)]) (rest := []) C hS.1 (RX11, TX11, 20) rfl gV_RL_172 hKx (t_X11_sure rfl FXh) hl rfl rfl rfl rfl ⟨Nat.le_of_ble_eq_true rfl, Nat.le_of_ble_eq_true rfl⟩ (Nat.le_of_ble_eq_true rfl) ⟨Nat.le_of_ble_eq_true rfl, Nat.le_of_ble_eq_true rfl⟩ dL_law_1860) (fun r5969 hq5970 => ?_)
  refine lv_aload_n hx hb dL_law_1863 rfl (lv_at hl 1 rfl) ?_
  refine lv_aload_n hx hb dL_law_1864 rfl (lv_at hl 3 rfl) ?_
  refine lv_iload_n hx hb dL_law_1865 rfl (lv_at hl 0 rfl) ?_
  refine lv_iconst (v := 1) hx hb dL_law_1866 (by decide) ?_
  refine lv_iadd hx hb dL_law_1867 ?_
  refine th_is (w := .int 1) (by decide) ?_
  refine va_sld hx hb hat.2.2.2.2.2.2.1 hat.2.2.2.2.2.2.2.1 (law_nb hat) hS.2.1 (i := 1) (by rw [hL]; exact vp_in_iff.mpr (by decide +kernel)) dL_law_1868 ?_
  refine th_is (w := .int (xs 1)) (congrArg (fun j => Value.int (xs j)) (by decide)) ?_
  refine th_goi (th_runV (As := [.int (xs 1)]) (rest := [.int r5969]) C hS.1 (RX12, TX12, 151) rfl gV_RL_176 FMh.1 (t_X12_sure rfl FMh) hl rfl rfl rfl rfl ⟨Nat.le_of_ble_eq_true rfl, Nat.le_of_ble_eq_true rfl⟩ (Nat.le_of_ble_eq_true rfl) ⟨Nat.le_of_ble_eq_true rfl, Nat.le_of_ble_eq_true rfl⟩ dL_law_1869) (fun r5971 hq5972 => ?_)
  refine th_icmp_eq (X := r5969.toInt) (Y := r5971.toInt) (tgt := 2746) hx hb dL_law_1872 (by decide) rfl rfl (fun c5973 => ?_) (fun c5973 => absurd (by omega) c5973)
  exact law_next hat hKN (Nat.le_of_eq hL) hS (lv_sub hl [0, 3] rfl) (Nat.le_of_ble_eq_true rfl) (Nat.le_of_ble_eq_true rfl)

set_option maxHeartbeats 4000000 in
set_option maxRecDepth 100000 in
theorem law_case_37 {p : Program} {l : Launch} {e : Env} {s : State} {m : MethodId} {below : List Frame} {meth : Method} {c : Code} {b L : Nat} {xs : Nat → Int32} {D : va_G} {dA : Nat → ClassId} {K : Kmap} {V : Vmap} {H : Heap} {locs : List Loc} {ls : Array Slot} {x m0 : Nat} (hat : lw_At p s m meth c b L xs) (hKN : KN D dA s) (hL : L = 8) (hS : ST D dA kNone s.heap K V H locs) (FXh : FX K V x) (FMh : FM K V m0) (hl : lv_has ls 4 [(3, .int 0), (2, .ref m0), (1, .ref x), (0, .ref b)]) : W p l e room_1 s m #[Value.ref b] below meth c H locs 163 25899 (lw_Z below #[Value.ref b] s) (F0 m 1877 ls []) := by
  have hx := hat.1; have hb := hat.2.1
  have C := law_cx hat hKN
  have hKx : K x = some (0, 10) := FX.kind FXh
  refine lv_aload_n hx hb dL_law_1877 rfl (lv_at hl 2 rfl) ?_
  refine lv_aload_n hx hb dL_law_1878 rfl (lv_at hl 3 rfl) ?_
  refine lv_iload_n hx hb dL_law_1879 rfl (lv_at hl 0 rfl) ?_
  refine lv_iconst (v := 1) hx hb dL_law_1880 (by decide) ?_
  refine lv_iadd hx hb dL_law_1881 ?_
  refine th_is (w := .int 1) (by decide) ?_
  refine va_sld hx hb hat.2.2.2.2.2.2.1 hat.2.2.2.2.2.2.2.1 (law_nb hat) hS.2.1 (i := 1) (by rw [hL]; exact vp_in_iff.mpr (by decide +kernel)) dL_law_1882 ?_
  refine th_is (w := .int (xs 1)) (congrArg (fun j => Value.int (xs j)) (by decide)) ?_
  refine lv_aload_n hx hb dL_law_1883 rfl (lv_at hl 3 rfl) ?_
  refine lv_iload_n hx hb dL_law_1884 rfl (lv_at hl 0 rfl) ?_
  refine lv_iconst (v := 2) hx hb dL_law_1885 (by decide) ?_
  refine lv_iadd hx hb dL_law_1886 ?_
  refine th_is (w := .int 2) (by decide) ?_
  refine va_sld hx hb hat.2.2.2.2.2.2.1 hat.2.2.2.2.2.2.2.1 (law_nb hat) hS.2.1 (i := 2) (by rw [hL]; exact vp_in_iff.mpr (by decide +kernel)) dL_law_1887 ?_
  refine th_is (w := .int (xs 2)) (congrArg (fun j => Value.int (xs j)) (by decide)) ?_
  refine th_goi (th_runV (As := [.int (xs 1), .int (xs 2)]) (rest := []) C hS.1 (RX11, TX11, 20) rfl gV_RL_177 hKx (t_X11_drill rfl rfl FXh) hl rfl rfl rfl rfl ⟨Nat.le_of_ble_eq_true rfl, Nat.le_of_ble_eq_true rfl⟩ (Nat.le_of_ble_eq_true rfl) ⟨Nat.le_of_ble_eq_true rfl, Nat.le_of_ble_eq_true rfl⟩ dL_law_1888) (fun r5974 hq5975 => ?_)
  refine lv_aload_n hx hb dL_law_1891 rfl (lv_at hl 1 rfl) ?_
  refine lv_aload_n hx hb dL_law_1892 rfl (lv_at hl 3 rfl) ?_
  refine lv_iload_n hx hb dL_law_1893 rfl (lv_at hl 0 rfl) ?_
  refine lv_iconst (v := 1) hx hb dL_law_1894 (by decide) ?_
  refine lv_iadd hx hb dL_law_1895 ?_
  refine th_is (w := .int 1) (by decide) ?_
  refine va_sld hx hb hat.2.2.2.2.2.2.1 hat.2.2.2.2.2.2.2.1 (law_nb hat) hS.2.1 (i := 1) (by rw [hL]; exact vp_in_iff.mpr (by decide +kernel)) dL_law_1896 ?_
  refine th_is (w := .int (xs 1)) (congrArg (fun j => Value.int (xs j)) (by decide)) ?_
  refine lv_aload_n hx hb dL_law_1897 rfl (lv_at hl 3 rfl) ?_
  refine lv_iload_n hx hb dL_law_1898 rfl (lv_at hl 0 rfl) ?_
  refine lv_iconst (v := 2) hx hb dL_law_1899 (by decide) ?_
  refine lv_iadd hx hb dL_law_1900 ?_
  refine th_is (w := .int 2) (by decide) ?_
  refine va_sld hx hb hat.2.2.2.2.2.2.1 hat.2.2.2.2.2.2.2.1 (law_nb hat) hS.2.1 (i := 2) (by rw [hL]; exact vp_in_iff.mpr (by decide +kernel)) dL_law_1901 ?_
  refine th_is (w := .int (xs 2)) (congrArg (fun j => Value.int (xs j)) (by decide)) ?_
  refine th_goi (th_runV (As := [.int (xs 1), .int (xs 2)]) (rest := [.int r5974]) C hS.1 (RX12, TX12, 151) rfl gV_RL_180 FMh.1 (t_X12_drill rfl rfl FMh) hl rfl rfl rfl rfl ⟨Nat.le_of_ble_eq_true rfl, Nat.le_of_ble_eq_true rfl⟩ (Nat.le_of_ble_eq_true rfl) ⟨Nat.le_of_ble_eq_true rfl, Nat.le_of_ble_eq_true rfl⟩ dL_law_1902) (fun r5976 hq5977 => ?_)
  refine th_icmp_eq (X := r5974.toInt) (Y := r5976.toInt) (tgt := 2746) hx hb dL_law_1905 (by decide) rfl rfl (fun c5978 => ?_) (fun c5978 => absurd (by omega) c5978)
  exact law_next hat hKN (Nat.le_of_eq hL) hS (lv_sub hl [0, 3] rfl) (Nat.le_of_ble_eq_true rfl) (Nat.le_of_ble_eq_true rfl)

set_option maxHeartbeats 4000000 in
set_option maxRecDepth 100000 in
theorem law_case_38 {p : Program} {l : Launch} {e : Env} {s : State} {m : MethodId} {below : List Frame} {meth : Method} {c : Code} {b L : Nat} {xs : Nat → Int32} {D : va_G} {dA : Nat → ClassId} {K : Kmap} {V : Vmap} {H : Heap} {locs : List Loc} {ls : Array Slot} {x m0 : Nat} (hat : lw_At p s m meth c b L xs) (hKN : KN D dA s) (hL : L = 8) (hS : ST D dA kNone s.heap K V H locs) (FXh : FX K V x) (FMh : FM K V m0) (hl : lv_has ls 4 [(3, .int 0), (2, .ref m0), (1, .ref x), (0, .ref b)]) : W p l e room_1 s m #[Value.ref b] below meth c H locs 163 25899 (lw_Z below #[Value.ref b] s) (F0 m 1910 ls []) := by
  have hx := hat.1; have hb := hat.2.1
  have C := law_cx hat hKN
  have hKx : K x = some (0, 10) := FX.kind FXh
  refine lv_aload_n hx hb dL_law_1910 rfl (lv_at hl 2 rfl) ?_
  refine lv_aload_n hx hb dL_law_1911 rfl (lv_at hl 3 rfl) ?_
  refine lv_iload_n hx hb dL_law_1912 rfl (lv_at hl 0 rfl) ?_
  refine lv_iconst (v := 1) hx hb dL_law_1913 (by decide) ?_
  refine lv_iadd hx hb dL_law_1914 ?_
  refine th_is (w := .int 1) (by decide) ?_
  refine va_sld hx hb hat.2.2.2.2.2.2.1 hat.2.2.2.2.2.2.2.1 (law_nb hat) hS.2.1 (i := 1) (by rw [hL]; exact vp_in_iff.mpr (by decide +kernel)) dL_law_1915 ?_
  refine th_is (w := .int (xs 1)) (congrArg (fun j => Value.int (xs j)) (by decide)) ?_
  refine lv_aload_n hx hb dL_law_1916 rfl (lv_at hl 3 rfl) ?_
  refine lv_iload_n hx hb dL_law_1917 rfl (lv_at hl 0 rfl) ?_
  refine lv_iconst (v := 2) hx hb dL_law_1918 (by decide) ?_
  refine lv_iadd hx hb dL_law_1919 ?_
  refine th_is (w := .int 2) (by decide) ?_
  refine va_sld hx hb hat.2.2.2.2.2.2.1 hat.2.2.2.2.2.2.2.1 (law_nb hat) hS.2.1 (i := 2) (by rw [hL]; exact vp_in_iff.mpr (by decide +kernel)) dL_law_1920 ?_
  refine th_is (w := .int (xs 2)) (congrArg (fun j => Value.int (xs j)) (by decide)) ?_
  refine th_goiH hS rfl (th_runV (As := [.int (xs 1), .int (xs 2)]) (rest := []) C hS.1 (RX11, TX11, 20) rfl gV_RL_181 hKx (t_X11_speed rfl rfl FXh) hl rfl rfl rfl rfl ⟨Nat.le_of_ble_eq_true rfl, Nat.le_of_ble_eq_true rfl⟩ (Nat.le_of_ble_eq_true rfl) ⟨Nat.le_of_ble_eq_true rfl, Nat.le_of_ble_eq_true rfl⟩ dL_law_1921) (fun r5979 K5981 V5982 H locs1 hq5980 hE5983 hS => ?_)
  obtain ⟨hF5984, hr5985⟩ := hq5980
  have FM5986 := FM.moved FMh hE5983 (hF5984 _ FMh.1)
  refine lv_aload_n hx hb dL_law_1924 rfl (lv_at hl 1 rfl) ?_
  refine lv_aload_n hx hb dL_law_1925 rfl (lv_at hl 3 rfl) ?_
  refine lv_iload_n hx hb dL_law_1926 rfl (lv_at hl 0 rfl) ?_
  refine lv_iconst (v := 1) hx hb dL_law_1927 (by decide) ?_
  refine lv_iadd hx hb dL_law_1928 ?_
  refine th_is (w := .int 1) (by decide) ?_
  refine va_sld hx hb hat.2.2.2.2.2.2.1 hat.2.2.2.2.2.2.2.1 (law_nb hat) hS.2.1 (i := 1) (by rw [hL]; exact vp_in_iff.mpr (by decide +kernel)) dL_law_1929 ?_
  refine th_is (w := .int (xs 1)) (congrArg (fun j => Value.int (xs j)) (by decide)) ?_
  refine lv_aload_n hx hb dL_law_1930 rfl (lv_at hl 3 rfl) ?_
  refine lv_iload_n hx hb dL_law_1931 rfl (lv_at hl 0 rfl) ?_
  refine lv_iconst (v := 2) hx hb dL_law_1932 (by decide) ?_
  refine lv_iadd hx hb dL_law_1933 ?_
  refine th_is (w := .int 2) (by decide) ?_
  refine va_sld hx hb hat.2.2.2.2.2.2.1 hat.2.2.2.2.2.2.2.1 (law_nb hat) hS.2.1 (i := 2) (by rw [hL]; exact vp_in_iff.mpr (by decide +kernel)) dL_law_1934 ?_
  refine th_is (w := .int (xs 2)) (congrArg (fun j => Value.int (xs j)) (by decide)) ?_
  refine th_goiH hS rfl (th_runV (As := [.int (xs 1), .int (xs 2)]) (rest := [.int r5979]) C hS.1 (RX12, TX12, 151) rfl gV_RL_184 FM5986.1 (t_X12_speed rfl rfl FM5986) hl rfl rfl rfl rfl ⟨Nat.le_of_ble_eq_true rfl, Nat.le_of_ble_eq_true rfl⟩ (Nat.le_of_ble_eq_true rfl) ⟨Nat.le_of_ble_eq_true rfl, Nat.le_of_ble_eq_true rfl⟩ dL_law_1935) (fun r5987 K5989 V5990 H locs1 hq5988 hE5991 hS => ?_)
  refine th_icmp_eq (X := r5979.toInt) (Y := r5987.toInt) (tgt := 2746) hx hb dL_law_1938 (by decide) rfl rfl (fun c5992 => ?_) (fun c5992 => absurd (by rcases hr5985 with ⟨_, b1⟩ | ⟨_, b1⟩ <;> rcases hq5988 with ⟨_, b2⟩ | ⟨_, b2⟩ <;> first | exact b1.trans b2.symm | (exfalso; omega)) c5992)
  exact law_next hat hKN (Nat.le_of_eq hL) hS (lv_sub hl [0, 3] rfl) (Nat.le_of_ble_eq_true rfl) (Nat.le_of_ble_eq_true rfl)

set_option maxHeartbeats 4000000 in
set_option maxRecDepth 100000 in
theorem law_case_39 {p : Program} {l : Launch} {e : Env} {s : State} {m : MethodId} {below : List Frame} {meth : Method} {c : Code} {b L : Nat} {xs : Nat → Int32} {D : va_G} {dA : Nat → ClassId} {K : Kmap} {V : Vmap} {H : Heap} {locs : List Loc} {ls : Array Slot} {x m0 : Nat} (hat : lw_At p s m meth c b L xs) (hKN : KN D dA s) (hL : L = 8) (hS : ST D dA kNone s.heap K V H locs) (FXh : FX K V x) (FMh : FM K V m0) (hl : lv_has ls 4 [(3, .int 0), (2, .ref m0), (1, .ref x), (0, .ref b)]) : W p l e room_1 s m #[Value.ref b] below meth c H locs 163 25899 (lw_Z below #[Value.ref b] s) (F0 m 1943 ls []) := by
  have hx := hat.1; have hb := hat.2.1
  have C := law_cx hat hKN
  have hKx : K x = some (0, 10) := FX.kind FXh
  refine lv_aload_n hx hb dL_law_1943 rfl (lv_at hl 2 rfl) ?_
  refine lv_aload_n hx hb dL_law_1944 rfl (lv_at hl 3 rfl) ?_
  refine lv_iload_n hx hb dL_law_1945 rfl (lv_at hl 0 rfl) ?_
  refine lv_iconst (v := 1) hx hb dL_law_1946 (by decide) ?_
  refine lv_iadd hx hb dL_law_1947 ?_
  refine th_is (w := .int 1) (by decide) ?_
  refine va_sld hx hb hat.2.2.2.2.2.2.1 hat.2.2.2.2.2.2.2.1 (law_nb hat) hS.2.1 (i := 1) (by rw [hL]; exact vp_in_iff.mpr (by decide +kernel)) dL_law_1948 ?_
  refine th_is (w := .int (xs 1)) (congrArg (fun j => Value.int (xs j)) (by decide)) ?_
  refine lv_aload_n hx hb dL_law_1949 rfl (lv_at hl 3 rfl) ?_
  refine lv_iload_n hx hb dL_law_1950 rfl (lv_at hl 0 rfl) ?_
  refine lv_iconst (v := 2) hx hb dL_law_1951 (by decide) ?_
  refine lv_iadd hx hb dL_law_1952 ?_
  refine th_is (w := .int 2) (by decide) ?_
  refine va_sld hx hb hat.2.2.2.2.2.2.1 hat.2.2.2.2.2.2.2.1 (law_nb hat) hS.2.1 (i := 2) (by rw [hL]; exact vp_in_iff.mpr (by decide +kernel)) dL_law_1953 ?_
  refine th_is (w := .int (xs 2)) (congrArg (fun j => Value.int (xs j)) (by decide)) ?_
  refine lv_aload_n hx hb dL_law_1954 rfl (lv_at hl 3 rfl) ?_
  refine lv_iload_n hx hb dL_law_1955 rfl (lv_at hl 0 rfl) ?_
  refine lv_iconst (v := 3) hx hb dL_law_1956 (by decide) ?_
  refine lv_iadd hx hb dL_law_1957 ?_
  refine th_is (w := .int 3) (by decide) ?_
  refine va_sld hx hb hat.2.2.2.2.2.2.1 hat.2.2.2.2.2.2.2.1 (law_nb hat) hS.2.1 (i := 3) (by rw [hL]; exact vp_in_iff.mpr (by decide +kernel)) dL_law_1958 ?_
  refine th_is (w := .int (xs 3)) (congrArg (fun j => Value.int (xs j)) (by decide)) ?_
  refine th_goi (th_runV (As := [.int (xs 1), .int (xs 2), .int (xs 3)]) (rest := []) C hS.1 (RX11, TX11, 20) rfl gV_RL_185 hKx (t_X11_birds rfl rfl rfl FXh) hl rfl rfl rfl rfl ⟨Nat.le_of_ble_eq_true rfl, Nat.le_of_ble_eq_true rfl⟩ (Nat.le_of_ble_eq_true rfl) ⟨Nat.le_of_ble_eq_true rfl, Nat.le_of_ble_eq_true rfl⟩ dL_law_1959) (fun r5993 hq5994 => ?_)
  refine lv_aload_n hx hb dL_law_1962 rfl (lv_at hl 1 rfl) ?_
  refine lv_aload_n hx hb dL_law_1963 rfl (lv_at hl 3 rfl) ?_
  refine lv_iload_n hx hb dL_law_1964 rfl (lv_at hl 0 rfl) ?_
  refine lv_iconst (v := 1) hx hb dL_law_1965 (by decide) ?_
  refine lv_iadd hx hb dL_law_1966 ?_
  refine th_is (w := .int 1) (by decide) ?_
  refine va_sld hx hb hat.2.2.2.2.2.2.1 hat.2.2.2.2.2.2.2.1 (law_nb hat) hS.2.1 (i := 1) (by rw [hL]; exact vp_in_iff.mpr (by decide +kernel)) dL_law_1967 ?_
  refine th_is (w := .int (xs 1)) (congrArg (fun j => Value.int (xs j)) (by decide)) ?_
  refine lv_aload_n hx hb dL_law_1968 rfl (lv_at hl 3 rfl) ?_
  refine lv_iload_n hx hb dL_law_1969 rfl (lv_at hl 0 rfl) ?_
  refine lv_iconst (v := 2) hx hb dL_law_1970 (by decide) ?_
  refine lv_iadd hx hb dL_law_1971 ?_
  refine th_is (w := .int 2) (by decide) ?_
  refine va_sld hx hb hat.2.2.2.2.2.2.1 hat.2.2.2.2.2.2.2.1 (law_nb hat) hS.2.1 (i := 2) (by rw [hL]; exact vp_in_iff.mpr (by decide +kernel)) dL_law_1972 ?_
  refine th_is (w := .int (xs 2)) (congrArg (fun j => Value.int (xs j)) (by decide)) ?_
  refine lv_aload_n hx hb dL_law_1973 rfl (lv_at hl 3 rfl) ?_
  refine lv_iload_n hx hb dL_law_1974 rfl (lv_at hl 0 rfl) ?_
  refine lv_iconst (v := 3) hx hb dL_law_1975 (by decide) ?_
  refine lv_iadd hx hb dL_law_1976 ?_
  refine th_is (w := .int 3) (by decide) ?_
  refine va_sld hx hb hat.2.2.2.2.2.2.1 hat.2.2.2.2.2.2.2.1 (law_nb hat) hS.2.1 (i := 3) (by rw [hL]; exact vp_in_iff.mpr (by decide +kernel)) dL_law_1977 ?_
  refine th_is (w := .int (xs 3)) (congrArg (fun j => Value.int (xs j)) (by decide)) ?_
  refine th_goi (th_runV (As := [.int (xs 1), .int (xs 2), .int (xs 3)]) (rest := [.int r5993]) C hS.1 (RX12, TX12, 151) rfl gV_RL_188 FMh.1 (t_X12_birds rfl rfl rfl FMh) hl rfl rfl rfl rfl ⟨Nat.le_of_ble_eq_true rfl, Nat.le_of_ble_eq_true rfl⟩ (Nat.le_of_ble_eq_true rfl) ⟨Nat.le_of_ble_eq_true rfl, Nat.le_of_ble_eq_true rfl⟩ dL_law_1978) (fun r5995 hq5996 => ?_)
  refine th_icmp_eq (X := r5993.toInt) (Y := r5995.toInt) (tgt := 2746) hx hb dL_law_1981 (by decide) rfl rfl (fun c5997 => ?_) (fun c5997 => absurd (by omega) c5997)
  exact law_next hat hKN (Nat.le_of_eq hL) hS (lv_sub hl [0, 3] rfl) (Nat.le_of_ble_eq_true rfl) (Nat.le_of_ble_eq_true rfl)

set_option maxHeartbeats 4000000 in
set_option maxRecDepth 100000 in
theorem law_case_40 {p : Program} {l : Launch} {e : Env} {s : State} {m : MethodId} {below : List Frame} {meth : Method} {c : Code} {b L : Nat} {xs : Nat → Int32} {D : va_G} {dA : Nat → ClassId} {K : Kmap} {V : Vmap} {H : Heap} {locs : List Loc} {ls : Array Slot} {x m0 : Nat} (hat : lw_At p s m meth c b L xs) (hKN : KN D dA s) (hL : L = 8) (hS : ST D dA kNone s.heap K V H locs) (FXh : FX K V x) (FMh : FM K V m0) (hl : lv_has ls 4 [(3, .int 0), (2, .ref m0), (1, .ref x), (0, .ref b)]) : W p l e room_1 s m #[Value.ref b] below meth c H locs 163 25899 (lw_Z below #[Value.ref b] s) (F0 m 1986 ls []) := by
  have hx := hat.1; have hb := hat.2.1
  have C := law_cx hat hKN
  have hKx : K x = some (0, 10) := FX.kind FXh
  refine lv_aload_n hx hb dL_law_1986 rfl (lv_at hl 2 rfl) ?_
  refine lv_aload_n hx hb dL_law_1987 rfl (lv_at hl 3 rfl) ?_
  refine lv_iload_n hx hb dL_law_1988 rfl (lv_at hl 0 rfl) ?_
  refine lv_iconst (v := 1) hx hb dL_law_1989 (by decide) ?_
  refine lv_iadd hx hb dL_law_1990 ?_
  refine th_is (w := .int 1) (by decide) ?_
  refine va_sld hx hb hat.2.2.2.2.2.2.1 hat.2.2.2.2.2.2.2.1 (law_nb hat) hS.2.1 (i := 1) (by rw [hL]; exact vp_in_iff.mpr (by decide +kernel)) dL_law_1991 ?_
  refine th_is (w := .int (xs 1)) (congrArg (fun j => Value.int (xs j)) (by decide)) ?_
  refine lv_aload_n hx hb dL_law_1992 rfl (lv_at hl 3 rfl) ?_
  refine lv_iload_n hx hb dL_law_1993 rfl (lv_at hl 0 rfl) ?_
  refine lv_iconst (v := 2) hx hb dL_law_1994 (by decide) ?_
  refine lv_iadd hx hb dL_law_1995 ?_
  refine th_is (w := .int 2) (by decide) ?_
  refine va_sld hx hb hat.2.2.2.2.2.2.1 hat.2.2.2.2.2.2.2.1 (law_nb hat) hS.2.1 (i := 2) (by rw [hL]; exact vp_in_iff.mpr (by decide +kernel)) dL_law_1996 ?_
  refine th_is (w := .int (xs 2)) (congrArg (fun j => Value.int (xs j)) (by decide)) ?_
  refine lv_aload_n hx hb dL_law_1997 rfl (lv_at hl 3 rfl) ?_
  refine lv_iload_n hx hb dL_law_1998 rfl (lv_at hl 0 rfl) ?_
  refine lv_iconst (v := 3) hx hb dL_law_1999 (by decide) ?_
  refine lv_iadd hx hb dL_law_2000 ?_
  refine th_is (w := .int 3) (by decide) ?_
  refine va_sld hx hb hat.2.2.2.2.2.2.1 hat.2.2.2.2.2.2.2.1 (law_nb hat) hS.2.1 (i := 3) (by rw [hL]; exact vp_in_iff.mpr (by decide +kernel)) dL_law_2001 ?_
  refine th_is (w := .int (xs 3)) (congrArg (fun j => Value.int (xs j)) (by decide)) ?_
  refine lv_aload_n hx hb dL_law_2002 rfl (lv_at hl 3 rfl) ?_
  refine lv_iload_n hx hb dL_law_2003 rfl (lv_at hl 0 rfl) ?_
  refine lv_iconst (v := 4) hx hb dL_law_2004 (by decide) ?_
  refine lv_iadd hx hb dL_law_2005 ?_
  refine th_is (w := .int 4) (by decide) ?_
  refine va_sld hx hb hat.2.2.2.2.2.2.1 hat.2.2.2.2.2.2.2.1 (law_nb hat) hS.2.1 (i := 4) (by rw [hL]; exact vp_in_iff.mpr (by decide +kernel)) dL_law_2006 ?_
  refine th_is (w := .int (xs 4)) (congrArg (fun j => Value.int (xs j)) (by decide)) ?_
  refine lv_aload_n hx hb dL_law_2007 rfl (lv_at hl 3 rfl) ?_
  refine lv_iload_n hx hb dL_law_2008 rfl (lv_at hl 0 rfl) ?_
  refine lv_iconst (v := 5) hx hb dL_law_2009 (by decide) ?_
  refine lv_iadd hx hb dL_law_2010 ?_
  refine th_is (w := .int 5) (by decide) ?_
  refine va_sld hx hb hat.2.2.2.2.2.2.1 hat.2.2.2.2.2.2.2.1 (law_nb hat) hS.2.1 (i := 5) (by rw [hL]; exact vp_in_iff.mpr (by decide +kernel)) dL_law_2011 ?_
  refine th_is (w := .int (xs 5)) (congrArg (fun j => Value.int (xs j)) (by decide)) ?_
  refine th_goi (th_runV (As := [.int (xs 1), .int (xs 2), .int (xs 3), .int (xs 4), .int (xs 5)]) (rest := []) C hS.1 (RX11, TX11, 20) rfl gV_RL_189 hKx (t_X11_loss rfl rfl rfl rfl rfl FXh) hl rfl rfl rfl rfl ⟨Nat.le_of_ble_eq_true rfl, Nat.le_of_ble_eq_true rfl⟩ (Nat.le_of_ble_eq_true rfl) ⟨Nat.le_of_ble_eq_true rfl, Nat.le_of_ble_eq_true rfl⟩ dL_law_2012) (fun r5998 hq5999 => ?_)
  refine lv_aload_n hx hb dL_law_2015 rfl (lv_at hl 1 rfl) ?_
  refine lv_aload_n hx hb dL_law_2016 rfl (lv_at hl 3 rfl) ?_
  refine lv_iload_n hx hb dL_law_2017 rfl (lv_at hl 0 rfl) ?_
  refine lv_iconst (v := 1) hx hb dL_law_2018 (by decide) ?_
  refine lv_iadd hx hb dL_law_2019 ?_
  refine th_is (w := .int 1) (by decide) ?_
  refine va_sld hx hb hat.2.2.2.2.2.2.1 hat.2.2.2.2.2.2.2.1 (law_nb hat) hS.2.1 (i := 1) (by rw [hL]; exact vp_in_iff.mpr (by decide +kernel)) dL_law_2020 ?_
  refine th_is (w := .int (xs 1)) (congrArg (fun j => Value.int (xs j)) (by decide)) ?_
  refine lv_aload_n hx hb dL_law_2021 rfl (lv_at hl 3 rfl) ?_
  refine lv_iload_n hx hb dL_law_2022 rfl (lv_at hl 0 rfl) ?_
  refine lv_iconst (v := 2) hx hb dL_law_2023 (by decide) ?_
  refine lv_iadd hx hb dL_law_2024 ?_
  refine th_is (w := .int 2) (by decide) ?_
  refine va_sld hx hb hat.2.2.2.2.2.2.1 hat.2.2.2.2.2.2.2.1 (law_nb hat) hS.2.1 (i := 2) (by rw [hL]; exact vp_in_iff.mpr (by decide +kernel)) dL_law_2025 ?_
  refine th_is (w := .int (xs 2)) (congrArg (fun j => Value.int (xs j)) (by decide)) ?_
  refine lv_aload_n hx hb dL_law_2026 rfl (lv_at hl 3 rfl) ?_
  refine lv_iload_n hx hb dL_law_2027 rfl (lv_at hl 0 rfl) ?_
  refine lv_iconst (v := 3) hx hb dL_law_2028 (by decide) ?_
  refine lv_iadd hx hb dL_law_2029 ?_
  refine th_is (w := .int 3) (by decide) ?_
  refine va_sld hx hb hat.2.2.2.2.2.2.1 hat.2.2.2.2.2.2.2.1 (law_nb hat) hS.2.1 (i := 3) (by rw [hL]; exact vp_in_iff.mpr (by decide +kernel)) dL_law_2030 ?_
  refine th_is (w := .int (xs 3)) (congrArg (fun j => Value.int (xs j)) (by decide)) ?_
  refine lv_aload_n hx hb dL_law_2031 rfl (lv_at hl 3 rfl) ?_
  refine lv_iload_n hx hb dL_law_2032 rfl (lv_at hl 0 rfl) ?_
  refine lv_iconst (v := 4) hx hb dL_law_2033 (by decide) ?_
  refine lv_iadd hx hb dL_law_2034 ?_
  refine th_is (w := .int 4) (by decide) ?_
  refine va_sld hx hb hat.2.2.2.2.2.2.1 hat.2.2.2.2.2.2.2.1 (law_nb hat) hS.2.1 (i := 4) (by rw [hL]; exact vp_in_iff.mpr (by decide +kernel)) dL_law_2035 ?_
  refine th_is (w := .int (xs 4)) (congrArg (fun j => Value.int (xs j)) (by decide)) ?_
  refine lv_aload_n hx hb dL_law_2036 rfl (lv_at hl 3 rfl) ?_
  refine lv_iload_n hx hb dL_law_2037 rfl (lv_at hl 0 rfl) ?_
  refine lv_iconst (v := 5) hx hb dL_law_2038 (by decide) ?_
  refine lv_iadd hx hb dL_law_2039 ?_
  refine th_is (w := .int 5) (by decide) ?_
  refine va_sld hx hb hat.2.2.2.2.2.2.1 hat.2.2.2.2.2.2.2.1 (law_nb hat) hS.2.1 (i := 5) (by rw [hL]; exact vp_in_iff.mpr (by decide +kernel)) dL_law_2040 ?_
  refine th_is (w := .int (xs 5)) (congrArg (fun j => Value.int (xs j)) (by decide)) ?_
  refine th_goi (th_runV (As := [.int (xs 1), .int (xs 2), .int (xs 3), .int (xs 4), .int (xs 5)]) (rest := [.int r5998]) C hS.1 (RX12, TX12, 151) rfl gV_RL_192 FMh.1 (t_X12_loss rfl rfl rfl rfl rfl FMh) hl rfl rfl rfl rfl ⟨Nat.le_of_ble_eq_true rfl, Nat.le_of_ble_eq_true rfl⟩ (Nat.le_of_ble_eq_true rfl) ⟨Nat.le_of_ble_eq_true rfl, Nat.le_of_ble_eq_true rfl⟩ dL_law_2041) (fun r6000 hq6001 => ?_)
  refine th_icmp_eq (X := r5998.toInt) (Y := r6000.toInt) (tgt := 2746) hx hb dL_law_2044 (by decide) rfl rfl (fun c6002 => ?_) (fun c6002 => absurd (by omega) c6002)
  exact law_next hat hKN (Nat.le_of_eq hL) hS (lv_sub hl [0, 3] rfl) (Nat.le_of_ble_eq_true rfl) (Nat.le_of_ble_eq_true rfl)

set_option maxHeartbeats 4000000 in
set_option maxRecDepth 100000 in
theorem law_case_41 {p : Program} {l : Launch} {e : Env} {s : State} {m : MethodId} {below : List Frame} {meth : Method} {c : Code} {b L : Nat} {xs : Nat → Int32} {D : va_G} {dA : Nat → ClassId} {K : Kmap} {V : Vmap} {H : Heap} {locs : List Loc} {ls : Array Slot} {x m0 : Nat} (hat : lw_At p s m meth c b L xs) (hKN : KN D dA s) (hL : L = 8) (hS : ST D dA kNone s.heap K V H locs) (FXh : FX K V x) (FMh : FM K V m0) (hl : lv_has ls 4 [(3, .int 0), (2, .ref m0), (1, .ref x), (0, .ref b)]) : W p l e room_1 s m #[Value.ref b] below meth c H locs 163 25899 (lw_Z below #[Value.ref b] s) (F0 m 2049 ls []) := by
  have hx := hat.1; have hb := hat.2.1
  have C := law_cx hat hKN
  have hKx : K x = some (0, 10) := FX.kind FXh
  refine lv_aload_n hx hb dL_law_2049 rfl (lv_at hl 2 rfl) ?_
  refine lv_aload_n hx hb dL_law_2050 rfl (lv_at hl 3 rfl) ?_
  refine lv_iload_n hx hb dL_law_2051 rfl (lv_at hl 0 rfl) ?_
  refine lv_iconst (v := 1) hx hb dL_law_2052 (by decide) ?_
  refine lv_iadd hx hb dL_law_2053 ?_
  refine th_is (w := .int 1) (by decide) ?_
  refine va_sld hx hb hat.2.2.2.2.2.2.1 hat.2.2.2.2.2.2.2.1 (law_nb hat) hS.2.1 (i := 1) (by rw [hL]; exact vp_in_iff.mpr (by decide +kernel)) dL_law_2054 ?_
  refine th_is (w := .int (xs 1)) (congrArg (fun j => Value.int (xs j)) (by decide)) ?_
  refine lv_aload_n hx hb dL_law_2055 rfl (lv_at hl 3 rfl) ?_
  refine lv_iload_n hx hb dL_law_2056 rfl (lv_at hl 0 rfl) ?_
  refine lv_iconst (v := 2) hx hb dL_law_2057 (by decide) ?_
  refine lv_iadd hx hb dL_law_2058 ?_
  refine th_is (w := .int 2) (by decide) ?_
  refine va_sld hx hb hat.2.2.2.2.2.2.1 hat.2.2.2.2.2.2.2.1 (law_nb hat) hS.2.1 (i := 2) (by rw [hL]; exact vp_in_iff.mpr (by decide +kernel)) dL_law_2059 ?_
  refine th_is (w := .int (xs 2)) (congrArg (fun j => Value.int (xs j)) (by decide)) ?_
  refine th_goi (th_runV (As := [.int (xs 1), .int (xs 2)]) (rest := []) C hS.1 (RX11, TX11, 20) rfl gV_RL_193 hKx (t_X11_noise rfl rfl FXh) hl rfl rfl rfl rfl ⟨Nat.le_of_ble_eq_true rfl, Nat.le_of_ble_eq_true rfl⟩ (Nat.le_of_ble_eq_true rfl) ⟨Nat.le_of_ble_eq_true rfl, Nat.le_of_ble_eq_true rfl⟩ dL_law_2060) (fun r6003 hq6004 => ?_)
  refine lv_aload_n hx hb dL_law_2063 rfl (lv_at hl 1 rfl) ?_
  refine lv_aload_n hx hb dL_law_2064 rfl (lv_at hl 3 rfl) ?_
  refine lv_iload_n hx hb dL_law_2065 rfl (lv_at hl 0 rfl) ?_
  refine lv_iconst (v := 1) hx hb dL_law_2066 (by decide) ?_
  refine lv_iadd hx hb dL_law_2067 ?_
  refine th_is (w := .int 1) (by decide) ?_
  refine va_sld hx hb hat.2.2.2.2.2.2.1 hat.2.2.2.2.2.2.2.1 (law_nb hat) hS.2.1 (i := 1) (by rw [hL]; exact vp_in_iff.mpr (by decide +kernel)) dL_law_2068 ?_
  refine th_is (w := .int (xs 1)) (congrArg (fun j => Value.int (xs j)) (by decide)) ?_
  refine lv_aload_n hx hb dL_law_2069 rfl (lv_at hl 3 rfl) ?_
  refine lv_iload_n hx hb dL_law_2070 rfl (lv_at hl 0 rfl) ?_
  refine lv_iconst (v := 2) hx hb dL_law_2071 (by decide) ?_
  refine lv_iadd hx hb dL_law_2072 ?_
  refine th_is (w := .int 2) (by decide) ?_
  refine va_sld hx hb hat.2.2.2.2.2.2.1 hat.2.2.2.2.2.2.2.1 (law_nb hat) hS.2.1 (i := 2) (by rw [hL]; exact vp_in_iff.mpr (by decide +kernel)) dL_law_2073 ?_
  refine th_is (w := .int (xs 2)) (congrArg (fun j => Value.int (xs j)) (by decide)) ?_
  refine th_goi (th_runV (As := [.int (xs 1), .int (xs 2)]) (rest := [.int r6003]) C hS.1 (RX12, TX12, 151) rfl gV_RL_196 FMh.1 (t_X12_noise rfl rfl FMh) hl rfl rfl rfl rfl ⟨Nat.le_of_ble_eq_true rfl, Nat.le_of_ble_eq_true rfl⟩ (Nat.le_of_ble_eq_true rfl) ⟨Nat.le_of_ble_eq_true rfl, Nat.le_of_ble_eq_true rfl⟩ dL_law_2074) (fun r6005 hq6006 => ?_)
  refine th_icmp_eq (X := r6003.toInt) (Y := r6005.toInt) (tgt := 2746) hx hb dL_law_2077 (by decide) rfl rfl (fun c6007 => ?_) (fun c6007 => absurd (by omega) c6007)
  exact law_next hat hKN (Nat.le_of_eq hL) hS (lv_sub hl [0, 3] rfl) (Nat.le_of_ble_eq_true rfl) (Nat.le_of_ble_eq_true rfl)

set_option maxHeartbeats 4000000 in
set_option maxRecDepth 100000 in
theorem law_case_42 {p : Program} {l : Launch} {e : Env} {s : State} {m : MethodId} {below : List Frame} {meth : Method} {c : Code} {b L : Nat} {xs : Nat → Int32} {D : va_G} {dA : Nat → ClassId} {K : Kmap} {V : Vmap} {H : Heap} {locs : List Loc} {ls : Array Slot} {x m0 : Nat} (hat : lw_At p s m meth c b L xs) (hKN : KN D dA s) (hL : L = 8) (hS : ST D dA kNone s.heap K V H locs) (FXh : FX K V x) (FMh : FM K V m0) (hl : lv_has ls 4 [(3, .int 0), (2, .ref m0), (1, .ref x), (0, .ref b)]) : W p l e room_1 s m #[Value.ref b] below meth c H locs 163 25899 (lw_Z below #[Value.ref b] s) (F0 m 2082 ls []) := by
  have hx := hat.1; have hb := hat.2.1
  have C := law_cx hat hKN
  have hKx : K x = some (0, 10) := FX.kind FXh
  refine lv_aload_n hx hb dL_law_2082 rfl (lv_at hl 2 rfl) ?_
  refine lv_aload_n hx hb dL_law_2083 rfl (lv_at hl 3 rfl) ?_
  refine lv_iload_n hx hb dL_law_2084 rfl (lv_at hl 0 rfl) ?_
  refine lv_iconst (v := 1) hx hb dL_law_2085 (by decide) ?_
  refine lv_iadd hx hb dL_law_2086 ?_
  refine th_is (w := .int 1) (by decide) ?_
  refine va_sld hx hb hat.2.2.2.2.2.2.1 hat.2.2.2.2.2.2.2.1 (law_nb hat) hS.2.1 (i := 1) (by rw [hL]; exact vp_in_iff.mpr (by decide +kernel)) dL_law_2087 ?_
  refine th_is (w := .int (xs 1)) (congrArg (fun j => Value.int (xs j)) (by decide)) ?_
  refine lv_aload_n hx hb dL_law_2088 rfl (lv_at hl 3 rfl) ?_
  refine lv_iload_n hx hb dL_law_2089 rfl (lv_at hl 0 rfl) ?_
  refine lv_iconst (v := 2) hx hb dL_law_2090 (by decide) ?_
  refine lv_iadd hx hb dL_law_2091 ?_
  refine th_is (w := .int 2) (by decide) ?_
  refine va_sld hx hb hat.2.2.2.2.2.2.1 hat.2.2.2.2.2.2.2.1 (law_nb hat) hS.2.1 (i := 2) (by rw [hL]; exact vp_in_iff.mpr (by decide +kernel)) dL_law_2092 ?_
  refine th_is (w := .int (xs 2)) (congrArg (fun j => Value.int (xs j)) (by decide)) ?_
  refine lv_aload_n hx hb dL_law_2093 rfl (lv_at hl 3 rfl) ?_
  refine lv_iload_n hx hb dL_law_2094 rfl (lv_at hl 0 rfl) ?_
  refine lv_iconst (v := 3) hx hb dL_law_2095 (by decide) ?_
  refine lv_iadd hx hb dL_law_2096 ?_
  refine th_is (w := .int 3) (by decide) ?_
  refine va_sld hx hb hat.2.2.2.2.2.2.1 hat.2.2.2.2.2.2.2.1 (law_nb hat) hS.2.1 (i := 3) (by rw [hL]; exact vp_in_iff.mpr (by decide +kernel)) dL_law_2097 ?_
  refine th_is (w := .int (xs 3)) (congrArg (fun j => Value.int (xs j)) (by decide)) ?_
  refine lv_aload_n hx hb dL_law_2098 rfl (lv_at hl 3 rfl) ?_
  refine lv_iload_n hx hb dL_law_2099 rfl (lv_at hl 0 rfl) ?_
  refine lv_iconst (v := 4) hx hb dL_law_2100 (by decide) ?_
  refine lv_iadd hx hb dL_law_2101 ?_
  refine th_is (w := .int 4) (by decide) ?_
  refine va_sld hx hb hat.2.2.2.2.2.2.1 hat.2.2.2.2.2.2.2.1 (law_nb hat) hS.2.1 (i := 4) (by rw [hL]; exact vp_in_iff.mpr (by decide +kernel)) dL_law_2102 ?_
  refine th_is (w := .int (xs 4)) (congrArg (fun j => Value.int (xs j)) (by decide)) ?_
  refine lv_aload_n hx hb dL_law_2103 rfl (lv_at hl 3 rfl) ?_
  refine lv_iload_n hx hb dL_law_2104 rfl (lv_at hl 0 rfl) ?_
  refine lv_iconst (v := 5) hx hb dL_law_2105 (by decide) ?_
  refine lv_iadd hx hb dL_law_2106 ?_
  refine th_is (w := .int 5) (by decide) ?_
  refine va_sld hx hb hat.2.2.2.2.2.2.1 hat.2.2.2.2.2.2.2.1 (law_nb hat) hS.2.1 (i := 5) (by rw [hL]; exact vp_in_iff.mpr (by decide +kernel)) dL_law_2107 ?_
  refine th_is (w := .int (xs 5)) (congrArg (fun j => Value.int (xs j)) (by decide)) ?_
  refine th_goi (th_runV (As := [.int (xs 1), .int (xs 2), .int (xs 3), .int (xs 4), .int (xs 5)]) (rest := []) C hS.1 (RX11, TX11, 20) rfl gV_RL_197 hKx (t_X11_caught rfl rfl rfl rfl rfl FXh) hl rfl rfl rfl rfl ⟨Nat.le_of_ble_eq_true rfl, Nat.le_of_ble_eq_true rfl⟩ (Nat.le_of_ble_eq_true rfl) ⟨Nat.le_of_ble_eq_true rfl, Nat.le_of_ble_eq_true rfl⟩ dL_law_2108) (fun r6008 hq6009 => ?_)
  refine lv_aload_n hx hb dL_law_2111 rfl (lv_at hl 1 rfl) ?_
  refine lv_aload_n hx hb dL_law_2112 rfl (lv_at hl 3 rfl) ?_
  refine lv_iload_n hx hb dL_law_2113 rfl (lv_at hl 0 rfl) ?_
  refine lv_iconst (v := 1) hx hb dL_law_2114 (by decide) ?_
  refine lv_iadd hx hb dL_law_2115 ?_
  refine th_is (w := .int 1) (by decide) ?_
  refine va_sld hx hb hat.2.2.2.2.2.2.1 hat.2.2.2.2.2.2.2.1 (law_nb hat) hS.2.1 (i := 1) (by rw [hL]; exact vp_in_iff.mpr (by decide +kernel)) dL_law_2116 ?_
  refine th_is (w := .int (xs 1)) (congrArg (fun j => Value.int (xs j)) (by decide)) ?_
  refine lv_aload_n hx hb dL_law_2117 rfl (lv_at hl 3 rfl) ?_
  refine lv_iload_n hx hb dL_law_2118 rfl (lv_at hl 0 rfl) ?_
  refine lv_iconst (v := 2) hx hb dL_law_2119 (by decide) ?_
  refine lv_iadd hx hb dL_law_2120 ?_
  refine th_is (w := .int 2) (by decide) ?_
  refine va_sld hx hb hat.2.2.2.2.2.2.1 hat.2.2.2.2.2.2.2.1 (law_nb hat) hS.2.1 (i := 2) (by rw [hL]; exact vp_in_iff.mpr (by decide +kernel)) dL_law_2121 ?_
  refine th_is (w := .int (xs 2)) (congrArg (fun j => Value.int (xs j)) (by decide)) ?_
  refine lv_aload_n hx hb dL_law_2122 rfl (lv_at hl 3 rfl) ?_
  refine lv_iload_n hx hb dL_law_2123 rfl (lv_at hl 0 rfl) ?_
  refine lv_iconst (v := 3) hx hb dL_law_2124 (by decide) ?_
  refine lv_iadd hx hb dL_law_2125 ?_
  refine th_is (w := .int 3) (by decide) ?_
  refine va_sld hx hb hat.2.2.2.2.2.2.1 hat.2.2.2.2.2.2.2.1 (law_nb hat) hS.2.1 (i := 3) (by rw [hL]; exact vp_in_iff.mpr (by decide +kernel)) dL_law_2126 ?_
  refine th_is (w := .int (xs 3)) (congrArg (fun j => Value.int (xs j)) (by decide)) ?_
  refine lv_aload_n hx hb dL_law_2127 rfl (lv_at hl 3 rfl) ?_
  refine lv_iload_n hx hb dL_law_2128 rfl (lv_at hl 0 rfl) ?_
  refine lv_iconst (v := 4) hx hb dL_law_2129 (by decide) ?_
  refine lv_iadd hx hb dL_law_2130 ?_
  refine th_is (w := .int 4) (by decide) ?_
  refine va_sld hx hb hat.2.2.2.2.2.2.1 hat.2.2.2.2.2.2.2.1 (law_nb hat) hS.2.1 (i := 4) (by rw [hL]; exact vp_in_iff.mpr (by decide +kernel)) dL_law_2131 ?_
  refine th_is (w := .int (xs 4)) (congrArg (fun j => Value.int (xs j)) (by decide)) ?_
  refine lv_aload_n hx hb dL_law_2132 rfl (lv_at hl 3 rfl) ?_
  refine lv_iload_n hx hb dL_law_2133 rfl (lv_at hl 0 rfl) ?_
  refine lv_iconst (v := 5) hx hb dL_law_2134 (by decide) ?_
  refine lv_iadd hx hb dL_law_2135 ?_
  refine th_is (w := .int 5) (by decide) ?_
  refine va_sld hx hb hat.2.2.2.2.2.2.1 hat.2.2.2.2.2.2.2.1 (law_nb hat) hS.2.1 (i := 5) (by rw [hL]; exact vp_in_iff.mpr (by decide +kernel)) dL_law_2136 ?_
  refine th_is (w := .int (xs 5)) (congrArg (fun j => Value.int (xs j)) (by decide)) ?_
  refine th_goi (th_runV (As := [.int (xs 1), .int (xs 2), .int (xs 3), .int (xs 4), .int (xs 5)]) (rest := [.int r6008]) C hS.1 (RX12, TX12, 151) rfl gV_RL_200 FMh.1 (t_X12_caught rfl rfl rfl rfl rfl FMh) hl rfl rfl rfl rfl ⟨Nat.le_of_ble_eq_true rfl, Nat.le_of_ble_eq_true rfl⟩ (Nat.le_of_ble_eq_true rfl) ⟨Nat.le_of_ble_eq_true rfl, Nat.le_of_ble_eq_true rfl⟩ dL_law_2137) (fun r6010 hq6011 => ?_)
  refine th_icmp_eq (X := r6008.toInt) (Y := r6010.toInt) (tgt := 2746) hx hb dL_law_2140 (by decide) rfl rfl (fun c6012 => ?_) (fun c6012 => absurd (by omega) c6012)
  exact law_next hat hKN (Nat.le_of_eq hL) hS (lv_sub hl [0, 3] rfl) (Nat.le_of_ble_eq_true rfl) (Nat.le_of_ble_eq_true rfl)

set_option maxHeartbeats 4000000 in
set_option maxRecDepth 100000 in
theorem law_case_43 {p : Program} {l : Launch} {e : Env} {s : State} {m : MethodId} {below : List Frame} {meth : Method} {c : Code} {b L : Nat} {xs : Nat → Int32} {D : va_G} {dA : Nat → ClassId} {K : Kmap} {V : Vmap} {H : Heap} {locs : List Loc} {ls : Array Slot} {x m0 : Nat} (hat : lw_At p s m meth c b L xs) (hKN : KN D dA s) (hL : L = 8) (hS : ST D dA kNone s.heap K V H locs) (FXh : FX K V x) (FMh : FM K V m0) (hl : lv_has ls 4 [(3, .int 0), (2, .ref m0), (1, .ref x), (0, .ref b)]) : W p l e room_1 s m #[Value.ref b] below meth c H locs 163 25899 (lw_Z below #[Value.ref b] s) (F0 m 2145 ls []) := by
  have hx := hat.1; have hb := hat.2.1
  have C := law_cx hat hKN
  have hKx : K x = some (0, 10) := FX.kind FXh
  refine lv_aload_n hx hb dL_law_2145 rfl (lv_at hl 2 rfl) ?_
  refine th_goi (th_runV (As := []) (rest := []) C hS.1 (RX11, TX11, 20) rfl gV_RL_201 hKx (t_X11_over FXh) hl rfl rfl rfl rfl ⟨Nat.le_of_ble_eq_true rfl, Nat.le_of_ble_eq_true rfl⟩ (Nat.le_of_ble_eq_true rfl) ⟨Nat.le_of_ble_eq_true rfl, Nat.le_of_ble_eq_true rfl⟩ dL_law_2146) (fun r6013 hq6014 => ?_)
  refine lv_aload_n hx hb dL_law_2149 rfl (lv_at hl 1 rfl) ?_
  refine th_goi (th_runV (As := []) (rest := [.int r6013]) C hS.1 (RX12, TX12, 151) rfl gV_RL_204 FMh.1 (t_X12_over FMh) hl rfl rfl rfl rfl ⟨Nat.le_of_ble_eq_true rfl, Nat.le_of_ble_eq_true rfl⟩ (Nat.le_of_ble_eq_true rfl) ⟨Nat.le_of_ble_eq_true rfl, Nat.le_of_ble_eq_true rfl⟩ dL_law_2150) (fun r6015 hq6016 => ?_)
  refine th_icmp_eq (X := r6013.toInt) (Y := r6015.toInt) (tgt := 2746) hx hb dL_law_2153 (by decide) rfl rfl (fun c6017 => ?_) (fun c6017 => absurd (by omega) c6017)
  exact law_next hat hKN (Nat.le_of_eq hL) hS (lv_sub hl [0, 3] rfl) (Nat.le_of_ble_eq_true rfl) (Nat.le_of_ble_eq_true rfl)

set_option maxHeartbeats 4000000 in
set_option maxRecDepth 100000 in
theorem law_case_44 {p : Program} {l : Launch} {e : Env} {s : State} {m : MethodId} {below : List Frame} {meth : Method} {c : Code} {b L : Nat} {xs : Nat → Int32} {D : va_G} {dA : Nat → ClassId} {K : Kmap} {V : Vmap} {H : Heap} {locs : List Loc} {ls : Array Slot} {x m0 : Nat} (hat : lw_At p s m meth c b L xs) (hKN : KN D dA s) (hL : L = 8) (hS : ST D dA kNone s.heap K V H locs) (FXh : FX K V x) (FMh : FM K V m0) (hl : lv_has ls 4 [(3, .int 0), (2, .ref m0), (1, .ref x), (0, .ref b)]) : W p l e room_1 s m #[Value.ref b] below meth c H locs 163 25899 (lw_Z below #[Value.ref b] s) (F0 m 2158 ls []) := by
  have hx := hat.1; have hb := hat.2.1
  have C := law_cx hat hKN
  have hKx : K x = some (0, 10) := FX.kind FXh
  refine lv_aload_n hx hb dL_law_2158 rfl (lv_at hl 2 rfl) ?_
  refine lv_aload_n hx hb dL_law_2159 rfl (lv_at hl 3 rfl) ?_
  refine lv_iload_n hx hb dL_law_2160 rfl (lv_at hl 0 rfl) ?_
  refine lv_iconst (v := 1) hx hb dL_law_2161 (by decide) ?_
  refine lv_iadd hx hb dL_law_2162 ?_
  refine th_is (w := .int 1) (by decide) ?_
  refine va_sld hx hb hat.2.2.2.2.2.2.1 hat.2.2.2.2.2.2.2.1 (law_nb hat) hS.2.1 (i := 1) (by rw [hL]; exact vp_in_iff.mpr (by decide +kernel)) dL_law_2163 ?_
  refine th_is (w := .int (xs 1)) (congrArg (fun j => Value.int (xs j)) (by decide)) ?_
  refine th_goi (th_runV (As := [.int (xs 1)]) (rest := []) C hS.1 (RX11, TX11, 20) rfl gV_RL_205 hKx (t_X11_doubt rfl FXh) hl rfl rfl rfl rfl ⟨Nat.le_of_ble_eq_true rfl, Nat.le_of_ble_eq_true rfl⟩ (Nat.le_of_ble_eq_true rfl) ⟨Nat.le_of_ble_eq_true rfl, Nat.le_of_ble_eq_true rfl⟩ dL_law_2164) (fun r6018 hq6019 => ?_)
  refine lv_aload_n hx hb dL_law_2167 rfl (lv_at hl 1 rfl) ?_
  refine lv_aload_n hx hb dL_law_2168 rfl (lv_at hl 3 rfl) ?_
  refine lv_iload_n hx hb dL_law_2169 rfl (lv_at hl 0 rfl) ?_
  refine lv_iconst (v := 1) hx hb dL_law_2170 (by decide) ?_
  refine lv_iadd hx hb dL_law_2171 ?_
  refine th_is (w := .int 1) (by decide) ?_
  refine va_sld hx hb hat.2.2.2.2.2.2.1 hat.2.2.2.2.2.2.2.1 (law_nb hat) hS.2.1 (i := 1) (by rw [hL]; exact vp_in_iff.mpr (by decide +kernel)) dL_law_2172 ?_
  refine th_is (w := .int (xs 1)) (congrArg (fun j => Value.int (xs j)) (by decide)) ?_
  refine th_goi (th_runV (As := [.int (xs 1)]) (rest := [.int r6018]) C hS.1 (RX12, TX12, 151) rfl gV_RL_208 FMh.1 (t_X12_doubt rfl FMh) hl rfl rfl rfl rfl ⟨Nat.le_of_ble_eq_true rfl, Nat.le_of_ble_eq_true rfl⟩ (Nat.le_of_ble_eq_true rfl) ⟨Nat.le_of_ble_eq_true rfl, Nat.le_of_ble_eq_true rfl⟩ dL_law_2173) (fun r6020 hq6021 => ?_)
  refine th_icmp_eq (X := r6018.toInt) (Y := r6020.toInt) (tgt := 2746) hx hb dL_law_2176 (by decide) rfl rfl (fun c6022 => ?_) (fun c6022 => absurd (by omega) c6022)
  exact law_next hat hKN (Nat.le_of_eq hL) hS (lv_sub hl [0, 3] rfl) (Nat.le_of_ble_eq_true rfl) (Nat.le_of_ble_eq_true rfl)

set_option maxHeartbeats 4000000 in
set_option maxRecDepth 100000 in
theorem law_case_45 {p : Program} {l : Launch} {e : Env} {s : State} {m : MethodId} {below : List Frame} {meth : Method} {c : Code} {b L : Nat} {xs : Nat → Int32} {D : va_G} {dA : Nat → ClassId} {K : Kmap} {V : Vmap} {H : Heap} {locs : List Loc} {ls : Array Slot} {x m0 : Nat} (hat : lw_At p s m meth c b L xs) (hKN : KN D dA s) (hL : L = 8) (hS : ST D dA kNone s.heap K V H locs) (FXh : FX K V x) (FMh : FM K V m0) (hl : lv_has ls 4 [(3, .int 0), (2, .ref m0), (1, .ref x), (0, .ref b)]) : W p l e room_1 s m #[Value.ref b] below meth c H locs 163 25899 (lw_Z below #[Value.ref b] s) (F0 m 2181 ls []) := by
  have hx := hat.1; have hb := hat.2.1
  have C := law_cx hat hKN
  have hKx : K x = some (0, 10) := FX.kind FXh
  refine lv_aload_n hx hb dL_law_2181 rfl (lv_at hl 2 rfl) ?_
  refine lv_aload_n hx hb dL_law_2182 rfl (lv_at hl 3 rfl) ?_
  refine lv_iload_n hx hb dL_law_2183 rfl (lv_at hl 0 rfl) ?_
  refine lv_iconst (v := 1) hx hb dL_law_2184 (by decide) ?_
  refine lv_iadd hx hb dL_law_2185 ?_
  refine th_is (w := .int 1) (by decide) ?_
  refine va_sld hx hb hat.2.2.2.2.2.2.1 hat.2.2.2.2.2.2.2.1 (law_nb hat) hS.2.1 (i := 1) (by rw [hL]; exact vp_in_iff.mpr (by decide +kernel)) dL_law_2186 ?_
  refine th_is (w := .int (xs 1)) (congrArg (fun j => Value.int (xs j)) (by decide)) ?_
  refine th_goiH hS rfl (th_runV (As := [.int (xs 1)]) (rest := []) C hS.1 (RX11, TX11, 20) rfl gV_RL_209 hKx (t_X11_word rfl FXh) hl rfl rfl rfl rfl ⟨Nat.le_of_ble_eq_true rfl, Nat.le_of_ble_eq_true rfl⟩ (Nat.le_of_ble_eq_true rfl) ⟨Nat.le_of_ble_eq_true rfl, Nat.le_of_ble_eq_true rfl⟩ dL_law_2187) (fun r6023 K6025 V6026 H locs1 hq6024 hE6027 hS => ?_)
  obtain ⟨hF6028, hr6029⟩ := hq6024
  have FM6030 := FM.moved FMh hE6027 (hF6028 _ FMh.1)
  refine lv_aload_n hx hb dL_law_2190 rfl (lv_at hl 1 rfl) ?_
  refine lv_aload_n hx hb dL_law_2191 rfl (lv_at hl 3 rfl) ?_
  refine lv_iload_n hx hb dL_law_2192 rfl (lv_at hl 0 rfl) ?_
  refine lv_iconst (v := 1) hx hb dL_law_2193 (by decide) ?_
  refine lv_iadd hx hb dL_law_2194 ?_
  refine th_is (w := .int 1) (by decide) ?_
  refine va_sld hx hb hat.2.2.2.2.2.2.1 hat.2.2.2.2.2.2.2.1 (law_nb hat) hS.2.1 (i := 1) (by rw [hL]; exact vp_in_iff.mpr (by decide +kernel)) dL_law_2195 ?_
  refine th_is (w := .int (xs 1)) (congrArg (fun j => Value.int (xs j)) (by decide)) ?_
  refine th_goiH hS rfl (th_runV (As := [.int (xs 1)]) (rest := [.int r6023]) C hS.1 (RX12, TX12, 151) rfl gV_RL_212 FM6030.1 (t_X12_word rfl FM6030) hl rfl rfl rfl rfl ⟨Nat.le_of_ble_eq_true rfl, Nat.le_of_ble_eq_true rfl⟩ (Nat.le_of_ble_eq_true rfl) ⟨Nat.le_of_ble_eq_true rfl, Nat.le_of_ble_eq_true rfl⟩ dL_law_2196) (fun r6031 K6033 V6034 H locs1 hq6032 hE6035 hS => ?_)
  refine th_icmp_eq (X := r6023.toInt) (Y := r6031.toInt) (tgt := 2746) hx hb dL_law_2199 (by decide) rfl rfl (fun c6036 => ?_) (fun c6036 => absurd (by rcases hr6029 with ⟨_, b1⟩ | ⟨_, b1⟩ <;> rcases hq6032 with ⟨_, b2⟩ | ⟨_, b2⟩ <;> first | exact b1.trans b2.symm | (exfalso; omega)) c6036)
  exact law_next hat hKN (Nat.le_of_eq hL) hS (lv_sub hl [0, 3] rfl) (Nat.le_of_ble_eq_true rfl) (Nat.le_of_ble_eq_true rfl)

set_option maxHeartbeats 4000000 in
set_option maxRecDepth 100000 in
theorem law_case_46 {p : Program} {l : Launch} {e : Env} {s : State} {m : MethodId} {below : List Frame} {meth : Method} {c : Code} {b L : Nat} {xs : Nat → Int32} {D : va_G} {dA : Nat → ClassId} {K : Kmap} {V : Vmap} {H : Heap} {locs : List Loc} {ls : Array Slot} {x m0 : Nat} (hat : lw_At p s m meth c b L xs) (hKN : KN D dA s) (hL : L = 8) (hS : ST D dA kNone s.heap K V H locs) (FXh : FX K V x) (FMh : FM K V m0) (hl : lv_has ls 4 [(3, .int 0), (2, .ref m0), (1, .ref x), (0, .ref b)]) : W p l e room_1 s m #[Value.ref b] below meth c H locs 163 25899 (lw_Z below #[Value.ref b] s) (F0 m 2204 ls []) := by
  have hx := hat.1; have hb := hat.2.1
  have C := law_cx hat hKN
  have hKx : K x = some (0, 10) := FX.kind FXh
  refine lv_aload_n hx hb dL_law_2204 rfl (lv_at hl 2 rfl) ?_
  refine lv_aload_n hx hb dL_law_2205 rfl (lv_at hl 3 rfl) ?_
  refine lv_iload_n hx hb dL_law_2206 rfl (lv_at hl 0 rfl) ?_
  refine lv_iconst (v := 1) hx hb dL_law_2207 (by decide) ?_
  refine lv_iadd hx hb dL_law_2208 ?_
  refine th_is (w := .int 1) (by decide) ?_
  refine va_sld hx hb hat.2.2.2.2.2.2.1 hat.2.2.2.2.2.2.2.1 (law_nb hat) hS.2.1 (i := 1) (by rw [hL]; exact vp_in_iff.mpr (by decide +kernel)) dL_law_2209 ?_
  refine th_is (w := .int (xs 1)) (congrArg (fun j => Value.int (xs j)) (by decide)) ?_
  refine lv_aload_n hx hb dL_law_2210 rfl (lv_at hl 3 rfl) ?_
  refine lv_iload_n hx hb dL_law_2211 rfl (lv_at hl 0 rfl) ?_
  refine lv_iconst (v := 2) hx hb dL_law_2212 (by decide) ?_
  refine lv_iadd hx hb dL_law_2213 ?_
  refine th_is (w := .int 2) (by decide) ?_
  refine va_sld hx hb hat.2.2.2.2.2.2.1 hat.2.2.2.2.2.2.2.1 (law_nb hat) hS.2.1 (i := 2) (by rw [hL]; exact vp_in_iff.mpr (by decide +kernel)) dL_law_2214 ?_
  refine th_is (w := .int (xs 2)) (congrArg (fun j => Value.int (xs j)) (by decide)) ?_
  refine lv_aload_n hx hb dL_law_2215 rfl (lv_at hl 3 rfl) ?_
  refine lv_iload_n hx hb dL_law_2216 rfl (lv_at hl 0 rfl) ?_
  refine lv_iconst (v := 3) hx hb dL_law_2217 (by decide) ?_
  refine lv_iadd hx hb dL_law_2218 ?_
  refine th_is (w := .int 3) (by decide) ?_
  refine va_sld hx hb hat.2.2.2.2.2.2.1 hat.2.2.2.2.2.2.2.1 (law_nb hat) hS.2.1 (i := 3) (by rw [hL]; exact vp_in_iff.mpr (by decide +kernel)) dL_law_2219 ?_
  refine th_is (w := .int (xs 3)) (congrArg (fun j => Value.int (xs j)) (by decide)) ?_
  refine th_goi (th_runV (As := [.int (xs 1), .int (xs 2), .int (xs 3)]) (rest := []) C hS.1 (RX11, TX11, 20) rfl gV_RL_213 hKx (t_X11_asks rfl rfl rfl FXh) hl rfl rfl rfl rfl ⟨Nat.le_of_ble_eq_true rfl, Nat.le_of_ble_eq_true rfl⟩ (Nat.le_of_ble_eq_true rfl) ⟨Nat.le_of_ble_eq_true rfl, Nat.le_of_ble_eq_true rfl⟩ dL_law_2220) (fun r6037 hq6038 => ?_)
  refine lv_aload_n hx hb dL_law_2223 rfl (lv_at hl 1 rfl) ?_
  refine lv_aload_n hx hb dL_law_2224 rfl (lv_at hl 3 rfl) ?_
  refine lv_iload_n hx hb dL_law_2225 rfl (lv_at hl 0 rfl) ?_
  refine lv_iconst (v := 1) hx hb dL_law_2226 (by decide) ?_
  refine lv_iadd hx hb dL_law_2227 ?_
  refine th_is (w := .int 1) (by decide) ?_
  refine va_sld hx hb hat.2.2.2.2.2.2.1 hat.2.2.2.2.2.2.2.1 (law_nb hat) hS.2.1 (i := 1) (by rw [hL]; exact vp_in_iff.mpr (by decide +kernel)) dL_law_2228 ?_
  refine th_is (w := .int (xs 1)) (congrArg (fun j => Value.int (xs j)) (by decide)) ?_
  refine lv_aload_n hx hb dL_law_2229 rfl (lv_at hl 3 rfl) ?_
  refine lv_iload_n hx hb dL_law_2230 rfl (lv_at hl 0 rfl) ?_
  refine lv_iconst (v := 2) hx hb dL_law_2231 (by decide) ?_
  refine lv_iadd hx hb dL_law_2232 ?_
  refine th_is (w := .int 2) (by decide) ?_
  refine va_sld hx hb hat.2.2.2.2.2.2.1 hat.2.2.2.2.2.2.2.1 (law_nb hat) hS.2.1 (i := 2) (by rw [hL]; exact vp_in_iff.mpr (by decide +kernel)) dL_law_2233 ?_
  refine th_is (w := .int (xs 2)) (congrArg (fun j => Value.int (xs j)) (by decide)) ?_
  refine lv_aload_n hx hb dL_law_2234 rfl (lv_at hl 3 rfl) ?_
  refine lv_iload_n hx hb dL_law_2235 rfl (lv_at hl 0 rfl) ?_
  refine lv_iconst (v := 3) hx hb dL_law_2236 (by decide) ?_
  refine lv_iadd hx hb dL_law_2237 ?_
  refine th_is (w := .int 3) (by decide) ?_
  refine va_sld hx hb hat.2.2.2.2.2.2.1 hat.2.2.2.2.2.2.2.1 (law_nb hat) hS.2.1 (i := 3) (by rw [hL]; exact vp_in_iff.mpr (by decide +kernel)) dL_law_2238 ?_
  refine th_is (w := .int (xs 3)) (congrArg (fun j => Value.int (xs j)) (by decide)) ?_
  refine th_goi (th_runV (As := [.int (xs 1), .int (xs 2), .int (xs 3)]) (rest := [.int r6037]) C hS.1 (RX12, TX12, 151) rfl gV_RL_216 FMh.1 (t_X12_asks rfl rfl rfl FMh) hl rfl rfl rfl rfl ⟨Nat.le_of_ble_eq_true rfl, Nat.le_of_ble_eq_true rfl⟩ (Nat.le_of_ble_eq_true rfl) ⟨Nat.le_of_ble_eq_true rfl, Nat.le_of_ble_eq_true rfl⟩ dL_law_2239) (fun r6039 hq6040 => ?_)
  refine th_icmp_eq (X := r6037.toInt) (Y := r6039.toInt) (tgt := 2746) hx hb dL_law_2242 (by decide) rfl rfl (fun c6041 => ?_) (fun c6041 => absurd (by omega) c6041)
  exact law_next hat hKN (Nat.le_of_eq hL) hS (lv_sub hl [0, 3] rfl) (Nat.le_of_ble_eq_true rfl) (Nat.le_of_ble_eq_true rfl)

set_option maxHeartbeats 4000000 in
set_option maxRecDepth 100000 in
theorem law_case_47 {p : Program} {l : Launch} {e : Env} {s : State} {m : MethodId} {below : List Frame} {meth : Method} {c : Code} {b L : Nat} {xs : Nat → Int32} {D : va_G} {dA : Nat → ClassId} {K : Kmap} {V : Vmap} {H : Heap} {locs : List Loc} {ls : Array Slot} {x m0 : Nat} (hat : lw_At p s m meth c b L xs) (hKN : KN D dA s) (hL : L = 8) (hS : ST D dA kNone s.heap K V H locs) (FXh : FX K V x) (FMh : FM K V m0) (hl : lv_has ls 4 [(3, .int 0), (2, .ref m0), (1, .ref x), (0, .ref b)]) : W p l e room_1 s m #[Value.ref b] below meth c H locs 163 25899 (lw_Z below #[Value.ref b] s) (F0 m 2247 ls []) := by
  have hx := hat.1; have hb := hat.2.1
  have C := law_cx hat hKN
  have hKx : K x = some (0, 10) := FX.kind FXh
  refine lv_aload_n hx hb dL_law_2247 rfl (lv_at hl 2 rfl) ?_
  refine lv_aload_n hx hb dL_law_2248 rfl (lv_at hl 3 rfl) ?_
  refine lv_iload_n hx hb dL_law_2249 rfl (lv_at hl 0 rfl) ?_
  refine lv_iconst (v := 1) hx hb dL_law_2250 (by decide) ?_
  refine lv_iadd hx hb dL_law_2251 ?_
  refine th_is (w := .int 1) (by decide) ?_
  refine va_sld hx hb hat.2.2.2.2.2.2.1 hat.2.2.2.2.2.2.2.1 (law_nb hat) hS.2.1 (i := 1) (by rw [hL]; exact vp_in_iff.mpr (by decide +kernel)) dL_law_2252 ?_
  refine th_is (w := .int (xs 1)) (congrArg (fun j => Value.int (xs j)) (by decide)) ?_
  refine th_goi (th_runV (As := [.int (xs 1)]) (rest := []) C hS.1 (RX11, TX11, 20) rfl gV_RL_217 hKx (t_X11_blocks rfl FXh) hl rfl rfl rfl rfl ⟨Nat.le_of_ble_eq_true rfl, Nat.le_of_ble_eq_true rfl⟩ (Nat.le_of_ble_eq_true rfl) ⟨Nat.le_of_ble_eq_true rfl, Nat.le_of_ble_eq_true rfl⟩ dL_law_2253) (fun r6042 hq6043 => ?_)
  refine lv_aload_n hx hb dL_law_2256 rfl (lv_at hl 1 rfl) ?_
  refine lv_aload_n hx hb dL_law_2257 rfl (lv_at hl 3 rfl) ?_
  refine lv_iload_n hx hb dL_law_2258 rfl (lv_at hl 0 rfl) ?_
  refine lv_iconst (v := 1) hx hb dL_law_2259 (by decide) ?_
  refine lv_iadd hx hb dL_law_2260 ?_
  refine th_is (w := .int 1) (by decide) ?_
  refine va_sld hx hb hat.2.2.2.2.2.2.1 hat.2.2.2.2.2.2.2.1 (law_nb hat) hS.2.1 (i := 1) (by rw [hL]; exact vp_in_iff.mpr (by decide +kernel)) dL_law_2261 ?_
  refine th_is (w := .int (xs 1)) (congrArg (fun j => Value.int (xs j)) (by decide)) ?_
  refine th_goi (th_runV (As := [.int (xs 1)]) (rest := [.int r6042]) C hS.1 (RX12, TX12, 151) rfl gV_RL_220 FMh.1 (t_X12_blocks rfl FMh) hl rfl rfl rfl rfl ⟨Nat.le_of_ble_eq_true rfl, Nat.le_of_ble_eq_true rfl⟩ (Nat.le_of_ble_eq_true rfl) ⟨Nat.le_of_ble_eq_true rfl, Nat.le_of_ble_eq_true rfl⟩ dL_law_2262) (fun r6044 hq6045 => ?_)
  refine th_icmp_eq (X := r6042.toInt) (Y := r6044.toInt) (tgt := 2746) hx hb dL_law_2265 (by decide) rfl rfl (fun c6046 => ?_) (fun c6046 => absurd (by rcases hq6043 with ⟨_, b1⟩ | ⟨_, b1⟩ <;> rcases hq6045 with ⟨_, b2⟩ | ⟨_, b2⟩ <;> first | exact b1.trans b2.symm | (exfalso; omega)) c6046)
  exact law_next hat hKN (Nat.le_of_eq hL) hS (lv_sub hl [0, 3] rfl) (Nat.le_of_ble_eq_true rfl) (Nat.le_of_ble_eq_true rfl)
