set_option maxHeartbeats 400000 in
set_option maxRecDepth 100000 in
theorem t_X11_field {l : Launch} {D : va_G} {dA : Nat → ClassId} {K : Kmap} {V : Vmap} {sz : Nat} {x : Nat} {k c : Int32} {k_i c_i : Int} (iz_k : k.toInt = k_i) (iz_c : c.toInt = c_i) (F : FX K V x) : Met l yX11_field (wsOf yX11_field cX11_field 4 (some .int)) { frames := 3, cells := 0, slots := 0, locals := 66 } (PC D dA K V sz [.ref x, .int k, .int c]) (PQi (fun r => (r.toInt = (-1)))) 0 0 noFree := by
  refine th_body (by decide +kernel) (Nat.le_of_ble_eq_true rfl) (fun pZ eZ sZ mZ belowZ methZ cZ C hR hsz hnm ls hl => ?_)
  have C : CX pZ sZ mZ [.ref x, .int k, .int c].toArray methZ cZ cX11_field 4 (some .int) RX11 D dA := C
  have hx := C.1; have hb := C.2.1
  have hl : lv_has ls 4 [(0, .ref x), (1, .int k), (2, .int c)] := hl
  subst hsz
  have hS : ST D dA K sZ.heap K V sZ.heap [] := ST.rf hR
  have r_k := th_rng k; rw [iz_k] at r_k
  have r_c := th_rng c; rw [iz_c] at r_c
  have F0 := F
  obtain ⟨la, he, gr, wa, fd, co, sd, lw, rd, se, st, pa, pl, t1, t2, t3, t4, t5, t6, c6, t7, c7, sp, su, hp0, hp1, hp2, hp3, hp4, hp5, hp6, hp7, hp8, hp9, hp10, hp11, hp12, hp13, hp14, hp15, hp16, hp17, hp18, hp19, hp20, hp21, hp22, hp23, hp24, hp25, hp26, hp27, hp28, hp29, hp30, hp31, hp32, hp33, hp34, hp35, hp36, hp37, hp38, hp39, hp40, hp41, hp42, hp43, hp44, hp45, hp46, hp47, hp48, hp49, hp50, hp51, hp52, hp53, hp54, hp55, hp56, hp57, hp58, hp59, hp60, hp61, hp62, hp63, hp64, hp65, hp66, hp67, hp68, hp69, hp70⟩ := F
  refine lv_aload_n hx hb dX11_field_0 rfl (lv_at hl 0 rfl) ?_
  refine lv_iload_n hx hb dX11_field_1 rfl (lv_at hl 1 rfl) ?_
  refine th_gor (th_runV (As := [.int k]) (rest := []) C hS.1 (RX11, TX11, 20) rfl gV_RX11_195 hp0 (t_X11_standingStation iz_k hp0 hp34) hl rfl rfl rfl rfl ⟨Nat.le_of_ble_eq_true rfl, Nat.le_of_ble_eq_true rfl⟩ (Nat.le_of_ble_eq_true rfl) ⟨Nat.le_of_ble_eq_true rfl, Nat.le_of_ble_eq_true rfl⟩ dX11_field_2) ?_
  refine lv_astore_nN (lv' := [(3, .null), (0, .ref x), (1, .int k), (2, .int c)]) hx hb dX11_field_5 rfl hl (by decide) rfl (fun ls hl => ?_)
  refine lv_aload_nN hx hb dX11_field_6 rfl (lv_at hl 0 rfl) ?_
  refine lv_ifnullN hx hb (tgt := 21) dX11_field_7 (by decide) ?_
  refine lv_iconst (v := (-1)) hx hb dX11_field_21 (by decide) ?_
  exact th_reti C (by have hfin := li_n1; omega) dX11_field_22
