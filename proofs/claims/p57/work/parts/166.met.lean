def mX8_init_k31 : MRec := (RX8, cX8_init, 3, (none : Option Jvm.ClassFile.FieldType), yX8_init, 1, 21, 1, 400, 531137992816767098689588206552468627329593117727031923199444138200403559860852242739162502265229285668889329486246501015346579337652707239409519978766587351943831270835393219031728128)
def mX4_fill_t145 : MRec := (RX4, cX4_fill, 3, (none : Option Jvm.ClassFile.FieldType), yX4_fill, 0, 0, 0, 0, 169230328010303641331690318856389386196071598838855992136870091590247882556495704531248437872567112920983350278405979725889536)
set_option maxHeartbeats 1000000 in
theorem t_X8_init_k31 {K : Kmap} {V : Vmap} {x : Nat} {p0 : Int} {p1 : Int} (h_x : K x = some (0, 19)) (r_p0 : ir p0) (r_p1 : ir p1) (q_0 : p0 = 1) (q_1 : p1 = 400) : MC mX8_init_k31 K V [.ref x, ti p0, ti p1] (VX (fun K1 V1 => (K1 x = some (0, 31) ∧ vi V1 x 3 = 0) ∧ KE K K1 x)) := by
  refine MC.start 0 (by decide +kernel) rfl rfl rfl (ls0 := [some (.ref x), some (ti p0), some (ti p1)]) rfl ?_
  refine GO.aload_n dX8_init_0 rfl rfl ?_
  refine GO.objInit dX8_init_1 gw_103 gw_27 gw_28 rfl rfl ?_
  refine GO.aload_n dX8_init_4 rfl rfl ?_
  refine GO.iconst dX8_init_5 ?_
  refine GO.putRW rfl (by decide +kernel) h_x fp_raw_fp_RX8_9 rfl rfl dX8_init_6 (fun V2 e1 => ?_)
  refine GO.aload_n dX8_init_9 rfl rfl ?_
  refine GO.iload_n dX8_init_10 rfl rfl ?_
  refine GO.putRF rfl rfl (by decide +kernel) h_x fp_raw_fp_RX8_15 rfl rfl dX8_init_11 (fun V4 e3 => ?_)
  refine GO.aload_n dX8_init_14 rfl rfl ?_
  refine GO.iload_n dX8_init_15 rfl rfl ?_
  refine GO.putRF rfl rfl (by decide +kernel) h_x fp_raw_fp_RX8_18 rfl rfl dX8_init_16 (fun V6 e5 => ?_)
  refine GO.aload_n dX8_init_19 rfl rfl ?_
  refine GO.iconst dX8_init_20 ?_
  refine GO.iload_n dX8_init_21 rfl rfl ?_
  refine GO.iload_n dX8_init_22 rfl rfl ?_
  refine GO.imul dX8_init_23 ?_
  have q7 : -2147483648 ≤ p1 ∧ p1 ≤ 2147483647 := r_p1
  have q8 : -2147483648 ≤ p0 ∧ p0 ≤ 2147483647 := r_p0
  have m9 := mul_rng (a := p0) (b := p1) (A := 1) (B := 400) (by omega) (by omega) (by omega) (by omega)
  have m10 := mul_low (a := p0) (b := p1) (m := 1) (n := 400) (by omega) (by omega) (by omega) (by omega)
  refine GO.callS (N := mJ9_max_7cf53) dX8_init_24 gS_RX8_21 (t_J9_max_7cf53 (ir_c rfl) ⟨by omega, by omega⟩) rfl [.ref x] rfl rfl (Nat.le_of_ble_eq_true rfl) rfl (k_ip fun X11 r12 h13 => ?_)
  have q14 : -2147483648 ≤ X11 ∧ X11 ≤ 2147483647 := r12
  refine GO.newIT 153 400 gw_89 rfl rfl (fun _ _ => okv_df rfl rfl rfl) r12 (by omega) (by omega) rfl (Or.inr (by show _ = ((400 : Nat) : Int); omega)) rfl rfl dX8_init_27 (fun o15 K16 V22 hq17 hK18 hE19 h20 _ hV21 => ?_)
  have h23 := (by rw [hK18, updK_ne (K_old h_x hq17)]; exact h_x : K16 x = some (0, 19))
  have h24 := KE.nw KE.rf h_x hq17
  refine GO.putRF rfl rfl (by decide +kernel) h23 fp_raw_fp_RX8_27 rfl rfl dX8_init_29 (fun V26 e25 => ?_)
  refine GO.promoteT 31 rfl rfl h23 (fun j hj => ?_) (fun K27 e28 hE29 h30 => ?_)
  ·
    have hj : j < 4 := hj
    match j, hj with
    | 0, _ => exact okv_at (Eq.trans (uq_ne e25 (Or.inr (by decide))) (Eq.trans (congrFun (hV21 _ (K_old h_x hq17)) _) (Eq.trans (uq_ne e5 (Or.inr (by decide))) (uq_at e3)))) r_p0 (by omega) (by omega)
    | 1, _ => exact okv_at (Eq.trans (uq_ne e25 (Or.inr (by decide))) (Eq.trans (congrFun (hV21 _ (K_old h_x hq17)) _) (uq_at e5))) r_p1 (by omega) (by omega)
    | 2, _ => exact ⟨_, (uq_at e25), ⟨_, h20⟩⟩
    | 3, _ => exact okv_at (Eq.trans (uq_ne e25 (Or.inr (by decide))) (Eq.trans (congrFun (hV21 _ (K_old h_x hq17)) _) (Eq.trans (uq_ne e5 (Or.inr (by decide))) (Eq.trans (uq_ne e3 (Or.inr (by decide))) (uq_at e1))))) (ir_c rfl) (by omega) (by omega)
    | j + 4, hj => exact absurd hj (by omega)
  exact GO.retv rfl rfl dX8_init_32 ⟨rfl, ⟨h30, vi_at (Eq.trans (uq_ne e25 (Or.inr (by decide))) (Eq.trans (congrFun (hV21 _ (K_old h_x hq17)) _) (Eq.trans (uq_ne e5 (Or.inr (by decide))) (Eq.trans (uq_ne e3 (Or.inr (by decide))) (uq_at e1))))) (ir_c rfl)⟩, KE.promote (KE.new KE.rf hq17 hK18) e28⟩

set_option maxHeartbeats 1000000 in
theorem t_X4_fill_t145 {K : Kmap} {V : Vmap} {p0 n_p0 : Nat} {p1 : Int} (h_p0 : K p0 = some (146, n_p0)) (r_p1 : ir p1) : MC mX4_fill_t145 K V [.ref p0, ti p1] (VS K (fun V1 => (True) ∧ (FLL V V1 p0 n_p0 p1))) := by
  refine MC.start 1 (by decide +kernel) rfl rfl rfl (ls0 := [some (.ref p0), some (ti p1), none]) rfl ?_
  refine GO.aload_n dX4_fill_0 rfl rfl ?_
  refine GO.ifnonnull (tgt := 5) dX4_fill_1 (by decide) ?_
  refine GO.iconst dX4_fill_5 ?_
  refine GO.istore_n (ls1 := [some (.ref p0), some (ti p1), some (ti 0)]) dX4_fill_6 rfl rfl rfl ?_
  refine GO.loop1 (fun i1 W => 0 ≤ i1 ∧ i1 ≤ 5000 ∧ (FLI V W p0 p1 i1) ∧ True) (fun i1 => [some (.ref p0), some (ti p1), some (ti i1)]) (fun i1 W => (2147483647 - i1).toNat) 0 ⟨by omega, by omega, (by first | exact FLI.beg), trivial⟩ rfl (fun i1 Wi1 hp39 ih38 => ?_)
  obtain ⟨l_i1, u_i1, hfl, -⟩ := hp39
  have r_i1 : ir i1 := ⟨by omega, by omega⟩
  show GO mX4_fill_t145 K V (VS K (fun V1 => (True) ∧ (FLL V V1 p0 n_p0 p1))) K Wi1 0 0 7 [some (.ref p0), some (ti p1), some (ti i1)] []
  refine GO.iload_n dX4_fill_7 rfl rfl ?_
  refine GO.aload_n dX4_fill_8 rfl rfl ?_
  refine GO.alen h_p0 dX4_fill_9 (fun h40 => ?_)
  refine GO.icmp_ge (tgt := 23) dX4_fill_10 (by decide) r_i1 ⟨by omega, by omega⟩ (fun c41 => ?_) (fun c41 => ?_)
  ·
    exact GO.retv rfl rfl dX4_fill_23 ⟨rfl, rfl, ⟨trivial, FLI.end hfl (by omega)⟩⟩
  ·
    refine GO.aload_n dX4_fill_13 rfl rfl ?_
    refine GO.iload_n dX4_fill_14 rfl rfl ?_
    refine GO.iload_n dX4_fill_15 rfl rfl ?_
    refine GO.iast (t := 145) rfl rfl (by decide +kernel) h_p0 r_i1 (by omega) (by omega) r_p1 (r_p1).1 (r_p1).2 dX4_fill_16 (fun V43 e42 => ?_)
    refine GO.iinc (X := i1) (n := 1) (Y := i1 + 1) (ls1 := [some (.ref p0), some (ti p1), some (ti (i1 + 1))]) dX4_fill_17 rfl rfl rfl rfl ?_
    refine GO.goto (tgt := 7) dX4_fill_20 (by decide) ?_
    exact ih38 (i1 + 1) V43 ⟨by omega, by omega, (by first | exact FLI.beg | exact FLI.step hfl (by assumption) (by assumption) (by omega) (by omega)), trivial⟩ (by show (2147483647 - (i1 + 1)).toNat < (2147483647 - i1).toNat; omega)
