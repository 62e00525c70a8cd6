set_option maxHeartbeats 4000000 in
set_option maxRecDepth 100000 in
theorem t_X12_init {l : Launch} {D : va_G} {dA : Nat → ClassId} {K : Kmap} {V : Vmap} {sz : Nat} {x : Nat} (hp0 : K x = some (0, 11)) (hZ : ∀ k, V x k = defaultValue (tyX12 k)) : Met l yX12_init (wsOf yX12_init cX12_init 2 (none : Option Jvm.ClassFile.FieldType)) { frames := 1, cells := 113, slots := 19203, locals := 23 } (PC D dA K V sz [.ref x]) (HQv D dA K (fun K1 V1 => (∀ b, K b ≠ none → b ≠ x → V1 b = V b) ∧ (FM K1 V1 x))) 113 19203 (AK K sz) := by
  refine th_body (by decide +kernel) (Nat.le_of_ble_eq_true rfl) (fun pZ eZ sZ mZ belowZ methZ cZ C hR hsz hnm ls hl => ?_)
  have C : CX pZ sZ mZ [.ref x].toArray methZ cZ cX12_init 2 (none : Option Jvm.ClassFile.FieldType) RX12 D dA := C
  have hx := C.1; have hb := C.2.1
  have hl : lv_has ls 2 [(0, .ref x)] := hl
  subst hsz
  have hS : ST D dA K sZ.heap K V sZ.heap [] := ST.rf hR
  have hMI : MI K V K V x [] [] [] := ⟨hp0, fun _ h => absurd h List.not_mem_nil, fun _ h => absurd h List.not_mem_nil, fun k _ => hZ k, fun _ _ _ => rfl, fun _ _ h => h⟩
  refine lv_aload_n hx hb dX12_init_0 rfl (lv_at hl 0 rfl) ?_
  refine W.objInit hx hb C.2.2.2.2.2.1 (C.2.2.2.2.2.2.1 _ gw_1477) (C.2.2.2.2.2.2.1 _ gw_27) (C.2.2.2.2.2.2.1 _ gw_28) rfl (by rw [C.2.2.1]; exact hl.1) rfl dX12_init_1 (Nat.le_of_ble_eq_true rfl) (Nat.le_of_ble_eq_true rfl) ?_
  refine W.eq (g2 := F0 mZ 4 ls []) rfl ?_
  refine lv_aload_n hx hb dX12_init_4 rfl (lv_at hl 0 rfl) ?_
  refine lv_bipush (v := 120) hx hb dX12_init_5 (by decide) ?_
  refine th_put C hS hMI.1 fp_RX12_7 rfl rfl dX12_init_7 (fun V4479 H locs1 hV4480 hS => ?_)
  have hMI := MI.put hMI hV4480 rfl rfl
  refine lv_aload_n hx hb dX12_init_10 rfl (lv_at hl 0 rfl) ?_
  refine lv_sipush (v := 239) hx hb dX12_init_11 (by decide) ?_
  refine th_put C hS hMI.1 fp_RX12_13 rfl rfl dX12_init_14 (fun V4481 H locs1 hV4482 hS => ?_)
  have hMI := MI.put hMI hV4482 rfl rfl
  refine lv_aload_n hx hb dX12_init_17 rfl (lv_at hl 0 rfl) ?_
  refine lv_sipush (v := 144) hx hb dX12_init_18 (by decide) ?_
  refine th_newa (atype := .int) C hS 0 (by decide) rfl gw_89 (fun _ _ h => h) (N := 144) li_144 (Nat.le_of_ble_eq_true rfl) (Nat.le_of_ble_eq_true rfl) (Nat.le_of_ble_eq_true rfl) dX12_init_21 (fun q4483 K4484 V4485 H hq4486 hK4487 hVn4488 hVo4489 hS => ?_)
  refine W.widen (k := 1) (n := 144) (Nat.le_of_ble_eq_true rfl) (Nat.le_of_ble_eq_true rfl) ?_
  refine th_putF C hS hnm (MI.kx hMI hq4486 hK4487) fp_RX12_16 rfl rfl dX12_init_23 (fun V4490 H locs1 hV4491 hS => ?_)
  have hMI := MI.newput hMI hq4486 hK4487 hVo4489 hV4491 rfl rfl
  refine lv_aload_n hx hb dX12_init_26 rfl (lv_at hl 0 rfl) ?_
  refine lv_sipush (v := 144) hx hb dX12_init_27 (by decide) ?_
  refine th_newa (atype := .int) C hS 0 (by decide) rfl gw_89 (fun _ _ h => h) (N := 144) li_144 (Nat.le_of_ble_eq_true rfl) (Nat.le_of_ble_eq_true rfl) (Nat.le_of_ble_eq_true rfl) dX12_init_30 (fun q4492 K4493 V4494 H hq4495 hK4496 hVn4497 hVo4498 hS => ?_)
  refine W.widen (k := 2) (n := 288) (Nat.le_of_ble_eq_true rfl) (Nat.le_of_ble_eq_true rfl) ?_
  refine th_putF C hS hnm (MI.kx hMI hq4495 hK4496) fp_RX12_20 rfl rfl dX12_init_32 (fun V4499 H locs1 hV4500 hS => ?_)
  have hMI := MI.newput hMI hq4495 hK4496 hVo4498 hV4500 rfl rfl
  refine lv_aload_n hx hb dX12_init_35 rfl (lv_at hl 0 rfl) ?_
  refine lv_sipush (v := 144) hx hb dX12_init_36 (by decide) ?_
  refine th_newa (atype := .int) C hS 0 (by decide) rfl gw_89 (fun _ _ h => h) (N := 144) li_144 (Nat.le_of_ble_eq_true rfl) (Nat.le_of_ble_eq_true rfl) (Nat.le_of_ble_eq_true rfl) dX12_init_39 (fun q4501 K4502 V4503 H hq4504 hK4505 hVn4506 hVo4507 hS => ?_)
  refine W.widen (k := 3) (n := 432) (Nat.le_of_ble_eq_true rfl) (Nat.le_of_ble_eq_true rfl) ?_
  refine th_putF C hS hnm (MI.kx hMI hq4504 hK4505) fp_RX12_23 rfl rfl dX12_init_41 (fun V4508 H locs1 hV4509 hS => ?_)
  have hMI := MI.newput hMI hq4504 hK4505 hVo4507 hV4509 rfl rfl
  refine lv_aload_n hx hb dX12_init_44 rfl (lv_at hl 0 rfl) ?_
  refine lv_sipush (v := 144) hx hb dX12_init_45 (by decide) ?_
  refine th_newa (atype := .int) C hS 0 (by decide) rfl gw_89 (fun _ _ h => h) (N := 144) li_144 (Nat.le_of_ble_eq_true rfl) (Nat.le_of_ble_eq_true rfl) (Nat.le_of_ble_eq_true rfl) dX12_init_48 (fun q4510 K4511 V4512 H hq4513 hK4514 hVn4515 hVo4516 hS => ?_)
  refine W.widen (k := 4) (n := 576) (Nat.le_of_ble_eq_true rfl) (Nat.le_of_ble_eq_true rfl) ?_
  refine th_putF C hS hnm (MI.kx hMI hq4513 hK4514) fp_RX12_26 rfl rfl dX12_init_50 (fun V4517 H locs1 hV4518 hS => ?_)
  have hMI := MI.newput hMI hq4513 hK4514 hVo4516 hV4518 rfl rfl
  refine lv_aload_n hx hb dX12_init_53 rfl (lv_at hl 0 rfl) ?_
  refine lv_bipush (v := 9) hx hb dX12_init_54 (by decide) ?_
  refine th_newa (atype := .int) C hS 0 (by decide) rfl gw_89 (fun _ _ h => h) (N := 9) li_9 (Nat.le_of_ble_eq_true rfl) (Nat.le_of_ble_eq_true rfl) (Nat.le_of_ble_eq_true rfl) dX12_init_56 (fun q4519 K4520 V4521 H hq4522 hK4523 hVn4524 hVo4525 hS => ?_)
  refine W.widen (k := 5) (n := 585) (Nat.le_of_ble_eq_true rfl) (Nat.le_of_ble_eq_true rfl) ?_
  refine th_putF C hS hnm (MI.kx hMI hq4522 hK4523) fp_RX12_29 rfl rfl dX12_init_58 (fun V4526 H locs1 hV4527 hS => ?_)
  have hMI := MI.newput hMI hq4522 hK4523 hVo4525 hV4527 rfl rfl
  refine lv_aload_n hx hb dX12_init_61 rfl (lv_at hl 0 rfl) ?_
  refine lv_bipush (v := 9) hx hb dX12_init_62 (by decide) ?_
  refine th_newa (atype := .int) C hS 0 (by decide) rfl gw_89 (fun _ _ h => h) (N := 9) li_9 (Nat.le_of_ble_eq_true rfl) (Nat.le_of_ble_eq_true rfl) (Nat.le_of_ble_eq_true rfl) dX12_init_64 (fun q4528 K4529 V4530 H hq4531 hK4532 hVn4533 hVo4534 hS => ?_)
  refine W.widen (k := 6) (n := 594) (Nat.le_of_ble_eq_true rfl) (Nat.le_of_ble_eq_true rfl) ?_
  refine th_putF C hS hnm (MI.kx hMI hq4531 hK4532) fp_RX12_32 rfl rfl dX12_init_66 (fun V4535 H locs1 hV4536 hS => ?_)
  have hMI := MI.newput hMI hq4531 hK4532 hVo4534 hV4536 rfl rfl
  refine lv_aload_n hx hb dX12_init_69 rfl (lv_at hl 0 rfl) ?_
  refine lv_bipush (v := 60) hx hb dX12_init_70 (by decide) ?_
  refine th_newa (atype := .int) C hS 0 (by decide) rfl gw_89 (fun _ _ h => h) (N := 60) li_60 (Nat.le_of_ble_eq_true rfl) (Nat.le_of_ble_eq_true rfl) (Nat.le_of_ble_eq_true rfl) dX12_init_72 (fun q4537 K4538 V4539 H hq4540 hK4541 hVn4542 hVo4543 hS => ?_)
  refine W.widen (k := 7) (n := 654) (Nat.le_of_ble_eq_true rfl) (Nat.le_of_ble_eq_true rfl) ?_
  refine th_putF C hS hnm (MI.kx hMI hq4540 hK4541) fp_RX12_35 rfl rfl dX12_init_74 (fun V4544 H locs1 hV4545 hS => ?_)
  have hMI := MI.newput hMI hq4540 hK4541 hVo4543 hV4545 rfl rfl
  refine lv_aload_n hx hb dX12_init_77 rfl (lv_at hl 0 rfl) ?_
  refine lv_bipush (v := 60) hx hb dX12_init_78 (by decide) ?_
  refine th_newa (atype := .int) C hS 0 (by decide) rfl gw_89 (fun _ _ h => h) (N := 60) li_60 (Nat.le_of_ble_eq_true rfl) (Nat.le_of_ble_eq_true rfl) (Nat.le_of_ble_eq_true rfl) dX12_init_80 (fun q4546 K4547 V4548 H hq4549 hK4550 hVn4551 hVo4552 hS => ?_)
  refine W.widen (k := 8) (n := 714) (Nat.le_of_ble_eq_true rfl) (Nat.le_of_ble_eq_true rfl) ?_
  refine th_putF C hS hnm (MI.kx hMI hq4549 hK4550) fp_RX12_38 rfl rfl dX12_init_82 (fun V4553 H locs1 hV4554 hS => ?_)
  have hMI := MI.newput hMI hq4549 hK4550 hVo4552 hV4554 rfl rfl
  refine lv_aload_n hx hb dX12_init_85 rfl (lv_at hl 0 rfl) ?_
  refine lv_bipush (v := 60) hx hb dX12_init_86 (by decide) ?_
  refine th_newa (atype := .int) C hS 0 (by decide) rfl gw_89 (fun _ _ h => h) (N := 60) li_60 (Nat.le_of_ble_eq_true rfl) (Nat.le_of_ble_eq_true rfl) (Nat.le_of_ble_eq_true rfl) dX12_init_88 (fun q4555 K4556 V4557 H hq4558 hK4559 hVn4560 hVo4561 hS => ?_)
  refine W.widen (k := 9) (n := 774) (Nat.le_of_ble_eq_true rfl) (Nat.le_of_ble_eq_true rfl) ?_
  refine th_putF C hS hnm (MI.kx hMI hq4558 hK4559) fp_RX12_41 rfl rfl dX12_init_90 (fun V4562 H locs1 hV4563 hS => ?_)
  have hMI := MI.newput hMI hq4558 hK4559 hVo4561 hV4563 rfl rfl
  refine lv_aload_n hx hb dX12_init_93 rfl (lv_at hl 0 rfl) ?_
  refine lv_bipush (v := 60) hx hb dX12_init_94 (by decide) ?_
  refine th_newa (atype := .int) C hS 0 (by decide) rfl gw_89 (fun _ _ h => h) (N := 60) li_60 (Nat.le_of_ble_eq_true rfl) (Nat.le_of_ble_eq_true rfl) (Nat.le_of_ble_eq_true rfl) dX12_init_96 (fun q4564 K4565 V4566 H hq4567 hK4568 hVn4569 hVo4570 hS => ?_)
  refine W.widen (k := 10) (n := 834) (Nat.le_of_ble_eq_true rfl) (Nat.le_of_ble_eq_true rfl) ?_
  refine th_putF C hS hnm (MI.kx hMI hq4567 hK4568) fp_RX12_44 rfl rfl dX12_init_98 (fun V4571 H locs1 hV4572 hS => ?_)
  have hMI := MI.newput hMI hq4567 hK4568 hVo4570 hV4572 rfl rfl
  refine lv_aload_n hx hb dX12_init_101 rfl (lv_at hl 0 rfl) ?_
  refine lv_bipush (v := 60) hx hb dX12_init_102 (by decide) ?_
  refine th_newa (atype := .int) C hS 0 (by decide) rfl gw_89 (fun _ _ h => h) (N := 60) li_60 (Nat.le_of_ble_eq_true rfl) (Nat.le_of_ble_eq_true rfl) (Nat.le_of_ble_eq_true rfl) dX12_init_104 (fun q4573 K4574 V4575 H hq4576 hK4577 hVn4578 hVo4579 hS => ?_)
  refine W.widen (k := 11) (n := 894) (Nat.le_of_ble_eq_true rfl) (Nat.le_of_ble_eq_true rfl) ?_
  refine th_putF C hS hnm (MI.kx hMI hq4576 hK4577) fp_RX12_47 rfl rfl dX12_init_106 (fun V4580 H locs1 hV4581 hS => ?_)
  have hMI := MI.newput hMI hq4576 hK4577 hVo4579 hV4581 rfl rfl
  refine lv_aload_n hx hb dX12_init_109 rfl (lv_at hl 0 rfl) ?_
  refine lv_bipush (v := 60) hx hb dX12_init_110 (by decide) ?_
  refine th_newa (atype := .int) C hS 0 (by decide) rfl gw_89 (fun _ _ h => h) (N := 60) li_60 (Nat.le_of_ble_eq_true rfl) (Nat.le_of_ble_eq_true rfl) (Nat.le_of_ble_eq_true rfl) dX12_init_112 (fun q4582 K4583 V4584 H hq4585 hK4586 hVn4587 hVo4588 hS => ?_)
  refine W.widen (k := 12) (n := 954) (Nat.le_of_ble_eq_true rfl) (Nat.le_of_ble_eq_true rfl) ?_
  refine th_putF C hS hnm (MI.kx hMI hq4585 hK4586) fp_RX12_50 rfl rfl dX12_init_114 (fun V4589 H locs1 hV4590 hS => ?_)
  have hMI := MI.newput hMI hq4585 hK4586 hVo4588 hV4590 rfl rfl
  refine lv_aload_n hx hb dX12_init_117 rfl (lv_at hl 0 rfl) ?_
  refine lv_bipush (v := 60) hx hb dX12_init_118 (by decide) ?_
  refine th_newa (atype := .int) C hS 0 (by decide) rfl gw_89 (fun _ _ h => h) (N := 60) li_60 (Nat.le_of_ble_eq_true rfl) (Nat.le_of_ble_eq_true rfl) (Nat.le_of_ble_eq_true rfl) dX12_init_120 (fun q4591 K4592 V4593 H hq4594 hK4595 hVn4596 hVo4597 hS => ?_)
  refine W.widen (k := 13) (n := 1014) (Nat.le_of_ble_eq_true rfl) (Nat.le_of_ble_eq_true rfl) ?_
  refine th_putF C hS hnm (MI.kx hMI hq4594 hK4595) fp_RX12_53 rfl rfl dX12_init_122 (fun V4598 H locs1 hV4599 hS => ?_)
  have hMI := MI.newput hMI hq4594 hK4595 hVo4597 hV4599 rfl rfl
  refine lv_aload_n hx hb dX12_init_125 rfl (lv_at hl 0 rfl) ?_
  refine lv_bipush (v := 60) hx hb dX12_init_126 (by decide) ?_
  refine th_newa (atype := .int) C hS 0 (by decide) rfl gw_89 (fun _ _ h => h) (N := 60) li_60 (Nat.le_of_ble_eq_true rfl) (Nat.le_of_ble_eq_true rfl) (Nat.le_of_ble_eq_true rfl) dX12_init_128 (fun q4600 K4601 V4602 H hq4603 hK4604 hVn4605 hVo4606 hS => ?_)
  refine W.widen (k := 14) (n := 1074) (Nat.le_of_ble_eq_true rfl) (Nat.le_of_ble_eq_true rfl) ?_
  refine th_putF C hS hnm (MI.kx hMI hq4603 hK4604) fp_RX12_56 rfl rfl dX12_init_130 (fun V4607 H locs1 hV4608 hS => ?_)
  have hMI := MI.newput hMI hq4603 hK4604 hVo4606 hV4608 rfl rfl
  refine lv_aload_n hx hb dX12_init_133 rfl (lv_at hl 0 rfl) ?_
  refine lv_bipush (v := 60) hx hb dX12_init_134 (by decide) ?_
  refine th_newa (atype := .int) C hS 0 (by decide) rfl gw_89 (fun _ _ h => h) (N := 60) li_60 (Nat.le_of_ble_eq_true rfl) (Nat.le_of_ble_eq_true rfl) (Nat.le_of_ble_eq_true rfl) dX12_init_136 (fun q4609 K4610 V4611 H hq4612 hK4613 hVn4614 hVo4615 hS => ?_)
  refine W.widen (k := 15) (n := 1134) (Nat.le_of_ble_eq_true rfl) (Nat.le_of_ble_eq_true rfl) ?_
  refine th_putF C hS hnm (MI.kx hMI hq4612 hK4613) fp_RX12_59 rfl rfl dX12_init_138 (fun V4616 H locs1 hV4617 hS => ?_)
  have hMI := MI.newput hMI hq4612 hK4613 hVo4615 hV4617 rfl rfl
  refine lv_aload_n hx hb dX12_init_141 rfl (lv_at hl 0 rfl) ?_
  refine lv_bipush (v := 60) hx hb dX12_init_142 (by decide) ?_
  refine th_newa (atype := .int) C hS 0 (by decide) rfl gw_89 (fun _ _ h => h) (N := 60) li_60 (Nat.le_of_ble_eq_true rfl) (Nat.le_of_ble_eq_true rfl) (Nat.le_of_ble_eq_true rfl) dX12_init_144 (fun q4618 K4619 V4620 H hq4621 hK4622 hVn4623 hVo4624 hS => ?_)
  refine W.widen (k := 16) (n := 1194) (Nat.le_of_ble_eq_true rfl) (Nat.le_of_ble_eq_true rfl) ?_
  refine th_putF C hS hnm (MI.kx hMI hq4621 hK4622) fp_RX12_62 rfl rfl dX12_init_146 (fun V4625 H locs1 hV4626 hS => ?_)
  have hMI := MI.newput hMI hq4621 hK4622 hVo4624 hV4626 rfl rfl
  refine lv_aload_n hx hb dX12_init_149 rfl (lv_at hl 0 rfl) ?_
  refine lv_sipush (v := 240) hx hb dX12_init_150 (by decide) ?_
  refine th_newa (atype := .int) C hS 0 (by decide) rfl gw_89 (fun _ _ h => h) (N := 240) li_240 (Nat.le_of_ble_eq_true rfl) (Nat.le_of_ble_eq_true rfl) (Nat.le_of_ble_eq_true rfl) dX12_init_153 (fun q4627 K4628 V4629 H hq4630 hK4631 hVn4632 hVo4633 hS => ?_)
  refine W.widen (k := 17) (n := 1434) (Nat.le_of_ble_eq_true rfl) (Nat.le_of_ble_eq_true rfl) ?_
  refine th_putF C hS hnm (MI.kx hMI hq4630 hK4631) fp_RX12_65 rfl rfl dX12_init_155 (fun V4634 H locs1 hV4635 hS => ?_)
  have hMI := MI.newput hMI hq4630 hK4631 hVo4633 hV4635 rfl rfl
  refine lv_aload_n hx hb dX12_init_158 rfl (lv_at hl 0 rfl) ?_
  refine lv_bipush (v := 60) hx hb dX12_init_159 (by decide) ?_
  refine th_newa (atype := .int) C hS 0 (by decide) rfl gw_89 (fun _ _ h => h) (N := 60) li_60 (Nat.le_of_ble_eq_true rfl) (Nat.le_of_ble_eq_true rfl) (Nat.le_of_ble_eq_true rfl) dX12_init_161 (fun q4636 K4637 V4638 H hq4639 hK4640 hVn4641 hVo4642 hS => ?_)
  refine W.widen (k := 18) (n := 1494) (Nat.le_of_ble_eq_true rfl) (Nat.le_of_ble_eq_true rfl) ?_
  refine th_putF C hS hnm (MI.kx hMI hq4639 hK4640) fp_RX12_68 rfl rfl dX12_init_163 (fun V4643 H locs1 hV4644 hS => ?_)
  have hMI := MI.newput hMI hq4639 hK4640 hVo4642 hV4644 rfl rfl
  refine lv_aload_n hx hb dX12_init_166 rfl (lv_at hl 0 rfl) ?_
  refine lv_bipush (v := 60) hx hb dX12_init_167 (by decide) ?_
  refine th_newa (atype := .int) C hS 0 (by decide) rfl gw_89 (fun _ _ h => h) (N := 60) li_60 (Nat.le_of_ble_eq_true rfl) (Nat.le_of_ble_eq_true rfl) (Nat.le_of_ble_eq_true rfl) dX12_init_169 (fun q4645 K4646 V4647 H hq4648 hK4649 hVn4650 hVo4651 hS => ?_)
  refine W.widen (k := 19) (n := 1554) (Nat.le_of_ble_eq_true rfl) (Nat.le_of_ble_eq_true rfl) ?_
  refine th_putF C hS hnm (MI.kx hMI hq4648 hK4649) fp_RX12_71 rfl rfl dX12_init_171 (fun V4652 H locs1 hV4653 hS => ?_)
  have hMI := MI.newput hMI hq4648 hK4649 hVo4651 hV4653 rfl rfl
  refine lv_aload_n hx hb dX12_init_174 rfl (lv_at hl 0 rfl) ?_
  refine lv_sipush (v := 600) hx hb dX12_init_175 (by decide) ?_
  refine th_newa (atype := .int) C hS 0 (by decide) rfl gw_89 (fun _ _ h => h) (N := 600) li_600 (Nat.le_of_ble_eq_true rfl) (Nat.le_of_ble_eq_true rfl) (Nat.le_of_ble_eq_true rfl) dX12_init_178 (fun q4654 K4655 V4656 H hq4657 hK4658 hVn4659 hVo4660 hS => ?_)
  refine W.widen (k := 20) (n := 2154) (Nat.le_of_ble_eq_true rfl) (Nat.le_of_ble_eq_true rfl) ?_
  refine th_putF C hS hnm (MI.kx hMI hq4657 hK4658) fp_RX12_74 rfl rfl dX12_init_180 (fun V4661 H locs1 hV4662 hS => ?_)
  have hMI := MI.newput hMI hq4657 hK4658 hVo4660 hV4662 rfl rfl
  refine lv_aload_n hx hb dX12_init_183 rfl (lv_at hl 0 rfl) ?_
  refine lv_sipush (v := 600) hx hb dX12_init_184 (by decide) ?_
  refine th_newa (atype := .int) C hS 0 (by decide) rfl gw_89 (fun _ _ h => h) (N := 600) li_600 (Nat.le_of_ble_eq_true rfl) (Nat.le_of_ble_eq_true rfl) (Nat.le_of_ble_eq_true rfl) dX12_init_187 (fun q4663 K4664 V4665 H hq4666 hK4667 hVn4668 hVo4669 hS => ?_)
  refine W.widen (k := 21) (n := 2754) (Nat.le_of_ble_eq_true rfl) (Nat.le_of_ble_eq_true rfl) ?_
  refine th_putF C hS hnm (MI.kx hMI hq4666 hK4667) fp_RX12_77 rfl rfl dX12_init_189 (fun V4670 H locs1 hV4671 hS => ?_)
  have hMI := MI.newput hMI hq4666 hK4667 hVo4669 hV4671 rfl rfl
  refine lv_aload_n hx hb dX12_init_192 rfl (lv_at hl 0 rfl) ?_
  refine lv_bipush (v := 60) hx hb dX12_init_193 (by decide) ?_
  refine th_newa (atype := .boolean) C hS 3 (by decide) rfl gw_1936 (fun _ _ h => h) (N := 60) li_60 (Nat.le_of_ble_eq_true rfl) (Nat.le_of_ble_eq_true rfl) (Nat.le_of_ble_eq_true rfl) dX12_init_195 (fun q4672 K4673 V4674 H hq4675 hK4676 hVn4677 hVo4678 hS => ?_)
  refine W.widen (k := 22) (n := 2814) (Nat.le_of_ble_eq_true rfl) (Nat.le_of_ble_eq_true rfl) ?_
  refine th_putF C hS hnm (MI.kx hMI hq4675 hK4676) fp_RX12_80 rfl rfl dX12_init_197 (fun V4679 H locs1 hV4680 hS => ?_)
  have hMI := MI.newput hMI hq4675 hK4676 hVo4678 hV4680 rfl rfl
  refine lv_aload_n hx hb dX12_init_200 rfl (lv_at hl 0 rfl) ?_
  refine lv_sipush (v := 400) hx hb dX12_init_201 (by decide) ?_
  refine th_newa (atype := .byte) C hS 2 (by decide) rfl gw_815 (fun _ _ h => h) (N := 400) li_400 (Nat.le_of_ble_eq_true rfl) (Nat.le_of_ble_eq_true rfl) (Nat.le_of_ble_eq_true rfl) dX12_init_204 (fun q4681 K4682 V4683 H hq4684 hK4685 hVn4686 hVo4687 hS => ?_)
  refine W.widen (k := 23) (n := 3214) (Nat.le_of_ble_eq_true rfl) (Nat.le_of_ble_eq_true rfl) ?_
  refine th_putF C hS hnm (MI.kx hMI hq4684 hK4685) fp_RX12_84 rfl rfl dX12_init_206 (fun V4688 H locs1 hV4689 hS => ?_)
  have hMI := MI.newput hMI hq4684 hK4685 hVo4687 hV4689 rfl rfl
  refine lv_aload_n hx hb dX12_init_209 rfl (lv_at hl 0 rfl) ?_
  refine lv_sipush (v := 220) hx hb dX12_init_210 (by decide) ?_
  refine th_newa (atype := .int) C hS 0 (by decide) rfl gw_89 (fun _ _ h => h) (N := 220) li_220 (Nat.le_of_ble_eq_true rfl) (Nat.le_of_ble_eq_true rfl) (Nat.le_of_ble_eq_true rfl) dX12_init_213 (fun q4690 K4691 V4692 H hq4693 hK4694 hVn4695 hVo4696 hS => ?_)
  refine W.widen (k := 24) (n := 3434) (Nat.le_of_ble_eq_true rfl) (Nat.le_of_ble_eq_true rfl) ?_
  refine th_putF C hS hnm (MI.kx hMI hq4693 hK4694) fp_RX12_88 rfl rfl dX12_init_215 (fun V4697 H locs1 hV4698 hS => ?_)
  have hMI := MI.newput hMI hq4693 hK4694 hVo4696 hV4698 rfl rfl
  refine lv_aload_n hx hb dX12_init_218 rfl (lv_at hl 0 rfl) ?_
  refine lv_sipush (v := 220) hx hb dX12_init_219 (by decide) ?_
  refine th_newa (atype := .int) C hS 0 (by decide) rfl gw_89 (fun _ _ h => h) (N := 220) li_220 (Nat.le_of_ble_eq_true rfl) (Nat.le_of_ble_eq_true rfl) (Nat.le_of_ble_eq_true rfl) dX12_init_222 (fun q4699 K4700 V4701 H hq4702 hK4703 hVn4704 hVo4705 hS => ?_)
  refine W.widen (k := 25) (n := 3654) (Nat.le_of_ble_eq_true rfl) (Nat.le_of_ble_eq_true rfl) ?_
  refine th_putF C hS hnm (MI.kx hMI hq4702 hK4703) fp_RX12_91 rfl rfl dX12_init_224 (fun V4706 H locs1 hV4707 hS => ?_)
  have hMI := MI.newput hMI hq4702 hK4703 hVo4705 hV4707 rfl rfl
  refine lv_aload_n hx hb dX12_init_227 rfl (lv_at hl 0 rfl) ?_
  refine lv_bipush (v := 12) hx hb dX12_init_228 (by decide) ?_
  refine th_newa (atype := .int) C hS 0 (by decide) rfl gw_89 (fun _ _ h => h) (N := 12) li_12 (Nat.le_of_ble_eq_true rfl) (Nat.le_of_ble_eq_true rfl) (Nat.le_of_ble_eq_true rfl) dX12_init_230 (fun q4708 K4709 V4710 H hq4711 hK4712 hVn4713 hVo4714 hS => ?_)
  refine W.widen (k := 26) (n := 3666) (Nat.le_of_ble_eq_true rfl) (Nat.le_of_ble_eq_true rfl) ?_
  refine th_putF C hS hnm (MI.kx hMI hq4711 hK4712) fp_RX12_94 rfl rfl dX12_init_232 (fun V4715 H locs1 hV4716 hS => ?_)
  have hMI := MI.newput hMI hq4711 hK4712 hVo4714 hV4716 rfl rfl
  refine lv_aload_n hx hb dX12_init_235 rfl (lv_at hl 0 rfl) ?_
  refine lv_bipush (v := 12) hx hb dX12_init_236 (by decide) ?_
  refine th_newa (atype := .int) C hS 0 (by decide) rfl gw_89 (fun _ _ h => h) (N := 12) li_12 (Nat.le_of_ble_eq_true rfl) (Nat.le_of_ble_eq_true rfl) (Nat.le_of_ble_eq_true rfl) dX12_init_238 (fun q4717 K4718 V4719 H hq4720 hK4721 hVn4722 hVo4723 hS => ?_)
  refine W.widen (k := 27) (n := 3678) (Nat.le_of_ble_eq_true rfl) (Nat.le_of_ble_eq_true rfl) ?_
  refine th_putF C hS hnm (MI.kx hMI hq4720 hK4721) fp_RX12_97 rfl rfl dX12_init_240 (fun V4724 H locs1 hV4725 hS => ?_)
  have hMI := MI.newput hMI hq4720 hK4721 hVo4723 hV4725 rfl rfl
  refine lv_aload_n hx hb dX12_init_243 rfl (lv_at hl 0 rfl) ?_
  refine lv_bipush (v := 12) hx hb dX12_init_244 (by decide) ?_
  refine th_newa (atype := .int) C hS 0 (by decide) rfl gw_89 (fun _ _ h => h) (N := 12) li_12 (Nat.le_of_ble_eq_true rfl) (Nat.le_of_ble_eq_true rfl) (Nat.le_of_ble_eq_true rfl) dX12_init_246 (fun q4726 K4727 V4728 H hq4729 hK4730 hVn4731 hVo4732 hS => ?_)
  refine W.widen (k := 28) (n := 3690) (Nat.le_of_ble_eq_true rfl) (Nat.le_of_ble_eq_true rfl) ?_
  refine th_putF C hS hnm (MI.kx hMI hq4729 hK4730) fp_RX12_100 rfl rfl dX12_init_248 (fun V4733 H locs1 hV4734 hS => ?_)
  have hMI := MI.newput hMI hq4729 hK4730 hVo4732 hV4734 rfl rfl
  refine lv_aload_n hx hb dX12_init_251 rfl (lv_at hl 0 rfl) ?_
  refine lv_bipush (v := 12) hx hb dX12_init_252 (by decide) ?_
  refine th_newa (atype := .int) C hS 0 (by decide) rfl gw_89 (fun _ _ h => h) (N := 12) li_12 (Nat.le_of_ble_eq_true rfl) (Nat.le_of_ble_eq_true rfl) (Nat.le_of_ble_eq_true rfl) dX12_init_254 (fun q4735 K4736 V4737 H hq4738 hK4739 hVn4740 hVo4741 hS => ?_)
  refine W.widen (k := 29) (n := 3702) (Nat.le_of_ble_eq_true rfl) (Nat.le_of_ble_eq_true rfl) ?_
  refine th_putF C hS hnm (MI.kx hMI hq4738 hK4739) fp_RX12_103 rfl rfl dX12_init_256 (fun V4742 H locs1 hV4743 hS => ?_)
  have hMI := MI.newput hMI hq4738 hK4739 hVo4741 hV4743 rfl rfl
  refine lv_aload_n hx hb dX12_init_259 rfl (lv_at hl 0 rfl) ?_
  refine lv_bipush (v := 12) hx hb dX12_init_260 (by decide) ?_
  refine th_newa (atype := .int) C hS 0 (by decide) rfl gw_89 (fun _ _ h => h) (N := 12) li_12 (Nat.le_of_ble_eq_true rfl) (Nat.le_of_ble_eq_true rfl) (Nat.le_of_ble_eq_true rfl) dX12_init_262 (fun q4744 K4745 V4746 H hq4747 hK4748 hVn4749 hVo4750 hS => ?_)
  refine W.widen (k := 30) (n := 3714) (Nat.le_of_ble_eq_true rfl) (Nat.le_of_ble_eq_true rfl) ?_
  refine th_putF C hS hnm (MI.kx hMI hq4747 hK4748) fp_RX12_106 rfl rfl dX12_init_264 (fun V4751 H locs1 hV4752 hS => ?_)
  have hMI := MI.newput hMI hq4747 hK4748 hVo4750 hV4752 rfl rfl
  refine lv_aload_n hx hb dX12_init_267 rfl (lv_at hl 0 rfl) ?_
  refine lv_bipush (v := 12) hx hb dX12_init_268 (by decide) ?_
  refine th_newa (atype := .int) C hS 0 (by decide) rfl gw_89 (fun _ _ h => h) (N := 12) li_12 (Nat.le_of_ble_eq_true rfl) (Nat.le_of_ble_eq_true rfl) (Nat.le_of_ble_eq_true rfl) dX12_init_270 (fun q4753 K4754 V4755 H hq4756 hK4757 hVn4758 hVo4759 hS => ?_)
  refine W.widen (k := 31) (n := 3726) (Nat.le_of_ble_eq_true rfl) (Nat.le_of_ble_eq_true rfl) ?_
  refine th_putF C hS hnm (MI.kx hMI hq4756 hK4757) fp_RX12_109 rfl rfl dX12_init_272 (fun V4760 H locs1 hV4761 hS => ?_)
  have hMI := MI.newput hMI hq4756 hK4757 hVo4759 hV4761 rfl rfl
  refine lv_aload_n hx hb dX12_init_275 rfl (lv_at hl 0 rfl) ?_
  refine lv_sipush (v := 4400) hx hb dX12_init_276 (by decide) ?_
  refine th_newa (atype := .int) C hS 0 (by decide) rfl gw_89 (fun _ _ h => h) (N := 4400) li_4400 (Nat.le_of_ble_eq_true rfl) (Nat.le_of_ble_eq_true rfl) (Nat.le_of_ble_eq_true rfl) dX12_init_279 (fun q4762 K4763 V4764 H hq4765 hK4766 hVn4767 hVo4768 hS => ?_)
  refine W.widen (k := 32) (n := 8126) (Nat.le_of_ble_eq_true rfl) (Nat.le_of_ble_eq_true rfl) ?_
  refine th_putF C hS hnm (MI.kx hMI hq4765 hK4766) fp_RX12_112 rfl rfl dX12_init_281 (fun V4769 H locs1 hV4770 hS => ?_)
  have hMI := MI.newput hMI hq4765 hK4766 hVo4768 hV4770 rfl rfl
  refine lv_aload_n hx hb dX12_init_284 rfl (lv_at hl 0 rfl) ?_
  refine lv_bipush (v := 20) hx hb dX12_init_285 (by decide) ?_
  refine th_newa (atype := .int) C hS 0 (by decide) rfl gw_89 (fun _ _ h => h) (N := 20) li_20 (Nat.le_of_ble_eq_true rfl) (Nat.le_of_ble_eq_true rfl) (Nat.le_of_ble_eq_true rfl) dX12_init_287 (fun q4771 K4772 V4773 H hq4774 hK4775 hVn4776 hVo4777 hS => ?_)
  refine W.widen (k := 33) (n := 8146) (Nat.le_of_ble_eq_true rfl) (Nat.le_of_ble_eq_true rfl) ?_
  refine th_putF C hS hnm (MI.kx hMI hq4774 hK4775) fp_RX12_115 rfl rfl dX12_init_289 (fun V4778 H locs1 hV4779 hS => ?_)
  have hMI := MI.newput hMI hq4774 hK4775 hVo4777 hV4779 rfl rfl
  refine lv_aload_n hx hb dX12_init_292 rfl (lv_at hl 0 rfl) ?_
  refine lv_bipush (v := 20) hx hb dX12_init_293 (by decide) ?_
  refine th_newa (atype := .int) C hS 0 (by decide) rfl gw_89 (fun _ _ h => h) (N := 20) li_20 (Nat.le_of_ble_eq_true rfl) (Nat.le_of_ble_eq_true rfl) (Nat.le_of_ble_eq_true rfl) dX12_init_295 (fun q4780 K4781 V4782 H hq4783 hK4784 hVn4785 hVo4786 hS => ?_)
  refine W.widen (k := 34) (n := 8166) (Nat.le_of_ble_eq_true rfl) (Nat.le_of_ble_eq_true rfl) ?_
  refine th_putF C hS hnm (MI.kx hMI hq4783 hK4784) fp_RX12_118 rfl rfl dX12_init_297 (fun V4787 H locs1 hV4788 hS => ?_)
  have hMI := MI.newput hMI hq4783 hK4784 hVo4786 hV4788 rfl rfl
  refine lv_aload_n hx hb dX12_init_300 rfl (lv_at hl 0 rfl) ?_
  refine lv_bipush (v := 20) hx hb dX12_init_301 (by decide) ?_
  refine th_newa (atype := .int) C hS 0 (by decide) rfl gw_89 (fun _ _ h => h) (N := 20) li_20 (Nat.le_of_ble_eq_true rfl) (Nat.le_of_ble_eq_true rfl) (Nat.le_of_ble_eq_true rfl) dX12_init_303 (fun q4789 K4790 V4791 H hq4792 hK4793 hVn4794 hVo4795 hS => ?_)
  refine W.widen (k := 35) (n := 8186) (Nat.le_of_ble_eq_true rfl) (Nat.le_of_ble_eq_true rfl) ?_
  refine th_putF C hS hnm (MI.kx hMI hq4792 hK4793) fp_RX12_121 rfl rfl dX12_init_305 (fun V4796 H locs1 hV4797 hS => ?_)
  have hMI := MI.newput hMI hq4792 hK4793 hVo4795 hV4797 rfl rfl
  refine lv_aload_n hx hb dX12_init_308 rfl (lv_at hl 0 rfl) ?_
  refine lv_sipush (v := 240) hx hb dX12_init_309 (by decide) ?_
  refine th_newa (atype := .int) C hS 0 (by decide) rfl gw_89 (fun _ _ h => h) (N := 240) li_240 (Nat.le_of_ble_eq_true rfl) (Nat.le_of_ble_eq_true rfl) (Nat.le_of_ble_eq_true rfl) dX12_init_312 (fun q4798 K4799 V4800 H hq4801 hK4802 hVn4803 hVo4804 hS => ?_)
  refine W.widen (k := 36) (n := 8426) (Nat.le_of_ble_eq_true rfl) (Nat.le_of_ble_eq_true rfl) ?_
  refine th_putF C hS hnm (MI.kx hMI hq4801 hK4802) fp_RX12_124 rfl rfl dX12_init_314 (fun V4805 H locs1 hV4806 hS => ?_)
  have hMI := MI.newput hMI hq4801 hK4802 hVo4804 hV4806 rfl rfl
  refine lv_aload_n hx hb dX12_init_317 rfl (lv_at hl 0 rfl) ?_
  refine lv_sipush (v := 240) hx hb dX12_init_318 (by decide) ?_
  refine th_newa (atype := .int) C hS 0 (by decide) rfl gw_89 (fun _ _ h => h) (N := 240) li_240 (Nat.le_of_ble_eq_true rfl) (Nat.le_of_ble_eq_true rfl) (Nat.le_of_ble_eq_true rfl) dX12_init_321 (fun q4807 K4808 V4809 H hq4810 hK4811 hVn4812 hVo4813 hS => ?_)
  refine W.widen (k := 37) (n := 8666) (Nat.le_of_ble_eq_true rfl) (Nat.le_of_ble_eq_true rfl) ?_
  refine th_putF C hS hnm (MI.kx hMI hq4810 hK4811) fp_RX12_127 rfl rfl dX12_init_323 (fun V4814 H locs1 hV4815 hS => ?_)
  have hMI := MI.newput hMI hq4810 hK4811 hVo4813 hV4815 rfl rfl
  refine lv_aload_n hx hb dX12_init_326 rfl (lv_at hl 0 rfl) ?_
  refine lv_sipush (v := 240) hx hb dX12_init_327 (by decide) ?_
  refine th_newa (atype := .int) C hS 0 (by decide) rfl gw_89 (fun _ _ h => h) (N := 240) li_240 (Nat.le_of_ble_eq_true rfl) (Nat.le_of_ble_eq_true rfl) (Nat.le_of_ble_eq_true rfl) dX12_init_330 (fun q4816 K4817 V4818 H hq4819 hK4820 hVn4821 hVo4822 hS => ?_)
  refine W.widen (k := 38) (n := 8906) (Nat.le_of_ble_eq_true rfl) (Nat.le_of_ble_eq_true rfl) ?_
  refine th_putF C hS hnm (MI.kx hMI hq4819 hK4820) fp_RX12_130 rfl rfl dX12_init_332 (fun V4823 H locs1 hV4824 hS => ?_)
  have hMI := MI.newput hMI hq4819 hK4820 hVo4822 hV4824 rfl rfl
  refine lv_aload_n hx hb dX12_init_335 rfl (lv_at hl 0 rfl) ?_
  refine lv_sipush (v := 240) hx hb dX12_init_336 (by decide) ?_
  refine th_newa (atype := .int) C hS 0 (by decide) rfl gw_89 (fun _ _ h => h) (N := 240) li_240 (Nat.le_of_ble_eq_true rfl) (Nat.le_of_ble_eq_true rfl) (Nat.le_of_ble_eq_true rfl) dX12_init_339 (fun q4825 K4826 V4827 H hq4828 hK4829 hVn4830 hVo4831 hS => ?_)
  refine W.widen (k := 39) (n := 9146) (Nat.le_of_ble_eq_true rfl) (Nat.le_of_ble_eq_true rfl) ?_
  refine th_putF C hS hnm (MI.kx hMI hq4828 hK4829) fp_RX12_133 rfl rfl dX12_init_341 (fun V4832 H locs1 hV4833 hS => ?_)
  have hMI := MI.newput hMI hq4828 hK4829 hVo4831 hV4833 rfl rfl
  refine lv_aload_n hx hb dX12_init_344 rfl (lv_at hl 0 rfl) ?_
  refine lv_sipush (v := 240) hx hb dX12_init_345 (by decide) ?_
  refine th_newa (atype := .int) C hS 0 (by decide) rfl gw_89 (fun _ _ h => h) (N := 240) li_240 (Nat.le_of_ble_eq_true rfl) (Nat.le_of_ble_eq_true rfl) (Nat.le_of_ble_eq_true rfl) dX12_init_348 (fun q4834 K4835 V4836 H hq4837 hK4838 hVn4839 hVo4840 hS => ?_)
  refine W.widen (k := 40) (n := 9386) (Nat.le_of_ble_eq_true rfl) (Nat.le_of_ble_eq_true rfl) ?_
  refine th_putF C hS hnm (MI.kx hMI hq4837 hK4838) fp_RX12_136 rfl rfl dX12_init_350 (fun V4841 H locs1 hV4842 hS => ?_)
  have hMI := MI.newput hMI hq4837 hK4838 hVo4840 hV4842 rfl rfl
  refine lv_aload_n hx hb dX12_init_353 rfl (lv_at hl 0 rfl) ?_
  refine lv_sipush (v := 240) hx hb dX12_init_354 (by decide) ?_
  refine th_newa (atype := .int) C hS 0 (by decide) rfl gw_89 (fun _ _ h => h) (N := 240) li_240 (Nat.le_of_ble_eq_true rfl) (Nat.le_of_ble_eq_true rfl) (Nat.le_of_ble_eq_true rfl) dX12_init_357 (fun q4843 K4844 V4845 H hq4846 hK4847 hVn4848 hVo4849 hS => ?_)
  refine W.widen (k := 41) (n := 9626) (Nat.le_of_ble_eq_true rfl) (Nat.le_of_ble_eq_true rfl) ?_
  refine th_putF C hS hnm (MI.kx hMI hq4846 hK4847) fp_RX12_139 rfl rfl dX12_init_359 (fun V4850 H locs1 hV4851 hS => ?_)
  have hMI := MI.newput hMI hq4846 hK4847 hVo4849 hV4851 rfl rfl
  refine lv_aload_n hx hb dX12_init_362 rfl (lv_at hl 0 rfl) ?_
  refine lv_sipush (v := 180) hx hb dX12_init_363 (by decide) ?_
  refine th_newa (atype := .int) C hS 0 (by decide) rfl gw_89 (fun _ _ h => h) (N := 180) li_180 (Nat.le_of_ble_eq_true rfl) (Nat.le_of_ble_eq_true rfl) (Nat.le_of_ble_eq_true rfl) dX12_init_366 (fun q4852 K4853 V4854 H hq4855 hK4856 hVn4857 hVo4858 hS => ?_)
  refine W.widen (k := 42) (n := 9806) (Nat.le_of_ble_eq_true rfl) (Nat.le_of_ble_eq_true rfl) ?_
  refine th_putF C hS hnm (MI.kx hMI hq4855 hK4856) fp_RX12_142 rfl rfl dX12_init_368 (fun V4859 H locs1 hV4860 hS => ?_)
  have hMI := MI.newput hMI hq4855 hK4856 hVo4858 hV4860 rfl rfl
  refine lv_aload_n hx hb dX12_init_371 rfl (lv_at hl 0 rfl) ?_
  refine lv_sipush (v := 2200) hx hb dX12_init_372 (by decide) ?_
  refine th_newa (atype := .int) C hS 0 (by decide) rfl gw_89 (fun _ _ h => h) (N := 2200) li_2200 (Nat.le_of_ble_eq_true rfl) (Nat.le_of_ble_eq_true rfl) (Nat.le_of_ble_eq_true rfl) dX12_init_375 (fun q4861 K4862 V4863 H hq4864 hK4865 hVn4866 hVo4867 hS => ?_)
  refine W.widen (k := 43) (n := 12006) (Nat.le_of_ble_eq_true rfl) (Nat.le_of_ble_eq_true rfl) ?_
  refine th_putF C hS hnm (MI.kx hMI hq4864 hK4865) fp_RX12_145 rfl rfl dX12_init_377 (fun V4868 H locs1 hV4869 hS => ?_)
  have hMI := MI.newput hMI hq4864 hK4865 hVo4867 hV4869 rfl rfl
  refine lv_aload_n hx hb dX12_init_380 rfl (lv_at hl 0 rfl) ?_
  refine lv_bipush (v := 20) hx hb dX12_init_381 (by decide) ?_
  refine th_newa (atype := .int) C hS 0 (by decide) rfl gw_89 (fun _ _ h => h) (N := 20) li_20 (Nat.le_of_ble_eq_true rfl) (Nat.le_of_ble_eq_true rfl) (Nat.le_of_ble_eq_true rfl) dX12_init_383 (fun q4870 K4871 V4872 H hq4873 hK4874 hVn4875 hVo4876 hS => ?_)
  refine W.widen (k := 44) (n := 12026) (Nat.le_of_ble_eq_true rfl) (Nat.le_of_ble_eq_true rfl) ?_
  refine th_putF C hS hnm (MI.kx hMI hq4873 hK4874) fp_RX12_148 rfl rfl dX12_init_385 (fun V4877 H locs1 hV4878 hS => ?_)
  have hMI := MI.newput hMI hq4873 hK4874 hVo4876 hV4878 rfl rfl
  refine lv_aload_n hx hb dX12_init_388 rfl (lv_at hl 0 rfl) ?_
  refine lv_bipush (v := 20) hx hb dX12_init_389 (by decide) ?_
  refine th_newa (atype := .int) C hS 0 (by decide) rfl gw_89 (fun _ _ h => h) (N := 20) li_20 (Nat.le_of_ble_eq_true rfl) (Nat.le_of_ble_eq_true rfl) (Nat.le_of_ble_eq_true rfl) dX12_init_391 (fun q4879 K4880 V4881 H hq4882 hK4883 hVn4884 hVo4885 hS => ?_)
  refine W.widen (k := 45) (n := 12046) (Nat.le_of_ble_eq_true rfl) (Nat.le_of_ble_eq_true rfl) ?_
  refine th_putF C hS hnm (MI.kx hMI hq4882 hK4883) fp_RX12_151 rfl rfl dX12_init_393 (fun V4886 H locs1 hV4887 hS => ?_)
  have hMI := MI.newput hMI hq4882 hK4883 hVo4885 hV4887 rfl rfl
  refine lv_aload_n hx hb dX12_init_396 rfl (lv_at hl 0 rfl) ?_
  refine lv_bipush (v := 20) hx hb dX12_init_397 (by decide) ?_
  refine th_newa (atype := .int) C hS 0 (by decide) rfl gw_89 (fun _ _ h => h) (N := 20) li_20 (Nat.le_of_ble_eq_true rfl) (Nat.le_of_ble_eq_true rfl) (Nat.le_of_ble_eq_true rfl) dX12_init_399 (fun q4888 K4889 V4890 H hq4891 hK4892 hVn4893 hVo4894 hS => ?_)
  refine W.widen (k := 46) (n := 12066) (Nat.le_of_ble_eq_true rfl) (Nat.le_of_ble_eq_true rfl) ?_
  refine th_putF C hS hnm (MI.kx hMI hq4891 hK4892) fp_RX12_154 rfl rfl dX12_init_401 (fun V4895 H locs1 hV4896 hS => ?_)
  have hMI := MI.newput hMI hq4891 hK4892 hVo4894 hV4896 rfl rfl
  refine lv_aload_n hx hb dX12_init_404 rfl (lv_at hl 0 rfl) ?_
  refine lv_bipush (v := 20) hx hb dX12_init_405 (by decide) ?_
  refine th_newa (atype := .boolean) C hS 3 (by decide) rfl gw_1936 (fun _ _ h => h) (N := 20) li_20 (Nat.le_of_ble_eq_true rfl) (Nat.le_of_ble_eq_true rfl) (Nat.le_of_ble_eq_true rfl) dX12_init_407 (fun q4897 K4898 V4899 H hq4900 hK4901 hVn4902 hVo4903 hS => ?_)
  refine W.widen (k := 47) (n := 12086) (Nat.le_of_ble_eq_true rfl) (Nat.le_of_ble_eq_true rfl) ?_
  refine th_putF C hS hnm (MI.kx hMI hq4900 hK4901) fp_RX12_157 rfl rfl dX12_init_409 (fun V4904 H locs1 hV4905 hS => ?_)
  have hMI := MI.newput hMI hq4900 hK4901 hVo4903 hV4905 rfl rfl
  refine lv_aload_n hx hb dX12_init_412 rfl (lv_at hl 0 rfl) ?_
  refine lv_sipush (v := 240) hx hb dX12_init_413 (by decide) ?_
  refine th_newa (atype := .boolean) C hS 3 (by decide) rfl gw_1936 (fun _ _ h => h) (N := 240) li_240 (Nat.le_of_ble_eq_true rfl) (Nat.le_of_ble_eq_true rfl) (Nat.le_of_ble_eq_true rfl) dX12_init_416 (fun q4906 K4907 V4908 H hq4909 hK4910 hVn4911 hVo4912 hS => ?_)
  refine W.widen (k := 48) (n := 12326) (Nat.le_of_ble_eq_true rfl) (Nat.le_of_ble_eq_true rfl) ?_
  refine th_putF C hS hnm (MI.kx hMI hq4909 hK4910) fp_RX12_160 rfl rfl dX12_init_418 (fun V4913 H locs1 hV4914 hS => ?_)
  have hMI := MI.newput hMI hq4909 hK4910 hVo4912 hV4914 rfl rfl
  refine lv_aload_n hx hb dX12_init_421 rfl (lv_at hl 0 rfl) ?_
  refine lv_bipush (v := 100) hx hb dX12_init_422 (by decide) ?_
  refine th_newa (atype := .int) C hS 0 (by decide) rfl gw_89 (fun _ _ h => h) (N := 100) li_100 (Nat.le_of_ble_eq_true rfl) (Nat.le_of_ble_eq_true rfl) (Nat.le_of_ble_eq_true rfl) dX12_init_424 (fun q4915 K4916 V4917 H hq4918 hK4919 hVn4920 hVo4921 hS => ?_)
  refine W.widen (k := 49) (n := 12426) (Nat.le_of_ble_eq_true rfl) (Nat.le_of_ble_eq_true rfl) ?_
  refine th_putF C hS hnm (MI.kx hMI hq4918 hK4919) fp_RX12_163 rfl rfl dX12_init_426 (fun V4922 H locs1 hV4923 hS => ?_)
  have hMI := MI.newput hMI hq4918 hK4919 hVo4921 hV4923 rfl rfl
  refine lv_aload_n hx hb dX12_init_429 rfl (lv_at hl 0 rfl) ?_
  refine lv_bipush (v := 100) hx hb dX12_init_430 (by decide) ?_
  refine th_newa (atype := .int) C hS 0 (by decide) rfl gw_89 (fun _ _ h => h) (N := 100) li_100 (Nat.le_of_ble_eq_true rfl) (Nat.le_of_ble_eq_true rfl) (Nat.le_of_ble_eq_true rfl) dX12_init_432 (fun q4924 K4925 V4926 H hq4927 hK4928 hVn4929 hVo4930 hS => ?_)
  refine W.widen (k := 50) (n := 12526) (Nat.le_of_ble_eq_true rfl) (Nat.le_of_ble_eq_true rfl) ?_
  refine th_putF C hS hnm (MI.kx hMI hq4927 hK4928) fp_RX12_166 rfl rfl dX12_init_434 (fun V4931 H locs1 hV4932 hS => ?_)
  have hMI := MI.newput hMI hq4927 hK4928 hVo4930 hV4932 rfl rfl
  refine lv_aload_n hx hb dX12_init_437 rfl (lv_at hl 0 rfl) ?_
  refine lv_bipush (v := 100) hx hb dX12_init_438 (by decide) ?_
  refine th_newa (atype := .int) C hS 0 (by decide) rfl gw_89 (fun _ _ h => h) (N := 100) li_100 (Nat.le_of_ble_eq_true rfl) (Nat.le_of_ble_eq_true rfl) (Nat.le_of_ble_eq_true rfl) dX12_init_440 (fun q4933 K4934 V4935 H hq4936 hK4937 hVn4938 hVo4939 hS => ?_)
  refine W.widen (k := 51) (n := 12626) (Nat.le_of_ble_eq_true rfl) (Nat.le_of_ble_eq_true rfl) ?_
  refine th_putF C hS hnm (MI.kx hMI hq4936 hK4937) fp_RX12_169 rfl rfl dX12_init_442 (fun V4940 H locs1 hV4941 hS => ?_)
  have hMI := MI.newput hMI hq4936 hK4937 hVo4939 hV4941 rfl rfl
  refine lv_aload_n hx hb dX12_init_445 rfl (lv_at hl 0 rfl) ?_
  refine lv_bipush (v := 100) hx hb dX12_init_446 (by decide) ?_
  refine th_newa (atype := .int) C hS 0 (by decide) rfl gw_89 (fun _ _ h => h) (N := 100) li_100 (Nat.le_of_ble_eq_true rfl) (Nat.le_of_ble_eq_true rfl) (Nat.le_of_ble_eq_true rfl) dX12_init_448 (fun q4942 K4943 V4944 H hq4945 hK4946 hVn4947 hVo4948 hS => ?_)
  refine W.widen (k := 52) (n := 12726) (Nat.le_of_ble_eq_true rfl) (Nat.le_of_ble_eq_true rfl) ?_
  refine th_putF C hS hnm (MI.kx hMI hq4945 hK4946) fp_RX12_172 rfl rfl dX12_init_450 (fun V4949 H locs1 hV4950 hS => ?_)
  have hMI := MI.newput hMI hq4945 hK4946 hVo4948 hV4950 rfl rfl
  refine lv_aload_n hx hb dX12_init_453 rfl (lv_at hl 0 rfl) ?_
  refine lv_bipush (v := 100) hx hb dX12_init_454 (by decide) ?_
  refine th_newa (atype := .int) C hS 0 (by decide) rfl gw_89 (fun _ _ h => h) (N := 100) li_100 (Nat.le_of_ble_eq_true rfl) (Nat.le_of_ble_eq_true rfl) (Nat.le_of_ble_eq_true rfl) dX12_init_456 (fun q4951 K4952 V4953 H hq4954 hK4955 hVn4956 hVo4957 hS => ?_)
  refine W.widen (k := 53) (n := 12826) (Nat.le_of_ble_eq_true rfl) (Nat.le_of_ble_eq_true rfl) ?_
  refine th_putF C hS hnm (MI.kx hMI hq4954 hK4955) fp_RX12_175 rfl rfl dX12_init_458 (fun V4958 H locs1 hV4959 hS => ?_)
  have hMI := MI.newput hMI hq4954 hK4955 hVo4957 hV4959 rfl rfl
  refine lv_aload_n hx hb dX12_init_461 rfl (lv_at hl 0 rfl) ?_
  refine lv_bipush (v := 100) hx hb dX12_init_462 (by decide) ?_
  refine th_newa (atype := .int) C hS 0 (by decide) rfl gw_89 (fun _ _ h => h) (N := 100) li_100 (Nat.le_of_ble_eq_true rfl) (Nat.le_of_ble_eq_true rfl) (Nat.le_of_ble_eq_true rfl) dX12_init_464 (fun q4960 K4961 V4962 H hq4963 hK4964 hVn4965 hVo4966 hS => ?_)
  refine W.widen (k := 54) (n := 12926) (Nat.le_of_ble_eq_true rfl) (Nat.le_of_ble_eq_true rfl) ?_
  refine th_putF C hS hnm (MI.kx hMI hq4963 hK4964) fp_RX12_178 rfl rfl dX12_init_466 (fun V4967 H locs1 hV4968 hS => ?_)
  have hMI := MI.newput hMI hq4963 hK4964 hVo4966 hV4968 rfl rfl
  refine lv_aload_n hx hb dX12_init_469 rfl (lv_at hl 0 rfl) ?_
  refine lv_bipush (v := 100) hx hb dX12_init_470 (by decide) ?_
  refine th_newa (atype := .int) C hS 0 (by decide) rfl gw_89 (fun _ _ h => h) (N := 100) li_100 (Nat.le_of_ble_eq_true rfl) (Nat.le_of_ble_eq_true rfl) (Nat.le_of_ble_eq_true rfl) dX12_init_472 (fun q4969 K4970 V4971 H hq4972 hK4973 hVn4974 hVo4975 hS => ?_)
  refine W.widen (k := 55) (n := 13026) (Nat.le_of_ble_eq_true rfl) (Nat.le_of_ble_eq_true rfl) ?_
  refine th_putF C hS hnm (MI.kx hMI hq4972 hK4973) fp_RX12_181 rfl rfl dX12_init_474 (fun V4976 H locs1 hV4977 hS => ?_)
  have hMI := MI.newput hMI hq4972 hK4973 hVo4975 hV4977 rfl rfl
  refine lv_aload_n hx hb dX12_init_477 rfl (lv_at hl 0 rfl) ?_
  refine lv_bipush (v := 100) hx hb dX12_init_478 (by decide) ?_
  refine th_newa (atype := .int) C hS 0 (by decide) rfl gw_89 (fun _ _ h => h) (N := 100) li_100 (Nat.le_of_ble_eq_true rfl) (Nat.le_of_ble_eq_true rfl) (Nat.le_of_ble_eq_true rfl) dX12_init_480 (fun q4978 K4979 V4980 H hq4981 hK4982 hVn4983 hVo4984 hS => ?_)
  refine W.widen (k := 56) (n := 13126) (Nat.le_of_ble_eq_true rfl) (Nat.le_of_ble_eq_true rfl) ?_
  refine th_putF C hS hnm (MI.kx hMI hq4981 hK4982) fp_RX12_184 rfl rfl dX12_init_482 (fun V4985 H locs1 hV4986 hS => ?_)
  have hMI := MI.newput hMI hq4981 hK4982 hVo4984 hV4986 rfl rfl
  refine lv_aload_n hx hb dX12_init_485 rfl (lv_at hl 0 rfl) ?_
  refine lv_bipush (v := 100) hx hb dX12_init_486 (by decide) ?_
  refine th_newa (atype := .int) C hS 0 (by decide) rfl gw_89 (fun _ _ h => h) (N := 100) li_100 (Nat.le_of_ble_eq_true rfl) (Nat.le_of_ble_eq_true rfl) (Nat.le_of_ble_eq_true rfl) dX12_init_488 (fun q4987 K4988 V4989 H hq4990 hK4991 hVn4992 hVo4993 hS => ?_)
  refine W.widen (k := 57) (n := 13226) (Nat.le_of_ble_eq_true rfl) (Nat.le_of_ble_eq_true rfl) ?_
  refine th_putF C hS hnm (MI.kx hMI hq4990 hK4991) fp_RX12_187 rfl rfl dX12_init_490 (fun V4994 H locs1 hV4995 hS => ?_)
  have hMI := MI.newput hMI hq4990 hK4991 hVo4993 hV4995 rfl rfl
  refine lv_aload_n hx hb dX12_init_493 rfl (lv_at hl 0 rfl) ?_
  refine lv_bipush (v := 100) hx hb dX12_init_494 (by decide) ?_
  refine th_newa (atype := .int) C hS 0 (by decide) rfl gw_89 (fun _ _ h => h) (N := 100) li_100 (Nat.le_of_ble_eq_true rfl) (Nat.le_of_ble_eq_true rfl) (Nat.le_of_ble_eq_true rfl) dX12_init_496 (fun q4996 K4997 V4998 H hq4999 hK5000 hVn5001 hVo5002 hS => ?_)
  refine W.widen (k := 58) (n := 13326) (Nat.le_of_ble_eq_true rfl) (Nat.le_of_ble_eq_true rfl) ?_
  refine th_putF C hS hnm (MI.kx hMI hq4999 hK5000) fp_RX12_190 rfl rfl dX12_init_498 (fun V5003 H locs1 hV5004 hS => ?_)
  have hMI := MI.newput hMI hq4999 hK5000 hVo5002 hV5004 rfl rfl
  refine lv_aload_n hx hb dX12_init_501 rfl (lv_at hl 0 rfl) ?_
  refine lv_bipush (v := 100) hx hb dX12_init_502 (by decide) ?_
  refine th_newa (atype := .int) C hS 0 (by decide) rfl gw_89 (fun _ _ h => h) (N := 100) li_100 (Nat.le_of_ble_eq_true rfl) (Nat.le_of_ble_eq_true rfl) (Nat.le_of_ble_eq_true rfl) dX12_init_504 (fun q5005 K5006 V5007 H hq5008 hK5009 hVn5010 hVo5011 hS => ?_)
  refine W.widen (k := 59) (n := 13426) (Nat.le_of_ble_eq_true rfl) (Nat.le_of_ble_eq_true rfl) ?_
  refine th_putF C hS hnm (MI.kx hMI hq5008 hK5009) fp_RX12_193 rfl rfl dX12_init_506 (fun V5012 H locs1 hV5013 hS => ?_)
  have hMI := MI.newput hMI hq5008 hK5009 hVo5011 hV5013 rfl rfl
  refine lv_aload_n hx hb dX12_init_509 rfl (lv_at hl 0 rfl) ?_
  refine lv_bipush (v := 100) hx hb dX12_init_510 (by decide) ?_
  refine th_newa (atype := .int) C hS 0 (by decide) rfl gw_89 (fun _ _ h => h) (N := 100) li_100 (Nat.le_of_ble_eq_true rfl) (Nat.le_of_ble_eq_true rfl) (Nat.le_of_ble_eq_true rfl) dX12_init_512 (fun q5014 K5015 V5016 H hq5017 hK5018 hVn5019 hVo5020 hS => ?_)
  refine W.widen (k := 60) (n := 13526) (Nat.le_of_ble_eq_true rfl) (Nat.le_of_ble_eq_true rfl) ?_
  refine th_putF C hS hnm (MI.kx hMI hq5017 hK5018) fp_RX12_196 rfl rfl dX12_init_514 (fun V5021 H locs1 hV5022 hS => ?_)
  have hMI := MI.newput hMI hq5017 hK5018 hVo5020 hV5022 rfl rfl
  refine lv_aload_n hx hb dX12_init_517 rfl (lv_at hl 0 rfl) ?_
  refine lv_bipush (v := 100) hx hb dX12_init_518 (by decide) ?_
  refine th_newa (atype := .int) C hS 0 (by decide) rfl gw_89 (fun _ _ h => h) (N := 100) li_100 (Nat.le_of_ble_eq_true rfl) (Nat.le_of_ble_eq_true rfl) (Nat.le_of_ble_eq_true rfl) dX12_init_520 (fun q5023 K5024 V5025 H hq5026 hK5027 hVn5028 hVo5029 hS => ?_)
  refine W.widen (k := 61) (n := 13626) (Nat.le_of_ble_eq_true rfl) (Nat.le_of_ble_eq_true rfl) ?_
  refine th_putF C hS hnm (MI.kx hMI hq5026 hK5027) fp_RX12_199 rfl rfl dX12_init_522 (fun V5030 H locs1 hV5031 hS => ?_)
  have hMI := MI.newput hMI hq5026 hK5027 hVo5029 hV5031 rfl rfl
  refine lv_aload_n hx hb dX12_init_525 rfl (lv_at hl 0 rfl) ?_
  refine lv_sipush (v := 900) hx hb dX12_init_526 (by decide) ?_
  refine th_newa (atype := .int) C hS 0 (by decide) rfl gw_89 (fun _ _ h => h) (N := 900) li_900 (Nat.le_of_ble_eq_true rfl) (Nat.le_of_ble_eq_true rfl) (Nat.le_of_ble_eq_true rfl) dX12_init_529 (fun q5032 K5033 V5034 H hq5035 hK5036 hVn5037 hVo5038 hS => ?_)
  refine W.widen (k := 62) (n := 14526) (Nat.le_of_ble_eq_true rfl) (Nat.le_of_ble_eq_true rfl) ?_
  refine th_putF C hS hnm (MI.kx hMI hq5035 hK5036) fp_RX12_202 rfl rfl dX12_init_531 (fun V5039 H locs1 hV5040 hS => ?_)
  have hMI := MI.newput hMI hq5035 hK5036 hVo5038 hV5040 rfl rfl
  refine lv_aload_n hx hb dX12_init_534 rfl (lv_at hl 0 rfl) ?_
  refine lv_sipush (v := 220) hx hb dX12_init_535 (by decide) ?_
  refine th_newa (atype := .int) C hS 0 (by decide) rfl gw_89 (fun _ _ h => h) (N := 220) li_220 (Nat.le_of_ble_eq_true rfl) (Nat.le_of_ble_eq_true rfl) (Nat.le_of_ble_eq_true rfl) dX12_init_538 (fun q5041 K5042 V5043 H hq5044 hK5045 hVn5046 hVo5047 hS => ?_)
  refine W.widen (k := 63) (n := 14746) (Nat.le_of_ble_eq_true rfl) (Nat.le_of_ble_eq_true rfl) ?_
  refine th_putF C hS hnm (MI.kx hMI hq5044 hK5045) fp_RX12_205 rfl rfl dX12_init_540 (fun V5048 H locs1 hV5049 hS => ?_)
  have hMI := MI.newput hMI hq5044 hK5045 hVo5047 hV5049 rfl rfl
  refine lv_aload_n hx hb dX12_init_543 rfl (lv_at hl 0 rfl) ?_
  refine lv_bipush (v := 10) hx hb dX12_init_544 (by decide) ?_
  refine th_newa (atype := .int) C hS 0 (by decide) rfl gw_89 (fun _ _ h => h) (N := 10) li_10 (Nat.le_of_ble_eq_true rfl) (Nat.le_of_ble_eq_true rfl) (Nat.le_of_ble_eq_true rfl) dX12_init_546 (fun q5050 K5051 V5052 H hq5053 hK5054 hVn5055 hVo5056 hS => ?_)
  refine W.widen (k := 64) (n := 14756) (Nat.le_of_ble_eq_true rfl) (Nat.le_of_ble_eq_true rfl) ?_
  refine th_putF C hS hnm (MI.kx hMI hq5053 hK5054) fp_RX12_208 rfl rfl dX12_init_548 (fun V5057 H locs1 hV5058 hS => ?_)
  have hMI := MI.newput hMI hq5053 hK5054 hVo5056 hV5058 rfl rfl
  refine lv_aload_n hx hb dX12_init_551 rfl (lv_at hl 0 rfl) ?_
  refine lv_bipush (v := 10) hx hb dX12_init_552 (by decide) ?_
  refine th_newa (atype := .int) C hS 0 (by decide) rfl gw_89 (fun _ _ h => h) (N := 10) li_10 (Nat.le_of_ble_eq_true rfl) (Nat.le_of_ble_eq_true rfl) (Nat.le_of_ble_eq_true rfl) dX12_init_554 (fun q5059 K5060 V5061 H hq5062 hK5063 hVn5064 hVo5065 hS => ?_)
  refine W.widen (k := 65) (n := 14766) (Nat.le_of_ble_eq_true rfl) (Nat.le_of_ble_eq_true rfl) ?_
  refine th_putF C hS hnm (MI.kx hMI hq5062 hK5063) fp_RX12_211 rfl rfl dX12_init_556 (fun V5066 H locs1 hV5067 hS => ?_)
  have hMI := MI.newput hMI hq5062 hK5063 hVo5065 hV5067 rfl rfl
  refine lv_aload_n hx hb dX12_init_559 rfl (lv_at hl 0 rfl) ?_
  refine lv_bipush (v := 10) hx hb dX12_init_560 (by decide) ?_
  refine th_newa (atype := .int) C hS 0 (by decide) rfl gw_89 (fun _ _ h => h) (N := 10) li_10 (Nat.le_of_ble_eq_true rfl) (Nat.le_of_ble_eq_true rfl) (Nat.le_of_ble_eq_true rfl) dX12_init_562 (fun q5068 K5069 V5070 H hq5071 hK5072 hVn5073 hVo5074 hS => ?_)
  refine W.widen (k := 66) (n := 14776) (Nat.le_of_ble_eq_true rfl) (Nat.le_of_ble_eq_true rfl) ?_
  refine th_putF C hS hnm (MI.kx hMI hq5071 hK5072) fp_RX12_214 rfl rfl dX12_init_564 (fun V5075 H locs1 hV5076 hS => ?_)
  have hMI := MI.newput hMI hq5071 hK5072 hVo5074 hV5076 rfl rfl
  refine lv_aload_n hx hb dX12_init_567 rfl (lv_at hl 0 rfl) ?_
  refine lv_bipush (v := 10) hx hb dX12_init_568 (by decide) ?_
  refine th_newa (atype := .int) C hS 0 (by decide) rfl gw_89 (fun _ _ h => h) (N := 10) li_10 (Nat.le_of_ble_eq_true rfl) (Nat.le_of_ble_eq_true rfl) (Nat.le_of_ble_eq_true rfl) dX12_init_570 (fun q5077 K5078 V5079 H hq5080 hK5081 hVn5082 hVo5083 hS => ?_)
  refine W.widen (k := 67) (n := 14786) (Nat.le_of_ble_eq_true rfl) (Nat.le_of_ble_eq_true rfl) ?_
  refine th_putF C hS hnm (MI.kx hMI hq5080 hK5081) fp_RX12_217 rfl rfl dX12_init_572 (fun V5084 H locs1 hV5085 hS => ?_)
  have hMI := MI.newput hMI hq5080 hK5081 hVo5083 hV5085 rfl rfl
  refine lv_aload_n hx hb dX12_init_575 rfl (lv_at hl 0 rfl) ?_
  refine lv_bipush (v := 10) hx hb dX12_init_576 (by decide) ?_
  refine th_newa (atype := .int) C hS 0 (by decide) rfl gw_89 (fun _ _ h => h) (N := 10) li_10 (Nat.le_of_ble_eq_true rfl) (Nat.le_of_ble_eq_true rfl) (Nat.le_of_ble_eq_true rfl) dX12_init_578 (fun q5086 K5087 V5088 H hq5089 hK5090 hVn5091 hVo5092 hS => ?_)
  refine W.widen (k := 68) (n := 14796) (Nat.le_of_ble_eq_true rfl) (Nat.le_of_ble_eq_true rfl) ?_
  refine th_putF C hS hnm (MI.kx hMI hq5089 hK5090) fp_RX12_220 rfl rfl dX12_init_580 (fun V5093 H locs1 hV5094 hS => ?_)
  have hMI := MI.newput hMI hq5089 hK5090 hVo5092 hV5094 rfl rfl
  refine lv_aload_n hx hb dX12_init_583 rfl (lv_at hl 0 rfl) ?_
  refine lv_bipush (v := 10) hx hb dX12_init_584 (by decide) ?_
  refine th_newa (atype := .int) C hS 0 (by decide) rfl gw_89 (fun _ _ h => h) (N := 10) li_10 (Nat.le_of_ble_eq_true rfl) (Nat.le_of_ble_eq_true rfl) (Nat.le_of_ble_eq_true rfl) dX12_init_586 (fun q5095 K5096 V5097 H hq5098 hK5099 hVn5100 hVo5101 hS => ?_)
  refine W.widen (k := 69) (n := 14806) (Nat.le_of_ble_eq_true rfl) (Nat.le_of_ble_eq_true rfl) ?_
  refine th_putF C hS hnm (MI.kx hMI hq5098 hK5099) fp_RX12_223 rfl rfl dX12_init_588 (fun V5102 H locs1 hV5103 hS => ?_)
  have hMI := MI.newput hMI hq5098 hK5099 hVo5101 hV5103 rfl rfl
  refine lv_aload_n hx hb dX12_init_591 rfl (lv_at hl 0 rfl) ?_
  refine lv_bipush (v := 10) hx hb dX12_init_592 (by decide) ?_
  refine th_newa (atype := .int) C hS 0 (by decide) rfl gw_89 (fun _ _ h => h) (N := 10) li_10 (Nat.le_of_ble_eq_true rfl) (Nat.le_of_ble_eq_true rfl) (Nat.le_of_ble_eq_true rfl) dX12_init_594 (fun q5104 K5105 V5106 H hq5107 hK5108 hVn5109 hVo5110 hS => ?_)
  refine W.widen (k := 70) (n := 14816) (Nat.le_of_ble_eq_true rfl) (Nat.le_of_ble_eq_true rfl) ?_
  refine th_putF C hS hnm (MI.kx hMI hq5107 hK5108) fp_RX12_226 rfl rfl dX12_init_596 (fun V5111 H locs1 hV5112 hS => ?_)
  have hMI := MI.newput hMI hq5107 hK5108 hVo5110 hV5112 rfl rfl
  refine lv_aload_n hx hb dX12_init_599 rfl (lv_at hl 0 rfl) ?_
  refine lv_bipush (v := 10) hx hb dX12_init_600 (by decide) ?_
  refine th_newa (atype := .int) C hS 0 (by decide) rfl gw_89 (fun _ _ h => h) (N := 10) li_10 (Nat.le_of_ble_eq_true rfl) (Nat.le_of_ble_eq_true rfl) (Nat.le_of_ble_eq_true rfl) dX12_init_602 (fun q5113 K5114 V5115 H hq5116 hK5117 hVn5118 hVo5119 hS => ?_)
  refine W.widen (k := 71) (n := 14826) (Nat.le_of_ble_eq_true rfl) (Nat.le_of_ble_eq_true rfl) ?_
  refine th_putF C hS hnm (MI.kx hMI hq5116 hK5117) fp_RX12_229 rfl rfl dX12_init_604 (fun V5120 H locs1 hV5121 hS => ?_)
  have hMI := MI.newput hMI hq5116 hK5117 hVo5119 hV5121 rfl rfl
  refine lv_aload_n hx hb dX12_init_607 rfl (lv_at hl 0 rfl) ?_
  refine lv_bipush (v := 10) hx hb dX12_init_608 (by decide) ?_
  refine th_newa (atype := .int) C hS 0 (by decide) rfl gw_89 (fun _ _ h => h) (N := 10) li_10 (Nat.le_of_ble_eq_true rfl) (Nat.le_of_ble_eq_true rfl) (Nat.le_of_ble_eq_true rfl) dX12_init_610 (fun q5122 K5123 V5124 H hq5125 hK5126 hVn5127 hVo5128 hS => ?_)
  refine W.widen (k := 72) (n := 14836) (Nat.le_of_ble_eq_true rfl) (Nat.le_of_ble_eq_true rfl) ?_
  refine th_putF C hS hnm (MI.kx hMI hq5125 hK5126) fp_RX12_232 rfl rfl dX12_init_612 (fun V5129 H locs1 hV5130 hS => ?_)
  have hMI := MI.newput hMI hq5125 hK5126 hVo5128 hV5130 rfl rfl
  refine lv_aload_n hx hb dX12_init_615 rfl (lv_at hl 0 rfl) ?_
  refine lv_bipush (v := 10) hx hb dX12_init_616 (by decide) ?_
  refine th_newa (atype := .int) C hS 0 (by decide) rfl gw_89 (fun _ _ h => h) (N := 10) li_10 (Nat.le_of_ble_eq_true rfl) (Nat.le_of_ble_eq_true rfl) (Nat.le_of_ble_eq_true rfl) dX12_init_618 (fun q5131 K5132 V5133 H hq5134 hK5135 hVn5136 hVo5137 hS => ?_)
  refine W.widen (k := 73) (n := 14846) (Nat.le_of_ble_eq_true rfl) (Nat.le_of_ble_eq_true rfl) ?_
  refine th_putF C hS hnm (MI.kx hMI hq5134 hK5135) fp_RX12_235 rfl rfl dX12_init_620 (fun V5138 H locs1 hV5139 hS => ?_)
  have hMI := MI.newput hMI hq5134 hK5135 hVo5137 hV5139 rfl rfl
  refine lv_aload_n hx hb dX12_init_623 rfl (lv_at hl 0 rfl) ?_
  refine lv_bipush (v := 10) hx hb dX12_init_624 (by decide) ?_
  refine th_newa (atype := .int) C hS 0 (by decide) rfl gw_89 (fun _ _ h => h) (N := 10) li_10 (Nat.le_of_ble_eq_true rfl) (Nat.le_of_ble_eq_true rfl) (Nat.le_of_ble_eq_true rfl) dX12_init_626 (fun q5140 K5141 V5142 H hq5143 hK5144 hVn5145 hVo5146 hS => ?_)
  refine W.widen (k := 74) (n := 14856) (Nat.le_of_ble_eq_true rfl) (Nat.le_of_ble_eq_true rfl) ?_
  refine th_putF C hS hnm (MI.kx hMI hq5143 hK5144) fp_RX12_238 rfl rfl dX12_init_628 (fun V5147 H locs1 hV5148 hS => ?_)
  have hMI := MI.newput hMI hq5143 hK5144 hVo5146 hV5148 rfl rfl
  refine lv_aload_n hx hb dX12_init_631 rfl (lv_at hl 0 rfl) ?_
  refine lv_bipush (v := 48) hx hb dX12_init_632 (by decide) ?_
  refine th_newa (atype := .int) C hS 0 (by decide) rfl gw_89 (fun _ _ h => h) (N := 48) li_48 (Nat.le_of_ble_eq_true rfl) (Nat.le_of_ble_eq_true rfl) (Nat.le_of_ble_eq_true rfl) dX12_init_634 (fun q5149 K5150 V5151 H hq5152 hK5153 hVn5154 hVo5155 hS => ?_)
  refine W.widen (k := 75) (n := 14904) (Nat.le_of_ble_eq_true rfl) (Nat.le_of_ble_eq_true rfl) ?_
  refine th_putF C hS hnm (MI.kx hMI hq5152 hK5153) fp_RX12_241 rfl rfl dX12_init_636 (fun V5156 H locs1 hV5157 hS => ?_)
  have hMI := MI.newput hMI hq5152 hK5153 hVo5155 hV5157 rfl rfl
  refine lv_aload_n hx hb dX12_init_639 rfl (lv_at hl 0 rfl) ?_
  refine lv_iconst (v := 4) hx hb dX12_init_640 (by decide) ?_
  refine th_newa (atype := .int) C hS 0 (by decide) rfl gw_89 (fun _ _ h => h) (N := 4) li_4 (Nat.le_of_ble_eq_true rfl) (Nat.le_of_ble_eq_true rfl) (Nat.le_of_ble_eq_true rfl) dX12_init_641 (fun q5158 K5159 V5160 H hq5161 hK5162 hVn5163 hVo5164 hS => ?_)
  refine W.widen (k := 76) (n := 14908) (Nat.le_of_ble_eq_true rfl) (Nat.le_of_ble_eq_true rfl) ?_
  refine th_putF C hS hnm (MI.kx hMI hq5161 hK5162) fp_RX12_244 rfl rfl dX12_init_643 (fun V5165 H locs1 hV5166 hS => ?_)
  have hMI := MI.newput hMI hq5161 hK5162 hVo5164 hV5166 rfl rfl
  refine lv_aload_n hx hb dX12_init_646 rfl (lv_at hl 0 rfl) ?_
  refine lv_bipush (v := 40) hx hb dX12_init_647 (by decide) ?_
  refine th_newa (atype := .int) C hS 0 (by decide) rfl gw_89 (fun _ _ h => h) (N := 40) li_40 (Nat.le_of_ble_eq_true rfl) (Nat.le_of_ble_eq_true rfl) (Nat.le_of_ble_eq_true rfl) dX12_init_649 (fun q5167 K5168 V5169 H hq5170 hK5171 hVn5172 hVo5173 hS => ?_)
  refine W.widen (k := 77) (n := 14948) (Nat.le_of_ble_eq_true rfl) (Nat.le_of_ble_eq_true rfl) ?_
  refine th_putF C hS hnm (MI.kx hMI hq5170 hK5171) fp_RX12_247 rfl rfl dX12_init_651 (fun V5174 H locs1 hV5175 hS => ?_)
  have hMI := MI.newput hMI hq5170 hK5171 hVo5173 hV5175 rfl rfl
  refine lv_aload_n hx hb dX12_init_654 rfl (lv_at hl 0 rfl) ?_
  refine lv_bipush (v := 40) hx hb dX12_init_655 (by decide) ?_
  refine th_newa (atype := .int) C hS 0 (by decide) rfl gw_89 (fun _ _ h => h) (N := 40) li_40 (Nat.le_of_ble_eq_true rfl) (Nat.le_of_ble_eq_true rfl) (Nat.le_of_ble_eq_true rfl) dX12_init_657 (fun q5176 K5177 V5178 H hq5179 hK5180 hVn5181 hVo5182 hS => ?_)
  refine W.widen (k := 78) (n := 14988) (Nat.le_of_ble_eq_true rfl) (Nat.le_of_ble_eq_true rfl) ?_
  refine th_putF C hS hnm (MI.kx hMI hq5179 hK5180) fp_RX12_250 rfl rfl dX12_init_659 (fun V5183 H locs1 hV5184 hS => ?_)
  have hMI := MI.newput hMI hq5179 hK5180 hVo5182 hV5184 rfl rfl
  refine lv_aload_n hx hb dX12_init_662 rfl (lv_at hl 0 rfl) ?_
  refine lv_bipush (v := 40) hx hb dX12_init_663 (by decide) ?_
  refine th_newa (atype := .int) C hS 0 (by decide) rfl gw_89 (fun _ _ h => h) (N := 40) li_40 (Nat.le_of_ble_eq_true rfl) (Nat.le_of_ble_eq_true rfl) (Nat.le_of_ble_eq_true rfl) dX12_init_665 (fun q5185 K5186 V5187 H hq5188 hK5189 hVn5190 hVo5191 hS => ?_)
  refine W.widen (k := 79) (n := 15028) (Nat.le_of_ble_eq_true rfl) (Nat.le_of_ble_eq_true rfl) ?_
  refine th_putF C hS hnm (MI.kx hMI hq5188 hK5189) fp_RX12_253 rfl rfl dX12_init_667 (fun V5192 H locs1 hV5193 hS => ?_)
  have hMI := MI.newput hMI hq5188 hK5189 hVo5191 hV5193 rfl rfl
  refine lv_aload_n hx hb dX12_init_670 rfl (lv_at hl 0 rfl) ?_
  refine lv_bipush (v := 40) hx hb dX12_init_671 (by decide) ?_
  refine th_newa (atype := .int) C hS 0 (by decide) rfl gw_89 (fun _ _ h => h) (N := 40) li_40 (Nat.le_of_ble_eq_true rfl) (Nat.le_of_ble_eq_true rfl) (Nat.le_of_ble_eq_true rfl) dX12_init_673 (fun q5194 K5195 V5196 H hq5197 hK5198 hVn5199 hVo5200 hS => ?_)
  refine W.widen (k := 80) (n := 15068) (Nat.le_of_ble_eq_true rfl) (Nat.le_of_ble_eq_true rfl) ?_
  refine th_putF C hS hnm (MI.kx hMI hq5197 hK5198) fp_RX12_256 rfl rfl dX12_init_675 (fun V5201 H locs1 hV5202 hS => ?_)
  have hMI := MI.newput hMI hq5197 hK5198 hVo5200 hV5202 rfl rfl
  refine lv_aload_n hx hb dX12_init_678 rfl (lv_at hl 0 rfl) ?_
  refine lv_bipush (v := 40) hx hb dX12_init_679 (by decide) ?_
  refine th_newa (atype := .boolean) C hS 3 (by decide) rfl gw_1936 (fun _ _ h => h) (N := 40) li_40 (Nat.le_of_ble_eq_true rfl) (Nat.le_of_ble_eq_true rfl) (Nat.le_of_ble_eq_true rfl) dX12_init_681 (fun q5203 K5204 V5205 H hq5206 hK5207 hVn5208 hVo5209 hS => ?_)
  refine W.widen (k := 81) (n := 15108) (Nat.le_of_ble_eq_true rfl) (Nat.le_of_ble_eq_true rfl) ?_
  refine th_putF C hS hnm (MI.kx hMI hq5206 hK5207) fp_RX12_259 rfl rfl dX12_init_683 (fun V5210 H locs1 hV5211 hS => ?_)
  have hMI := MI.newput hMI hq5206 hK5207 hVo5209 hV5211 rfl rfl
  refine lv_aload_n hx hb dX12_init_686 rfl (lv_at hl 0 rfl) ?_
  refine lv_bipush (v := 60) hx hb dX12_init_687 (by decide) ?_
  refine th_newa (atype := .int) C hS 0 (by decide) rfl gw_89 (fun _ _ h => h) (N := 60) li_60 (Nat.le_of_ble_eq_true rfl) (Nat.le_of_ble_eq_true rfl) (Nat.le_of_ble_eq_true rfl) dX12_init_689 (fun q5212 K5213 V5214 H hq5215 hK5216 hVn5217 hVo5218 hS => ?_)
  refine W.widen (k := 82) (n := 15168) (Nat.le_of_ble_eq_true rfl) (Nat.le_of_ble_eq_true rfl) ?_
  refine th_putF C hS hnm (MI.kx hMI hq5215 hK5216) fp_RX12_262 rfl rfl dX12_init_691 (fun V5219 H locs1 hV5220 hS => ?_)
  have hMI := MI.newput hMI hq5215 hK5216 hVo5218 hV5220 rfl rfl
  refine lv_aload_n hx hb dX12_init_694 rfl (lv_at hl 0 rfl) ?_
  refine lv_bipush (v := 60) hx hb dX12_init_695 (by decide) ?_
  refine th_newa (atype := .int) C hS 0 (by decide) rfl gw_89 (fun _ _ h => h) (N := 60) li_60 (Nat.le_of_ble_eq_true rfl) (Nat.le_of_ble_eq_true rfl) (Nat.le_of_ble_eq_true rfl) dX12_init_697 (fun q5221 K5222 V5223 H hq5224 hK5225 hVn5226 hVo5227 hS => ?_)
  refine W.widen (k := 83) (n := 15228) (Nat.le_of_ble_eq_true rfl) (Nat.le_of_ble_eq_true rfl) ?_
  refine th_putF C hS hnm (MI.kx hMI hq5224 hK5225) fp_RX12_265 rfl rfl dX12_init_699 (fun V5228 H locs1 hV5229 hS => ?_)
  have hMI := MI.newput hMI hq5224 hK5225 hVo5227 hV5229 rfl rfl
  refine lv_aload_n hx hb dX12_init_702 rfl (lv_at hl 0 rfl) ?_
  refine lv_bipush (v := 60) hx hb dX12_init_703 (by decide) ?_
  refine th_newa (atype := .int) C hS 0 (by decide) rfl gw_89 (fun _ _ h => h) (N := 60) li_60 (Nat.le_of_ble_eq_true rfl) (Nat.le_of_ble_eq_true rfl) (Nat.le_of_ble_eq_true rfl) dX12_init_705 (fun q5230 K5231 V5232 H hq5233 hK5234 hVn5235 hVo5236 hS => ?_)
  refine W.widen (k := 84) (n := 15288) (Nat.le_of_ble_eq_true rfl) (Nat.le_of_ble_eq_true rfl) ?_
  refine th_putF C hS hnm (MI.kx hMI hq5233 hK5234) fp_RX12_268 rfl rfl dX12_init_707 (fun V5237 H locs1 hV5238 hS => ?_)
  have hMI := MI.newput hMI hq5233 hK5234 hVo5236 hV5238 rfl rfl
  refine lv_aload_n hx hb dX12_init_710 rfl (lv_at hl 0 rfl) ?_
  refine lv_bipush (v := 60) hx hb dX12_init_711 (by decide) ?_
  refine th_newa (atype := .int) C hS 0 (by decide) rfl gw_89 (fun _ _ h => h) (N := 60) li_60 (Nat.le_of_ble_eq_true rfl) (Nat.le_of_ble_eq_true rfl) (Nat.le_of_ble_eq_true rfl) dX12_init_713 (fun q5239 K5240 V5241 H hq5242 hK5243 hVn5244 hVo5245 hS => ?_)
  refine W.widen (k := 85) (n := 15348) (Nat.le_of_ble_eq_true rfl) (Nat.le_of_ble_eq_true rfl) ?_
  refine th_putF C hS hnm (MI.kx hMI hq5242 hK5243) fp_RX12_271 rfl rfl dX12_init_715 (fun V5246 H locs1 hV5247 hS => ?_)
  have hMI := MI.newput hMI hq5242 hK5243 hVo5245 hV5247 rfl rfl
  refine lv_aload_n hx hb dX12_init_718 rfl (lv_at hl 0 rfl) ?_
  refine lv_bipush (v := 60) hx hb dX12_init_719 (by decide) ?_
  refine th_newa (atype := .int) C hS 0 (by decide) rfl gw_89 (fun _ _ h => h) (N := 60) li_60 (Nat.le_of_ble_eq_true rfl) (Nat.le_of_ble_eq_true rfl) (Nat.le_of_ble_eq_true rfl) dX12_init_721 (fun q5248 K5249 V5250 H hq5251 hK5252 hVn5253 hVo5254 hS => ?_)
  refine W.widen (k := 86) (n := 15408) (Nat.le_of_ble_eq_true rfl) (Nat.le_of_ble_eq_true rfl) ?_
  refine th_putF C hS hnm (MI.kx hMI hq5251 hK5252) fp_RX12_274 rfl rfl dX12_init_723 (fun V5255 H locs1 hV5256 hS => ?_)
  have hMI := MI.newput hMI hq5251 hK5252 hVo5254 hV5256 rfl rfl
  refine lv_aload_n hx hb dX12_init_726 rfl (lv_at hl 0 rfl) ?_
  refine lv_sipush (v := 144) hx hb dX12_init_727 (by decide) ?_
  refine th_newa (atype := .int) C hS 0 (by decide) rfl gw_89 (fun _ _ h => h) (N := 144) li_144 (Nat.le_of_ble_eq_true rfl) (Nat.le_of_ble_eq_true rfl) (Nat.le_of_ble_eq_true rfl) dX12_init_730 (fun q5257 K5258 V5259 H hq5260 hK5261 hVn5262 hVo5263 hS => ?_)
  refine W.widen (k := 87) (n := 15552) (Nat.le_of_ble_eq_true rfl) (Nat.le_of_ble_eq_true rfl) ?_
  refine th_putF C hS hnm (MI.kx hMI hq5260 hK5261) fp_RX12_277 rfl rfl dX12_init_732 (fun V5264 H locs1 hV5265 hS => ?_)
  have hMI := MI.newput hMI hq5260 hK5261 hVo5263 hV5265 rfl rfl
  refine lv_aload_n hx hb dX12_init_735 rfl (lv_at hl 0 rfl) ?_
  refine lv_bipush (v := 100) hx hb dX12_init_736 (by decide) ?_
  refine th_put C hS hMI.1 fp_RX12_280 rfl rfl dX12_init_738 (fun V5266 H locs1 hV5267 hS => ?_)
  have hMI := MI.put hMI hV5267 rfl rfl
  refine lv_aload_n hx hb dX12_init_741 rfl (lv_at hl 0 rfl) ?_
  refine lv_bipush (v := 60) hx hb dX12_init_742 (by decide) ?_
  refine th_newa (atype := .int) C hS 0 (by decide) rfl gw_89 (fun _ _ h => h) (N := 60) li_60 (Nat.le_of_ble_eq_true rfl) (Nat.le_of_ble_eq_true rfl) (Nat.le_of_ble_eq_true rfl) dX12_init_744 (fun q5268 K5269 V5270 H hq5271 hK5272 hVn5273 hVo5274 hS => ?_)
  refine W.widen (k := 88) (n := 15612) (Nat.le_of_ble_eq_true rfl) (Nat.le_of_ble_eq_true rfl) ?_
  refine th_putF C hS hnm (MI.kx hMI hq5271 hK5272) fp_RX12_283 rfl rfl dX12_init_746 (fun V5275 H locs1 hV5276 hS => ?_)
  have hMI := MI.newput hMI hq5271 hK5272 hVo5274 hV5276 rfl rfl
  refine lv_aload_n hx hb dX12_init_749 rfl (lv_at hl 0 rfl) ?_
  refine lv_sipush (v := 480) hx hb dX12_init_750 (by decide) ?_
  refine th_newa (atype := .int) C hS 0 (by decide) rfl gw_89 (fun _ _ h => h) (N := 480) li_480 (Nat.le_of_ble_eq_true rfl) (Nat.le_of_ble_eq_true rfl) (Nat.le_of_ble_eq_true rfl) dX12_init_753 (fun q5277 K5278 V5279 H hq5280 hK5281 hVn5282 hVo5283 hS => ?_)
  refine W.widen (k := 89) (n := 16092) (Nat.le_of_ble_eq_true rfl) (Nat.le_of_ble_eq_true rfl) ?_
  refine th_putF C hS hnm (MI.kx hMI hq5280 hK5281) fp_RX12_286 rfl rfl dX12_init_755 (fun V5284 H locs1 hV5285 hS => ?_)
  have hMI := MI.newput hMI hq5280 hK5281 hVo5283 hV5285 rfl rfl
  refine lv_aload_n hx hb dX12_init_758 rfl (lv_at hl 0 rfl) ?_
  refine lv_sipush (v := 480) hx hb dX12_init_759 (by decide) ?_
  refine th_newa (atype := .int) C hS 0 (by decide) rfl gw_89 (fun _ _ h => h) (N := 480) li_480 (Nat.le_of_ble_eq_true rfl) (Nat.le_of_ble_eq_true rfl) (Nat.le_of_ble_eq_true rfl) dX12_init_762 (fun q5286 K5287 V5288 H hq5289 hK5290 hVn5291 hVo5292 hS => ?_)
  refine W.widen (k := 90) (n := 16572) (Nat.le_of_ble_eq_true rfl) (Nat.le_of_ble_eq_true rfl) ?_
  refine th_putF C hS hnm (MI.kx hMI hq5289 hK5290) fp_RX12_289 rfl rfl dX12_init_764 (fun V5293 H locs1 hV5294 hS => ?_)
  have hMI := MI.newput hMI hq5289 hK5290 hVo5292 hV5294 rfl rfl
  refine lv_aload_n hx hb dX12_init_767 rfl (lv_at hl 0 rfl) ?_
  refine lv_bipush (v := 10) hx hb dX12_init_768 (by decide) ?_
  refine th_newa (atype := .int) C hS 0 (by decide) rfl gw_89 (fun _ _ h => h) (N := 10) li_10 (Nat.le_of_ble_eq_true rfl) (Nat.le_of_ble_eq_true rfl) (Nat.le_of_ble_eq_true rfl) dX12_init_770 (fun q5295 K5296 V5297 H hq5298 hK5299 hVn5300 hVo5301 hS => ?_)
  refine W.widen (k := 91) (n := 16582) (Nat.le_of_ble_eq_true rfl) (Nat.le_of_ble_eq_true rfl) ?_
  refine th_putF C hS hnm (MI.kx hMI hq5298 hK5299) fp_RX12_292 rfl rfl dX12_init_772 (fun V5302 H locs1 hV5303 hS => ?_)
  have hMI := MI.newput hMI hq5298 hK5299 hVo5301 hV5303 rfl rfl
  refine lv_aload_n hx hb dX12_init_775 rfl (lv_at hl 0 rfl) ?_
  refine lv_bipush (v := 10) hx hb dX12_init_776 (by decide) ?_
  refine th_newa (atype := .int) C hS 0 (by decide) rfl gw_89 (fun _ _ h => h) (N := 10) li_10 (Nat.le_of_ble_eq_true rfl) (Nat.le_of_ble_eq_true rfl) (Nat.le_of_ble_eq_true rfl) dX12_init_778 (fun q5304 K5305 V5306 H hq5307 hK5308 hVn5309 hVo5310 hS => ?_)
  refine W.widen (k := 92) (n := 16592) (Nat.le_of_ble_eq_true rfl) (Nat.le_of_ble_eq_true rfl) ?_
  refine th_putF C hS hnm (MI.kx hMI hq5307 hK5308) fp_RX12_295 rfl rfl dX12_init_780 (fun V5311 H locs1 hV5312 hS => ?_)
  have hMI := MI.newput hMI hq5307 hK5308 hVo5310 hV5312 rfl rfl
  refine lv_aload_n hx hb dX12_init_783 rfl (lv_at hl 0 rfl) ?_
  refine lv_bipush (v := 10) hx hb dX12_init_784 (by decide) ?_
  refine th_newa (atype := .int) C hS 0 (by decide) rfl gw_89 (fun _ _ h => h) (N := 10) li_10 (Nat.le_of_ble_eq_true rfl) (Nat.le_of_ble_eq_true rfl) (Nat.le_of_ble_eq_true rfl) dX12_init_786 (fun q5313 K5314 V5315 H hq5316 hK5317 hVn5318 hVo5319 hS => ?_)
  refine W.widen (k := 93) (n := 16602) (Nat.le_of_ble_eq_true rfl) (Nat.le_of_ble_eq_true rfl) ?_
  refine th_putF C hS hnm (MI.kx hMI hq5316 hK5317) fp_RX12_298 rfl rfl dX12_init_788 (fun V5320 H locs1 hV5321 hS => ?_)
  have hMI := MI.newput hMI hq5316 hK5317 hVo5319 hV5321 rfl rfl
  refine lv_aload_n hx hb dX12_init_791 rfl (lv_at hl 0 rfl) ?_
  refine lv_bipush (v := 10) hx hb dX12_init_792 (by decide) ?_
  refine th_newa (atype := .int) C hS 0 (by decide) rfl gw_89 (fun _ _ h => h) (N := 10) li_10 (Nat.le_of_ble_eq_true rfl) (Nat.le_of_ble_eq_true rfl) (Nat.le_of_ble_eq_true rfl) dX12_init_794 (fun q5322 K5323 V5324 H hq5325 hK5326 hVn5327 hVo5328 hS => ?_)
  refine W.widen (k := 94) (n := 16612) (Nat.le_of_ble_eq_true rfl) (Nat.le_of_ble_eq_true rfl) ?_
  refine th_putF C hS hnm (MI.kx hMI hq5325 hK5326) fp_RX12_301 rfl rfl dX12_init_796 (fun V5329 H locs1 hV5330 hS => ?_)
  have hMI := MI.newput hMI hq5325 hK5326 hVo5328 hV5330 rfl rfl
  refine lv_aload_n hx hb dX12_init_799 rfl (lv_at hl 0 rfl) ?_
  refine lv_sipush (v := 200) hx hb dX12_init_800 (by decide) ?_
  refine th_newa (atype := .int) C hS 0 (by decide) rfl gw_89 (fun _ _ h => h) (N := 200) li_200 (Nat.le_of_ble_eq_true rfl) (Nat.le_of_ble_eq_true rfl) (Nat.le_of_ble_eq_true rfl) dX12_init_803 (fun q5331 K5332 V5333 H hq5334 hK5335 hVn5336 hVo5337 hS => ?_)
  refine W.widen (k := 95) (n := 16812) (Nat.le_of_ble_eq_true rfl) (Nat.le_of_ble_eq_true rfl) ?_
  refine th_putF C hS hnm (MI.kx hMI hq5334 hK5335) fp_RX12_304 rfl rfl dX12_init_805 (fun V5338 H locs1 hV5339 hS => ?_)
  have hMI := MI.newput hMI hq5334 hK5335 hVo5337 hV5339 rfl rfl
  refine lv_aload_n hx hb dX12_init_808 rfl (lv_at hl 0 rfl) ?_
  refine lv_sipush (v := 200) hx hb dX12_init_809 (by decide) ?_
  refine th_newa (atype := .int) C hS 0 (by decide) rfl gw_89 (fun _ _ h => h) (N := 200) li_200 (Nat.le_of_ble_eq_true rfl) (Nat.le_of_ble_eq_true rfl) (Nat.le_of_ble_eq_true rfl) dX12_init_812 (fun q5340 K5341 V5342 H hq5343 hK5344 hVn5345 hVo5346 hS => ?_)
  refine W.widen (k := 96) (n := 17012) (Nat.le_of_ble_eq_true rfl) (Nat.le_of_ble_eq_true rfl) ?_
  refine th_putF C hS hnm (MI.kx hMI hq5343 hK5344) fp_RX12_307 rfl rfl dX12_init_814 (fun V5347 H locs1 hV5348 hS => ?_)
  have hMI := MI.newput hMI hq5343 hK5344 hVo5346 hV5348 rfl rfl
  refine lv_aload_n hx hb dX12_init_817 rfl (lv_at hl 0 rfl) ?_
  refine lv_sipush (v := 200) hx hb dX12_init_818 (by decide) ?_
  refine th_newa (atype := .int) C hS 0 (by decide) rfl gw_89 (fun _ _ h => h) (N := 200) li_200 (Nat.le_of_ble_eq_true rfl) (Nat.le_of_ble_eq_true rfl) (Nat.le_of_ble_eq_true rfl) dX12_init_821 (fun q5349 K5350 V5351 H hq5352 hK5353 hVn5354 hVo5355 hS => ?_)
  refine W.widen (k := 97) (n := 17212) (Nat.le_of_ble_eq_true rfl) (Nat.le_of_ble_eq_true rfl) ?_
  refine th_putF C hS hnm (MI.kx hMI hq5352 hK5353) fp_RX12_310 rfl rfl dX12_init_823 (fun V5356 H locs1 hV5357 hS => ?_)
  have hMI := MI.newput hMI hq5352 hK5353 hVo5355 hV5357 rfl rfl
  refine lv_aload_n hx hb dX12_init_826 rfl (lv_at hl 0 rfl) ?_
  refine lv_sipush (v := 200) hx hb dX12_init_827 (by decide) ?_
  refine th_newa (atype := .int) C hS 0 (by decide) rfl gw_89 (fun _ _ h => h) (N := 200) li_200 (Nat.le_of_ble_eq_true rfl) (Nat.le_of_ble_eq_true rfl) (Nat.le_of_ble_eq_true rfl) dX12_init_830 (fun q5358 K5359 V5360 H hq5361 hK5362 hVn5363 hVo5364 hS => ?_)
  refine W.widen (k := 98) (n := 17412) (Nat.le_of_ble_eq_true rfl) (Nat.le_of_ble_eq_true rfl) ?_
  refine th_putF C hS hnm (MI.kx hMI hq5361 hK5362) fp_RX12_313 rfl rfl dX12_init_832 (fun V5365 H locs1 hV5366 hS => ?_)
  have hMI := MI.newput hMI hq5361 hK5362 hVo5364 hV5366 rfl rfl
  refine lv_aload_n hx hb dX12_init_835 rfl (lv_at hl 0 rfl) ?_
  refine lv_sipush (v := 200) hx hb dX12_init_836 (by decide) ?_
  refine th_newa (atype := .int) C hS 0 (by decide) rfl gw_89 (fun _ _ h => h) (N := 200) li_200 (Nat.le_of_ble_eq_true rfl) (Nat.le_of_ble_eq_true rfl) (Nat.le_of_ble_eq_true rfl) dX12_init_839 (fun q5367 K5368 V5369 H hq5370 hK5371 hVn5372 hVo5373 hS => ?_)
  refine W.widen (k := 99) (n := 17612) (Nat.le_of_ble_eq_true rfl) (Nat.le_of_ble_eq_true rfl) ?_
  refine th_putF C hS hnm (MI.kx hMI hq5370 hK5371) fp_RX12_316 rfl rfl dX12_init_841 (fun V5374 H locs1 hV5375 hS => ?_)
  have hMI := MI.newput hMI hq5370 hK5371 hVo5373 hV5375 rfl rfl
  refine lv_aload_n hx hb dX12_init_844 rfl (lv_at hl 0 rfl) ?_
  refine lv_bipush (v := 7) hx hb dX12_init_845 (by decide) ?_
  refine th_newa (atype := .int) C hS 0 (by decide) rfl gw_89 (fun _ _ h => h) (N := 7) li_7 (Nat.le_of_ble_eq_true rfl) (Nat.le_of_ble_eq_true rfl) (Nat.le_of_ble_eq_true rfl) dX12_init_847 (fun q5376 K5377 V5378 H hq5379 hK5380 hVn5381 hVo5382 hS => ?_)
  refine W.widen (k := 100) (n := 17619) (Nat.le_of_ble_eq_true rfl) (Nat.le_of_ble_eq_true rfl) ?_
  refine th_putF C hS hnm (MI.kx hMI hq5379 hK5380) fp_RX12_319 rfl rfl dX12_init_849 (fun V5383 H locs1 hV5384 hS => ?_)
  have hMI := MI.newput hMI hq5379 hK5380 hVo5382 hV5384 rfl rfl
  refine lv_aload_n hx hb dX12_init_852 rfl (lv_at hl 0 rfl) ?_
  refine lv_bipush (v := 63) hx hb dX12_init_853 (by decide) ?_
  refine th_newa (atype := .boolean) C hS 3 (by decide) rfl gw_1936 (fun _ _ h => h) (N := 63) li_63 (Nat.le_of_ble_eq_true rfl) (Nat.le_of_ble_eq_true rfl) (Nat.le_of_ble_eq_true rfl) dX12_init_855 (fun q5385 K5386 V5387 H hq5388 hK5389 hVn5390 hVo5391 hS => ?_)
  refine W.widen (k := 101) (n := 17682) (Nat.le_of_ble_eq_true rfl) (Nat.le_of_ble_eq_true rfl) ?_
  refine th_putF C hS hnm (MI.kx hMI hq5388 hK5389) fp_RX12_322 rfl rfl dX12_init_857 (fun V5392 H locs1 hV5393 hS => ?_)
  have hMI := MI.newput hMI hq5388 hK5389 hVo5391 hV5393 rfl rfl
  refine lv_aload_n hx hb dX12_init_860 rfl (lv_at hl 0 rfl) ?_
  refine lv_sipush (v := 441) hx hb dX12_init_861 (by decide) ?_
  refine th_newa (atype := .boolean) C hS 3 (by decide) rfl gw_1936 (fun _ _ h => h) (N := 441) li_441 (Nat.le_of_ble_eq_true rfl) (Nat.le_of_ble_eq_true rfl) (Nat.le_of_ble_eq_true rfl) dX12_init_864 (fun q5394 K5395 V5396 H hq5397 hK5398 hVn5399 hVo5400 hS => ?_)
  refine W.widen (k := 102) (n := 18123) (Nat.le_of_ble_eq_true rfl) (Nat.le_of_ble_eq_true rfl) ?_
  refine th_putF C hS hnm (MI.kx hMI hq5397 hK5398) fp_RX12_325 rfl rfl dX12_init_866 (fun V5401 H locs1 hV5402 hS => ?_)
  have hMI := MI.newput hMI hq5397 hK5398 hVo5400 hV5402 rfl rfl
  refine lv_aload_n hx hb dX12_init_869 rfl (lv_at hl 0 rfl) ?_
  refine lv_bipush (v := 8) hx hb dX12_init_870 (by decide) ?_
  refine th_newa (atype := .int) C hS 0 (by decide) rfl gw_89 (fun _ _ h => h) (N := 8) li_8 (Nat.le_of_ble_eq_true rfl) (Nat.le_of_ble_eq_true rfl) (Nat.le_of_ble_eq_true rfl) dX12_init_872 (fun q5403 K5404 V5405 H hq5406 hK5407 hVn5408 hVo5409 hS => ?_)
  refine W.widen (k := 103) (n := 18131) (Nat.le_of_ble_eq_true rfl) (Nat.le_of_ble_eq_true rfl) ?_
  refine th_putF C hS hnm (MI.kx hMI hq5406 hK5407) fp_RX12_328 rfl rfl dX12_init_874 (fun V5410 H locs1 hV5411 hS => ?_)
  have hMI := MI.newput hMI hq5406 hK5407 hVo5409 hV5411 rfl rfl
  refine lv_aload_n hx hb dX12_init_877 rfl (lv_at hl 0 rfl) ?_
  refine lv_bipush (v := 8) hx hb dX12_init_878 (by decide) ?_
  refine th_newa (atype := .int) C hS 0 (by decide) rfl gw_89 (fun _ _ h => h) (N := 8) li_8 (Nat.le_of_ble_eq_true rfl) (Nat.le_of_ble_eq_true rfl) (Nat.le_of_ble_eq_true rfl) dX12_init_880 (fun q5412 K5413 V5414 H hq5415 hK5416 hVn5417 hVo5418 hS => ?_)
  refine W.widen (k := 104) (n := 18139) (Nat.le_of_ble_eq_true rfl) (Nat.le_of_ble_eq_true rfl) ?_
  refine th_putF C hS hnm (MI.kx hMI hq5415 hK5416) fp_RX12_331 rfl rfl dX12_init_882 (fun V5419 H locs1 hV5420 hS => ?_)
  have hMI := MI.newput hMI hq5415 hK5416 hVo5418 hV5420 rfl rfl
  refine lv_aload_n hx hb dX12_init_885 rfl (lv_at hl 0 rfl) ?_
  refine lv_bipush (v := 24) hx hb dX12_init_886 (by decide) ?_
  refine th_newa (atype := .int) C hS 0 (by decide) rfl gw_89 (fun _ _ h => h) (N := 24) li_24 (Nat.le_of_ble_eq_true rfl) (Nat.le_of_ble_eq_true rfl) (Nat.le_of_ble_eq_true rfl) dX12_init_888 (fun q5421 K5422 V5423 H hq5424 hK5425 hVn5426 hVo5427 hS => ?_)
  refine W.widen (k := 105) (n := 18163) (Nat.le_of_ble_eq_true rfl) (Nat.le_of_ble_eq_true rfl) ?_
  refine th_putF C hS hnm (MI.kx hMI hq5424 hK5425) fp_RX12_334 rfl rfl dX12_init_890 (fun V5428 H locs1 hV5429 hS => ?_)
  have hMI := MI.newput hMI hq5424 hK5425 hVo5427 hV5429 rfl rfl
  refine lv_aload_n hx hb dX12_init_893 rfl (lv_at hl 0 rfl) ?_
  refine lv_bipush (v := 24) hx hb dX12_init_894 (by decide) ?_
  refine th_newa (atype := .int) C hS 0 (by decide) rfl gw_89 (fun _ _ h => h) (N := 24) li_24 (Nat.le_of_ble_eq_true rfl) (Nat.le_of_ble_eq_true rfl) (Nat.le_of_ble_eq_true rfl) dX12_init_896 (fun q5430 K5431 V5432 H hq5433 hK5434 hVn5435 hVo5436 hS => ?_)
  refine W.widen (k := 106) (n := 18187) (Nat.le_of_ble_eq_true rfl) (Nat.le_of_ble_eq_true rfl) ?_
  refine th_putF C hS hnm (MI.kx hMI hq5433 hK5434) fp_RX12_337 rfl rfl dX12_init_898 (fun V5437 H locs1 hV5438 hS => ?_)
  have hMI := MI.newput hMI hq5433 hK5434 hVo5436 hV5438 rfl rfl
  refine lv_aload_n hx hb dX12_init_901 rfl (lv_at hl 0 rfl) ?_
  refine lv_bipush (v := 8) hx hb dX12_init_902 (by decide) ?_
  refine th_newa (atype := .int) C hS 0 (by decide) rfl gw_89 (fun _ _ h => h) (N := 8) li_8 (Nat.le_of_ble_eq_true rfl) (Nat.le_of_ble_eq_true rfl) (Nat.le_of_ble_eq_true rfl) dX12_init_904 (fun q5439 K5440 V5441 H hq5442 hK5443 hVn5444 hVo5445 hS => ?_)
  refine W.widen (k := 107) (n := 18195) (Nat.le_of_ble_eq_true rfl) (Nat.le_of_ble_eq_true rfl) ?_
  refine th_putF C hS hnm (MI.kx hMI hq5442 hK5443) fp_RX12_340 rfl rfl dX12_init_906 (fun V5446 H locs1 hV5447 hS => ?_)
  have hMI := MI.newput hMI hq5442 hK5443 hVo5445 hV5447 rfl rfl
  refine lv_aload_n hx hb dX12_init_909 rfl (lv_at hl 0 rfl) ?_
  refine lv_bipush (v := 8) hx hb dX12_init_910 (by decide) ?_
  refine th_newa (atype := .int) C hS 0 (by decide) rfl gw_89 (fun _ _ h => h) (N := 8) li_8 (Nat.le_of_ble_eq_true rfl) (Nat.le_of_ble_eq_true rfl) (Nat.le_of_ble_eq_true rfl) dX12_init_912 (fun q5448 K5449 V5450 H hq5451 hK5452 hVn5453 hVo5454 hS => ?_)
  refine W.widen (k := 108) (n := 18203) (Nat.le_of_ble_eq_true rfl) (Nat.le_of_ble_eq_true rfl) ?_
  refine th_putF C hS hnm (MI.kx hMI hq5451 hK5452) fp_RX12_343 rfl rfl dX12_init_914 (fun V5455 H locs1 hV5456 hS => ?_)
  have hMI := MI.newput hMI hq5451 hK5452 hVo5454 hV5456 rfl rfl
  refine lv_aload_n hx hb dX12_init_917 rfl (lv_at hl 0 rfl) ?_
  refine lv_sipush (v := 200) hx hb dX12_init_918 (by decide) ?_
  refine th_newa (atype := .int) C hS 0 (by decide) rfl gw_89 (fun _ _ h => h) (N := 200) li_200 (Nat.le_of_ble_eq_true rfl) (Nat.le_of_ble_eq_true rfl) (Nat.le_of_ble_eq_true rfl) dX12_init_921 (fun q5457 K5458 V5459 H hq5460 hK5461 hVn5462 hVo5463 hS => ?_)
  refine W.widen (k := 109) (n := 18403) (Nat.le_of_ble_eq_true rfl) (Nat.le_of_ble_eq_true rfl) ?_
  refine th_putF C hS hnm (MI.kx hMI hq5460 hK5461) fp_RX12_346 rfl rfl dX12_init_923 (fun V5464 H locs1 hV5465 hS => ?_)
  have hMI := MI.newput hMI hq5460 hK5461 hVo5463 hV5465 rfl rfl
  refine lv_aload_n hx hb dX12_init_926 rfl (lv_at hl 0 rfl) ?_
  refine lv_sipush (v := 200) hx hb dX12_init_927 (by decide) ?_
  refine th_newa (atype := .int) C hS 0 (by decide) rfl gw_89 (fun _ _ h => h) (N := 200) li_200 (Nat.le_of_ble_eq_true rfl) (Nat.le_of_ble_eq_true rfl) (Nat.le_of_ble_eq_true rfl) dX12_init_930 (fun q5466 K5467 V5468 H hq5469 hK5470 hVn5471 hVo5472 hS => ?_)
  refine W.widen (k := 110) (n := 18603) (Nat.le_of_ble_eq_true rfl) (Nat.le_of_ble_eq_true rfl) ?_
  refine th_putF C hS hnm (MI.kx hMI hq5469 hK5470) fp_RX12_349 rfl rfl dX12_init_932 (fun V5473 H locs1 hV5474 hS => ?_)
  have hMI := MI.newput hMI hq5469 hK5470 hVo5472 hV5474 rfl rfl
  refine lv_aload_n hx hb dX12_init_935 rfl (lv_at hl 0 rfl) ?_
  refine lv_sipush (v := 200) hx hb dX12_init_936 (by decide) ?_
  refine th_newa (atype := .int) C hS 0 (by decide) rfl gw_89 (fun _ _ h => h) (N := 200) li_200 (Nat.le_of_ble_eq_true rfl) (Nat.le_of_ble_eq_true rfl) (Nat.le_of_ble_eq_true rfl) dX12_init_939 (fun q5475 K5476 V5477 H hq5478 hK5479 hVn5480 hVo5481 hS => ?_)
  refine W.widen (k := 111) (n := 18803) (Nat.le_of_ble_eq_true rfl) (Nat.le_of_ble_eq_true rfl) ?_
  refine th_putF C hS hnm (MI.kx hMI hq5478 hK5479) fp_RX12_352 rfl rfl dX12_init_941 (fun V5482 H locs1 hV5483 hS => ?_)
  have hMI := MI.newput hMI hq5478 hK5479 hVo5481 hV5483 rfl rfl
  refine lv_aload_n hx hb dX12_init_944 rfl (lv_at hl 0 rfl) ?_
  refine lv_sipush (v := 200) hx hb dX12_init_945 (by decide) ?_
  refine th_newa (atype := .int) C hS 0 (by decide) rfl gw_89 (fun _ _ h => h) (N := 200) li_200 (Nat.le_of_ble_eq_true rfl) (Nat.le_of_ble_eq_true rfl) (Nat.le_of_ble_eq_true rfl) dX12_init_948 (fun q5484 K5485 V5486 H hq5487 hK5488 hVn5489 hVo5490 hS => ?_)
  refine W.widen (k := 112) (n := 19003) (Nat.le_of_ble_eq_true rfl) (Nat.le_of_ble_eq_true rfl) ?_
  refine th_putF C hS hnm (MI.kx hMI hq5487 hK5488) fp_RX12_355 rfl rfl dX12_init_950 (fun V5491 H locs1 hV5492 hS => ?_)
  have hMI := MI.newput hMI hq5487 hK5488 hVo5490 hV5492 rfl rfl
  refine lv_aload_n hx hb dX12_init_953 rfl (lv_at hl 0 rfl) ?_
  refine lv_sipush (v := 200) hx hb dX12_init_954 (by decide) ?_
  refine th_newa (atype := .boolean) C hS 3 (by decide) rfl gw_1936 (fun _ _ h => h) (N := 200) li_200 (Nat.le_of_ble_eq_true rfl) (Nat.le_of_ble_eq_true rfl) (Nat.le_of_ble_eq_true rfl) dX12_init_957 (fun q5493 K5494 V5495 H hq5496 hK5497 hVn5498 hVo5499 hS => ?_)
  refine W.widen (k := 113) (n := 19203) (Nat.le_of_ble_eq_true rfl) (Nat.le_of_ble_eq_true rfl) ?_
  refine th_putF C hS hnm (MI.kx hMI hq5496 hK5497) fp_RX12_358 rfl rfl dX12_init_959 (fun V5500 H locs1 hV5501 hS => ?_)
  have hMI := MI.newput hMI hq5496 hK5497 hVo5499 hV5501 rfl rfl
  refine lv_aload_n hx hb dX12_init_962 rfl (lv_at hl 0 rfl) ?_
  refine lv_bipush (v := 8) hx hb dX12_init_963 (by decide) ?_
  refine lv_bipush (v := 8) hx hb dX12_init_965 (by decide) ?_
  obtain ⟨q5502, hv5503, hK5504, hN5505⟩ := hMI.2.1 (5, (1, 144)) (by decide)
  obtain ⟨q5506, hv5507, hK5508, hN5509⟩ := hMI.2.1 (6, (1, 144)) (by decide)
  obtain ⟨q5510, hv5511, hK5512, hN5513⟩ := hMI.2.1 (7, (1, 144)) (by decide)
  obtain ⟨q5514, hv5515, hK5516, hN5517⟩ := hMI.2.1 (8, (1, 144)) (by decide)
  refine th_govH hS rfl (th_runV (As := [.int 8, .int 8]) (rest := []) C hS.1 (RX12, TX12, 151) rfl gV_RX12_361 hMI.1 (t_X12_begins li_8 li_8 hMI.1 hv5503 hK5504 hv5507 hK5508 hv5511 hK5512 hv5515 hK5516) hl rfl rfl rfl rfl ⟨Nat.le_of_ble_eq_true rfl, Nat.le_of_ble_eq_true rfl⟩ (Nat.le_of_ble_eq_true rfl) ⟨Nat.le_of_ble_eq_true rfl, Nat.le_of_ble_eq_true rfl⟩ dX12_init_967) (fun K5520 V5521 H locs1 hq5519 hE5522 hS => ?_)
  obtain ⟨rfl, hF5523, hA5524, hA5525, hA5526⟩ := hq5519
  have hMI := MI.begins hMI hF5523 hN5505 hN5509 hN5513 hN5517 hA5524 hA5525 hA5526 rfl rfl
  obtain ⟨q5528, hv5529, hK5530, hN5531⟩ := hMI.2.1 (106, (1, 4)) (by decide)
  obtain ⟨q5532, hv5533, hK5534, hN5535⟩ := hMI.2.1 (127, (1, 10)) (by decide)
  obtain ⟨q5536, hv5537, hK5538, hN5539⟩ := hMI.2.1 (142, (1, 24)) (by decide)
  obtain ⟨q5540, hv5541, hK5542, hN5543⟩ := hMI.2.1 (27, (1, 600)) (by decide)
  refine lv_iconst (v := 0) hx hb dX12_init_970 (by decide) ?_
  refine lv_istore_n (lv' := [(1, .int 0), (0, .ref x)]) hx hb dX12_init_971 rfl hl (by decide) rfl (fun ls hl => ?_)
  refine th_loop (fun nMeas ls V' H' locs' => ∃ z : Int32, 0 ≤ z.toInt ∧ z.toInt ≤ 4 ∧ nMeas = (4 - z.toInt).toNat ∧ lv_has ls 2 [(0, .ref x), (1, .int z)] ∧ ST D dA K sZ.heap K5494 V' H' locs' ∧ ∀ b, b ≠ q5528 → V' b = V5521 b) _ ⟨0, (by have := li_0; omega), (by have := li_0; omega), rfl, lv_sub hl [1, 0] rfl, hS, fun b _ => rfl⟩ (fun n5544 ls V5548 H locs1 hI5549 ih5545 => ?_)
  obtain ⟨z5546, hz5550, hz5551, hn5552, hl, hS, hinv5547⟩ := hI5549
  refine lv_iload_n hx hb dX12_init_972 rfl (lv_at hl 1 rfl) ?_
  refine lv_iconst (v := 4) hx hb dX12_init_973 (by decide) ?_
  refine th_icmp_ge (X := z5546.toInt) (Y := 4) (tgt := 991) hx hb dX12_init_974 (by decide) rfl li_4 (fun c5553 => ?_) (fun c5553 => ?_)
  · refine lv_iconst (v := 0) hx hb dX12_init_991 (by decide) ?_
    refine lv_istore_n (lv' := [(1, .int 0), (0, .ref x)]) hx hb dX12_init_992 rfl hl (by decide) rfl (fun ls hl => ?_)
    have hv5554 : V5548 x 127 = .ref q5532 := Eq.trans (congrFun (hinv5547 _ (K_ne hMI.1 hK5530 (by decide))) 127) hv5533
    refine th_loop (fun nMeas ls V' H' locs' => ∃ z : Int32, 0 ≤ z.toInt ∧ z.toInt ≤ 10 ∧ nMeas = (10 - z.toInt).toNat ∧ lv_has ls 2 [(0, .ref x), (1, .int z)] ∧ ST D dA K sZ.heap K5494 V' H' locs' ∧ ∀ b, b ≠ q5532 → V' b = V5548 b) _ ⟨0, (by have := li_0; omega), (by have := li_0; omega), rfl, lv_sub hl [1, 0] rfl, hS, fun b _ => rfl⟩ (fun n5555 ls V5559 H locs1 hI5560 ih5556 => ?_)
    obtain ⟨z5557, hz5561, hz5562, hn5563, hl, hS, hinv5558⟩ := hI5560
    refine lv_iload_n hx hb dX12_init_993 rfl (lv_at hl 1 rfl) ?_
    refine lv_bipush (v := 10) hx hb dX12_init_994 (by decide) ?_
    refine th_icmp_ge (X := z5557.toInt) (Y := 10) (tgt := 1013) hx hb dX12_init_996 (by decide) rfl li_10 (fun c5564 => ?_) (fun c5564 => ?_)
    · refine lv_iconst (v := 0) hx hb dX12_init_1013 (by decide) ?_
      refine lv_istore_n (lv' := [(1, .int 0), (0, .ref x)]) hx hb dX12_init_1014 rfl hl (by decide) rfl (fun ls hl => ?_)
      have hv5565 : V5548 x 142 = .ref q5536 := Eq.trans (congrFun (hinv5547 _ (K_ne hMI.1 hK5530 (by decide))) 142) hv5537
      have hv5566 : V5559 x 142 = .ref q5536 := Eq.trans (congrFun (hinv5558 _ (K_ne hMI.1 hK5534 (by decide))) 142) hv5565
      refine th_loop (fun nMeas ls V' H' locs' => ∃ z : Int32, 0 ≤ z.toInt ∧ z.toInt ≤ 24 ∧ nMeas = (24 - z.toInt).toNat ∧ lv_has ls 2 [(0, .ref x), (1, .int z)] ∧ ST D dA K sZ.heap K5494 V' H' locs' ∧ ∀ b, b ≠ q5536 → V' b = V5559 b) _ ⟨0, (by have := li_0; omega), (by have := li_0; omega), rfl, lv_sub hl [1, 0] rfl, hS, fun b _ => rfl⟩ (fun n5567 ls V5571 H locs1 hI5572 ih5568 => ?_)
      obtain ⟨z5569, hz5573, hz5574, hn5575, hl, hS, hinv5570⟩ := hI5572
      refine lv_iload_n hx hb dX12_init_1015 rfl (lv_at hl 1 rfl) ?_
      refine lv_bipush (v := 24) hx hb dX12_init_1016 (by decide) ?_
      refine th_icmp_ge (X := z5569.toInt) (Y := 24) (tgt := 1036) hx hb dX12_init_1018 (by decide) rfl li_24 (fun c5576 => ?_) (fun c5576 => ?_)
      · refine lv_iconst (v := 0) hx hb dX12_init_1036 (by decide) ?_
        refine lv_istore_n (lv' := [(1, .int 0), (0, .ref x)]) hx hb dX12_init_1037 rfl hl (by decide) rfl (fun ls hl => ?_)
        have hv5577 : V5548 x 27 = .ref q5540 := Eq.trans (congrFun (hinv5547 _ (K_ne hMI.1 hK5530 (by decide))) 27) hv5541
        have hv5578 : V5559 x 27 = .ref q5540 := Eq.trans (congrFun (hinv5558 _ (K_ne hMI.1 hK5534 (by decide))) 27) hv5577
        have hv5579 : V5571 x 27 = .ref q5540 := Eq.trans (congrFun (hinv5570 _ (K_ne hMI.1 hK5538 (by decide))) 27) hv5578
        refine th_loop (fun nMeas ls V' H' locs' => ∃ z : Int32, 0 ≤ z.toInt ∧ z.toInt ≤ 600 ∧ nMeas = (600 - z.toInt).toNat ∧ lv_has ls 2 [(0, .ref x), (1, .int z)] ∧ ST D dA K sZ.heap K5494 V' H' locs' ∧ ∀ b, b ≠ q5540 → V' b = V5571 b) _ ⟨0, (by have := li_0; omega), (by have := li_0; omega), rfl, lv_sub hl [1, 0] rfl, hS, fun b _ => rfl⟩ (fun n5580 ls V5584 H locs1 hI5585 ih5581 => ?_)
        obtain ⟨z5582, hz5586, hz5587, hn5588, hl, hS, hinv5583⟩ := hI5585
        refine lv_iload_n hx hb dX12_init_1038 rfl (lv_at hl 1 rfl) ?_
        refine lv_sipush (v := 600) hx hb dX12_init_1039 (by decide) ?_
        refine th_icmp_ge (X := z5582.toInt) (Y := 600) (tgt := 1058) hx hb dX12_init_1042 (by decide) rfl li_600 (fun c5589 => ?_) (fun c5589 => ?_)
        · have hMI := MI.row hMI hp0 (fun b hb => Eq.trans (hinv5583 b (th_bold hb hN5543)) (Eq.trans (hinv5570 b (th_bold hb hN5539)) (Eq.trans (hinv5558 b (th_bold hb hN5535)) ((hinv5547 b (th_bold hb hN5531))))))
          exact th_retvH (post := fun K1 V1 => (∀ b, K b ≠ none → b ≠ x → V1 b = V b) ∧ (FM K1 V1 x)) (cells := 113) (slots := 19203) (mc := 113) (ms := 19203) C hS ⟨hMI.2.2.2.2.1, MI.fm hMI (by decide +kernel) (by decide +kernel) (by decide +kernel)⟩ (Nat.le_of_ble_eq_true rfl) (Nat.le_of_ble_eq_true rfl) dX12_init_1058
        · refine lv_aload_n hx hb dX12_init_1045 rfl (lv_at hl 0 rfl) ?_
          have hv5590 : V5584 x 27 = .ref q5540 := Eq.trans (congrFun (hinv5583 _ (K_ne hMI.1 hK5542 (by decide))) 27) hv5579
          refine th_get C hS.1 hMI.1 fl_RX12_77 hv5590 dX12_init_1046 ?_
          refine lv_iload_n hx hb dX12_init_1049 rfl (lv_at hl 1 rfl) ?_
          refine lv_iconst (v := (-1)) hx hb dX12_init_1050 (by decide) ?_
          refine th_iast C hS hK5542 (by omega) (by omega) dX12_init_1051 (fun V5591 H locs1 hV5592 hS => ?_)
          obtain ⟨z5593, hz5593, ez5593⟩ : ∃ y : Int32, z5582 + Int32.ofInt 1 = y ∧ y.toInt = z5582.toInt + 1 := ⟨_, rfl, th_add rfl (by decide) (by omega) (by omega)⟩
          refine lv_iinc (v := z5593) (lv' := [(1, .int z5593), (0, .ref x)]) hx hb dX12_init_1052 hl (k := 1) rfl hz5593 (by decide) rfl (fun ls hl => ?_)
          refine lv_goto (tgt := 1038) hx hb dX12_init_1055 (by decide) ?_
          have hv5594 : V5591 x 27 = .ref q5540 := Eq.trans (uq_ne hV5592 (Or.inl (K_ne hMI.1 hK5542 (by decide)))) hv5590
          exact ih5581 _ (by rw [ez5593]; omega) _ _ _ _ ⟨z5593, (by rw [ez5593]; omega), (by rw [ez5593]; omega), rfl, lv_sub hl [1, 0] rfl, hS, fun b hm0 => Eq.trans (uq_other hV5592 hm0) (hinv5583 b hm0)⟩
      · refine lv_aload_n hx hb dX12_init_1021 rfl (lv_at hl 0 rfl) ?_
        have hv5595 : V5571 x 142 = .ref q5536 := Eq.trans (congrFun (hinv5570 _ (K_ne hMI.1 hK5538 (by decide))) 142) hv5566
        refine th_get C hS.1 hMI.1 fl_RX12_337 hv5595 dX12_init_1022 ?_
        refine lv_iload_n hx hb dX12_init_1025 rfl (lv_at hl 1 rfl) ?_
        refine lv_sipush (v := 359) hx hb dX12_init_1026 (by decide) ?_
        refine th_iast C hS hK5538 (by omega) (by omega) dX12_init_1029 (fun V5596 H locs1 hV5597 hS => ?_)
        obtain ⟨z5598, hz5598, ez5598⟩ : ∃ y : Int32, z5569 + Int32.ofInt 1 = y ∧ y.toInt = z5569.toInt + 1 := ⟨_, rfl, th_add rfl (by decide) (by omega) (by omega)⟩
        refine lv_iinc (v := z5598) (lv' := [(1, .int z5598), (0, .ref x)]) hx hb dX12_init_1030 hl (k := 1) rfl hz5598 (by decide) rfl (fun ls hl => ?_)
        refine lv_goto (tgt := 1015) hx hb dX12_init_1033 (by decide) ?_
        have hv5599 : V5596 x 142 = .ref q5536 := Eq.trans (uq_ne hV5597 (Or.inl (K_ne hMI.1 hK5538 (by decide)))) hv5595
        exact ih5568 _ (by rw [ez5598]; omega) _ _ _ _ ⟨z5598, (by rw [ez5598]; omega), (by rw [ez5598]; omega), rfl, lv_sub hl [1, 0] rfl, hS, fun b hm0 => Eq.trans (uq_other hV5597 hm0) (hinv5570 b hm0)⟩
    · refine lv_aload_n hx hb dX12_init_999 rfl (lv_at hl 0 rfl) ?_
      have hv5600 : V5559 x 127 = .ref q5532 := Eq.trans (congrFun (hinv5558 _ (K_ne hMI.1 hK5534 (by decide))) 127) hv5554
      refine th_get C hS.1 hMI.1 fl_RX12_301 hv5600 dX12_init_1000 ?_
      refine lv_iload_n hx hb dX12_init_1003 rfl (lv_at hl 1 rfl) ?_
      refine lv_bipush (v := 50) hx hb dX12_init_1004 (by decide) ?_
      refine th_iast C hS hK5534 (by omega) (by omega) dX12_init_1006 (fun V5601 H locs1 hV5602 hS => ?_)
      obtain ⟨z5603, hz5603, ez5603⟩ : ∃ y : Int32, z5557 + Int32.ofInt 1 = y ∧ y.toInt = z5557.toInt + 1 := ⟨_, rfl, th_add rfl (by decide) (by omega) (by omega)⟩
      refine lv_iinc (v := z5603) (lv' := [(1, .int z5603), (0, .ref x)]) hx hb dX12_init_1007 hl (k := 1) rfl hz5603 (by decide) rfl (fun ls hl => ?_)
      refine lv_goto (tgt := 993) hx hb dX12_init_1010 (by decide) ?_
      have hv5604 : V5601 x 127 = .ref q5532 := Eq.trans (uq_ne hV5602 (Or.inl (K_ne hMI.1 hK5534 (by decide)))) hv5600
      exact ih5556 _ (by rw [ez5603]; omega) _ _ _ _ ⟨z5603, (by rw [ez5603]; omega), (by rw [ez5603]; omega), rfl, lv_sub hl [1, 0] rfl, hS, fun b hm0 => Eq.trans (uq_other hV5602 hm0) (hinv5558 b hm0)⟩
  · refine lv_aload_n hx hb dX12_init_977 rfl (lv_at hl 0 rfl) ?_
    have hv5605 : V5548 x 106 = .ref q5528 := Eq.trans (congrFun (hinv5547 _ (K_ne hMI.1 hK5530 (by decide))) 106) hv5529
    refine th_get C hS.1 hMI.1 fl_RX12_244 hv5605 dX12_init_978 ?_
    refine lv_iload_n hx hb dX12_init_981 rfl (lv_at hl 1 rfl) ?_
    refine lv_bipush (v := 10) hx hb dX12_init_982 (by decide) ?_
    refine th_iast C hS hK5530 (by omega) (by omega) dX12_init_984 (fun V5606 H locs1 hV5607 hS => ?_)
    obtain ⟨z5608, hz5608, ez5608⟩ : ∃ y : Int32, z5546 + Int32.ofInt 1 = y ∧ y.toInt = z5546.toInt + 1 := ⟨_, rfl, th_add rfl (by decide) (by omega) (by omega)⟩
    refine lv_iinc (v := z5608) (lv' := [(1, .int z5608), (0, .ref x)]) hx hb dX12_init_985 hl (k := 1) rfl hz5608 (by decide) rfl (fun ls hl => ?_)
    refine lv_goto (tgt := 972) hx hb dX12_init_988 (by decide) ?_
    have hv5609 : V5606 x 106 = .ref q5528 := Eq.trans (uq_ne hV5607 (Or.inl (K_ne hMI.1 hK5530 (by decide)))) hv5605
    exact ih5545 _ (by rw [ez5608]; omega) _ _ _ _ ⟨z5608, (by rw [ez5608]; omega), (by rw [ez5608]; omega), rfl, lv_sub hl [1, 0] rfl, hS, fun b hm0 => Eq.trans (uq_other hV5607 hm0) (hinv5547 b hm0)⟩
