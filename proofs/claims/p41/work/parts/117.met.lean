def mX12_strikes : MRec := (RX12, cX12_strikes, 5, (none : Option Jvm.ClassFile.FieldType), yX12_strikes, 0, 0, 0, 0, 273406340597876490546562778389702670669146178861651554553221325801244124899921990402939147127881728)
def mX12_numberBy : MRec := (RX12, cX12_numberBy, 8, (some .int), yX12_numberBy, 0, 0, 0, 0, 0)
def mX12_binds : MRec := (RX12, cX12_binds, 7, (none : Option Jvm.ClassFile.FieldType), yX12_binds, 1, 27, 0, 0, 410109510896814735819844167584554006003719268292477331829831988701866187349882985604408720691822592)
def mX12_isAsleep : MRec := (RX12, cX12_isAsleep, 3, (some .boolean), yX12_isAsleep, 2, 53, 0, 0, 410109510896814735819844167584554006003719268292477331829831988701866187349882985604408720691822592)
def mX12_claim : MRec := (RX12, cX12_claim, 5, (some .int), yX12_claim, 3, 75, 0, 0, 410109510904647576793298307198501276412031696524059516204890895816287336862877174431570984892891136)
def mX12_title : MRec := (RX12, cX12_title, 3, (some .boolean), yX12_title, 3, 75, 0, 0, 410109510898804028765483314153175534996306551652879156433021379571628043257455623592458854193954816)
def mX12_station : MRec := (RX12, cX12_station, 5, (some .int), yX12_station, 1, 25, 0, 0, 31704356321123898437405618325787580733440040715499445920928070813954656658895037567860736)
set_option maxHeartbeats 1000000 in
theorem t_X12_strikes {K : Kmap} {V : Vmap} {x : Nat} {p0 : Int} (h_x : K x = some (0, 11)) (r_p0 : ir p0) (q_0 : p0 ≥ 0) (q_1 : p0 ≤ 20) : MC mX12_strikes K V [.ref x, ti p0] (VS K (fun V1 => (True) ∧ (RSK V V1 x p0))) := by
  refine MC.start 3 (by decide +kernel) rfl rfl rfl (ls0 := [some (.ref x), some (ti p0), none, none, none]) rfl ?_
  refine GO.useWT (fun hW_0 => ?_)
  refine GO.iconst dX12_strikes_0 ?_
  refine GO.istore_n (ls1 := [some (.ref x), some (ti p0), some (ti 0), none, none]) dX12_strikes_1 rfl rfl rfl ?_
  refine GO.loop1 (fun i1 W => 0 ≤ i1 ∧ i1 ≤ 240 ∧ (RS1 W x i1) ∧ True) (fun i1 => [some (.ref x), some (ti p0), some (ti i1), none, none]) (fun i1 W => (2147483647 - i1).toNat) 0 ⟨by omega, by omega, (by first | exact RS1.beg), trivial⟩ rfl (fun i1 Wi1 hp1612 ih1611 => ?_)
  obtain ⟨l_i1, u_i1, hr1, -⟩ := hp1612
  have r_i1 : ir i1 := ⟨by omega, by omega⟩
  show GO mX12_strikes K V (VS K (fun V1 => (True) ∧ (RSK V V1 x p0))) K Wi1 0 0 2 [some (.ref x), some (ti p0), some (ti i1), none, none] []
  refine GO.iload_n dX12_strikes_2 rfl rfl ?_
  refine GO.bipush dX12_strikes_3 rfl ?_
  refine GO.iload_n dX12_strikes_5 rfl rfl ?_
  refine GO.imul dX12_strikes_6 ?_
  have q1613 : -2147483648 ≤ p0 ∧ p0 ≤ 2147483647 := r_p0
  refine GO.icmp_ge (tgt := 23) dX12_strikes_7 (by decide) r_i1 ⟨by omega, by omega⟩ (fun c1614 => ?_) (fun c1614 => ?_)
  ·
    refine GO.iload_n dX12_strikes_23 rfl rfl ?_
    refine GO.iconst dX12_strikes_24 ?_
    refine GO.isub dX12_strikes_25 ?_
    refine GO.name (fun z1615 hz1616 => ?_)
    refine GO.istore_n (ls1 := [some (.ref x), some (ti p0), some (ti z1615), none, none]) dX12_strikes_26 rfl rfl rfl ?_
    refine GO.loop1 (fun i1617 W => (-1) ≤ i1617 ∧ i1617 ≤ 19 ∧ (i1617 < p0) ∧ (RS2 V W x p0 i1617) ∧ True) (fun i1617 => [some (.ref x), some (ti p0), some (ti i1617), none, none]) (fun i1617 W => (i1617 + 2147483648).toNat) z1615 ⟨by omega, by omega, by omega, (by first | exact RS2.beg hr1 (by omega) (by omega)), trivial⟩ rfl (fun i1617 Wi1617 hp1993 ih1992 => ?_)
    obtain ⟨l_i1617, u_i1617, n_i1617, hr2, -⟩ := hp1993
    have r_i1617 : ir i1617 := ⟨by omega, by omega⟩
    show GO mX12_strikes K V (VS K (fun V1 => (True) ∧ (RSK V V1 x p0))) K Wi1617 0 0 27 [some (.ref x), some (ti p0), some (ti i1617), none, none] []
    refine GO.useFR (fun hFs => ?_)
    have hMT : ∀ L, MTS V x L → MTS Wi1617 x L := fun L h => h.fr hFs ext.rf hW_0 h_x (by decide +kernel)
    have hBB : ∀ u, isb Wi1617 x u = isb V x u := fun u => isb_fr hFs h_x hW_0 (by decide +kernel) (by decide +kernel) u
    refine GO.iload_n dX12_strikes_27 rfl rfl ?_
    refine GO.if_lt (tgt := 129) dX12_strikes_28 (by decide) r_i1617 (fun c1994 => ?_) (fun c1994 => ?_)
    ·
      exact GO.retv rfl rfl dX12_strikes_129 ⟨rfl, rfl, ⟨trivial, RS2.end hr2 (by omega)⟩⟩
    ·
      refine GO.iconst dX12_strikes_31 ?_
      refine GO.istore_n (ls1 := [some (.ref x), some (ti p0), some (ti i1617), some (ti 0), none]) dX12_strikes_32 rfl rfl rfl ?_
      refine GO.loop1 (fun i1995 W => 0 ≤ i1995 ∧ i1995 ≤ 12 ∧ (RS3 V W x p0 i1617 i1995) ∧ True) (fun i1995 => [some (.ref x), some (ti p0), some (ti i1617), some (ti i1995), none]) (fun i1995 W => (2147483647 - i1995).toNat) 0 ⟨by omega, by omega, (by first | exact RS3.beg hr2), trivial⟩ rfl (fun i1995 Wi1995 hp2330 ih2329 => ?_)
      obtain ⟨l_i1995, u_i1995, hr3, -⟩ := hp2330
      have r_i1995 : ir i1995 := ⟨by omega, by omega⟩
      show GO mX12_strikes K V (VS K (fun V1 => (True) ∧ (RSK V V1 x p0))) K Wi1995 0 0 33 [some (.ref x), some (ti p0), some (ti i1617), some (ti i1995), none] []
      refine GO.useFR (fun hFs => ?_)
      have hMT : ∀ L, MTS V x L → MTS Wi1995 x L := fun L h => h.fr hFs ext.rf hW_0 h_x (by decide +kernel)
      have hBB : ∀ u, isb Wi1995 x u = isb V x u := fun u => isb_fr hFs h_x hW_0 (by decide +kernel) (by decide +kernel) u
      refine GO.iload_n dX12_strikes_33 rfl rfl ?_
      refine GO.aload_n dX12_strikes_34 rfl rfl ?_
      refine GO.getA (n := 20) h_x fl_RX12_115 rfl rfl rfl rfl dX12_strikes_35 (fun hv2332 h2331 => ?_)
      refine GO.iload_n dX12_strikes_38 rfl rfl ?_
      refine GO.iald (t := 41) rfl rfl h2331 r_i1617 (by omega) (by omega) dX12_strikes_39 (fun l2333 u2334 => ?_)
      refine GO.icmp_ge (tgt := 123) dX12_strikes_40 (by decide) r_i1995 vi_ir (fun c2335 => ?_) (fun c2335 => ?_)
      ·
        refine GO.iinc (X := i1617) (n := (-1)) (Y := i1617 + (-1)) (ls1 := [some (.ref x), some (ti p0), some (ti (i1617 + (-1))), some (ti i1995), none]) dX12_strikes_123 rfl rfl rfl rfl ?_
        refine GO.goto (tgt := 27) dX12_strikes_126 (by decide) ?_
        refine GO.drop [true, true, true, false, true] rfl ?_
        exact ih1992 (i1617 + (-1)) Wi1995 ⟨by omega, by omega, by omega, (by first | exact RS2.beg hr1 (by omega) (by omega) | exact RS3.e1 hr3 (by omega) hMT (by omega) (by omega) | exact RS3.e2 hr3 (by omega) hBB (by omega) (by omega)), trivial⟩ (by show ((i1617 + (-1)) + 2147483648).toNat < (i1617 + 2147483648).toNat; omega)
      ·
        refine GO.aload_n dX12_strikes_43 rfl rfl ?_
        refine GO.getA (n := 20) h_x fl_RX12_157 rfl rfl rfl rfl dX12_strikes_44 (fun hv2337 h2336 => ?_)
        refine GO.iload_n dX12_strikes_47 rfl rfl ?_
        refine GO.zald (t := 55) rfl rfl h2336 r_i1617 (by omega) (by omega) dX12_strikes_48 (fun l2338 u2339 => ?_)
        refine GO.if_eq (tgt := 123) dX12_strikes_49 (by decide) vi_ir (fun c2340 => ?_) (fun c2340 => ?_)
        ·
          refine GO.iinc (X := i1617) (n := (-1)) (Y := i1617 + (-1)) (ls1 := [some (.ref x), some (ti p0), some (ti (i1617 + (-1))), some (ti i1995), none]) dX12_strikes_123 rfl rfl rfl rfl ?_
          refine GO.goto (tgt := 27) dX12_strikes_126 (by decide) ?_
          refine GO.drop [true, true, true, false, true] rfl ?_
          exact ih1992 (i1617 + (-1)) Wi1995 ⟨by omega, by omega, by omega, (by first | exact RS2.beg hr1 (by omega) (by omega) | exact RS3.e1 hr3 (by omega) hMT (by omega) (by omega) | exact RS3.e2 hr3 (by omega) hBB (by omega) (by omega)), trivial⟩ (by show ((i1617 + (-1)) + 2147483648).toNat < (i1617 + 2147483648).toNat; omega)
        ·
          refine GO.bipush dX12_strikes_52 rfl ?_
          refine GO.iload_n dX12_strikes_54 rfl rfl ?_
          refine GO.imul dX12_strikes_55 ?_
          refine GO.iload_n dX12_strikes_56 rfl rfl ?_
          refine GO.iadd dX12_strikes_57 ?_
          refine GO.name (fun z2341 hz2342 => ?_)
          refine GO.istore (ls1 := [some (.ref x), some (ti p0), some (ti i1617), some (ti i1995), some (ti z2341)]) dX12_strikes_58 rfl rfl ?_
          refine GO.aload_n dX12_strikes_60 rfl rfl ?_
          refine GO.getA (n := 240) h_x fl_RX12_124 rfl rfl rfl rfl dX12_strikes_61 (fun hv2344 h2343 => ?_)
          refine GO.iload dX12_strikes_64 rfl ?_
          refine GO.iald (t := 44) rfl rfl h2343 ⟨by omega, by omega⟩ (by omega) (by omega) dX12_strikes_66 (fun _ _ => ?_)
          refine GO.bipush dX12_strikes_67 rfl ?_
          refine GO.icmp_ne (tgt := 117) dX12_strikes_69 (by decide) vi_ir (ir_c rfl) (fun c2345 => ?_) (fun c2345 => ?_)
          ·
            refine GO.iinc (X := i1995) (n := 1) (Y := i1995 + 1) (ls1 := [some (.ref x), some (ti p0), some (ti i1617), some (ti (i1995 + 1)), some (ti z2341)]) dX12_strikes_117 rfl rfl rfl rfl ?_
            refine GO.goto (tgt := 33) dX12_strikes_120 (by decide) ?_
            refine GO.drop [true, true, true, true, false] rfl ?_
            exact ih2329 (i1995 + 1) Wi1995 ⟨by omega, by omega, (by first | exact RS3.beg hr2 | exact RS3.n1 hr3 (by omega) (by omega) hMT (by assumption) (by omega) (by omega) | exact RS3.n2 hr3 (by omega) (by omega) (by assumption) (by omega) (by omega) | exact RS3.n3 hr3 (by omega) (by omega) hMT (by assumption) (by omega) (by omega) | exact RS3.hit hr3 (by omega) (by omega) hMT hBB (by omega) (by omega) (by assumption) (by omega) (by omega) (by omega) rfl (by assumption) (K_ne h_x (by assumption) (by simp)) (by omega)), trivial⟩ (by show (2147483647 - (i1995 + 1)).toNat < (2147483647 - i1995).toNat; omega)
          ·
            refine GO.aload_n dX12_strikes_72 rfl rfl ?_
            refine GO.getA (n := 240) h_x fl_RX12_160 rfl rfl rfl rfl dX12_strikes_73 (fun hv2347 h2346 => ?_)
            refine GO.iload dX12_strikes_76 rfl ?_
            refine GO.zald (t := 56) rfl rfl h2346 ⟨by omega, by omega⟩ (by omega) (by omega) dX12_strikes_78 (fun l2348 u2349 => ?_)
            refine GO.if_ne (tgt := 117) dX12_strikes_79 (by decide) vi_ir (fun c2350 => ?_) (fun c2350 => ?_)
            ·
              refine GO.iinc (X := i1995) (n := 1) (Y := i1995 + 1) (ls1 := [some (.ref x), some (ti p0), some (ti i1617), some (ti (i1995 + 1)), some (ti z2341)]) dX12_strikes_117 rfl rfl rfl rfl ?_
              refine GO.goto (tgt := 33) dX12_strikes_120 (by decide) ?_
              refine GO.drop [true, true, true, true, false] rfl ?_
              exact ih2329 (i1995 + 1) Wi1995 ⟨by omega, by omega, (by first | exact RS3.beg hr2 | exact RS3.n1 hr3 (by omega) (by omega) hMT (by assumption) (by omega) (by omega) | exact RS3.n2 hr3 (by omega) (by omega) (by assumption) (by omega) (by omega) | exact RS3.n3 hr3 (by omega) (by omega) hMT (by assumption) (by omega) (by omega) | exact RS3.hit hr3 (by omega) (by omega) hMT hBB (by omega) (by omega) (by assumption) (by omega) (by omega) (by omega) rfl (by assumption) (K_ne h_x (by assumption) (by simp)) (by omega)), trivial⟩ (by show (2147483647 - (i1995 + 1)).toNat < (2147483647 - i1995).toNat; omega)
            ·
              refine GO.aload_n dX12_strikes_82 rfl rfl ?_
              refine GO.getA (n := 240) h_x fl_RX12_136 rfl rfl rfl rfl dX12_strikes_83 (fun hv2352 h2351 => ?_)
              refine GO.iload dX12_strikes_86 rfl ?_
              refine GO.iald (t := 48) rfl rfl h2351 ⟨by omega, by omega⟩ (by omega) (by omega) dX12_strikes_88 (fun l2353 u2354 => ?_)
              refine GO.iload_n dX12_strikes_89 rfl rfl ?_
              refine GO.icmp_ge (tgt := 117) dX12_strikes_90 (by decide) vi_ir r_i1617 (fun c2355 => ?_) (fun c2355 => ?_)
              ·
                refine GO.iinc (X := i1995) (n := 1) (Y := i1995 + 1) (ls1 := [some (.ref x), some (ti p0), some (ti i1617), some (ti (i1995 + 1)), some (ti z2341)]) dX12_strikes_117 rfl rfl rfl rfl ?_
                refine GO.goto (tgt := 33) dX12_strikes_120 (by decide) ?_
                refine GO.drop [true, true, true, true, false] rfl ?_
                exact ih2329 (i1995 + 1) Wi1995 ⟨by omega, by omega, (by first | exact RS3.beg hr2 | exact RS3.n1 hr3 (by omega) (by omega) hMT (by assumption) (by omega) (by omega) | exact RS3.n2 hr3 (by omega) (by omega) (by assumption) (by omega) (by omega) | exact RS3.n3 hr3 (by omega) (by omega) hMT (by assumption) (by omega) (by omega) | exact RS3.hit hr3 (by omega) (by omega) hMT hBB (by omega) (by omega) (by assumption) (by omega) (by omega) (by omega) rfl (by assumption) (K_ne h_x (by assumption) (by simp)) (by omega)), trivial⟩ (by show (2147483647 - (i1995 + 1)).toNat < (2147483647 - i1995).toNat; omega)
              ·
                refine GO.aload_n dX12_strikes_93 rfl rfl ?_
                refine GO.getRaw h_x fl_RX12_160 hv2347 dX12_strikes_94 ?_
                refine GO.bipush dX12_strikes_97 rfl ?_
                refine GO.aload_n dX12_strikes_99 rfl rfl ?_
                refine GO.getRaw h_x fl_RX12_136 hv2352 dX12_strikes_100 ?_
                refine GO.iload dX12_strikes_103 rfl ?_
                refine GO.iald (t := 48) rfl rfl h2351 ⟨by omega, by omega⟩ (by omega) (by omega) dX12_strikes_105 (fun l2360 u2361 => ?_)
                refine GO.imul dX12_strikes_106 ?_
                refine GO.aload_n dX12_strikes_107 rfl rfl ?_
                refine GO.getA (n := 240) h_x fl_RX12_139 rfl rfl rfl rfl dX12_strikes_108 (fun hv2363 h2362 => ?_)
                refine GO.iload dX12_strikes_111 rfl ?_
                refine GO.iald (t := 49) rfl rfl h2362 ⟨by omega, by omega⟩ (by omega) (by omega) dX12_strikes_113 (fun l2364 u2365 => ?_)
                refine GO.iadd dX12_strikes_114 ?_
                refine GO.iconst dX12_strikes_115 ?_
                refine GO.zast (t := 56) rfl rfl (by decide +kernel) h2346 ⟨by omega, by omega⟩ (by omega) (by omega) (by omega) (by omega) (by omega) dX12_strikes_116 (fun V2367 e2366 => ?_)
                refine GO.iinc (X := i1995) (n := 1) (Y := i1995 + 1) (ls1 := [some (.ref x), some (ti p0), some (ti i1617), some (ti (i1995 + 1)), some (ti z2341)]) dX12_strikes_117 rfl rfl rfl rfl ?_
                refine GO.goto (tgt := 33) dX12_strikes_120 (by decide) ?_
                refine GO.drop [true, true, true, true, false] rfl ?_
                exact ih2329 (i1995 + 1) V2367 ⟨by omega, by omega, (by first | exact RS3.beg hr2 | exact RS3.n1 hr3 (by omega) (by omega) hMT (by assumption) (by omega) (by omega) | exact RS3.n2 hr3 (by omega) (by omega) (by assumption) (by omega) (by omega) | exact RS3.n3 hr3 (by omega) (by omega) hMT (by assumption) (by omega) (by omega) | exact RS3.hit hr3 (by omega) (by omega) hMT hBB (by omega) (by omega) (by assumption) (by omega) (by omega) (by omega) rfl (by assumption) (K_ne h_x (by assumption) (by simp)) (by omega)), trivial⟩ (by show (2147483647 - (i1995 + 1)).toNat < (2147483647 - i1995).toNat; omega)
  ·
    refine GO.aload_n dX12_strikes_10 rfl rfl ?_
    refine GO.getA (n := 240) h_x fl_RX12_160 rfl rfl rfl rfl dX12_strikes_11 (fun hv2369 h2368 => ?_)
    refine GO.iload_n dX12_strikes_14 rfl rfl ?_
    refine GO.iconst dX12_strikes_15 ?_
    refine GO.zast (t := 56) rfl rfl (by decide +kernel) h2368 r_i1 (by omega) (by omega) (by omega) (by omega) (by omega) dX12_strikes_16 (fun V2371 e2370 => ?_)
    refine GO.iinc (X := i1) (n := 1) (Y := i1 + 1) (ls1 := [some (.ref x), some (ti p0), some (ti (i1 + 1)), none, none]) dX12_strikes_17 rfl rfl rfl rfl ?_
    refine GO.goto (tgt := 2) dX12_strikes_20 (by decide) ?_
    exact ih1611 (i1 + 1) V2371 ⟨by omega, by omega, (by first | exact RS1.beg | exact RS1.step hr1 (by assumption) (K_ne h_x (by assumption) (by simp)) (by omega) (by omega)), trivial⟩ (by show (2147483647 - (i1 + 1)).toNat < (2147483647 - i1).toNat; omega)

set_option maxHeartbeats 1000000 in
theorem t_X12_numberBy {K : Kmap} {V : Vmap} {x : Nat} {p0 : Int} {p1 : Int} {p2 : Int} {p3 : Int} (h_x : K x = some (0, 11)) (r_p0 : ir p0) (r_p1 : ir p1) (r_p2 : ir p2) (r_p3 : ir p3) (q_0 : p3 ≥ 0) (q_1 : p3 ≤ 20) : MC mX12_numberBy K V [.ref x, ti p0, ti p1, ti p2, ti p3] (IP K V (fun X => (X ≥ (-2147483648) ∧ X ≤ 2147483647) ∧ (NMB V x p0 p1 p2 p3 X))) := by
  refine MC.start 3 (by decide +kernel) rfl rfl rfl (ls0 := [some (.ref x), some (ti p0), some (ti p1), some (ti p2), some (ti p3), none, none, none]) rfl ?_
  refine GO.iload dX12_numberBy_0 rfl ?_
  refine GO.iconst dX12_numberBy_2 ?_
  refine GO.isub dX12_numberBy_3 ?_
  refine GO.name (fun z1 hz2 => ?_)
  refine GO.istore (ls1 := [some (.ref x), some (ti p0), some (ti p1), some (ti p2), some (ti p3), some (ti z1), none, none]) dX12_numberBy_4 rfl rfl ?_
  have q4 : -2147483648 ≤ p3 ∧ p3 ≤ 2147483647 := r_p3
  refine GO.loop1 (fun i3 W => (-1) ≤ i3 ∧ i3 ≤ 19 ∧ (i3 < p3) ∧ (NB1 V x p0 p1 p2 p3 i3) ∧ V = W) (fun i3 => [some (.ref x), some (ti p0), some (ti p1), some (ti p2), some (ti p3), some (ti i3), none, none]) (fun i3 W => (i3 + 2147483648).toNat) z1 ⟨by omega, by omega, by omega, (by first | exact NB1.beg (by omega) (by omega)), rfl⟩ rfl (fun i3 V74 hp76 ih75 => ?_)
  obtain ⟨l_i3, u_i3, n_i3, hn1, rfl⟩ := hp76
  have r_i3 : ir i3 := ⟨by omega, by omega⟩
  show GO mX12_numberBy K V (IP K V (fun X => (X ≥ (-2147483648) ∧ X ≤ 2147483647) ∧ (NMB V x p0 p1 p2 p3 X))) K V 0 0 6 [some (.ref x), some (ti p0), some (ti p1), some (ti p2), some (ti p3), some (ti i3), none, none] []
  refine GO.iload dX12_numberBy_6 rfl ?_
  refine GO.if_lt (tgt := 110) dX12_numberBy_8 (by decide) r_i3 (fun c77 => ?_) (fun c77 => ?_)
  ·
    refine GO.iconst dX12_numberBy_110 ?_
    exact GO.reti rfl rfl dX12_numberBy_111 ⟨rfl, rfl, _, rfl, (ir_c rfl), ⟨(by first | exact trivial | omega), (by first | exact NMB.none hn1 (by omega) rfl)⟩⟩
  ·
    refine GO.aload_n dX12_numberBy_11 rfl rfl ?_
    refine GO.getA (n := 20) h_x fl_RX12_115 rfl rfl rfl rfl dX12_numberBy_12 (fun hv79 h78 => ?_)
    refine GO.iload dX12_numberBy_15 rfl ?_
    refine GO.iald (t := 41) rfl rfl h78 r_i3 (by omega) (by omega) dX12_numberBy_17 (fun l80 u81 => ?_)
    refine GO.iconst dX12_numberBy_18 ?_
    refine GO.isub dX12_numberBy_19 ?_
    refine GO.name (fun z82 hz83 => ?_)
    refine GO.istore (ls1 := [some (.ref x), some (ti p0), some (ti p1), some (ti p2), some (ti p3), some (ti i3), some (ti z82), none]) dX12_numberBy_20 rfl rfl ?_
    refine GO.loop1 (fun i84 W => (-1) ≤ i84 ∧ i84 ≤ 11 ∧ (NB2 V x p0 p1 p2 p3 i3 i84) ∧ V = W) (fun i84 => [some (.ref x), some (ti p0), some (ti p1), some (ti p2), some (ti p3), some (ti i3), some (ti i84), none]) (fun i84 W => (i84 + 2147483648).toNat) z82 ⟨by omega, by omega, (by first | exact NB2.beg (by omega) (by omega) (by omega)), rfl⟩ rfl (fun i84 V114 hp116 ih115 => ?_)
    obtain ⟨l_i84, u_i84, hn2, rfl⟩ := hp116
    have r_i84 : ir i84 := ⟨by omega, by omega⟩
    show GO mX12_numberBy K V (IP K V (fun X => (X ≥ (-2147483648) ∧ X ≤ 2147483647) ∧ (NMB V x p0 p1 p2 p3 X))) K V 0 0 22 [some (.ref x), some (ti p0), some (ti p1), some (ti p2), some (ti p3), some (ti i3), some (ti i84), none] []
    refine GO.iload dX12_numberBy_22 rfl ?_
    refine GO.if_lt (tgt := 104) dX12_numberBy_24 (by decide) r_i84 (fun c117 => ?_) (fun c117 => ?_)
    ·
      refine GO.iinc (X := i3) (n := (-1)) (Y := i3 + (-1)) (ls1 := [some (.ref x), some (ti p0), some (ti p1), some (ti p2), some (ti p3), some (ti (i3 + (-1))), some (ti i84), none]) dX12_numberBy_104 rfl rfl rfl rfl ?_
      refine GO.goto (tgt := 6) dX12_numberBy_107 (by decide) ?_
      refine GO.drop [true, true, true, true, true, true, false, true] rfl ?_
      exact ih75 (i3 + (-1)) V ⟨by omega, by omega, by omega, (by first | exact NB1.beg (by omega) (by omega) | exact NB1.step hn1 hn2 (by omega) (by omega) (by omega) | exact NB1.skip hn1 (by omega) (by omega) (by omega)), rfl⟩ (by show ((i3 + (-1)) + 2147483648).toNat < (i3 + 2147483648).toNat; omega)
    ·
      refine GO.aload_n dX12_numberBy_27 rfl rfl ?_
      refine GO.getA (n := 20) h_x fl_RX12_157 rfl rfl rfl rfl dX12_numberBy_28 (fun hv119 h118 => ?_)
      refine GO.iload dX12_numberBy_31 rfl ?_
      refine GO.zald (t := 55) rfl rfl h118 r_i3 (by omega) (by omega) dX12_numberBy_33 (fun l120 u121 => ?_)
      refine GO.if_eq (tgt := 104) dX12_numberBy_34 (by decide) vi_ir (fun c122 => ?_) (fun c122 => ?_)
      ·
        refine GO.iinc (X := i3) (n := (-1)) (Y := i3 + (-1)) (ls1 := [some (.ref x), some (ti p0), some (ti p1), some (ti p2), some (ti p3), some (ti (i3 + (-1))), some (ti i84), none]) dX12_numberBy_104 rfl rfl rfl rfl ?_
        refine GO.goto (tgt := 6) dX12_numberBy_107 (by decide) ?_
        refine GO.drop [true, true, true, true, true, true, false, true] rfl ?_
        exact ih75 (i3 + (-1)) V ⟨by omega, by omega, by omega, (by first | exact NB1.beg (by omega) (by omega) | exact NB1.step hn1 hn2 (by omega) (by omega) (by omega) | exact NB1.skip hn1 (by omega) (by omega) (by omega)), rfl⟩ (by show ((i3 + (-1)) + 2147483648).toNat < (i3 + 2147483648).toNat; omega)
      ·
        refine GO.bipush dX12_numberBy_37 rfl ?_
        refine GO.iload dX12_numberBy_39 rfl ?_
        refine GO.imul dX12_numberBy_41 ?_
        refine GO.iload dX12_numberBy_42 rfl ?_
        refine GO.iadd dX12_numberBy_44 ?_
        refine GO.name (fun z123 hz124 => ?_)
        refine GO.istore (ls1 := [some (.ref x), some (ti p0), some (ti p1), some (ti p2), some (ti p3), some (ti i3), some (ti i84), some (ti z123)]) dX12_numberBy_45 rfl rfl ?_
        refine GO.aload_n dX12_numberBy_47 rfl rfl ?_
        refine GO.getA (n := 240) h_x fl_RX12_124 rfl rfl rfl rfl dX12_numberBy_48 (fun hv126 h125 => ?_)
        refine GO.iload dX12_numberBy_51 rfl ?_
        refine GO.iald (t := 44) rfl rfl h125 ⟨by omega, by omega⟩ (by omega) (by omega) dX12_numberBy_53 (fun _ _ => ?_)
        refine GO.iload_n dX12_numberBy_54 rfl rfl ?_
        refine GO.icmp_ne (tgt := 98) dX12_numberBy_55 (by decide) vi_ir r_p0 (fun c127 => ?_) (fun c127 => ?_)
        ·
          refine GO.iinc (X := i84) (n := (-1)) (Y := i84 + (-1)) (ls1 := [some (.ref x), some (ti p0), some (ti p1), some (ti p2), some (ti p3), some (ti i3), some (ti (i84 + (-1))), some (ti z123)]) dX12_numberBy_98 rfl rfl rfl rfl ?_
          refine GO.goto (tgt := 22) dX12_numberBy_101 (by decide) ?_
          refine GO.drop [true, true, true, true, true, true, true, false] rfl ?_
          exact ih115 (i84 + (-1)) V ⟨by omega, by omega, (by first | exact NB2.beg (by omega) (by omega) (by omega) | exact NB2.n0 hn2 (by omega) (by omega) (by omega) (by assumption) (by omega) (by omega) | exact NB2.ns hn2 (by omega) (by omega) (by omega) (by assumption) (by omega) (by omega) | exact NB2.na hn2 (by omega) (by omega) (by omega) (by assumption) (by omega) (by omega) | exact NB2.nb hn2 (by omega) (by omega) (by omega) (by assumption) (by omega) (by omega)), rfl⟩ (by show ((i84 + (-1)) + 2147483648).toNat < (i84 + 2147483648).toNat; omega)
        ·
          refine GO.aload_n dX12_numberBy_58 rfl rfl ?_
          refine GO.getA (n := 240) h_x fl_RX12_160 rfl rfl rfl rfl dX12_numberBy_59 (fun hv129 h128 => ?_)
          refine GO.iload dX12_numberBy_62 rfl ?_
          refine GO.zald (t := 56) rfl rfl h128 ⟨by omega, by omega⟩ (by omega) (by omega) dX12_numberBy_64 (fun l130 u131 => ?_)
          refine GO.if_ne (tgt := 98) dX12_numberBy_65 (by decide) vi_ir (fun c132 => ?_) (fun c132 => ?_)
          ·
            refine GO.iinc (X := i84) (n := (-1)) (Y := i84 + (-1)) (ls1 := [some (.ref x), some (ti p0), some (ti p1), some (ti p2), some (ti p3), some (ti i3), some (ti (i84 + (-1))), some (ti z123)]) dX12_numberBy_98 rfl rfl rfl rfl ?_
            refine GO.goto (tgt := 22) dX12_numberBy_101 (by decide) ?_
            refine GO.drop [true, true, true, true, true, true, true, false] rfl ?_
            exact ih115 (i84 + (-1)) V ⟨by omega, by omega, (by first | exact NB2.beg (by omega) (by omega) (by omega) | exact NB2.n0 hn2 (by omega) (by omega) (by omega) (by assumption) (by omega) (by omega) | exact NB2.ns hn2 (by omega) (by omega) (by omega) (by assumption) (by omega) (by omega) | exact NB2.na hn2 (by omega) (by omega) (by omega) (by assumption) (by omega) (by omega) | exact NB2.nb hn2 (by omega) (by omega) (by omega) (by assumption) (by omega) (by omega)), rfl⟩ (by show ((i84 + (-1)) + 2147483648).toNat < (i84 + 2147483648).toNat; omega)
          ·
            refine GO.aload_n dX12_numberBy_68 rfl rfl ?_
            refine GO.getA (n := 240) h_x fl_RX12_136 rfl rfl rfl rfl dX12_numberBy_69 (fun hv134 h133 => ?_)
            refine GO.iload dX12_numberBy_72 rfl ?_
            refine GO.iald (t := 48) rfl rfl h133 ⟨by omega, by omega⟩ (by omega) (by omega) dX12_numberBy_74 (fun l135 u136 => ?_)
            refine GO.iload_n dX12_numberBy_75 rfl rfl ?_
            refine GO.icmp_ne (tgt := 98) dX12_numberBy_76 (by decide) vi_ir r_p1 (fun c137 => ?_) (fun c137 => ?_)
            ·
              refine GO.iinc (X := i84) (n := (-1)) (Y := i84 + (-1)) (ls1 := [some (.ref x), some (ti p0), some (ti p1), some (ti p2), some (ti p3), some (ti i3), some (ti (i84 + (-1))), some (ti z123)]) dX12_numberBy_98 rfl rfl rfl rfl ?_
              refine GO.goto (tgt := 22) dX12_numberBy_101 (by decide) ?_
              refine GO.drop [true, true, true, true, true, true, true, false] rfl ?_
              exact ih115 (i84 + (-1)) V ⟨by omega, by omega, (by first | exact NB2.beg (by omega) (by omega) (by omega) | exact NB2.n0 hn2 (by omega) (by omega) (by omega) (by assumption) (by omega) (by omega) | exact NB2.ns hn2 (by omega) (by omega) (by omega) (by assumption) (by omega) (by omega) | exact NB2.na hn2 (by omega) (by omega) (by omega) (by assumption) (by omega) (by omega) | exact NB2.nb hn2 (by omega) (by omega) (by omega) (by assumption) (by omega) (by omega)), rfl⟩ (by show ((i84 + (-1)) + 2147483648).toNat < (i84 + 2147483648).toNat; omega)
            ·
              refine GO.aload_n dX12_numberBy_79 rfl rfl ?_
              refine GO.getA (n := 240) h_x fl_RX12_139 rfl rfl rfl rfl dX12_numberBy_80 (fun hv139 h138 => ?_)
              refine GO.iload dX12_numberBy_83 rfl ?_
              refine GO.iald (t := 49) rfl rfl h138 ⟨by omega, by omega⟩ (by omega) (by omega) dX12_numberBy_85 (fun l140 u141 => ?_)
              refine GO.iload_n dX12_numberBy_86 rfl rfl ?_
              refine GO.icmp_ne (tgt := 98) dX12_numberBy_87 (by decide) vi_ir r_p2 (fun c142 => ?_) (fun c142 => ?_)
              ·
                refine GO.iinc (X := i84) (n := (-1)) (Y := i84 + (-1)) (ls1 := [some (.ref x), some (ti p0), some (ti p1), some (ti p2), some (ti p3), some (ti i3), some (ti (i84 + (-1))), some (ti z123)]) dX12_numberBy_98 rfl rfl rfl rfl ?_
                refine GO.goto (tgt := 22) dX12_numberBy_101 (by decide) ?_
                refine GO.drop [true, true, true, true, true, true, true, false] rfl ?_
                exact ih115 (i84 + (-1)) V ⟨by omega, by omega, (by first | exact NB2.beg (by omega) (by omega) (by omega) | exact NB2.n0 hn2 (by omega) (by omega) (by omega) (by assumption) (by omega) (by omega) | exact NB2.ns hn2 (by omega) (by omega) (by omega) (by assumption) (by omega) (by omega) | exact NB2.na hn2 (by omega) (by omega) (by omega) (by assumption) (by omega) (by omega) | exact NB2.nb hn2 (by omega) (by omega) (by omega) (by assumption) (by omega) (by omega)), rfl⟩ (by show ((i84 + (-1)) + 2147483648).toNat < (i84 + 2147483648).toNat; omega)
              ·
                refine GO.aload_n dX12_numberBy_90 rfl rfl ?_
                refine GO.getA (n := 240) h_x fl_RX12_133 rfl rfl rfl rfl dX12_numberBy_91 (fun hv144 h143 => ?_)
                refine GO.iload dX12_numberBy_94 rfl ?_
                refine GO.iald (t := 47) rfl rfl h143 ⟨by omega, by omega⟩ (by omega) (by omega) dX12_numberBy_96 (fun _ _ => ?_)
                have q145 : -2147483648 ≤ vi V (vq V x 56) (z123).toNat ∧ vi V (vq V x 56) (z123).toNat ≤ 2147483647 := vi_ir
                exact GO.reti rfl rfl dX12_numberBy_97 ⟨rfl, rfl, _, rfl, vi_ir, ⟨(by first | exact trivial | omega), (by first | exact NMB.none hn1 (by omega) rfl | exact NMB.hit hn1 hn2 (by omega) (by omega) (by omega) (by omega) (by assumption) (by omega) (by omega) (by omega) (by omega) rfl)⟩⟩

set_option maxHeartbeats 1000000 in
theorem t_X12_binds {K : Kmap} {V : Vmap} {x : Nat} {p0 : Int} {p1 : Int} (h_x : K x = some (0, 11)) (r_p0 : ir p0) (r_p1 : ir p1) (q_0 : p0 ≥ 0) (q_1 : p0 ≤ 8) : MC mX12_binds K V [.ref x, ti p0, ti p1] (VS K (fun V1 => (True) ∧ (RBD V V1 x p0 p1))) := by
  refine MC.start 4 (by decide +kernel) rfl rfl rfl (ls0 := [some (.ref x), some (ti p0), some (ti p1), none, none, none, none]) rfl ?_
  refine GO.useWT (fun hW_0 => ?_)
  refine GO.iconst dX12_binds_0 ?_
  refine GO.istore_n (ls1 := [some (.ref x), some (ti p0), some (ti p1), some (ti 0), none, none, none]) dX12_binds_1 rfl rfl rfl ?_
  refine GO.loop1 (fun i1 W => 0 ≤ i1 ∧ i1 ≤ 20 ∧ (RB1 V W x p0 p1 i1) ∧ True) (fun i1 => [some (.ref x), some (ti p0), some (ti p1), some (ti i1), none, none, none]) (fun i1 W => (2147483647 - i1).toNat) 0 ⟨by omega, by omega, (by first | exact RB1.beg | exact RB1.nf hrb hMT (by omega) (by omega) (by omega) (by assumption) (K_ne h_x (by assumption) (by simp)) (by omega) | exact RB1.ny hrb (by omega) (by omega) hYY (by omega) (by assumption) (K_ne h_x (by assumption) (by simp)) (by omega) | exact RB1.g (g1 := 0) (by assumption) hrb hMT hMT2 (by omega) (by omega) (by omega) ⟨by omega, by omega⟩ hYY (by assumption) (by omega) (by omega) (by omega) rw58 hBB2 rw67 (Or.inl ⟨by omega, rfl⟩) (by assumption) (by constructor <;> intro _ <;> omega) (ir_c rfl) (K_ne h_x (by assumption) (by simp)) (by omega) | exact RB1.ga (by assumption) hrb hMT hMT2 (by omega) (by omega) (by omega) ⟨by omega, by omega⟩ hYY (by assumption) (by omega) (by omega) (by omega) rw58 hBB2 rw67 (by omega) (by assumption) (by constructor <;> intro _ <;> omega) (ir_c rfl) (K_ne h_x (by assumption) (by simp)) (by omega)), trivial⟩ rfl (fun i1 Wi1 hp600 ih599 => ?_)
  obtain ⟨l_i1, u_i1, hrb, -⟩ := hp600
  have r_i1 : ir i1 := ⟨by omega, by omega⟩
  show GO mX12_binds K V (VS K (fun V1 => (True) ∧ (RBD V V1 x p0 p1))) K Wi1 0 0 2 [some (.ref x), some (ti p0), some (ti p1), some (ti i1), none, none, none] []
  refine GO.useFR (fun hFs => ?_)
  have hMT : ∀ L, MTS V x L → MTS Wi1 x L := fun L h => h.fr hFs ext.rf hW_0 h_x (by decide +kernel)
  have hYY : ∀ q u, yrm Wi1 x q u = yrm V x q u := (YMS.fr hFs ext.rf hW_0 h_x (by decide +kernel)).2
  refine GO.useWT (fun hWh => ?_)
  refine GO.iload_n dX12_binds_2 rfl rfl ?_
  refine GO.aload_n dX12_binds_3 rfl rfl ?_
  refine GO.getI h_x fl_RX12_535 rfl rfl dX12_binds_4 (fun l601 u602 => ?_)
  refine GO.icmp_ge (tgt := 122) dX12_binds_7 (by decide) r_i1 vi_ir (fun c603 => ?_) (fun c603 => ?_)
  ·
    refine GO.aload_n dX12_binds_122 rfl rfl ?_
    refine GO.aload_n dX12_binds_123 rfl rfl ?_
    refine GO.getI h_x fl_RX12_535 rfl rfl dX12_binds_124 (fun l604 u605 => ?_)
    refine GO.callV (ci := 11) (N := mX12_strikes) dX12_binds_127 (RX12, TX12, 151) rfl gV_RX12_550 h_x (t_X12_strikes h_x vi_ir (by omega) (by omega)) rfl [] rfl rfl (Nat.le_of_ble_eq_true rfl) rfl (k_vs fun V608 h607 hF606 => ?_)
    have raw_strikes := h607.2
    have rw127 := h607.2
    refine GO.useFR (fun hFs => ?_)
    have hMT2 : ∀ L, MTS V x L → MTS V608 x L := fun L h => h.fr hFs ext.rf hW_0 h_x (by decide +kernel)
    have hBB2 := isb_fr (V1 := V608) (m := x) hF606 h_x hWh (by decide +kernel) (by decide +kernel)
    exact GO.retv rfl rfl dX12_binds_130 ⟨rfl, rfl, ⟨trivial, RBD.mk hrb hMT hMT2 (by omega) hBB2 rw127⟩⟩
  ·
    refine GO.iload_n dX12_binds_10 rfl rfl ?_
    refine GO.aload_n dX12_binds_11 rfl rfl ?_
    refine GO.getA (n := 20) h_x fl_RX12_118 rfl rfl rfl rfl dX12_binds_12 (fun hv610 h609 => ?_)
    refine GO.iload_n dX12_binds_15 rfl rfl ?_
    refine GO.iald (t := 42) rfl rfl h609 r_i1 (by omega) (by omega) dX12_binds_16 (fun _ _ => ?_)
    refine GO.aload_n dX12_binds_17 rfl rfl ?_
    refine GO.getA (n := 20) h_x fl_RX12_121 rfl rfl rfl rfl dX12_binds_18 (fun hv612 h611 => ?_)
    refine GO.iload_n dX12_binds_21 rfl rfl ?_
    refine GO.iald (t := 43) rfl rfl h611 r_i1 (by omega) (by omega) dX12_binds_22 (fun _ _ => ?_)
    refine GO.callS (N := mX12_in) dX12_binds_23 gS_RX12_371 (t_X12_in r_p1 vi_ir vi_ir) rfl [] rfl rfl (Nat.le_of_ble_eq_true rfl) rfl (k_ip fun X613 r614 h615 => ?_)
    have raw_in := h615.2.2.2
    have rw23 := h615.2.2.2
    refine GO.istore (ls1 := [some (.ref x), some (ti p0), some (ti p1), some (ti i1), some (ti X613), none, none]) dX12_binds_26 rfl rfl ?_
    refine GO.aload_n dX12_binds_28 rfl rfl ?_
    refine GO.getA (n := 180) h_x fl_RX12_142 rfl rfl rfl rfl dX12_binds_29 (fun hv617 h616 => ?_)
    refine GO.bipush dX12_binds_32 rfl ?_
    refine GO.iload_n dX12_binds_34 rfl rfl ?_
    refine GO.imul dX12_binds_35 ?_
    refine GO.iload_n dX12_binds_36 rfl rfl ?_
    refine GO.iadd dX12_binds_37 ?_
    have q618 : -2147483648 ≤ p0 ∧ p0 ≤ 2147483647 := r_p0
    refine GO.iald (t := 50) rfl rfl h616 ⟨by omega, by omega⟩ (by omega) (by omega) dX12_binds_38 (fun l619 u620 => ?_)
    refine GO.name (fun z621 hz622 => ?_)
    have r623 : ir z621 := hz622 ▸ vi_ir
    refine GO.istore (ls1 := [some (.ref x), some (ti p0), some (ti p1), some (ti i1), some (ti X613), some (ti z621), none]) dX12_binds_39 rfl rfl ?_
    refine GO.iload_n dX12_binds_41 rfl rfl ?_
    refine GO.if_le (tgt := 101) dX12_binds_42 (by decide) r_i1 (fun c624 => ?_) (fun c624 => ?_)
    ·
      refine GO.iload_n dX12_binds_101 rfl rfl ?_
      refine GO.if_le (tgt := 108) dX12_binds_102 (by decide) r_i1 (fun c625 => ?_) (fun h => by exfalso; omega)
      refine GO.aload_n dX12_binds_108 rfl rfl ?_
      refine GO.getA (n := 20) h_x fl_RX12_157 rfl rfl rfl rfl dX12_binds_109 (fun hv627 h626 => ?_)
      refine GO.iload_n dX12_binds_112 rfl rfl ?_
      refine GO.iload dX12_binds_113 rfl ?_
      refine GO.zast (t := 55) rfl rfl (by decide +kernel) h626 r_i1 (by omega) (by omega) (by omega) (by omega) (by omega) dX12_binds_115 (fun V629 e628 => ?_)
      refine GO.iinc (X := i1) (n := 1) (Y := i1 + 1) (ls1 := [some (.ref x), some (ti p0), some (ti p1), some (ti (i1 + 1)), some (ti X613), some (ti z621), none]) dX12_binds_116 rfl rfl rfl rfl ?_
      refine GO.goto (tgt := 2) dX12_binds_119 (by decide) ?_
      refine GO.drop [true, true, true, true, false, false, true] rfl ?_
      exact ih599 (i1 + 1) V629 ⟨by omega, by omega, (by first | exact RB1.beg | exact RB1.zz (by assumption) hrb hMT (by omega) (by omega) rw23 (by assumption) (K_ne h_x (by assumption) (by simp)) (by omega) | exact RB1.nf hrb hMT (by omega) (by omega) (by omega) (by assumption) (K_ne h_x (by assumption) (by simp)) (by omega) | exact RB1.ny hrb (by omega) (by omega) hYY (by omega) (by assumption) (K_ne h_x (by assumption) (by simp)) (by omega) | exact RB1.g (g1 := 0) (by assumption) hrb hMT hMT2 (by omega) (by omega) (by omega) ⟨by omega, by omega⟩ hYY (by assumption) (by omega) (by omega) (by omega) rw58 hBB2 rw67 (Or.inl ⟨by omega, rfl⟩) (by assumption) (by constructor <;> intro _ <;> omega) (ir_c rfl) (K_ne h_x (by assumption) (by simp)) (by omega) | exact RB1.ga (by assumption) hrb hMT hMT2 (by omega) (by omega) (by omega) ⟨by omega, by omega⟩ hYY (by assumption) (by omega) (by omega) (by omega) rw58 hBB2 rw67 (by omega) (by assumption) (by constructor <;> intro _ <;> omega) (ir_c rfl) (K_ne h_x (by assumption) (by simp)) (by omega)), trivial⟩ (by show (2147483647 - (i1 + 1)).toNat < (2147483647 - i1).toNat; omega)
    ·
      refine GO.iload dX12_binds_45 rfl ?_
      refine GO.if_eq (tgt := 101) dX12_binds_47 (by decide) r614 (fun c630 => ?_) (fun c630 => ?_)
      ·
        have q631 := h615.2.2.1 (by omega)
        refine GO.iload_n dX12_binds_101 rfl rfl ?_
        refine GO.if_le (tgt := 108) dX12_binds_102 (by decide) r_i1 (fun h => by exfalso; omega) (fun c632 => ?_)
        refine GO.iconst dX12_binds_105 ?_
        refine GO.istore (ls1 := [some (.ref x), some (ti p0), some (ti p1), some (ti i1), some (ti 0), some (ti z621), none]) dX12_binds_106 rfl rfl ?_
        refine GO.aload_n dX12_binds_108 rfl rfl ?_
        refine GO.getA (n := 20) h_x fl_RX12_157 rfl rfl rfl rfl dX12_binds_109 (fun hv634 h633 => ?_)
        refine GO.iload_n dX12_binds_112 rfl rfl ?_
        refine GO.iload dX12_binds_113 rfl ?_
        refine GO.zast (t := 55) rfl rfl (by decide +kernel) h633 r_i1 (by omega) (by omega) (by omega) (by omega) (by omega) dX12_binds_115 (fun V636 e635 => ?_)
        refine GO.iinc (X := i1) (n := 1) (Y := i1 + 1) (ls1 := [some (.ref x), some (ti p0), some (ti p1), some (ti (i1 + 1)), some (ti 0), some (ti z621), none]) dX12_binds_116 rfl rfl rfl rfl ?_
        refine GO.goto (tgt := 2) dX12_binds_119 (by decide) ?_
        refine GO.drop [true, true, true, true, false, false, true] rfl ?_
        exact ih599 (i1 + 1) V636 ⟨by omega, by omega, (by first | exact RB1.beg | exact RB1.zz (by assumption) hrb hMT (by omega) (by omega) rw23 (by assumption) (K_ne h_x (by assumption) (by simp)) (by omega) | exact RB1.nf hrb hMT (by omega) (by omega) (by omega) (by assumption) (K_ne h_x (by assumption) (by simp)) (by omega) | exact RB1.ny hrb (by omega) (by omega) hYY (by omega) (by assumption) (K_ne h_x (by assumption) (by simp)) (by omega) | exact RB1.g (g1 := 0) (by assumption) hrb hMT hMT2 (by omega) (by omega) (by omega) ⟨by omega, by omega⟩ hYY (by assumption) (by omega) (by omega) (by omega) rw58 hBB2 rw67 (Or.inl ⟨by omega, rfl⟩) (by assumption) (by constructor <;> intro _ <;> omega) (ir_c rfl) (K_ne h_x (by assumption) (by simp)) (by omega) | exact RB1.ga (by assumption) hrb hMT hMT2 (by omega) (by omega) (by omega) ⟨by omega, by omega⟩ hYY (by assumption) (by omega) (by omega) (by omega) rw58 hBB2 rw67 (by omega) (by assumption) (by constructor <;> intro _ <;> omega) (ir_c rfl) (K_ne h_x (by assumption) (by simp)) (by omega)), trivial⟩ (by show (2147483647 - (i1 + 1)).toNat < (2147483647 - i1).toNat; omega)
      ·
        have q637 := h615.2.1 (by omega)
        refine GO.iload dX12_binds_50 rfl ?_
        refine GO.iconst dX12_binds_52 ?_
        refine GO.icmp_eq (tgt := 101) dX12_binds_53 (by decide) r623 (ir_c rfl) (fun c638 => ?_) (fun c638 => ?_)
        ·
          refine GO.iload_n dX12_binds_101 rfl rfl ?_
          refine GO.if_le (tgt := 108) dX12_binds_102 (by decide) r_i1 (fun h => by exfalso; omega) (fun c639 => ?_)
          refine GO.iconst dX12_binds_105 ?_
          refine GO.istore (ls1 := [some (.ref x), some (ti p0), some (ti p1), some (ti i1), some (ti 0), some (ti z621), none]) dX12_binds_106 rfl rfl ?_
          refine GO.aload_n dX12_binds_108 rfl rfl ?_
          refine GO.getA (n := 20) h_x fl_RX12_157 rfl rfl rfl rfl dX12_binds_109 (fun hv641 h640 => ?_)
          refine GO.iload_n dX12_binds_112 rfl rfl ?_
          refine GO.iload dX12_binds_113 rfl ?_
          refine GO.zast (t := 55) rfl rfl (by decide +kernel) h640 r_i1 (by omega) (by omega) (by omega) (by omega) (by omega) dX12_binds_115 (fun V643 e642 => ?_)
          refine GO.iinc (X := i1) (n := 1) (Y := i1 + 1) (ls1 := [some (.ref x), some (ti p0), some (ti p1), some (ti (i1 + 1)), some (ti 0), some (ti z621), none]) dX12_binds_116 rfl rfl rfl rfl ?_
          refine GO.goto (tgt := 2) dX12_binds_119 (by decide) ?_
          refine GO.drop [true, true, true, true, false, false, true] rfl ?_
          exact ih599 (i1 + 1) V643 ⟨by omega, by omega, (by first | exact RB1.beg | exact RB1.zz (by assumption) hrb hMT (by omega) (by omega) rw23 (by assumption) (K_ne h_x (by assumption) (by simp)) (by omega) | exact RB1.nf hrb hMT (by omega) (by omega) (by omega) (by assumption) (K_ne h_x (by assumption) (by simp)) (by omega) | exact RB1.ny hrb (by omega) (by omega) hYY (by omega) (by assumption) (K_ne h_x (by assumption) (by simp)) (by omega) | exact RB1.g (g1 := 0) (by assumption) hrb hMT hMT2 (by omega) (by omega) (by omega) ⟨by omega, by omega⟩ hYY (by assumption) (by omega) (by omega) (by omega) rw58 hBB2 rw67 (Or.inl ⟨by omega, rfl⟩) (by assumption) (by constructor <;> intro _ <;> omega) (ir_c rfl) (K_ne h_x (by assumption) (by simp)) (by omega) | exact RB1.ga (by assumption) hrb hMT hMT2 (by omega) (by omega) (by omega) ⟨by omega, by omega⟩ hYY (by assumption) (by omega) (by omega) (by omega) rw58 hBB2 rw67 (by omega) (by assumption) (by constructor <;> intro _ <;> omega) (ir_c rfl) (K_ne h_x (by assumption) (by simp)) (by omega)), trivial⟩ (by show (2147483647 - (i1 + 1)).toNat < (2147483647 - i1).toNat; omega)
        ·
          refine GO.aload_n dX12_binds_56 rfl rfl ?_
          refine GO.iload_n dX12_binds_57 rfl rfl ?_
          refine GO.callV (ci := 11) (N := mX12_strikes) dX12_binds_58 (RX12, TX12, 151) rfl gV_RX12_550 h_x (t_X12_strikes h_x r_i1 (by omega) (by omega)) rfl [] rfl rfl (Nat.le_of_ble_eq_true rfl) rfl (k_vs fun V646 h645 hF644 => ?_)
          have raw_strikes := h645.2
          have rw58 := h645.2
          refine GO.useFR (fun hFs => ?_)
          have hMT2 : ∀ L, MTS V x L → MTS V646 x L := fun L h => h.fr hFs ext.rf hW_0 h_x (by decide +kernel)
          have hBB2 := isb_fr (V1 := V646) (m := x) hF644 h_x hWh (by decide +kernel) (by decide +kernel)
          refine GO.aload_n dX12_binds_61 rfl rfl ?_
          refine GO.bipush dX12_binds_62 rfl ?_
          refine GO.iconst dX12_binds_64 ?_
          refine GO.iconst dX12_binds_65 ?_
          refine GO.iload_n dX12_binds_66 rfl rfl ?_
          refine GO.callV (ci := 11) (N := mX12_numberBy) dX12_binds_67 (RX12, TX12, 151) rfl gV_RX12_553 h_x (t_X12_numberBy h_x (ir_c rfl) (ir_c rfl) (ir_c rfl) r_i1 (by omega) (by omega)) rfl [] rfl rfl (Nat.le_of_ble_eq_true rfl) rfl (k_ip fun X647 r648 h649 => ?_)
          have raw_numberBy := h649.2
          have rw67 := h649.2
          refine GO.istore (ls1 := [some (.ref x), some (ti p0), some (ti p1), some (ti i1), some (ti X613), some (ti z621), some (ti X647)]) dX12_binds_70 rfl rfl ?_
          refine GO.iload_n dX12_binds_72 rfl rfl ?_
          refine GO.iload dX12_binds_73 rfl ?_
          refine GO.isub dX12_binds_75 ?_
          refine GO.norm (fun z650 r651 hn652 => ?_)
          refine GO.iload dX12_binds_76 rfl ?_
          refine GO.iconst dX12_binds_78 ?_
          refine GO.icmp_ne (tgt := 86) dX12_binds_79 (by decide) r648 (ir_c rfl) (fun c653 => ?_) (fun c653 => ?_)
          ·
            refine GO.iload dX12_binds_86 rfl ?_
            refine GO.icmp_lt (tgt := 95) dX12_binds_88 (by decide) r651 r648 (fun c654 => ?_) (fun c654 => ?_)
            ·
              refine GO.iconst dX12_binds_95 ?_
              refine GO.istore (ls1 := [some (.ref x), some (ti p0), some (ti p1), some (ti i1), some (ti 0), some (ti z621), some (ti X647)]) dX12_binds_96 rfl rfl ?_
              refine GO.goto (tgt := 108) dX12_binds_98 (by decide) ?_
              refine GO.aload_n dX12_binds_108 rfl rfl ?_
              refine GO.getA (n := 20) h_x fl_RX12_157 rfl rfl rfl rfl dX12_binds_109 (fun hv656 h655 => ?_)
              refine GO.iload_n dX12_binds_112 rfl rfl ?_
              refine GO.iload dX12_binds_113 rfl ?_
              refine GO.zast (t := 55) rfl rfl (by decide +kernel) h655 r_i1 (by omega) (by omega) (by omega) (by omega) (by omega) dX12_binds_115 (fun V658 e657 => ?_)
              refine GO.iinc (X := i1) (n := 1) (Y := i1 + 1) (ls1 := [some (.ref x), some (ti p0), some (ti p1), some (ti (i1 + 1)), some (ti 0), some (ti z621), some (ti X647)]) dX12_binds_116 rfl rfl rfl rfl ?_
              refine GO.goto (tgt := 2) dX12_binds_119 (by decide) ?_
              refine GO.drop [true, true, true, true, false, false, false] rfl ?_
              exact ih599 (i1 + 1) V658 ⟨by omega, by omega, (by first | exact RB1.beg | exact RB1.zz (by assumption) hrb hMT (by omega) (by omega) rw23 (by assumption) (K_ne h_x (by assumption) (by simp)) (by omega) | exact RB1.nf hrb hMT (by omega) (by omega) (by omega) (by assumption) (K_ne h_x (by assumption) (by simp)) (by omega) | exact RB1.ny hrb (by omega) (by omega) hYY (by omega) (by assumption) (K_ne h_x (by assumption) (by simp)) (by omega) | exact RB1.g (g1 := 0) (by assumption) hrb hMT hMT2 (by omega) (by omega) (by omega) ⟨by omega, by omega⟩ hYY (by assumption) (by omega) (by omega) (by omega) rw58 hBB2 rw67 (Or.inl ⟨by omega, rfl⟩) (by assumption) (by constructor <;> intro _ <;> omega) (ir_c rfl) (K_ne h_x (by assumption) (by simp)) (by omega) | exact RB1.ga (by assumption) hrb hMT hMT2 (by omega) (by omega) (by omega) ⟨by omega, by omega⟩ hYY (by assumption) (by omega) (by omega) (by omega) rw58 hBB2 rw67 (by omega) (by assumption) (by constructor <;> intro _ <;> omega) (ir_c rfl) (K_ne h_x (by assumption) (by simp)) (by omega)), trivial⟩ (by show (2147483647 - (i1 + 1)).toNat < (2147483647 - i1).toNat; omega)
            ·
              refine GO.iconst dX12_binds_91 ?_
              refine GO.goto (tgt := 96) dX12_binds_92 (by decide) ?_
              refine GO.istore (ls1 := [some (.ref x), some (ti p0), some (ti p1), some (ti i1), some (ti 1), some (ti z621), some (ti X647)]) dX12_binds_96 rfl rfl ?_
              refine GO.goto (tgt := 108) dX12_binds_98 (by decide) ?_
              refine GO.aload_n dX12_binds_108 rfl rfl ?_
              refine GO.getA (n := 20) h_x fl_RX12_157 rfl rfl rfl rfl dX12_binds_109 (fun hv660 h659 => ?_)
              refine GO.iload_n dX12_binds_112 rfl rfl ?_
              refine GO.iload dX12_binds_113 rfl ?_
              refine GO.zast (t := 55) rfl rfl (by decide +kernel) h659 r_i1 (by omega) (by omega) (by omega) (by omega) (by omega) dX12_binds_115 (fun V662 e661 => ?_)
              refine GO.iinc (X := i1) (n := 1) (Y := i1 + 1) (ls1 := [some (.ref x), some (ti p0), some (ti p1), some (ti (i1 + 1)), some (ti 1), some (ti z621), some (ti X647)]) dX12_binds_116 rfl rfl rfl rfl ?_
              refine GO.goto (tgt := 2) dX12_binds_119 (by decide) ?_
              refine GO.drop [true, true, true, true, false, false, false] rfl ?_
              exact ih599 (i1 + 1) V662 ⟨by omega, by omega, (by first | exact RB1.beg | exact RB1.zz (by assumption) hrb hMT (by omega) (by omega) rw23 (by assumption) (K_ne h_x (by assumption) (by simp)) (by omega) | exact RB1.nf hrb hMT (by omega) (by omega) (by omega) (by assumption) (K_ne h_x (by assumption) (by simp)) (by omega) | exact RB1.ny hrb (by omega) (by omega) hYY (by omega) (by assumption) (K_ne h_x (by assumption) (by simp)) (by omega) | exact RB1.g (g1 := 0) (by assumption) hrb hMT hMT2 (by omega) (by omega) (by omega) ⟨by omega, by omega⟩ hYY (by assumption) (by omega) (by omega) (by omega) rw58 hBB2 rw67 (Or.inl ⟨by omega, rfl⟩) (by assumption) (by constructor <;> intro _ <;> omega) (ir_c rfl) (K_ne h_x (by assumption) (by simp)) (by omega) | exact RB1.ga (by assumption) hrb hMT hMT2 (by omega) (by omega) (by omega) ⟨by omega, by omega⟩ hYY (by assumption) (by omega) (by omega) (by omega) rw58 hBB2 rw67 (by omega) (by assumption) (by constructor <;> intro _ <;> omega) (ir_c rfl) (K_ne h_x (by assumption) (by simp)) (by omega)), trivial⟩ (by show (2147483647 - (i1 + 1)).toNat < (2147483647 - i1).toNat; omega)
          ·
            refine GO.iconst dX12_binds_82 ?_
            refine GO.goto (tgt := 88) dX12_binds_83 (by decide) ?_
            refine GO.icmp_lt (tgt := 95) dX12_binds_88 (by decide) r651 (ir_c rfl) (fun c663 => ?_) (fun c663 => ?_)
            ·
              refine GO.iconst dX12_binds_95 ?_
              refine GO.istore (ls1 := [some (.ref x), some (ti p0), some (ti p1), some (ti i1), some (ti 0), some (ti z621), some (ti X647)]) dX12_binds_96 rfl rfl ?_
              refine GO.goto (tgt := 108) dX12_binds_98 (by decide) ?_
              refine GO.aload_n dX12_binds_108 rfl rfl ?_
              refine GO.getA (n := 20) h_x fl_RX12_157 rfl rfl rfl rfl dX12_binds_109 (fun hv665 h664 => ?_)
              refine GO.iload_n dX12_binds_112 rfl rfl ?_
              refine GO.iload dX12_binds_113 rfl ?_
              refine GO.zast (t := 55) rfl rfl (by decide +kernel) h664 r_i1 (by omega) (by omega) (by omega) (by omega) (by omega) dX12_binds_115 (fun V667 e666 => ?_)
              refine GO.iinc (X := i1) (n := 1) (Y := i1 + 1) (ls1 := [some (.ref x), some (ti p0), some (ti p1), some (ti (i1 + 1)), some (ti 0), some (ti z621), some (ti X647)]) dX12_binds_116 rfl rfl rfl rfl ?_
              refine GO.goto (tgt := 2) dX12_binds_119 (by decide) ?_
              refine GO.drop [true, true, true, true, false, false, false] rfl ?_
              exact ih599 (i1 + 1) V667 ⟨by omega, by omega, (by first | exact RB1.beg | exact RB1.zz (by assumption) hrb hMT (by omega) (by omega) rw23 (by assumption) (K_ne h_x (by assumption) (by simp)) (by omega) | exact RB1.nf hrb hMT (by omega) (by omega) (by omega) (by assumption) (K_ne h_x (by assumption) (by simp)) (by omega) | exact RB1.ny hrb (by omega) (by omega) hYY (by omega) (by assumption) (K_ne h_x (by assumption) (by simp)) (by omega) | exact RB1.g (g1 := 0) (by assumption) hrb hMT hMT2 (by omega) (by omega) (by omega) ⟨by omega, by omega⟩ hYY (by assumption) (by omega) (by omega) (by omega) rw58 hBB2 rw67 (Or.inl ⟨by omega, rfl⟩) (by assumption) (by constructor <;> intro _ <;> omega) (ir_c rfl) (K_ne h_x (by assumption) (by simp)) (by omega) | exact RB1.ga (by assumption) hrb hMT hMT2 (by omega) (by omega) (by omega) ⟨by omega, by omega⟩ hYY (by assumption) (by omega) (by omega) (by omega) rw58 hBB2 rw67 (by omega) (by assumption) (by constructor <;> intro _ <;> omega) (ir_c rfl) (K_ne h_x (by assumption) (by simp)) (by omega)), trivial⟩ (by show (2147483647 - (i1 + 1)).toNat < (2147483647 - i1).toNat; omega)
            ·
              refine GO.iconst dX12_binds_91 ?_
              refine GO.goto (tgt := 96) dX12_binds_92 (by decide) ?_
              refine GO.istore (ls1 := [some (.ref x), some (ti p0), some (ti p1), some (ti i1), some (ti 1), some (ti z621), some (ti X647)]) dX12_binds_96 rfl rfl ?_
              refine GO.goto (tgt := 108) dX12_binds_98 (by decide) ?_
              refine GO.aload_n dX12_binds_108 rfl rfl ?_
              refine GO.getA (n := 20) h_x fl_RX12_157 rfl rfl rfl rfl dX12_binds_109 (fun hv669 h668 => ?_)
              refine GO.iload_n dX12_binds_112 rfl rfl ?_
              refine GO.iload dX12_binds_113 rfl ?_
              refine GO.zast (t := 55) rfl rfl (by decide +kernel) h668 r_i1 (by omega) (by omega) (by omega) (by omega) (by omega) dX12_binds_115 (fun V671 e670 => ?_)
              refine GO.iinc (X := i1) (n := 1) (Y := i1 + 1) (ls1 := [some (.ref x), some (ti p0), some (ti p1), some (ti (i1 + 1)), some (ti 1), some (ti z621), some (ti X647)]) dX12_binds_116 rfl rfl rfl rfl ?_
              refine GO.goto (tgt := 2) dX12_binds_119 (by decide) ?_
              refine GO.drop [true, true, true, true, false, false, false] rfl ?_
              exact ih599 (i1 + 1) V671 ⟨by omega, by omega, (by first | exact RB1.beg | exact RB1.zz (by assumption) hrb hMT (by omega) (by omega) rw23 (by assumption) (K_ne h_x (by assumption) (by simp)) (by omega) | exact RB1.nf hrb hMT (by omega) (by omega) (by omega) (by assumption) (K_ne h_x (by assumption) (by simp)) (by omega) | exact RB1.ny hrb (by omega) (by omega) hYY (by omega) (by assumption) (K_ne h_x (by assumption) (by simp)) (by omega) | exact RB1.g (g1 := 0) (by assumption) hrb hMT hMT2 (by omega) (by omega) (by omega) ⟨by omega, by omega⟩ hYY (by assumption) (by omega) (by omega) (by omega) rw58 hBB2 rw67 (Or.inl ⟨by omega, rfl⟩) (by assumption) (by constructor <;> intro _ <;> omega) (ir_c rfl) (K_ne h_x (by assumption) (by simp)) (by omega) | exact RB1.ga (by assumption) hrb hMT hMT2 (by omega) (by omega) (by omega) ⟨by omega, by omega⟩ hYY (by assumption) (by omega) (by omega) (by omega) rw58 hBB2 rw67 (by omega) (by assumption) (by constructor <;> intro _ <;> omega) (ir_c rfl) (K_ne h_x (by assumption) (by simp)) (by omega)), trivial⟩ (by show (2147483647 - (i1 + 1)).toNat < (2147483647 - i1).toNat; omega)

set_option maxHeartbeats 1000000 in
theorem t_X12_isAsleep {K : Kmap} {V : Vmap} {x : Nat} {p0 : Int} {p1 : Int} (h_x : K x = some (0, 11)) (r_p0 : ir p0) (r_p1 : ir p1) (q_0 : p0 ≥ 0) (q_1 : p0 ≤ 8) : MC mX12_isAsleep K V [.ref x, ti p0, ti p1] (IS K (fun X V1 => (X = 0 ∨ X = 1) ∧ (X ≠ 0 → True) ∧ (X = 0 → True) ∧ (RSL V V1 x p0 p1 X))) := by
  refine MC.start 0 (by decide +kernel) rfl rfl rfl (ls0 := [some (.ref x), some (ti p0), some (ti p1)]) rfl ?_
  refine GO.aload_n dX12_isAsleep_0 rfl rfl ?_
  refine GO.iload_n dX12_isAsleep_1 rfl rfl ?_
  refine GO.iload_n dX12_isAsleep_2 rfl rfl ?_
  have q1 : -2147483648 ≤ p0 ∧ p0 ≤ 2147483647 := r_p0
  refine GO.callV (ci := 11) (N := mX12_binds) dX12_isAsleep_3 (RX12, TX12, 151) rfl gV_RX12_557 h_x (t_X12_binds h_x r_p0 r_p1 (by omega) (by omega)) rfl [] rfl rfl (Nat.le_of_ble_eq_true rfl) rfl (k_vs fun V4 h3 hF2 => ?_)
  have raw_binds := h3.2
  have rw3 := h3.2
  refine GO.aload_n dX12_isAsleep_6 rfl rfl ?_
  refine GO.bipush dX12_isAsleep_7 rfl ?_
  refine GO.iconst dX12_isAsleep_9 ?_
  refine GO.iconst dX12_isAsleep_10 ?_
  refine GO.aload_n dX12_isAsleep_11 rfl rfl ?_
  refine GO.getI h_x fl_RX12_535 rfl rfl dX12_isAsleep_12 (fun l5 u6 => ?_)
  refine GO.callV (ci := 11) (N := mX12_numberBy) dX12_isAsleep_15 (RX12, TX12, 151) rfl gV_RX12_553 h_x (t_X12_numberBy h_x (ir_c rfl) (ir_c rfl) (ir_c rfl) vi_ir (by omega) (by omega)) rfl [] rfl rfl (Nat.le_of_ble_eq_true rfl) rfl (k_ip fun X8 r9 h10 => ?_)
  have raw_numberBy := h10.2
  have rw15 := h10.2
  refine GO.iconst dX12_isAsleep_18 ?_
  refine GO.icmp_eq (tgt := 26) dX12_isAsleep_19 (by decide) r9 (ir_c rfl) (fun c11 => ?_) (fun c11 => ?_)
  ·
    refine GO.iconst dX12_isAsleep_26 ?_
    exact GO.retz rfl rfl dX12_isAsleep_27 (Or.inl rfl) ⟨rfl, _, rfl, (ir_c rfl), ⟨Or.inl rfl, fun _ => trivial, fun _ => trivial, ⟨_, RNM.mk rw3 rw15, (by constructor <;> intro _ <;> omega)⟩⟩⟩
  ·
    refine GO.iconst dX12_isAsleep_22 ?_
    refine GO.goto (tgt := 27) dX12_isAsleep_23 (by decide) ?_
    exact GO.retz rfl rfl dX12_isAsleep_27 (Or.inr rfl) ⟨rfl, _, rfl, (ir_c rfl), ⟨Or.inr rfl, fun _ => trivial, fun _ => trivial, ⟨_, RNM.mk rw3 rw15, (by constructor <;> intro _ <;> omega)⟩⟩⟩

set_option maxHeartbeats 1000000 in
theorem t_X12_claim {K : Kmap} {V : Vmap} {x : Nat} {p0 : Int} {p1 : Int} {p2 : Int} {p3 : Int} (h_x : K x = some (0, 11)) (r_p0 : ir p0) (r_p1 : ir p1) (r_p2 : ir p2) (r_p3 : ir p3) (w_0 : PX0 V x) : MC mX12_claim K V [.ref x, ti p0, ti p1, ti p2, ti p3] (IS K (fun X V1 => (X ≥ (-2147483648) ∧ X ≤ 2147483647) ∧ (PX0 V1 x) ∧ (MCL V V1 x p0 p1 p2 p3 X))) := by
  refine MC.start 0 (by decide +kernel) rfl rfl rfl (ls0 := [some (.ref x), some (ti p0), some (ti p1), some (ti p2), some (ti p3)]) rfl ?_
  refine GO.useWT (fun hW1 => ?_)
  have ak2 := hW1.arr h_x 13 15 (by decide) rfl (by decide)
  have ak3 := hW1.arr h_x 14 16 (by decide) rfl (by decide)
  refine GO.useWT (fun hW_0 => ?_)
  refine GO.aload_n dX12_claim_0 rfl rfl ?_
  refine GO.iload_n dX12_claim_1 rfl rfl ?_
  refine GO.callV (ci := 11) (N := mX12_isParty) dX12_claim_2 (RX12, TX12, 151) rfl gV_RX12_406 h_x (t_X12_isParty h_x r_p0) rfl [] rfl rfl (Nat.le_of_ble_eq_true rfl) rfl (k_ip fun X4 r5 h6 => ?_)
  refine GO.if_eq (tgt := 50) dX12_claim_5 (by decide) r5 (fun c7 => ?_) (fun c7 => ?_)
  ·
    have q8 := h6.2.2 (by omega)
    refine GO.iconst dX12_claim_50 ?_
    exact GO.reti rfl rfl dX12_claim_51 ⟨rfl, _, rfl, (ir_c rfl), ⟨(by first | exact trivial | omega), (by first | exact w_0 | exact PX0.mk w_0 (by omega) (rfl : ar 13 V x = ar 13 V x) (rfl : ar 14 V x = ar 14 V x)), (by first | exact MCL.no (Or.inl fun g => by have h8 := g.1; have h7 := g.2.1; omega) rfl | exact MCL.no (Or.inl fun g => by have h9 := g.2.2.2; omega) rfl | exact MCL.no (Or.inr (by omega)) rfl)⟩⟩
  ·
    have q9 := h6.2.1 (by omega)
    refine GO.aload_n dX12_claim_8 rfl rfl ?_
    refine GO.iload_n dX12_claim_9 rfl rfl ?_
    refine GO.iload_n dX12_claim_10 rfl rfl ?_
    refine GO.callV (ci := 11) (N := mX12_isRectangle) dX12_claim_11 (RX12, TX12, 151) rfl gV_RX12_415 h_x (t_X12_isRectangle h_x r_p1 r_p2) rfl [] rfl rfl (Nat.le_of_ble_eq_true rfl) rfl (k_ip fun X10 r11 h12 => ?_)
    have raw_isRectangle := h12.2.2.2
    have rw11 := h12.2.2.2
    refine GO.if_eq (tgt := 50) dX12_claim_14 (by decide) r11 (fun c13 => ?_) (fun c13 => ?_)
    ·
      refine GO.iconst dX12_claim_50 ?_
      exact GO.reti rfl rfl dX12_claim_51 ⟨rfl, _, rfl, (ir_c rfl), ⟨(by first | exact trivial | omega), (by first | exact w_0 | exact PX0.mk w_0 (by omega) (rfl : ar 13 V x = ar 13 V x) (rfl : ar 14 V x = ar 14 V x)), (by first | exact MCL.no (Or.inl fun g => by have h8 := g.1; have h7 := g.2.1; omega) rfl | exact MCL.no (Or.inl fun g => absurd (rw11.mpr g.2.2.1) (by omega)) rfl | exact MCL.no (Or.inl fun g => by have h9 := g.2.2.2; omega) rfl | exact MCL.no (Or.inr (by omega)) rfl)⟩⟩
    ·
      have q14 := h12.2.1 (by omega)
      refine GO.iload dX12_claim_17 rfl ?_
      refine GO.iconst dX12_claim_19 ?_
      refine GO.sipush dX12_claim_20 rfl ?_
      refine GO.callS (N := mX12_in) dX12_claim_23 gS_RX12_371 (t_X12_in r_p3 (ir_c rfl) (ir_c rfl)) rfl [] rfl rfl (Nat.le_of_ble_eq_true rfl) rfl (k_ip fun X15 r16 h17 => ?_)
      have raw_in := h17.2.2.2
      have rw23 := h17.2.2.2
      refine GO.if_eq (tgt := 50) dX12_claim_26 (by decide) r16 (fun c18 => ?_) (fun c18 => ?_)
      ·
        have q19 := h17.2.2.1 (by omega)
        refine GO.iconst dX12_claim_50 ?_
        exact GO.reti rfl rfl dX12_claim_51 ⟨rfl, _, rfl, (ir_c rfl), ⟨(by first | exact trivial | omega), (by first | exact w_0 | exact PX0.mk w_0 (by omega) (rfl : ar 13 V x = ar 13 V x) (rfl : ar 14 V x = ar 14 V x)), (by first | exact MCL.no (Or.inl fun g => by have h8 := g.1; have h7 := g.2.1; omega) rfl | exact MCL.no (Or.inl fun g => absurd (rw11.mpr g.2.2.1) (by omega)) rfl | exact MCL.no (Or.inl fun g => by have h9 := g.2.2.2; omega) rfl | exact MCL.no (Or.inr (by omega)) rfl)⟩⟩
      ·
        have q20 := h17.2.1 (by omega)
        refine GO.aload_n dX12_claim_29 rfl rfl ?_
        refine GO.getI h_x fl_RX12_375 rfl rfl dX12_claim_30 (fun l21 u22 => ?_)
        refine GO.bipush dX12_claim_33 rfl ?_
        refine GO.icmp_eq (tgt := 50) dX12_claim_35 (by decide) vi_ir (ir_c rfl) (fun c23 => ?_) (fun c23 => ?_)
        ·
          refine GO.iconst dX12_claim_50 ?_
          exact GO.reti rfl rfl dX12_claim_51 ⟨rfl, _, rfl, (ir_c rfl), ⟨(by first | exact trivial | omega), (by first | exact w_0 | exact PX0.mk w_0 (by omega) (rfl : ar 13 V x = ar 13 V x) (rfl : ar 14 V x = ar 14 V x)), (by first | exact MCL.no (Or.inl fun g => by have h8 := g.1; have h7 := g.2.1; omega) rfl | exact MCL.no (Or.inl fun g => absurd (rw11.mpr g.2.2.1) (by omega)) rfl | exact MCL.no (Or.inl fun g => by have h9 := g.2.2.2; omega) rfl | exact MCL.no (Or.inr (by omega)) rfl)⟩⟩
        ·
          refine GO.aload_n dX12_claim_38 rfl rfl ?_
          refine GO.iload_n dX12_claim_39 rfl rfl ?_
          refine GO.aload_n dX12_claim_40 rfl rfl ?_
          refine GO.getI h_x fl_RX12_396 rfl rfl dX12_claim_41 (fun l24 u25 => ?_)
          have q26 : -2147483648 ≤ p0 ∧ p0 ≤ 2147483647 := r_p0
          have q27 : -2147483648 ≤ vi V x 9 ∧ vi V x 9 ≤ 2147483647 := vi_ir
          refine GO.callV (ci := 11) (N := mX12_isAsleep) dX12_claim_44 (RX12, TX12, 151) rfl gV_RX12_418 h_x (t_X12_isAsleep h_x r_p0 vi_ir (by omega) (by omega)) rfl [] rfl rfl (Nat.le_of_ble_eq_true rfl) rfl (k_is fun X28 V32 r29 h30 hF31 => ?_)
          have ak33 := tk_fr hF31 ak2 h_x (by decide +kernel) (by decide +kernel) (rfl : ar 13 V x = ar 13 V x)
          have ak34 := tk_fr hF31 ak3 h_x (by decide +kernel) (by decide +kernel) (rfl : ar 14 V x = ar 14 V x)
          have raw_isAsleep := h30.2.2.2
          have rw44 := h30.2.2.2
          have e35 : vi V32 x 2 = vi V x 2 := vi_fr hF31 h_x h_x (by decide +kernel)
          refine GO.useWT (fun hWa => ?_)
          have sm0 : MSM V V32 x := MSM.fr hF31 ext.rf hW_0 h_x (by decide +kernel) (by decide +kernel) (by decide +kernel)
          refine GO.if_eq (tgt := 52) dX12_claim_47 (by decide) r29 (fun c36 => ?_) (fun c36 => ?_)
          ·
            refine GO.aload_n dX12_claim_52 rfl rfl ?_
            refine GO.iconst dX12_claim_53 ?_
            refine GO.iload_n dX12_claim_54 rfl rfl ?_
            refine GO.iload_n dX12_claim_55 rfl rfl ?_
            refine GO.iload_n dX12_claim_56 rfl rfl ?_
            refine GO.iload dX12_claim_57 rfl ?_
            have q37 : -2147483648 ≤ p1 ∧ p1 ≤ 2147483647 := r_p1
            have q38 : -2147483648 ≤ p2 ∧ p2 ≤ 2147483647 := r_p2
            have e39 : vi V32 x 10 = vi V x 10 := vi_fr hF31 h_x h_x (by decide +kernel)
            refine GO.callV (ci := 11) (N := mX12_place) dX12_claim_59 (RX12, TX12, 151) rfl gV_RX12_421 h_x (t_X12_place h_x (ir_c rfl) r_p0 r_p1 r_p2 r_p3 (by omega) (by omega) (by omega) (by omega) (by omega) (by omega) (by omega) (by omega) (by omega) ((by first | exact w_0 | exact PX0.mk w_0 (by omega) ak33.2 ak34.2)) ⟨by omega, by omega⟩) rfl [] rfl rfl (Nat.le_of_ble_eq_true rfl) rfl (k_is fun X40 V44 r41 h42 hF43 => ?_)
            refine GO.useWT (fun hW45 => ?_)
            have ak46 := hW45.arr h_x 13 15 (by decide) rfl (by decide)
            have ak47 := hW45.arr h_x 14 16 (by decide) rfl (by decide)
            have raw_place := h42.2.1
            have rq0_59 := h42.2.2
            have rw59 := h42.2.1
            exact GO.reti rfl rfl dX12_claim_62 ⟨rfl, _, rfl, r41, ⟨(by first | exact trivial | omega), (by first | exact raw_place | exact w_0 | exact PX0.mk w_0 (by omega) (rfl : ar 13 V44 x = ar 13 V44 x) (rfl : ar 14 V44 x = ar 14 V44 x)), (by first | exact MCL.no (Or.inl fun g => by have h8 := g.1; have h7 := g.2.1; omega) rfl | exact MCL.no (Or.inl fun g => absurd (rw11.mpr g.2.2.1) (by omega)) rfl | exact MCL.no (Or.inl fun g => by have h9 := g.2.2.2; omega) rfl | exact MCL.no (Or.inr (by omega)) rfl | exact MCL.as rfl rw44 rfl (by omega) sm0 | exact MCL.ok ⟨by omega, by omega, rw11.mp (by omega), by omega, by omega⟩ rw44 rfl (by omega) (MNEW.mk sm0 (by omega) (by omega) rq0_59 hF43 hWa h_x (by decide +kernel) (by decide +kernel)))⟩⟩
          ·
            refine GO.iconst dX12_claim_50 ?_
            have e49 : vi V32 x 10 = vi V x 10 := vi_fr hF31 h_x h_x (by decide +kernel)
            exact GO.reti rfl rfl dX12_claim_51 ⟨rfl, _, rfl, (ir_c rfl), ⟨(by first | exact trivial | omega), (by first | exact w_0 | exact PX0.mk w_0 (by omega) ak33.2 ak34.2), (by first | exact MCL.no (Or.inl fun g => by have h8 := g.1; have h7 := g.2.1; omega) rfl | exact MCL.no (Or.inl fun g => absurd (rw11.mpr g.2.2.1) (by omega)) rfl | exact MCL.no (Or.inl fun g => by have h9 := g.2.2.2; omega) rfl | exact MCL.no (Or.inr (by omega)) rfl | exact MCL.as rfl rw44 rfl (by omega) sm0)⟩⟩

set_option maxHeartbeats 1000000 in
theorem t_X12_title {K : Kmap} {V : Vmap} {x : Nat} {p0 : Int} {p1 : Int} (h_x : K x = some (0, 11)) (r_p0 : ir p0) (r_p1 : ir p1) (w_0 : PX0 V x) : MC mX12_title K V [.ref x, ti p0, ti p1] (IS K (fun X V1 => (X = 0 ∨ X = 1) ∧ (X ≠ 0 → True) ∧ (X = 0 → True) ∧ (MTI V V1 x p0 p1 X))) := by
  refine MC.start 0 (by decide +kernel) rfl rfl rfl (ls0 := [some (.ref x), some (ti p0), some (ti p1)]) rfl ?_
  refine GO.useWT (fun hW_0 => ?_)
  refine GO.aload_n dX12_title_0 rfl rfl ?_
  refine GO.iload_n dX12_title_1 rfl rfl ?_
  refine GO.iconst dX12_title_2 ?_
  refine GO.callV (ci := 11) (N := mX12_isPlace) dX12_title_3 (RX12, TX12, 151) rfl gV_RX12_399 h_x (t_X12_isPlace h_x r_p0 (ir_c rfl)) rfl [] rfl rfl (Nat.le_of_ble_eq_true rfl) rfl (k_ip fun X1 r2 h3 => ?_)
  have raw_isPlace := h3.2.2.2.1
  have rq0_3 := h3.2.2.2.2
  have rw3 := h3.2.2.2.1
  refine GO.if_eq (tgt := 47) dX12_title_6 (by decide) r2 (fun c4 => ?_) (fun c4 => ?_)
  ·
    refine GO.iconst dX12_title_47 ?_
    exact GO.retz rfl rfl dX12_title_48 (Or.inl rfl) ⟨rfl, _, rfl, (ir_c rfl), ⟨Or.inl rfl, fun _ => trivial, fun _ => trivial, (by first | exact MTI.no (MTD.no1 rq0_3 (by omega)) rfl | exact MTI.no (MTD.no2 (by omega)) rfl)⟩⟩
  ·
    have q5 := h3.2.1 (by omega)
    refine GO.iload_n dX12_title_9 rfl rfl ?_
    refine GO.iconst dX12_title_10 ?_
    refine GO.sipush dX12_title_11 rfl ?_
    refine GO.callS (N := mX12_in) dX12_title_14 gS_RX12_371 (t_X12_in r_p1 (ir_c rfl) (ir_c rfl)) rfl [] rfl rfl (Nat.le_of_ble_eq_true rfl) rfl (k_ip fun X6 r7 h8 => ?_)
    have raw_in := h8.2.2.2
    have rw14 := h8.2.2.2
    refine GO.if_eq (tgt := 47) dX12_title_17 (by decide) r7 (fun c9 => ?_) (fun c9 => ?_)
    ·
      have q10 := h8.2.2.1 (by omega)
      refine GO.iconst dX12_title_47 ?_
      exact GO.retz rfl rfl dX12_title_48 (Or.inl rfl) ⟨rfl, _, rfl, (ir_c rfl), ⟨Or.inl rfl, fun _ => trivial, fun _ => trivial, (by first | exact MTI.no (MTD.no1 rq0_3 (by omega)) rfl | exact MTI.no (MTD.no2 (by omega)) rfl)⟩⟩
    ·
      have q11 := h8.2.1 (by omega)
      refine GO.iload_n dX12_title_20 rfl rfl ?_
      refine GO.aload_n dX12_title_21 rfl rfl ?_
      refine GO.getA (n := 60) h_x fl_RX12_47 rfl rfl rfl rfl dX12_title_22 (fun hv13 h12 => ?_)
      refine GO.iload_n dX12_title_25 rfl rfl ?_
      have q14 : -2147483648 ≤ p0 ∧ p0 ≤ 2147483647 := r_p0
      refine GO.iald (t := 19) rfl rfl h12 r_p0 (by omega) (by omega) dX12_title_26 (fun _ _ => ?_)
      refine GO.icmp_le (tgt := 49) dX12_title_27 (by decide) r_p1 vi_ir (fun c15 => ?_) (fun c15 => ?_)
      ·
        refine GO.useWT (fun hWt => ?_)
        obtain ⟨N17, hK17⟩ := (hWt.ref h_x (j := 17) (Nat.le_of_ble_eq_true rfl) rfl).2
        refine GO.aload_n dX12_title_49 rfl rfl ?_
        refine GO.getRaw h_x fl_RX12_47 hv13 dX12_title_50 ?_
        refine GO.iload_n dX12_title_53 rfl rfl ?_
        refine GO.iload_n dX12_title_54 rfl rfl ?_
        refine GO.iast (t := 19) rfl rfl (by decide +kernel) h12 r_p0 (by omega) (by omega) r_p1 (r_p1).1 (r_p1).2 dX12_title_55 (fun V19 e18 => ?_)
        refine GO.iconst dX12_title_56 ?_
        exact GO.retz rfl rfl dX12_title_57 (Or.inr rfl) ⟨rfl, _, rfl, (ir_c rfl), ⟨Or.inr rfl, fun _ => trivial, fun _ => trivial, (by first | exact MTI.no (MTD.no1 rq0_3 (by omega)) rfl | exact MTI.no (MTD.no2 (by omega)) rfl | exact MTI.set rfl (MTD.ok rq0_3 (by omega) ⟨by omega, by omega⟩) (Or.inl (by omega)) MSM.rf e18 hWt h_x hK17)⟩⟩
      ·
        have hp := PX0.at w_0 (k := p0) (by omega) (raw_isPlace (by omega)).1 (raw_isPlace (by omega)).2
        refine GO.aload_n dX12_title_30 rfl rfl ?_
        refine GO.aload_n dX12_title_31 rfl rfl ?_
        refine GO.getA (n := 60) h_x fl_RX12_38 rfl rfl rfl rfl dX12_title_32 (fun hv21 h20 => ?_)
        refine GO.iload_n dX12_title_35 rfl rfl ?_
        refine GO.iald (t := 16) rfl rfl h20 r_p0 (by omega) (by omega) dX12_title_36 (fun l22 u23 => ?_)
        refine GO.aload_n dX12_title_37 rfl rfl ?_
        refine GO.getI h_x fl_RX12_396 rfl rfl dX12_title_38 (fun l24 u25 => ?_)
        refine GO.callV (ci := 11) (N := mX12_isAsleep) dX12_title_41 (RX12, TX12, 151) rfl gV_RX12_418 h_x (t_X12_isAsleep h_x vi_ir vi_ir (by omega) (by omega)) rfl [] rfl rfl (Nat.le_of_ble_eq_true rfl) rfl (k_is fun X26 V30 r27 h28 hF29 => ?_)
        have raw_isAsleep := h28.2.2.2
        have rw41 := h28.2.2.2
        have sm0 : MSM V V30 x := MSM.fr hF29 ext.rf hW_0 h_x (by decide +kernel) (by decide +kernel) (by decide +kernel)
        have hq17 : vq V30 x 17 = vq V x 17 := vq_eq (hF29 _ _ 17 h_x h_x (by decide +kernel))
        refine GO.if_eq (tgt := 49) dX12_title_44 (by decide) r27 (fun c31 => ?_) (fun c31 => ?_)
        ·
          refine GO.useWT (fun hWt => ?_)
          obtain ⟨N17, hK17⟩ := (hWt.ref h_x (j := 17) (Nat.le_of_ble_eq_true rfl) rfl).2
          refine GO.aload_n dX12_title_49 rfl rfl ?_
          refine GO.getRaw h_x fl_RX12_47 (Eq.trans (hF29 _ _ _ h_x h_x (by decide +kernel)) hv13) dX12_title_50 ?_
          refine GO.iload_n dX12_title_53 rfl rfl ?_
          refine GO.iload_n dX12_title_54 rfl rfl ?_
          refine GO.iast (t := 19) rfl rfl (by decide +kernel) h12 r_p0 (by omega) (by omega) r_p1 (r_p1).1 (r_p1).2 dX12_title_55 (fun V35 e34 => ?_)
          refine GO.iconst dX12_title_56 ?_
          exact GO.retz rfl rfl dX12_title_57 (Or.inr rfl) ⟨rfl, _, rfl, (ir_c rfl), ⟨Or.inr rfl, fun _ => trivial, fun _ => trivial, (by first | exact MTI.no (MTD.no1 rq0_3 (by omega)) rfl | exact MTI.no (MTD.no2 (by omega)) rfl | exact MTI.as rfl (by omega) rw41 rfl rfl (by omega) sm0 | exact MTI.set rfl (MTD.ok rq0_3 (by omega) ⟨by omega, by omega⟩) (Or.inl (by omega)) MSM.rf e34 hWt h_x hK17 | exact MTI.set rfl (MTD.ok rq0_3 (by omega) ⟨by omega, by omega⟩) (Or.inr ⟨_, MAS.mk rw41 rfl, by omega⟩) sm0 (by rw [hq17]; exact e34) hWt h_x hK17)⟩⟩
        ·
          refine GO.iconst dX12_title_47 ?_
          exact GO.retz rfl rfl dX12_title_48 (Or.inl rfl) ⟨rfl, _, rfl, (ir_c rfl), ⟨Or.inl rfl, fun _ => trivial, fun _ => trivial, (by first | exact MTI.no (MTD.no1 rq0_3 (by omega)) rfl | exact MTI.no (MTD.no2 (by omega)) rfl | exact MTI.as rfl (by omega) rw41 rfl rfl (by omega) sm0)⟩⟩

set_option maxHeartbeats 1000000 in
theorem t_X12_station {K : Kmap} {V : Vmap} {x : Nat} {p0 : Int} {p1 : Int} {p2 : Int} {p3 : Int} (h_x : K x = some (0, 11)) (r_p0 : ir p0) (r_p1 : ir p1) (r_p2 : ir p2) (r_p3 : ir p3) (w_0 : PX0 V x) : MC mX12_station K V [.ref x, ti p0, ti p1, ti p2, ti p3] (IS K (fun X V1 => (X ≥ (-2147483648) ∧ X ≤ 2147483647) ∧ (PX0 V1 x) ∧ (MST V V1 x p0 p1 p2 p3 X))) := by
  refine MC.start 0 (by decide +kernel) rfl rfl rfl (ls0 := [some (.ref x), some (ti p0), some (ti p1), some (ti p2), some (ti p3)]) rfl ?_
  refine GO.useWT (fun hW1 => ?_)
  have ak2 := hW1.arr h_x 13 15 (by decide) rfl (by decide)
  have ak3 := hW1.arr h_x 14 16 (by decide) rfl (by decide)
  refine GO.useWT (fun hW_0 => ?_)
  refine GO.aload_n dX12_station_0 rfl rfl ?_
  refine GO.iload_n dX12_station_1 rfl rfl ?_
  refine GO.callV (ci := 11) (N := mX12_isParty) dX12_station_2 (RX12, TX12, 151) rfl gV_RX12_406 h_x (t_X12_isParty h_x r_p0) rfl [] rfl rfl (Nat.le_of_ble_eq_true rfl) rfl (k_ip fun X4 r5 h6 => ?_)
  refine GO.if_eq (tgt := 56) dX12_station_5 (by decide) r5 (fun c7 => ?_) (fun c7 => ?_)
  ·
    have q8 := h6.2.2 (by omega)
    refine GO.iconst dX12_station_56 ?_
    exact GO.reti rfl rfl dX12_station_57 ⟨rfl, _, rfl, (ir_c rfl), ⟨(by first | exact trivial | omega), (by first | exact w_0 | exact PX0.mk w_0 (by omega) (rfl : ar 13 V x = ar 13 V x) (rfl : ar 14 V x = ar 14 V x)), (by first | exact MST.no (Or.inl fun g => by have h8 := g.1; have h7 := g.2.1; omega) rfl | exact MST.no (Or.inl fun g => by have h9 := g.2.2.2.2; omega) rfl | exact MST.no (Or.inr (by omega)) rfl)⟩⟩
  ·
    have q9 := h6.2.1 (by omega)
    refine GO.aload_n dX12_station_8 rfl rfl ?_
    refine GO.iload_n dX12_station_9 rfl rfl ?_
    refine GO.callV (ci := 11) (N := mX12_isCell) dX12_station_10 (RX12, TX12, 151) rfl gV_RX12_381 h_x (t_X12_isCell h_x r_p1) rfl [] rfl rfl (Nat.le_of_ble_eq_true rfl) rfl (k_ip fun X10 r11 h12 => ?_)
    have raw_isCell := h12.2.2.2
    have rw10 := h12.2.2.2
    refine GO.if_eq (tgt := 56) dX12_station_13 (by decide) r11 (fun c13 => ?_) (fun c13 => ?_)
    ·
      refine GO.iconst dX12_station_56 ?_
      exact GO.reti rfl rfl dX12_station_57 ⟨rfl, _, rfl, (ir_c rfl), ⟨(by first | exact trivial | omega), (by first | exact w_0 | exact PX0.mk w_0 (by omega) (rfl : ar 13 V x = ar 13 V x) (rfl : ar 14 V x = ar 14 V x)), (by first | exact MST.no (Or.inl fun g => by have h8 := g.1; have h7 := g.2.1; omega) rfl | exact MST.no (Or.inl fun g => absurd (rw10.mpr g.2.2.1) (by omega)) rfl | exact MST.no (Or.inl fun g => by have h9 := g.2.2.2.2; omega) rfl | exact MST.no (Or.inr (by omega)) rfl)⟩⟩
    ·
      have q14 := h12.2.1 (by omega)
      refine GO.aload_n dX12_station_16 rfl rfl ?_
      refine GO.iload_n dX12_station_17 rfl rfl ?_
      have q15 : -2147483648 ≤ p1 ∧ p1 ≤ 2147483647 := r_p1
      refine GO.callV (ci := 11) (N := mX12_isLand) dX12_station_18 (RX12, TX12, 151) rfl gV_RX12_425 h_x (t_X12_isLand h_x r_p1 (by omega) (by omega)) rfl [] rfl rfl (Nat.le_of_ble_eq_true rfl) rfl (k_ip fun X16 r17 h18 => ?_)
      have raw_isLand := h18.2.2.2
      have rw18 := h18.2.2.2
      refine GO.if_eq (tgt := 56) dX12_station_21 (by decide) r17 (fun c19 => ?_) (fun c19 => ?_)
      ·
        refine GO.iconst dX12_station_56 ?_
        exact GO.reti rfl rfl dX12_station_57 ⟨rfl, _, rfl, (ir_c rfl), ⟨(by first | exact trivial | omega), (by first | exact w_0 | exact PX0.mk w_0 (by omega) (rfl : ar 13 V x = ar 13 V x) (rfl : ar 14 V x = ar 14 V x)), (by first | exact MST.no (Or.inl fun g => by have h8 := g.1; have h7 := g.2.1; omega) rfl | exact MST.no (Or.inl fun g => absurd (rw10.mpr g.2.2.1) (by omega)) rfl | exact MST.no (Or.inl fun g => absurd (rw18.mpr g.2.2.2.1) (by omega)) rfl | exact MST.no (Or.inl fun g => by have h9 := g.2.2.2.2; omega) rfl | exact MST.no (Or.inr (by omega)) rfl)⟩⟩
      ·
        refine GO.iload_n dX12_station_24 rfl rfl ?_
        refine GO.iconst dX12_station_25 ?_
        refine GO.sipush dX12_station_26 rfl ?_
        refine GO.callS (N := mX12_in) dX12_station_29 gS_RX12_371 (t_X12_in r_p2 (ir_c rfl) (ir_c rfl)) rfl [] rfl rfl (Nat.le_of_ble_eq_true rfl) rfl (k_ip fun X20 r21 h22 => ?_)
        have raw_in := h22.2.2.2
        have rw29 := h22.2.2.2
        refine GO.if_eq (tgt := 56) dX12_station_32 (by decide) r21 (fun c23 => ?_) (fun c23 => ?_)
        ·
          have q24 := h22.2.2.1 (by omega)
          refine GO.iconst dX12_station_56 ?_
          exact GO.reti rfl rfl dX12_station_57 ⟨rfl, _, rfl, (ir_c rfl), ⟨(by first | exact trivial | omega), (by first | exact w_0 | exact PX0.mk w_0 (by omega) (rfl : ar 13 V x = ar 13 V x) (rfl : ar 14 V x = ar 14 V x)), (by first | exact MST.no (Or.inl fun g => by have h8 := g.1; have h7 := g.2.1; omega) rfl | exact MST.no (Or.inl fun g => absurd (rw10.mpr g.2.2.1) (by omega)) rfl | exact MST.no (Or.inl fun g => absurd (rw18.mpr g.2.2.2.1) (by omega)) rfl | exact MST.no (Or.inl fun g => by have h9 := g.2.2.2.2; omega) rfl | exact MST.no (Or.inr (by omega)) rfl)⟩⟩
        ·
          have q25 := h22.2.1 (by omega)
          refine GO.iload dX12_station_35 rfl ?_
          refine GO.iconst dX12_station_37 ?_
          refine GO.ldcw (X := 100000) dX12_station_38 gw_2019 rfl ?_
          refine GO.callS (N := mX12_in) dX12_station_41 gS_RX12_371 (t_X12_in r_p3 (ir_c rfl) (ir_c rfl)) rfl [] rfl rfl (Nat.le_of_ble_eq_true rfl) rfl (k_ip fun X26 r27 h28 => ?_)
          have raw_in := h28.2.2.2
          have rw41 := h28.2.2.2
          refine GO.if_eq (tgt := 56) dX12_station_44 (by decide) r27 (fun c29 => ?_) (fun c29 => ?_)
          ·
            have q30 := h28.2.2.1 (by omega)
            refine GO.iconst dX12_station_56 ?_
            exact GO.reti rfl rfl dX12_station_57 ⟨rfl, _, rfl, (ir_c rfl), ⟨(by first | exact trivial | omega), (by first | exact w_0 | exact PX0.mk w_0 (by omega) (rfl : ar 13 V x = ar 13 V x) (rfl : ar 14 V x = ar 14 V x)), (by first | exact MST.no (Or.inl fun g => by have h8 := g.1; have h7 := g.2.1; omega) rfl | exact MST.no (Or.inl fun g => absurd (rw10.mpr g.2.2.1) (by omega)) rfl | exact MST.no (Or.inl fun g => absurd (rw18.mpr g.2.2.2.1) (by omega)) rfl | exact MST.no (Or.inl fun g => by have h9 := g.2.2.2.2; omega) rfl | exact MST.no (Or.inr (by omega)) rfl)⟩⟩
          ·
            have q31 := h28.2.1 (by omega)
            refine GO.aload_n dX12_station_47 rfl rfl ?_
            refine GO.getI h_x fl_RX12_375 rfl rfl dX12_station_48 (fun l32 u33 => ?_)
            refine GO.bipush dX12_station_51 rfl ?_
            refine GO.icmp_ne (tgt := 58) dX12_station_53 (by decide) vi_ir (ir_c rfl) (fun c34 => ?_) (fun c34 => ?_)
            ·
              refine GO.aload_n dX12_station_58 rfl rfl ?_
              refine GO.getA (n := 60) h_x fl_RX12_53 rfl rfl rfl rfl dX12_station_59 (fun hv36 h35 => ?_)
              refine GO.aload_n dX12_station_62 rfl rfl ?_
              refine GO.getI h_x fl_RX12_375 rfl rfl dX12_station_63 (fun l37 u38 => ?_)
              refine GO.iload_n dX12_station_66 rfl rfl ?_
              have q40 : -2147483648 ≤ p2 ∧ p2 ≤ 2147483647 := r_p2
              refine GO.iast (t := 21) rfl rfl (by decide +kernel) h35 vi_ir (by omega) (by omega) r_p2 (by omega) (by omega) dX12_station_67 (fun V41 e39 => ?_)
              have ak42 := tk_oth e39 ak2 h_x h35 (by decide) (by decide) (rfl : ar 13 V x = ar 13 V x)
              have ak43 := tk_oth e39 ak3 h_x h35 (by decide) (by decide) (rfl : ar 14 V x = ar 14 V x)
              refine GO.useWT (fun hWa => ?_)
              have sm1 : MSM V V41 x := MSM.fr (FR.put (ws := 2 ^ (abase + 22)) (kd := (21 + 1, 60)) FR.rf (by assumption) (by show Nat.testBit (2 ^ (abase + 22)) (abase + 22) = true; decide +kernel) e39) ext.rf hW_0 h_x (by decide +kernel) (by decide +kernel) (by decide +kernel)
              refine GO.aload_n dX12_station_68 rfl rfl ?_
              refine GO.getA (n := 60) h_x fl_RX12_56 rfl rfl rfl rfl dX12_station_69 (fun hv45 h44 => ?_)
              refine GO.aload_n dX12_station_72 rfl rfl ?_
              refine GO.getI h_x fl_RX12_375 rfl rfl dX12_station_73 (fun l46 u47 => ?_)
              have e48 : vi V41 x 10 = vi V x 10 := vi_up e39 (Or.inl (K_ne h_x h35 (by decide)))
              refine GO.iload dX12_station_76 rfl ?_
              refine GO.iast (t := 22) rfl rfl (by decide +kernel) h44 vi_ir (by omega) (by omega) r_p3 (r_p3).1 (r_p3).2 dX12_station_78 (fun V50 e49 => ?_)
              have ak51 := tk_oth e49 ak42.1 h_x h44 (by decide) (by decide) ak42.2
              have ak52 := tk_oth e49 ak43.1 h_x h44 (by decide) (by decide) ak43.2
              refine GO.useWT (fun hWb => ?_)
              have sm2 := sm1.tr (MSM.fr (FR.put (ws := 2 ^ (abase + 23)) (kd := (22 + 1, 60)) FR.rf (by assumption) (by show Nat.testBit (2 ^ (abase + 23)) (abase + 23) = true; decide +kernel) e49) ext.rf hWa h_x (by decide +kernel) (by decide +kernel) (by decide +kernel))
              refine GO.aload_n dX12_station_79 rfl rfl ?_
              refine GO.aload_n dX12_station_80 rfl rfl ?_
              refine GO.getL h_x fl_RX12_429 rfl rfl dX12_station_81 ?_
              refine GO.anyL (fun z53 => ?_)
              refine GO.iload dX12_station_84 rfl ?_
              refine GO.i2l dX12_station_86 ?_
              refine GO.anyL (fun z54 => ?_)
              refine GO.ladd dX12_station_87 ?_
              refine GO.anyL (fun z55 => ?_)
              refine GO.putL h_x fp_RX12_429 rfl (by decide +kernel) dX12_station_88 (fun V57 e56 => ?_)
              have ak58 := tk_fld e56 ak51.1 h_x (by decide) ak51.2
              have ak59 := tk_fld e56 ak52.1 h_x (by decide) ak52.2
              have e62 : vi V41 x 2 = vi V x 2 := vi_up e39 (Or.inl (K_ne h_x h35 (by decide)))
              have e61 : vi V50 x 2 = vi V41 x 2 := vi_up e49 (Or.inl (K_ne h_x h44 (by decide)))
              have e60 : vi V57 x 2 = vi V50 x 2 := vi_up e56 (Or.inr (by decide))
              refine GO.useWT (fun hWc => ?_)
              have sm3 := sm2.tr (MSM.put h_x e56 hWb h_x (by decide +kernel) (by decide +kernel) (by decide +kernel) (by decide +kernel))
              refine GO.aload_n dX12_station_91 rfl rfl ?_
              refine GO.iconst dX12_station_92 ?_
              refine GO.iload_n dX12_station_93 rfl rfl ?_
              refine GO.iload_n dX12_station_94 rfl rfl ?_
              refine GO.iconst dX12_station_95 ?_
              refine GO.iconst dX12_station_96 ?_
              have q63 : -2147483648 ≤ p0 ∧ p0 ≤ 2147483647 := r_p0
              have q64 : -2147483648 ≤ vi V x 9 ∧ vi V x 9 ≤ 2147483647 := vi_ir
              have e66 : vi V50 x 10 = vi V41 x 10 := vi_up e49 (Or.inl (K_ne h_x h44 (by decide)))
              have e65 : vi V57 x 10 = vi V50 x 10 := vi_up e56 (Or.inr (by decide))
              refine GO.callV (ci := 11) (N := mX12_place) dX12_station_97 (RX12, TX12, 151) rfl gV_RX12_421 h_x (t_X12_place h_x (ir_c rfl) r_p0 r_p1 (ir_c rfl) (ir_c rfl) (by omega) (by omega) (by omega) (by omega) (by omega) (by omega) (by omega) (by omega) (by omega) ((by first | exact w_0 | exact PX0.mk w_0 (by omega) ak58.2 ak59.2)) ⟨by omega, by omega⟩) rfl [] rfl rfl (Nat.le_of_ble_eq_true rfl) rfl (k_is fun X67 V71 r68 h69 hF70 => ?_)
              refine GO.useWT (fun hW72 => ?_)
              have ak73 := hW72.arr h_x 13 15 (by decide) rfl (by decide)
              have ak74 := hW72.arr h_x 14 16 (by decide) rfl (by decide)
              have raw_place := h69.2.1
              have rq0_97 := h69.2.2
              have rw97 := h69.2.1
              exact GO.reti rfl rfl dX12_station_100 ⟨rfl, _, rfl, r68, ⟨(by first | exact trivial | omega), (by first | exact raw_place | exact w_0 | exact PX0.mk w_0 (by omega) (rfl : ar 13 V71 x = ar 13 V71 x) (rfl : ar 14 V71 x = ar 14 V71 x)), (by first | exact MST.no (Or.inl fun g => by have h8 := g.1; have h7 := g.2.1; omega) rfl | exact MST.no (Or.inl fun g => absurd (rw10.mpr g.2.2.1) (by omega)) rfl | exact MST.no (Or.inl fun g => absurd (rw18.mpr g.2.2.2.1) (by omega)) rfl | exact MST.no (Or.inl fun g => by have h9 := g.2.2.2.2; omega) rfl | exact MST.no (Or.inr (by omega)) rfl | exact MST.ok ⟨by omega, by omega, rw10.mp (by omega), rw18.mp (by omega), by omega, by omega, by omega, by omega⟩ (MNEW.mk sm3 (by omega) (by omega) rq0_97 hF70 hWc h_x (by decide +kernel) (by decide +kernel)))⟩⟩
            ·
              refine GO.iconst dX12_station_56 ?_
              exact GO.reti rfl rfl dX12_station_57 ⟨rfl, _, rfl, (ir_c rfl), ⟨(by first | exact trivial | omega), (by first | exact w_0 | exact PX0.mk w_0 (by omega) (rfl : ar 13 V x = ar 13 V x) (rfl : ar 14 V x = ar 14 V x)), (by first | exact MST.no (Or.inl fun g => by have h8 := g.1; have h7 := g.2.1; omega) rfl | exact MST.no (Or.inl fun g => absurd (rw10.mpr g.2.2.1) (by omega)) rfl | exact MST.no (Or.inl fun g => absurd (rw18.mpr g.2.2.2.1) (by omega)) rfl | exact MST.no (Or.inl fun g => by have h9 := g.2.2.2.2; omega) rfl | exact MST.no (Or.inr (by omega)) rfl)⟩⟩
