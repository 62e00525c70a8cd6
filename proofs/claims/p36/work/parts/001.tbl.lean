-- ===== PART A: goes FIRST, ahead of the names: the tables' words, and 'selects' of the private methods out of them =====
/-- a private method of a class that the tables say can be made, by its rows of tables_1 -/
def lw_okq (q : MethodName × Nat) : Prop := (q.1.cls ≠ "java/lang/invoke/MethodHandle" ∧ q.1.cls ≠ "java/lang/invoke/VarHandle") ∧ Cond.instantiable q.1.cls q.2 ∈ tables_1 ∧ Cond.privateMethod q.1 ∈ tables_1 ∧ Cond.instanceMethod q.1 ∈ tables_1
theorem lw_p0 : lw_okq (⟨"IceTreaty", "partyOf", "(I)LIceTreaty$Party;"⟩, 20) := ⟨⟨by decide +kernel, by decide +kernel⟩, List.mem_of_getElem? (i := 22) (by decide +kernel), List.mem_of_getElem? (i := 358) (by decide +kernel), List.mem_of_getElem? (i := 359) (by decide +kernel)⟩
theorem lw_p1 : lw_okq (⟨"IceTreaty$Land", "rowOf", "(I)I"⟩, 13) := ⟨⟨by decide +kernel, by decide +kernel⟩, List.mem_of_getElem? (i := 30) (by decide +kernel), List.mem_of_getElem? (i := 367) (by decide +kernel), List.mem_of_getElem? (i := 368) (by decide +kernel)⟩
theorem lw_p2 : lw_okq (⟨"IceTreaty$Land", "columnOf", "(I)I"⟩, 13) := ⟨⟨by decide +kernel, by decide +kernel⟩, List.mem_of_getElem? (i := 30) (by decide +kernel), List.mem_of_getElem? (i := 371) (by decide +kernel), List.mem_of_getElem? (i := 372) (by decide +kernel)⟩
theorem lw_p3 : lw_okq (⟨"IceTreaty", "claimsAreAsleep", "(ILIceTreaty$Party;)Z"⟩, 20) := ⟨⟨by decide +kernel, by decide +kernel⟩, List.mem_of_getElem? (i := 22) (by decide +kernel), List.mem_of_getElem? (i := 375) (by decide +kernel), List.mem_of_getElem? (i := 376) (by decide +kernel)⟩
theorem lw_p4 : lw_okq (⟨"IceTreaty$Law", "binds", "(ILIceTreaty$Party;II)Z"⟩, 13) := ⟨⟨by decide +kernel, by decide +kernel⟩, List.mem_of_getElem? (i := 91) (by decide +kernel), List.mem_of_getElem? (i := 383) (by decide +kernel), List.mem_of_getElem? (i := 384) (by decide +kernel)⟩
theorem lw_p5 : lw_okq (⟨"IceTreaty$Law", "weighTexts", "(II)V"⟩, 13) := ⟨⟨by decide +kernel, by decide +kernel⟩, List.mem_of_getElem? (i := 91) (by decide +kernel), List.mem_of_getElem? (i := 398) (by decide +kernel), List.mem_of_getElem? (i := 399) (by decide +kernel)⟩
theorem lw_p6 : lw_okq (⟨"IceTreaty$Law", "strike", "(ILIceTreaty$Table;I)V"⟩, 13) := ⟨⟨by decide +kernel, by decide +kernel⟩, List.mem_of_getElem? (i := 91) (by decide +kernel), List.mem_of_getElem? (i := 404) (by decide +kernel), List.mem_of_getElem? (i := 405) (by decide +kernel)⟩
theorem lw_p7 : lw_okq (⟨"IceTreaty$Law", "isCounting", "(II)Z"⟩, 13) := ⟨⟨by decide +kernel, by decide +kernel⟩, List.mem_of_getElem? (i := 91) (by decide +kernel), List.mem_of_getElem? (i := 421) (by decide +kernel), List.mem_of_getElem? (i := 422) (by decide +kernel)⟩
theorem lw_p8 : lw_okq (⟨"IceTreaty", "settle", "(LIceTreaty$Place;)I"⟩, 20) := ⟨⟨by decide +kernel, by decide +kernel⟩, List.mem_of_getElem? (i := 22) (by decide +kernel), List.mem_of_getElem? (i := 498) (by decide +kernel), List.mem_of_getElem? (i := 499) (by decide +kernel)⟩
theorem lw_p9 : lw_okq (⟨"IceTreaty", "placeOf", "(II)LIceTreaty$Place;"⟩, 20) := ⟨⟨by decide +kernel, by decide +kernel⟩, List.mem_of_getElem? (i := 22) (by decide +kernel), List.mem_of_getElem? (i := 506) (by decide +kernel), List.mem_of_getElem? (i := 507) (by decide +kernel)⟩
theorem lw_p10 : lw_okq (⟨"IceTreaty", "anyPlace", "(I)LIceTreaty$Place;"⟩, 20) := ⟨⟨by decide +kernel, by decide +kernel⟩, List.mem_of_getElem? (i := 22) (by decide +kernel), List.mem_of_getElem? (i := 510) (by decide +kernel), List.mem_of_getElem? (i := 511) (by decide +kernel)⟩
theorem lw_p11 : lw_okq (⟨"IceTreaty", "tally", "(II)V"⟩, 20) := ⟨⟨by decide +kernel, by decide +kernel⟩, List.mem_of_getElem? (i := 22) (by decide +kernel), List.mem_of_getElem? (i := 524) (by decide +kernel), List.mem_of_getElem? (i := 525) (by decide +kernel)⟩
theorem lw_p12 : lw_okq (⟨"IceTreaty", "standingStation", "(I)LIceTreaty$Place;"⟩, 20) := ⟨⟨by decide +kernel, by decide +kernel⟩, List.mem_of_getElem? (i := 22) (by decide +kernel), List.mem_of_getElem? (i := 532) (by decide +kernel), List.mem_of_getElem? (i := 533) (by decide +kernel)⟩
theorem lw_p13 : lw_okq (⟨"IceTreaty", "feedNumber", "(I)V"⟩, 20) := ⟨⟨by decide +kernel, by decide +kernel⟩, List.mem_of_getElem? (i := 22) (by decide +kernel), List.mem_of_getElem? (i := 548) (by decide +kernel), List.mem_of_getElem? (i := 549) (by decide +kernel)⟩
theorem lw_p14 : lw_okq (⟨"IceTreaty$Scribe", "clause", "()V"⟩, 7) := ⟨⟨by decide +kernel, by decide +kernel⟩, List.mem_of_getElem? (i := 600) (by decide +kernel), List.mem_of_getElem? (i := 633) (by decide +kernel), List.mem_of_getElem? (i := 634) (by decide +kernel)⟩
theorem lw_p15 : lw_okq (⟨"IceTreaty$Scribe", "next", "()I"⟩, 7) := ⟨⟨by decide +kernel, by decide +kernel⟩, List.mem_of_getElem? (i := 600) (by decide +kernel), List.mem_of_getElem? (i := 637) (by decide +kernel), List.mem_of_getElem? (i := 638) (by decide +kernel)⟩
def lw_privs_1 : List (MethodName × Nat) := [(⟨"IceTreaty", "partyOf", "(I)LIceTreaty$Party;"⟩, 20), (⟨"IceTreaty$Land", "rowOf", "(I)I"⟩, 13), (⟨"IceTreaty$Land", "columnOf", "(I)I"⟩, 13), (⟨"IceTreaty", "claimsAreAsleep", "(ILIceTreaty$Party;)Z"⟩, 20), (⟨"IceTreaty$Law", "binds", "(ILIceTreaty$Party;II)Z"⟩, 13), (⟨"IceTreaty$Law", "weighTexts", "(II)V"⟩, 13), (⟨"IceTreaty$Law", "strike", "(ILIceTreaty$Table;I)V"⟩, 13), (⟨"IceTreaty$Law", "isCounting", "(II)Z"⟩, 13), (⟨"IceTreaty", "settle", "(LIceTreaty$Place;)I"⟩, 20), (⟨"IceTreaty", "placeOf", "(II)LIceTreaty$Place;"⟩, 20), (⟨"IceTreaty", "anyPlace", "(I)LIceTreaty$Place;"⟩, 20), (⟨"IceTreaty", "tally", "(II)V"⟩, 20), (⟨"IceTreaty", "standingStation", "(I)LIceTreaty$Place;"⟩, 20), (⟨"IceTreaty", "feedNumber", "(I)V"⟩, 20), (⟨"IceTreaty$Scribe", "clause", "()V"⟩, 7), (⟨"IceTreaty$Scribe", "next", "()I"⟩, 7)]
theorem lw_r1 : ∀ q ∈ lw_privs_1, lw_okq q := List.forall_mem_cons.mpr ⟨lw_p0, List.forall_mem_cons.mpr ⟨lw_p1, List.forall_mem_cons.mpr ⟨lw_p2, List.forall_mem_cons.mpr ⟨lw_p3, List.forall_mem_cons.mpr ⟨lw_p4, List.forall_mem_cons.mpr ⟨lw_p5, List.forall_mem_cons.mpr ⟨lw_p6, List.forall_mem_cons.mpr ⟨lw_p7, List.forall_mem_cons.mpr ⟨lw_p8, List.forall_mem_cons.mpr ⟨lw_p9, List.forall_mem_cons.mpr ⟨lw_p10, List.forall_mem_cons.mpr ⟨lw_p11, List.forall_mem_cons.mpr ⟨lw_p12, List.forall_mem_cons.mpr ⟨lw_p13, List.forall_mem_cons.mpr ⟨lw_p14, List.forall_mem_cons.mpr ⟨lw_p15, fun _ h => absurd h List.not_mem_nil⟩⟩⟩⟩⟩⟩⟩⟩⟩⟩⟩⟩⟩⟩⟩⟩
theorem lw_p16 : lw_okq (⟨"IceTreaty$Scribe", "refuse", "(II)V"⟩, 7) := ⟨⟨by decide +kernel, by decide +kernel⟩, List.mem_of_getElem? (i := 600) (by decide +kernel), List.mem_of_getElem? (i := 644) (by decide +kernel), List.mem_of_getElem? (i := 645) (by decide +kernel)⟩
theorem lw_p17 : lw_okq (⟨"IceTreaty$Scribe", "digits", "(I)I"⟩, 7) := ⟨⟨by decide +kernel, by decide +kernel⟩, List.mem_of_getElem? (i := 600) (by decide +kernel), List.mem_of_getElem? (i := 649) (by decide +kernel), List.mem_of_getElem? (i := 650) (by decide +kernel)⟩
theorem lw_p18 : lw_okq (⟨"IceTreaty$Scribe", "set", "(II)V"⟩, 7) := ⟨⟨by decide +kernel, by decide +kernel⟩, List.mem_of_getElem? (i := 600) (by decide +kernel), List.mem_of_getElem? (i := 656) (by decide +kernel), List.mem_of_getElem? (i := 657) (by decide +kernel)⟩
theorem lw_p19 : lw_okq (⟨"IceTreaty$Scribe", "take", "(I)V"⟩, 7) := ⟨⟨by decide +kernel, by decide +kernel⟩, List.mem_of_getElem? (i := 600) (by decide +kernel), List.mem_of_getElem? (i := 661) (by decide +kernel), List.mem_of_getElem? (i := 662) (by decide +kernel)⟩
theorem lw_p20 : lw_okq (⟨"IceTreaty$Scribe", "condition", "()V"⟩, 7) := ⟨⟨by decide +kernel, by decide +kernel⟩, List.mem_of_getElem? (i := 600) (by decide +kernel), List.mem_of_getElem? (i := 665) (by decide +kernel), List.mem_of_getElem? (i := 666) (by decide +kernel)⟩
theorem lw_p21 : lw_okq (⟨"IceTreaty$Scribe", "deepen", "(I)V"⟩, 7) := ⟨⟨by decide +kernel, by decide +kernel⟩, List.mem_of_getElem? (i := 600) (by decide +kernel), List.mem_of_getElem? (i := 669) (by decide +kernel), List.mem_of_getElem? (i := 670) (by decide +kernel)⟩
theorem lw_p22 : lw_okq (⟨"IceTreaty$Scribe", "parts", "()V"⟩, 7) := ⟨⟨by decide +kernel, by decide +kernel⟩, List.mem_of_getElem? (i := 600) (by decide +kernel), List.mem_of_getElem? (i := 673) (by decide +kernel), List.mem_of_getElem? (i := 674) (by decide +kernel)⟩
theorem lw_p23 : lw_okq (⟨"IceTreaty$Scribe", "part", "()V"⟩, 7) := ⟨⟨by decide +kernel, by decide +kernel⟩, List.mem_of_getElem? (i := 600) (by decide +kernel), List.mem_of_getElem? (i := 677) (by decide +kernel), List.mem_of_getElem? (i := 678) (by decide +kernel)⟩
theorem lw_p24 : lw_okq (⟨"IceTreaty$Scribe", "piece", "()V"⟩, 7) := ⟨⟨by decide +kernel, by decide +kernel⟩, List.mem_of_getElem? (i := 600) (by decide +kernel), List.mem_of_getElem? (i := 681) (by decide +kernel), List.mem_of_getElem? (i := 682) (by decide +kernel)⟩
theorem lw_p25 : lw_okq (⟨"IceTreaty$Scribe", "negation", "()V"⟩, 7) := ⟨⟨by decide +kernel, by decide +kernel⟩, List.mem_of_getElem? (i := 600) (by decide +kernel), List.mem_of_getElem? (i := 685) (by decide +kernel), List.mem_of_getElem? (i := 686) (by decide +kernel)⟩
theorem lw_p26 : lw_okq (⟨"IceTreaty$Scribe", "terms", "()V"⟩, 7) := ⟨⟨by decide +kernel, by decide +kernel⟩, List.mem_of_getElem? (i := 600) (by decide +kernel), List.mem_of_getElem? (i := 694) (by decide +kernel), List.mem_of_getElem? (i := 695) (by decide +kernel)⟩
theorem lw_p27 : lw_okq (⟨"IceTreaty$Scribe", "factors", "()V"⟩, 7) := ⟨⟨by decide +kernel, by decide +kernel⟩, List.mem_of_getElem? (i := 600) (by decide +kernel), List.mem_of_getElem? (i := 698) (by decide +kernel), List.mem_of_getElem? (i := 699) (by decide +kernel)⟩
theorem lw_p28 : lw_okq (⟨"IceTreaty$Scribe", "factor", "()V"⟩, 7) := ⟨⟨by decide +kernel, by decide +kernel⟩, List.mem_of_getElem? (i := 600) (by decide +kernel), List.mem_of_getElem? (i := 702) (by decide +kernel), List.mem_of_getElem? (i := 703) (by decide +kernel)⟩
theorem lw_p29 : lw_okq (⟨"IceTreaty$Scribe", "comparison", "(I)I"⟩, 7) := ⟨⟨by decide +kernel, by decide +kernel⟩, List.mem_of_getElem? (i := 600) (by decide +kernel), List.mem_of_getElem? (i := 795) (by decide +kernel), List.mem_of_getElem? (i := 796) (by decide +kernel)⟩
theorem lw_p30 : lw_okq (⟨"IceTreaty", "workOf", "(I)LIceTreaty$Work;"⟩, 20) := ⟨⟨by decide +kernel, by decide +kernel⟩, List.mem_of_getElem? (i := 22) (by decide +kernel), List.mem_of_getElem? (i := 951) (by decide +kernel), List.mem_of_getElem? (i := 952) (by decide +kernel)⟩
theorem lw_p31 : lw_okq (⟨"IceTreaty", "judge", "(LIceTreaty$Work;IZ)I"⟩, 20) := ⟨⟨by decide +kernel, by decide +kernel⟩, List.mem_of_getElem? (i := 22) (by decide +kernel), List.mem_of_getElem? (i := 967) (by decide +kernel), List.mem_of_getElem? (i := 968) (by decide +kernel)⟩
def lw_privs_2 : List (MethodName × Nat) := [(⟨"IceTreaty$Scribe", "refuse", "(II)V"⟩, 7), (⟨"IceTreaty$Scribe", "digits", "(I)I"⟩, 7), (⟨"IceTreaty$Scribe", "set", "(II)V"⟩, 7), (⟨"IceTreaty$Scribe", "take", "(I)V"⟩, 7), (⟨"IceTreaty$Scribe", "condition", "()V"⟩, 7), (⟨"IceTreaty$Scribe", "deepen", "(I)V"⟩, 7), (⟨"IceTreaty$Scribe", "parts", "()V"⟩, 7), (⟨"IceTreaty$Scribe", "part", "()V"⟩, 7), (⟨"IceTreaty$Scribe", "piece", "()V"⟩, 7), (⟨"IceTreaty$Scribe", "negation", "()V"⟩, 7), (⟨"IceTreaty$Scribe", "terms", "()V"⟩, 7), (⟨"IceTreaty$Scribe", "factors", "()V"⟩, 7), (⟨"IceTreaty$Scribe", "factor", "()V"⟩, 7), (⟨"IceTreaty$Scribe", "comparison", "(I)I"⟩, 7), (⟨"IceTreaty", "workOf", "(I)LIceTreaty$Work;"⟩, 20), (⟨"IceTreaty", "judge", "(LIceTreaty$Work;IZ)I"⟩, 20)]
theorem lw_r2 : ∀ q ∈ lw_privs_2, lw_okq q := List.forall_mem_cons.mpr ⟨lw_p16, List.forall_mem_cons.mpr ⟨lw_p17, List.forall_mem_cons.mpr ⟨lw_p18, List.forall_mem_cons.mpr ⟨lw_p19, List.forall_mem_cons.mpr ⟨lw_p20, List.forall_mem_cons.mpr ⟨lw_p21, List.forall_mem_cons.mpr ⟨lw_p22, List.forall_mem_cons.mpr ⟨lw_p23, List.forall_mem_cons.mpr ⟨lw_p24, List.forall_mem_cons.mpr ⟨lw_p25, List.forall_mem_cons.mpr ⟨lw_p26, List.forall_mem_cons.mpr ⟨lw_p27, List.forall_mem_cons.mpr ⟨lw_p28, List.forall_mem_cons.mpr ⟨lw_p29, List.forall_mem_cons.mpr ⟨lw_p30, List.forall_mem_cons.mpr ⟨lw_p31, fun _ h => absurd h List.not_mem_nil⟩⟩⟩⟩⟩⟩⟩⟩⟩⟩⟩⟩⟩⟩⟩⟩
theorem lw_p32 : lw_okq (⟨"IceTreaty", "tellLetters", "(LIceTreaty$Work;LIceTreaty$Party;I)V"⟩, 20) := ⟨⟨by decide +kernel, by decide +kernel⟩, List.mem_of_getElem? (i := 22) (by decide +kernel), List.mem_of_getElem? (i := 971) (by decide +kernel), List.mem_of_getElem? (i := 972) (by decide +kernel)⟩
theorem lw_p33 : lw_okq (⟨"IceTreaty", "tellNeighbours", "(LIceTreaty$Work;)V"⟩, 20) := ⟨⟨by decide +kernel, by decide +kernel⟩, List.mem_of_getElem? (i := 22) (by decide +kernel), List.mem_of_getElem? (i := 979) (by decide +kernel), List.mem_of_getElem? (i := 980) (by decide +kernel)⟩
theorem lw_p34 : lw_okq (⟨"IceTreaty", "hasConsent", "(LIceTreaty$Work;I)Z"⟩, 20) := ⟨⟨by decide +kernel, by decide +kernel⟩, List.mem_of_getElem? (i := 22) (by decide +kernel), List.mem_of_getElem? (i := 996) (by decide +kernel), List.mem_of_getElem? (i := 997) (by decide +kernel)⟩
theorem lw_p35 : lw_okq (⟨"IceTreaty", "decidingOn", "(I)I"⟩, 20) := ⟨⟨by decide +kernel, by decide +kernel⟩, List.mem_of_getElem? (i := 22) (by decide +kernel), List.mem_of_getElem? (i := 1000) (by decide +kernel), List.mem_of_getElem? (i := 1001) (by decide +kernel)⟩
theorem lw_p36 : lw_okq (⟨"IceTreaty$Law", "readingOf", "(III)LIceTreaty$Text;"⟩, 13) := ⟨⟨by decide +kernel, by decide +kernel⟩, List.mem_of_getElem? (i := 91) (by decide +kernel), List.mem_of_getElem? (i := 1009) (by decide +kernel), List.mem_of_getElem? (i := 1010) (by decide +kernel)⟩
theorem lw_p37 : lw_okq (⟨"IceTreaty$Law", "holds", "(LIceTreaty$Text;I)I"⟩, 13) := ⟨⟨by decide +kernel, by decide +kernel⟩, List.mem_of_getElem? (i := 91) (by decide +kernel), List.mem_of_getElem? (i := 1013) (by decide +kernel), List.mem_of_getElem? (i := 1014) (by decide +kernel)⟩
theorem lw_p38 : lw_okq (⟨"IceTreaty$Law", "push", "(I)V"⟩, 13) := ⟨⟨by decide +kernel, by decide +kernel⟩, List.mem_of_getElem? (i := 91) (by decide +kernel), List.mem_of_getElem? (i := 1017) (by decide +kernel), List.mem_of_getElem? (i := 1018) (by decide +kernel)⟩
theorem lw_p39 : lw_okq (⟨"IceTreaty$Law", "pop", "()I"⟩, 13) := ⟨⟨by decide +kernel, by decide +kernel⟩, List.mem_of_getElem? (i := 91) (by decide +kernel), List.mem_of_getElem? (i := 1021) (by decide +kernel), List.mem_of_getElem? (i := 1022) (by decide +kernel)⟩
theorem lw_p40 : lw_okq (⟨"IceTreaty", "shipOf", "(I)LIceTreaty$Ship;"⟩, 20) := ⟨⟨by decide +kernel, by decide +kernel⟩, List.mem_of_getElem? (i := 22) (by decide +kernel), List.mem_of_getElem? (i := 1110) (by decide +kernel), List.mem_of_getElem? (i := 1111) (by decide +kernel)⟩
theorem lw_p41 : lw_okq (⟨"IceTreaty$Land", "nearestOpen", "()I"⟩, 13) := ⟨⟨by decide +kernel, by decide +kernel⟩, List.mem_of_getElem? (i := 30) (by decide +kernel), List.mem_of_getElem? (i := 1139) (by decide +kernel), List.mem_of_getElem? (i := 1140) (by decide +kernel)⟩
theorem lw_p42 : lw_okq (⟨"IceTreaty$Land", "step", "(II)V"⟩, 13) := ⟨⟨by decide +kernel, by decide +kernel⟩, List.mem_of_getElem? (i := 30) (by decide +kernel), List.mem_of_getElem? (i := 1143) (by decide +kernel), List.mem_of_getElem? (i := 1144) (by decide +kernel)⟩
theorem lw_p43 : lw_okq (⟨"IceTreaty", "passWork", "(I)V"⟩, 20) := ⟨⟨by decide +kernel, by decide +kernel⟩, List.mem_of_getElem? (i := 22) (by decide +kernel), List.mem_of_getElem? (i := 1180) (by decide +kernel), List.mem_of_getElem? (i := 1181) (by decide +kernel)⟩
theorem lw_p44 : lw_okq (⟨"IceTreaty", "disturbNests", "(LIceTreaty$Work;)V"⟩, 20) := ⟨⟨by decide +kernel, by decide +kernel⟩, List.mem_of_getElem? (i := 22) (by decide +kernel), List.mem_of_getElem? (i := 1184) (by decide +kernel), List.mem_of_getElem? (i := 1185) (by decide +kernel)⟩
theorem lw_p45 : lw_okq (⟨"IceTreaty", "goDown", "(I)V"⟩, 20) := ⟨⟨by decide +kernel, by decide +kernel⟩, List.mem_of_getElem? (i := 22) (by decide +kernel), List.mem_of_getElem? (i := 1193) (by decide +kernel), List.mem_of_getElem? (i := 1194) (by decide +kernel)⟩
theorem lw_p46 : lw_okq (⟨"IceTreaty", "admitParties", "()V"⟩, 20) := ⟨⟨by decide +kernel, by decide +kernel⟩, List.mem_of_getElem? (i := 22) (by decide +kernel), List.mem_of_getElem? (i := 1206) (by decide +kernel), List.mem_of_getElem? (i := 1207) (by decide +kernel)⟩
theorem lw_p47 : lw_okq (⟨"IceTreaty", "passStation", "(I)V"⟩, 20) := ⟨⟨by decide +kernel, by decide +kernel⟩, List.mem_of_getElem? (i := 22) (by decide +kernel), List.mem_of_getElem? (i := 1210) (by decide +kernel), List.mem_of_getElem? (i := 1211) (by decide +kernel)⟩
def lw_privs_3 : List (MethodName × Nat) := [(⟨"IceTreaty", "tellLetters", "(LIceTreaty$Work;LIceTreaty$Party;I)V"⟩, 20), (⟨"IceTreaty", "tellNeighbours", "(LIceTreaty$Work;)V"⟩, 20), (⟨"IceTreaty", "hasConsent", "(LIceTreaty$Work;I)Z"⟩, 20), (⟨"IceTreaty", "decidingOn", "(I)I"⟩, 20), (⟨"IceTreaty$Law", "readingOf", "(III)LIceTreaty$Text;"⟩, 13), (⟨"IceTreaty$Law", "holds", "(LIceTreaty$Text;I)I"⟩, 13), (⟨"IceTreaty$Law", "push", "(I)V"⟩, 13), (⟨"IceTreaty$Law", "pop", "()I"⟩, 13), (⟨"IceTreaty", "shipOf", "(I)LIceTreaty$Ship;"⟩, 20), (⟨"IceTreaty$Land", "nearestOpen", "()I"⟩, 13), (⟨"IceTreaty$Land", "step", "(II)V"⟩, 13), (⟨"IceTreaty", "passWork", "(I)V"⟩, 20), (⟨"IceTreaty", "disturbNests", "(LIceTreaty$Work;)V"⟩, 20), (⟨"IceTreaty", "goDown", "(I)V"⟩, 20), (⟨"IceTreaty", "admitParties", "()V"⟩, 20), (⟨"IceTreaty", "passStation", "(I)V"⟩, 20)]
theorem lw_r3 : ∀ q ∈ lw_privs_3, lw_okq q := List.forall_mem_cons.mpr ⟨lw_p32, List.forall_mem_cons.mpr ⟨lw_p33, List.forall_mem_cons.mpr ⟨lw_p34, List.forall_mem_cons.mpr ⟨lw_p35, List.forall_mem_cons.mpr ⟨lw_p36, List.forall_mem_cons.mpr ⟨lw_p37, List.forall_mem_cons.mpr ⟨lw_p38, List.forall_mem_cons.mpr ⟨lw_p39, List.forall_mem_cons.mpr ⟨lw_p40, List.forall_mem_cons.mpr ⟨lw_p41, List.forall_mem_cons.mpr ⟨lw_p42, List.forall_mem_cons.mpr ⟨lw_p43, List.forall_mem_cons.mpr ⟨lw_p44, List.forall_mem_cons.mpr ⟨lw_p45, List.forall_mem_cons.mpr ⟨lw_p46, List.forall_mem_cons.mpr ⟨lw_p47, fun _ h => absurd h List.not_mem_nil⟩⟩⟩⟩⟩⟩⟩⟩⟩⟩⟩⟩⟩⟩⟩⟩
theorem lw_p48 : lw_okq (⟨"IceTreaty", "burn", "(LIceTreaty$Place;I)V"⟩, 20) := ⟨⟨by decide +kernel, by decide +kernel⟩, List.mem_of_getElem? (i := 22) (by decide +kernel), List.mem_of_getElem? (i := 1214) (by decide +kernel), List.mem_of_getElem? (i := 1215) (by decide +kernel)⟩
theorem lw_p49 : lw_okq (⟨"IceTreaty", "sendPeopleHome", "(LIceTreaty$Place;)V"⟩, 20) := ⟨⟨by decide +kernel, by decide +kernel⟩, List.mem_of_getElem? (i := 22) (by decide +kernel), List.mem_of_getElem? (i := 1218) (by decide +kernel), List.mem_of_getElem? (i := 1219) (by decide +kernel)⟩
theorem lw_p50 : lw_okq (⟨"IceTreaty", "carry", "(ILIceTreaty$Place;)V"⟩, 20) := ⟨⟨by decide +kernel, by decide +kernel⟩, List.mem_of_getElem? (i := 22) (by decide +kernel), List.mem_of_getElem? (i := 1226) (by decide +kernel), List.mem_of_getElem? (i := 1227) (by decide +kernel)⟩
theorem lw_p51 : lw_okq (⟨"IceTreaty", "carryField", "(LIceTreaty$Place;IZ)V"⟩, 20) := ⟨⟨by decide +kernel, by decide +kernel⟩, List.mem_of_getElem? (i := 22) (by decide +kernel), List.mem_of_getElem? (i := 1231) (by decide +kernel), List.mem_of_getElem? (i := 1232) (by decide +kernel)⟩
theorem lw_p52 : lw_okq (⟨"IceTreaty", "loseStation", "(LIceTreaty$Place;)V"⟩, 20) := ⟨⟨by decide +kernel, by decide +kernel⟩, List.mem_of_getElem? (i := 22) (by decide +kernel), List.mem_of_getElem? (i := 1235) (by decide +kernel), List.mem_of_getElem? (i := 1236) (by decide +kernel)⟩
theorem lw_p53 : lw_okq (⟨"IceTreaty", "passShip", "(LIceTreaty$Ship;)V"⟩, 20) := ⟨⟨by decide +kernel, by decide +kernel⟩, List.mem_of_getElem? (i := 22) (by decide +kernel), List.mem_of_getElem? (i := 1239) (by decide +kernel), List.mem_of_getElem? (i := 1240) (by decide +kernel)⟩
theorem lw_p54 : lw_okq (⟨"IceTreaty", "meetIce", "(LIceTreaty$Ship;)V"⟩, 20) := ⟨⟨by decide +kernel, by decide +kernel⟩, List.mem_of_getElem? (i := 22) (by decide +kernel), List.mem_of_getElem? (i := 1243) (by decide +kernel), List.mem_of_getElem? (i := 1244) (by decide +kernel)⟩
theorem lw_p55 : lw_okq (⟨"IceTreaty", "unload", "(LIceTreaty$Ship;)V"⟩, 20) := ⟨⟨by decide +kernel, by decide +kernel⟩, List.mem_of_getElem? (i := 22) (by decide +kernel), List.mem_of_getElem? (i := 1251) (by decide +kernel), List.mem_of_getElem? (i := 1252) (by decide +kernel)⟩
theorem lw_p56 : lw_okq (⟨"IceTreaty", "comeHome", "(LIceTreaty$Ship;)V"⟩, 20) := ⟨⟨by decide +kernel, by decide +kernel⟩, List.mem_of_getElem? (i := 22) (by decide +kernel), List.mem_of_getElem? (i := 1259) (by decide +kernel), List.mem_of_getElem? (i := 1260) (by decide +kernel)⟩
theorem lw_p57 : lw_okq (⟨"IceTreaty", "passSledge", "(I)V"⟩, 20) := ⟨⟨by decide +kernel, by decide +kernel⟩, List.mem_of_getElem? (i := 22) (by decide +kernel), List.mem_of_getElem? (i := 1263) (by decide +kernel), List.mem_of_getElem? (i := 1264) (by decide +kernel)⟩
theorem lw_p58 : lw_okq (⟨"IceTreaty", "isOver", "(I)Z"⟩, 20) := ⟨⟨by decide +kernel, by decide +kernel⟩, List.mem_of_getElem? (i := 22) (by decide +kernel), List.mem_of_getElem? (i := 1311) (by decide +kernel), List.mem_of_getElem? (i := 1312) (by decide +kernel)⟩
theorem lw_p59 : lw_okq (⟨"IceTreaty", "tonnesUpTo", "(I)I"⟩, 20) := ⟨⟨by decide +kernel, by decide +kernel⟩, List.mem_of_getElem? (i := 22) (by decide +kernel), List.mem_of_getElem? (i := 1315) (by decide +kernel), List.mem_of_getElem? (i := 1316) (by decide +kernel)⟩
theorem lw_p60 : lw_okq (⟨"IceTreaty", "isDoubtful", "(II)Z"⟩, 20) := ⟨⟨by decide +kernel, by decide +kernel⟩, List.mem_of_getElem? (i := 22) (by decide +kernel), List.mem_of_getElem? (i := 1323) (by decide +kernel), List.mem_of_getElem? (i := 1324) (by decide +kernel)⟩
theorem lw_p61 : lw_okq (⟨"IceTreaty", "blockers", "(I)I"⟩, 20) := ⟨⟨by decide +kernel, by decide +kernel⟩, List.mem_of_getElem? (i := 22) (by decide +kernel), List.mem_of_getElem? (i := 1340) (by decide +kernel), List.mem_of_getElem? (i := 1341) (by decide +kernel)⟩
theorem lw_p62 : lw_okq (⟨"IceTreaty", "worthOf", "(I)I"⟩, 20) := ⟨⟨by decide +kernel, by decide +kernel⟩, List.mem_of_getElem? (i := 22) (by decide +kernel), List.mem_of_getElem? (i := 1353) (by decide +kernel), List.mem_of_getElem? (i := 1354) (by decide +kernel)⟩
theorem lw_p63 : lw_okq (⟨"IceTreaty", "measureLegs", "()V"⟩, 20) := ⟨⟨by decide +kernel, by decide +kernel⟩, List.mem_of_getElem? (i := 22) (by decide +kernel), List.mem_of_getElem? (i := 1378) (by decide +kernel), List.mem_of_getElem? (i := 1379) (by decide +kernel)⟩
def lw_privs_4 : List (MethodName × Nat) := [(⟨"IceTreaty", "burn", "(LIceTreaty$Place;I)V"⟩, 20), (⟨"IceTreaty", "sendPeopleHome", "(LIceTreaty$Place;)V"⟩, 20), (⟨"IceTreaty", "carry", "(ILIceTreaty$Place;)V"⟩, 20), (⟨"IceTreaty", "carryField", "(LIceTreaty$Place;IZ)V"⟩, 20), (⟨"IceTreaty", "loseStation", "(LIceTreaty$Place;)V"⟩, 20), (⟨"IceTreaty", "passShip", "(LIceTreaty$Ship;)V"⟩, 20), (⟨"IceTreaty", "meetIce", "(LIceTreaty$Ship;)V"⟩, 20), (⟨"IceTreaty", "unload", "(LIceTreaty$Ship;)V"⟩, 20), (⟨"IceTreaty", "comeHome", "(LIceTreaty$Ship;)V"⟩, 20), (⟨"IceTreaty", "passSledge", "(I)V"⟩, 20), (⟨"IceTreaty", "isOver", "(I)Z"⟩, 20), (⟨"IceTreaty", "tonnesUpTo", "(I)I"⟩, 20), (⟨"IceTreaty", "isDoubtful", "(II)Z"⟩, 20), (⟨"IceTreaty", "blockers", "(I)I"⟩, 20), (⟨"IceTreaty", "worthOf", "(I)I"⟩, 20), (⟨"IceTreaty", "measureLegs", "()V"⟩, 20)]
theorem lw_r4 : ∀ q ∈ lw_privs_4, lw_okq q := List.forall_mem_cons.mpr ⟨lw_p48, List.forall_mem_cons.mpr ⟨lw_p49, List.forall_mem_cons.mpr ⟨lw_p50, List.forall_mem_cons.mpr ⟨lw_p51, List.forall_mem_cons.mpr ⟨lw_p52, List.forall_mem_cons.mpr ⟨lw_p53, List.forall_mem_cons.mpr ⟨lw_p54, List.forall_mem_cons.mpr ⟨lw_p55, List.forall_mem_cons.mpr ⟨lw_p56, List.forall_mem_cons.mpr ⟨lw_p57, List.forall_mem_cons.mpr ⟨lw_p58, List.forall_mem_cons.mpr ⟨lw_p59, List.forall_mem_cons.mpr ⟨lw_p60, List.forall_mem_cons.mpr ⟨lw_p61, List.forall_mem_cons.mpr ⟨lw_p62, List.forall_mem_cons.mpr ⟨lw_p63, fun _ h => absurd h List.not_mem_nil⟩⟩⟩⟩⟩⟩⟩⟩⟩⟩⟩⟩⟩⟩⟩⟩
theorem lw_p64 : lw_okq (⟨"IceTreaty$Season", "lookAhead", "()V"⟩, 10) := ⟨⟨by decide +kernel, by decide +kernel⟩, List.mem_of_getElem? (i := 173) (by decide +kernel), List.mem_of_getElem? (i := 1386) (by decide +kernel), List.mem_of_getElem? (i := 1387) (by decide +kernel)⟩
theorem lw_p65 : lw_okq (⟨"IceTreaty$Season", "leastAhead", "(II)I"⟩, 10) := ⟨⟨by decide +kernel, by decide +kernel⟩, List.mem_of_getElem? (i := 173) (by decide +kernel), List.mem_of_getElem? (i := 1390) (by decide +kernel), List.mem_of_getElem? (i := 1391) (by decide +kernel)⟩
theorem lw_p66 : lw_okq (⟨"IceTreaty$Season", "extend", "(II)V"⟩, 10) := ⟨⟨by decide +kernel, by decide +kernel⟩, List.mem_of_getElem? (i := 173) (by decide +kernel), List.mem_of_getElem? (i := 1398) (by decide +kernel), List.mem_of_getElem? (i := 1399) (by decide +kernel)⟩
theorem lw_p67 : lw_okq (⟨"IceTreaty$Season", "comes", "(III)Z"⟩, 10) := ⟨⟨by decide +kernel, by decide +kernel⟩, List.mem_of_getElem? (i := 173) (by decide +kernel), List.mem_of_getElem? (i := 1402) (by decide +kernel), List.mem_of_getElem? (i := 1403) (by decide +kernel)⟩
theorem lw_p68 : lw_okq (⟨"IceTreaty$Season", "goOn", "(II)V"⟩, 10) := ⟨⟨by decide +kernel, by decide +kernel⟩, List.mem_of_getElem? (i := 173) (by decide +kernel), List.mem_of_getElem? (i := 1406) (by decide +kernel), List.mem_of_getElem? (i := 1407) (by decide +kernel)⟩
theorem lw_p69 : lw_okq (⟨"IceTreaty$Season", "keep", "()V"⟩, 10) := ⟨⟨by decide +kernel, by decide +kernel⟩, List.mem_of_getElem? (i := 173) (by decide +kernel), List.mem_of_getElem? (i := 1410) (by decide +kernel), List.mem_of_getElem? (i := 1411) (by decide +kernel)⟩
theorem lw_p70 : lw_okq (⟨"IceTreaty", "firstWrong", "(I)I"⟩, 20) := ⟨⟨by decide +kernel, by decide +kernel⟩, List.mem_of_getElem? (i := 22) (by decide +kernel), List.mem_of_getElem? (i := 1432) (by decide +kernel), List.mem_of_getElem? (i := 1433) (by decide +kernel)⟩
theorem lw_p71 : lw_okq (⟨"IceTreaty", "fedNumber", "(I)I"⟩, 20) := ⟨⟨by decide +kernel, by decide +kernel⟩, List.mem_of_getElem? (i := 22) (by decide +kernel), List.mem_of_getElem? (i := 1436) (by decide +kernel), List.mem_of_getElem? (i := 1437) (by decide +kernel)⟩
theorem lw_p72 : lw_okq (⟨"IceTreaty", "lookAtStation", "(LIceTreaty$Place;I)I"⟩, 20) := ⟨⟨by decide +kernel, by decide +kernel⟩, List.mem_of_getElem? (i := 22) (by decide +kernel), List.mem_of_getElem? (i := 1444) (by decide +kernel), List.mem_of_getElem? (i := 1445) (by decide +kernel)⟩
theorem lw_p73 : lw_okq (⟨"IceTreaty", "sledgesOnWay", "()I"⟩, 20) := ⟨⟨by decide +kernel, by decide +kernel⟩, List.mem_of_getElem? (i := 22) (by decide +kernel), List.mem_of_getElem? (i := 1465) (by decide +kernel), List.mem_of_getElem? (i := 1466) (by decide +kernel)⟩
theorem lw_p74 : lw_okq (⟨"IceTreaty", "decidesFrom", "(I)I"⟩, 20) := ⟨⟨by decide +kernel, by decide +kernel⟩, List.mem_of_getElem? (i := 22) (by decide +kernel), List.mem_of_getElem? (i := 1469) (by decide +kernel), List.mem_of_getElem? (i := 1470) (by decide +kernel)⟩
theorem lw_p75 : lw_okq (⟨"IceTreatyModel", "begins", "(II)V"⟩, 151) := ⟨⟨by decide +kernel, by decide +kernel⟩, List.mem_of_getElem? (i := 1473) (by decide +kernel), List.mem_of_getElem? (i := 1479) (by decide +kernel), List.mem_of_getElem? (i := 1480) (by decide +kernel)⟩
theorem lw_p76 : lw_okq (⟨"IceTreatyModel", "isCell", "(I)Z"⟩, 151) := ⟨⟨by decide +kernel, by decide +kernel⟩, List.mem_of_getElem? (i := 1473) (by decide +kernel), List.mem_of_getElem? (i := 1949) (by decide +kernel), List.mem_of_getElem? (i := 1950) (by decide +kernel)⟩
theorem lw_p77 : lw_okq (⟨"IceTreatyModel", "isParty", "(I)Z"⟩, 151) := ⟨⟨by decide +kernel, by decide +kernel⟩, List.mem_of_getElem? (i := 1473) (by decide +kernel), List.mem_of_getElem? (i := 1965) (by decide +kernel), List.mem_of_getElem? (i := 1966) (by decide +kernel)⟩
theorem lw_p78 : lw_okq (⟨"IceTreatyModel", "decidesOn", "(II)Z"⟩, 151) := ⟨⟨by decide +kernel, by decide +kernel⟩, List.mem_of_getElem? (i := 1473) (by decide +kernel), List.mem_of_getElem? (i := 1972) (by decide +kernel), List.mem_of_getElem? (i := 1973) (by decide +kernel)⟩
theorem lw_p79 : lw_okq (⟨"IceTreatyModel", "isRectangle", "(II)Z"⟩, 151) := ⟨⟨by decide +kernel, by decide +kernel⟩, List.mem_of_getElem? (i := 1473) (by decide +kernel), List.mem_of_getElem? (i := 1980) (by decide +kernel), List.mem_of_getElem? (i := 1981) (by decide +kernel)⟩
def lw_privs_5 : List (MethodName × Nat) := [(⟨"IceTreaty$Season", "lookAhead", "()V"⟩, 10), (⟨"IceTreaty$Season", "leastAhead", "(II)I"⟩, 10), (⟨"IceTreaty$Season", "extend", "(II)V"⟩, 10), (⟨"IceTreaty$Season", "comes", "(III)Z"⟩, 10), (⟨"IceTreaty$Season", "goOn", "(II)V"⟩, 10), (⟨"IceTreaty$Season", "keep", "()V"⟩, 10), (⟨"IceTreaty", "firstWrong", "(I)I"⟩, 20), (⟨"IceTreaty", "fedNumber", "(I)I"⟩, 20), (⟨"IceTreaty", "lookAtStation", "(LIceTreaty$Place;I)I"⟩, 20), (⟨"IceTreaty", "sledgesOnWay", "()I"⟩, 20), (⟨"IceTreaty", "decidesFrom", "(I)I"⟩, 20), (⟨"IceTreatyModel", "begins", "(II)V"⟩, 151), (⟨"IceTreatyModel", "isCell", "(I)Z"⟩, 151), (⟨"IceTreatyModel", "isParty", "(I)Z"⟩, 151), (⟨"IceTreatyModel", "decidesOn", "(II)Z"⟩, 151), (⟨"IceTreatyModel", "isRectangle", "(II)Z"⟩, 151)]
theorem lw_r5 : ∀ q ∈ lw_privs_5, lw_okq q := List.forall_mem_cons.mpr ⟨lw_p64, List.forall_mem_cons.mpr ⟨lw_p65, List.forall_mem_cons.mpr ⟨lw_p66, List.forall_mem_cons.mpr ⟨lw_p67, List.forall_mem_cons.mpr ⟨lw_p68, List.forall_mem_cons.mpr ⟨lw_p69, List.forall_mem_cons.mpr ⟨lw_p70, List.forall_mem_cons.mpr ⟨lw_p71, List.forall_mem_cons.mpr ⟨lw_p72, List.forall_mem_cons.mpr ⟨lw_p73, List.forall_mem_cons.mpr ⟨lw_p74, List.forall_mem_cons.mpr ⟨lw_p75, List.forall_mem_cons.mpr ⟨lw_p76, List.forall_mem_cons.mpr ⟨lw_p77, List.forall_mem_cons.mpr ⟨lw_p78, List.forall_mem_cons.mpr ⟨lw_p79, fun _ h => absurd h List.not_mem_nil⟩⟩⟩⟩⟩⟩⟩⟩⟩⟩⟩⟩⟩⟩⟩⟩
theorem lw_p80 : lw_okq (⟨"IceTreatyModel", "isAsleep", "(II)Z"⟩, 151) := ⟨⟨by decide +kernel, by decide +kernel⟩, List.mem_of_getElem? (i := 1473) (by decide +kernel), List.mem_of_getElem? (i := 1984) (by decide +kernel), List.mem_of_getElem? (i := 1985) (by decide +kernel)⟩
theorem lw_p81 : lw_okq (⟨"IceTreatyModel", "binds", "(II)V"⟩, 151) := ⟨⟨by decide +kernel, by decide +kernel⟩, List.mem_of_getElem? (i := 1473) (by decide +kernel), List.mem_of_getElem? (i := 1988) (by decide +kernel), List.mem_of_getElem? (i := 1989) (by decide +kernel)⟩
theorem lw_p82 : lw_okq (⟨"IceTreatyModel", "strikes", "(I)V"⟩, 151) := ⟨⟨by decide +kernel, by decide +kernel⟩, List.mem_of_getElem? (i := 1473) (by decide +kernel), List.mem_of_getElem? (i := 1992) (by decide +kernel), List.mem_of_getElem? (i := 1993) (by decide +kernel)⟩
theorem lw_p83 : lw_okq (⟨"IceTreatyModel", "numberBy", "(IIII)I"⟩, 151) := ⟨⟨by decide +kernel, by decide +kernel⟩, List.mem_of_getElem? (i := 1473) (by decide +kernel), List.mem_of_getElem? (i := 1996) (by decide +kernel), List.mem_of_getElem? (i := 1997) (by decide +kernel)⟩
theorem lw_p84 : lw_okq (⟨"IceTreatyModel", "place", "(IIIII)I"⟩, 151) := ⟨⟨by decide +kernel, by decide +kernel⟩, List.mem_of_getElem? (i := 1473) (by decide +kernel), List.mem_of_getElem? (i := 2000) (by decide +kernel), List.mem_of_getElem? (i := 2001) (by decide +kernel)⟩
theorem lw_p85 : lw_okq (⟨"IceTreatyModel", "isPlace", "(II)Z"⟩, 151) := ⟨⟨by decide +kernel, by decide +kernel⟩, List.mem_of_getElem? (i := 1473) (by decide +kernel), List.mem_of_getElem? (i := 2008) (by decide +kernel), List.mem_of_getElem? (i := 2009) (by decide +kernel)⟩
theorem lw_p86 : lw_okq (⟨"IceTreatyModel", "isLand", "(I)Z"⟩, 151) := ⟨⟨by decide +kernel, by decide +kernel⟩, List.mem_of_getElem? (i := 1473) (by decide +kernel), List.mem_of_getElem? (i := 2016) (by decide +kernel), List.mem_of_getElem? (i := 2017) (by decide +kernel)⟩
theorem lw_p87 : lw_okq (⟨"IceTreatyModel", "stands", "(I)Z"⟩, 151) := ⟨⟨by decide +kernel, by decide +kernel⟩, List.mem_of_getElem? (i := 1473) (by decide +kernel), List.mem_of_getElem? (i := 2025) (by decide +kernel), List.mem_of_getElem? (i := 2026) (by decide +kernel)⟩
theorem lw_p88 : lw_okq (⟨"IceTreatyModel", "isStation", "(I)Z"⟩, 151) := ⟨⟨by decide +kernel, by decide +kernel⟩, List.mem_of_getElem? (i := 1473) (by decide +kernel), List.mem_of_getElem? (i := 2029) (by decide +kernel), List.mem_of_getElem? (i := 2030) (by decide +kernel)⟩
theorem lw_p89 : lw_okq (⟨"IceTreatyModel", "types", "(I)V"⟩, 151) := ⟨⟨by decide +kernel, by decide +kernel⟩, List.mem_of_getElem? (i := 1473) (by decide +kernel), List.mem_of_getElem? (i := 2045) (by decide +kernel), List.mem_of_getElem? (i := 2046) (by decide +kernel)⟩
theorem lw_p90 : lw_okq (⟨"IceTreatyModel", "readsClause", "()Z"⟩, 151) := ⟨⟨by decide +kernel, by decide +kernel⟩, List.mem_of_getElem? (i := 1473) (by decide +kernel), List.mem_of_getElem? (i := 2053) (by decide +kernel), List.mem_of_getElem? (i := 2054) (by decide +kernel)⟩
theorem lw_p91 : lw_okq (⟨"IceTreatyModel", "sign", "()I"⟩, 151) := ⟨⟨by decide +kernel, by decide +kernel⟩, List.mem_of_getElem? (i := 1473) (by decide +kernel), List.mem_of_getElem? (i := 2057) (by decide +kernel), List.mem_of_getElem? (i := 2058) (by decide +kernel)⟩
theorem lw_p92 : lw_okq (⟨"IceTreatyModel", "wrong", "(II)Z"⟩, 151) := ⟨⟨by decide +kernel, by decide +kernel⟩, List.mem_of_getElem? (i := 1473) (by decide +kernel), List.mem_of_getElem? (i := 2067) (by decide +kernel), List.mem_of_getElem? (i := 2068) (by decide +kernel)⟩
theorem lw_p93 : lw_okq (⟨"IceTreatyModel", "readsCondition", "()Z"⟩, 151) := ⟨⟨by decide +kernel, by decide +kernel⟩, List.mem_of_getElem? (i := 1473) (by decide +kernel), List.mem_of_getElem? (i := 2071) (by decide +kernel), List.mem_of_getElem? (i := 2072) (by decide +kernel)⟩
theorem lw_p94 : lw_okq (⟨"IceTreatyModel", "opens", "(I)Z"⟩, 151) := ⟨⟨by decide +kernel, by decide +kernel⟩, List.mem_of_getElem? (i := 1473) (by decide +kernel), List.mem_of_getElem? (i := 2075) (by decide +kernel), List.mem_of_getElem? (i := 2076) (by decide +kernel)⟩
theorem lw_p95 : lw_okq (⟨"IceTreatyModel", "readsCompared", "()Z"⟩, 151) := ⟨⟨by decide +kernel, by decide +kernel⟩, List.mem_of_getElem? (i := 1473) (by decide +kernel), List.mem_of_getElem? (i := 2080) (by decide +kernel), List.mem_of_getElem? (i := 2081) (by decide +kernel)⟩
def lw_privs_6 : List (MethodName × Nat) := [(⟨"IceTreatyModel", "isAsleep", "(II)Z"⟩, 151), (⟨"IceTreatyModel", "binds", "(II)V"⟩, 151), (⟨"IceTreatyModel", "strikes", "(I)V"⟩, 151), (⟨"IceTreatyModel", "numberBy", "(IIII)I"⟩, 151), (⟨"IceTreatyModel", "place", "(IIIII)I"⟩, 151), (⟨"IceTreatyModel", "isPlace", "(II)Z"⟩, 151), (⟨"IceTreatyModel", "isLand", "(I)Z"⟩, 151), (⟨"IceTreatyModel", "stands", "(I)Z"⟩, 151), (⟨"IceTreatyModel", "isStation", "(I)Z"⟩, 151), (⟨"IceTreatyModel", "types", "(I)V"⟩, 151), (⟨"IceTreatyModel", "readsClause", "()Z"⟩, 151), (⟨"IceTreatyModel", "sign", "()I"⟩, 151), (⟨"IceTreatyModel", "wrong", "(II)Z"⟩, 151), (⟨"IceTreatyModel", "readsCondition", "()Z"⟩, 151), (⟨"IceTreatyModel", "opens", "(I)Z"⟩, 151), (⟨"IceTreatyModel", "readsCompared", "()Z"⟩, 151)]
theorem lw_r6 : ∀ q ∈ lw_privs_6, lw_okq q := List.forall_mem_cons.mpr ⟨lw_p80, List.forall_mem_cons.mpr ⟨lw_p81, List.forall_mem_cons.mpr ⟨lw_p82, List.forall_mem_cons.mpr ⟨lw_p83, List.forall_mem_cons.mpr ⟨lw_p84, List.forall_mem_cons.mpr ⟨lw_p85, List.forall_mem_cons.mpr ⟨lw_p86, List.forall_mem_cons.mpr ⟨lw_p87, List.forall_mem_cons.mpr ⟨lw_p88, List.forall_mem_cons.mpr ⟨lw_p89, List.forall_mem_cons.mpr ⟨lw_p90, List.forall_mem_cons.mpr ⟨lw_p91, List.forall_mem_cons.mpr ⟨lw_p92, List.forall_mem_cons.mpr ⟨lw_p93, List.forall_mem_cons.mpr ⟨lw_p94, List.forall_mem_cons.mpr ⟨lw_p95, fun _ h => absurd h List.not_mem_nil⟩⟩⟩⟩⟩⟩⟩⟩⟩⟩⟩⟩⟩⟩⟩⟩
theorem lw_p96 : lw_okq (⟨"IceTreatyModel", "readsSum", "()Z"⟩, 151) := ⟨⟨by decide +kernel, by decide +kernel⟩, List.mem_of_getElem? (i := 1473) (by decide +kernel), List.mem_of_getElem? (i := 2084) (by decide +kernel), List.mem_of_getElem? (i := 2085) (by decide +kernel)⟩
theorem lw_p97 : lw_okq (⟨"IceTreatyModel", "readsFactor", "()Z"⟩, 151) := ⟨⟨by decide +kernel, by decide +kernel⟩, List.mem_of_getElem? (i := 1473) (by decide +kernel), List.mem_of_getElem? (i := 2088) (by decide +kernel), List.mem_of_getElem? (i := 2089) (by decide +kernel)⟩
theorem lw_p98 : lw_okq (⟨"IceTreatyModel", "isDigit", "()Z"⟩, 151) := ⟨⟨by decide +kernel, by decide +kernel⟩, List.mem_of_getElem? (i := 1473) (by decide +kernel), List.mem_of_getElem? (i := 2092) (by decide +kernel), List.mem_of_getElem? (i := 2093) (by decide +kernel)⟩
theorem lw_p99 : lw_okq (⟨"IceTreatyModel", "readsNumber", "(I)Z"⟩, 151) := ⟨⟨by decide +kernel, by decide +kernel⟩, List.mem_of_getElem? (i := 1473) (by decide +kernel), List.mem_of_getElem? (i := 2097) (by decide +kernel), List.mem_of_getElem? (i := 2098) (by decide +kernel)⟩
theorem lw_p100 : lw_okq (⟨"IceTreatyModel", "says", "(II)V"⟩, 151) := ⟨⟨by decide +kernel, by decide +kernel⟩, List.mem_of_getElem? (i := 1473) (by decide +kernel), List.mem_of_getElem? (i := 2101) (by decide +kernel), List.mem_of_getElem? (i := 2102) (by decide +kernel)⟩
theorem lw_p101 : lw_okq (⟨"IceTreatyModel", "closesSums", "(Z)V"⟩, 151) := ⟨⟨by decide +kernel, by decide +kernel⟩, List.mem_of_getElem? (i := 1473) (by decide +kernel), List.mem_of_getElem? (i := 2111) (by decide +kernel), List.mem_of_getElem? (i := 2112) (by decide +kernel)⟩
theorem lw_p102 : lw_okq (⟨"IceTreatyModel", "top", "()I"⟩, 151) := ⟨⟨by decide +kernel, by decide +kernel⟩, List.mem_of_getElem? (i := 1473) (by decide +kernel), List.mem_of_getElem? (i := 2115) (by decide +kernel), List.mem_of_getElem? (i := 2116) (by decide +kernel)⟩
theorem lw_p103 : lw_okq (⟨"IceTreatyModel", "hasOpenSum", "(I)Z"⟩, 151) := ⟨⟨by decide +kernel, by decide +kernel⟩, List.mem_of_getElem? (i := 1473) (by decide +kernel), List.mem_of_getElem? (i := 2119) (by decide +kernel), List.mem_of_getElem? (i := 2120) (by decide +kernel)⟩
theorem lw_p104 : lw_okq (⟨"IceTreatyModel", "endsPiece", "()V"⟩, 151) := ⟨⟨by decide +kernel, by decide +kernel⟩, List.mem_of_getElem? (i := 1473) (by decide +kernel), List.mem_of_getElem? (i := 2123) (by decide +kernel), List.mem_of_getElem? (i := 2124) (by decide +kernel)⟩
theorem lw_p105 : lw_okq (⟨"IceTreatyModel", "lands", "(Z)V"⟩, 151) := ⟨⟨by decide +kernel, by decide +kernel⟩, List.mem_of_getElem? (i := 1473) (by decide +kernel), List.mem_of_getElem? (i := 2127) (by decide +kernel), List.mem_of_getElem? (i := 2128) (by decide +kernel)⟩
theorem lw_p106 : lw_okq (⟨"IceTreatyModel", "jumps", "(I)V"⟩, 151) := ⟨⟨by decide +kernel, by decide +kernel⟩, List.mem_of_getElem? (i := 1473) (by decide +kernel), List.mem_of_getElem? (i := 2131) (by decide +kernel), List.mem_of_getElem? (i := 2132) (by decide +kernel)⟩
theorem lw_p107 : lw_okq (⟨"IceTreatyModel", "takes", "(I)Z"⟩, 151) := ⟨⟨by decide +kernel, by decide +kernel⟩, List.mem_of_getElem? (i := 1473) (by decide +kernel), List.mem_of_getElem? (i := 2135) (by decide +kernel), List.mem_of_getElem? (i := 2136) (by decide +kernel)⟩
theorem lw_p108 : lw_okq (⟨"IceTreatyModel", "isText", "(I)Z"⟩, 151) := ⟨⟨by decide +kernel, by decide +kernel⟩, List.mem_of_getElem? (i := 1473) (by decide +kernel), List.mem_of_getElem? (i := 2143) (by decide +kernel), List.mem_of_getElem? (i := 2144) (by decide +kernel)⟩
theorem lw_p109 : lw_okq (⟨"IceTreatyModel", "isClause", "(II)Z"⟩, 151) := ⟨⟨by decide +kernel, by decide +kernel⟩, List.mem_of_getElem? (i := 1473) (by decide +kernel), List.mem_of_getElem? (i := 2151) (by decide +kernel), List.mem_of_getElem? (i := 2152) (by decide +kernel)⟩
theorem lw_p110 : lw_okq (⟨"IceTreatyModel", "caughtAtMost", "(IIII)I"⟩, 151) := ⟨⟨by decide +kernel, by decide +kernel⟩, List.mem_of_getElem? (i := 1473) (by decide +kernel), List.mem_of_getElem? (i := 2163) (by decide +kernel), List.mem_of_getElem? (i := 2164) (by decide +kernel)⟩
theorem lw_p111 : lw_okq (⟨"IceTreatyModel", "asked", "(IIII)I"⟩, 151) := ⟨⟨by decide +kernel, by decide +kernel⟩, List.mem_of_getElem? (i := 1473) (by decide +kernel), List.mem_of_getElem? (i := 2167) (by decide +kernel), List.mem_of_getElem? (i := 2168) (by decide +kernel)⟩
def lw_privs_7 : List (MethodName × Nat) := [(⟨"IceTreatyModel", "readsSum", "()Z"⟩, 151), (⟨"IceTreatyModel", "readsFactor", "()Z"⟩, 151), (⟨"IceTreatyModel", "isDigit", "()Z"⟩, 151), (⟨"IceTreatyModel", "readsNumber", "(I)Z"⟩, 151), (⟨"IceTreatyModel", "says", "(II)V"⟩, 151), (⟨"IceTreatyModel", "closesSums", "(Z)V"⟩, 151), (⟨"IceTreatyModel", "top", "()I"⟩, 151), (⟨"IceTreatyModel", "hasOpenSum", "(I)Z"⟩, 151), (⟨"IceTreatyModel", "endsPiece", "()V"⟩, 151), (⟨"IceTreatyModel", "lands", "(Z)V"⟩, 151), (⟨"IceTreatyModel", "jumps", "(I)V"⟩, 151), (⟨"IceTreatyModel", "takes", "(I)Z"⟩, 151), (⟨"IceTreatyModel", "isText", "(I)Z"⟩, 151), (⟨"IceTreatyModel", "isClause", "(II)Z"⟩, 151), (⟨"IceTreatyModel", "caughtAtMost", "(IIII)I"⟩, 151), (⟨"IceTreatyModel", "asked", "(IIII)I"⟩, 151)]
theorem lw_r7 : ∀ q ∈ lw_privs_7, lw_okq q := List.forall_mem_cons.mpr ⟨lw_p96, List.forall_mem_cons.mpr ⟨lw_p97, List.forall_mem_cons.mpr ⟨lw_p98, List.forall_mem_cons.mpr ⟨lw_p99, List.forall_mem_cons.mpr ⟨lw_p100, List.forall_mem_cons.mpr ⟨lw_p101, List.forall_mem_cons.mpr ⟨lw_p102, List.forall_mem_cons.mpr ⟨lw_p103, List.forall_mem_cons.mpr ⟨lw_p104, List.forall_mem_cons.mpr ⟨lw_p105, List.forall_mem_cons.mpr ⟨lw_p106, List.forall_mem_cons.mpr ⟨lw_p107, List.forall_mem_cons.mpr ⟨lw_p108, List.forall_mem_cons.mpr ⟨lw_p109, List.forall_mem_cons.mpr ⟨lw_p110, List.forall_mem_cons.mpr ⟨lw_p111, fun _ h => absurd h List.not_mem_nil⟩⟩⟩⟩⟩⟩⟩⟩⟩⟩⟩⟩⟩⟩⟩⟩
theorem lw_p112 : lw_okq (⟨"IceTreatyModel", "isWork", "(I)Z"⟩, 151) := ⟨⟨by decide +kernel, by decide +kernel⟩, List.mem_of_getElem? (i := 1473) (by decide +kernel), List.mem_of_getElem? (i := 2179) (by decide +kernel), List.mem_of_getElem? (i := 2180) (by decide +kernel)⟩
theorem lw_p113 : lw_okq (⟨"IceTreatyModel", "mayOn", "(IIZ)I"⟩, 151) := ⟨⟨by decide +kernel, by decide +kernel⟩, List.mem_of_getElem? (i := 1473) (by decide +kernel), List.mem_of_getElem? (i := 2195) (by decide +kernel), List.mem_of_getElem? (i := 2196) (by decide +kernel)⟩
theorem lw_p114 : lw_okq (⟨"IceTreatyModel", "barOf", "(IIIZ)I"⟩, 151) := ⟨⟨by decide +kernel, by decide +kernel⟩, List.mem_of_getElem? (i := 1473) (by decide +kernel), List.mem_of_getElem? (i := 2199) (by decide +kernel), List.mem_of_getElem? (i := 2200) (by decide +kernel)⟩
theorem lw_p115 : lw_okq (⟨"IceTreatyModel", "clauseHolds", "(IIIZ)I"⟩, 151) := ⟨⟨by decide +kernel, by decide +kernel⟩, List.mem_of_getElem? (i := 1473) (by decide +kernel), List.mem_of_getElem? (i := 2203) (by decide +kernel), List.mem_of_getElem? (i := 2204) (by decide +kernel)⟩
theorem lw_p116 : lw_okq (⟨"IceTreatyModel", "holds", "([IIIIII)I"⟩, 151) := ⟨⟨by decide +kernel, by decide +kernel⟩, List.mem_of_getElem? (i := 1473) (by decide +kernel), List.mem_of_getElem? (i := 2207) (by decide +kernel), List.mem_of_getElem? (i := 2208) (by decide +kernel)⟩
theorem lw_p117 : lw_okq (⟨"IceTreatyModel", "valueOf", "(III)I"⟩, 151) := ⟨⟨by decide +kernel, by decide +kernel⟩, List.mem_of_getElem? (i := 1473) (by decide +kernel), List.mem_of_getElem? (i := 2211) (by decide +kernel), List.mem_of_getElem? (i := 2212) (by decide +kernel)⟩
theorem lw_p118 : lw_okq (⟨"IceTreatyModel", "rankAt", "(I)I"⟩, 151) := ⟨⟨by decide +kernel, by decide +kernel⟩, List.mem_of_getElem? (i := 1473) (by decide +kernel), List.mem_of_getElem? (i := 2215) (by decide +kernel), List.mem_of_getElem? (i := 2216) (by decide +kernel)⟩
theorem lw_p119 : lw_okq (⟨"IceTreatyModel", "isIn", "(II)Z"⟩, 151) := ⟨⟨by decide +kernel, by decide +kernel⟩, List.mem_of_getElem? (i := 1473) (by decide +kernel), List.mem_of_getElem? (i := 2219) (by decide +kernel), List.mem_of_getElem? (i := 2220) (by decide +kernel)⟩
theorem lw_p120 : lw_okq (⟨"IceTreatyModel", "nearPlaces", "(III)I"⟩, 151) := ⟨⟨by decide +kernel, by decide +kernel⟩, List.mem_of_getElem? (i := 1473) (by decide +kernel), List.mem_of_getElem? (i := 2223) (by decide +kernel), List.mem_of_getElem? (i := 2224) (by decide +kernel)⟩
theorem lw_p121 : lw_okq (⟨"IceTreatyModel", "far", "(II)I"⟩, 151) := ⟨⟨by decide +kernel, by decide +kernel⟩, List.mem_of_getElem? (i := 1473) (by decide +kernel), List.mem_of_getElem? (i := 2227) (by decide +kernel), List.mem_of_getElem? (i := 2228) (by decide +kernel)⟩
theorem lw_p122 : lw_okq (⟨"IceTreatyModel", "othersNear", "(II)I"⟩, 151) := ⟨⟨by decide +kernel, by decide +kernel⟩, List.mem_of_getElem? (i := 1473) (by decide +kernel), List.mem_of_getElem? (i := 2234) (by decide +kernel), List.mem_of_getElem? (i := 2235) (by decide +kernel)⟩
theorem lw_p123 : lw_okq (⟨"IceTreatyModel", "isDark", "(I)Z"⟩, 151) := ⟨⟨by decide +kernel, by decide +kernel⟩, List.mem_of_getElem? (i := 1473) (by decide +kernel), List.mem_of_getElem? (i := 2238) (by decide +kernel), List.mem_of_getElem? (i := 2239) (by decide +kernel)⟩
theorem lw_p124 : lw_okq (⟨"IceTreatyModel", "isConsented", "(II)Z"⟩, 151) := ⟨⟨by decide +kernel, by decide +kernel⟩, List.mem_of_getElem? (i := 1473) (by decide +kernel), List.mem_of_getElem? (i := 2245) (by decide +kernel), List.mem_of_getElem? (i := 2246) (by decide +kernel)⟩
theorem lw_p125 : lw_okq (⟨"IceTreatyModel", "isShip", "(I)Z"⟩, 151) := ⟨⟨by decide +kernel, by decide +kernel⟩, List.mem_of_getElem? (i := 1473) (by decide +kernel), List.mem_of_getElem? (i := 2276) (by decide +kernel), List.mem_of_getElem? (i := 2277) (by decide +kernel)⟩
theorem lw_p126 : lw_okq (⟨"IceTreatyModel", "isNearSea", "(I)Z"⟩, 151) := ⟨⟨by decide +kernel, by decide +kernel⟩, List.mem_of_getElem? (i := 1473) (by decide +kernel), List.mem_of_getElem? (i := 2280) (by decide +kernel), List.mem_of_getElem? (i := 2281) (by decide +kernel)⟩
theorem lw_p127 : lw_okq (⟨"IceTreatyModel", "goesOver", "(I)V"⟩, 151) := ⟨⟨by decide +kernel, by decide +kernel⟩, List.mem_of_getElem? (i := 1473) (by decide +kernel), List.mem_of_getElem? (i := 2288) (by decide +kernel), List.mem_of_getElem? (i := 2289) (by decide +kernel)⟩
def lw_privs_8 : List (MethodName × Nat) := [(⟨"IceTreatyModel", "isWork", "(I)Z"⟩, 151), (⟨"IceTreatyModel", "mayOn", "(IIZ)I"⟩, 151), (⟨"IceTreatyModel", "barOf", "(IIIZ)I"⟩, 151), (⟨"IceTreatyModel", "clauseHolds", "(IIIZ)I"⟩, 151), (⟨"IceTreatyModel", "holds", "([IIIIII)I"⟩, 151), (⟨"IceTreatyModel", "valueOf", "(III)I"⟩, 151), (⟨"IceTreatyModel", "rankAt", "(I)I"⟩, 151), (⟨"IceTreatyModel", "isIn", "(II)Z"⟩, 151), (⟨"IceTreatyModel", "nearPlaces", "(III)I"⟩, 151), (⟨"IceTreatyModel", "far", "(II)I"⟩, 151), (⟨"IceTreatyModel", "othersNear", "(II)I"⟩, 151), (⟨"IceTreatyModel", "isDark", "(I)Z"⟩, 151), (⟨"IceTreatyModel", "isConsented", "(II)Z"⟩, 151), (⟨"IceTreatyModel", "isShip", "(I)Z"⟩, 151), (⟨"IceTreatyModel", "isNearSea", "(I)Z"⟩, 151), (⟨"IceTreatyModel", "goesOver", "(I)V"⟩, 151)]
theorem lw_r8 : ∀ q ∈ lw_privs_8, lw_okq q := List.forall_mem_cons.mpr ⟨lw_p112, List.forall_mem_cons.mpr ⟨lw_p113, List.forall_mem_cons.mpr ⟨lw_p114, List.forall_mem_cons.mpr ⟨lw_p115, List.forall_mem_cons.mpr ⟨lw_p116, List.forall_mem_cons.mpr ⟨lw_p117, List.forall_mem_cons.mpr ⟨lw_p118, List.forall_mem_cons.mpr ⟨lw_p119, List.forall_mem_cons.mpr ⟨lw_p120, List.forall_mem_cons.mpr ⟨lw_p121, List.forall_mem_cons.mpr ⟨lw_p122, List.forall_mem_cons.mpr ⟨lw_p123, List.forall_mem_cons.mpr ⟨lw_p124, List.forall_mem_cons.mpr ⟨lw_p125, List.forall_mem_cons.mpr ⟨lw_p126, List.forall_mem_cons.mpr ⟨lw_p127, fun _ h => absurd h List.not_mem_nil⟩⟩⟩⟩⟩⟩⟩⟩⟩⟩⟩⟩⟩⟩⟩⟩
theorem lw_p128 : lw_okq (⟨"IceTreatyModel", "moved", "(III)I"⟩, 151) := ⟨⟨by decide +kernel, by decide +kernel⟩, List.mem_of_getElem? (i := 1473) (by decide +kernel), List.mem_of_getElem? (i := 2299) (by decide +kernel), List.mem_of_getElem? (i := 2300) (by decide +kernel)⟩
theorem lw_p129 : lw_okq (⟨"IceTreatyModel", "worksGo", "()V"⟩, 151) := ⟨⟨by decide +kernel, by decide +kernel⟩, List.mem_of_getElem? (i := 1473) (by decide +kernel), List.mem_of_getElem? (i := 2328) (by decide +kernel), List.mem_of_getElem? (i := 2329) (by decide +kernel)⟩
theorem lw_p130 : lw_okq (⟨"IceTreatyModel", "sounds", "(I)V"⟩, 151) := ⟨⟨by decide +kernel, by decide +kernel⟩, List.mem_of_getElem? (i := 1473) (by decide +kernel), List.mem_of_getElem? (i := 2332) (by decide +kernel), List.mem_of_getElem? (i := 2333) (by decide +kernel)⟩
theorem lw_p131 : lw_okq (⟨"IceTreatyModel", "goesDown", "(I)V"⟩, 151) := ⟨⟨by decide +kernel, by decide +kernel⟩, List.mem_of_getElem? (i := 1473) (by decide +kernel), List.mem_of_getElem? (i := 2336) (by decide +kernel), List.mem_of_getElem? (i := 2337) (by decide +kernel)⟩
theorem lw_p132 : lw_okq (⟨"IceTreatyModel", "sureOf", "(I)I"⟩, 151) := ⟨⟨by decide +kernel, by decide +kernel⟩, List.mem_of_getElem? (i := 1473) (by decide +kernel), List.mem_of_getElem? (i := 2340) (by decide +kernel), List.mem_of_getElem? (i := 2341) (by decide +kernel)⟩
theorem lw_p133 : lw_okq (⟨"IceTreatyModel", "burns", "(I)V"⟩, 151) := ⟨⟨by decide +kernel, by decide +kernel⟩, List.mem_of_getElem? (i := 1473) (by decide +kernel), List.mem_of_getElem? (i := 2344) (by decide +kernel), List.mem_of_getElem? (i := 2345) (by decide +kernel)⟩
theorem lw_p134 : lw_okq (⟨"IceTreatyModel", "goesHome", "(I)V"⟩, 151) := ⟨⟨by decide +kernel, by decide +kernel⟩, List.mem_of_getElem? (i := 1473) (by decide +kernel), List.mem_of_getElem? (i := 2348) (by decide +kernel), List.mem_of_getElem? (i := 2349) (by decide +kernel)⟩
theorem lw_p135 : lw_okq (⟨"IceTreatyModel", "flows", "(I)V"⟩, 151) := ⟨⟨by decide +kernel, by decide +kernel⟩, List.mem_of_getElem? (i := 1473) (by decide +kernel), List.mem_of_getElem? (i := 2352) (by decide +kernel), List.mem_of_getElem? (i := 2353) (by decide +kernel)⟩
theorem lw_p136 : lw_okq (⟨"IceTreatyModel", "loses", "(I)V"⟩, 151) := ⟨⟨by decide +kernel, by decide +kernel⟩, List.mem_of_getElem? (i := 1473) (by decide +kernel), List.mem_of_getElem? (i := 2356) (by decide +kernel), List.mem_of_getElem? (i := 2357) (by decide +kernel)⟩
theorem lw_p137 : lw_okq (⟨"IceTreatyModel", "shipGoes", "(I)V"⟩, 151) := ⟨⟨by decide +kernel, by decide +kernel⟩, List.mem_of_getElem? (i := 1473) (by decide +kernel), List.mem_of_getElem? (i := 2360) (by decide +kernel), List.mem_of_getElem? (i := 2361) (by decide +kernel)⟩
theorem lw_p138 : lw_okq (⟨"IceTreatyModel", "waits", "(I)V"⟩, 151) := ⟨⟨by decide +kernel, by decide +kernel⟩, List.mem_of_getElem? (i := 1473) (by decide +kernel), List.mem_of_getElem? (i := 2364) (by decide +kernel), List.mem_of_getElem? (i := 2365) (by decide +kernel)⟩
theorem lw_p139 : lw_okq (⟨"IceTreatyModel", "arrives", "(I)V"⟩, 151) := ⟨⟨by decide +kernel, by decide +kernel⟩, List.mem_of_getElem? (i := 1473) (by decide +kernel), List.mem_of_getElem? (i := 2368) (by decide +kernel), List.mem_of_getElem? (i := 2369) (by decide +kernel)⟩
theorem lw_p140 : lw_okq (⟨"IceTreatyModel", "turnsBack", "(I)V"⟩, 151) := ⟨⟨by decide +kernel, by decide +kernel⟩, List.mem_of_getElem? (i := 1473) (by decide +kernel), List.mem_of_getElem? (i := 2372) (by decide +kernel), List.mem_of_getElem? (i := 2373) (by decide +kernel)⟩
theorem lw_p141 : lw_okq (⟨"IceTreatyModel", "sledgeGoes", "(I)V"⟩, 151) := ⟨⟨by decide +kernel, by decide +kernel⟩, List.mem_of_getElem? (i := 1473) (by decide +kernel), List.mem_of_getElem? (i := 2376) (by decide +kernel), List.mem_of_getElem? (i := 2377) (by decide +kernel)⟩
theorem lw_p142 : lw_okq (⟨"IceTreatyModel", "isAhead", "(II)Z"⟩, 151) := ⟨⟨by decide +kernel, by decide +kernel⟩, List.mem_of_getElem? (i := 1473) (by decide +kernel), List.mem_of_getElem? (i := 2419) (by decide +kernel), List.mem_of_getElem? (i := 2420) (by decide +kernel)⟩
theorem lw_p143 : lw_okq (⟨"IceTreatyModel", "isDoubt", "(II)Z"⟩, 151) := ⟨⟨by decide +kernel, by decide +kernel⟩, List.mem_of_getElem? (i := 1473) (by decide +kernel), List.mem_of_getElem? (i := 2427) (by decide +kernel), List.mem_of_getElem? (i := 2428) (by decide +kernel)⟩
def lw_privs_9 : List (MethodName × Nat) := [(⟨"IceTreatyModel", "moved", "(III)I"⟩, 151), (⟨"IceTreatyModel", "worksGo", "()V"⟩, 151), (⟨"IceTreatyModel", "sounds", "(I)V"⟩, 151), (⟨"IceTreatyModel", "goesDown", "(I)V"⟩, 151), (⟨"IceTreatyModel", "sureOf", "(I)I"⟩, 151), (⟨"IceTreatyModel", "burns", "(I)V"⟩, 151), (⟨"IceTreatyModel", "goesHome", "(I)V"⟩, 151), (⟨"IceTreatyModel", "flows", "(I)V"⟩, 151), (⟨"IceTreatyModel", "loses", "(I)V"⟩, 151), (⟨"IceTreatyModel", "shipGoes", "(I)V"⟩, 151), (⟨"IceTreatyModel", "waits", "(I)V"⟩, 151), (⟨"IceTreatyModel", "arrives", "(I)V"⟩, 151), (⟨"IceTreatyModel", "turnsBack", "(I)V"⟩, 151), (⟨"IceTreatyModel", "sledgeGoes", "(I)V"⟩, 151), (⟨"IceTreatyModel", "isAhead", "(II)Z"⟩, 151), (⟨"IceTreatyModel", "isDoubt", "(II)Z"⟩, 151)]
theorem lw_r9 : ∀ q ∈ lw_privs_9, lw_okq q := List.forall_mem_cons.mpr ⟨lw_p128, List.forall_mem_cons.mpr ⟨lw_p129, List.forall_mem_cons.mpr ⟨lw_p130, List.forall_mem_cons.mpr ⟨lw_p131, List.forall_mem_cons.mpr ⟨lw_p132, List.forall_mem_cons.mpr ⟨lw_p133, List.forall_mem_cons.mpr ⟨lw_p134, List.forall_mem_cons.mpr ⟨lw_p135, List.forall_mem_cons.mpr ⟨lw_p136, List.forall_mem_cons.mpr ⟨lw_p137, List.forall_mem_cons.mpr ⟨lw_p138, List.forall_mem_cons.mpr ⟨lw_p139, List.forall_mem_cons.mpr ⟨lw_p140, List.forall_mem_cons.mpr ⟨lw_p141, List.forall_mem_cons.mpr ⟨lw_p142, List.forall_mem_cons.mpr ⟨lw_p143, fun _ h => absurd h List.not_mem_nil⟩⟩⟩⟩⟩⟩⟩⟩⟩⟩⟩⟩⟩⟩⟩⟩
theorem lw_p144 : lw_okq (⟨"IceTreatyModel", "isWord", "(I)Z"⟩, 151) := ⟨⟨by decide +kernel, by decide +kernel⟩, List.mem_of_getElem? (i := 1473) (by decide +kernel), List.mem_of_getElem? (i := 2439) (by decide +kernel), List.mem_of_getElem? (i := 2440) (by decide +kernel)⟩
theorem lw_p145 : lw_okq (⟨"IceTreatyModel", "isBlocked", "(II)Z"⟩, 151) := ⟨⟨by decide +kernel, by decide +kernel⟩, List.mem_of_getElem? (i := 1473) (by decide +kernel), List.mem_of_getElem? (i := 2447) (by decide +kernel), List.mem_of_getElem? (i := 2448) (by decide +kernel)⟩
theorem lw_p146 : lw_okq (⟨"IceTreatyModel", "worthOf", "(I)I"⟩, 151) := ⟨⟨by decide +kernel, by decide +kernel⟩, List.mem_of_getElem? (i := 1473) (by decide +kernel), List.mem_of_getElem? (i := 2456) (by decide +kernel), List.mem_of_getElem? (i := 2457) (by decide +kernel)⟩
theorem lw_p147 : lw_okq (⟨"IceTreatyModel", "plans", "(III)V"⟩, 151) := ⟨⟨by decide +kernel, by decide +kernel⟩, List.mem_of_getElem? (i := 1473) (by decide +kernel), List.mem_of_getElem? (i := 2475) (by decide +kernel), List.mem_of_getElem? (i := 2476) (by decide +kernel)⟩
theorem lw_p148 : lw_okq (⟨"IceTreatyModel", "worstEnd", "(I)I"⟩, 151) := ⟨⟨by decide +kernel, by decide +kernel⟩, List.mem_of_getElem? (i := 1473) (by decide +kernel), List.mem_of_getElem? (i := 2479) (by decide +kernel), List.mem_of_getElem? (i := 2480) (by decide +kernel)⟩
theorem lw_p149 : lw_okq (⟨"IceTreatyModel", "endOf", "(II)I"⟩, 151) := ⟨⟨by decide +kernel, by decide +kernel⟩, List.mem_of_getElem? (i := 1473) (by decide +kernel), List.mem_of_getElem? (i := 2483) (by decide +kernel), List.mem_of_getElem? (i := 2484) (by decide +kernel)⟩
theorem lw_p150 : lw_okq (⟨"IceTreatyModel", "nextOrder", "()Z"⟩, 151) := ⟨⟨by decide +kernel, by decide +kernel⟩, List.mem_of_getElem? (i := 1473) (by decide +kernel), List.mem_of_getElem? (i := 2487) (by decide +kernel), List.mem_of_getElem? (i := 2488) (by decide +kernel)⟩
theorem lw_p151 : lw_okq (⟨"IceTreatyModel", "swaps", "(II)V"⟩, 151) := ⟨⟨by decide +kernel, by decide +kernel⟩, List.mem_of_getElem? (i := 1473) (by decide +kernel), List.mem_of_getElem? (i := 2491) (by decide +kernel), List.mem_of_getElem? (i := 2492) (by decide +kernel)⟩
theorem lw_p152 : lw_okq (⟨"IceTreatyModel", "tapeNumber", "(I)I"⟩, 151) := ⟨⟨by decide +kernel, by decide +kernel⟩, List.mem_of_getElem? (i := 1473) (by decide +kernel), List.mem_of_getElem? (i := 2513) (by decide +kernel), List.mem_of_getElem? (i := 2514) (by decide +kernel)⟩
theorem lw_p153 : lw_okq (⟨"IceTreatyModel", "lookAt", "(II)I"⟩, 151) := ⟨⟨by decide +kernel, by decide +kernel⟩, List.mem_of_getElem? (i := 1473) (by decide +kernel), List.mem_of_getElem? (i := 2521) (by decide +kernel), List.mem_of_getElem? (i := 2522) (by decide +kernel)⟩
def lw_privs_10 : List (MethodName × Nat) := [(⟨"IceTreatyModel", "isWord", "(I)Z"⟩, 151), (⟨"IceTreatyModel", "isBlocked", "(II)Z"⟩, 151), (⟨"IceTreatyModel", "worthOf", "(I)I"⟩, 151), (⟨"IceTreatyModel", "plans", "(III)V"⟩, 151), (⟨"IceTreatyModel", "worstEnd", "(I)I"⟩, 151), (⟨"IceTreatyModel", "endOf", "(II)I"⟩, 151), (⟨"IceTreatyModel", "nextOrder", "()Z"⟩, 151), (⟨"IceTreatyModel", "swaps", "(II)V"⟩, 151), (⟨"IceTreatyModel", "tapeNumber", "(I)I"⟩, 151), (⟨"IceTreatyModel", "lookAt", "(II)I"⟩, 151)]
theorem lw_r10 : ∀ q ∈ lw_privs_10, lw_okq q := List.forall_mem_cons.mpr ⟨lw_p144, List.forall_mem_cons.mpr ⟨lw_p145, List.forall_mem_cons.mpr ⟨lw_p146, List.forall_mem_cons.mpr ⟨lw_p147, List.forall_mem_cons.mpr ⟨lw_p148, List.forall_mem_cons.mpr ⟨lw_p149, List.forall_mem_cons.mpr ⟨lw_p150, List.forall_mem_cons.mpr ⟨lw_p151, List.forall_mem_cons.mpr ⟨lw_p152, List.forall_mem_cons.mpr ⟨lw_p153, fun _ h => absurd h List.not_mem_nil⟩⟩⟩⟩⟩⟩⟩⟩⟩⟩
def lw_privs : List (MethodName × Nat) := lw_privs_1 ++ (lw_privs_2 ++ (lw_privs_3 ++ (lw_privs_4 ++ (lw_privs_5 ++ (lw_privs_6 ++ (lw_privs_7 ++ (lw_privs_8 ++ (lw_privs_9 ++ (lw_privs_10)))))))))
def lw_tbl : List Cond := k2_sels lw_privs ++ tables_1
theorem lw_privs_ok : ∀ q ∈ lw_privs, lw_okq q := by
  show ∀ q ∈ lw_privs_1 ++ (lw_privs_2 ++ (lw_privs_3 ++ (lw_privs_4 ++ (lw_privs_5 ++ (lw_privs_6 ++ (lw_privs_7 ++ (lw_privs_8 ++ (lw_privs_9 ++ (lw_privs_10))))))))), lw_okq q
  exact List.forall_mem_append.mpr ⟨lw_r1, List.forall_mem_append.mpr ⟨lw_r2, List.forall_mem_append.mpr ⟨lw_r3, List.forall_mem_append.mpr ⟨lw_r4, List.forall_mem_append.mpr ⟨lw_r5, List.forall_mem_append.mpr ⟨lw_r6, List.forall_mem_append.mpr ⟨lw_r7, List.forall_mem_append.mpr ⟨lw_r8, List.forall_mem_append.mpr ⟨lw_r9, lw_r10⟩⟩⟩⟩⟩⟩⟩⟩⟩
def RX0 : String := "IceTreaty$Land"
def TX0 : u_T := fun k => match k with
  | 0 => ("IceTreaty$Land", "today", "I", false)
  | 1 => ("IceTreaty$Land", "darkFrom", "I", false)
  | 2 => ("IceTreaty$Land", "darkTo", "I", false)
  | 3 => ("IceTreaty$Land", "columns", "I", false)
  | 4 => ("IceTreaty$Land", "rows", "I", false)
  | 5 => ("IceTreaty$Land", "heights", "[I", true)
  | 6 => ("IceTreaty$Land", "grounds", "[I", true)
  | 7 => ("IceTreaty$Land", "ways", "[I", true)
  | 8 => ("IceTreaty$Land", "flowDays", "[I", true)
  | 9 => ("IceTreaty$Land", "covers", "[I", true)
  | 10 => ("IceTreaty$Land", "seaDays", "[I", true)
  | 11 => ("IceTreaty$Land", "reach", "[I", true)
  | _ => ("IceTreaty$Land", "reached", "[I", true)
def tyX0 : Nat → FieldType := fun k => match k with
  | 0 => .int
  | 1 => .int
  | 2 => .int
  | 3 => .int
  | 4 => .int
  | 5 => .array .int
  | 6 => .array .int
  | 7 => .array .int
  | 8 => .array .int
  | 9 => .array .int
  | 10 => .array .int
  | 11 => .array .int
  | _ => .array .int
abbrev wsX00 : List Cond := u_ws RX0 TX0 13
theorem nmX0 : ∀ a, a < 13 → ∀ b, b < 13 → a ≠ b → (TX0 a).2.1 ≠ (TX0 b).2.1 := by decide +kernel
theorem tyX0_ok : ∀ k, k < 13 → parseFieldDescriptor (TX0 k).2.2.1 = some (tyX0 k) := by decide +kernel
abbrev cX0_init : ByteArray := prog_2_method_1_code
def yX0_init : MethodName := ⟨RX0, "<init>", "()V"⟩
abbrev cX0_lay : ByteArray := prog_2_method_2_code
def yX0_lay : MethodName := ⟨RX0, "lay", "(II)V"⟩
abbrev cX0_isCell : ByteArray := prog_2_method_3_code
def yX0_isCell : MethodName := ⟨RX0, "isCell", "(I)Z"⟩
abbrev cX0_isFirm : ByteArray := prog_2_method_4_code
def yX0_isFirm : MethodName := ⟨RX0, "isFirm", "(I)Z"⟩
abbrev cX0_rowOf : ByteArray := prog_2_method_5_code
def yX0_rowOf : MethodName := ⟨RX0, "rowOf", "(I)I"⟩
abbrev cX0_columnOf : ByteArray := prog_2_method_6_code
def yX0_columnOf : MethodName := ⟨RX0, "columnOf", "(I)I"⟩
abbrev cX0_far : ByteArray := prog_2_method_7_code
def yX0_far : MethodName := ⟨RX0, "far", "(II)I"⟩
abbrev cX0_isRectangle : ByteArray := prog_2_method_8_code
def yX0_isRectangle : MethodName := ⟨RX0, "isRectangle", "(II)Z"⟩
abbrev cX0_isWithin : ByteArray := prog_2_method_9_code
def yX0_isWithin : MethodName := ⟨RX0, "isWithin", "(III)Z"⟩
abbrev cX0_beside : ByteArray := prog_2_method_10_code
def yX0_beside : MethodName := ⟨RX0, "beside", "(II)I"⟩
abbrev cX0_isNearSea : ByteArray := prog_2_method_11_code
def yX0_isNearSea : MethodName := ⟨RX0, "isNearSea", "(I)Z"⟩
abbrev cX0_isDark : ByteArray := prog_2_method_12_code
def yX0_isDark : MethodName := ⟨RX0, "isDark", "(I)Z"⟩
abbrev cX0_coverOn : ByteArray := prog_2_method_13_code
def yX0_coverOn : MethodName := ⟨RX0, "coverOn", "(II)I"⟩
abbrev cX0_carries : ByteArray := prog_2_method_14_code
def yX0_carries : MethodName := ⟨RX0, "carries", "(II)Z"⟩
abbrev cX0_leastDays : ByteArray := prog_2_method_15_code
def yX0_leastDays : MethodName := ⟨RX0, "leastDays", "(II)I"⟩
abbrev cX0_nearestOpen : ByteArray := prog_2_method_16_code
def yX0_nearestOpen : MethodName := ⟨RX0, "nearestOpen", "()I"⟩
abbrev cX0_step : ByteArray := prog_2_method_17_code
def yX0_step : MethodName := ⟨RX0, "step", "(II)V"⟩
def RX1 : String := "IceTreaty$Law"
def TX1 : u_T := fun k => match k with
  | 0 => ("IceTreaty$Law", "texts", "[LIceTreaty$Text;", true)
  | 1 => ("IceTreaty$Law", "textCount", "I", false)
  | 2 => ("IceTreaty$Law", "readings", "LIceTreaty$Table;", true)
  | 3 => ("IceTreaty$Law", "readingTexts", "[LIceTreaty$Text;", true)
  | 4 => ("IceTreaty$Law", "counting", "[I", true)
  | 5 => ("IceTreaty$Law", "struck", "[I", true)
  | 6 => ("IceTreaty$Law", "weighedParty", "I", false)
  | 7 => ("IceTreaty$Law", "weighedDay", "I", false)
  | 8 => ("IceTreaty$Law", "letters", "[I", true)
  | 9 => ("IceTreaty$Law", "stack", "[I", true)
  | 10 => ("IceTreaty$Law", "height", "I", false)
  | 11 => ("IceTreaty$Law", "barText", "I", false)
  | _ => ("IceTreaty$Law", "barClause", "I", false)
def tyX1 : Nat → FieldType := fun k => match k with
  | 0 => .array (.object "IceTreaty$Text")
  | 1 => .int
  | 2 => .object "IceTreaty$Table"
  | 3 => .array (.object "IceTreaty$Text")
  | 4 => .array .int
  | 5 => .array .int
  | 6 => .int
  | 7 => .int
  | 8 => .array .int
  | 9 => .array .int
  | 10 => .int
  | 11 => .int
  | _ => .int
abbrev wsX10 : List Cond := u_ws RX1 TX1 13
theorem nmX1 : ∀ a, a < 13 → ∀ b, b < 13 → a ≠ b → (TX1 a).2.1 ≠ (TX1 b).2.1 := by decide +kernel
theorem tyX1_ok : ∀ k, k < 13 → parseFieldDescriptor (TX1 k).2.2.1 = some (tyX1 k) := by decide +kernel
abbrev cX1_init : ByteArray := prog_3_method_1_code
def yX1_init : MethodName := ⟨RX1, "<init>", "()V"⟩
abbrev cX1_textOf : ByteArray := prog_3_method_2_code
def yX1_textOf : MethodName := ⟨RX1, "textOf", "(I)LIceTreaty$Text;"⟩
abbrev cX1_addText : ByteArray := prog_3_method_3_code
def yX1_addText : MethodName := ⟨RX1, "addText", "(LIceTreaty$Text;)I"⟩
abbrev cX1_addReading : ByteArray := prog_3_method_4_code
def yX1_addReading : MethodName := ⟨RX1, "addReading", "(IIILIceTreaty$Text;)V"⟩
abbrev cX1_forget : ByteArray := prog_3_method_5_code
def yX1_forget : MethodName := ⟨RX1, "forget", "()V"⟩
abbrev cX1_weigh : ByteArray := prog_3_method_6_code
def yX1_weigh : MethodName := ⟨RX1, "weigh", "(ILIceTreaty$Party;I)V"⟩
abbrev cX1_binds : ByteArray := prog_3_method_7_code
def yX1_binds : MethodName := ⟨RX1, "binds", "(ILIceTreaty$Party;II)Z"⟩
abbrev cX1_weighTexts : ByteArray := prog_3_method_8_code
def yX1_weighTexts : MethodName := ⟨RX1, "weighTexts", "(II)V"⟩
abbrev cX1_strike : ByteArray := prog_3_method_9_code
def yX1_strike : MethodName := ⟨RX1, "strike", "(ILIceTreaty$Table;I)V"⟩
abbrev cX1_isCounting : ByteArray := prog_3_method_10_code
def yX1_isCounting : MethodName := ⟨RX1, "isCounting", "(II)Z"⟩
abbrev cX1_numberOf : ByteArray := prog_3_method_11_code
def yX1_numberOf : MethodName := ⟨RX1, "numberOf", "(III)I"⟩
abbrev cX1_judge : ByteArray := prog_3_method_12_code
def yX1_judge : MethodName := ⟨RX1, "judge", "(LIceTreaty$Work;IZZ)I"⟩
abbrev cX1_readingOf : ByteArray := prog_3_method_13_code
def yX1_readingOf : MethodName := ⟨RX1, "readingOf", "(III)LIceTreaty$Text;"⟩
abbrev cX1_bar : ByteArray := prog_3_method_14_code
def yX1_bar : MethodName := ⟨RX1, "bar", "(LIceTreaty$Text;ILIceTreaty$Work;IZ)I"⟩
abbrev cX1_wasTold : ByteArray := prog_3_method_15_code
def yX1_wasTold : MethodName := ⟨RX1, "wasTold", "(II)Z"⟩
abbrev cX1_holds : ByteArray := prog_3_method_16_code
def yX1_holds : MethodName := ⟨RX1, "holds", "(LIceTreaty$Text;I)I"⟩
abbrev cX1_reckon : ByteArray := prog_3_method_17_code
def yX1_reckon : MethodName := ⟨RX1, "reckon", "(III)I"⟩
abbrev cX1_push : ByteArray := prog_3_method_18_code
def yX1_push : MethodName := ⟨RX1, "push", "(I)V"⟩
abbrev cX1_pop : ByteArray := prog_3_method_19_code
def yX1_pop : MethodName := ⟨RX1, "pop", "()I"⟩
def RX2 : String := "IceTreaty$Party"
def TX2 : u_T := fun k => match k with
  | 0 => ("IceTreaty$Party", "decidesFrom", "I", false)
  | 1 => ("IceTreaty$Party", "science", "I", false)
  | 2 => ("IceTreaty$Party", "barred", "I", false)
  | 3 => ("IceTreaty$Party", "yesDays", "[I", true)
  | _ => ("IceTreaty$Party", "wanted", "[I", true)
def tyX2 : Nat → FieldType := fun k => match k with
  | 0 => .int
  | 1 => .int
  | 2 => .int
  | 3 => .array .int
  | _ => .array .int
abbrev wsX20 : List Cond := u_ws RX2 TX2 5
theorem nmX2 : ∀ a, a < 5 → ∀ b, b < 5 → a ≠ b → (TX2 a).2.1 ≠ (TX2 b).2.1 := by decide +kernel
theorem tyX2_ok : ∀ k, k < 5 → parseFieldDescriptor (TX2 k).2.2.1 = some (tyX2 k) := by decide +kernel
abbrev cX2_init : ByteArray := prog_4_method_1_code
def yX2_init : MethodName := ⟨RX2, "<init>", "(I)V"⟩
abbrev cX2_decidesOn : ByteArray := prog_4_method_2_code
def yX2_decidesOn : MethodName := ⟨RX2, "decidesOn", "(I)Z"⟩
abbrev cX2_blocksWords : ByteArray := prog_4_method_3_code
def yX2_blocksWords : MethodName := ⟨RX2, "blocksWords", "(I)Z"⟩
def RX3 : String := "IceTreaty$Place"
def TX3 : u_T := fun k => match k with
  | 0 => ("IceTreaty$Place", "kind", "I", true)
  | 1 => ("IceTreaty$Place", "owner", "I", true)
  | 2 => ("IceTreaty$Place", "first", "I", false)
  | 3 => ("IceTreaty$Place", "last", "I", true)
  | 4 => ("IceTreaty$Place", "rank", "I", false)
  | 5 => ("IceTreaty$Place", "lost", "Z", false)
  | 6 => ("IceTreaty$Place", "people", "I", false)
  | 7 => ("IceTreaty$Place", "drums", "I", false)
  | 8 => ("IceTreaty$Place", "hidden", "I", false)
  | 9 => ("IceTreaty$Place", "cold", "I", false)
  | 10 => ("IceTreaty$Place", "since", "I", false)
  | 11 => ("IceTreaty$Place", "toldPeople", "I", false)
  | 12 => ("IceTreaty$Place", "toldDrums", "I", false)
  | 13 => ("IceTreaty$Place", "rows", "[I", true)
  | 14 => ("IceTreaty$Place", "noises", "[I", true)
  | _ => ("IceTreaty$Place", "soundings", "LIceTreaty$Table;", true)
def tyX3 : Nat → FieldType := fun k => match k with
  | 0 => .int
  | 1 => .int
  | 2 => .int
  | 3 => .int
  | 4 => .int
  | 5 => .boolean
  | 6 => .int
  | 7 => .int
  | 8 => .int
  | 9 => .int
  | 10 => .int
  | 11 => .int
  | 12 => .int
  | 13 => .array .int
  | 14 => .array .int
  | _ => .object "IceTreaty$Table"
abbrev wsX30 : List Cond := u_ws RX3 TX3 16
theorem nmX3 : ∀ a, a < 16 → ∀ b, b < 16 → a ≠ b → (TX3 a).2.1 ≠ (TX3 b).2.1 := by decide +kernel
theorem tyX3_ok : ∀ k, k < 16 → parseFieldDescriptor (TX3 k).2.2.1 = some (tyX3 k) := by decide +kernel
abbrev cX3_init : ByteArray := prog_5_method_1_code
def yX3_init : MethodName := ⟨RX3, "<init>", "(IIIII)V"⟩
abbrev cX3_addSounding : ByteArray := prog_5_method_2_code
def yX3_addSounding : MethodName := ⟨RX3, "addSounding", "(II)Z"⟩
abbrev cX3_sureDepth : ByteArray := prog_5_method_3_code
def yX3_sureDepth : MethodName := ⟨RX3, "sureDepth", "()I"⟩
def RX4 : String := "IceTreaty$Rows"
def TX4 : u_T := fun k => match k with
  | _ => ("", "", "", false)
def tyX4 : Nat → FieldType := fun k => match k with
  | _ => .int
abbrev wsX40 : List Cond := u_ws RX4 TX4 0
theorem nmX4 : ∀ a, a < 0 → ∀ b, b < 0 → a ≠ b → (TX4 a).2.1 ≠ (TX4 b).2.1 := by decide +kernel
theorem tyX4_ok : ∀ k, k < 0 → parseFieldDescriptor (TX4 k).2.2.1 = some (tyX4 k) := by decide +kernel
abbrev cX4_get : ByteArray := prog_6_method_2_code
def yX4_get : MethodName := ⟨RX4, "get", "([II)I"⟩
abbrev cX4_put : ByteArray := prog_6_method_3_code
def yX4_put : MethodName := ⟨RX4, "put", "([III)V"⟩
abbrev cX4_add : ByteArray := prog_6_method_4_code
def yX4_add : MethodName := ⟨RX4, "add", "([III)V"⟩
abbrev cX4_fill : ByteArray := prog_6_method_5_code
def yX4_fill : MethodName := ⟨RX4, "fill", "([II)V"⟩
def RX5 : String := "IceTreaty$Scribe"
def TX5 : u_T := fun k => match k with
  | 0 => ("IceTreaty$Scribe", "source", "[I", true)
  | 1 => ("IceTreaty$Scribe", "end", "I", true)
  | 2 => ("IceTreaty$Scribe", "text", "LIceTreaty$Text;", true)
  | 3 => ("IceTreaty$Scribe", "place", "I", false)
  | 4 => ("IceTreaty$Scribe", "depth", "I", false)
  | 5 => ("IceTreaty$Scribe", "fault", "I", false)
  | _ => ("IceTreaty$Scribe", "faultPlace", "I", false)
def tyX5 : Nat → FieldType := fun k => match k with
  | 0 => .array .int
  | 1 => .int
  | 2 => .object "IceTreaty$Text"
  | 3 => .int
  | 4 => .int
  | 5 => .int
  | _ => .int
abbrev wsX50 : List Cond := u_ws RX5 TX5 7
theorem nmX5 : ∀ a, a < 7 → ∀ b, b < 7 → a ≠ b → (TX5 a).2.1 ≠ (TX5 b).2.1 := by decide +kernel
theorem tyX5_ok : ∀ k, k < 7 → parseFieldDescriptor (TX5 k).2.2.1 = some (tyX5 k) := by decide +kernel
abbrev cX5_init : ByteArray := prog_7_method_1_code
def yX5_init : MethodName := ⟨RX5, "<init>", "([IILIceTreaty$Text;)V"⟩
abbrev cX5_faultAnswer : ByteArray := prog_7_method_2_code
def yX5_faultAnswer : MethodName := ⟨RX5, "faultAnswer", "()I"⟩
abbrev cX5_writeText : ByteArray := prog_7_method_3_code
def yX5_writeText : MethodName := ⟨RX5, "writeText", "()V"⟩
abbrev cX5_writeReading : ByteArray := prog_7_method_4_code
def yX5_writeReading : MethodName := ⟨RX5, "writeReading", "()V"⟩
abbrev cX5_clause : ByteArray := prog_7_method_5_code
def yX5_clause : MethodName := ⟨RX5, "clause", "()V"⟩
abbrev cX5_isClauseLetter : ByteArray := prog_7_method_6_code
def yX5_isClauseLetter : MethodName := ⟨RX5, "isClauseLetter", "(I)Z"⟩
abbrev cX5_condition : ByteArray := prog_7_method_7_code
def yX5_condition : MethodName := ⟨RX5, "condition", "()V"⟩
abbrev cX5_parts : ByteArray := prog_7_method_8_code
def yX5_parts : MethodName := ⟨RX5, "parts", "()V"⟩
abbrev cX5_part : ByteArray := prog_7_method_9_code
def yX5_part : MethodName := ⟨RX5, "part", "()V"⟩
abbrev cX5_piece : ByteArray := prog_7_method_10_code
def yX5_piece : MethodName := ⟨RX5, "piece", "()V"⟩
abbrev cX5_negation : ByteArray := prog_7_method_11_code
def yX5_negation : MethodName := ⟨RX5, "negation", "()V"⟩
abbrev cX5_comparison : ByteArray := prog_7_method_12_code
def yX5_comparison : MethodName := ⟨RX5, "comparison", "(I)I"⟩
abbrev cX5_terms : ByteArray := prog_7_method_13_code
def yX5_terms : MethodName := ⟨RX5, "terms", "()V"⟩
abbrev cX5_factors : ByteArray := prog_7_method_14_code
def yX5_factors : MethodName := ⟨RX5, "factors", "()V"⟩
abbrev cX5_factor : ByteArray := prog_7_method_15_code
def yX5_factor : MethodName := ⟨RX5, "factor", "()V"⟩
abbrev cX5_digits : ByteArray := prog_7_method_16_code
def yX5_digits : MethodName := ⟨RX5, "digits", "(I)I"⟩
abbrev cX5_isDigit : ByteArray := prog_7_method_17_code
def yX5_isDigit : MethodName := ⟨RX5, "isDigit", "(I)Z"⟩
abbrev cX5_isFactorSign : ByteArray := prog_7_method_18_code
def yX5_isFactorSign : MethodName := ⟨RX5, "isFactorSign", "(I)Z"⟩
abbrev cX5_next : ByteArray := prog_7_method_19_code
def yX5_next : MethodName := ⟨RX5, "next", "()I"⟩
abbrev cX5_take : ByteArray := prog_7_method_20_code
def yX5_take : MethodName := ⟨RX5, "take", "(I)V"⟩
abbrev cX5_deepen : ByteArray := prog_7_method_21_code
def yX5_deepen : MethodName := ⟨RX5, "deepen", "(I)V"⟩
abbrev cX5_refuse : ByteArray := prog_7_method_22_code
def yX5_refuse : MethodName := ⟨RX5, "refuse", "(II)V"⟩
abbrev cX5_set : ByteArray := prog_7_method_23_code
def yX5_set : MethodName := ⟨RX5, "set", "(II)V"⟩
def RX6 : String := "IceTreaty$Season"
def TX6 : u_T := fun k => match k with
  | 0 => ("IceTreaty$Season", "stops", "LIceTreaty$Table;", true)
  | 1 => ("IceTreaty$Season", "opens", "[I", true)
  | 2 => ("IceTreaty$Season", "closes", "[I", true)
  | 3 => ("IceTreaty$Season", "legs", "[I", true)
  | 4 => ("IceTreaty$Season", "days", "[I", true)
  | 5 => ("IceTreaty$Season", "order", "[I", true)
  | 6 => ("IceTreaty$Season", "ahead", "[I", true)
  | 7 => ("IceTreaty$Season", "best", "[I", true)
  | 8 => ("IceTreaty$Season", "start", "I", false)
  | _ => ("IceTreaty$Season", "end", "I", false)
def tyX6 : Nat → FieldType := fun k => match k with
  | 0 => .object "IceTreaty$Table"
  | 1 => .array .int
  | 2 => .array .int
  | 3 => .array .int
  | 4 => .array .int
  | 5 => .array .int
  | 6 => .array .int
  | 7 => .array .int
  | 8 => .int
  | _ => .int
abbrev wsX60 : List Cond := u_ws RX6 TX6 10
theorem nmX6 : ∀ a, a < 10 → ∀ b, b < 10 → a ≠ b → (TX6 a).2.1 ≠ (TX6 b).2.1 := by decide +kernel
theorem tyX6_ok : ∀ k, k < 10 → parseFieldDescriptor (TX6 k).2.2.1 = some (tyX6 k) := by decide +kernel
abbrev cX6_init : ByteArray := prog_8_method_1_code
def yX6_init : MethodName := ⟨RX6, "<init>", "()V"⟩
abbrev cX6_forget : ByteArray := prog_8_method_2_code
def yX6_forget : MethodName := ⟨RX6, "forget", "()V"⟩
abbrev cX6_hasStation : ByteArray := prog_8_method_3_code
def yX6_hasStation : MethodName := ⟨RX6, "hasStation", "(I)Z"⟩
abbrev cX6_needs : ByteArray := prog_8_method_4_code
def yX6_needs : MethodName := ⟨RX6, "needs", "()I"⟩
abbrev cX6_seek : ByteArray := prog_8_method_5_code
def yX6_seek : MethodName := ⟨RX6, "seek", "(I)V"⟩
abbrev cX6_lookAhead : ByteArray := prog_8_method_6_code
def yX6_lookAhead : MethodName := ⟨RX6, "lookAhead", "()V"⟩
abbrev cX6_leastAhead : ByteArray := prog_8_method_7_code
def yX6_leastAhead : MethodName := ⟨RX6, "leastAhead", "(II)I"⟩
abbrev cX6_extend : ByteArray := prog_8_method_8_code
def yX6_extend : MethodName := ⟨RX6, "extend", "(II)V"⟩
abbrev cX6_goOn : ByteArray := prog_8_method_9_code
def yX6_goOn : MethodName := ⟨RX6, "goOn", "(II)V"⟩
abbrev cX6_comes : ByteArray := prog_8_method_10_code
def yX6_comes : MethodName := ⟨RX6, "comes", "(III)Z"⟩
abbrev cX6_keep : ByteArray := prog_8_method_11_code
def yX6_keep : MethodName := ⟨RX6, "keep", "()V"⟩
def RX7 : String := "IceTreaty$Ship"
def TX7 : u_T := fun k => match k with
  | 0 => ("IceTreaty$Ship", "owner", "I", true)
  | 1 => ("IceTreaty$Ship", "room", "I", true)
  | 2 => ("IceTreaty$Ship", "strength", "I", true)
  | 3 => ("IceTreaty$Ship", "state", "I", false)
  | 4 => ("IceTreaty$Ship", "sea", "I", false)
  | 5 => ("IceTreaty$Ship", "station", "I", false)
  | 6 => ("IceTreaty$Ship", "drums", "I", false)
  | 7 => ("IceTreaty$Ship", "waste", "I", false)
  | 8 => ("IceTreaty$Ship", "due", "I", false)
  | 9 => ("IceTreaty$Ship", "waited", "I", false)
  | _ => ("IceTreaty$Ship", "days", "I", false)
def tyX7 : Nat → FieldType := fun k => match k with
  | 0 => .int
  | 1 => .int
  | 2 => .int
  | 3 => .int
  | 4 => .int
  | 5 => .int
  | 6 => .int
  | 7 => .int
  | 8 => .int
  | 9 => .int
  | _ => .int
abbrev wsX70 : List Cond := u_ws RX7 TX7 11
theorem nmX7 : ∀ a, a < 11 → ∀ b, b < 11 → a ≠ b → (TX7 a).2.1 ≠ (TX7 b).2.1 := by decide +kernel
theorem tyX7_ok : ∀ k, k < 11 → parseFieldDescriptor (TX7 k).2.2.1 = some (tyX7 k) := by decide +kernel
abbrev cX7_init : ByteArray := prog_9_method_1_code
def yX7_init : MethodName := ⟨RX7, "<init>", "(III)V"⟩
abbrev cX7_leave : ByteArray := prog_9_method_2_code
def yX7_leave : MethodName := ⟨RX7, "leave", "(IIIII)V"⟩
abbrev cX7_turnBack : ByteArray := prog_9_method_3_code
def yX7_turnBack : MethodName := ⟨RX7, "turnBack", "(I)V"⟩
def RX8 : String := "IceTreaty$Table"
def TX8 : u_T := fun k => match k with
  | 0 => ("IceTreaty$Table", "width", "I", true)
  | 1 => ("IceTreaty$Table", "most", "I", true)
  | 2 => ("IceTreaty$Table", "cells", "[I", true)
  | _ => ("IceTreaty$Table", "size", "I", false)
def tyX8 : Nat → FieldType := fun k => match k with
  | 0 => .int
  | 1 => .int
  | 2 => .array .int
  | _ => .int
abbrev wsX80 : List Cond := u_ws RX8 TX8 4
theorem nmX8 : ∀ a, a < 4 → ∀ b, b < 4 → a ≠ b → (TX8 a).2.1 ≠ (TX8 b).2.1 := by decide +kernel
theorem tyX8_ok : ∀ k, k < 4 → parseFieldDescriptor (TX8 k).2.2.1 = some (tyX8 k) := by decide +kernel
abbrev cX8_init : ByteArray := prog_10_method_1_code
def yX8_init : MethodName := ⟨RX8, "<init>", "(II)V"⟩
abbrev cX8_isFull : ByteArray := prog_10_method_2_code
def yX8_isFull : MethodName := ⟨RX8, "isFull", "()Z"⟩
abbrev cX8_has : ByteArray := prog_10_method_3_code
def yX8_has : MethodName := ⟨RX8, "has", "(I)Z"⟩
abbrev cX8_get : ByteArray := prog_10_method_4_code
def yX8_get : MethodName := ⟨RX8, "get", "(II)I"⟩
abbrev cX8_put : ByteArray := prog_10_method_5_code
def yX8_put : MethodName := ⟨RX8, "put", "(III)V"⟩
abbrev cX8_append : ByteArray := prog_10_method_6_code
def yX8_append : MethodName := ⟨RX8, "append", "(IIIII)I"⟩
def RX9 : String := "IceTreaty$Text"
def TX9 : u_T := fun k => match k with
  | 0 => ("IceTreaty$Text", "from", "I", true)
  | 1 => ("IceTreaty$Text", "to", "I", true)
  | 2 => ("IceTreaty$Text", "clauses", "LIceTreaty$Table;", true)
  | 3 => ("IceTreaty$Text", "steps", "[I", true)
  | _ => ("IceTreaty$Text", "stepCount", "I", false)
def tyX9 : Nat → FieldType := fun k => match k with
  | 0 => .int
  | 1 => .int
  | 2 => .object "IceTreaty$Table"
  | 3 => .array .int
  | _ => .int
abbrev wsX90 : List Cond := u_ws RX9 TX9 5
theorem nmX9 : ∀ a, a < 5 → ∀ b, b < 5 → a ≠ b → (TX9 a).2.1 ≠ (TX9 b).2.1 := by decide +kernel
theorem tyX9_ok : ∀ k, k < 5 → parseFieldDescriptor (TX9 k).2.2.1 = some (tyX9 k) := by decide +kernel
abbrev cX9_init : ByteArray := prog_11_method_1_code
def yX9_init : MethodName := ⟨RX9, "<init>", "(IIII)V"⟩
abbrev cX9_isInForce : ByteArray := prog_11_method_2_code
def yX9_isInForce : MethodName := ⟨RX9, "isInForce", "(I)Z"⟩
abbrev cX9_letterOf : ByteArray := prog_11_method_3_code
def yX9_letterOf : MethodName := ⟨RX9, "letterOf", "(I)I"⟩
abbrev cX9_hasCondition : ByteArray := prog_11_method_4_code
def yX9_hasCondition : MethodName := ⟨RX9, "hasCondition", "(I)Z"⟩
abbrev cX9_addStep : ByteArray := prog_11_method_5_code
def yX9_addStep : MethodName := ⟨RX9, "addStep", "(II)I"⟩
abbrev cX9_lead : ByteArray := prog_11_method_6_code
def yX9_lead : MethodName := ⟨RX9, "lead", "(I)V"⟩
def RX10 : String := "IceTreaty$Work"
def TX10 : u_T := fun k => match k with
  | 0 => ("IceTreaty$Work", "kind", "I", true)
  | 1 => ("IceTreaty$Work", "owner", "I", true)
  | 2 => ("IceTreaty$Work", "cell", "I", true)
  | 3 => ("IceTreaty$Work", "from", "I", true)
  | 4 => ("IceTreaty$Work", "to", "I", true)
  | 5 => ("IceTreaty$Work", "people", "I", false)
  | 6 => ("IceTreaty$Work", "noise", "I", false)
  | 7 => ("IceTreaty$Work", "daysDone", "I", false)
  | 8 => ("IceTreaty$Work", "daysHeld", "I", false)
  | 9 => ("IceTreaty$Work", "notice", "I", false)
  | 10 => ("IceTreaty$Work", "leave", "I", false)
  | 11 => ("IceTreaty$Work", "study", "I", false)
  | 12 => ("IceTreaty$Work", "harm", "I", false)
  | 13 => ("IceTreaty$Work", "yeses", "I", false)
  | _ => ("IceTreaty$Work", "noes", "I", false)
def tyX10 : Nat → FieldType := fun k => match k with
  | 0 => .int
  | 1 => .int
  | 2 => .int
  | 3 => .int
  | 4 => .int
  | 5 => .int
  | 6 => .int
  | 7 => .int
  | 8 => .int
  | 9 => .int
  | 10 => .int
  | 11 => .int
  | 12 => .int
  | 13 => .int
  | _ => .int
abbrev wsX100 : List Cond := u_ws RX10 TX10 15
theorem nmX10 : ∀ a, a < 15 → ∀ b, b < 15 → a ≠ b → (TX10 a).2.1 ≠ (TX10 b).2.1 := by decide +kernel
theorem tyX10_ok : ∀ k, k < 15 → parseFieldDescriptor (TX10 k).2.2.1 = some (tyX10 k) := by decide +kernel
abbrev cX10_init : ByteArray := prog_12_method_1_code
def yX10_init : MethodName := ⟨RX10, "<init>", "(IIIII)V"⟩
def RX11 : String := "IceTreaty"
def TX11 : u_T := fun k => match k with
  | 0 => ("IceTreaty", "land", "LIceTreaty$Land;", true)
  | 1 => ("IceTreaty", "law", "LIceTreaty$Law;", true)
  | 2 => ("IceTreaty", "season", "LIceTreaty$Season;", true)
  | 3 => ("IceTreaty", "parties", "[LIceTreaty$Party;", true)
  | 4 => ("IceTreaty", "partyCount", "I", false)
  | 5 => ("IceTreaty", "places", "[LIceTreaty$Place;", true)
  | 6 => ("IceTreaty", "placeCount", "I", false)
  | 7 => ("IceTreaty", "works", "[LIceTreaty$Work;", true)
  | 8 => ("IceTreaty", "workCount", "I", false)
  | 9 => ("IceTreaty", "ships", "[LIceTreaty$Ship;", true)
  | 10 => ("IceTreaty", "shipCount", "I", false)
  | 11 => ("IceTreaty", "sledges", "LIceTreaty$Table;", true)
  | 12 => ("IceTreaty", "visits", "LIceTreaty$Table;", true)
  | 13 => ("IceTreaty", "drills", "LIceTreaty$Table;", true)
  | 14 => ("IceTreaty", "catches", "LIceTreaty$Table;", true)
  | 15 => ("IceTreaty", "reports", "LIceTreaty$Table;", true)
  | 16 => ("IceTreaty", "words", "LIceTreaty$Table;", true)
  | 17 => ("IceTreaty", "tape", "LIceTreaty$Table;", true)
  | 18 => ("IceTreaty", "speeds", "[I", true)
  | _ => ("IceTreaty", "sums", "[J", true)
def tyX11 : Nat → FieldType := fun k => match k with
  | 0 => .object "IceTreaty$Land"
  | 1 => .object "IceTreaty$Law"
  | 2 => .object "IceTreaty$Season"
  | 3 => .array (.object "IceTreaty$Party")
  | 4 => .int
  | 5 => .array (.object "IceTreaty$Place")
  | 6 => .int
  | 7 => .array (.object "IceTreaty$Work")
  | 8 => .int
  | 9 => .array (.object "IceTreaty$Ship")
  | 10 => .int
  | 11 => .object "IceTreaty$Table"
  | 12 => .object "IceTreaty$Table"
  | 13 => .object "IceTreaty$Table"
  | 14 => .object "IceTreaty$Table"
  | 15 => .object "IceTreaty$Table"
  | 16 => .object "IceTreaty$Table"
  | 17 => .object "IceTreaty$Table"
  | 18 => .array .int
  | _ => .array .long
abbrev wsX110 : List Cond := u_ws RX11 TX11 20
theorem nmX11 : ∀ a, a < 20 → ∀ b, b < 20 → a ≠ b → (TX11 a).2.1 ≠ (TX11 b).2.1 := by decide +kernel
theorem tyX11_ok : ∀ k, k < 20 → parseFieldDescriptor (TX11 k).2.2.1 = some (tyX11 k) := by decide +kernel
abbrev cX11_init : ByteArray := prog_1_method_1_code
def yX11_init : MethodName := ⟨RX11, "<init>", "()V"⟩
abbrev cX11_ice : ByteArray := prog_1_method_2_code
def yX11_ice : MethodName := ⟨RX11, "ice", "(II)Z"⟩
abbrev cX11_cell : ByteArray := prog_1_method_3_code
def yX11_cell : MethodName := ⟨RX11, "cell", "(IIIII)Z"⟩
abbrev cX11_dark : ByteArray := prog_1_method_4_code
def yX11_dark : MethodName := ⟨RX11, "dark", "(II)Z"⟩
abbrev cX11_party : ByteArray := prog_1_method_5_code
def yX11_party : MethodName := ⟨RX11, "party", "(Z)I"⟩
abbrev cX11_claim : ByteArray := prog_1_method_6_code
def yX11_claim : MethodName := ⟨RX11, "claim", "(IIII)I"⟩
abbrev cX11_title : ByteArray := prog_1_method_7_code
def yX11_title : MethodName := ⟨RX11, "title", "(II)Z"⟩
abbrev cX11_station : ByteArray := prog_1_method_8_code
def yX11_station : MethodName := ⟨RX11, "station", "(IIII)I"⟩
abbrev cX11_field : ByteArray := prog_1_method_9_code
def yX11_field : MethodName := ⟨RX11, "field", "(II)I"⟩
abbrev cX11_reserve : ByteArray := prog_1_method_10_code
def yX11_reserve : MethodName := ⟨RX11, "reserve", "(III)I"⟩
abbrev cX11_site : ByteArray := prog_1_method_11_code
def yX11_site : MethodName := ⟨RX11, "site", "(IZ)I"⟩
abbrev cX11_settle : ByteArray := prog_1_method_12_code
def yX11_settle : MethodName := ⟨RX11, "settle", "(LIceTreaty$Place;)I"⟩
abbrev cX11_feed : ByteArray := prog_1_method_13_code
def yX11_feed : MethodName := ⟨RX11, "feed", "(IIIII)I"⟩
abbrev cX11_feedNumber : ByteArray := prog_1_method_14_code
def yX11_feedNumber : MethodName := ⟨RX11, "feedNumber", "(I)V"⟩
abbrev cX11_fedNumber : ByteArray := prog_1_method_15_code
def yX11_fedNumber : MethodName := ⟨RX11, "fedNumber", "(I)I"⟩
abbrev cX11_text : ByteArray := prog_1_method_16_code
def yX11_text : MethodName := ⟨RX11, "text", "(III)I"⟩
abbrev cX11_yes : ByteArray := prog_1_method_17_code
def yX11_yes : MethodName := ⟨RX11, "yes", "(II)Z"⟩
abbrev cX11_reading : ByteArray := prog_1_method_18_code
def yX11_reading : MethodName := ⟨RX11, "reading", "(IIII)I"⟩
abbrev cX11_counts : ByteArray := prog_1_method_19_code
def yX11_counts : MethodName := ⟨RX11, "counts", "(III)I"⟩
abbrev cX11_number : ByteArray := prog_1_method_20_code
def yX11_number : MethodName := ⟨RX11, "number", "(III)I"⟩
abbrev cX11_decides : ByteArray := prog_1_method_21_code
def yX11_decides : MethodName := ⟨RX11, "decides", "(II)I"⟩
abbrev cX11_claimsAreAsleep : ByteArray := prog_1_method_22_code
def yX11_claimsAreAsleep : MethodName := ⟨RX11, "claimsAreAsleep", "(ILIceTreaty$Party;)Z"⟩
abbrev cX11_work : ByteArray := prog_1_method_23_code
def yX11_work : MethodName := ⟨RX11, "work", "(IIIIIII)I"⟩
abbrev cX11_tell : ByteArray := prog_1_method_24_code
def yX11_tell : MethodName := ⟨RX11, "tell", "(II)Z"⟩
abbrev cX11_study : ByteArray := prog_1_method_25_code
def yX11_study : MethodName := ⟨RX11, "study", "(II)Z"⟩
abbrev cX11_say : ByteArray := prog_1_method_26_code
def yX11_say : MethodName := ⟨RX11, "say", "(IIZ)Z"⟩
abbrev cX11_may : ByteArray := prog_1_method_27_code
def yX11_may : MethodName := ⟨RX11, "may", "(IIZ)I"⟩
abbrev cX11_why : ByteArray := prog_1_method_28_code
def yX11_why : MethodName := ⟨RX11, "why", "(IIZI)I"⟩
abbrev cX11_whose : ByteArray := prog_1_method_29_code
def yX11_whose : MethodName := ⟨RX11, "whose", "(II)I"⟩
abbrev cX11_judge : ByteArray := prog_1_method_30_code
def yX11_judge : MethodName := ⟨RX11, "judge", "(LIceTreaty$Work;IZ)I"⟩
abbrev cX11_hasConsent : ByteArray := prog_1_method_31_code
def yX11_hasConsent : MethodName := ⟨RX11, "hasConsent", "(LIceTreaty$Work;I)Z"⟩
abbrev cX11_decidingOn : ByteArray := prog_1_method_32_code
def yX11_decidingOn : MethodName := ⟨RX11, "decidingOn", "(I)I"⟩
abbrev cX11_tellLetters : ByteArray := prog_1_method_33_code
def yX11_tellLetters : MethodName := ⟨RX11, "tellLetters", "(LIceTreaty$Work;LIceTreaty$Party;I)V"⟩
abbrev cX11_tellNeighbours : ByteArray := prog_1_method_34_code
def yX11_tellNeighbours : MethodName := ⟨RX11, "tellNeighbours", "(LIceTreaty$Work;)V"⟩
abbrev cX11_ship : ByteArray := prog_1_method_35_code
def yX11_ship : MethodName := ⟨RX11, "ship", "(III)I"⟩
abbrev cX11_cover : ByteArray := prog_1_method_36_code
def yX11_cover : MethodName := ⟨RX11, "cover", "(III)Z"⟩
abbrev cX11_sea : ByteArray := prog_1_method_37_code
def yX11_sea : MethodName := ⟨RX11, "sea", "(II)Z"⟩
abbrev cX11_voyage : ByteArray := prog_1_method_38_code
def yX11_voyage : MethodName := ⟨RX11, "voyage", "(IIII)Z"⟩
abbrev cX11_sledge : ByteArray := prog_1_method_39_code
def yX11_sledge : MethodName := ⟨RX11, "sledge", "(III)I"⟩
abbrev cX11_people : ByteArray := prog_1_method_40_code
def yX11_people : MethodName := ⟨RX11, "people", "(II)Z"⟩
abbrev cX11_hide : ByteArray := prog_1_method_41_code
def yX11_hide : MethodName := ⟨RX11, "hide", "(II)Z"⟩
abbrev cX11_declare : ByteArray := prog_1_method_42_code
def yX11_declare : MethodName := ⟨RX11, "declare", "(III)Z"⟩
abbrev cX11_visit : ByteArray := prog_1_method_43_code
def yX11_visit : MethodName := ⟨RX11, "visit", "(II)I"⟩
abbrev cX11_seen : ByteArray := prog_1_method_44_code
def yX11_seen : MethodName := ⟨RX11, "seen", "(II)I"⟩
abbrev cX11_day : ByteArray := prog_1_method_45_code
def yX11_day : MethodName := ⟨RX11, "day", "()I"⟩
abbrev cX11_passWork : ByteArray := prog_1_method_46_code
def yX11_passWork : MethodName := ⟨RX11, "passWork", "(I)V"⟩
abbrev cX11_disturbNests : ByteArray := prog_1_method_47_code
def yX11_disturbNests : MethodName := ⟨RX11, "disturbNests", "(LIceTreaty$Work;)V"⟩
abbrev cX11_goDown : ByteArray := prog_1_method_48_code
def yX11_goDown : MethodName := ⟨RX11, "goDown", "(I)V"⟩
abbrev cX11_admitParties : ByteArray := prog_1_method_49_code
def yX11_admitParties : MethodName := ⟨RX11, "admitParties", "()V"⟩
abbrev cX11_passStation : ByteArray := prog_1_method_50_code
def yX11_passStation : MethodName := ⟨RX11, "passStation", "(I)V"⟩
abbrev cX11_burn : ByteArray := prog_1_method_51_code
def yX11_burn : MethodName := ⟨RX11, "burn", "(LIceTreaty$Place;I)V"⟩
abbrev cX11_sendPeopleHome : ByteArray := prog_1_method_52_code
def yX11_sendPeopleHome : MethodName := ⟨RX11, "sendPeopleHome", "(LIceTreaty$Place;)V"⟩
abbrev cX11_carry : ByteArray := prog_1_method_53_code
def yX11_carry : MethodName := ⟨RX11, "carry", "(ILIceTreaty$Place;)V"⟩
abbrev cX11_carryField : ByteArray := prog_1_method_54_code
def yX11_carryField : MethodName := ⟨RX11, "carryField", "(LIceTreaty$Place;IZ)V"⟩
abbrev cX11_loseStation : ByteArray := prog_1_method_55_code
def yX11_loseStation : MethodName := ⟨RX11, "loseStation", "(LIceTreaty$Place;)V"⟩
abbrev cX11_passShip : ByteArray := prog_1_method_56_code
def yX11_passShip : MethodName := ⟨RX11, "passShip", "(LIceTreaty$Ship;)V"⟩
abbrev cX11_meetIce : ByteArray := prog_1_method_57_code
def yX11_meetIce : MethodName := ⟨RX11, "meetIce", "(LIceTreaty$Ship;)V"⟩
abbrev cX11_unload : ByteArray := prog_1_method_58_code
def yX11_unload : MethodName := ⟨RX11, "unload", "(LIceTreaty$Ship;)V"⟩
abbrev cX11_comeHome : ByteArray := prog_1_method_59_code
def yX11_comeHome : MethodName := ⟨RX11, "comeHome", "(LIceTreaty$Ship;)V"⟩
abbrev cX11_passSledge : ByteArray := prog_1_method_60_code
def yX11_passSledge : MethodName := ⟨RX11, "passSledge", "(I)V"⟩
abbrev cX11_sound : ByteArray := prog_1_method_61_code
def yX11_sound : MethodName := ⟨RX11, "sound", "(III)Z"⟩
abbrev cX11_sure : ByteArray := prog_1_method_62_code
def yX11_sure : MethodName := ⟨RX11, "sure", "(I)I"⟩
abbrev cX11_drill : ByteArray := prog_1_method_63_code
def yX11_drill : MethodName := ⟨RX11, "drill", "(II)I"⟩
abbrev cX11_speed : ByteArray := prog_1_method_64_code
def yX11_speed : MethodName := ⟨RX11, "speed", "(II)Z"⟩
abbrev cX11_birds : ByteArray := prog_1_method_65_code
def yX11_birds : MethodName := ⟨RX11, "birds", "(III)Z"⟩
abbrev cX11_loss : ByteArray := prog_1_method_66_code
def yX11_loss : MethodName := ⟨RX11, "loss", "(IIIII)I"⟩
abbrev cX11_noise : ByteArray := prog_1_method_67_code
def yX11_noise : MethodName := ⟨RX11, "noise", "(II)I"⟩
abbrev cX11_caught : ByteArray := prog_1_method_68_code
def yX11_caught : MethodName := ⟨RX11, "caught", "(IIIII)I"⟩
abbrev cX11_over : ByteArray := prog_1_method_69_code
def yX11_over : MethodName := ⟨RX11, "over", "()I"⟩
abbrev cX11_isOver : ByteArray := prog_1_method_70_code
def yX11_isOver : MethodName := ⟨RX11, "isOver", "(I)Z"⟩
abbrev cX11_tonnesUpTo : ByteArray := prog_1_method_71_code
def yX11_tonnesUpTo : MethodName := ⟨RX11, "tonnesUpTo", "(I)I"⟩
abbrev cX11_doubt : ByteArray := prog_1_method_72_code
def yX11_doubt : MethodName := ⟨RX11, "doubt", "(I)I"⟩
abbrev cX11_isDoubtful : ByteArray := prog_1_method_73_code
def yX11_isDoubtful : MethodName := ⟨RX11, "isDoubtful", "(II)Z"⟩
abbrev cX11_word : ByteArray := prog_1_method_74_code
def yX11_word : MethodName := ⟨RX11, "word", "(I)I"⟩
abbrev cX11_asks : ByteArray := prog_1_method_75_code
def yX11_asks : MethodName := ⟨RX11, "asks", "(III)Z"⟩
abbrev cX11_blocks : ByteArray := prog_1_method_76_code
def yX11_blocks : MethodName := ⟨RX11, "blocks", "(I)I"⟩
abbrev cX11_best : ByteArray := prog_1_method_77_code
def yX11_best : MethodName := ⟨RX11, "best", "()I"⟩
abbrev cX11_blockers : ByteArray := prog_1_method_78_code
def yX11_blockers : MethodName := ⟨RX11, "blockers", "(I)I"⟩
abbrev cX11_worthOf : ByteArray := prog_1_method_79_code
def yX11_worthOf : MethodName := ⟨RX11, "worthOf", "(I)I"⟩
abbrev cX11_stop : ByteArray := prog_1_method_80_code
def yX11_stop : MethodName := ⟨RX11, "stop", "(II)I"⟩
abbrev cX11_open : ByteArray := prog_1_method_81_code
def yX11_open : MethodName := ⟨RX11, "open", "(IIII)Z"⟩
abbrev cX11_plan : ByteArray := prog_1_method_82_code
def yX11_plan : MethodName := ⟨RX11, "plan", "(III)I"⟩
abbrev cX11_planned : ByteArray := prog_1_method_83_code
def yX11_planned : MethodName := ⟨RX11, "planned", "(IIII)I"⟩
abbrev cX11_measureLegs : ByteArray := prog_1_method_84_code
def yX11_measureLegs : MethodName := ⟨RX11, "measureLegs", "()V"⟩
abbrev cX11_report : ByteArray := prog_1_method_85_code
def yX11_report : MethodName := ⟨RX11, "report", "(IIIZ)Z"⟩
abbrev cX11_known : ByteArray := prog_1_method_86_code
def yX11_known : MethodName := ⟨RX11, "known", "(III)I"⟩
abbrev cX11_check : ByteArray := prog_1_method_87_code
def yX11_check : MethodName := ⟨RX11, "check", "(I)I"⟩
abbrev cX11_firstWrong : ByteArray := prog_1_method_88_code
def yX11_firstWrong : MethodName := ⟨RX11, "firstWrong", "(I)I"⟩
abbrev cX11_look : ByteArray := prog_1_method_89_code
def yX11_look : MethodName := ⟨RX11, "look", "(II)I"⟩
abbrev cX11_lookAtStation : ByteArray := prog_1_method_90_code
def yX11_lookAtStation : MethodName := ⟨RX11, "lookAtStation", "(LIceTreaty$Place;I)I"⟩
abbrev cX11_at : ByteArray := prog_1_method_91_code
def yX11_at : MethodName := ⟨RX11, "at", "(II)I"⟩
abbrev cX11_about : ByteArray := prog_1_method_92_code
def yX11_about : MethodName := ⟨RX11, "about", "(II)I"⟩
abbrev cX11_sum : ByteArray := prog_1_method_93_code
def yX11_sum : MethodName := ⟨RX11, "sum", "(I)J"⟩
abbrev cX11_count : ByteArray := prog_1_method_94_code
def yX11_count : MethodName := ⟨RX11, "count", "(I)I"⟩
abbrev cX11_decidesFrom : ByteArray := prog_1_method_95_code
def yX11_decidesFrom : MethodName := ⟨RX11, "decidesFrom", "(I)I"⟩
abbrev cX11_sledgesOnWay : ByteArray := prog_1_method_96_code
def yX11_sledgesOnWay : MethodName := ⟨RX11, "sledgesOnWay", "()I"⟩
abbrev cX11_partyOf : ByteArray := prog_1_method_97_code
def yX11_partyOf : MethodName := ⟨RX11, "partyOf", "(I)LIceTreaty$Party;"⟩
abbrev cX11_anyPlace : ByteArray := prog_1_method_98_code
def yX11_anyPlace : MethodName := ⟨RX11, "anyPlace", "(I)LIceTreaty$Place;"⟩
abbrev cX11_placeOf : ByteArray := prog_1_method_99_code
def yX11_placeOf : MethodName := ⟨RX11, "placeOf", "(II)LIceTreaty$Place;"⟩
abbrev cX11_standingStation : ByteArray := prog_1_method_100_code
def yX11_standingStation : MethodName := ⟨RX11, "standingStation", "(I)LIceTreaty$Place;"⟩
abbrev cX11_workOf : ByteArray := prog_1_method_101_code
def yX11_workOf : MethodName := ⟨RX11, "workOf", "(I)LIceTreaty$Work;"⟩
abbrev cX11_shipOf : ByteArray := prog_1_method_102_code
def yX11_shipOf : MethodName := ⟨RX11, "shipOf", "(I)LIceTreaty$Ship;"⟩
abbrev cX11_tally : ByteArray := prog_1_method_103_code
def yX11_tally : MethodName := ⟨RX11, "tally", "(II)V"⟩
abbrev cX11_between : ByteArray := prog_1_method_104_code
def yX11_between : MethodName := ⟨RX11, "between", "(III)Z"⟩
abbrev cX11_isDay : ByteArray := prog_1_method_105_code
def yX11_isDay : MethodName := ⟨RX11, "isDay", "(I)Z"⟩
abbrev cX11_areDays : ByteArray := prog_1_method_106_code
def yX11_areDays : MethodName := ⟨RX11, "areDays", "(II)Z"⟩
abbrev cX11_areYearDays : ByteArray := prog_1_method_107_code
def yX11_areYearDays : MethodName := ⟨RX11, "areYearDays", "(II)Z"⟩
abbrev cX11_isYear : ByteArray := prog_1_method_108_code
def yX11_isYear : MethodName := ⟨RX11, "isYear", "(I)Z"⟩
abbrev cX11_isSea : ByteArray := prog_1_method_109_code
def yX11_isSea : MethodName := ⟨RX11, "isSea", "(I)Z"⟩
def RX12 : String := "IceTreatyModel"
def TX12 : u_T := fun k => match k with
  | 0 => ("IceTreatyModel", "wide", "I", false)
  | 1 => ("IceTreatyModel", "high", "I", false)
  | 2 => ("IceTreatyModel", "now", "I", false)
  | 3 => ("IceTreatyModel", "darkFrom", "I", false)
  | 4 => ("IceTreatyModel", "darkTo", "I", false)
  | 5 => ("IceTreatyModel", "height", "[I", true)
  | 6 => ("IceTreatyModel", "ground", "[I", true)
  | 7 => ("IceTreatyModel", "way", "[I", true)
  | 8 => ("IceTreatyModel", "flow", "[I", true)
  | 9 => ("IceTreatyModel", "parties", "I", false)
  | 10 => ("IceTreatyModel", "places", "I", false)
  | 11 => ("IceTreatyModel", "decidesFrom", "[I", true)
  | 12 => ("IceTreatyModel", "science", "[I", true)
  | 13 => ("IceTreatyModel", "kindOf", "[I", true)
  | 14 => ("IceTreatyModel", "partyOf", "[I", true)
  | 15 => ("IceTreatyModel", "cellOf", "[I", true)
  | 16 => ("IceTreatyModel", "lowerOf", "[I", true)
  | 17 => ("IceTreatyModel", "numberOf", "[I", true)
  | 18 => ("IceTreatyModel", "sinceOf", "[I", true)
  | 19 => ("IceTreatyModel", "folk", "[I", true)
  | 20 => ("IceTreatyModel", "drums", "[I", true)
  | 21 => ("IceTreatyModel", "hidden", "[I", true)
  | 22 => ("IceTreatyModel", "coldDays", "[I", true)
  | 23 => ("IceTreatyModel", "waste", "[I", true)
  | 24 => ("IceTreatyModel", "saidPeople", "[I", true)
  | 25 => ("IceTreatyModel", "saidDrums", "[I", true)
  | 26 => ("IceTreatyModel", "noiseOf", "[I", true)
  | 27 => ("IceTreatyModel", "birdOf", "[I", true)
  | 28 => ("IceTreatyModel", "isLost", "[Z", true)
  | 29 => ("IceTreatyModel", "tape", "[B", true)
  | 30 => ("IceTreatyModel", "taped", "I", false)
  | 31 => ("IceTreatyModel", "place0", "I", false)
  | 32 => ("IceTreatyModel", "length0", "I", false)
  | 33 => ("IceTreatyModel", "fault", "I", false)
  | 34 => ("IceTreatyModel", "number", "I", false)
  | 35 => ("IceTreatyModel", "open", "I", false)
  | 36 => ("IceTreatyModel", "codeMany", "I", false)
  | 37 => ("IceTreatyModel", "waiting", "I", false)
  | 38 => ("IceTreatyModel", "saidClauses", "I", false)
  | 39 => ("IceTreatyModel", "said", "[I", true)
  | 40 => ("IceTreatyModel", "waits", "[I", true)
  | 41 => ("IceTreatyModel", "saidLetter", "[I", true)
  | 42 => ("IceTreatyModel", "saidFrom", "[I", true)
  | 43 => ("IceTreatyModel", "saidTo", "[I", true)
  | 44 => ("IceTreatyModel", "saidN", "[I", true)
  | 45 => ("IceTreatyModel", "saidA", "[I", true)
  | 46 => ("IceTreatyModel", "saidB", "[I", true)
  | 47 => ("IceTreatyModel", "texts", "I", false)
  | 48 => ("IceTreatyModel", "readings", "I", false)
  | 49 => ("IceTreatyModel", "codes", "[I", true)
  | 50 => ("IceTreatyModel", "clauseMany", "[I", true)
  | 51 => ("IceTreatyModel", "textFrom", "[I", true)
  | 52 => ("IceTreatyModel", "textTo", "[I", true)
  | 53 => ("IceTreatyModel", "letterOf", "[I", true)
  | 54 => ("IceTreatyModel", "codeFrom", "[I", true)
  | 55 => ("IceTreatyModel", "codeTo", "[I", true)
  | 56 => ("IceTreatyModel", "nOf", "[I", true)
  | 57 => ("IceTreatyModel", "aOf", "[I", true)
  | 58 => ("IceTreatyModel", "bOf", "[I", true)
  | 59 => ("IceTreatyModel", "yesDay", "[I", true)
  | 60 => ("IceTreatyModel", "ownCodes", "[I", true)
  | 61 => ("IceTreatyModel", "ownMany", "[I", true)
  | 62 => ("IceTreatyModel", "ownParty", "[I", true)
  | 63 => ("IceTreatyModel", "ownClause", "[I", true)
  | 64 => ("IceTreatyModel", "isBound", "[Z", true)
  | 65 => ("IceTreatyModel", "isStruck", "[Z", true)
  | 66 => ("IceTreatyModel", "works", "I", false)
  | 67 => ("IceTreatyModel", "workKind", "[I", true)
  | 68 => ("IceTreatyModel", "workParty", "[I", true)
  | 69 => ("IceTreatyModel", "workCell", "[I", true)
  | 70 => ("IceTreatyModel", "workFrom", "[I", true)
  | 71 => ("IceTreatyModel", "workTo", "[I", true)
  | 72 => ("IceTreatyModel", "workPeople", "[I", true)
  | 73 => ("IceTreatyModel", "workNoise", "[I", true)
  | 74 => ("IceTreatyModel", "done", "[I", true)
  | 75 => ("IceTreatyModel", "held", "[I", true)
  | 76 => ("IceTreatyModel", "notice", "[I", true)
  | 77 => ("IceTreatyModel", "leave", "[I", true)
  | 78 => ("IceTreatyModel", "studied", "[I", true)
  | 79 => ("IceTreatyModel", "harm", "[I", true)
  | 80 => ("IceTreatyModel", "saidOf", "[I", true)
  | 81 => ("IceTreatyModel", "stack", "[I", true)
  | 82 => ("IceTreatyModel", "barredBy", "I", false)
  | 83 => ("IceTreatyModel", "brought", "J", false)
  | 84 => ("IceTreatyModel", "burnt", "J", false)
  | 85 => ("IceTreatyModel", "lostDrums", "J", false)
  | 86 => ("IceTreatyModel", "homeDrums", "J", false)
  | 87 => ("IceTreatyModel", "wasteMade", "J", false)
  | 88 => ("IceTreatyModel", "wasteLost", "J", false)
  | 89 => ("IceTreatyModel", "wasteHome", "J", false)
  | 90 => ("IceTreatyModel", "wentHome", "J", false)
  | 91 => ("IceTreatyModel", "ships", "I", false)
  | 92 => ("IceTreatyModel", "sledges", "I", false)
  | 93 => ("IceTreatyModel", "visits", "I", false)
  | 94 => ("IceTreatyModel", "shipParty", "[I", true)
  | 95 => ("IceTreatyModel", "room", "[I", true)
  | 96 => ("IceTreatyModel", "strength", "[I", true)
  | 97 => ("IceTreatyModel", "shipState", "[I", true)
  | 98 => ("IceTreatyModel", "shipDrums", "[I", true)
  | 99 => ("IceTreatyModel", "shipWaste", "[I", true)
  | 100 => ("IceTreatyModel", "shipDay", "[I", true)
  | 101 => ("IceTreatyModel", "shipWaits", "[I", true)
  | 102 => ("IceTreatyModel", "shipSea", "[I", true)
  | 103 => ("IceTreatyModel", "shipTo", "[I", true)
  | 104 => ("IceTreatyModel", "shipDays", "[I", true)
  | 105 => ("IceTreatyModel", "covers", "[I", true)
  | 106 => ("IceTreatyModel", "seaDays", "[I", true)
  | 107 => ("IceTreatyModel", "sledgeTo", "[I", true)
  | 108 => ("IceTreatyModel", "sledgeCell", "[I", true)
  | 109 => ("IceTreatyModel", "sledgeDrums", "[I", true)
  | 110 => ("IceTreatyModel", "sledgeDay", "[I", true)
  | 111 => ("IceTreatyModel", "isOnWay", "[Z", true)
  | 112 => ("IceTreatyModel", "visitParty", "[I", true)
  | 113 => ("IceTreatyModel", "visitStation", "[I", true)
  | 114 => ("IceTreatyModel", "visitDay", "[I", true)
  | 115 => ("IceTreatyModel", "visitPeople", "[I", true)
  | 116 => ("IceTreatyModel", "visitDrums", "[I", true)
  | 117 => ("IceTreatyModel", "days", "[I", true)
  | 118 => ("IceTreatyModel", "drills", "I", false)
  | 119 => ("IceTreatyModel", "margin", "I", false)
  | 120 => ("IceTreatyModel", "catches", "I", false)
  | 121 => ("IceTreatyModel", "soundMany", "[I", true)
  | 122 => ("IceTreatyModel", "soundDepth", "[I", true)
  | 123 => ("IceTreatyModel", "soundWrong", "[I", true)
  | 124 => ("IceTreatyModel", "drillSite", "[I", true)
  | 125 => ("IceTreatyModel", "drillWork", "[I", true)
  | 126 => ("IceTreatyModel", "depth", "[I", true)
  | 127 => ("IceTreatyModel", "speeds", "[I", true)
  | 128 => ("IceTreatyModel", "catchShip", "[I", true)
  | 129 => ("IceTreatyModel", "catchKind", "[I", true)
  | 130 => ("IceTreatyModel", "catchSea", "[I", true)
  | 131 => ("IceTreatyModel", "catchTonnes", "[I", true)
  | 132 => ("IceTreatyModel", "catchDay", "[I", true)
  | 133 => ("IceTreatyModel", "words", "I", false)
  | 134 => ("IceTreatyModel", "worth", "[I", true)
  | 135 => ("IceTreatyModel", "isBarred", "[Z", true)
  | 136 => ("IceTreatyModel", "isWanted", "[Z", true)
  | 137 => ("IceTreatyModel", "stops", "I", false)
  | 138 => ("IceTreatyModel", "bestEnd", "I", false)
  | 139 => ("IceTreatyModel", "stopOf", "[I", true)
  | 140 => ("IceTreatyModel", "need", "[I", true)
  | 141 => ("IceTreatyModel", "openFrom", "[I", true)
  | 142 => ("IceTreatyModel", "openTo", "[I", true)
  | 143 => ("IceTreatyModel", "order", "[I", true)
  | 144 => ("IceTreatyModel", "bestOrder", "[I", true)
  | 145 => ("IceTreatyModel", "reports", "I", false)
  | 146 => ("IceTreatyModel", "reportOf", "[I", true)
  | 147 => ("IceTreatyModel", "reportDay", "[I", true)
  | 148 => ("IceTreatyModel", "reportNumber", "[I", true)
  | 149 => ("IceTreatyModel", "reportTold", "[I", true)
  | _ => ("IceTreatyModel", "isNumber", "[Z", true)
def tyX12 : Nat → FieldType := fun k => match k with
  | 0 => .int
  | 1 => .int
  | 2 => .int
  | 3 => .int
  | 4 => .int
  | 5 => .array .int
  | 6 => .array .int
  | 7 => .array .int
  | 8 => .array .int
  | 9 => .int
  | 10 => .int
  | 11 => .array .int
  | 12 => .array .int
  | 13 => .array .int
  | 14 => .array .int
  | 15 => .array .int
  | 16 => .array .int
  | 17 => .array .int
  | 18 => .array .int
  | 19 => .array .int
  | 20 => .array .int
  | 21 => .array .int
  | 22 => .array .int
  | 23 => .array .int
  | 24 => .array .int
  | 25 => .array .int
  | 26 => .array .int
  | 27 => .array .int
  | 28 => .array .boolean
  | 29 => .array .byte
  | 30 => .int
  | 31 => .int
  | 32 => .int
  | 33 => .int
  | 34 => .int
  | 35 => .int
  | 36 => .int
  | 37 => .int
  | 38 => .int
  | 39 => .array .int
  | 40 => .array .int
  | 41 => .array .int
  | 42 => .array .int
  | 43 => .array .int
  | 44 => .array .int
  | 45 => .array .int
  | 46 => .array .int
  | 47 => .int
  | 48 => .int
  | 49 => .array .int
  | 50 => .array .int
  | 51 => .array .int
  | 52 => .array .int
  | 53 => .array .int
  | 54 => .array .int
  | 55 => .array .int
  | 56 => .array .int
  | 57 => .array .int
  | 58 => .array .int
  | 59 => .array .int
  | 60 => .array .int
  | 61 => .array .int
  | 62 => .array .int
  | 63 => .array .int
  | 64 => .array .boolean
  | 65 => .array .boolean
  | 66 => .int
  | 67 => .array .int
  | 68 => .array .int
  | 69 => .array .int
  | 70 => .array .int
  | 71 => .array .int
  | 72 => .array .int
  | 73 => .array .int
  | 74 => .array .int
  | 75 => .array .int
  | 76 => .array .int
  | 77 => .array .int
  | 78 => .array .int
  | 79 => .array .int
  | 80 => .array .int
  | 81 => .array .int
  | 82 => .int
  | 83 => .long
  | 84 => .long
  | 85 => .long
  | 86 => .long
  | 87 => .long
  | 88 => .long
  | 89 => .long
  | 90 => .long
  | 91 => .int
  | 92 => .int
  | 93 => .int
  | 94 => .array .int
  | 95 => .array .int
  | 96 => .array .int
  | 97 => .array .int
  | 98 => .array .int
  | 99 => .array .int
  | 100 => .array .int
  | 101 => .array .int
  | 102 => .array .int
  | 103 => .array .int
  | 104 => .array .int
  | 105 => .array .int
  | 106 => .array .int
  | 107 => .array .int
  | 108 => .array .int
  | 109 => .array .int
  | 110 => .array .int
  | 111 => .array .boolean
  | 112 => .array .int
  | 113 => .array .int
  | 114 => .array .int
  | 115 => .array .int
  | 116 => .array .int
  | 117 => .array .int
  | 118 => .int
  | 119 => .int
  | 120 => .int
  | 121 => .array .int
  | 122 => .array .int
  | 123 => .array .int
  | 124 => .array .int
  | 125 => .array .int
  | 126 => .array .int
  | 127 => .array .int
  | 128 => .array .int
  | 129 => .array .int
  | 130 => .array .int
  | 131 => .array .int
  | 132 => .array .int
  | 133 => .int
  | 134 => .array .int
  | 135 => .array .boolean
  | 136 => .array .boolean
  | 137 => .int
  | 138 => .int
  | 139 => .array .int
  | 140 => .array .int
  | 141 => .array .int
  | 142 => .array .int
  | 143 => .array .int
  | 144 => .array .int
  | 145 => .int
  | 146 => .array .int
  | 147 => .array .int
  | 148 => .array .int
  | 149 => .array .int
  | _ => .array .boolean
abbrev wsX120 : List Cond := u_ws RX12 TX12 151
theorem nmX12 : ∀ a, a < 151 → ∀ b, b < 151 → a ≠ b → (TX12 a).2.1 ≠ (TX12 b).2.1 := by decide +kernel
theorem tyX12_ok : ∀ k, k < 151 → parseFieldDescriptor (TX12 k).2.2.1 = some (tyX12 k) := by decide +kernel
abbrev cX12_init : ByteArray := prog_14_method_1_code
def yX12_init : MethodName := ⟨RX12, "<init>", "()V"⟩
abbrev cX12_in : ByteArray := prog_14_method_2_code
def yX12_in : MethodName := ⟨RX12, "in", "(III)Z"⟩
abbrev cX12_size : ByteArray := prog_14_method_3_code
def yX12_size : MethodName := ⟨RX12, "size", "(I)I"⟩
abbrev cX12_begins : ByteArray := prog_14_method_4_code
def yX12_begins : MethodName := ⟨RX12, "begins", "(II)V"⟩
abbrev cX12_isCell : ByteArray := prog_14_method_5_code
def yX12_isCell : MethodName := ⟨RX12, "isCell", "(I)Z"⟩
abbrev cX12_isDay : ByteArray := prog_14_method_6_code
def yX12_isDay : MethodName := ⟨RX12, "isDay", "(I)Z"⟩
abbrev cX12_ice : ByteArray := prog_14_method_7_code
def yX12_ice : MethodName := ⟨RX12, "ice", "(II)Z"⟩
abbrev cX12_cell : ByteArray := prog_14_method_8_code
def yX12_cell : MethodName := ⟨RX12, "cell", "(IIIII)Z"⟩
abbrev cX12_dark : ByteArray := prog_14_method_9_code
def yX12_dark : MethodName := ⟨RX12, "dark", "(II)Z"⟩
abbrev cX12_isDark : ByteArray := prog_14_method_10_code
def yX12_isDark : MethodName := ⟨RX12, "isDark", "(I)Z"⟩
abbrev cX12_far : ByteArray := prog_14_method_11_code
def yX12_far : MethodName := ⟨RX12, "far", "(II)I"⟩
abbrev cX12_columnStep : ByteArray := prog_14_method_12_code
def yX12_columnStep : MethodName := ⟨RX12, "columnStep", "(I)I"⟩
abbrev cX12_rowStep : ByteArray := prog_14_method_13_code
def yX12_rowStep : MethodName := ⟨RX12, "rowStep", "(I)I"⟩
abbrev cX12_moved : ByteArray := prog_14_method_14_code
def yX12_moved : MethodName := ⟨RX12, "moved", "(III)I"⟩
abbrev cX12_isLand : ByteArray := prog_14_method_15_code
def yX12_isLand : MethodName := ⟨RX12, "isLand", "(I)Z"⟩
abbrev cX12_isNearSea : ByteArray := prog_14_method_16_code
def yX12_isNearSea : MethodName := ⟨RX12, "isNearSea", "(I)Z"⟩
abbrev cX12_party : ByteArray := prog_14_method_17_code
def yX12_party : MethodName := ⟨RX12, "party", "(Z)I"⟩
abbrev cX12_isParty : ByteArray := prog_14_method_18_code
def yX12_isParty : MethodName := ⟨RX12, "isParty", "(I)Z"⟩
abbrev cX12_isPlace : ByteArray := prog_14_method_19_code
def yX12_isPlace : MethodName := ⟨RX12, "isPlace", "(II)Z"⟩
abbrev cX12_isStation : ByteArray := prog_14_method_20_code
def yX12_isStation : MethodName := ⟨RX12, "isStation", "(I)Z"⟩
abbrev cX12_stands : ByteArray := prog_14_method_21_code
def yX12_stands : MethodName := ⟨RX12, "stands", "(I)Z"⟩
abbrev cX12_decidesOn : ByteArray := prog_14_method_22_code
def yX12_decidesOn : MethodName := ⟨RX12, "decidesOn", "(II)Z"⟩
abbrev cX12_decides : ByteArray := prog_14_method_23_code
def yX12_decides : MethodName := ⟨RX12, "decides", "(II)I"⟩
abbrev cX12_place : ByteArray := prog_14_method_24_code
def yX12_place : MethodName := ⟨RX12, "place", "(IIIII)I"⟩
abbrev cX12_isRectangle : ByteArray := prog_14_method_25_code
def yX12_isRectangle : MethodName := ⟨RX12, "isRectangle", "(II)Z"⟩
abbrev cX12_isIn : ByteArray := prog_14_method_26_code
def yX12_isIn : MethodName := ⟨RX12, "isIn", "(II)Z"⟩
abbrev cX12_claim : ByteArray := prog_14_method_27_code
def yX12_claim : MethodName := ⟨RX12, "claim", "(IIII)I"⟩
abbrev cX12_title : ByteArray := prog_14_method_28_code
def yX12_title : MethodName := ⟨RX12, "title", "(II)Z"⟩
abbrev cX12_station : ByteArray := prog_14_method_29_code
def yX12_station : MethodName := ⟨RX12, "station", "(IIII)I"⟩
abbrev cX12_field : ByteArray := prog_14_method_30_code
def yX12_field : MethodName := ⟨RX12, "field", "(II)I"⟩
abbrev cX12_reserve : ByteArray := prog_14_method_31_code
def yX12_reserve : MethodName := ⟨RX12, "reserve", "(III)I"⟩
abbrev cX12_site : ByteArray := prog_14_method_32_code
def yX12_site : MethodName := ⟨RX12, "site", "(IZ)I"⟩
abbrev cX12_types : ByteArray := prog_14_method_33_code
def yX12_types : MethodName := ⟨RX12, "types", "(I)V"⟩
abbrev cX12_feed : ByteArray := prog_14_method_34_code
def yX12_feed : MethodName := ⟨RX12, "feed", "(IIIII)I"⟩
abbrev cX12_sign : ByteArray := prog_14_method_35_code
def yX12_sign : MethodName := ⟨RX12, "sign", "()I"⟩
abbrev cX12_isDigit : ByteArray := prog_14_method_36_code
def yX12_isDigit : MethodName := ⟨RX12, "isDigit", "()Z"⟩
abbrev cX12_wrong : ByteArray := prog_14_method_37_code
def yX12_wrong : MethodName := ⟨RX12, "wrong", "(II)Z"⟩
abbrev cX12_takes : ByteArray := prog_14_method_38_code
def yX12_takes : MethodName := ⟨RX12, "takes", "(I)Z"⟩
abbrev cX12_readsNumber : ByteArray := prog_14_method_39_code
def yX12_readsNumber : MethodName := ⟨RX12, "readsNumber", "(I)Z"⟩
abbrev cX12_says : ByteArray := prog_14_method_40_code
def yX12_says : MethodName := ⟨RX12, "says", "(II)V"⟩
abbrev cX12_opens : ByteArray := prog_14_method_41_code
def yX12_opens : MethodName := ⟨RX12, "opens", "(I)Z"⟩
abbrev cX12_top : ByteArray := prog_14_method_42_code
def yX12_top : MethodName := ⟨RX12, "top", "()I"⟩
abbrev cX12_letterNumber : ByteArray := prog_14_method_43_code
def yX12_letterNumber : MethodName := ⟨RX12, "letterNumber", "(I)I"⟩
abbrev cX12_sumSign : ByteArray := prog_14_method_44_code
def yX12_sumSign : MethodName := ⟨RX12, "sumSign", "(I)I"⟩
abbrev cX12_closesSums : ByteArray := prog_14_method_45_code
def yX12_closesSums : MethodName := ⟨RX12, "closesSums", "(Z)V"⟩
abbrev cX12_readsFactor : ByteArray := prog_14_method_46_code
def yX12_readsFactor : MethodName := ⟨RX12, "readsFactor", "()Z"⟩
abbrev cX12_readsSum : ByteArray := prog_14_method_47_code
def yX12_readsSum : MethodName := ⟨RX12, "readsSum", "()Z"⟩
abbrev cX12_hasOpenSum : ByteArray := prog_14_method_48_code
def yX12_hasOpenSum : MethodName := ⟨RX12, "hasOpenSum", "(I)Z"⟩
abbrev cX12_endsPiece : ByteArray := prog_14_method_49_code
def yX12_endsPiece : MethodName := ⟨RX12, "endsPiece", "()V"⟩
abbrev cX12_lands : ByteArray := prog_14_method_50_code
def yX12_lands : MethodName := ⟨RX12, "lands", "(Z)V"⟩
abbrev cX12_jumps : ByteArray := prog_14_method_51_code
def yX12_jumps : MethodName := ⟨RX12, "jumps", "(I)V"⟩
abbrev cX12_readsCompared : ByteArray := prog_14_method_52_code
def yX12_readsCompared : MethodName := ⟨RX12, "readsCompared", "()Z"⟩
abbrev cX12_readsCondition : ByteArray := prog_14_method_53_code
def yX12_readsCondition : MethodName := ⟨RX12, "readsCondition", "()Z"⟩
abbrev cX12_isAsking : ByteArray := prog_14_method_54_code
def yX12_isAsking : MethodName := ⟨RX12, "isAsking", "(I)Z"⟩
abbrev cX12_isLetter : ByteArray := prog_14_method_55_code
def yX12_isLetter : MethodName := ⟨RX12, "isLetter", "(I)Z"⟩
abbrev cX12_readsClause : ByteArray := prog_14_method_56_code
def yX12_readsClause : MethodName := ⟨RX12, "readsClause", "()Z"⟩
abbrev cX12_text : ByteArray := prog_14_method_57_code
def yX12_text : MethodName := ⟨RX12, "text", "(III)I"⟩
abbrev cX12_isText : ByteArray := prog_14_method_58_code
def yX12_isText : MethodName := ⟨RX12, "isText", "(I)Z"⟩
abbrev cX12_isClause : ByteArray := prog_14_method_59_code
def yX12_isClause : MethodName := ⟨RX12, "isClause", "(II)Z"⟩
abbrev cX12_yes : ByteArray := prog_14_method_60_code
def yX12_yes : MethodName := ⟨RX12, "yes", "(II)Z"⟩
abbrev cX12_reading : ByteArray := prog_14_method_61_code
def yX12_reading : MethodName := ⟨RX12, "reading", "(IIII)I"⟩
abbrev cX12_strikes : ByteArray := prog_14_method_62_code
def yX12_strikes : MethodName := ⟨RX12, "strikes", "(I)V"⟩
abbrev cX12_numberBy : ByteArray := prog_14_method_63_code
def yX12_numberBy : MethodName := ⟨RX12, "numberBy", "(IIII)I"⟩
abbrev cX12_binds : ByteArray := prog_14_method_64_code
def yX12_binds : MethodName := ⟨RX12, "binds", "(II)V"⟩
abbrev cX12_counts : ByteArray := prog_14_method_65_code
def yX12_counts : MethodName := ⟨RX12, "counts", "(III)I"⟩
abbrev cX12_isAsleep : ByteArray := prog_14_method_66_code
def yX12_isAsleep : MethodName := ⟨RX12, "isAsleep", "(II)Z"⟩
abbrev cX12_asked : ByteArray := prog_14_method_67_code
def yX12_asked : MethodName := ⟨RX12, "asked", "(IIII)I"⟩
abbrev cX12_caughtAtMost : ByteArray := prog_14_method_68_code
def yX12_caughtAtMost : MethodName := ⟨RX12, "caughtAtMost", "(IIII)I"⟩
abbrev cX12_number : ByteArray := prog_14_method_69_code
def yX12_number : MethodName := ⟨RX12, "number", "(III)I"⟩
abbrev cX12_isWork : ByteArray := prog_14_method_70_code
def yX12_isWork : MethodName := ⟨RX12, "isWork", "(I)Z"⟩
abbrev cX12_work : ByteArray := prog_14_method_71_code
def yX12_work : MethodName := ⟨RX12, "work", "(IIIIIII)I"⟩
abbrev cX12_tell : ByteArray := prog_14_method_72_code
def yX12_tell : MethodName := ⟨RX12, "tell", "(II)Z"⟩
abbrev cX12_study : ByteArray := prog_14_method_73_code
def yX12_study : MethodName := ⟨RX12, "study", "(II)Z"⟩
abbrev cX12_say : ByteArray := prog_14_method_74_code
def yX12_say : MethodName := ⟨RX12, "say", "(IIZ)Z"⟩
abbrev cX12_isConsented : ByteArray := prog_14_method_75_code
def yX12_isConsented : MethodName := ⟨RX12, "isConsented", "(II)Z"⟩
abbrev cX12_nearPlaces : ByteArray := prog_14_method_76_code
def yX12_nearPlaces : MethodName := ⟨RX12, "nearPlaces", "(III)I"⟩
abbrev cX12_othersNear : ByteArray := prog_14_method_77_code
def yX12_othersNear : MethodName := ⟨RX12, "othersNear", "(II)I"⟩
abbrev cX12_rankAt : ByteArray := prog_14_method_78_code
def yX12_rankAt : MethodName := ⟨RX12, "rankAt", "(I)I"⟩
abbrev cX12_valueOf : ByteArray := prog_14_method_79_code
def yX12_valueOf : MethodName := ⟨RX12, "valueOf", "(III)I"⟩
abbrev cX12_reckon : ByteArray := prog_14_method_80_code
def yX12_reckon : MethodName := ⟨RX12, "reckon", "(III)I"⟩
abbrev cX12_holds : ByteArray := prog_14_method_81_code
def yX12_holds : MethodName := ⟨RX12, "holds", "([IIIIII)I"⟩
abbrev cX12_clauseHolds : ByteArray := prog_14_method_82_code
def yX12_clauseHolds : MethodName := ⟨RX12, "clauseHolds", "(IIIZ)I"⟩
abbrev cX12_barOf : ByteArray := prog_14_method_83_code
def yX12_barOf : MethodName := ⟨RX12, "barOf", "(IIIZ)I"⟩
abbrev cX12_mayOn : ByteArray := prog_14_method_84_code
def yX12_mayOn : MethodName := ⟨RX12, "mayOn", "(IIZ)I"⟩
abbrev cX12_may : ByteArray := prog_14_method_85_code
def yX12_may : MethodName := ⟨RX12, "may", "(IIZ)I"⟩
abbrev cX12_why : ByteArray := prog_14_method_86_code
def yX12_why : MethodName := ⟨RX12, "why", "(IIZI)I"⟩
abbrev cX12_whose : ByteArray := prog_14_method_87_code
def yX12_whose : MethodName := ⟨RX12, "whose", "(II)I"⟩
abbrev cX12_isShip : ByteArray := prog_14_method_88_code
def yX12_isShip : MethodName := ⟨RX12, "isShip", "(I)Z"⟩
abbrev cX12_isSea : ByteArray := prog_14_method_89_code
def yX12_isSea : MethodName := ⟨RX12, "isSea", "(I)Z"⟩
abbrev cX12_ship : ByteArray := prog_14_method_90_code
def yX12_ship : MethodName := ⟨RX12, "ship", "(III)I"⟩
abbrev cX12_cover : ByteArray := prog_14_method_91_code
def yX12_cover : MethodName := ⟨RX12, "cover", "(III)Z"⟩
abbrev cX12_sea : ByteArray := prog_14_method_92_code
def yX12_sea : MethodName := ⟨RX12, "sea", "(II)Z"⟩
abbrev cX12_voyage : ByteArray := prog_14_method_93_code
def yX12_voyage : MethodName := ⟨RX12, "voyage", "(IIII)Z"⟩
abbrev cX12_turnsBack : ByteArray := prog_14_method_94_code
def yX12_turnsBack : MethodName := ⟨RX12, "turnsBack", "(I)V"⟩
abbrev cX12_arrives : ByteArray := prog_14_method_95_code
def yX12_arrives : MethodName := ⟨RX12, "arrives", "(I)V"⟩
abbrev cX12_waits : ByteArray := prog_14_method_96_code
def yX12_waits : MethodName := ⟨RX12, "waits", "(I)V"⟩
abbrev cX12_shipGoes : ByteArray := prog_14_method_97_code
def yX12_shipGoes : MethodName := ⟨RX12, "shipGoes", "(I)V"⟩
abbrev cX12_goesOver : ByteArray := prog_14_method_98_code
def yX12_goesOver : MethodName := ⟨RX12, "goesOver", "(I)V"⟩
abbrev cX12_sledge : ByteArray := prog_14_method_99_code
def yX12_sledge : MethodName := ⟨RX12, "sledge", "(III)I"⟩
abbrev cX12_sledgeGoes : ByteArray := prog_14_method_100_code
def yX12_sledgeGoes : MethodName := ⟨RX12, "sledgeGoes", "(I)V"⟩
abbrev cX12_people : ByteArray := prog_14_method_101_code
def yX12_people : MethodName := ⟨RX12, "people", "(II)Z"⟩
abbrev cX12_hide : ByteArray := prog_14_method_102_code
def yX12_hide : MethodName := ⟨RX12, "hide", "(II)Z"⟩
abbrev cX12_declare : ByteArray := prog_14_method_103_code
def yX12_declare : MethodName := ⟨RX12, "declare", "(III)Z"⟩
abbrev cX12_visit : ByteArray := prog_14_method_104_code
def yX12_visit : MethodName := ⟨RX12, "visit", "(II)I"⟩
abbrev cX12_seen : ByteArray := prog_14_method_105_code
def yX12_seen : MethodName := ⟨RX12, "seen", "(II)I"⟩
abbrev cX12_worksGo : ByteArray := prog_14_method_106_code
def yX12_worksGo : MethodName := ⟨RX12, "worksGo", "()V"⟩
abbrev cX12_sounds : ByteArray := prog_14_method_107_code
def yX12_sounds : MethodName := ⟨RX12, "sounds", "(I)V"⟩
abbrev cX12_goesHome : ByteArray := prog_14_method_108_code
def yX12_goesHome : MethodName := ⟨RX12, "goesHome", "(I)V"⟩
abbrev cX12_burns : ByteArray := prog_14_method_109_code
def yX12_burns : MethodName := ⟨RX12, "burns", "(I)V"⟩
abbrev cX12_loses : ByteArray := prog_14_method_110_code
def yX12_loses : MethodName := ⟨RX12, "loses", "(I)V"⟩
abbrev cX12_flows : ByteArray := prog_14_method_111_code
def yX12_flows : MethodName := ⟨RX12, "flows", "(I)V"⟩
abbrev cX12_day : ByteArray := prog_14_method_112_code
def yX12_day : MethodName := ⟨RX12, "day", "()I"⟩
abbrev cX12_sound : ByteArray := prog_14_method_113_code
def yX12_sound : MethodName := ⟨RX12, "sound", "(III)Z"⟩
abbrev cX12_sureOf : ByteArray := prog_14_method_114_code
def yX12_sureOf : MethodName := ⟨RX12, "sureOf", "(I)I"⟩
abbrev cX12_sure : ByteArray := prog_14_method_115_code
def yX12_sure : MethodName := ⟨RX12, "sure", "(I)I"⟩
abbrev cX12_drill : ByteArray := prog_14_method_116_code
def yX12_drill : MethodName := ⟨RX12, "drill", "(II)I"⟩
abbrev cX12_speed : ByteArray := prog_14_method_117_code
def yX12_speed : MethodName := ⟨RX12, "speed", "(II)Z"⟩
abbrev cX12_goesDown : ByteArray := prog_14_method_118_code
def yX12_goesDown : MethodName := ⟨RX12, "goesDown", "(I)V"⟩
abbrev cX12_birds : ByteArray := prog_14_method_119_code
def yX12_birds : MethodName := ⟨RX12, "birds", "(III)Z"⟩
abbrev cX12_part : ByteArray := prog_14_method_120_code
def yX12_part : MethodName := ⟨RX12, "part", "(II)I"⟩
abbrev cX12_loss : ByteArray := prog_14_method_121_code
def yX12_loss : MethodName := ⟨RX12, "loss", "(IIIII)I"⟩
abbrev cX12_noise : ByteArray := prog_14_method_122_code
def yX12_noise : MethodName := ⟨RX12, "noise", "(II)I"⟩
abbrev cX12_caught : ByteArray := prog_14_method_123_code
def yX12_caught : MethodName := ⟨RX12, "caught", "(IIIII)I"⟩
abbrev cX12_isAhead : ByteArray := prog_14_method_124_code
def yX12_isAhead : MethodName := ⟨RX12, "isAhead", "(II)Z"⟩
abbrev cX12_over : ByteArray := prog_14_method_125_code
def yX12_over : MethodName := ⟨RX12, "over", "()I"⟩
abbrev cX12_isDoubt : ByteArray := prog_14_method_126_code
def yX12_isDoubt : MethodName := ⟨RX12, "isDoubt", "(II)Z"⟩
abbrev cX12_doubt : ByteArray := prog_14_method_127_code
def yX12_doubt : MethodName := ⟨RX12, "doubt", "(I)I"⟩
abbrev cX12_word : ByteArray := prog_14_method_128_code
def yX12_word : MethodName := ⟨RX12, "word", "(I)I"⟩
abbrev cX12_isWord : ByteArray := prog_14_method_129_code
def yX12_isWord : MethodName := ⟨RX12, "isWord", "(I)Z"⟩
abbrev cX12_asks : ByteArray := prog_14_method_130_code
def yX12_asks : MethodName := ⟨RX12, "asks", "(III)Z"⟩
abbrev cX12_isBlocked : ByteArray := prog_14_method_131_code
def yX12_isBlocked : MethodName := ⟨RX12, "isBlocked", "(II)Z"⟩
abbrev cX12_blocks : ByteArray := prog_14_method_132_code
def yX12_blocks : MethodName := ⟨RX12, "blocks", "(I)I"⟩
abbrev cX12_worthOf : ByteArray := prog_14_method_133_code
def yX12_worthOf : MethodName := ⟨RX12, "worthOf", "(I)I"⟩
abbrev cX12_bits : ByteArray := prog_14_method_134_code
def yX12_bits : MethodName := ⟨RX12, "bits", "(I)I"⟩
abbrev cX12_best : ByteArray := prog_14_method_135_code
def yX12_best : MethodName := ⟨RX12, "best", "()I"⟩
abbrev cX12_stop : ByteArray := prog_14_method_136_code
def yX12_stop : MethodName := ⟨RX12, "stop", "(II)I"⟩
abbrev cX12_open : ByteArray := prog_14_method_137_code
def yX12_open : MethodName := ⟨RX12, "open", "(IIII)Z"⟩
abbrev cX12_endOf : ByteArray := prog_14_method_138_code
def yX12_endOf : MethodName := ⟨RX12, "endOf", "(II)I"⟩
abbrev cX12_worstEnd : ByteArray := prog_14_method_139_code
def yX12_worstEnd : MethodName := ⟨RX12, "worstEnd", "(I)I"⟩
abbrev cX12_nextOrder : ByteArray := prog_14_method_140_code
def yX12_nextOrder : MethodName := ⟨RX12, "nextOrder", "()Z"⟩
abbrev cX12_swaps : ByteArray := prog_14_method_141_code
def yX12_swaps : MethodName := ⟨RX12, "swaps", "(II)V"⟩
abbrev cX12_plans : ByteArray := prog_14_method_142_code
def yX12_plans : MethodName := ⟨RX12, "plans", "(III)V"⟩
abbrev cX12_plan : ByteArray := prog_14_method_143_code
def yX12_plan : MethodName := ⟨RX12, "plan", "(III)I"⟩
abbrev cX12_planned : ByteArray := prog_14_method_144_code
def yX12_planned : MethodName := ⟨RX12, "planned", "(IIII)I"⟩
abbrev cX12_report : ByteArray := prog_14_method_145_code
def yX12_report : MethodName := ⟨RX12, "report", "(IIIZ)Z"⟩
abbrev cX12_known : ByteArray := prog_14_method_146_code
def yX12_known : MethodName := ⟨RX12, "known", "(III)I"⟩
abbrev cX12_tapeNumber : ByteArray := prog_14_method_147_code
def yX12_tapeNumber : MethodName := ⟨RX12, "tapeNumber", "(I)I"⟩
abbrev cX12_check : ByteArray := prog_14_method_148_code
def yX12_check : MethodName := ⟨RX12, "check", "(I)I"⟩
abbrev cX12_look : ByteArray := prog_14_method_149_code
def yX12_look : MethodName := ⟨RX12, "look", "(II)I"⟩
abbrev cX12_lookAt : ByteArray := prog_14_method_150_code
def yX12_lookAt : MethodName := ⟨RX12, "lookAt", "(II)I"⟩
abbrev cX12_at : ByteArray := prog_14_method_151_code
def yX12_at : MethodName := ⟨RX12, "at", "(II)I"⟩
abbrev cX12_about : ByteArray := prog_14_method_152_code
def yX12_about : MethodName := ⟨RX12, "about", "(II)I"⟩
abbrev cX12_sum : ByteArray := prog_14_method_153_code
def yX12_sum : MethodName := ⟨RX12, "sum", "(I)J"⟩
abbrev cX12_count : ByteArray := prog_14_method_154_code
def yX12_count : MethodName := ⟨RX12, "count", "(I)I"⟩
def RJ11 : String := "java/lang/Character"
def TJ11 : u_T := fun k => match k with
  | _ => ("", "", "", false)
def tyJ11 : Nat → FieldType := fun k => match k with
  | _ => .int
abbrev wsJ110 : List Cond := u_ws RJ11 TJ11 0
theorem nmJ11 : ∀ a, a < 0 → ∀ b, b < 0 → a ≠ b → (TJ11 a).2.1 ≠ (TJ11 b).2.1 := by decide +kernel
theorem tyJ11_ok : ∀ k, k < 0 → parseFieldDescriptor (TJ11 k).2.2.1 = some (tyJ11 k) := by decide +kernel
abbrev cJ11_isValidCodePoint_9a6ad : ByteArray := prog_15_method_11_code
def yJ11_isValidCodePoint_9a6ad : MethodName := ⟨RJ11, "isValidCodePoint", "(I)Z"⟩
abbrev cJ11_highSurrogate_5068e : ByteArray := prog_15_method_28_code
def yJ11_highSurrogate_5068e : MethodName := ⟨RJ11, "highSurrogate", "(I)C"⟩
abbrev cJ11_lowSurrogate_5068e : ByteArray := prog_15_method_29_code
def yJ11_lowSurrogate_5068e : MethodName := ⟨RJ11, "lowSurrogate", "(I)C"⟩
def RJ6 : String := "java/lang/Integer"
def TJ6 : u_T := fun k => match k with
  | _ => ("", "", "", false)
def tyJ6 : Nat → FieldType := fun k => match k with
  | _ => .int
abbrev wsJ60 : List Cond := u_ws RJ6 TJ6 0
theorem nmJ6 : ∀ a, a < 0 → ∀ b, b < 0 → a ≠ b → (TJ6 a).2.1 ≠ (TJ6 b).2.1 := by decide +kernel
theorem tyJ6_ok : ∀ k, k < 0 → parseFieldDescriptor (TJ6 k).2.2.1 = some (tyJ6 k) := by decide +kernel
abbrev cJ6_bitCount_0f7a4 : ByteArray := prog_16_method_49_code
def yJ6_bitCount_0f7a4 : MethodName := ⟨RJ6, "bitCount", "(I)I"⟩
def RJ9 : String := "java/lang/Math"
def TJ9 : u_T := fun k => match k with
  | _ => ("", "", "", false)
def tyJ9 : Nat → FieldType := fun k => match k with
  | _ => .int
abbrev wsJ90 : List Cond := u_ws RJ9 TJ9 0
theorem nmJ9 : ∀ a, a < 0 → ∀ b, b < 0 → a ≠ b → (TJ9 a).2.1 ≠ (TJ9 b).2.1 := by decide +kernel
theorem tyJ9_ok : ∀ k, k < 0 → parseFieldDescriptor (TJ9 k).2.2.1 = some (tyJ9 k) := by decide +kernel
abbrev cJ9_abs_0f7a4 : ByteArray := prog_17_method_59_code
def yJ9_abs_0f7a4 : MethodName := ⟨RJ9, "abs", "(I)I"⟩
abbrev cJ9_max_7cf53 : ByteArray := prog_17_method_65_code
def yJ9_max_7cf53 : MethodName := ⟨RJ9, "max", "(II)I"⟩
abbrev cJ9_min_7cf53 : ByteArray := prog_17_method_69_code
def yJ9_min_7cf53 : MethodName := ⟨RJ9, "min", "(II)I"⟩
def RJ0 : String := "java/lang/String"
def TJ0 : u_T := fun k => match k with
  | _ => ("", "", "", false)
def tyJ0 : Nat → FieldType := fun k => match k with
  | _ => .int
abbrev wsJ00 : List Cond := u_ws RJ0 TJ0 0
theorem nmJ0 : ∀ a, a < 0 → ∀ b, b < 0 → a ≠ b → (TJ0 a).2.1 ≠ (TJ0 b).2.1 := by decide +kernel
theorem tyJ0_ok : ∀ k, k < 0 → parseFieldDescriptor (TJ0 k).2.2.1 = some (tyJ0 k) := by decide +kernel
abbrev cJ0_length_8abf5 : ByteArray := prog_18_method_54_code
def yJ0_length_8abf5 : MethodName := ⟨RJ0, "length", "()I"⟩
abbrev cJ0_indexOf_0f7a4 : ByteArray := prog_18_method_79_code
def yJ0_indexOf_0f7a4 : MethodName := ⟨RJ0, "indexOf", "(I)I"⟩
abbrev cJ0_indexOf_7cf53 : ByteArray := prog_18_method_80_code
def yJ0_indexOf_7cf53 : MethodName := ⟨RJ0, "indexOf", "(II)I"⟩
abbrev cJ0_coder_7d493 : ByteArray := prog_18_method_152_code
def yJ0_coder_7d493 : MethodName := ⟨RJ0, "coder", "()B"⟩
abbrev cJ0_isLatin1_aae02 : ByteArray := prog_18_method_154_code
def yJ0_isLatin1_aae02 : MethodName := ⟨RJ0, "isLatin1", "()Z"⟩
abbrev cJ0_checkBoundsBeginEnd_23922 : ByteArray := prog_18_method_158_code
def yJ0_checkBoundsBeginEnd_23922 : MethodName := ⟨RJ0, "checkBoundsBeginEnd", "(III)V"⟩
def RJ1 : String := "java/lang/StringLatin1"
def TJ1 : u_T := fun k => match k with
  | _ => ("", "", "", false)
def tyJ1 : Nat → FieldType := fun k => match k with
  | _ => .int
abbrev wsJ10 : List Cond := u_ws RJ1 TJ1 0
theorem nmJ1 : ∀ a, a < 0 → ∀ b, b < 0 → a ≠ b → (TJ1 a).2.1 ≠ (TJ1 b).2.1 := by decide +kernel
theorem tyJ1_ok : ∀ k, k < 0 → parseFieldDescriptor (TJ1 k).2.2.1 = some (tyJ1 k) := by decide +kernel
abbrev cJ1_canEncode_9a6ad : ByteArray := prog_19_method_4_code
def yJ1_canEncode_9a6ad : MethodName := ⟨RJ1, "canEncode", "(I)Z"⟩
abbrev cJ1_indexOf_4cfef : ByteArray := prog_19_method_22_code
def yJ1_indexOf_4cfef : MethodName := ⟨RJ1, "indexOf", "([BIII)I"⟩
abbrev cJ1_indexOfChar_4cfef : ByteArray := prog_19_method_23_code
def yJ1_indexOfChar_4cfef : MethodName := ⟨RJ1, "indexOfChar", "([BIII)I"⟩
def RJ2 : String := "java/lang/StringUTF16"
def TJ2 : u_T := fun k => match k with
  | _ => ("", "", "", false)
def tyJ2 : Nat → FieldType := fun k => match k with
  | _ => .int
abbrev wsJ20 : List Cond := u_ws RJ2 TJ2 0
theorem nmJ2 : ∀ a, a < 0 → ∀ b, b < 0 → a ≠ b → (TJ2 a).2.1 ≠ (TJ2 b).2.1 := by decide +kernel
theorem tyJ2_ok : ∀ k, k < 0 → parseFieldDescriptor (TJ2 k).2.2.1 = some (tyJ2 k) := by decide +kernel
abbrev cJ2_getChar_3b067 : ByteArray := prog_20_method_5_code
def yJ2_getChar_3b067 : MethodName := ⟨RJ2, "getChar", "([BI)C"⟩
abbrev cJ2_length_9d52b : ByteArray := prog_20_method_6_code
def yJ2_length_9d52b : MethodName := ⟨RJ2, "length", "([B)I"⟩
abbrev cJ2_indexOf_4cfef : ByteArray := prog_20_method_40_code
def yJ2_indexOf_4cfef : MethodName := ⟨RJ2, "indexOf", "([BIII)I"⟩
abbrev cJ2_indexOfChar_4cfef : ByteArray := prog_20_method_47_code
def yJ2_indexOfChar_4cfef : MethodName := ⟨RJ2, "indexOfChar", "([BIII)I"⟩
abbrev cJ2_indexOfCharUnsafe_4cfef : ByteArray := prog_20_method_48_code
def yJ2_indexOfCharUnsafe_4cfef : MethodName := ⟨RJ2, "indexOfCharUnsafe", "([BIII)I"⟩
abbrev cJ2_indexOfSupplementary_4cfef : ByteArray := prog_20_method_49_code
def yJ2_indexOfSupplementary_4cfef : MethodName := ⟨RJ2, "indexOfSupplementary", "([BIII)I"⟩
abbrev cJ2_checkBoundsBeginEnd_d044e : ByteArray := prog_20_method_93_code
def yJ2_checkBoundsBeginEnd_d044e : MethodName := ⟨RJ2, "checkBoundsBeginEnd", "(II[B)V"⟩
def RJ3 : String := "jdk/internal/util/Preconditions"
def TJ3 : u_T := fun k => match k with
  | _ => ("", "", "", false)
def tyJ3 : Nat → FieldType := fun k => match k with
  | _ => .int
abbrev wsJ30 : List Cond := u_ws RJ3 TJ3 0
theorem nmJ3 : ∀ a, a < 0 → ∀ b, b < 0 → a ≠ b → (TJ3 a).2.1 ≠ (TJ3 b).2.1 := by decide +kernel
theorem tyJ3_ok : ∀ k, k < 0 → parseFieldDescriptor (TJ3 k).2.2.1 = some (tyJ3 k) := by decide +kernel
abbrev cJ3_checkFromToIndex_8c36e : ByteArray := prog_21_method_12_code
def yJ3_checkFromToIndex_8c36e : MethodName := ⟨RJ3, "checkFromToIndex", "(IIILjava/util/function/BiFunction;)I"⟩
def RL : String := "IceTreatyLaw"
abbrev cL_law : ByteArray := code
def yL_law : MethodName := ⟨RL, "law", "([I)Z"⟩
