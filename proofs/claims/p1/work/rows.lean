section
-- ===== PART A: goes FIRST, ahead of the names: the tables' words, and 'selects' of the private methods out of them =====
/-- a private method of a class that the tables say can be made, by its rows of tables_1 -/
def lw_okq (q : MethodName × Nat) : Prop := (q.1.cls ≠ "java/lang/invoke/MethodHandle" ∧ q.1.cls ≠ "java/lang/invoke/VarHandle") ∧ Cond.instantiable q.1.cls q.2 ∈ tables_1 ∧ Cond.privateMethod q.1 ∈ tables_1 ∧ Cond.instanceMethod q.1 ∈ tables_1
theorem lw_p0 : lw_okq (⟨"IceTreaty", "partyOf", "(I)LIceTreaty$Party;"⟩, 20) := ⟨⟨by decide +kernel, by decide +kernel⟩, List.mem_of_getElem? (i := 22) (by decide +kernel), List.mem_of_getElem? (i := 358) (by decide +kernel), List.mem_of_getElem? (i := 359) (by decide +kernel)⟩
theorem lw_p1 : lw_okq (⟨"IceTreaty$Land", "rowOf", "(I)I"⟩, 13) := ⟨⟨by decide +kernel, by decide +kernel⟩, List.mem_of_getElem? (i := 30) (by decide +kernel), List.mem_of_getElem? (i := 367) (by decide +kernel), List.mem_of_getElem? (i := 368) (by decide +kernel)⟩
theorem lw_p2 : lw_okq (⟨"IceTreaty$Land", "columnOf", "(I)I"⟩, 13) := ⟨⟨by decide +kernel, by decide +kernel⟩, List.mem_of_getElem? (i := 30) (by decide +kernel), List.mem_of_getElem? (i := 371) (by decide +kernel), List.mem_of_getElem? (i := 372) (by decide +kernel)⟩
theorem lw_p3 : lw_okq (⟨"IceTreaty", "claimsAreAsleep", "(ILIceTreaty$Party;)Z"⟩, 20) := ⟨⟨by decide +kernel, by decide +kernel⟩, List.mem_of_getElem? (i := 22) (by decide +kernel), List.mem_of_getElem? (i := 375) (by decide +kernel), List.mem_of_getElem? (i := 376) (by decide +kernel)⟩
theorem lw_p4 : lw_okq (⟨"IceTreaty$Law", "binds", "(ILIceTreaty$Party;II)Z"⟩, 13) := ⟨⟨by decide +kernel, by decide +kernel⟩, List.mem_of_getElem? (i := 91) (by decide +kernel), List.mem_of_getElem? (i := 383) (by decide +kernel), List.mem_of_getElem? (i := 384) (by decide +kernel)⟩
theorem lw_p5 : lw_okq (⟨"IceTreaty$Law", "weighTexts", "(II)V"⟩, 13) := ⟨⟨by decide +kernel, by decide +kernel⟩, List.mem_of_getElem? (i := 91) (by decide +kernel), List.mem_of_getElem? (i := 398) (by decide +kernel), List.mem_of_getElem? (i := 399) (by decide +kernel)⟩
theorem lw_p6 : lw_okq (⟨"IceTreaty$Law", "strike", "(ILIceTreaty$Table;I)V"⟩, 13) := ⟨⟨by decide +kernel, by decide +kernel⟩, List.mem_of_getElem? (i := 91) (by decide +kernel), List.mem_of_getElem? (i := 404) (by decide +kernel), List.mem_of_getElem? (i := 405) (by decide +kernel)⟩
theorem lw_p7 : lw_okq (⟨"IceTreaty$Law", "isCounting", "(II)Z"⟩, 13) := ⟨⟨by decide +kernel, by decide +kernel⟩, List.mem_of_getElem? (i := 91) (by decide +kernel), List.mem_of_getElem? (i := 421) (by decide +kernel), List.mem_of_getElem? (i := 422) (by decide +kernel)⟩
theorem lw_p8 : lw_okq (⟨"IceTreaty", "settle", "(LIceTreaty$Place;)I"⟩, 20) := ⟨⟨by decide +kernel, by decide +kernel⟩, List.mem_of_getElem? (i := 22) (by decide +kernel), List.mem_of_getElem? (i := 498) (by decide +kernel), List.mem_of_getElem? (i := 499) (by decide +kernel)⟩
theorem lw_p9 : lw_okq (⟨"IceTreaty", "placeOf", "(II)LIceTreaty$Place;"⟩, 20) := ⟨⟨by decide +kernel, by decide +kernel⟩, List.mem_of_getElem? (i := 22) (by decide +kernel), List.mem_of_getElem? (i := 506) (by decide +kernel), List.mem_of_getElem? (i := 507) (by decide +kernel)⟩
theorem lw_p10 : lw_okq (⟨"IceTreaty", "anyPlace", "(I)LIceTreaty$Place;"⟩, 20) := ⟨⟨by decide +kernel, by decide +kernel⟩, List.mem_of_getElem? (i := 22) (by decide +kernel), List.mem_of_getElem? (i := 510) (by decide +kernel), List.mem_of_getElem? (i := 511) (by decide +kernel)⟩
theorem lw_p11 : lw_okq (⟨"IceTreaty", "tally", "(II)V"⟩, 20) := ⟨⟨by decide +kernel, by decide +kernel⟩, List.mem_of_getElem? (i := 22) (by decide +kernel), List.mem_of_getElem? (i := 524) (by decide +kernel), List.mem_of_getElem? (i := 525) (by decide +kernel)⟩
theorem lw_p12 : lw_okq (⟨"IceTreaty", "standingStation", "(I)LIceTreaty$Place;"⟩, 20) := ⟨⟨by decide +kernel, by decide +kernel⟩, List.mem_of_getElem? (i := 22) (by decide +kernel), List.mem_of_getElem? (i := 532) (by decide +kernel), List.mem_of_getElem? (i := 533) (by decide +kernel)⟩
theorem lw_p13 : lw_okq (⟨"IceTreaty", "feedNumber", "(I)V"⟩, 20) := ⟨⟨by decide +kernel, by decide +kernel⟩, List.mem_of_getElem? (i := 22) (by decide +kernel), List.mem_of_getElem? (i := 548) (by decide +kernel), List.mem_of_getElem? (i := 549) (by decide +kernel)⟩
theorem lw_p14 : lw_okq (⟨"IceTreaty$Scribe", "clause", "()V"⟩, 7) := ⟨⟨by decide +kernel, by decide +kernel⟩, List.mem_of_getElem? (i := 600) (by decide +kernel), List.mem_of_getElem? (i := 633) (by decide +kernel), List.mem_of_getElem? (i := 634) (by decide +kernel)⟩
theorem lw_p15 : lw_okq (⟨"IceTreaty$Scribe", "next", "()I"⟩, 7) := ⟨⟨by decide +kernel, by decide +kernel⟩, List.mem_of_getElem? (i := 600) (by decide +kernel), List.mem_of_getElem? (i := 637) (by decide +kernel), List.mem_of_getElem? (i := 638) (by decide +kernel)⟩
def lw_privs_1 : List (MethodName × Nat) := [(⟨"IceTreaty", "partyOf", "(I)LIceTreaty$Party;"⟩, 20), (⟨"IceTreaty$Land", "rowOf", "(I)I"⟩, 13), (⟨"IceTreaty$Land", "columnOf", "(I)I"⟩, 13), (⟨"IceTreaty", "claimsAreAsleep", "(ILIceTreaty$Party;)Z"⟩, 20), (⟨"IceTreaty$Law", "binds", "(ILIceTreaty$Party;II)Z"⟩, 13), (⟨"IceTreaty$Law", "weighTexts", "(II)V"⟩, 13), (⟨"IceTreaty$Law", "strike", "(ILIceTreaty$Table;I)V"⟩, 13), (⟨"IceTreaty$Law", "isCounting", "(II)Z"⟩, 13), (⟨"IceTreaty", "settle", "(LIceTreaty$Place;)I"⟩, 20), (⟨"IceTreaty", "placeOf", "(II)LIceTreaty$Place;"⟩, 20), (⟨"IceTreaty", "anyPlace", "(I)LIceTreaty$Place;"⟩, 20), (⟨"IceTreaty", "tally", "(II)V"⟩, 20), (⟨"IceTreaty", "standingStation", "(I)LIceTreaty$Place;"⟩, 20), (⟨"IceTreaty", "feedNumber", "(I)V"⟩, 20), (⟨"IceTreaty$Scribe", "clause", "()V"⟩, 7), (⟨"IceTreaty$Scribe", "next", "()I"⟩, 7)]
theorem lw_r1 : ∀ q ∈ lw_privs_1, lw_okq q := List.forall_mem_cons.mpr ⟨lw_p0, List.forall_mem_cons.mpr ⟨lw_p1, List.forall_mem_cons.mpr ⟨lw_p2, List.forall_mem_cons.mpr ⟨lw_p3, List.forall_mem_cons.mpr ⟨lw_p4, List.forall_mem_cons.mpr ⟨lw_p5, List.forall_mem_cons.mpr ⟨lw_p6, List.forall_mem_cons.mpr ⟨lw_p7, List.forall_mem_cons.mpr ⟨lw_p8, List.forall_mem_cons.mpr ⟨lw_p9, List.forall_mem_cons.mpr ⟨lw_p10, List.forall_mem_cons.mpr ⟨lw_p11, List.forall_mem_cons.mpr ⟨lw_p12, List.forall_mem_cons.mpr ⟨lw_p13, List.forall_mem_cons.mpr ⟨lw_p14, List.forall_mem_cons.mpr ⟨lw_p15, fun _ h => absurd h List.not_mem_nil⟩⟩⟩⟩⟩⟩⟩⟩⟩⟩⟩⟩⟩⟩⟩⟩
theorem lw_p16 : lw_okq (⟨"IceTreaty$Scribe", "refuse", "(II)V"⟩, 7) := ⟨⟨by decide +kernel, by decide +kernel⟩, List.mem_of_getElem? (i := 600) (by decide +kernel), List.mem_of_getElem? (i := 644) (by decide +kernel), List.mem_of_getElem? (i := 645) (by decide +kernel)⟩
theorem lw_p17 : lw_okq (⟨"IceTreaty$Scribe", "digits", "(I)I"⟩, 7) := ⟨⟨by decide +kernel, by decide +kernel⟩, List.mem_of_getElem? (i := 600) (by decide +kernel), List.mem_of_getElem? (i := 649) (by decide +kernel), List.mem_of_getElem? (i := 650) (by decide +kernel)⟩
theorem lw_p18 : lw_okq (⟨"IceTreaty$Scribe", "set", "(II)V"⟩, 7) := ⟨⟨by decide +kernel, by decide +kernel⟩, List.mem_of_getElem? (i := 600) (by decide +kernel), List.mem_of_getElem? (i := 656) (by decide +kernel), List.mem_of_getElem? (i := 657) (by decide +kernel)⟩
theorem lw_p19 : lw_okq (⟨"IceTreaty$Scribe", "take", "(I)V"⟩, 7) := ⟨⟨by decide +kernel, by decide +kernel⟩, List.mem_of_getElem? (i := 600) (by decide +kernel), List.mem_of_getElem? (i := 661) (by decide +kernel), List.mem_of_getElem? (i := 662) (by decide +kernel)⟩
theorem lw_p20 : lw_okq (⟨"IceTreaty$Scribe", "condition", "()V"⟩, 7) := ⟨⟨by decide +kernel, by decide +kernel⟩, List.mem_of_getElem? (i := 600) (by decide +kernel), List.mem_of_getElem? (i := 665) (by decide +kernel), List.mem_of_getElem? (i := 666) (by decide +kernel)⟩
theorem lw_p21 : lw_okq (⟨"IceTreaty$Scribe", "deepen", "(I)V"⟩, 7) := ⟨⟨by decide +kernel, by decide +kernel⟩, List.mem_of_getElem? (i := 600) (by decide +kernel), List.mem_of_getElem? (i := 669) (by decide +kernel), List.mem_of_getElem? (i := 670) (by decide +kernel)⟩
theorem lw_p22 : lw_okq (⟨"IceTreaty$Scribe", "parts", "()V"⟩, 7) := ⟨⟨by decide +kernel, by decide +kernel⟩, List.mem_of_getElem? (i := 600) (by decide +kernel), List.mem_of_getElem? (i := 673) (by decide +kernel), List.mem_of_getElem? (i := 674) (by decide +kernel)⟩
theorem lw_p23 : lw_okq (⟨"IceTreaty$Scribe", "part", "()V"⟩, 7) := ⟨⟨by decide +kernel, by decide +kernel⟩, List.mem_of_getElem? (i := 600) (by decide +kernel), List.mem_of_getElem? (i := 677) (by decide +kernel), List.mem_of_getElem? (i := 678) (by decide +kernel)⟩
theorem lw_p24 : lw_okq (⟨"IceTreaty$Scribe", "piece", "()V"⟩, 7) := ⟨⟨by decide +kernel, by decide +kernel⟩, List.mem_of_getElem? (i := 600) (by decide +kernel), List.mem_of_getElem? (i := 681) (by decide +kernel), List.mem_of_getElem? (i := 682) (by decide +kernel)⟩
theorem lw_p25 : lw_okq (⟨"IceTreaty$Scribe", "negation", "()V"⟩, 7) := ⟨⟨by decide +kernel, by decide +kernel⟩, List.mem_of_getElem? (i := 600) (by decide +kernel), List.mem_of_getElem? (i := 685) (by decide +kernel), List.mem_of_getElem? (i := 686) (by decide +kernel)⟩
theorem lw_p26 : lw_okq (⟨"IceTreaty$Scribe", "terms", "()V"⟩, 7) := ⟨⟨by decide +kernel, by decide +kernel⟩, List.mem_of_getElem? (i := 600) (by decide +kernel), List.mem_of_getElem? (i := 694) (by decide +kernel), List.mem_of_getElem? (i := 695) (by decide +kernel)⟩
theorem lw_p27 : lw_okq (⟨"IceTreaty$Scribe", "factors", "()V"⟩, 7) := ⟨⟨by decide +kernel, by decide +kernel⟩, List.mem_of_getElem? (i := 600) (by decide +kernel), List.mem_of_getElem? (i := 698) (by decide +kernel), List.mem_of_getElem? (i := 699) (by decide +kernel)⟩
theorem lw_p28 : lw_okq (⟨"IceTreaty$Scribe", "factor", "()V"⟩, 7) := ⟨⟨by decide +kernel, by decide +kernel⟩, List.mem_of_getElem? (i := 600) (by decide +kernel), List.mem_of_getElem? (i := 702) (by decide +kernel), List.mem_of_getElem? (i := 703) (by decide +kernel)⟩
theorem lw_p29 : lw_okq (⟨"IceTreaty$Scribe", "comparison", "(I)I"⟩, 7) := ⟨⟨by decide +kernel, by decide +kernel⟩, List.mem_of_getElem? (i := 600) (by decide +kernel), List.mem_of_getElem? (i := 795) (by decide +kernel), List.mem_of_getElem? (i := 796) (by decide +kernel)⟩
theorem lw_p30 : lw_okq (⟨"IceTreaty", "workOf", "(I)LIceTreaty$Work;"⟩, 20) := ⟨⟨by decide +kernel, by decide +kernel⟩, List.mem_of_getElem? (i := 22) (by decide +kernel), List.mem_of_getElem? (i := 951) (by decide +kernel), List.mem_of_getElem? (i := 952) (by decide +kernel)⟩
theorem lw_p31 : lw_okq (⟨"IceTreaty", "judge", "(LIceTreaty$Work;IZ)I"⟩, 20) := ⟨⟨by decide +kernel, by decide +kernel⟩, List.mem_of_getElem? (i := 22) (by decide +kernel), List.mem_of_getElem? (i := 967) (by decide +kernel), List.mem_of_getElem? (i := 968) (by decide +kernel)⟩
def lw_privs_2 : List (MethodName × Nat) := [(⟨"IceTreaty$Scribe", "refuse", "(II)V"⟩, 7), (⟨"IceTreaty$Scribe", "digits", "(I)I"⟩, 7), (⟨"IceTreaty$Scribe", "set", "(II)V"⟩, 7), (⟨"IceTreaty$Scribe", "take", "(I)V"⟩, 7), (⟨"IceTreaty$Scribe", "condition", "()V"⟩, 7), (⟨"IceTreaty$Scribe", "deepen", "(I)V"⟩, 7), (⟨"IceTreaty$Scribe", "parts", "()V"⟩, 7), (⟨"IceTreaty$Scribe", "part", "()V"⟩, 7), (⟨"IceTreaty$Scribe", "piece", "()V"⟩, 7), (⟨"IceTreaty$Scribe", "negation", "()V"⟩, 7), (⟨"IceTreaty$Scribe", "terms", "()V"⟩, 7), (⟨"IceTreaty$Scribe", "factors", "()V"⟩, 7), (⟨"IceTreaty$Scribe", "factor", "()V"⟩, 7), (⟨"IceTreaty$Scribe", "comparison", "(I)I"⟩, 7), (⟨"IceTreaty", "workOf", "(I)LIceTreaty$Work;"⟩, 20), (⟨"IceTreaty", "judge", "(LIceTreaty$Work;IZ)I"⟩, 20)]
theorem lw_r2 : ∀ q ∈ lw_privs_2, lw_okq q := List.forall_mem_cons.mpr ⟨lw_p16, List.forall_mem_cons.mpr ⟨lw_p17, List.forall_mem_cons.mpr ⟨lw_p18, List.forall_mem_cons.mpr ⟨lw_p19, List.forall_mem_cons.mpr ⟨lw_p20, List.forall_mem_cons.mpr ⟨lw_p21, List.forall_mem_cons.mpr ⟨lw_p22, List.forall_mem_cons.mpr ⟨lw_p23, List.forall_mem_cons.mpr ⟨lw_p24, List.forall_mem_cons.mpr ⟨lw_p25, List.forall_mem_cons.mpr ⟨lw_p26, List.forall_mem_cons.mpr ⟨lw_p27, List.forall_mem_cons.mpr ⟨lw_p28, List.forall_mem_cons.mpr ⟨lw_p29, List.forall_mem_cons.mpr ⟨lw_p30, List.forall_mem_cons.mpr ⟨lw_p31, fun _ h => absurd h List.not_mem_nil⟩⟩⟩⟩⟩⟩⟩⟩⟩⟩⟩⟩⟩⟩⟩⟩
theorem lw_p32 : lw_okq (⟨"IceTreaty", "tellLetters", "(LIceTreaty$Work;LIceTreaty$Party;I)V"⟩, 20) := ⟨⟨by decide +kernel, by decide +kernel⟩, List.mem_of_getElem? (i := 22) (by decide +kernel), List.mem_of_getElem? (i := 971) (by decide +kernel), List.mem_of_getElem? (i := 972) (by decide +kernel)⟩
theorem lw_p33 : lw_okq (⟨"IceTreaty", "tellNeighbours", "(LIceTreaty$Work;)V"⟩, 20) := ⟨⟨by decide +kernel, by decide +kernel⟩, List.mem_of_getElem? (i := 22) (by decide +kernel), List.mem_of_getElem? (i := 979) (by decide +kernel), List.mem_of_getElem? (i := 980) (by decide +kernel)⟩
theorem lw_p34 : lw_okq (⟨"IceTreaty", "hasConsent", "(LIceTreaty$Work;I)Z"⟩, 20) := ⟨⟨by decide +kernel, by decide +kernel⟩, List.mem_of_getElem? (i := 22) (by decide +kernel), List.mem_of_getElem? (i := 996) (by decide +kernel), List.mem_of_getElem? (i := 997) (by decide +kernel)⟩
theorem lw_p35 : lw_okq (⟨"IceTreaty", "decidingOn", "(I)I"⟩, 20) := ⟨⟨by decide +kernel, by decide +kernel⟩, List.mem_of_getElem? (i := 22) (by decide +kernel), List.mem_of_getElem? (i := 1000) (by decide +kernel), List.mem_of_getElem? (i := 1001) (by decide +kernel)⟩
theorem lw_p36 : lw_okq (⟨"IceTreaty$Law", "readingOf", "(III)LIceTreaty$Text;"⟩, 13) := ⟨⟨by decide +kernel, by decide +kernel⟩, List.mem_of_getElem? (i := 91) (by decide +kernel), List.mem_of_getElem? (i := 1009) (by decide +kernel), List.mem_of_getElem? (i := 1010) (by decide +kernel)⟩
theorem lw_p37 : lw_okq (⟨"IceTreaty$Law", "holds", "(LIceTreaty$Text;I)I"⟩, 13) := ⟨⟨by decide +kernel, by decide +kernel⟩, List.mem_of_getElem? (i := 91) (by decide +kernel), List.mem_of_getElem? (i := 1013) (by decide +kernel), List.mem_of_getElem? (i := 1014) (by decide +kernel)⟩
theorem lw_p38 : lw_okq (⟨"IceTreaty$Law", "push", "(I)V"⟩, 13) := ⟨⟨by decide +kernel, by decide +kernel⟩, List.mem_of_getElem? (i := 91) (by decide +kernel), List.mem_of_getElem? (i := 1017) (by decide +kernel), List.mem_of_getElem? (i := 1018) (by decide +kernel)⟩
theorem lw_p39 : lw_okq (⟨"IceTreaty$Law", "pop", "()I"⟩, 13) := ⟨⟨by decide +kernel, by decide +kernel⟩, List.mem_of_getElem? (i := 91) (by decide +kernel), List.mem_of_getElem? (i := 1021) (by decide +kernel), List.mem_of_getElem? (i := 1022) (by decide +kernel)⟩
theorem lw_p40 : lw_okq (⟨"IceTreaty", "shipOf", "(I)LIceTreaty$Ship;"⟩, 20) := ⟨⟨by decide +kernel, by decide +kernel⟩, List.mem_of_getElem? (i := 22) (by decide +kernel), List.mem_of_getElem? (i := 1110) (by decide +kernel), List.mem_of_getElem? (i := 1111) (by decide +kernel)⟩
theorem lw_p41 : lw_okq (⟨"IceTreaty$Land", "nearestOpen", "()I"⟩, 13) := ⟨⟨by decide +kernel, by decide +kernel⟩, List.mem_of_getElem? (i := 30) (by decide +kernel), List.mem_of_getElem? (i := 1139) (by decide +kernel), List.mem_of_getElem? (i := 1140) (by decide +kernel)⟩
theorem lw_p42 : lw_okq (⟨"IceTreaty$Land", "step", "(II)V"⟩, 13) := ⟨⟨by decide +kernel, by decide +kernel⟩, List.mem_of_getElem? (i := 30) (by decide +kernel), List.mem_of_getElem? (i := 1143) (by decide +kernel), List.mem_of_getElem? (i := 1144) (by decide +kernel)⟩
theorem lw_p43 : lw_okq (⟨"IceTreaty", "passWork", "(I)V"⟩, 20) := ⟨⟨by decide +kernel, by decide +kernel⟩, List.mem_of_getElem? (i := 22) (by decide +kernel), List.mem_of_getElem? (i := 1180) (by decide +kernel), List.mem_of_getElem? (i := 1181) (by decide +kernel)⟩
theorem lw_p44 : lw_okq (⟨"IceTreaty", "disturbNests", "(LIceTreaty$Work;)V"⟩, 20) := ⟨⟨by decide +kernel, by decide +kernel⟩, List.mem_of_getElem? (i := 22) (by decide +kernel), List.mem_of_getElem? (i := 1184) (by decide +kernel), List.mem_of_getElem? (i := 1185) (by decide +kernel)⟩
theorem lw_p45 : lw_okq (⟨"IceTreaty", "goDown", "(I)V"⟩, 20) := ⟨⟨by decide +kernel, by decide +kernel⟩, List.mem_of_getElem? (i := 22) (by decide +kernel), List.mem_of_getElem? (i := 1193) (by decide +kernel), List.mem_of_getElem? (i := 1194) (by decide +kernel)⟩
theorem lw_p46 : lw_okq (⟨"IceTreaty", "admitParties", "()V"⟩, 20) := ⟨⟨by decide +kernel, by decide +kernel⟩, List.mem_of_getElem? (i := 22) (by decide +kernel), List.mem_of_getElem? (i := 1206) (by decide +kernel), List.mem_of_getElem? (i := 1207) (by decide +kernel)⟩
theorem lw_p47 : lw_okq (⟨"IceTreaty", "passStation", "(I)V"⟩, 20) := ⟨⟨by decide +kernel, by decide +kernel⟩, List.mem_of_getElem? (i := 22) (by decide +kernel), List.mem_of_getElem? (i := 1210) (by decide +kernel), List.mem_of_getElem? (i := 1211) (by decide +kernel)⟩
def lw_privs_3 : List (MethodName × Nat) := [(⟨"IceTreaty", "tellLetters", "(LIceTreaty$Work;LIceTreaty$Party;I)V"⟩, 20), (⟨"IceTreaty", "tellNeighbours", "(LIceTreaty$Work;)V"⟩, 20), (⟨"IceTreaty", "hasConsent", "(LIceTreaty$Work;I)Z"⟩, 20), (⟨"IceTreaty", "decidingOn", "(I)I"⟩, 20), (⟨"IceTreaty$Law", "readingOf", "(III)LIceTreaty$Text;"⟩, 13), (⟨"IceTreaty$Law", "holds", "(LIceTreaty$Text;I)I"⟩, 13), (⟨"IceTreaty$Law", "push", "(I)V"⟩, 13), (⟨"IceTreaty$Law", "pop", "()I"⟩, 13), (⟨"IceTreaty", "shipOf", "(I)LIceTreaty$Ship;"⟩, 20), (⟨"IceTreaty$Land", "nearestOpen", "()I"⟩, 13), (⟨"IceTreaty$Land", "step", "(II)V"⟩, 13), (⟨"IceTreaty", "passWork", "(I)V"⟩, 20), (⟨"IceTreaty", "disturbNests", "(LIceTreaty$Work;)V"⟩, 20), (⟨"IceTreaty", "goDown", "(I)V"⟩, 20), (⟨"IceTreaty", "admitParties", "()V"⟩, 20), (⟨"IceTreaty", "passStation", "(I)V"⟩, 20)]
theorem lw_r3 : ∀ q ∈ lw_privs_3, lw_okq q := List.forall_mem_cons.mpr ⟨lw_p32, List.forall_mem_cons.mpr ⟨lw_p33, List.forall_mem_cons.mpr ⟨lw_p34, List.forall_mem_cons.mpr ⟨lw_p35, List.forall_mem_cons.mpr ⟨lw_p36, List.forall_mem_cons.mpr ⟨lw_p37, List.forall_mem_cons.mpr ⟨lw_p38, List.forall_mem_cons.mpr ⟨lw_p39, List.forall_mem_cons.mpr ⟨lw_p40, List.forall_mem_cons.mpr ⟨lw_p41, List.forall_mem_cons.mpr ⟨lw_p42, List.forall_mem_cons.mpr ⟨lw_p43, List.forall_mem_cons.mpr ⟨lw_p44, List.forall_mem_cons.mpr ⟨lw_p45, List.forall_mem_cons.mpr ⟨lw_p46, List.forall_mem_cons.mpr ⟨lw_p47, fun _ h => absurd h List.not_mem_nil⟩⟩⟩⟩⟩⟩⟩⟩⟩⟩⟩⟩⟩⟩⟩⟩
theorem lw_p48 : lw_okq (⟨"IceTreaty", "burn", "(LIceTreaty$Place;I)V"⟩, 20) := ⟨⟨by decide +kernel, by decide +kernel⟩, List.mem_of_getElem? (i := 22) (by decide +kernel), List.mem_of_getElem? (i := 1214) (by decide +kernel), List.mem_of_getElem? (i := 1215) (by decide +kernel)⟩
theorem lw_p49 : lw_okq (⟨"IceTreaty", "sendPeopleHome", "(LIceTreaty$Place;)V"⟩, 20) := ⟨⟨by decide +kernel, by decide +kernel⟩, List.mem_of_getElem? (i := 22) (by decide +kernel), List.mem_of_getElem? (i := 1218) (by decide +kernel), List.mem_of_getElem? (i := 1219) (by decide +kernel)⟩
theorem lw_p50 : lw_okq (⟨"IceTreaty", "carry", "(ILIceTreaty$Place;)V"⟩, 20) := ⟨⟨by decide +kernel, by decide +kernel⟩, List.mem_of_getElem? (i := 22) (by decide +kernel), List.mem_of_getElem? (i := 1226) (by decide +kernel), List.mem_of_getElem? (i := 1227) (by decide +kernel)⟩
theorem lw_p51 : lw_okq (⟨"IceTreaty", "carryField", "(LIceTreaty$Place;IZ)V"⟩, 20) := ⟨⟨by decide +kernel, by decide +kernel⟩, List.mem_of_getElem? (i := 22) (by decide +kernel), List.mem_of_getElem? (i := 1231) (by decide +kernel), List.mem_of_getElem? (i := 1232) (by decide +kernel)⟩
theorem lw_p52 : lw_okq (⟨"IceTreaty", "loseStation", "(LIceTreaty$Place;)V"⟩, 20) := ⟨⟨by decide +kernel, by decide +kernel⟩, List.mem_of_getElem? (i := 22) (by decide +kernel), List.mem_of_getElem? (i := 1235) (by decide +kernel), List.mem_of_getElem? (i := 1236) (by decide +kernel)⟩
theorem lw_p53 : lw_okq (⟨"IceTreaty", "passShip", "(LIceTreaty$Ship;)V"⟩, 20) := ⟨⟨by decide +kernel, by decide +kernel⟩, List.mem_of_getElem? (i := 22) (by decide +kernel), List.mem_of_getElem? (i := 1239) (by decide +kernel), List.mem_of_getElem? (i := 1240) (by decide +kernel)⟩
theorem lw_p54 : lw_okq (⟨"IceTreaty", "meetIce", "(LIceTreaty$Ship;)V"⟩, 20) := ⟨⟨by decide +kernel, by decide +kernel⟩, List.mem_of_getElem? (i := 22) (by decide +kernel), List.mem_of_getElem? (i := 1243) (by decide +kernel), List.mem_of_getElem? (i := 1244) (by decide +kernel)⟩
theorem lw_p55 : lw_okq (⟨"IceTreaty", "unload", "(LIceTreaty$Ship;)V"⟩, 20) := ⟨⟨by decide +kernel, by decide +kernel⟩, List.mem_of_getElem? (i := 22) (by decide +kernel), List.mem_of_getElem? (i := 1251) (by decide +kernel), List.mem_of_getElem? (i := 1252) (by decide +kernel)⟩
theorem lw_p56 : lw_okq (⟨"IceTreaty", "comeHome", "(LIceTreaty$Ship;)V"⟩, 20) := ⟨⟨by decide +kernel, by decide +kernel⟩, List.mem_of_getElem? (i := 22) (by decide +kernel), List.mem_of_getElem? (i := 1259) (by decide +kernel), List.mem_of_getElem? (i := 1260) (by decide +kernel)⟩
theorem lw_p57 : lw_okq (⟨"IceTreaty", "passSledge", "(I)V"⟩, 20) := ⟨⟨by decide +kernel, by decide +kernel⟩, List.mem_of_getElem? (i := 22) (by decide +kernel), List.mem_of_getElem? (i := 1263) (by decide +kernel), List.mem_of_getElem? (i := 1264) (by decide +kernel)⟩
theorem lw_p58 : lw_okq (⟨"IceTreaty", "isOver", "(I)Z"⟩, 20) := ⟨⟨by decide +kernel, by decide +kernel⟩, List.mem_of_getElem? (i := 22) (by decide +kernel), List.mem_of_getElem? (i := 1311) (by decide +kernel), List.mem_of_getElem? (i := 1312) (by decide +kernel)⟩
theorem lw_p59 : lw_okq (⟨"IceTreaty", "tonnesUpTo", "(I)I"⟩, 20) := ⟨⟨by decide +kernel, by decide +kernel⟩, List.mem_of_getElem? (i := 22) (by decide +kernel), List.mem_of_getElem? (i := 1315) (by decide +kernel), List.mem_of_getElem? (i := 1316) (by decide +kernel)⟩
theorem lw_p60 : lw_okq (⟨"IceTreaty", "isDoubtful", "(II)Z"⟩, 20) := ⟨⟨by decide +kernel, by decide +kernel⟩, List.mem_of_getElem? (i := 22) (by decide +kernel), List.mem_of_getElem? (i := 1323) (by decide +kernel), List.mem_of_getElem? (i := 1324) (by decide +kernel)⟩
theorem lw_p61 : lw_okq (⟨"IceTreaty", "blockers", "(I)I"⟩, 20) := ⟨⟨by decide +kernel, by decide +kernel⟩, List.mem_of_getElem? (i := 22) (by decide +kernel), List.mem_of_getElem? (i := 1340) (by decide +kernel), List.mem_of_getElem? (i := 1341) (by decide +kernel)⟩
theorem lw_p62 : lw_okq (⟨"IceTreaty", "worthOf", "(I)I"⟩, 20) := ⟨⟨by decide +kernel, by decide +kernel⟩, List.mem_of_getElem? (i := 22) (by decide +kernel), List.mem_of_getElem? (i := 1353) (by decide +kernel), List.mem_of_getElem? (i := 1354) (by decide +kernel)⟩
theorem lw_p63 : lw_okq (⟨"IceTreaty", "measureLegs", "()V"⟩, 20) := ⟨⟨by decide +kernel, by decide +kernel⟩, List.mem_of_getElem? (i := 22) (by decide +kernel), List.mem_of_getElem? (i := 1378) (by decide +kernel), List.mem_of_getElem? (i := 1379) (by decide +kernel)⟩
def lw_privs_4 : List (MethodName × Nat) := [(⟨"IceTreaty", "burn", "(LIceTreaty$Place;I)V"⟩, 20), (⟨"IceTreaty", "sendPeopleHome", "(LIceTreaty$Place;)V"⟩, 20), (⟨"IceTreaty", "carry", "(ILIceTreaty$Place;)V"⟩, 20), (⟨"IceTreaty", "carryField", "(LIceTreaty$Place;IZ)V"⟩, 20), (⟨"IceTreaty", "loseStation", "(LIceTreaty$Place;)V"⟩, 20), (⟨"IceTreaty", "passShip", "(LIceTreaty$Ship;)V"⟩, 20), (⟨"IceTreaty", "meetIce", "(LIceTreaty$Ship;)V"⟩, 20), (⟨"IceTreaty", "unload", "(LIceTreaty$Ship;)V"⟩, 20), (⟨"IceTreaty", "comeHome", "(LIceTreaty$Ship;)V"⟩, 20), (⟨"IceTreaty", "passSledge", "(I)V"⟩, 20), (⟨"IceTreaty", "isOver", "(I)Z"⟩, 20), (⟨"IceTreaty", "tonnesUpTo", "(I)I"⟩, 20), (⟨"IceTreaty", "isDoubtful", "(II)Z"⟩, 20), (⟨"IceTreaty", "blockers", "(I)I"⟩, 20), (⟨"IceTreaty", "worthOf", "(I)I"⟩, 20), (⟨"IceTreaty", "measureLegs", "()V"⟩, 20)]
theorem lw_r4 : ∀ q ∈ lw_privs_4, lw_okq q := List.forall_mem_cons.mpr ⟨lw_p48, List.forall_mem_cons.mpr ⟨lw_p49, List.forall_mem_cons.mpr ⟨lw_p50, List.forall_mem_cons.mpr ⟨lw_p51, List.forall_mem_cons.mpr ⟨lw_p52, List.forall_mem_cons.mpr ⟨lw_p53, List.forall_mem_cons.mpr ⟨lw_p54, List.forall_mem_cons.mpr ⟨lw_p55, List.forall_mem_cons.mpr ⟨lw_p56, List.forall_mem_cons.mpr ⟨lw_p57, List.forall_mem_cons.mpr ⟨lw_p58, List.forall_mem_cons.mpr ⟨lw_p59, List.forall_mem_cons.mpr ⟨lw_p60, List.forall_mem_cons.mpr ⟨lw_p61, List.forall_mem_cons.mpr ⟨lw_p62, List.forall_mem_cons.mpr ⟨lw_p63, fun _ h => absurd h List.not_mem_nil⟩⟩⟩⟩⟩⟩⟩⟩⟩⟩⟩⟩⟩⟩⟩⟩
theorem lw_p64 : lw_okq (⟨"IceTreaty$Season", "lookAhead", "()V"⟩, 10) := ⟨⟨by decide +kernel, by decide +kernel⟩, List.mem_of_getElem? (i := 173) (by decide +kernel), List.mem_of_getElem? (i := 1386) (by decide +kernel), List.mem_of_getElem? (i := 1387) (by decide +kernel)⟩
theorem lw_p65 : lw_okq (⟨"IceTreaty$Season", "leastAhead", "(II)I"⟩, 10) := ⟨⟨by decide +kernel, by decide +kernel⟩, List.mem_of_getElem? (i := 173) (by decide +kernel), List.mem_of_getElem? (i := 1390) (by decide +kernel), List.mem_of_getElem? (i := 1391) (by decide +kernel)⟩
theorem lw_p66 : lw_okq (⟨"IceTreaty$Season", "extend", "(II)V"⟩, 10) := ⟨⟨by decide +kernel, by decide +kernel⟩, List.mem_of_getElem? (i := 173) (by decide +kernel), List.mem_of_getElem? (i := 1398) (by decide +kernel), List.mem_of_getElem? (i := 1399) (by decide +kernel)⟩
theorem lw_p67 : lw_okq (⟨"IceTreaty$Season", "comes", "(III)Z"⟩, 10) := ⟨⟨by decide +kernel, by decide +kernel⟩, List.mem_of_getElem? (i := 173) (by decide +kernel), List.mem_of_getElem? (i := 1402) (by decide +kernel), List.mem_of_getElem? (i := 1403) (by decide +kernel)⟩
theorem lw_p68 : lw_okq (⟨"IceTreaty$Season", "goOn", "(II)V"⟩, 10) := ⟨⟨by decide +kernel, by decide +kernel⟩, List.mem_of_getElem? (i := 173) (by decide +kernel), List.mem_of_getElem? (i := 1406) (by decide +kernel), List.mem_of_getElem? (i := 1407) (by decide +kernel)⟩
theorem lw_p69 : lw_okq (⟨"IceTreaty$Season", "keep", "()V"⟩, 10) := ⟨⟨by decide +kernel, by decide +kernel⟩, List.mem_of_getElem? (i := 173) (by decide +kernel), List.mem_of_getElem? (i := 1410) (by decide +kernel), List.mem_of_getElem? (i := 1411) (by decide +kernel)⟩
theorem lw_p70 : lw_okq (⟨"IceTreaty", "firstWrong", "(I)I"⟩, 20) := ⟨⟨by decide +kernel, by decide +kernel⟩, List.mem_of_getElem? (i := 22) (by decide +kernel), List.mem_of_getElem? (i := 1432) (by decide +kernel), List.mem_of_getElem? (i := 1433) (by decide +kernel)⟩
theorem lw_p71 : lw_okq (⟨"IceTreaty", "fedNumber", "(I)I"⟩, 20) := ⟨⟨by decide +kernel, by decide +kernel⟩, List.mem_of_getElem? (i := 22) (by decide +kernel), List.mem_of_getElem? (i := 1436) (by decide +kernel), List.mem_of_getElem? (i := 1437) (by decide +kernel)⟩
theorem lw_p72 : lw_okq (⟨"IceTreaty", "lookAtStation", "(LIceTreaty$Place;I)I"⟩, 20) := ⟨⟨by decide +kernel, by decide +kernel⟩, List.mem_of_getElem? (i := 22) (by decide +kernel), List.mem_of_getElem? (i := 1444) (by decide +kernel), List.mem_of_getElem? (i := 1445) (by decide +kernel)⟩
theorem lw_p73 : lw_okq (⟨"IceTreaty", "sledgesOnWay", "()I"⟩, 20) := ⟨⟨by decide +kernel, by decide +kernel⟩, List.mem_of_getElem? (i := 22) (by decide +kernel), List.mem_of_getElem? (i := 1465) (by decide +kernel), List.mem_of_getElem? (i := 1466) (by decide +kernel)⟩
theorem lw_p74 : lw_okq (⟨"IceTreaty", "decidesFrom", "(I)I"⟩, 20) := ⟨⟨by decide +kernel, by decide +kernel⟩, List.mem_of_getElem? (i := 22) (by decide +kernel), List.mem_of_getElem? (i := 1469) (by decide +kernel), List.mem_of_getElem? (i := 1470) (by decide +kernel)⟩
theorem lw_p75 : lw_okq (⟨"IceTreatyModel", "begins", "(II)V"⟩, 151) := ⟨⟨by decide +kernel, by decide +kernel⟩, List.mem_of_getElem? (i := 1473) (by decide +kernel), List.mem_of_getElem? (i := 1479) (by decide +kernel), List.mem_of_getElem? (i := 1480) (by decide +kernel)⟩
theorem lw_p76 : lw_okq (⟨"IceTreatyModel", "isCell", "(I)Z"⟩, 151) := ⟨⟨by decide +kernel, by decide +kernel⟩, List.mem_of_getElem? (i := 1473) (by decide +kernel), List.mem_of_getElem? (i := 1949) (by decide +kernel), List.mem_of_getElem? (i := 1950) (by decide +kernel)⟩
theorem lw_p77 : lw_okq (⟨"IceTreatyModel", "isParty", "(I)Z"⟩, 151) := ⟨⟨by decide +kernel, by decide +kernel⟩, List.mem_of_getElem? (i := 1473) (by decide +kernel), List.mem_of_getElem? (i := 1965) (by decide +kernel), List.mem_of_getElem? (i := 1966) (by decide +kernel)⟩
theorem lw_p78 : lw_okq (⟨"IceTreatyModel", "decidesOn", "(II)Z"⟩, 151) := ⟨⟨by decide +kernel, by decide +kernel⟩, List.mem_of_getElem? (i := 1473) (by decide +kernel), List.mem_of_getElem? (i := 1972) (by decide +kernel), List.mem_of_getElem? (i := 1973) (by decide +kernel)⟩
theorem lw_p79 : lw_okq (⟨"IceTreatyModel", "isRectangle", "(II)Z"⟩, 151) := ⟨⟨by decide +kernel, by decide +kernel⟩, List.mem_of_getElem? (i := 1473) (by decide +kernel), List.mem_of_getElem? (i := 1980) (by decide +kernel), List.mem_of_getElem? (i := 1981) (by decide +kernel)⟩
def lw_privs_5 : List (MethodName × Nat) := [(⟨"IceTreaty$Season", "lookAhead", "()V"⟩, 10), (⟨"IceTreaty$Season", "leastAhead", "(II)I"⟩, 10), (⟨"IceTreaty$Season", "extend", "(II)V"⟩, 10), (⟨"IceTreaty$Season", "comes", "(III)Z"⟩, 10), (⟨"IceTreaty$Season", "goOn", "(II)V"⟩, 10), (⟨"IceTreaty$Season", "keep", "()V"⟩, 10), (⟨"IceTreaty", "firstWrong", "(I)I"⟩, 20), (⟨"IceTreaty", "fedNumber", "(I)I"⟩, 20), (⟨"IceTreaty", "lookAtStation", "(LIceTreaty$Place;I)I"⟩, 20), (⟨"IceTreaty", "sledgesOnWay", "()I"⟩, 20), (⟨"IceTreaty", "decidesFrom", "(I)I"⟩, 20), (⟨"IceTreatyModel", "begins", "(II)V"⟩, 151), (⟨"IceTreatyModel", "isCell", "(I)Z"⟩, 151), (⟨"IceTreatyModel", "isParty", "(I)Z"⟩, 151), (⟨"IceTreatyModel", "decidesOn", "(II)Z"⟩, 151), (⟨"IceTreatyModel", "isRectangle", "(II)Z"⟩, 151)]
theorem lw_r5 : ∀ q ∈ lw_privs_5, lw_okq q := List.forall_mem_cons.mpr ⟨lw_p64, List.forall_mem_cons.mpr ⟨lw_p65, List.forall_mem_cons.mpr ⟨lw_p66, List.forall_mem_cons.mpr ⟨lw_p67, List.forall_mem_cons.mpr ⟨lw_p68, List.forall_mem_cons.mpr ⟨lw_p69, List.forall_mem_cons.mpr ⟨lw_p70, List.forall_mem_cons.mpr ⟨lw_p71, List.forall_mem_cons.mpr ⟨lw_p72, List.forall_mem_cons.mpr ⟨lw_p73, List.forall_mem_cons.mpr ⟨lw_p74, List.forall_mem_cons.mpr ⟨lw_p75, List.forall_mem_cons.mpr ⟨lw_p76, List.forall_mem_cons.mpr ⟨lw_p77, List.forall_mem_cons.mpr ⟨lw_p78, List.forall_mem_cons.mpr ⟨lw_p79, fun _ h => absurd h List.not_mem_nil⟩⟩⟩⟩⟩⟩⟩⟩⟩⟩⟩⟩⟩⟩⟩⟩
theorem lw_p80 : lw_okq (⟨"IceTreatyModel", "isAsleep", "(II)Z"⟩, 151) := ⟨⟨by decide +kernel, by decide +kernel⟩, List.mem_of_getElem? (i := 1473) (by decide +kernel), List.mem_of_getElem? (i := 1984) (by decide +kernel), List.mem_of_getElem? (i := 1985) (by decide +kernel)⟩
theorem lw_p81 : lw_okq (⟨"IceTreatyModel", "binds", "(II)V"⟩, 151) := ⟨⟨by decide +kernel, by decide +kernel⟩, List.mem_of_getElem? (i := 1473) (by decide +kernel), List.mem_of_getElem? (i := 1988) (by decide +kernel), List.mem_of_getElem? (i := 1989) (by decide +kernel)⟩
theorem lw_p82 : lw_okq (⟨"IceTreatyModel", "strikes", "(I)V"⟩, 151) := ⟨⟨by decide +kernel, by decide +kernel⟩, List.mem_of_getElem? (i := 1473) (by decide +kernel), List.mem_of_getElem? (i := 1992) (by decide +kernel), List.mem_of_getElem? (i := 1993) (by decide +kernel)⟩
theorem lw_p83 : lw_okq (⟨"IceTreatyModel", "numberBy", "(IIII)I"⟩, 151) := ⟨⟨by decide +kernel, by decide +kernel⟩, List.mem_of_getElem? (i := 1473) (by decide +kernel), List.mem_of_getElem? (i := 1996) (by decide +kernel), List.mem_of_getElem? (i := 1997) (by decide +kernel)⟩
theorem lw_p84 : lw_okq (⟨"IceTreatyModel", "place", "(IIIII)I"⟩, 151) := ⟨⟨by decide +kernel, by decide +kernel⟩, List.mem_of_getElem? (i := 1473) (by decide +kernel), List.mem_of_getElem? (i := 2000) (by decide +kernel), List.mem_of_getElem? (i := 2001) (by decide +kernel)⟩
theorem lw_p85 : lw_okq (⟨"IceTreatyModel", "isPlace", "(II)Z"⟩, 151) := ⟨⟨by decide +kernel, by decide +kernel⟩, List.mem_of_getElem? (i := 1473) (by decide +kernel), List.mem_of_getElem? (i := 2008) (by decide +kernel), List.mem_of_getElem? (i := 2009) (by decide +kernel)⟩
theorem lw_p86 : lw_okq (⟨"IceTreatyModel", "isLand", "(I)Z"⟩, 151) := ⟨⟨by decide +kernel, by decide +kernel⟩, List.mem_of_getElem? (i := 1473) (by decide +kernel), List.mem_of_getElem? (i := 2016) (by decide +kernel), List.mem_of_getElem? (i := 2017) (by decide +kernel)⟩
theorem lw_p87 : lw_okq (⟨"IceTreatyModel", "stands", "(I)Z"⟩, 151) := ⟨⟨by decide +kernel, by decide +kernel⟩, List.mem_of_getElem? (i := 1473) (by decide +kernel), List.mem_of_getElem? (i := 2025) (by decide +kernel), List.mem_of_getElem? (i := 2026) (by decide +kernel)⟩
theorem lw_p88 : lw_okq (⟨"IceTreatyModel", "isStation", "(I)Z"⟩, 151) := ⟨⟨by decide +kernel, by decide +kernel⟩, List.mem_of_getElem? (i := 1473) (by decide +kernel), List.mem_of_getElem? (i := 2029) (by decide +kernel), List.mem_of_getElem? (i := 2030) (by decide +kernel)⟩
theorem lw_p89 : lw_okq (⟨"IceTreatyModel", "types", "(I)V"⟩, 151) := ⟨⟨by decide +kernel, by decide +kernel⟩, List.mem_of_getElem? (i := 1473) (by decide +kernel), List.mem_of_getElem? (i := 2045) (by decide +kernel), List.mem_of_getElem? (i := 2046) (by decide +kernel)⟩
theorem lw_p90 : lw_okq (⟨"IceTreatyModel", "readsClause", "()Z"⟩, 151) := ⟨⟨by decide +kernel, by decide +kernel⟩, List.mem_of_getElem? (i := 1473) (by decide +kernel), List.mem_of_getElem? (i := 2053) (by decide +kernel), List.mem_of_getElem? (i := 2054) (by decide +kernel)⟩
theorem lw_p91 : lw_okq (⟨"IceTreatyModel", "sign", "()I"⟩, 151) := ⟨⟨by decide +kernel, by decide +kernel⟩, List.mem_of_getElem? (i := 1473) (by decide +kernel), List.mem_of_getElem? (i := 2057) (by decide +kernel), List.mem_of_getElem? (i := 2058) (by decide +kernel)⟩
theorem lw_p92 : lw_okq (⟨"IceTreatyModel", "wrong", "(II)Z"⟩, 151) := ⟨⟨by decide +kernel, by decide +kernel⟩, List.mem_of_getElem? (i := 1473) (by decide +kernel), List.mem_of_getElem? (i := 2067) (by decide +kernel), List.mem_of_getElem? (i := 2068) (by decide +kernel)⟩
theorem lw_p93 : lw_okq (⟨"IceTreatyModel", "readsCondition", "()Z"⟩, 151) := ⟨⟨by decide +kernel, by decide +kernel⟩, List.mem_of_getElem? (i := 1473) (by decide +kernel), List.mem_of_getElem? (i := 2071) (by decide +kernel), List.mem_of_getElem? (i := 2072) (by decide +kernel)⟩
theorem lw_p94 : lw_okq (⟨"IceTreatyModel", "opens", "(I)Z"⟩, 151) := ⟨⟨by decide +kernel, by decide +kernel⟩, List.mem_of_getElem? (i := 1473) (by decide +kernel), List.mem_of_getElem? (i := 2075) (by decide +kernel), List.mem_of_getElem? (i := 2076) (by decide +kernel)⟩
theorem lw_p95 : lw_okq (⟨"IceTreatyModel", "readsCompared", "()Z"⟩, 151) := ⟨⟨by decide +kernel, by decide +kernel⟩, List.mem_of_getElem? (i := 1473) (by decide +kernel), List.mem_of_getElem? (i := 2080) (by decide +kernel), List.mem_of_getElem? (i := 2081) (by decide +kernel)⟩
def lw_privs_6 : List (MethodName × Nat) := [(⟨"IceTreatyModel", "isAsleep", "(II)Z"⟩, 151), (⟨"IceTreatyModel", "binds", "(II)V"⟩, 151), (⟨"IceTreatyModel", "strikes", "(I)V"⟩, 151), (⟨"IceTreatyModel", "numberBy", "(IIII)I"⟩, 151), (⟨"IceTreatyModel", "place", "(IIIII)I"⟩, 151), (⟨"IceTreatyModel", "isPlace", "(II)Z"⟩, 151), (⟨"IceTreatyModel", "isLand", "(I)Z"⟩, 151), (⟨"IceTreatyModel", "stands", "(I)Z"⟩, 151), (⟨"IceTreatyModel", "isStation", "(I)Z"⟩, 151), (⟨"IceTreatyModel", "types", "(I)V"⟩, 151), (⟨"IceTreatyModel", "readsClause", "()Z"⟩, 151), (⟨"IceTreatyModel", "sign", "()I"⟩, 151), (⟨"IceTreatyModel", "wrong", "(II)Z"⟩, 151), (⟨"IceTreatyModel", "readsCondition", "()Z"⟩, 151), (⟨"IceTreatyModel", "opens", "(I)Z"⟩, 151), (⟨"IceTreatyModel", "readsCompared", "()Z"⟩, 151)]
theorem lw_r6 : ∀ q ∈ lw_privs_6, lw_okq q := List.forall_mem_cons.mpr ⟨lw_p80, List.forall_mem_cons.mpr ⟨lw_p81, List.forall_mem_cons.mpr ⟨lw_p82, List.forall_mem_cons.mpr ⟨lw_p83, List.forall_mem_cons.mpr ⟨lw_p84, List.forall_mem_cons.mpr ⟨lw_p85, List.forall_mem_cons.mpr ⟨lw_p86, List.forall_mem_cons.mpr ⟨lw_p87, List.forall_mem_cons.mpr ⟨lw_p88, List.forall_mem_cons.mpr ⟨lw_p89, List.forall_mem_cons.mpr ⟨lw_p90, List.forall_mem_cons.mpr ⟨lw_p91, List.forall_mem_cons.mpr ⟨lw_p92, List.forall_mem_cons.mpr ⟨lw_p93, List.forall_mem_cons.mpr ⟨lw_p94, List.forall_mem_cons.mpr ⟨lw_p95, fun _ h => absurd h List.not_mem_nil⟩⟩⟩⟩⟩⟩⟩⟩⟩⟩⟩⟩⟩⟩⟩⟩
theorem lw_p96 : lw_okq (⟨"IceTreatyModel", "readsSum", "()Z"⟩, 151) := ⟨⟨by decide +kernel, by decide +kernel⟩, List.mem_of_getElem? (i := 1473) (by decide +kernel), List.mem_of_getElem? (i := 2084) (by decide +kernel), List.mem_of_getElem? (i := 2085) (by decide +kernel)⟩
theorem lw_p97 : lw_okq (⟨"IceTreatyModel", "readsFactor", "()Z"⟩, 151) := ⟨⟨by decide +kernel, by decide +kernel⟩, List.mem_of_getElem? (i := 1473) (by decide +kernel), List.mem_of_getElem? (i := 2088) (by decide +kernel), List.mem_of_getElem? (i := 2089) (by decide +kernel)⟩
theorem lw_p98 : lw_okq (⟨"IceTreatyModel", "isDigit", "()Z"⟩, 151) := ⟨⟨by decide +kernel, by decide +kernel⟩, List.mem_of_getElem? (i := 1473) (by decide +kernel), List.mem_of_getElem? (i := 2092) (by decide +kernel), List.mem_of_getElem? (i := 2093) (by decide +kernel)⟩
theorem lw_p99 : lw_okq (⟨"IceTreatyModel", "readsNumber", "(I)Z"⟩, 151) := ⟨⟨by decide +kernel, by decide +kernel⟩, List.mem_of_getElem? (i := 1473) (by decide +kernel), List.mem_of_getElem? (i := 2097) (by decide +kernel), List.mem_of_getElem? (i := 2098) (by decide +kernel)⟩
theorem lw_p100 : lw_okq (⟨"IceTreatyModel", "says", "(II)V"⟩, 151) := ⟨⟨by decide +kernel, by decide +kernel⟩, List.mem_of_getElem? (i := 1473) (by decide +kernel), List.mem_of_getElem? (i := 2101) (by decide +kernel), List.mem_of_getElem? (i := 2102) (by decide +kernel)⟩
theorem lw_p101 : lw_okq (⟨"IceTreatyModel", "closesSums", "(Z)V"⟩, 151) := ⟨⟨by decide +kernel, by decide +kernel⟩, List.mem_of_getElem? (i := 1473) (by decide +kernel), List.mem_of_getElem? (i := 2111) (by decide +kernel), List.mem_of_getElem? (i := 2112) (by decide +kernel)⟩
theorem lw_p102 : lw_okq (⟨"IceTreatyModel", "top", "()I"⟩, 151) := ⟨⟨by decide +kernel, by decide +kernel⟩, List.mem_of_getElem? (i := 1473) (by decide +kernel), List.mem_of_getElem? (i := 2115) (by decide +kernel), List.mem_of_getElem? (i := 2116) (by decide +kernel)⟩
theorem lw_p103 : lw_okq (⟨"IceTreatyModel", "hasOpenSum", "(I)Z"⟩, 151) := ⟨⟨by decide +kernel, by decide +kernel⟩, List.mem_of_getElem? (i := 1473) (by decide +kernel), List.mem_of_getElem? (i := 2119) (by decide +kernel), List.mem_of_getElem? (i := 2120) (by decide +kernel)⟩
theorem lw_p104 : lw_okq (⟨"IceTreatyModel", "endsPiece", "()V"⟩, 151) := ⟨⟨by decide +kernel, by decide +kernel⟩, List.mem_of_getElem? (i := 1473) (by decide +kernel), List.mem_of_getElem? (i := 2123) (by decide +kernel), List.mem_of_getElem? (i := 2124) (by decide +kernel)⟩
theorem lw_p105 : lw_okq (⟨"IceTreatyModel", "lands", "(Z)V"⟩, 151) := ⟨⟨by decide +kernel, by decide +kernel⟩, List.mem_of_getElem? (i := 1473) (by decide +kernel), List.mem_of_getElem? (i := 2127) (by decide +kernel), List.mem_of_getElem? (i := 2128) (by decide +kernel)⟩
theorem lw_p106 : lw_okq (⟨"IceTreatyModel", "jumps", "(I)V"⟩, 151) := ⟨⟨by decide +kernel, by decide +kernel⟩, List.mem_of_getElem? (i := 1473) (by decide +kernel), List.mem_of_getElem? (i := 2131) (by decide +kernel), List.mem_of_getElem? (i := 2132) (by decide +kernel)⟩
theorem lw_p107 : lw_okq (⟨"IceTreatyModel", "takes", "(I)Z"⟩, 151) := ⟨⟨by decide +kernel, by decide +kernel⟩, List.mem_of_getElem? (i := 1473) (by decide +kernel), List.mem_of_getElem? (i := 2135) (by decide +kernel), List.mem_of_getElem? (i := 2136) (by decide +kernel)⟩
theorem lw_p108 : lw_okq (⟨"IceTreatyModel", "isText", "(I)Z"⟩, 151) := ⟨⟨by decide +kernel, by decide +kernel⟩, List.mem_of_getElem? (i := 1473) (by decide +kernel), List.mem_of_getElem? (i := 2143) (by decide +kernel), List.mem_of_getElem? (i := 2144) (by decide +kernel)⟩
theorem lw_p109 : lw_okq (⟨"IceTreatyModel", "isClause", "(II)Z"⟩, 151) := ⟨⟨by decide +kernel, by decide +kernel⟩, List.mem_of_getElem? (i := 1473) (by decide +kernel), List.mem_of_getElem? (i := 2151) (by decide +kernel), List.mem_of_getElem? (i := 2152) (by decide +kernel)⟩
theorem lw_p110 : lw_okq (⟨"IceTreatyModel", "caughtAtMost", "(IIII)I"⟩, 151) := ⟨⟨by decide +kernel, by decide +kernel⟩, List.mem_of_getElem? (i := 1473) (by decide +kernel), List.mem_of_getElem? (i := 2163) (by decide +kernel), List.mem_of_getElem? (i := 2164) (by decide +kernel)⟩
theorem lw_p111 : lw_okq (⟨"IceTreatyModel", "asked", "(IIII)I"⟩, 151) := ⟨⟨by decide +kernel, by decide +kernel⟩, List.mem_of_getElem? (i := 1473) (by decide +kernel), List.mem_of_getElem? (i := 2167) (by decide +kernel), List.mem_of_getElem? (i := 2168) (by decide +kernel)⟩
def lw_privs_7 : List (MethodName × Nat) := [(⟨"IceTreatyModel", "readsSum", "()Z"⟩, 151), (⟨"IceTreatyModel", "readsFactor", "()Z"⟩, 151), (⟨"IceTreatyModel", "isDigit", "()Z"⟩, 151), (⟨"IceTreatyModel", "readsNumber", "(I)Z"⟩, 151), (⟨"IceTreatyModel", "says", "(II)V"⟩, 151), (⟨"IceTreatyModel", "closesSums", "(Z)V"⟩, 151), (⟨"IceTreatyModel", "top", "()I"⟩, 151), (⟨"IceTreatyModel", "hasOpenSum", "(I)Z"⟩, 151), (⟨"IceTreatyModel", "endsPiece", "()V"⟩, 151), (⟨"IceTreatyModel", "lands", "(Z)V"⟩, 151), (⟨"IceTreatyModel", "jumps", "(I)V"⟩, 151), (⟨"IceTreatyModel", "takes", "(I)Z"⟩, 151), (⟨"IceTreatyModel", "isText", "(I)Z"⟩, 151), (⟨"IceTreatyModel", "isClause", "(II)Z"⟩, 151), (⟨"IceTreatyModel", "caughtAtMost", "(IIII)I"⟩, 151), (⟨"IceTreatyModel", "asked", "(IIII)I"⟩, 151)]
theorem lw_r7 : ∀ q ∈ lw_privs_7, lw_okq q := List.forall_mem_cons.mpr ⟨lw_p96, List.forall_mem_cons.mpr ⟨lw_p97, List.forall_mem_cons.mpr ⟨lw_p98, List.forall_mem_cons.mpr ⟨lw_p99, List.forall_mem_cons.mpr ⟨lw_p100, List.forall_mem_cons.mpr ⟨lw_p101, List.forall_mem_cons.mpr ⟨lw_p102, List.forall_mem_cons.mpr ⟨lw_p103, List.forall_mem_cons.mpr ⟨lw_p104, List.forall_mem_cons.mpr ⟨lw_p105, List.forall_mem_cons.mpr ⟨lw_p106, List.forall_mem_cons.mpr ⟨lw_p107, List.forall_mem_cons.mpr ⟨lw_p108, List.forall_mem_cons.mpr ⟨lw_p109, List.forall_mem_cons.mpr ⟨lw_p110, List.forall_mem_cons.mpr ⟨lw_p111, fun _ h => absurd h List.not_mem_nil⟩⟩⟩⟩⟩⟩⟩⟩⟩⟩⟩⟩⟩⟩⟩⟩
theorem lw_p112 : lw_okq (⟨"IceTreatyModel", "isWork", "(I)Z"⟩, 151) := ⟨⟨by decide +kernel, by decide +kernel⟩, List.mem_of_getElem? (i := 1473) (by decide +kernel), List.mem_of_getElem? (i := 2179) (by decide +kernel), List.mem_of_getElem? (i := 2180) (by decide +kernel)⟩
theorem lw_p113 : lw_okq (⟨"IceTreatyModel", "mayOn", "(IIZ)I"⟩, 151) := ⟨⟨by decide +kernel, by decide +kernel⟩, List.mem_of_getElem? (i := 1473) (by decide +kernel), List.mem_of_getElem? (i := 2195) (by decide +kernel), List.mem_of_getElem? (i := 2196) (by decide +kernel)⟩
theorem lw_p114 : lw_okq (⟨"IceTreatyModel", "barOf", "(IIIZ)I"⟩, 151) := ⟨⟨by decide +kernel, by decide +kernel⟩, List.mem_of_getElem? (i := 1473) (by decide +kernel), List.mem_of_getElem? (i := 2199) (by decide +kernel), List.mem_of_getElem? (i := 2200) (by decide +kernel)⟩
theorem lw_p115 : lw_okq (⟨"IceTreatyModel", "clauseHolds", "(IIIZ)I"⟩, 151) := ⟨⟨by decide +kernel, by decide +kernel⟩, List.mem_of_getElem? (i := 1473) (by decide +kernel), List.mem_of_getElem? (i := 2203) (by decide +kernel), List.mem_of_getElem? (i := 2204) (by decide +kernel)⟩
theorem lw_p116 : lw_okq (⟨"IceTreatyModel", "holds", "([IIIIII)I"⟩, 151) := ⟨⟨by decide +kernel, by decide +kernel⟩, List.mem_of_getElem? (i := 1473) (by decide +kernel), List.mem_of_getElem? (i := 2207) (by decide +kernel), List.mem_of_getElem? (i := 2208) (by decide +kernel)⟩
theorem lw_p117 : lw_okq (⟨"IceTreatyModel", "valueOf", "(III)I"⟩, 151) := ⟨⟨by decide +kernel, by decide +kernel⟩, List.mem_of_getElem? (i := 1473) (by decide +kernel), List.mem_of_getElem? (i := 2211) (by decide +kernel), List.mem_of_getElem? (i := 2212) (by decide +kernel)⟩
theorem lw_p118 : lw_okq (⟨"IceTreatyModel", "rankAt", "(I)I"⟩, 151) := ⟨⟨by decide +kernel, by decide +kernel⟩, List.mem_of_getElem? (i := 1473) (by decide +kernel), List.mem_of_getElem? (i := 2215) (by decide +kernel), List.mem_of_getElem? (i := 2216) (by decide +kernel)⟩
theorem lw_p119 : lw_okq (⟨"IceTreatyModel", "isIn", "(II)Z"⟩, 151) := ⟨⟨by decide +kernel, by decide +kernel⟩, List.mem_of_getElem? (i := 1473) (by decide +kernel), List.mem_of_getElem? (i := 2219) (by decide +kernel), List.mem_of_getElem? (i := 2220) (by decide +kernel)⟩
theorem lw_p120 : lw_okq (⟨"IceTreatyModel", "nearPlaces", "(III)I"⟩, 151) := ⟨⟨by decide +kernel, by decide +kernel⟩, List.mem_of_getElem? (i := 1473) (by decide +kernel), List.mem_of_getElem? (i := 2223) (by decide +kernel), List.mem_of_getElem? (i := 2224) (by decide +kernel)⟩
theorem lw_p121 : lw_okq (⟨"IceTreatyModel", "far", "(II)I"⟩, 151) := ⟨⟨by decide +kernel, by decide +kernel⟩, List.mem_of_getElem? (i := 1473) (by decide +kernel), List.mem_of_getElem? (i := 2227) (by decide +kernel), List.mem_of_getElem? (i := 2228) (by decide +kernel)⟩
theorem lw_p122 : lw_okq (⟨"IceTreatyModel", "othersNear", "(II)I"⟩, 151) := ⟨⟨by decide +kernel, by decide +kernel⟩, List.mem_of_getElem? (i := 1473) (by decide +kernel), List.mem_of_getElem? (i := 2234) (by decide +kernel), List.mem_of_getElem? (i := 2235) (by decide +kernel)⟩
theorem lw_p123 : lw_okq (⟨"IceTreatyModel", "isDark", "(I)Z"⟩, 151) := ⟨⟨by decide +kernel, by decide +kernel⟩, List.mem_of_getElem? (i := 1473) (by decide +kernel), List.mem_of_getElem? (i := 2238) (by decide +kernel), List.mem_of_getElem? (i := 2239) (by decide +kernel)⟩
theorem lw_p124 : lw_okq (⟨"IceTreatyModel", "isConsented", "(II)Z"⟩, 151) := ⟨⟨by decide +kernel, by decide +kernel⟩, List.mem_of_getElem? (i := 1473) (by decide +kernel), List.mem_of_getElem? (i := 2245) (by decide +kernel), List.mem_of_getElem? (i := 2246) (by decide +kernel)⟩
theorem lw_p125 : lw_okq (⟨"IceTreatyModel", "isShip", "(I)Z"⟩, 151) := ⟨⟨by decide +kernel, by decide +kernel⟩, List.mem_of_getElem? (i := 1473) (by decide +kernel), List.mem_of_getElem? (i := 2276) (by decide +kernel), List.mem_of_getElem? (i := 2277) (by decide +kernel)⟩
theorem lw_p126 : lw_okq (⟨"IceTreatyModel", "isNearSea", "(I)Z"⟩, 151) := ⟨⟨by decide +kernel, by decide +kernel⟩, List.mem_of_getElem? (i := 1473) (by decide +kernel), List.mem_of_getElem? (i := 2280) (by decide +kernel), List.mem_of_getElem? (i := 2281) (by decide +kernel)⟩
theorem lw_p127 : lw_okq (⟨"IceTreatyModel", "goesOver", "(I)V"⟩, 151) := ⟨⟨by decide +kernel, by decide +kernel⟩, List.mem_of_getElem? (i := 1473) (by decide +kernel), List.mem_of_getElem? (i := 2288) (by decide +kernel), List.mem_of_getElem? (i := 2289) (by decide +kernel)⟩
def lw_privs_8 : List (MethodName × Nat) := [(⟨"IceTreatyModel", "isWork", "(I)Z"⟩, 151), (⟨"IceTreatyModel", "mayOn", "(IIZ)I"⟩, 151), (⟨"IceTreatyModel", "barOf", "(IIIZ)I"⟩, 151), (⟨"IceTreatyModel", "clauseHolds", "(IIIZ)I"⟩, 151), (⟨"IceTreatyModel", "holds", "([IIIIII)I"⟩, 151), (⟨"IceTreatyModel", "valueOf", "(III)I"⟩, 151), (⟨"IceTreatyModel", "rankAt", "(I)I"⟩, 151), (⟨"IceTreatyModel", "isIn", "(II)Z"⟩, 151), (⟨"IceTreatyModel", "nearPlaces", "(III)I"⟩, 151), (⟨"IceTreatyModel", "far", "(II)I"⟩, 151), (⟨"IceTreatyModel", "othersNear", "(II)I"⟩, 151), (⟨"IceTreatyModel", "isDark", "(I)Z"⟩, 151), (⟨"IceTreatyModel", "isConsented", "(II)Z"⟩, 151), (⟨"IceTreatyModel", "isShip", "(I)Z"⟩, 151), (⟨"IceTreatyModel", "isNearSea", "(I)Z"⟩, 151), (⟨"IceTreatyModel", "goesOver", "(I)V"⟩, 151)]
theorem lw_r8 : ∀ q ∈ lw_privs_8, lw_okq q := List.forall_mem_cons.mpr ⟨lw_p112, List.forall_mem_cons.mpr ⟨lw_p113, List.forall_mem_cons.mpr ⟨lw_p114, List.forall_mem_cons.mpr ⟨lw_p115, List.forall_mem_cons.mpr ⟨lw_p116, List.forall_mem_cons.mpr ⟨lw_p117, List.forall_mem_cons.mpr ⟨lw_p118, List.forall_mem_cons.mpr ⟨lw_p119, List.forall_mem_cons.mpr ⟨lw_p120, List.forall_mem_cons.mpr ⟨lw_p121, List.forall_mem_cons.mpr ⟨lw_p122, List.forall_mem_cons.mpr ⟨lw_p123, List.forall_mem_cons.mpr ⟨lw_p124, List.forall_mem_cons.mpr ⟨lw_p125, List.forall_mem_cons.mpr ⟨lw_p126, List.forall_mem_cons.mpr ⟨lw_p127, fun _ h => absurd h List.not_mem_nil⟩⟩⟩⟩⟩⟩⟩⟩⟩⟩⟩⟩⟩⟩⟩⟩
theorem lw_p128 : lw_okq (⟨"IceTreatyModel", "moved", "(III)I"⟩, 151) := ⟨⟨by decide +kernel, by decide +kernel⟩, List.mem_of_getElem? (i := 1473) (by decide +kernel), List.mem_of_getElem? (i := 2299) (by decide +kernel), List.mem_of_getElem? (i := 2300) (by decide +kernel)⟩
theorem lw_p129 : lw_okq (⟨"IceTreatyModel", "worksGo", "()V"⟩, 151) := ⟨⟨by decide +kernel, by decide +kernel⟩, List.mem_of_getElem? (i := 1473) (by decide +kernel), List.mem_of_getElem? (i := 2328) (by decide +kernel), List.mem_of_getElem? (i := 2329) (by decide +kernel)⟩
theorem lw_p130 : lw_okq (⟨"IceTreatyModel", "sounds", "(I)V"⟩, 151) := ⟨⟨by decide +kernel, by decide +kernel⟩, List.mem_of_getElem? (i := 1473) (by decide +kernel), List.mem_of_getElem? (i := 2332) (by decide +kernel), List.mem_of_getElem? (i := 2333) (by decide +kernel)⟩
theorem lw_p131 : lw_okq (⟨"IceTreatyModel", "goesDown", "(I)V"⟩, 151) := ⟨⟨by decide +kernel, by decide +kernel⟩, List.mem_of_getElem? (i := 1473) (by decide +kernel), List.mem_of_getElem? (i := 2336) (by decide +kernel), List.mem_of_getElem? (i := 2337) (by decide +kernel)⟩
theorem lw_p132 : lw_okq (⟨"IceTreatyModel", "sureOf", "(I)I"⟩, 151) := ⟨⟨by decide +kernel, by decide +kernel⟩, List.mem_of_getElem? (i := 1473) (by decide +kernel), List.mem_of_getElem? (i := 2340) (by decide +kernel), List.mem_of_getElem? (i := 2341) (by decide +kernel)⟩
theorem lw_p133 : lw_okq (⟨"IceTreatyModel", "burns", "(I)V"⟩, 151) := ⟨⟨by decide +kernel, by decide +kernel⟩, List.mem_of_getElem? (i := 1473) (by decide +kernel), List.mem_of_getElem? (i := 2344) (by decide +kernel), List.mem_of_getElem? (i := 2345) (by decide +kernel)⟩
theorem lw_p134 : lw_okq (⟨"IceTreatyModel", "goesHome", "(I)V"⟩, 151) := ⟨⟨by decide +kernel, by decide +kernel⟩, List.mem_of_getElem? (i := 1473) (by decide +kernel), List.mem_of_getElem? (i := 2348) (by decide +kernel), List.mem_of_getElem? (i := 2349) (by decide +kernel)⟩
theorem lw_p135 : lw_okq (⟨"IceTreatyModel", "flows", "(I)V"⟩, 151) := ⟨⟨by decide +kernel, by decide +kernel⟩, List.mem_of_getElem? (i := 1473) (by decide +kernel), List.mem_of_getElem? (i := 2352) (by decide +kernel), List.mem_of_getElem? (i := 2353) (by decide +kernel)⟩
theorem lw_p136 : lw_okq (⟨"IceTreatyModel", "loses", "(I)V"⟩, 151) := ⟨⟨by decide +kernel, by decide +kernel⟩, List.mem_of_getElem? (i := 1473) (by decide +kernel), List.mem_of_getElem? (i := 2356) (by decide +kernel), List.mem_of_getElem? (i := 2357) (by decide +kernel)⟩
theorem lw_p137 : lw_okq (⟨"IceTreatyModel", "shipGoes", "(I)V"⟩, 151) := ⟨⟨by decide +kernel, by decide +kernel⟩, List.mem_of_getElem? (i := 1473) (by decide +kernel), List.mem_of_getElem? (i := 2360) (by decide +kernel), List.mem_of_getElem? (i := 2361) (by decide +kernel)⟩
theorem lw_p138 : lw_okq (⟨"IceTreatyModel", "waits", "(I)V"⟩, 151) := ⟨⟨by decide +kernel, by decide +kernel⟩, List.mem_of_getElem? (i := 1473) (by decide +kernel), List.mem_of_getElem? (i := 2364) (by decide +kernel), List.mem_of_getElem? (i := 2365) (by decide +kernel)⟩
theorem lw_p139 : lw_okq (⟨"IceTreatyModel", "arrives", "(I)V"⟩, 151) := ⟨⟨by decide +kernel, by decide +kernel⟩, List.mem_of_getElem? (i := 1473) (by decide +kernel), List.mem_of_getElem? (i := 2368) (by decide +kernel), List.mem_of_getElem? (i := 2369) (by decide +kernel)⟩
theorem lw_p140 : lw_okq (⟨"IceTreatyModel", "turnsBack", "(I)V"⟩, 151) := ⟨⟨by decide +kernel, by decide +kernel⟩, List.mem_of_getElem? (i := 1473) (by decide +kernel), List.mem_of_getElem? (i := 2372) (by decide +kernel), List.mem_of_getElem? (i := 2373) (by decide +kernel)⟩
theorem lw_p141 : lw_okq (⟨"IceTreatyModel", "sledgeGoes", "(I)V"⟩, 151) := ⟨⟨by decide +kernel, by decide +kernel⟩, List.mem_of_getElem? (i := 1473) (by decide +kernel), List.mem_of_getElem? (i := 2376) (by decide +kernel), List.mem_of_getElem? (i := 2377) (by decide +kernel)⟩
theorem lw_p142 : lw_okq (⟨"IceTreatyModel", "isAhead", "(II)Z"⟩, 151) := ⟨⟨by decide +kernel, by decide +kernel⟩, List.mem_of_getElem? (i := 1473) (by decide +kernel), List.mem_of_getElem? (i := 2419) (by decide +kernel), List.mem_of_getElem? (i := 2420) (by decide +kernel)⟩
theorem lw_p143 : lw_okq (⟨"IceTreatyModel", "isDoubt", "(II)Z"⟩, 151) := ⟨⟨by decide +kernel, by decide +kernel⟩, List.mem_of_getElem? (i := 1473) (by decide +kernel), List.mem_of_getElem? (i := 2427) (by decide +kernel), List.mem_of_getElem? (i := 2428) (by decide +kernel)⟩
def lw_privs_9 : List (MethodName × Nat) := [(⟨"IceTreatyModel", "moved", "(III)I"⟩, 151), (⟨"IceTreatyModel", "worksGo", "()V"⟩, 151), (⟨"IceTreatyModel", "sounds", "(I)V"⟩, 151), (⟨"IceTreatyModel", "goesDown", "(I)V"⟩, 151), (⟨"IceTreatyModel", "sureOf", "(I)I"⟩, 151), (⟨"IceTreatyModel", "burns", "(I)V"⟩, 151), (⟨"IceTreatyModel", "goesHome", "(I)V"⟩, 151), (⟨"IceTreatyModel", "flows", "(I)V"⟩, 151), (⟨"IceTreatyModel", "loses", "(I)V"⟩, 151), (⟨"IceTreatyModel", "shipGoes", "(I)V"⟩, 151), (⟨"IceTreatyModel", "waits", "(I)V"⟩, 151), (⟨"IceTreatyModel", "arrives", "(I)V"⟩, 151), (⟨"IceTreatyModel", "turnsBack", "(I)V"⟩, 151), (⟨"IceTreatyModel", "sledgeGoes", "(I)V"⟩, 151), (⟨"IceTreatyModel", "isAhead", "(II)Z"⟩, 151), (⟨"IceTreatyModel", "isDoubt", "(II)Z"⟩, 151)]
theorem lw_r9 : ∀ q ∈ lw_privs_9, lw_okq q := List.forall_mem_cons.mpr ⟨lw_p128, List.forall_mem_cons.mpr ⟨lw_p129, List.forall_mem_cons.mpr ⟨lw_p130, List.forall_mem_cons.mpr ⟨lw_p131, List.forall_mem_cons.mpr ⟨lw_p132, List.forall_mem_cons.mpr ⟨lw_p133, List.forall_mem_cons.mpr ⟨lw_p134, List.forall_mem_cons.mpr ⟨lw_p135, List.forall_mem_cons.mpr ⟨lw_p136, List.forall_mem_cons.mpr ⟨lw_p137, List.forall_mem_cons.mpr ⟨lw_p138, List.forall_mem_cons.mpr ⟨lw_p139, List.forall_mem_cons.mpr ⟨lw_p140, List.forall_mem_cons.mpr ⟨lw_p141, List.forall_mem_cons.mpr ⟨lw_p142, List.forall_mem_cons.mpr ⟨lw_p143, fun _ h => absurd h List.not_mem_nil⟩⟩⟩⟩⟩⟩⟩⟩⟩⟩⟩⟩⟩⟩⟩⟩
theorem lw_p144 : lw_okq (⟨"IceTreatyModel", "isWord", "(I)Z"⟩, 151) := ⟨⟨by decide +kernel, by decide +kernel⟩, List.mem_of_getElem? (i := 1473) (by decide +kernel), List.mem_of_getElem? (i := 2439) (by decide +kernel), List.mem_of_getElem? (i := 2440) (by decide +kernel)⟩
theorem lw_p145 : lw_okq (⟨"IceTreatyModel", "isBlocked", "(II)Z"⟩, 151) := ⟨⟨by decide +kernel, by decide +kernel⟩, List.mem_of_getElem? (i := 1473) (by decide +kernel), List.mem_of_getElem? (i := 2447) (by decide +kernel), List.mem_of_getElem? (i := 2448) (by decide +kernel)⟩
theorem lw_p146 : lw_okq (⟨"IceTreatyModel", "worthOf", "(I)I"⟩, 151) := ⟨⟨by decide +kernel, by decide +kernel⟩, List.mem_of_getElem? (i := 1473) (by decide +kernel), List.mem_of_getElem? (i := 2456) (by decide +kernel), List.mem_of_getElem? (i := 2457) (by decide +kernel)⟩
theorem lw_p147 : lw_okq (⟨"IceTreatyModel", "plans", "(III)V"⟩, 151) := ⟨⟨by decide +kernel, by decide +kernel⟩, List.mem_of_getElem? (i := 1473) (by decide +kernel), List.mem_of_getElem? (i := 2475) (by decide +kernel), List.mem_of_getElem? (i := 2476) (by decide +kernel)⟩
theorem lw_p148 : lw_okq (⟨"IceTreatyModel", "worstEnd", "(I)I"⟩, 151) := ⟨⟨by decide +kernel, by decide +kernel⟩, List.mem_of_getElem? (i := 1473) (by decide +kernel), List.mem_of_getElem? (i := 2479) (by decide +kernel), List.mem_of_getElem? (i := 2480) (by decide +kernel)⟩
theorem lw_p149 : lw_okq (⟨"IceTreatyModel", "endOf", "(II)I"⟩, 151) := ⟨⟨by decide +kernel, by decide +kernel⟩, List.mem_of_getElem? (i := 1473) (by decide +kernel), List.mem_of_getElem? (i := 2483) (by decide +kernel), List.mem_of_getElem? (i := 2484) (by decide +kernel)⟩
theorem lw_p150 : lw_okq (⟨"IceTreatyModel", "nextOrder", "()Z"⟩, 151) := ⟨⟨by decide +kernel, by decide +kernel⟩, List.mem_of_getElem? (i := 1473) (by decide +kernel), List.mem_of_getElem? (i := 2487) (by decide +kernel), List.mem_of_getElem? (i := 2488) (by decide +kernel)⟩
theorem lw_p151 : lw_okq (⟨"IceTreatyModel", "swaps", "(II)V"⟩, 151) := ⟨⟨by decide +kernel, by decide +kernel⟩, List.mem_of_getElem? (i := 1473) (by decide +kernel), List.mem_of_getElem? (i := 2491) (by decide +kernel), List.mem_of_getElem? (i := 2492) (by decide +kernel)⟩
theorem lw_p152 : lw_okq (⟨"IceTreatyModel", "tapeNumber", "(I)I"⟩, 151) := ⟨⟨by decide +kernel, by decide +kernel⟩, List.mem_of_getElem? (i := 1473) (by decide +kernel), List.mem_of_getElem? (i := 2513) (by decide +kernel), List.mem_of_getElem? (i := 2514) (by decide +kernel)⟩
theorem lw_p153 : lw_okq (⟨"IceTreatyModel", "lookAt", "(II)I"⟩, 151) := ⟨⟨by decide +kernel, by decide +kernel⟩, List.mem_of_getElem? (i := 1473) (by decide +kernel), List.mem_of_getElem? (i := 2521) (by decide +kernel), List.mem_of_getElem? (i := 2522) (by decide +kernel)⟩
def lw_privs_10 : List (MethodName × Nat) := [(⟨"IceTreatyModel", "isWord", "(I)Z"⟩, 151), (⟨"IceTreatyModel", "isBlocked", "(II)Z"⟩, 151), (⟨"IceTreatyModel", "worthOf", "(I)I"⟩, 151), (⟨"IceTreatyModel", "plans", "(III)V"⟩, 151), (⟨"IceTreatyModel", "worstEnd", "(I)I"⟩, 151), (⟨"IceTreatyModel", "endOf", "(II)I"⟩, 151), (⟨"IceTreatyModel", "nextOrder", "()Z"⟩, 151), (⟨"IceTreatyModel", "swaps", "(II)V"⟩, 151), (⟨"IceTreatyModel", "tapeNumber", "(I)I"⟩, 151), (⟨"IceTreatyModel", "lookAt", "(II)I"⟩, 151)]
theorem lw_r10 : ∀ q ∈ lw_privs_10, lw_okq q := List.forall_mem_cons.mpr ⟨lw_p144, List.forall_mem_cons.mpr ⟨lw_p145, List.forall_mem_cons.mpr ⟨lw_p146, List.forall_mem_cons.mpr ⟨lw_p147, List.forall_mem_cons.mpr ⟨lw_p148, List.forall_mem_cons.mpr ⟨lw_p149, List.forall_mem_cons.mpr ⟨lw_p150, List.forall_mem_cons.mpr ⟨lw_p151, List.forall_mem_cons.mpr ⟨lw_p152, List.forall_mem_cons.mpr ⟨lw_p153, fun _ h => absurd h List.not_mem_nil⟩⟩⟩⟩⟩⟩⟩⟩⟩⟩
def lw_privs : List (MethodName × Nat) := lw_privs_1 ++ (lw_privs_2 ++ (lw_privs_3 ++ (lw_privs_4 ++ (lw_privs_5 ++ (lw_privs_6 ++ (lw_privs_7 ++ (lw_privs_8 ++ (lw_privs_9 ++ (lw_privs_10)))))))))
def lw_tbl : List Cond := k2_sels lw_privs ++ tables_1
theorem lw_privs_ok : ∀ q ∈ lw_privs, lw_okq q := by
  show ∀ q ∈ lw_privs_1 ++ (lw_privs_2 ++ (lw_privs_3 ++ (lw_privs_4 ++ (lw_privs_5 ++ (lw_privs_6 ++ (lw_privs_7 ++ (lw_privs_8 ++ (lw_privs_9 ++ (lw_privs_10))))))))), lw_okq q
  exact List.forall_mem_append.mpr ⟨lw_r1, List.forall_mem_append.mpr ⟨lw_r2, List.forall_mem_append.mpr ⟨lw_r3, List.forall_mem_append.mpr ⟨lw_r4, List.forall_mem_append.mpr ⟨lw_r5, List.forall_mem_append.mpr ⟨lw_r6, List.forall_mem_append.mpr ⟨lw_r7, List.forall_mem_append.mpr ⟨lw_r8, List.forall_mem_append.mpr ⟨lw_r9, lw_r10⟩⟩⟩⟩⟩⟩⟩⟩⟩
end
section
def RX0 : String := "IceTreaty$Land"
def TX0 : u_T := fun k => match k with
  | 0 => ("IceTreaty$Land", "today", "I", false)
  | 1 => ("IceTreaty$Land", "darkFrom", "I", false)
  | 2 => ("IceTreaty$Land", "darkTo", "I", false)
  | 3 => ("IceTreaty$Land", "columns", "I", false)
  | 4 => ("IceTreaty$Land", "rows", "I", false)
  | 5 => ("IceTreaty$Land", "heights", "[I", true)
  | 6 => ("IceTreaty$Land", "grounds", "[I", true)
  | 7 => ("IceTreaty$Land", "ways", "[I", true)
  | 8 => ("IceTreaty$Land", "flowDays", "[I", true)
  | 9 => ("IceTreaty$Land", "covers", "[I", true)
  | 10 => ("IceTreaty$Land", "seaDays", "[I", true)
  | 11 => ("IceTreaty$Land", "reach", "[I", true)
  | _ => ("IceTreaty$Land", "reached", "[I", true)
def tyX0 : Nat → FieldType := fun k => match k with
  | 0 => .int
  | 1 => .int
  | 2 => .int
  | 3 => .int
  | 4 => .int
  | 5 => .array .int
  | 6 => .array .int
  | 7 => .array .int
  | 8 => .array .int
  | 9 => .array .int
  | 10 => .array .int
  | 11 => .array .int
  | _ => .array .int
abbrev wsX00 : List Cond := u_ws RX0 TX0 13
theorem nmX0 : ∀ a, a < 13 → ∀ b, b < 13 → a ≠ b → (TX0 a).2.1 ≠ (TX0 b).2.1 := by decide +kernel
theorem tyX0_ok : ∀ k, k < 13 → parseFieldDescriptor (TX0 k).2.2.1 = some (tyX0 k) := by decide +kernel
abbrev cX0_init : ByteArray := prog_2_method_1_code
def yX0_init : MethodName := ⟨RX0, "<init>", "()V"⟩
abbrev cX0_lay : ByteArray := prog_2_method_2_code
def yX0_lay : MethodName := ⟨RX0, "lay", "(II)V"⟩
abbrev cX0_isCell : ByteArray := prog_2_method_3_code
def yX0_isCell : MethodName := ⟨RX0, "isCell", "(I)Z"⟩
abbrev cX0_isFirm : ByteArray := prog_2_method_4_code
def yX0_isFirm : MethodName := ⟨RX0, "isFirm", "(I)Z"⟩
abbrev cX0_rowOf : ByteArray := prog_2_method_5_code
def yX0_rowOf : MethodName := ⟨RX0, "rowOf", "(I)I"⟩
abbrev cX0_columnOf : ByteArray := prog_2_method_6_code
def yX0_columnOf : MethodName := ⟨RX0, "columnOf", "(I)I"⟩
abbrev cX0_far : ByteArray := prog_2_method_7_code
def yX0_far : MethodName := ⟨RX0, "far", "(II)I"⟩
abbrev cX0_isRectangle : ByteArray := prog_2_method_8_code
def yX0_isRectangle : MethodName := ⟨RX0, "isRectangle", "(II)Z"⟩
abbrev cX0_isWithin : ByteArray := prog_2_method_9_code
def yX0_isWithin : MethodName := ⟨RX0, "isWithin", "(III)Z"⟩
abbrev cX0_beside : ByteArray := prog_2_method_10_code
def yX0_beside : MethodName := ⟨RX0, "beside", "(II)I"⟩
abbrev cX0_isNearSea : ByteArray := prog_2_method_11_code
def yX0_isNearSea : MethodName := ⟨RX0, "isNearSea", "(I)Z"⟩
abbrev cX0_isDark : ByteArray := prog_2_method_12_code
def yX0_isDark : MethodName := ⟨RX0, "isDark", "(I)Z"⟩
abbrev cX0_coverOn : ByteArray := prog_2_method_13_code
def yX0_coverOn : MethodName := ⟨RX0, "coverOn", "(II)I"⟩
abbrev cX0_carries : ByteArray := prog_2_method_14_code
def yX0_carries : MethodName := ⟨RX0, "carries", "(II)Z"⟩
abbrev cX0_leastDays : ByteArray := prog_2_method_15_code
def yX0_leastDays : MethodName := ⟨RX0, "leastDays", "(II)I"⟩
abbrev cX0_nearestOpen : ByteArray := prog_2_method_16_code
def yX0_nearestOpen : MethodName := ⟨RX0, "nearestOpen", "()I"⟩
abbrev cX0_step : ByteArray := prog_2_method_17_code
def yX0_step : MethodName := ⟨RX0, "step", "(II)V"⟩
def RX1 : String := "IceTreaty$Law"
def TX1 : u_T := fun k => match k with
  | 0 => ("IceTreaty$Law", "texts", "[LIceTreaty$Text;", true)
  | 1 => ("IceTreaty$Law", "textCount", "I", false)
  | 2 => ("IceTreaty$Law", "readings", "LIceTreaty$Table;", true)
  | 3 => ("IceTreaty$Law", "readingTexts", "[LIceTreaty$Text;", true)
  | 4 => ("IceTreaty$Law", "counting", "[I", true)
  | 5 => ("IceTreaty$Law", "struck", "[I", true)
  | 6 => ("IceTreaty$Law", "weighedParty", "I", false)
  | 7 => ("IceTreaty$Law", "weighedDay", "I", false)
  | 8 => ("IceTreaty$Law", "letters", "[I", true)
  | 9 => ("IceTreaty$Law", "stack", "[I", true)
  | 10 => ("IceTreaty$Law", "height", "I", false)
  | 11 => ("IceTreaty$Law", "barText", "I", false)
  | _ => ("IceTreaty$Law", "barClause", "I", false)
def tyX1 : Nat → FieldType := fun k => match k with
  | 0 => .array (.object "IceTreaty$Text")
  | 1 => .int
  | 2 => .object "IceTreaty$Table"
  | 3 => .array (.object "IceTreaty$Text")
  | 4 => .array .int
  | 5 => .array .int
  | 6 => .int
  | 7 => .int
  | 8 => .array .int
  | 9 => .array .int
  | 10 => .int
  | 11 => .int
  | _ => .int
abbrev wsX10 : List Cond := u_ws RX1 TX1 13
theorem nmX1 : ∀ a, a < 13 → ∀ b, b < 13 → a ≠ b → (TX1 a).2.1 ≠ (TX1 b).2.1 := by decide +kernel
theorem tyX1_ok : ∀ k, k < 13 → parseFieldDescriptor (TX1 k).2.2.1 = some (tyX1 k) := by decide +kernel
abbrev cX1_init : ByteArray := prog_3_method_1_code
def yX1_init : MethodName := ⟨RX1, "<init>", "()V"⟩
abbrev cX1_textOf : ByteArray := prog_3_method_2_code
def yX1_textOf : MethodName := ⟨RX1, "textOf", "(I)LIceTreaty$Text;"⟩
abbrev cX1_addText : ByteArray := prog_3_method_3_code
def yX1_addText : MethodName := ⟨RX1, "addText", "(LIceTreaty$Text;)I"⟩
abbrev cX1_addReading : ByteArray := prog_3_method_4_code
def yX1_addReading : MethodName := ⟨RX1, "addReading", "(IIILIceTreaty$Text;)V"⟩
abbrev cX1_forget : ByteArray := prog_3_method_5_code
def yX1_forget : MethodName := ⟨RX1, "forget", "()V"⟩
abbrev cX1_weigh : ByteArray := prog_3_method_6_code
def yX1_weigh : MethodName := ⟨RX1, "weigh", "(ILIceTreaty$Party;I)V"⟩
abbrev cX1_binds : ByteArray := prog_3_method_7_code
def yX1_binds : MethodName := ⟨RX1, "binds", "(ILIceTreaty$Party;II)Z"⟩
abbrev cX1_weighTexts : ByteArray := prog_3_method_8_code
def yX1_weighTexts : MethodName := ⟨RX1, "weighTexts", "(II)V"⟩
abbrev cX1_strike : ByteArray := prog_3_method_9_code
def yX1_strike : MethodName := ⟨RX1, "strike", "(ILIceTreaty$Table;I)V"⟩
abbrev cX1_isCounting : ByteArray := prog_3_method_10_code
def yX1_isCounting : MethodName := ⟨RX1, "isCounting", "(II)Z"⟩
abbrev cX1_numberOf : ByteArray := prog_3_method_11_code
def yX1_numberOf : MethodName := ⟨RX1, "numberOf", "(III)I"⟩
abbrev cX1_judge : ByteArray := prog_3_method_12_code
def yX1_judge : MethodName := ⟨RX1, "judge", "(LIceTreaty$Work;IZZ)I"⟩
abbrev cX1_readingOf : ByteArray := prog_3_method_13_code
def yX1_readingOf : MethodName := ⟨RX1, "readingOf", "(III)LIceTreaty$Text;"⟩
abbrev cX1_bar : ByteArray := prog_3_method_14_code
def yX1_bar : MethodName := ⟨RX1, "bar", "(LIceTreaty$Text;ILIceTreaty$Work;IZ)I"⟩
abbrev cX1_wasTold : ByteArray := prog_3_method_15_code
def yX1_wasTold : MethodName := ⟨RX1, "wasTold", "(II)Z"⟩
abbrev cX1_holds : ByteArray := prog_3_method_16_code
def yX1_holds : MethodName := ⟨RX1, "holds", "(LIceTreaty$Text;I)I"⟩
abbrev cX1_reckon : ByteArray := prog_3_method_17_code
def yX1_reckon : MethodName := ⟨RX1, "reckon", "(III)I"⟩
abbrev cX1_push : ByteArray := prog_3_method_18_code
def yX1_push : MethodName := ⟨RX1, "push", "(I)V"⟩
abbrev cX1_pop : ByteArray := prog_3_method_19_code
def yX1_pop : MethodName := ⟨RX1, "pop", "()I"⟩
def RX2 : String := "IceTreaty$Party"
def TX2 : u_T := fun k => match k with
  | 0 => ("IceTreaty$Party", "decidesFrom", "I", false)
  | 1 => ("IceTreaty$Party", "science", "I", false)
  | 2 => ("IceTreaty$Party", "barred", "I", false)
  | 3 => ("IceTreaty$Party", "yesDays", "[I", true)
  | _ => ("IceTreaty$Party", "wanted", "[I", true)
def tyX2 : Nat → FieldType := fun k => match k with
  | 0 => .int
  | 1 => .int
  | 2 => .int
  | 3 => .array .int
  | _ => .array .int
abbrev wsX20 : List Cond := u_ws RX2 TX2 5
theorem nmX2 : ∀ a, a < 5 → ∀ b, b < 5 → a ≠ b → (TX2 a).2.1 ≠ (TX2 b).2.1 := by decide +kernel
theorem tyX2_ok : ∀ k, k < 5 → parseFieldDescriptor (TX2 k).2.2.1 = some (tyX2 k) := by decide +kernel
abbrev cX2_init : ByteArray := prog_4_method_1_code
def yX2_init : MethodName := ⟨RX2, "<init>", "(I)V"⟩
abbrev cX2_decidesOn : ByteArray := prog_4_method_2_code
def yX2_decidesOn : MethodName := ⟨RX2, "decidesOn", "(I)Z"⟩
abbrev cX2_blocksWords : ByteArray := prog_4_method_3_code
def yX2_blocksWords : MethodName := ⟨RX2, "blocksWords", "(I)Z"⟩
def RX3 : String := "IceTreaty$Place"
def TX3 : u_T := fun k => match k with
  | 0 => ("IceTreaty$Place", "kind", "I", true)
  | 1 => ("IceTreaty$Place", "owner", "I", true)
  | 2 => ("IceTreaty$Place", "first", "I", false)
  | 3 => ("IceTreaty$Place", "last", "I", true)
  | 4 => ("IceTreaty$Place", "rank", "I", false)
  | 5 => ("IceTreaty$Place", "lost", "Z", false)
  | 6 => ("IceTreaty$Place", "people", "I", false)
  | 7 => ("IceTreaty$Place", "drums", "I", false)
  | 8 => ("IceTreaty$Place", "hidden", "I", false)
  | 9 => ("IceTreaty$Place", "cold", "I", false)
  | 10 => ("IceTreaty$Place", "since", "I", false)
  | 11 => ("IceTreaty$Place", "toldPeople", "I", false)
  | 12 => ("IceTreaty$Place", "toldDrums", "I", false)
  | 13 => ("IceTreaty$Place", "rows", "[I", true)
  | 14 => ("IceTreaty$Place", "noises", "[I", true)
  | _ => ("IceTreaty$Place", "soundings", "LIceTreaty$Table;", true)
def tyX3 : Nat → FieldType := fun k => match k with
  | 0 => .int
  | 1 => .int
  | 2 => .int
  | 3 => .int
  | 4 => .int
  | 5 => .boolean
  | 6 => .int
  | 7 => .int
  | 8 => .int
  | 9 => .int
  | 10 => .int
  | 11 => .int
  | 12 => .int
  | 13 => .array .int
  | 14 => .array .int
  | _ => .object "IceTreaty$Table"
abbrev wsX30 : List Cond := u_ws RX3 TX3 16
theorem nmX3 : ∀ a, a < 16 → ∀ b, b < 16 → a ≠ b → (TX3 a).2.1 ≠ (TX3 b).2.1 := by decide +kernel
theorem tyX3_ok : ∀ k, k < 16 → parseFieldDescriptor (TX3 k).2.2.1 = some (tyX3 k) := by decide +kernel
abbrev cX3_init : ByteArray := prog_5_method_1_code
def yX3_init : MethodName := ⟨RX3, "<init>", "(IIIII)V"⟩
abbrev cX3_addSounding : ByteArray := prog_5_method_2_code
def yX3_addSounding : MethodName := ⟨RX3, "addSounding", "(II)Z"⟩
abbrev cX3_sureDepth : ByteArray := prog_5_method_3_code
def yX3_sureDepth : MethodName := ⟨RX3, "sureDepth", "()I"⟩
def RX4 : String := "IceTreaty$Rows"
def TX4 : u_T := fun k => match k with
  | _ => ("", "", "", false)
def tyX4 : Nat → FieldType := fun k => match k with
  | _ => .int
abbrev wsX40 : List Cond := u_ws RX4 TX4 0
theorem nmX4 : ∀ a, a < 0 → ∀ b, b < 0 → a ≠ b → (TX4 a).2.1 ≠ (TX4 b).2.1 := by decide +kernel
theorem tyX4_ok : ∀ k, k < 0 → parseFieldDescriptor (TX4 k).2.2.1 = some (tyX4 k) := by decide +kernel
abbrev cX4_get : ByteArray := prog_6_method_2_code
def yX4_get : MethodName := ⟨RX4, "get", "([II)I"⟩
abbrev cX4_put : ByteArray := prog_6_method_3_code
def yX4_put : MethodName := ⟨RX4, "put", "([III)V"⟩
abbrev cX4_add : ByteArray := prog_6_method_4_code
def yX4_add : MethodName := ⟨RX4, "add", "([III)V"⟩
abbrev cX4_fill : ByteArray := prog_6_method_5_code
def yX4_fill : MethodName := ⟨RX4, "fill", "([II)V"⟩
def RX5 : String := "IceTreaty$Scribe"
def TX5 : u_T := fun k => match k with
  | 0 => ("IceTreaty$Scribe", "source", "[I", true)
  | 1 => ("IceTreaty$Scribe", "end", "I", true)
  | 2 => ("IceTreaty$Scribe", "text", "LIceTreaty$Text;", true)
  | 3 => ("IceTreaty$Scribe", "place", "I", false)
  | 4 => ("IceTreaty$Scribe", "depth", "I", false)
  | 5 => ("IceTreaty$Scribe", "fault", "I", false)
  | _ => ("IceTreaty$Scribe", "faultPlace", "I", false)
def tyX5 : Nat → FieldType := fun k => match k with
  | 0 => .array .int
  | 1 => .int
  | 2 => .object "IceTreaty$Text"
  | 3 => .int
  | 4 => .int
  | 5 => .int
  | _ => .int
abbrev wsX50 : List Cond := u_ws RX5 TX5 7
theorem nmX5 : ∀ a, a < 7 → ∀ b, b < 7 → a ≠ b → (TX5 a).2.1 ≠ (TX5 b).2.1 := by decide +kernel
theorem tyX5_ok : ∀ k, k < 7 → parseFieldDescriptor (TX5 k).2.2.1 = some (tyX5 k) := by decide +kernel
abbrev cX5_init : ByteArray := prog_7_method_1_code
def yX5_init : MethodName := ⟨RX5, "<init>", "([IILIceTreaty$Text;)V"⟩
abbrev cX5_faultAnswer : ByteArray := prog_7_method_2_code
def yX5_faultAnswer : MethodName := ⟨RX5, "faultAnswer", "()I"⟩
abbrev cX5_writeText : ByteArray := prog_7_method_3_code
def yX5_writeText : MethodName := ⟨RX5, "writeText", "()V"⟩
abbrev cX5_writeReading : ByteArray := prog_7_method_4_code
def yX5_writeReading : MethodName := ⟨RX5, "writeReading", "()V"⟩
abbrev cX5_clause : ByteArray := prog_7_method_5_code
def yX5_clause : MethodName := ⟨RX5, "clause", "()V"⟩
abbrev cX5_isClauseLetter : ByteArray := prog_7_method_6_code
def yX5_isClauseLetter : MethodName := ⟨RX5, "isClauseLetter", "(I)Z"⟩
abbrev cX5_condition : ByteArray := prog_7_method_7_code
def yX5_condition : MethodName := ⟨RX5, "condition", "()V"⟩
abbrev cX5_parts : ByteArray := prog_7_method_8_code
def yX5_parts : MethodName := ⟨RX5, "parts", "()V"⟩
abbrev cX5_part : ByteArray := prog_7_method_9_code
def yX5_part : MethodName := ⟨RX5, "part", "()V"⟩
abbrev cX5_piece : ByteArray := prog_7_method_10_code
def yX5_piece : MethodName := ⟨RX5, "piece", "()V"⟩
abbrev cX5_negation : ByteArray := prog_7_method_11_code
def yX5_negation : MethodName := ⟨RX5, "negation", "()V"⟩
abbrev cX5_comparison : ByteArray := prog_7_method_12_code
def yX5_comparison : MethodName := ⟨RX5, "comparison", "(I)I"⟩
abbrev cX5_terms : ByteArray := prog_7_method_13_code
def yX5_terms : MethodName := ⟨RX5, "terms", "()V"⟩
abbrev cX5_factors : ByteArray := prog_7_method_14_code
def yX5_factors : MethodName := ⟨RX5, "factors", "()V"⟩
abbrev cX5_factor : ByteArray := prog_7_method_15_code
def yX5_factor : MethodName := ⟨RX5, "factor", "()V"⟩
abbrev cX5_digits : ByteArray := prog_7_method_16_code
def yX5_digits : MethodName := ⟨RX5, "digits", "(I)I"⟩
abbrev cX5_isDigit : ByteArray := prog_7_method_17_code
def yX5_isDigit : MethodName := ⟨RX5, "isDigit", "(I)Z"⟩
abbrev cX5_isFactorSign : ByteArray := prog_7_method_18_code
def yX5_isFactorSign : MethodName := ⟨RX5, "isFactorSign", "(I)Z"⟩
abbrev cX5_next : ByteArray := prog_7_method_19_code
def yX5_next : MethodName := ⟨RX5, "next", "()I"⟩
abbrev cX5_take : ByteArray := prog_7_method_20_code
def yX5_take : MethodName := ⟨RX5, "take", "(I)V"⟩
abbrev cX5_deepen : ByteArray := prog_7_method_21_code
def yX5_deepen : MethodName := ⟨RX5, "deepen", "(I)V"⟩
abbrev cX5_refuse : ByteArray := prog_7_method_22_code
def yX5_refuse : MethodName := ⟨RX5, "refuse", "(II)V"⟩
abbrev cX5_set : ByteArray := prog_7_method_23_code
def yX5_set : MethodName := ⟨RX5, "set", "(II)V"⟩
def RX6 : String := "IceTreaty$Season"
def TX6 : u_T := fun k => match k with
  | 0 => ("IceTreaty$Season", "stops", "LIceTreaty$Table;", true)
  | 1 => ("IceTreaty$Season", "opens", "[I", true)
  | 2 => ("IceTreaty$Season", "closes", "[I", true)
  | 3 => ("IceTreaty$Season", "legs", "[I", true)
  | 4 => ("IceTreaty$Season", "days", "[I", true)
  | 5 => ("IceTreaty$Season", "order", "[I", true)
  | 6 => ("IceTreaty$Season", "ahead", "[I", true)
  | 7 => ("IceTreaty$Season", "best", "[I", true)
  | 8 => ("IceTreaty$Season", "start", "I", false)
  | _ => ("IceTreaty$Season", "end", "I", false)
def tyX6 : Nat → FieldType := fun k => match k with
  | 0 => .object "IceTreaty$Table"
  | 1 => .array .int
  | 2 => .array .int
  | 3 => .array .int
  | 4 => .array .int
  | 5 => .array .int
  | 6 => .array .int
  | 7 => .array .int
  | 8 => .int
  | _ => .int
abbrev wsX60 : List Cond := u_ws RX6 TX6 10
theorem nmX6 : ∀ a, a < 10 → ∀ b, b < 10 → a ≠ b → (TX6 a).2.1 ≠ (TX6 b).2.1 := by decide +kernel
theorem tyX6_ok : ∀ k, k < 10 → parseFieldDescriptor (TX6 k).2.2.1 = some (tyX6 k) := by decide +kernel
abbrev cX6_init : ByteArray := prog_8_method_1_code
def yX6_init : MethodName := ⟨RX6, "<init>", "()V"⟩
abbrev cX6_forget : ByteArray := prog_8_method_2_code
def yX6_forget : MethodName := ⟨RX6, "forget", "()V"⟩
abbrev cX6_hasStation : ByteArray := prog_8_method_3_code
def yX6_hasStation : MethodName := ⟨RX6, "hasStation", "(I)Z"⟩
abbrev cX6_needs : ByteArray := prog_8_method_4_code
def yX6_needs : MethodName := ⟨RX6, "needs", "()I"⟩
abbrev cX6_seek : ByteArray := prog_8_method_5_code
def yX6_seek : MethodName := ⟨RX6, "seek", "(I)V"⟩
abbrev cX6_lookAhead : ByteArray := prog_8_method_6_code
def yX6_lookAhead : MethodName := ⟨RX6, "lookAhead", "()V"⟩
abbrev cX6_leastAhead : ByteArray := prog_8_method_7_code
def yX6_leastAhead : MethodName := ⟨RX6, "leastAhead", "(II)I"⟩
abbrev cX6_extend : ByteArray := prog_8_method_8_code
def yX6_extend : MethodName := ⟨RX6, "extend", "(II)V"⟩
abbrev cX6_goOn : ByteArray := prog_8_method_9_code
def yX6_goOn : MethodName := ⟨RX6, "goOn", "(II)V"⟩
abbrev cX6_comes : ByteArray := prog_8_method_10_code
def yX6_comes : MethodName := ⟨RX6, "comes", "(III)Z"⟩
abbrev cX6_keep : ByteArray := prog_8_method_11_code
def yX6_keep : MethodName := ⟨RX6, "keep", "()V"⟩
def RX7 : String := "IceTreaty$Ship"
def TX7 : u_T := fun k => match k with
  | 0 => ("IceTreaty$Ship", "owner", "I", true)
  | 1 => ("IceTreaty$Ship", "room", "I", true)
  | 2 => ("IceTreaty$Ship", "strength", "I", true)
  | 3 => ("IceTreaty$Ship", "state", "I", false)
  | 4 => ("IceTreaty$Ship", "sea", "I", false)
  | 5 => ("IceTreaty$Ship", "station", "I", false)
  | 6 => ("IceTreaty$Ship", "drums", "I", false)
  | 7 => ("IceTreaty$Ship", "waste", "I", false)
  | 8 => ("IceTreaty$Ship", "due", "I", false)
  | 9 => ("IceTreaty$Ship", "waited", "I", false)
  | _ => ("IceTreaty$Ship", "days", "I", false)
def tyX7 : Nat → FieldType := fun k => match k with
  | 0 => .int
  | 1 => .int
  | 2 => .int
  | 3 => .int
  | 4 => .int
  | 5 => .int
  | 6 => .int
  | 7 => .int
  | 8 => .int
  | 9 => .int
  | _ => .int
abbrev wsX70 : List Cond := u_ws RX7 TX7 11
theorem nmX7 : ∀ a, a < 11 → ∀ b, b < 11 → a ≠ b → (TX7 a).2.1 ≠ (TX7 b).2.1 := by decide +kernel
theorem tyX7_ok : ∀ k, k < 11 → parseFieldDescriptor (TX7 k).2.2.1 = some (tyX7 k) := by decide +kernel
abbrev cX7_init : ByteArray := prog_9_method_1_code
def yX7_init : MethodName := ⟨RX7, "<init>", "(III)V"⟩
abbrev cX7_leave : ByteArray := prog_9_method_2_code
def yX7_leave : MethodName := ⟨RX7, "leave", "(IIIII)V"⟩
abbrev cX7_turnBack : ByteArray := prog_9_method_3_code
def yX7_turnBack : MethodName := ⟨RX7, "turnBack", "(I)V"⟩
def RX8 : String := "IceTreaty$Table"
def TX8 : u_T := fun k => match k with
  | 0 => ("IceTreaty$Table", "width", "I", true)
  | 1 => ("IceTreaty$Table", "most", "I", true)
  | 2 => ("IceTreaty$Table", "cells", "[I", true)
  | _ => ("IceTreaty$Table", "size", "I", false)
def tyX8 : Nat → FieldType := fun k => match k with
  | 0 => .int
  | 1 => .int
  | 2 => .array .int
  | _ => .int
abbrev wsX80 : List Cond := u_ws RX8 TX8 4
theorem nmX8 : ∀ a, a < 4 → ∀ b, b < 4 → a ≠ b → (TX8 a).2.1 ≠ (TX8 b).2.1 := by decide +kernel
theorem tyX8_ok : ∀ k, k < 4 → parseFieldDescriptor (TX8 k).2.2.1 = some (tyX8 k) := by decide +kernel
abbrev cX8_init : ByteArray := prog_10_method_1_code
def yX8_init : MethodName := ⟨RX8, "<init>", "(II)V"⟩
abbrev cX8_isFull : ByteArray := prog_10_method_2_code
def yX8_isFull : MethodName := ⟨RX8, "isFull", "()Z"⟩
abbrev cX8_has : ByteArray := prog_10_method_3_code
def yX8_has : MethodName := ⟨RX8, "has", "(I)Z"⟩
abbrev cX8_get : ByteArray := prog_10_method_4_code
def yX8_get : MethodName := ⟨RX8, "get", "(II)I"⟩
abbrev cX8_put : ByteArray := prog_10_method_5_code
def yX8_put : MethodName := ⟨RX8, "put", "(III)V"⟩
abbrev cX8_append : ByteArray := prog_10_method_6_code
def yX8_append : MethodName := ⟨RX8, "append", "(IIIII)I"⟩
def RX9 : String := "IceTreaty$Text"
def TX9 : u_T := fun k => match k with
  | 0 => ("IceTreaty$Text", "from", "I", true)
  | 1 => ("IceTreaty$Text", "to", "I", true)
  | 2 => ("IceTreaty$Text", "clauses", "LIceTreaty$Table;", true)
  | 3 => ("IceTreaty$Text", "steps", "[I", true)
  | _ => ("IceTreaty$Text", "stepCount", "I", false)
def tyX9 : Nat → FieldType := fun k => match k with
  | 0 => .int
  | 1 => .int
  | 2 => .object "IceTreaty$Table"
  | 3 => .array .int
  | _ => .int
abbrev wsX90 : List Cond := u_ws RX9 TX9 5
theorem nmX9 : ∀ a, a < 5 → ∀ b, b < 5 → a ≠ b → (TX9 a).2.1 ≠ (TX9 b).2.1 := by decide +kernel
theorem tyX9_ok : ∀ k, k < 5 → parseFieldDescriptor (TX9 k).2.2.1 = some (tyX9 k) := by decide +kernel
abbrev cX9_init : ByteArray := prog_11_method_1_code
def yX9_init : MethodName := ⟨RX9, "<init>", "(IIII)V"⟩
abbrev cX9_isInForce : ByteArray := prog_11_method_2_code
def yX9_isInForce : MethodName := ⟨RX9, "isInForce", "(I)Z"⟩
abbrev cX9_letterOf : ByteArray := prog_11_method_3_code
def yX9_letterOf : MethodName := ⟨RX9, "letterOf", "(I)I"⟩
abbrev cX9_hasCondition : ByteArray := prog_11_method_4_code
def yX9_hasCondition : MethodName := ⟨RX9, "hasCondition", "(I)Z"⟩
abbrev cX9_addStep : ByteArray := prog_11_method_5_code
def yX9_addStep : MethodName := ⟨RX9, "addStep", "(II)I"⟩
abbrev cX9_lead : ByteArray := prog_11_method_6_code
def yX9_lead : MethodName := ⟨RX9, "lead", "(I)V"⟩
def RX10 : String := "IceTreaty$Work"
def TX10 : u_T := fun k => match k with
  | 0 => ("IceTreaty$Work", "kind", "I", true)
  | 1 => ("IceTreaty$Work", "owner", "I", true)
  | 2 => ("IceTreaty$Work", "cell", "I", true)
  | 3 => ("IceTreaty$Work", "from", "I", true)
  | 4 => ("IceTreaty$Work", "to", "I", true)
  | 5 => ("IceTreaty$Work", "people", "I", false)
  | 6 => ("IceTreaty$Work", "noise", "I", false)
  | 7 => ("IceTreaty$Work", "daysDone", "I", false)
  | 8 => ("IceTreaty$Work", "daysHeld", "I", false)
  | 9 => ("IceTreaty$Work", "notice", "I", false)
  | 10 => ("IceTreaty$Work", "leave", "I", false)
  | 11 => ("IceTreaty$Work", "study", "I", false)
  | 12 => ("IceTreaty$Work", "harm", "I", false)
  | 13 => ("IceTreaty$Work", "yeses", "I", false)
  | _ => ("IceTreaty$Work", "noes", "I", false)
def tyX10 : Nat → FieldType := fun k => match k with
  | 0 => .int
  | 1 => .int
  | 2 => .int
  | 3 => .int
  | 4 => .int
  | 5 => .int
  | 6 => .int
  | 7 => .int
  | 8 => .int
  | 9 => .int
  | 10 => .int
  | 11 => .int
  | 12 => .int
  | 13 => .int
  | _ => .int
abbrev wsX100 : List Cond := u_ws RX10 TX10 15
theorem nmX10 : ∀ a, a < 15 → ∀ b, b < 15 → a ≠ b → (TX10 a).2.1 ≠ (TX10 b).2.1 := by decide +kernel
theorem tyX10_ok : ∀ k, k < 15 → parseFieldDescriptor (TX10 k).2.2.1 = some (tyX10 k) := by decide +kernel
abbrev cX10_init : ByteArray := prog_12_method_1_code
def yX10_init : MethodName := ⟨RX10, "<init>", "(IIIII)V"⟩
def RX11 : String := "IceTreaty"
def TX11 : u_T := fun k => match k with
  | 0 => ("IceTreaty", "land", "LIceTreaty$Land;", true)
  | 1 => ("IceTreaty", "law", "LIceTreaty$Law;", true)
  | 2 => ("IceTreaty", "season", "LIceTreaty$Season;", true)
  | 3 => ("IceTreaty", "parties", "[LIceTreaty$Party;", true)
  | 4 => ("IceTreaty", "partyCount", "I", false)
  | 5 => ("IceTreaty", "places", "[LIceTreaty$Place;", true)
  | 6 => ("IceTreaty", "placeCount", "I", false)
  | 7 => ("IceTreaty", "works", "[LIceTreaty$Work;", true)
  | 8 => ("IceTreaty", "workCount", "I", false)
  | 9 => ("IceTreaty", "ships", "[LIceTreaty$Ship;", true)
  | 10 => ("IceTreaty", "shipCount", "I", false)
  | 11 => ("IceTreaty", "sledges", "LIceTreaty$Table;", true)
  | 12 => ("IceTreaty", "visits", "LIceTreaty$Table;", true)
  | 13 => ("IceTreaty", "drills", "LIceTreaty$Table;", true)
  | 14 => ("IceTreaty", "catches", "LIceTreaty$Table;", true)
  | 15 => ("IceTreaty", "reports", "LIceTreaty$Table;", true)
  | 16 => ("IceTreaty", "words", "LIceTreaty$Table;", true)
  | 17 => ("IceTreaty", "tape", "LIceTreaty$Table;", true)
  | 18 => ("IceTreaty", "speeds", "[I", true)
  | _ => ("IceTreaty", "sums", "[J", true)
def tyX11 : Nat → FieldType := fun k => match k with
  | 0 => .object "IceTreaty$Land"
  | 1 => .object "IceTreaty$Law"
  | 2 => .object "IceTreaty$Season"
  | 3 => .array (.object "IceTreaty$Party")
  | 4 => .int
  | 5 => .array (.object "IceTreaty$Place")
  | 6 => .int
  | 7 => .array (.object "IceTreaty$Work")
  | 8 => .int
  | 9 => .array (.object "IceTreaty$Ship")
  | 10 => .int
  | 11 => .object "IceTreaty$Table"
  | 12 => .object "IceTreaty$Table"
  | 13 => .object "IceTreaty$Table"
  | 14 => .object "IceTreaty$Table"
  | 15 => .object "IceTreaty$Table"
  | 16 => .object "IceTreaty$Table"
  | 17 => .object "IceTreaty$Table"
  | 18 => .array .int
  | _ => .array .long
abbrev wsX110 : List Cond := u_ws RX11 TX11 20
theorem nmX11 : ∀ a, a < 20 → ∀ b, b < 20 → a ≠ b → (TX11 a).2.1 ≠ (TX11 b).2.1 := by decide +kernel
theorem tyX11_ok : ∀ k, k < 20 → parseFieldDescriptor (TX11 k).2.2.1 = some (tyX11 k) := by decide +kernel
abbrev cX11_init : ByteArray := prog_1_method_1_code
def yX11_init : MethodName := ⟨RX11, "<init>", "()V"⟩
abbrev cX11_ice : ByteArray := prog_1_method_2_code
def yX11_ice : MethodName := ⟨RX11, "ice", "(II)Z"⟩
abbrev cX11_cell : ByteArray := prog_1_method_3_code
def yX11_cell : MethodName := ⟨RX11, "cell", "(IIIII)Z"⟩
abbrev cX11_dark : ByteArray := prog_1_method_4_code
def yX11_dark : MethodName := ⟨RX11, "dark", "(II)Z"⟩
abbrev cX11_party : ByteArray := prog_1_method_5_code
def yX11_party : MethodName := ⟨RX11, "party", "(Z)I"⟩
abbrev cX11_claim : ByteArray := prog_1_method_6_code
def yX11_claim : MethodName := ⟨RX11, "claim", "(IIII)I"⟩
abbrev cX11_title : ByteArray := prog_1_method_7_code
def yX11_title : MethodName := ⟨RX11, "title", "(II)Z"⟩
abbrev cX11_station : ByteArray := prog_1_method_8_code
def yX11_station : MethodName := ⟨RX11, "station", "(IIII)I"⟩
abbrev cX11_field : ByteArray := prog_1_method_9_code
def yX11_field : MethodName := ⟨RX11, "field", "(II)I"⟩
abbrev cX11_reserve : ByteArray := prog_1_method_10_code
def yX11_reserve : MethodName := ⟨RX11, "reserve", "(III)I"⟩
abbrev cX11_site : ByteArray := prog_1_method_11_code
def yX11_site : MethodName := ⟨RX11, "site", "(IZ)I"⟩
abbrev cX11_settle : ByteArray := prog_1_method_12_code
def yX11_settle : MethodName := ⟨RX11, "settle", "(LIceTreaty$Place;)I"⟩
abbrev cX11_feed : ByteArray := prog_1_method_13_code
def yX11_feed : MethodName := ⟨RX11, "feed", "(IIIII)I"⟩
abbrev cX11_feedNumber : ByteArray := prog_1_method_14_code
def yX11_feedNumber : MethodName := ⟨RX11, "feedNumber", "(I)V"⟩
abbrev cX11_fedNumber : ByteArray := prog_1_method_15_code
def yX11_fedNumber : MethodName := ⟨RX11, "fedNumber", "(I)I"⟩
abbrev cX11_text : ByteArray := prog_1_method_16_code
def yX11_text : MethodName := ⟨RX11, "text", "(III)I"⟩
abbrev cX11_yes : ByteArray := prog_1_method_17_code
def yX11_yes : MethodName := ⟨RX11, "yes", "(II)Z"⟩
abbrev cX11_reading : ByteArray := prog_1_method_18_code
def yX11_reading : MethodName := ⟨RX11, "reading", "(IIII)I"⟩
abbrev cX11_counts : ByteArray := prog_1_method_19_code
def yX11_counts : MethodName := ⟨RX11, "counts", "(III)I"⟩
abbrev cX11_number : ByteArray := prog_1_method_20_code
def yX11_number : MethodName := ⟨RX11, "number", "(III)I"⟩
abbrev cX11_decides : ByteArray := prog_1_method_21_code
def yX11_decides : MethodName := ⟨RX11, "decides", "(II)I"⟩
abbrev cX11_claimsAreAsleep : ByteArray := prog_1_method_22_code
def yX11_claimsAreAsleep : MethodName := ⟨RX11, "claimsAreAsleep", "(ILIceTreaty$Party;)Z"⟩
abbrev cX11_work : ByteArray := prog_1_method_23_code
def yX11_work : MethodName := ⟨RX11, "work", "(IIIIIII)I"⟩
abbrev cX11_tell : ByteArray := prog_1_method_24_code
def yX11_tell : MethodName := ⟨RX11, "tell", "(II)Z"⟩
abbrev cX11_study : ByteArray := prog_1_method_25_code
def yX11_study : MethodName := ⟨RX11, "study", "(II)Z"⟩
abbrev cX11_say : ByteArray := prog_1_method_26_code
def yX11_say : MethodName := ⟨RX11, "say", "(IIZ)Z"⟩
abbrev cX11_may : ByteArray := prog_1_method_27_code
def yX11_may : MethodName := ⟨RX11, "may", "(IIZ)I"⟩
abbrev cX11_why : ByteArray := prog_1_method_28_code
def yX11_why : MethodName := ⟨RX11, "why", "(IIZI)I"⟩
abbrev cX11_whose : ByteArray := prog_1_method_29_code
def yX11_whose : MethodName := ⟨RX11, "whose", "(II)I"⟩
abbrev cX11_judge : ByteArray := prog_1_method_30_code
def yX11_judge : MethodName := ⟨RX11, "judge", "(LIceTreaty$Work;IZ)I"⟩
abbrev cX11_hasConsent : ByteArray := prog_1_method_31_code
def yX11_hasConsent : MethodName := ⟨RX11, "hasConsent", "(LIceTreaty$Work;I)Z"⟩
abbrev cX11_decidingOn : ByteArray := prog_1_method_32_code
def yX11_decidingOn : MethodName := ⟨RX11, "decidingOn", "(I)I"⟩
abbrev cX11_tellLetters : ByteArray := prog_1_method_33_code
def yX11_tellLetters : MethodName := ⟨RX11, "tellLetters", "(LIceTreaty$Work;LIceTreaty$Party;I)V"⟩
abbrev cX11_tellNeighbours : ByteArray := prog_1_method_34_code
def yX11_tellNeighbours : MethodName := ⟨RX11, "tellNeighbours", "(LIceTreaty$Work;)V"⟩
abbrev cX11_ship : ByteArray := prog_1_method_35_code
def yX11_ship : MethodName := ⟨RX11, "ship", "(III)I"⟩
abbrev cX11_cover : ByteArray := prog_1_method_36_code
def yX11_cover : MethodName := ⟨RX11, "cover", "(III)Z"⟩
abbrev cX11_sea : ByteArray := prog_1_method_37_code
def yX11_sea : MethodName := ⟨RX11, "sea", "(II)Z"⟩
abbrev cX11_voyage : ByteArray := prog_1_method_38_code
def yX11_voyage : MethodName := ⟨RX11, "voyage", "(IIII)Z"⟩
abbrev cX11_sledge : ByteArray := prog_1_method_39_code
def yX11_sledge : MethodName := ⟨RX11, "sledge", "(III)I"⟩
abbrev cX11_people : ByteArray := prog_1_method_40_code
def yX11_people : MethodName := ⟨RX11, "people", "(II)Z"⟩
abbrev cX11_hide : ByteArray := prog_1_method_41_code
def yX11_hide : MethodName := ⟨RX11, "hide", "(II)Z"⟩
abbrev cX11_declare : ByteArray := prog_1_method_42_code
def yX11_declare : MethodName := ⟨RX11, "declare", "(III)Z"⟩
abbrev cX11_visit : ByteArray := prog_1_method_43_code
def yX11_visit : MethodName := ⟨RX11, "visit", "(II)I"⟩
abbrev cX11_seen : ByteArray := prog_1_method_44_code
def yX11_seen : MethodName := ⟨RX11, "seen", "(II)I"⟩
abbrev cX11_day : ByteArray := prog_1_method_45_code
def yX11_day : MethodName := ⟨RX11, "day", "()I"⟩
abbrev cX11_passWork : ByteArray := prog_1_method_46_code
def yX11_passWork : MethodName := ⟨RX11, "passWork", "(I)V"⟩
abbrev cX11_disturbNests : ByteArray := prog_1_method_47_code
def yX11_disturbNests : MethodName := ⟨RX11, "disturbNests", "(LIceTreaty$Work;)V"⟩
abbrev cX11_goDown : ByteArray := prog_1_method_48_code
def yX11_goDown : MethodName := ⟨RX11, "goDown", "(I)V"⟩
abbrev cX11_admitParties : ByteArray := prog_1_method_49_code
def yX11_admitParties : MethodName := ⟨RX11, "admitParties", "()V"⟩
abbrev cX11_passStation : ByteArray := prog_1_method_50_code
def yX11_passStation : MethodName := ⟨RX11, "passStation", "(I)V"⟩
abbrev cX11_burn : ByteArray := prog_1_method_51_code
def yX11_burn : MethodName := ⟨RX11, "burn", "(LIceTreaty$Place;I)V"⟩
abbrev cX11_sendPeopleHome : ByteArray := prog_1_method_52_code
def yX11_sendPeopleHome : MethodName := ⟨RX11, "sendPeopleHome", "(LIceTreaty$Place;)V"⟩
abbrev cX11_carry : ByteArray := prog_1_method_53_code
def yX11_carry : MethodName := ⟨RX11, "carry", "(ILIceTreaty$Place;)V"⟩
abbrev cX11_carryField : ByteArray := prog_1_method_54_code
def yX11_carryField : MethodName := ⟨RX11, "carryField", "(LIceTreaty$Place;IZ)V"⟩
abbrev cX11_loseStation : ByteArray := prog_1_method_55_code
def yX11_loseStation : MethodName := ⟨RX11, "loseStation", "(LIceTreaty$Place;)V"⟩
abbrev cX11_passShip : ByteArray := prog_1_method_56_code
def yX11_passShip : MethodName := ⟨RX11, "passShip", "(LIceTreaty$Ship;)V"⟩
abbrev cX11_meetIce : ByteArray := prog_1_method_57_code
def yX11_meetIce : MethodName := ⟨RX11, "meetIce", "(LIceTreaty$Ship;)V"⟩
abbrev cX11_unload : ByteArray := prog_1_method_58_code
def yX11_unload : MethodName := ⟨RX11, "unload", "(LIceTreaty$Ship;)V"⟩
abbrev cX11_comeHome : ByteArray := prog_1_method_59_code
def yX11_comeHome : MethodName := ⟨RX11, "comeHome", "(LIceTreaty$Ship;)V"⟩
abbrev cX11_passSledge : ByteArray := prog_1_method_60_code
def yX11_passSledge : MethodName := ⟨RX11, "passSledge", "(I)V"⟩
abbrev cX11_sound : ByteArray := prog_1_method_61_code
def yX11_sound : MethodName := ⟨RX11, "sound", "(III)Z"⟩
abbrev cX11_sure : ByteArray := prog_1_method_62_code
def yX11_sure : MethodName := ⟨RX11, "sure", "(I)I"⟩
abbrev cX11_drill : ByteArray := prog_1_method_63_code
def yX11_drill : MethodName := ⟨RX11, "drill", "(II)I"⟩
abbrev cX11_speed : ByteArray := prog_1_method_64_code
def yX11_speed : MethodName := ⟨RX11, "speed", "(II)Z"⟩
abbrev cX11_birds : ByteArray := prog_1_method_65_code
def yX11_birds : MethodName := ⟨RX11, "birds", "(III)Z"⟩
abbrev cX11_loss : ByteArray := prog_1_method_66_code
def yX11_loss : MethodName := ⟨RX11, "loss", "(IIIII)I"⟩
abbrev cX11_noise : ByteArray := prog_1_method_67_code
def yX11_noise : MethodName := ⟨RX11, "noise", "(II)I"⟩
abbrev cX11_caught : ByteArray := prog_1_method_68_code
def yX11_caught : MethodName := ⟨RX11, "caught", "(IIIII)I"⟩
abbrev cX11_over : ByteArray := prog_1_method_69_code
def yX11_over : MethodName := ⟨RX11, "over", "()I"⟩
abbrev cX11_isOver : ByteArray := prog_1_method_70_code
def yX11_isOver : MethodName := ⟨RX11, "isOver", "(I)Z"⟩
abbrev cX11_tonnesUpTo : ByteArray := prog_1_method_71_code
def yX11_tonnesUpTo : MethodName := ⟨RX11, "tonnesUpTo", "(I)I"⟩
abbrev cX11_doubt : ByteArray := prog_1_method_72_code
def yX11_doubt : MethodName := ⟨RX11, "doubt", "(I)I"⟩
abbrev cX11_isDoubtful : ByteArray := prog_1_method_73_code
def yX11_isDoubtful : MethodName := ⟨RX11, "isDoubtful", "(II)Z"⟩
abbrev cX11_word : ByteArray := prog_1_method_74_code
def yX11_word : MethodName := ⟨RX11, "word", "(I)I"⟩
abbrev cX11_asks : ByteArray := prog_1_method_75_code
def yX11_asks : MethodName := ⟨RX11, "asks", "(III)Z"⟩
abbrev cX11_blocks : ByteArray := prog_1_method_76_code
def yX11_blocks : MethodName := ⟨RX11, "blocks", "(I)I"⟩
abbrev cX11_best : ByteArray := prog_1_method_77_code
def yX11_best : MethodName := ⟨RX11, "best", "()I"⟩
abbrev cX11_blockers : ByteArray := prog_1_method_78_code
def yX11_blockers : MethodName := ⟨RX11, "blockers", "(I)I"⟩
abbrev cX11_worthOf : ByteArray := prog_1_method_79_code
def yX11_worthOf : MethodName := ⟨RX11, "worthOf", "(I)I"⟩
abbrev cX11_stop : ByteArray := prog_1_method_80_code
def yX11_stop : MethodName := ⟨RX11, "stop", "(II)I"⟩
abbrev cX11_open : ByteArray := prog_1_method_81_code
def yX11_open : MethodName := ⟨RX11, "open", "(IIII)Z"⟩
abbrev cX11_plan : ByteArray := prog_1_method_82_code
def yX11_plan : MethodName := ⟨RX11, "plan", "(III)I"⟩
abbrev cX11_planned : ByteArray := prog_1_method_83_code
def yX11_planned : MethodName := ⟨RX11, "planned", "(IIII)I"⟩
abbrev cX11_measureLegs : ByteArray := prog_1_method_84_code
def yX11_measureLegs : MethodName := ⟨RX11, "measureLegs", "()V"⟩
abbrev cX11_report : ByteArray := prog_1_method_85_code
def yX11_report : MethodName := ⟨RX11, "report", "(IIIZ)Z"⟩
abbrev cX11_known : ByteArray := prog_1_method_86_code
def yX11_known : MethodName := ⟨RX11, "known", "(III)I"⟩
abbrev cX11_check : ByteArray := prog_1_method_87_code
def yX11_check : MethodName := ⟨RX11, "check", "(I)I"⟩
abbrev cX11_firstWrong : ByteArray := prog_1_method_88_code
def yX11_firstWrong : MethodName := ⟨RX11, "firstWrong", "(I)I"⟩
abbrev cX11_look : ByteArray := prog_1_method_89_code
def yX11_look : MethodName := ⟨RX11, "look", "(II)I"⟩
abbrev cX11_lookAtStation : ByteArray := prog_1_method_90_code
def yX11_lookAtStation : MethodName := ⟨RX11, "lookAtStation", "(LIceTreaty$Place;I)I"⟩
abbrev cX11_at : ByteArray := prog_1_method_91_code
def yX11_at : MethodName := ⟨RX11, "at", "(II)I"⟩
abbrev cX11_about : ByteArray := prog_1_method_92_code
def yX11_about : MethodName := ⟨RX11, "about", "(II)I"⟩
abbrev cX11_sum : ByteArray := prog_1_method_93_code
def yX11_sum : MethodName := ⟨RX11, "sum", "(I)J"⟩
abbrev cX11_count : ByteArray := prog_1_method_94_code
def yX11_count : MethodName := ⟨RX11, "count", "(I)I"⟩
abbrev cX11_decidesFrom : ByteArray := prog_1_method_95_code
def yX11_decidesFrom : MethodName := ⟨RX11, "decidesFrom", "(I)I"⟩
abbrev cX11_sledgesOnWay : ByteArray := prog_1_method_96_code
def yX11_sledgesOnWay : MethodName := ⟨RX11, "sledgesOnWay", "()I"⟩
abbrev cX11_partyOf : ByteArray := prog_1_method_97_code
def yX11_partyOf : MethodName := ⟨RX11, "partyOf", "(I)LIceTreaty$Party;"⟩
abbrev cX11_anyPlace : ByteArray := prog_1_method_98_code
def yX11_anyPlace : MethodName := ⟨RX11, "anyPlace", "(I)LIceTreaty$Place;"⟩
abbrev cX11_placeOf : ByteArray := prog_1_method_99_code
def yX11_placeOf : MethodName := ⟨RX11, "placeOf", "(II)LIceTreaty$Place;"⟩
abbrev cX11_standingStation : ByteArray := prog_1_method_100_code
def yX11_standingStation : MethodName := ⟨RX11, "standingStation", "(I)LIceTreaty$Place;"⟩
abbrev cX11_workOf : ByteArray := prog_1_method_101_code
def yX11_workOf : MethodName := ⟨RX11, "workOf", "(I)LIceTreaty$Work;"⟩
abbrev cX11_shipOf : ByteArray := prog_1_method_102_code
def yX11_shipOf : MethodName := ⟨RX11, "shipOf", "(I)LIceTreaty$Ship;"⟩
abbrev cX11_tally : ByteArray := prog_1_method_103_code
def yX11_tally : MethodName := ⟨RX11, "tally", "(II)V"⟩
abbrev cX11_between : ByteArray := prog_1_method_104_code
def yX11_between : MethodName := ⟨RX11, "between", "(III)Z"⟩
abbrev cX11_isDay : ByteArray := prog_1_method_105_code
def yX11_isDay : MethodName := ⟨RX11, "isDay", "(I)Z"⟩
abbrev cX11_areDays : ByteArray := prog_1_method_106_code
def yX11_areDays : MethodName := ⟨RX11, "areDays", "(II)Z"⟩
abbrev cX11_areYearDays : ByteArray := prog_1_method_107_code
def yX11_areYearDays : MethodName := ⟨RX11, "areYearDays", "(II)Z"⟩
abbrev cX11_isYear : ByteArray := prog_1_method_108_code
def yX11_isYear : MethodName := ⟨RX11, "isYear", "(I)Z"⟩
abbrev cX11_isSea : ByteArray := prog_1_method_109_code
def yX11_isSea : MethodName := ⟨RX11, "isSea", "(I)Z"⟩
def RX12 : String := "IceTreatyModel"
def TX12 : u_T := fun k => match k with
  | 0 => ("IceTreatyModel", "wide", "I", false)
  | 1 => ("IceTreatyModel", "high", "I", false)
  | 2 => ("IceTreatyModel", "now", "I", false)
  | 3 => ("IceTreatyModel", "darkFrom", "I", false)
  | 4 => ("IceTreatyModel", "darkTo", "I", false)
  | 5 => ("IceTreatyModel", "height", "[I", true)
  | 6 => ("IceTreatyModel", "ground", "[I", true)
  | 7 => ("IceTreatyModel", "way", "[I", true)
  | 8 => ("IceTreatyModel", "flow", "[I", true)
  | 9 => ("IceTreatyModel", "parties", "I", false)
  | 10 => ("IceTreatyModel", "places", "I", false)
  | 11 => ("IceTreatyModel", "decidesFrom", "[I", true)
  | 12 => ("IceTreatyModel", "science", "[I", true)
  | 13 => ("IceTreatyModel", "kindOf", "[I", true)
  | 14 => ("IceTreatyModel", "partyOf", "[I", true)
  | 15 => ("IceTreatyModel", "cellOf", "[I", true)
  | 16 => ("IceTreatyModel", "lowerOf", "[I", true)
  | 17 => ("IceTreatyModel", "numberOf", "[I", true)
  | 18 => ("IceTreatyModel", "sinceOf", "[I", true)
  | 19 => ("IceTreatyModel", "folk", "[I", true)
  | 20 => ("IceTreatyModel", "drums", "[I", true)
  | 21 => ("IceTreatyModel", "hidden", "[I", true)
  | 22 => ("IceTreatyModel", "coldDays", "[I", true)
  | 23 => ("IceTreatyModel", "waste", "[I", true)
  | 24 => ("IceTreatyModel", "saidPeople", "[I", true)
  | 25 => ("IceTreatyModel", "saidDrums", "[I", true)
  | 26 => ("IceTreatyModel", "noiseOf", "[I", true)
  | 27 => ("IceTreatyModel", "birdOf", "[I", true)
  | 28 => ("IceTreatyModel", "isLost", "[Z", true)
  | 29 => ("IceTreatyModel", "tape", "[B", true)
  | 30 => ("IceTreatyModel", "taped", "I", false)
  | 31 => ("IceTreatyModel", "place0", "I", false)
  | 32 => ("IceTreatyModel", "length0", "I", false)
  | 33 => ("IceTreatyModel", "fault", "I", false)
  | 34 => ("IceTreatyModel", "number", "I", false)
  | 35 => ("IceTreatyModel", "open", "I", false)
  | 36 => ("IceTreatyModel", "codeMany", "I", false)
  | 37 => ("IceTreatyModel", "waiting", "I", false)
  | 38 => ("IceTreatyModel", "saidClauses", "I", false)
  | 39 => ("IceTreatyModel", "said", "[I", true)
  | 40 => ("IceTreatyModel", "waits", "[I", true)
  | 41 => ("IceTreatyModel", "saidLetter", "[I", true)
  | 42 => ("IceTreatyModel", "saidFrom", "[I", true)
  | 43 => ("IceTreatyModel", "saidTo", "[I", true)
  | 44 => ("IceTreatyModel", "saidN", "[I", true)
  | 45 => ("IceTreatyModel", "saidA", "[I", true)
  | 46 => ("IceTreatyModel", "saidB", "[I", true)
  | 47 => ("IceTreatyModel", "texts", "I", false)
  | 48 => ("IceTreatyModel", "readings", "I", false)
  | 49 => ("IceTreatyModel", "codes", "[I", true)
  | 50 => ("IceTreatyModel", "clauseMany", "[I", true)
  | 51 => ("IceTreatyModel", "textFrom", "[I", true)
  | 52 => ("IceTreatyModel", "textTo", "[I", true)
  | 53 => ("IceTreatyModel", "letterOf", "[I", true)
  | 54 => ("IceTreatyModel", "codeFrom", "[I", true)
  | 55 => ("IceTreatyModel", "codeTo", "[I", true)
  | 56 => ("IceTreatyModel", "nOf", "[I", true)
  | 57 => ("IceTreatyModel", "aOf", "[I", true)
  | 58 => ("IceTreatyModel", "bOf", "[I", true)
  | 59 => ("IceTreatyModel", "yesDay", "[I", true)
  | 60 => ("IceTreatyModel", "ownCodes", "[I", true)
  | 61 => ("IceTreatyModel", "ownMany", "[I", true)
  | 62 => ("IceTreatyModel", "ownParty", "[I", true)
  | 63 => ("IceTreatyModel", "ownClause", "[I", true)
  | 64 => ("IceTreatyModel", "isBound", "[Z", true)
  | 65 => ("IceTreatyModel", "isStruck", "[Z", true)
  | 66 => ("IceTreatyModel", "works", "I", false)
  | 67 => ("IceTreatyModel", "workKind", "[I", true)
  | 68 => ("IceTreatyModel", "workParty", "[I", true)
  | 69 => ("IceTreatyModel", "workCell", "[I", true)
  | 70 => ("IceTreatyModel", "workFrom", "[I", true)
  | 71 => ("IceTreatyModel", "workTo", "[I", true)
  | 72 => ("IceTreatyModel", "workPeople", "[I", true)
  | 73 => ("IceTreatyModel", "workNoise", "[I", true)
  | 74 => ("IceTreatyModel", "done", "[I", true)
  | 75 => ("IceTreatyModel", "held", "[I", true)
  | 76 => ("IceTreatyModel", "notice", "[I", true)
  | 77 => ("IceTreatyModel", "leave", "[I", true)
  | 78 => ("IceTreatyModel", "studied", "[I", true)
  | 79 => ("IceTreatyModel", "harm", "[I", true)
  | 80 => ("IceTreatyModel", "saidOf", "[I", true)
  | 81 => ("IceTreatyModel", "stack", "[I", true)
  | 82 => ("IceTreatyModel", "barredBy", "I", false)
  | 83 => ("IceTreatyModel", "brought", "J", false)
  | 84 => ("IceTreatyModel", "burnt", "J", false)
  | 85 => ("IceTreatyModel", "lostDrums", "J", false)
  | 86 => ("IceTreatyModel", "homeDrums", "J", false)
  | 87 => ("IceTreatyModel", "wasteMade", "J", false)
  | 88 => ("IceTreatyModel", "wasteLost", "J", false)
  | 89 => ("IceTreatyModel", "wasteHome", "J", false)
  | 90 => ("IceTreatyModel", "wentHome", "J", false)
  | 91 => ("IceTreatyModel", "ships", "I", false)
  | 92 => ("IceTreatyModel", "sledges", "I", false)
  | 93 => ("IceTreatyModel", "visits", "I", false)
  | 94 => ("IceTreatyModel", "shipParty", "[I", true)
  | 95 => ("IceTreatyModel", "room", "[I", true)
  | 96 => ("IceTreatyModel", "strength", "[I", true)
  | 97 => ("IceTreatyModel", "shipState", "[I", true)
  | 98 => ("IceTreatyModel", "shipDrums", "[I", true)
  | 99 => ("IceTreatyModel", "shipWaste", "[I", true)
  | 100 => ("IceTreatyModel", "shipDay", "[I", true)
  | 101 => ("IceTreatyModel", "shipWaits", "[I", true)
  | 102 => ("IceTreatyModel", "shipSea", "[I", true)
  | 103 => ("IceTreatyModel", "shipTo", "[I", true)
  | 104 => ("IceTreatyModel", "shipDays", "[I", true)
  | 105 => ("IceTreatyModel", "covers", "[I", true)
  | 106 => ("IceTreatyModel", "seaDays", "[I", true)
  | 107 => ("IceTreatyModel", "sledgeTo", "[I", true)
  | 108 => ("IceTreatyModel", "sledgeCell", "[I", true)
  | 109 => ("IceTreatyModel", "sledgeDrums", "[I", true)
  | 110 => ("IceTreatyModel", "sledgeDay", "[I", true)
  | 111 => ("IceTreatyModel", "isOnWay", "[Z", true)
  | 112 => ("IceTreatyModel", "visitParty", "[I", true)
  | 113 => ("IceTreatyModel", "visitStation", "[I", true)
  | 114 => ("IceTreatyModel", "visitDay", "[I", true)
  | 115 => ("IceTreatyModel", "visitPeople", "[I", true)
  | 116 => ("IceTreatyModel", "visitDrums", "[I", true)
  | 117 => ("IceTreatyModel", "days", "[I", true)
  | 118 => ("IceTreatyModel", "drills", "I", false)
  | 119 => ("IceTreatyModel", "margin", "I", false)
  | 120 => ("IceTreatyModel", "catches", "I", false)
  | 121 => ("IceTreatyModel", "soundMany", "[I", true)
  | 122 => ("IceTreatyModel", "soundDepth", "[I", true)
  | 123 => ("IceTreatyModel", "soundWrong", "[I", true)
  | 124 => ("IceTreatyModel", "drillSite", "[I", true)
  | 125 => ("IceTreatyModel", "drillWork", "[I", true)
  | 126 => ("IceTreatyModel", "depth", "[I", true)
  | 127 => ("IceTreatyModel", "speeds", "[I", true)
  | 128 => ("IceTreatyModel", "catchShip", "[I", true)
  | 129 => ("IceTreatyModel", "catchKind", "[I", true)
  | 130 => ("IceTreatyModel", "catchSea", "[I", true)
  | 131 => ("IceTreatyModel", "catchTonnes", "[I", true)
  | 132 => ("IceTreatyModel", "catchDay", "[I", true)
  | 133 => ("IceTreatyModel", "words", "I", false)
  | 134 => ("IceTreatyModel", "worth", "[I", true)
  | 135 => ("IceTreatyModel", "isBarred", "[Z", true)
  | 136 => ("IceTreatyModel", "isWanted", "[Z", true)
  | 137 => ("IceTreatyModel", "stops", "I", false)
  | 138 => ("IceTreatyModel", "bestEnd", "I", false)
  | 139 => ("IceTreatyModel", "stopOf", "[I", true)
  | 140 => ("IceTreatyModel", "need", "[I", true)
  | 141 => ("IceTreatyModel", "openFrom", "[I", true)
  | 142 => ("IceTreatyModel", "openTo", "[I", true)
  | 143 => ("IceTreatyModel", "order", "[I", true)
  | 144 => ("IceTreatyModel", "bestOrder", "[I", true)
  | 145 => ("IceTreatyModel", "reports", "I", false)
  | 146 => ("IceTreatyModel", "reportOf", "[I", true)
  | 147 => ("IceTreatyModel", "reportDay", "[I", true)
  | 148 => ("IceTreatyModel", "reportNumber", "[I", true)
  | 149 => ("IceTreatyModel", "reportTold", "[I", true)
  | _ => ("IceTreatyModel", "isNumber", "[Z", true)
def tyX12 : Nat → FieldType := fun k => match k with
  | 0 => .int
  | 1 => .int
  | 2 => .int
  | 3 => .int
  | 4 => .int
  | 5 => .array .int
  | 6 => .array .int
  | 7 => .array .int
  | 8 => .array .int
  | 9 => .int
  | 10 => .int
  | 11 => .array .int
  | 12 => .array .int
  | 13 => .array .int
  | 14 => .array .int
  | 15 => .array .int
  | 16 => .array .int
  | 17 => .array .int
  | 18 => .array .int
  | 19 => .array .int
  | 20 => .array .int
  | 21 => .array .int
  | 22 => .array .int
  | 23 => .array .int
  | 24 => .array .int
  | 25 => .array .int
  | 26 => .array .int
  | 27 => .array .int
  | 28 => .array .boolean
  | 29 => .array .byte
  | 30 => .int
  | 31 => .int
  | 32 => .int
  | 33 => .int
  | 34 => .int
  | 35 => .int
  | 36 => .int
  | 37 => .int
  | 38 => .int
  | 39 => .array .int
  | 40 => .array .int
  | 41 => .array .int
  | 42 => .array .int
  | 43 => .array .int
  | 44 => .array .int
  | 45 => .array .int
  | 46 => .array .int
  | 47 => .int
  | 48 => .int
  | 49 => .array .int
  | 50 => .array .int
  | 51 => .array .int
  | 52 => .array .int
  | 53 => .array .int
  | 54 => .array .int
  | 55 => .array .int
  | 56 => .array .int
  | 57 => .array .int
  | 58 => .array .int
  | 59 => .array .int
  | 60 => .array .int
  | 61 => .array .int
  | 62 => .array .int
  | 63 => .array .int
  | 64 => .array .boolean
  | 65 => .array .boolean
  | 66 => .int
  | 67 => .array .int
  | 68 => .array .int
  | 69 => .array .int
  | 70 => .array .int
  | 71 => .array .int
  | 72 => .array .int
  | 73 => .array .int
  | 74 => .array .int
  | 75 => .array .int
  | 76 => .array .int
  | 77 => .array .int
  | 78 => .array .int
  | 79 => .array .int
  | 80 => .array .int
  | 81 => .array .int
  | 82 => .int
  | 83 => .long
  | 84 => .long
  | 85 => .long
  | 86 => .long
  | 87 => .long
  | 88 => .long
  | 89 => .long
  | 90 => .long
  | 91 => .int
  | 92 => .int
  | 93 => .int
  | 94 => .array .int
  | 95 => .array .int
  | 96 => .array .int
  | 97 => .array .int
  | 98 => .array .int
  | 99 => .array .int
  | 100 => .array .int
  | 101 => .array .int
  | 102 => .array .int
  | 103 => .array .int
  | 104 => .array .int
  | 105 => .array .int
  | 106 => .array .int
  | 107 => .array .int
  | 108 => .array .int
  | 109 => .array .int
  | 110 => .array .int
  | 111 => .array .boolean
  | 112 => .array .int
  | 113 => .array .int
  | 114 => .array .int
  | 115 => .array .int
  | 116 => .array .int
  | 117 => .array .int
  | 118 => .int
  | 119 => .int
  | 120 => .int
  | 121 => .array .int
  | 122 => .array .int
  | 123 => .array .int
  | 124 => .array .int
  | 125 => .array .int
  | 126 => .array .int
  | 127 => .array .int
  | 128 => .array .int
  | 129 => .array .int
  | 130 => .array .int
  | 131 => .array .int
  | 132 => .array .int
  | 133 => .int
  | 134 => .array .int
  | 135 => .array .boolean
  | 136 => .array .boolean
  | 137 => .int
  | 138 => .int
  | 139 => .array .int
  | 140 => .array .int
  | 141 => .array .int
  | 142 => .array .int
  | 143 => .array .int
  | 144 => .array .int
  | 145 => .int
  | 146 => .array .int
  | 147 => .array .int
  | 148 => .array .int
  | 149 => .array .int
  | _ => .array .boolean
abbrev wsX120 : List Cond := u_ws RX12 TX12 151
theorem nmX12 : ∀ a, a < 151 → ∀ b, b < 151 → a ≠ b → (TX12 a).2.1 ≠ (TX12 b).2.1 := by decide +kernel
theorem tyX12_ok : ∀ k, k < 151 → parseFieldDescriptor (TX12 k).2.2.1 = some (tyX12 k) := by decide +kernel
abbrev cX12_init : ByteArray := prog_14_method_1_code
def yX12_init : MethodName := ⟨RX12, "<init>", "()V"⟩
abbrev cX12_in : ByteArray := prog_14_method_2_code
def yX12_in : MethodName := ⟨RX12, "in", "(III)Z"⟩
abbrev cX12_size : ByteArray := prog_14_method_3_code
def yX12_size : MethodName := ⟨RX12, "size", "(I)I"⟩
abbrev cX12_begins : ByteArray := prog_14_method_4_code
def yX12_begins : MethodName := ⟨RX12, "begins", "(II)V"⟩
abbrev cX12_isCell : ByteArray := prog_14_method_5_code
def yX12_isCell : MethodName := ⟨RX12, "isCell", "(I)Z"⟩
abbrev cX12_isDay : ByteArray := prog_14_method_6_code
def yX12_isDay : MethodName := ⟨RX12, "isDay", "(I)Z"⟩
abbrev cX12_ice : ByteArray := prog_14_method_7_code
def yX12_ice : MethodName := ⟨RX12, "ice", "(II)Z"⟩
abbrev cX12_cell : ByteArray := prog_14_method_8_code
def yX12_cell : MethodName := ⟨RX12, "cell", "(IIIII)Z"⟩
abbrev cX12_dark : ByteArray := prog_14_method_9_code
def yX12_dark : MethodName := ⟨RX12, "dark", "(II)Z"⟩
abbrev cX12_isDark : ByteArray := prog_14_method_10_code
def yX12_isDark : MethodName := ⟨RX12, "isDark", "(I)Z"⟩
abbrev cX12_far : ByteArray := prog_14_method_11_code
def yX12_far : MethodName := ⟨RX12, "far", "(II)I"⟩
abbrev cX12_columnStep : ByteArray := prog_14_method_12_code
def yX12_columnStep : MethodName := ⟨RX12, "columnStep", "(I)I"⟩
abbrev cX12_rowStep : ByteArray := prog_14_method_13_code
def yX12_rowStep : MethodName := ⟨RX12, "rowStep", "(I)I"⟩
abbrev cX12_moved : ByteArray := prog_14_method_14_code
def yX12_moved : MethodName := ⟨RX12, "moved", "(III)I"⟩
abbrev cX12_isLand : ByteArray := prog_14_method_15_code
def yX12_isLand : MethodName := ⟨RX12, "isLand", "(I)Z"⟩
abbrev cX12_isNearSea : ByteArray := prog_14_method_16_code
def yX12_isNearSea : MethodName := ⟨RX12, "isNearSea", "(I)Z"⟩
abbrev cX12_party : ByteArray := prog_14_method_17_code
def yX12_party : MethodName := ⟨RX12, "party", "(Z)I"⟩
abbrev cX12_isParty : ByteArray := prog_14_method_18_code
def yX12_isParty : MethodName := ⟨RX12, "isParty", "(I)Z"⟩
abbrev cX12_isPlace : ByteArray := prog_14_method_19_code
def yX12_isPlace : MethodName := ⟨RX12, "isPlace", "(II)Z"⟩
abbrev cX12_isStation : ByteArray := prog_14_method_20_code
def yX12_isStation : MethodName := ⟨RX12, "isStation", "(I)Z"⟩
abbrev cX12_stands : ByteArray := prog_14_method_21_code
def yX12_stands : MethodName := ⟨RX12, "stands", "(I)Z"⟩
abbrev cX12_decidesOn : ByteArray := prog_14_method_22_code
def yX12_decidesOn : MethodName := ⟨RX12, "decidesOn", "(II)Z"⟩
abbrev cX12_decides : ByteArray := prog_14_method_23_code
def yX12_decides : MethodName := ⟨RX12, "decides", "(II)I"⟩
abbrev cX12_place : ByteArray := prog_14_method_24_code
def yX12_place : MethodName := ⟨RX12, "place", "(IIIII)I"⟩
abbrev cX12_isRectangle : ByteArray := prog_14_method_25_code
def yX12_isRectangle : MethodName := ⟨RX12, "isRectangle", "(II)Z"⟩
abbrev cX12_isIn : ByteArray := prog_14_method_26_code
def yX12_isIn : MethodName := ⟨RX12, "isIn", "(II)Z"⟩
abbrev cX12_claim : ByteArray := prog_14_method_27_code
def yX12_claim : MethodName := ⟨RX12, "claim", "(IIII)I"⟩
abbrev cX12_title : ByteArray := prog_14_method_28_code
def yX12_title : MethodName := ⟨RX12, "title", "(II)Z"⟩
abbrev cX12_station : ByteArray := prog_14_method_29_code
def yX12_station : MethodName := ⟨RX12, "station", "(IIII)I"⟩
abbrev cX12_field : ByteArray := prog_14_method_30_code
def yX12_field : MethodName := ⟨RX12, "field", "(II)I"⟩
abbrev cX12_reserve : ByteArray := prog_14_method_31_code
def yX12_reserve : MethodName := ⟨RX12, "reserve", "(III)I"⟩
abbrev cX12_site : ByteArray := prog_14_method_32_code
def yX12_site : MethodName := ⟨RX12, "site", "(IZ)I"⟩
abbrev cX12_types : ByteArray := prog_14_method_33_code
def yX12_types : MethodName := ⟨RX12, "types", "(I)V"⟩
abbrev cX12_feed : ByteArray := prog_14_method_34_code
def yX12_feed : MethodName := ⟨RX12, "feed", "(IIIII)I"⟩
abbrev cX12_sign : ByteArray := prog_14_method_35_code
def yX12_sign : MethodName := ⟨RX12, "sign", "()I"⟩
abbrev cX12_isDigit : ByteArray := prog_14_method_36_code
def yX12_isDigit : MethodName := ⟨RX12, "isDigit", "()Z"⟩
abbrev cX12_wrong : ByteArray := prog_14_method_37_code
def yX12_wrong : MethodName := ⟨RX12, "wrong", "(II)Z"⟩
abbrev cX12_takes : ByteArray := prog_14_method_38_code
def yX12_takes : MethodName := ⟨RX12, "takes", "(I)Z"⟩
abbrev cX12_readsNumber : ByteArray := prog_14_method_39_code
def yX12_readsNumber : MethodName := ⟨RX12, "readsNumber", "(I)Z"⟩
abbrev cX12_says : ByteArray := prog_14_method_40_code
def yX12_says : MethodName := ⟨RX12, "says", "(II)V"⟩
abbrev cX12_opens : ByteArray := prog_14_method_41_code
def yX12_opens : MethodName := ⟨RX12, "opens", "(I)Z"⟩
abbrev cX12_top : ByteArray := prog_14_method_42_code
def yX12_top : MethodName := ⟨RX12, "top", "()I"⟩
abbrev cX12_letterNumber : ByteArray := prog_14_method_43_code
def yX12_letterNumber : MethodName := ⟨RX12, "letterNumber", "(I)I"⟩
abbrev cX12_sumSign : ByteArray := prog_14_method_44_code
def yX12_sumSign : MethodName := ⟨RX12, "sumSign", "(I)I"⟩
abbrev cX12_closesSums : ByteArray := prog_14_method_45_code
def yX12_closesSums : MethodName := ⟨RX12, "closesSums", "(Z)V"⟩
abbrev cX12_readsFactor : ByteArray := prog_14_method_46_code
def yX12_readsFactor : MethodName := ⟨RX12, "readsFactor", "()Z"⟩
abbrev cX12_readsSum : ByteArray := prog_14_method_47_code
def yX12_readsSum : MethodName := ⟨RX12, "readsSum", "()Z"⟩
abbrev cX12_hasOpenSum : ByteArray := prog_14_method_48_code
def yX12_hasOpenSum : MethodName := ⟨RX12, "hasOpenSum", "(I)Z"⟩
abbrev cX12_endsPiece : ByteArray := prog_14_method_49_code
def yX12_endsPiece : MethodName := ⟨RX12, "endsPiece", "()V"⟩
abbrev cX12_lands : ByteArray := prog_14_method_50_code
def yX12_lands : MethodName := ⟨RX12, "lands", "(Z)V"⟩
abbrev cX12_jumps : ByteArray := prog_14_method_51_code
def yX12_jumps : MethodName := ⟨RX12, "jumps", "(I)V"⟩
abbrev cX12_readsCompared : ByteArray := prog_14_method_52_code
def yX12_readsCompared : MethodName := ⟨RX12, "readsCompared", "()Z"⟩
abbrev cX12_readsCondition : ByteArray := prog_14_method_53_code
def yX12_readsCondition : MethodName := ⟨RX12, "readsCondition", "()Z"⟩
abbrev cX12_isAsking : ByteArray := prog_14_method_54_code
def yX12_isAsking : MethodName := ⟨RX12, "isAsking", "(I)Z"⟩
abbrev cX12_isLetter : ByteArray := prog_14_method_55_code
def yX12_isLetter : MethodName := ⟨RX12, "isLetter", "(I)Z"⟩
abbrev cX12_readsClause : ByteArray := prog_14_method_56_code
def yX12_readsClause : MethodName := ⟨RX12, "readsClause", "()Z"⟩
abbrev cX12_text : ByteArray := prog_14_method_57_code
def yX12_text : MethodName := ⟨RX12, "text", "(III)I"⟩
abbrev cX12_isText : ByteArray := prog_14_method_58_code
def yX12_isText : MethodName := ⟨RX12, "isText", "(I)Z"⟩
abbrev cX12_isClause : ByteArray := prog_14_method_59_code
def yX12_isClause : MethodName := ⟨RX12, "isClause", "(II)Z"⟩
abbrev cX12_yes : ByteArray := prog_14_method_60_code
def yX12_yes : MethodName := ⟨RX12, "yes", "(II)Z"⟩
abbrev cX12_reading : ByteArray := prog_14_method_61_code
def yX12_reading : MethodName := ⟨RX12, "reading", "(IIII)I"⟩
abbrev cX12_strikes : ByteArray := prog_14_method_62_code
def yX12_strikes : MethodName := ⟨RX12, "strikes", "(I)V"⟩
abbrev cX12_numberBy : ByteArray := prog_14_method_63_code
def yX12_numberBy : MethodName := ⟨RX12, "numberBy", "(IIII)I"⟩
abbrev cX12_binds : ByteArray := prog_14_method_64_code
def yX12_binds : MethodName := ⟨RX12, "binds", "(II)V"⟩
abbrev cX12_counts : ByteArray := prog_14_method_65_code
def yX12_counts : MethodName := ⟨RX12, "counts", "(III)I"⟩
abbrev cX12_isAsleep : ByteArray := prog_14_method_66_code
def yX12_isAsleep : MethodName := ⟨RX12, "isAsleep", "(II)Z"⟩
abbrev cX12_asked : ByteArray := prog_14_method_67_code
def yX12_asked : MethodName := ⟨RX12, "asked", "(IIII)I"⟩
abbrev cX12_caughtAtMost : ByteArray := prog_14_method_68_code
def yX12_caughtAtMost : MethodName := ⟨RX12, "caughtAtMost", "(IIII)I"⟩
abbrev cX12_number : ByteArray := prog_14_method_69_code
def yX12_number : MethodName := ⟨RX12, "number", "(III)I"⟩
abbrev cX12_isWork : ByteArray := prog_14_method_70_code
def yX12_isWork : MethodName := ⟨RX12, "isWork", "(I)Z"⟩
abbrev cX12_work : ByteArray := prog_14_method_71_code
def yX12_work : MethodName := ⟨RX12, "work", "(IIIIIII)I"⟩
abbrev cX12_tell : ByteArray := prog_14_method_72_code
def yX12_tell : MethodName := ⟨RX12, "tell", "(II)Z"⟩
abbrev cX12_study : ByteArray := prog_14_method_73_code
def yX12_study : MethodName := ⟨RX12, "study", "(II)Z"⟩
abbrev cX12_say : ByteArray := prog_14_method_74_code
def yX12_say : MethodName := ⟨RX12, "say", "(IIZ)Z"⟩
abbrev cX12_isConsented : ByteArray := prog_14_method_75_code
def yX12_isConsented : MethodName := ⟨RX12, "isConsented", "(II)Z"⟩
abbrev cX12_nearPlaces : ByteArray := prog_14_method_76_code
def yX12_nearPlaces : MethodName := ⟨RX12, "nearPlaces", "(III)I"⟩
abbrev cX12_othersNear : ByteArray := prog_14_method_77_code
def yX12_othersNear : MethodName := ⟨RX12, "othersNear", "(II)I"⟩
abbrev cX12_rankAt : ByteArray := prog_14_method_78_code
def yX12_rankAt : MethodName := ⟨RX12, "rankAt", "(I)I"⟩
abbrev cX12_valueOf : ByteArray := prog_14_method_79_code
def yX12_valueOf : MethodName := ⟨RX12, "valueOf", "(III)I"⟩
abbrev cX12_reckon : ByteArray := prog_14_method_80_code
def yX12_reckon : MethodName := ⟨RX12, "reckon", "(III)I"⟩
abbrev cX12_holds : ByteArray := prog_14_method_81_code
def yX12_holds : MethodName := ⟨RX12, "holds", "([IIIIII)I"⟩
abbrev cX12_clauseHolds : ByteArray := prog_14_method_82_code
def yX12_clauseHolds : MethodName := ⟨RX12, "clauseHolds", "(IIIZ)I"⟩
abbrev cX12_barOf : ByteArray := prog_14_method_83_code
def yX12_barOf : MethodName := ⟨RX12, "barOf", "(IIIZ)I"⟩
abbrev cX12_mayOn : ByteArray := prog_14_method_84_code
def yX12_mayOn : MethodName := ⟨RX12, "mayOn", "(IIZ)I"⟩
abbrev cX12_may : ByteArray := prog_14_method_85_code
def yX12_may : MethodName := ⟨RX12, "may", "(IIZ)I"⟩
abbrev cX12_why : ByteArray := prog_14_method_86_code
def yX12_why : MethodName := ⟨RX12, "why", "(IIZI)I"⟩
abbrev cX12_whose : ByteArray := prog_14_method_87_code
def yX12_whose : MethodName := ⟨RX12, "whose", "(II)I"⟩
abbrev cX12_isShip : ByteArray := prog_14_method_88_code
def yX12_isShip : MethodName := ⟨RX12, "isShip", "(I)Z"⟩
abbrev cX12_isSea : ByteArray := prog_14_method_89_code
def yX12_isSea : MethodName := ⟨RX12, "isSea", "(I)Z"⟩
abbrev cX12_ship : ByteArray := prog_14_method_90_code
def yX12_ship : MethodName := ⟨RX12, "ship", "(III)I"⟩
abbrev cX12_cover : ByteArray := prog_14_method_91_code
def yX12_cover : MethodName := ⟨RX12, "cover", "(III)Z"⟩
abbrev cX12_sea : ByteArray := prog_14_method_92_code
def yX12_sea : MethodName := ⟨RX12, "sea", "(II)Z"⟩
abbrev cX12_voyage : ByteArray := prog_14_method_93_code
def yX12_voyage : MethodName := ⟨RX12, "voyage", "(IIII)Z"⟩
abbrev cX12_turnsBack : ByteArray := prog_14_method_94_code
def yX12_turnsBack : MethodName := ⟨RX12, "turnsBack", "(I)V"⟩
abbrev cX12_arrives : ByteArray := prog_14_method_95_code
def yX12_arrives : MethodName := ⟨RX12, "arrives", "(I)V"⟩
abbrev cX12_waits : ByteArray := prog_14_method_96_code
def yX12_waits : MethodName := ⟨RX12, "waits", "(I)V"⟩
abbrev cX12_shipGoes : ByteArray := prog_14_method_97_code
def yX12_shipGoes : MethodName := ⟨RX12, "shipGoes", "(I)V"⟩
abbrev cX12_goesOver : ByteArray := prog_14_method_98_code
def yX12_goesOver : MethodName := ⟨RX12, "goesOver", "(I)V"⟩
abbrev cX12_sledge : ByteArray := prog_14_method_99_code
def yX12_sledge : MethodName := ⟨RX12, "sledge", "(III)I"⟩
abbrev cX12_sledgeGoes : ByteArray := prog_14_method_100_code
def yX12_sledgeGoes : MethodName := ⟨RX12, "sledgeGoes", "(I)V"⟩
abbrev cX12_people : ByteArray := prog_14_method_101_code
def yX12_people : MethodName := ⟨RX12, "people", "(II)Z"⟩
abbrev cX12_hide : ByteArray := prog_14_method_102_code
def yX12_hide : MethodName := ⟨RX12, "hide", "(II)Z"⟩
abbrev cX12_declare : ByteArray := prog_14_method_103_code
def yX12_declare : MethodName := ⟨RX12, "declare", "(III)Z"⟩
abbrev cX12_visit : ByteArray := prog_14_method_104_code
def yX12_visit : MethodName := ⟨RX12, "visit", "(II)I"⟩
abbrev cX12_seen : ByteArray := prog_14_method_105_code
def yX12_seen : MethodName := ⟨RX12, "seen", "(II)I"⟩
abbrev cX12_worksGo : ByteArray := prog_14_method_106_code
def yX12_worksGo : MethodName := ⟨RX12, "worksGo", "()V"⟩
abbrev cX12_sounds : ByteArray := prog_14_method_107_code
def yX12_sounds : MethodName := ⟨RX12, "sounds", "(I)V"⟩
abbrev cX12_goesHome : ByteArray := prog_14_method_108_code
def yX12_goesHome : MethodName := ⟨RX12, "goesHome", "(I)V"⟩
abbrev cX12_burns : ByteArray := prog_14_method_109_code
def yX12_burns : MethodName := ⟨RX12, "burns", "(I)V"⟩
abbrev cX12_loses : ByteArray := prog_14_method_110_code
def yX12_loses : MethodName := ⟨RX12, "loses", "(I)V"⟩
abbrev cX12_flows : ByteArray := prog_14_method_111_code
def yX12_flows : MethodName := ⟨RX12, "flows", "(I)V"⟩
abbrev cX12_day : ByteArray := prog_14_method_112_code
def yX12_day : MethodName := ⟨RX12, "day", "()I"⟩
abbrev cX12_sound : ByteArray := prog_14_method_113_code
def yX12_sound : MethodName := ⟨RX12, "sound", "(III)Z"⟩
abbrev cX12_sureOf : ByteArray := prog_14_method_114_code
def yX12_sureOf : MethodName := ⟨RX12, "sureOf", "(I)I"⟩
abbrev cX12_sure : ByteArray := prog_14_method_115_code
def yX12_sure : MethodName := ⟨RX12, "sure", "(I)I"⟩
abbrev cX12_drill : ByteArray := prog_14_method_116_code
def yX12_drill : MethodName := ⟨RX12, "drill", "(II)I"⟩
abbrev cX12_speed : ByteArray := prog_14_method_117_code
def yX12_speed : MethodName := ⟨RX12, "speed", "(II)Z"⟩
abbrev cX12_goesDown : ByteArray := prog_14_method_118_code
def yX12_goesDown : MethodName := ⟨RX12, "goesDown", "(I)V"⟩
abbrev cX12_birds : ByteArray := prog_14_method_119_code
def yX12_birds : MethodName := ⟨RX12, "birds", "(III)Z"⟩
abbrev cX12_part : ByteArray := prog_14_method_120_code
def yX12_part : MethodName := ⟨RX12, "part", "(II)I"⟩
abbrev cX12_loss : ByteArray := prog_14_method_121_code
def yX12_loss : MethodName := ⟨RX12, "loss", "(IIIII)I"⟩
abbrev cX12_noise : ByteArray := prog_14_method_122_code
def yX12_noise : MethodName := ⟨RX12, "noise", "(II)I"⟩
abbrev cX12_caught : ByteArray := prog_14_method_123_code
def yX12_caught : MethodName := ⟨RX12, "caught", "(IIIII)I"⟩
abbrev cX12_isAhead : ByteArray := prog_14_method_124_code
def yX12_isAhead : MethodName := ⟨RX12, "isAhead", "(II)Z"⟩
abbrev cX12_over : ByteArray := prog_14_method_125_code
def yX12_over : MethodName := ⟨RX12, "over", "()I"⟩
abbrev cX12_isDoubt : ByteArray := prog_14_method_126_code
def yX12_isDoubt : MethodName := ⟨RX12, "isDoubt", "(II)Z"⟩
abbrev cX12_doubt : ByteArray := prog_14_method_127_code
def yX12_doubt : MethodName := ⟨RX12, "doubt", "(I)I"⟩
abbrev cX12_word : ByteArray := prog_14_method_128_code
def yX12_word : MethodName := ⟨RX12, "word", "(I)I"⟩
abbrev cX12_isWord : ByteArray := prog_14_method_129_code
def yX12_isWord : MethodName := ⟨RX12, "isWord", "(I)Z"⟩
abbrev cX12_asks : ByteArray := prog_14_method_130_code
def yX12_asks : MethodName := ⟨RX12, "asks", "(III)Z"⟩
abbrev cX12_isBlocked : ByteArray := prog_14_method_131_code
def yX12_isBlocked : MethodName := ⟨RX12, "isBlocked", "(II)Z"⟩
abbrev cX12_blocks : ByteArray := prog_14_method_132_code
def yX12_blocks : MethodName := ⟨RX12, "blocks", "(I)I"⟩
abbrev cX12_worthOf : ByteArray := prog_14_method_133_code
def yX12_worthOf : MethodName := ⟨RX12, "worthOf", "(I)I"⟩
abbrev cX12_bits : ByteArray := prog_14_method_134_code
def yX12_bits : MethodName := ⟨RX12, "bits", "(I)I"⟩
abbrev cX12_best : ByteArray := prog_14_method_135_code
def yX12_best : MethodName := ⟨RX12, "best", "()I"⟩
abbrev cX12_stop : ByteArray := prog_14_method_136_code
def yX12_stop : MethodName := ⟨RX12, "stop", "(II)I"⟩
abbrev cX12_open : ByteArray := prog_14_method_137_code
def yX12_open : MethodName := ⟨RX12, "open", "(IIII)Z"⟩
abbrev cX12_endOf : ByteArray := prog_14_method_138_code
def yX12_endOf : MethodName := ⟨RX12, "endOf", "(II)I"⟩
abbrev cX12_worstEnd : ByteArray := prog_14_method_139_code
def yX12_worstEnd : MethodName := ⟨RX12, "worstEnd", "(I)I"⟩
abbrev cX12_nextOrder : ByteArray := prog_14_method_140_code
def yX12_nextOrder : MethodName := ⟨RX12, "nextOrder", "()Z"⟩
abbrev cX12_swaps : ByteArray := prog_14_method_141_code
def yX12_swaps : MethodName := ⟨RX12, "swaps", "(II)V"⟩
abbrev cX12_plans : ByteArray := prog_14_method_142_code
def yX12_plans : MethodName := ⟨RX12, "plans", "(III)V"⟩
abbrev cX12_plan : ByteArray := prog_14_method_143_code
def yX12_plan : MethodName := ⟨RX12, "plan", "(III)I"⟩
abbrev cX12_planned : ByteArray := prog_14_method_144_code
def yX12_planned : MethodName := ⟨RX12, "planned", "(IIII)I"⟩
abbrev cX12_report : ByteArray := prog_14_method_145_code
def yX12_report : MethodName := ⟨RX12, "report", "(IIIZ)Z"⟩
abbrev cX12_known : ByteArray := prog_14_method_146_code
def yX12_known : MethodName := ⟨RX12, "known", "(III)I"⟩
abbrev cX12_tapeNumber : ByteArray := prog_14_method_147_code
def yX12_tapeNumber : MethodName := ⟨RX12, "tapeNumber", "(I)I"⟩
abbrev cX12_check : ByteArray := prog_14_method_148_code
def yX12_check : MethodName := ⟨RX12, "check", "(I)I"⟩
abbrev cX12_look : ByteArray := prog_14_method_149_code
def yX12_look : MethodName := ⟨RX12, "look", "(II)I"⟩
abbrev cX12_lookAt : ByteArray := prog_14_method_150_code
def yX12_lookAt : MethodName := ⟨RX12, "lookAt", "(II)I"⟩
abbrev cX12_at : ByteArray := prog_14_method_151_code
def yX12_at : MethodName := ⟨RX12, "at", "(II)I"⟩
abbrev cX12_about : ByteArray := prog_14_method_152_code
def yX12_about : MethodName := ⟨RX12, "about", "(II)I"⟩
abbrev cX12_sum : ByteArray := prog_14_method_153_code
def yX12_sum : MethodName := ⟨RX12, "sum", "(I)J"⟩
abbrev cX12_count : ByteArray := prog_14_method_154_code
def yX12_count : MethodName := ⟨RX12, "count", "(I)I"⟩
def RJ11 : String := "java/lang/Character"
def TJ11 : u_T := fun k => match k with
  | _ => ("", "", "", false)
def tyJ11 : Nat → FieldType := fun k => match k with
  | _ => .int
abbrev wsJ110 : List Cond := u_ws RJ11 TJ11 0
theorem nmJ11 : ∀ a, a < 0 → ∀ b, b < 0 → a ≠ b → (TJ11 a).2.1 ≠ (TJ11 b).2.1 := by decide +kernel
theorem tyJ11_ok : ∀ k, k < 0 → parseFieldDescriptor (TJ11 k).2.2.1 = some (tyJ11 k) := by decide +kernel
abbrev cJ11_isValidCodePoint_9a6ad : ByteArray := prog_15_method_11_code
def yJ11_isValidCodePoint_9a6ad : MethodName := ⟨RJ11, "isValidCodePoint", "(I)Z"⟩
abbrev cJ11_highSurrogate_5068e : ByteArray := prog_15_method_28_code
def yJ11_highSurrogate_5068e : MethodName := ⟨RJ11, "highSurrogate", "(I)C"⟩
abbrev cJ11_lowSurrogate_5068e : ByteArray := prog_15_method_29_code
def yJ11_lowSurrogate_5068e : MethodName := ⟨RJ11, "lowSurrogate", "(I)C"⟩
def RJ6 : String := "java/lang/Integer"
def TJ6 : u_T := fun k => match k with
  | _ => ("", "", "", false)
def tyJ6 : Nat → FieldType := fun k => match k with
  | _ => .int
abbrev wsJ60 : List Cond := u_ws RJ6 TJ6 0
theorem nmJ6 : ∀ a, a < 0 → ∀ b, b < 0 → a ≠ b → (TJ6 a).2.1 ≠ (TJ6 b).2.1 := by decide +kernel
theorem tyJ6_ok : ∀ k, k < 0 → parseFieldDescriptor (TJ6 k).2.2.1 = some (tyJ6 k) := by decide +kernel
abbrev cJ6_bitCount_0f7a4 : ByteArray := prog_16_method_49_code
def yJ6_bitCount_0f7a4 : MethodName := ⟨RJ6, "bitCount", "(I)I"⟩
def RJ9 : String := "java/lang/Math"
def TJ9 : u_T := fun k => match k with
  | _ => ("", "", "", false)
def tyJ9 : Nat → FieldType := fun k => match k with
  | _ => .int
abbrev wsJ90 : List Cond := u_ws RJ9 TJ9 0
theorem nmJ9 : ∀ a, a < 0 → ∀ b, b < 0 → a ≠ b → (TJ9 a).2.1 ≠ (TJ9 b).2.1 := by decide +kernel
theorem tyJ9_ok : ∀ k, k < 0 → parseFieldDescriptor (TJ9 k).2.2.1 = some (tyJ9 k) := by decide +kernel
abbrev cJ9_abs_0f7a4 : ByteArray := prog_17_method_59_code
def yJ9_abs_0f7a4 : MethodName := ⟨RJ9, "abs", "(I)I"⟩
abbrev cJ9_max_7cf53 : ByteArray := prog_17_method_65_code
def yJ9_max_7cf53 : MethodName := ⟨RJ9, "max", "(II)I"⟩
abbrev cJ9_min_7cf53 : ByteArray := prog_17_method_69_code
def yJ9_min_7cf53 : MethodName := ⟨RJ9, "min", "(II)I"⟩
def RJ0 : String := "java/lang/String"
def TJ0 : u_T := fun k => match k with
  | _ => ("", "", "", false)
def tyJ0 : Nat → FieldType := fun k => match k with
  | _ => .int
abbrev wsJ00 : List Cond := u_ws RJ0 TJ0 0
theorem nmJ0 : ∀ a, a < 0 → ∀ b, b < 0 → a ≠ b → (TJ0 a).2.1 ≠ (TJ0 b).2.1 := by decide +kernel
theorem tyJ0_ok : ∀ k, k < 0 → parseFieldDescriptor (TJ0 k).2.2.1 = some (tyJ0 k) := by decide +kernel
abbrev cJ0_length_8abf5 : ByteArray := prog_18_method_54_code
def yJ0_length_8abf5 : MethodName := ⟨RJ0, "length", "()I"⟩
abbrev cJ0_indexOf_0f7a4 : ByteArray := prog_18_method_79_code
def yJ0_indexOf_0f7a4 : MethodName := ⟨RJ0, "indexOf", "(I)I"⟩
abbrev cJ0_indexOf_7cf53 : ByteArray := prog_18_method_80_code
def yJ0_indexOf_7cf53 : MethodName := ⟨RJ0, "indexOf", "(II)I"⟩
abbrev cJ0_coder_7d493 : ByteArray := prog_18_method_152_code
def yJ0_coder_7d493 : MethodName := ⟨RJ0, "coder", "()B"⟩
abbrev cJ0_isLatin1_aae02 : ByteArray := prog_18_method_154_code
def yJ0_isLatin1_aae02 : MethodName := ⟨RJ0, "isLatin1", "()Z"⟩
abbrev cJ0_checkBoundsBeginEnd_23922 : ByteArray := prog_18_method_158_code
def yJ0_checkBoundsBeginEnd_23922 : MethodName := ⟨RJ0, "checkBoundsBeginEnd", "(III)V"⟩
def RJ1 : String := "java/lang/StringLatin1"
def TJ1 : u_T := fun k => match k with
  | _ => ("", "", "", false)
def tyJ1 : Nat → FieldType := fun k => match k with
  | _ => .int
abbrev wsJ10 : List Cond := u_ws RJ1 TJ1 0
theorem nmJ1 : ∀ a, a < 0 → ∀ b, b < 0 → a ≠ b → (TJ1 a).2.1 ≠ (TJ1 b).2.1 := by decide +kernel
theorem tyJ1_ok : ∀ k, k < 0 → parseFieldDescriptor (TJ1 k).2.2.1 = some (tyJ1 k) := by decide +kernel
abbrev cJ1_canEncode_9a6ad : ByteArray := prog_19_method_4_code
def yJ1_canEncode_9a6ad : MethodName := ⟨RJ1, "canEncode", "(I)Z"⟩
abbrev cJ1_indexOf_4cfef : ByteArray := prog_19_method_22_code
def yJ1_indexOf_4cfef : MethodName := ⟨RJ1, "indexOf", "([BIII)I"⟩
abbrev cJ1_indexOfChar_4cfef : ByteArray := prog_19_method_23_code
def yJ1_indexOfChar_4cfef : MethodName := ⟨RJ1, "indexOfChar", "([BIII)I"⟩
def RJ2 : String := "java/lang/StringUTF16"
def TJ2 : u_T := fun k => match k with
  | _ => ("", "", "", false)
def tyJ2 : Nat → FieldType := fun k => match k with
  | _ => .int
abbrev wsJ20 : List Cond := u_ws RJ2 TJ2 0
theorem nmJ2 : ∀ a, a < 0 → ∀ b, b < 0 → a ≠ b → (TJ2 a).2.1 ≠ (TJ2 b).2.1 := by decide +kernel
theorem tyJ2_ok : ∀ k, k < 0 → parseFieldDescriptor (TJ2 k).2.2.1 = some (tyJ2 k) := by decide +kernel
abbrev cJ2_getChar_3b067 : ByteArray := prog_20_method_5_code
def yJ2_getChar_3b067 : MethodName := ⟨RJ2, "getChar", "([BI)C"⟩
abbrev cJ2_length_9d52b : ByteArray := prog_20_method_6_code
def yJ2_length_9d52b : MethodName := ⟨RJ2, "length", "([B)I"⟩
abbrev cJ2_indexOf_4cfef : ByteArray := prog_20_method_40_code
def yJ2_indexOf_4cfef : MethodName := ⟨RJ2, "indexOf", "([BIII)I"⟩
abbrev cJ2_indexOfChar_4cfef : ByteArray := prog_20_method_47_code
def yJ2_indexOfChar_4cfef : MethodName := ⟨RJ2, "indexOfChar", "([BIII)I"⟩
abbrev cJ2_indexOfCharUnsafe_4cfef : ByteArray := prog_20_method_48_code
def yJ2_indexOfCharUnsafe_4cfef : MethodName := ⟨RJ2, "indexOfCharUnsafe", "([BIII)I"⟩
abbrev cJ2_indexOfSupplementary_4cfef : ByteArray := prog_20_method_49_code
def yJ2_indexOfSupplementary_4cfef : MethodName := ⟨RJ2, "indexOfSupplementary", "([BIII)I"⟩
abbrev cJ2_checkBoundsBeginEnd_d044e : ByteArray := prog_20_method_93_code
def yJ2_checkBoundsBeginEnd_d044e : MethodName := ⟨RJ2, "checkBoundsBeginEnd", "(II[B)V"⟩
def RJ3 : String := "jdk/internal/util/Preconditions"
def TJ3 : u_T := fun k => match k with
  | _ => ("", "", "", false)
def tyJ3 : Nat → FieldType := fun k => match k with
  | _ => .int
abbrev wsJ30 : List Cond := u_ws RJ3 TJ3 0
theorem nmJ3 : ∀ a, a < 0 → ∀ b, b < 0 → a ≠ b → (TJ3 a).2.1 ≠ (TJ3 b).2.1 := by decide +kernel
theorem tyJ3_ok : ∀ k, k < 0 → parseFieldDescriptor (TJ3 k).2.2.1 = some (tyJ3 k) := by decide +kernel
abbrev cJ3_checkFromToIndex_8c36e : ByteArray := prog_21_method_12_code
def yJ3_checkFromToIndex_8c36e : MethodName := ⟨RJ3, "checkFromToIndex", "(IIILjava/util/function/BiFunction;)I"⟩
def RL : String := "IceTreatyLaw"
abbrev cL_law : ByteArray := code
def yL_law : MethodName := ⟨RL, "law", "([I)Z"⟩
end
section
abbrev TCl : List vw_C := [(RX0, TX0, 13), (RX1, TX1, 13), (RX2, TX2, 5), (RX3, TX3, 16), (RX5, TX5, 7), (RX6, TX6, 10), (RX7, TX7, 11), (RX8, TX8, 4), (RX9, TX9, 5), (RX10, TX10, 15), (RX11, TX11, 20), (RX12, TX12, 151)]
abbrev nestO : String := RX11
abbrev nestI : Nat := 18
abbrev nestY : MethodName := yX1_init
abbrev nestW : Cond := .methodLinkNest nestO nestI nestY RX11
def tyOf (t : Nat) : FieldType := match t with
  | 0 => .int
  | 1 => .long
  | 2 => .byte
  | 3 => .boolean
  | 4 => .object RX2
  | 5 => .object RX3
  | 6 => .object RX10
  | 7 => .object RX7
  | _ => .object RX9
def aoC : List String := [RX2, RX3, RX10, RX7, RX9]
/-! a memory as two functions: what stands at an address (0: an object of a kind; t + 1: an array), and what its places hold -/
def gw : List Cond := lw_tbl.filter goodWord
theorem gw_mem {w : Cond} (h : w ∈ lw_tbl) (hg : goodWord w = true) : w ∈ gw := List.mem_filter.mpr ⟨h, hg⟩
theorem gw_tbl {w : Cond} (h : w ∈ gw) : w ∈ lw_tbl := (List.mem_filter.mp h).1
theorem gw_ok {w : Cond} (h : w ∈ gw) : (w.onTables && w.keeps) = true ∨ ∃ ty, w = .arrayClass ty := good_of_word (List.mem_filter.mp h).2
theorem gw_hts {args : Array Value} {s : State} (h : ∀ w ∈ lw_tbl, w.before args s = true) : ∀ w ∈ gw, w.before args s = true := fun w hw => h w (gw_tbl hw)
/-- a contract's words: its own code, and the tables -/
abbrev wsOf (y : MethodName) (b : ByteArray) (n : Nat) (rt : Option FieldType) : List Cond := .code y b n rt :: gw
theorem gi_ws {y : MethodName} {b : ByteArray} {n : Nat} {rt : Option FieldType} (h : Cond.code y b n rt ∈ gw) : GoodIn gw (wsOf y b n rt) := fun w hw => by
  rcases List.mem_cons.mp hw with rfl | hw
  · exact ⟨h, gw_ok h⟩
  · exact ⟨hw, gw_ok hw⟩
theorem gi_app {a b : List Cond} (ha : ∀ w ∈ a, w ∈ gw) (hb : GoodIn gw b) : GoodIn gw (a ++ b) := fun w hw => by
  rcases List.mem_append.mp hw with hw | hw
  · exact ⟨ha w hw, gw_ok (ha w hw)⟩
  · exact hb w hw
def upd2 (V : Nat → Nat → Value) (a k : Nat) (v : Value) : Nat → Nat → Value := fun b j => if b = a ∧ j = k then v else V b j
theorem upd2_same (V : Nat → Nat → Value) (a k : Nat) (v : Value) : upd2 V a k v a k = v := by simp [upd2]
theorem upd2_ne {V : Nat → Nat → Value} {a k b j : Nat} {v : Value} (h : b ≠ a ∨ j ≠ k) : upd2 V a k v b j = V b j := by
  unfold upd2
  rw [if_neg]
  rintro ⟨h1, h2⟩
  rcases h with h | h
  · exact h h1
  · exact h h2
theorem upd2_row {V : Nat → Nat → Value} {a k : Nat} {v : Value} : upd2 V a k v a = updV (V a) k v := by
  funext j
  simp [upd2, updV]
theorem upd2_other {V : Nat → Nat → Value} {a k b : Nat} {v : Value} (h : b ≠ a) : upd2 V a k v b = V b := by
  funext j
  exact upd2_ne (Or.inl h)
abbrev Kmap : Type := Nat → Option (Nat × Nat)
abbrev Vmap : Type := Nat → Nat → Value
def updK (K : Kmap) (q : Nat) (k : Nat × Nat) : Kmap := fun b => if b = q then some k else K b
theorem updK_same {K : Kmap} {q : Nat} {k : Nat × Nat} : updK K q k q = some k := by simp [updK]
theorem updK_ne {K : Kmap} {q b : Nat} {k : Nat × Nat} (h : b ≠ q) : updK K q k b = K b := by simp [updK, h]
theorem K_ne {K : Kmap} {a b : Nat} {k1 k2 : Nat × Nat} (ha : K a = some k1) (hb : K b = some k2) (h : k1 ≠ k2) : a ≠ b := fun e => h (Option.some.inj (by rw [← ha, ← hb, e]))
/-- what is here is not what is new -/
theorem K_old {K : Kmap} {a q : Nat} {k : Nat × Nat} (ha : K a = some k) (hq : K q = none) : a ≠ q := fun e => by rw [e, hq] at ha; cases ha
theorem th_some {K K1 : Kmap} {b : Nat} (hE : ∀ a k, K a = some k → K1 a = some k) (h : K b ≠ none) : K1 b ≠ none := by
  cases hk : K b with
  | none => exact absurd hk h
  | some k => rw [hE b k hk]; exact fun h => by cases h
theorem th_bold {K : Kmap} {b q : Nat} (h : K b ≠ none) (hq : K q = none) : b ≠ q := fun e => h (by rw [e]; exact hq)
def thC (D : va_G) (dA : Nat → ClassId) (k : Nat × Nat) (V : Nat → Value) (a : Nat) (H : Heap) : Prop :=
  match k.1 with
  | 0 => ∃ r : vw_C, TCl[k.2]? = some r ∧ t_OB a (D.1 k.2) r.2.2 (D.2 k.2) H V
  | t + 1 => H[a]? = some (arrV (dA t) k.2 V)
theorem thC.kept {D : va_G} {dA : Nat → ClassId} {k : Nat × Nat} {V : Nat → Value} {a : Nat} {H H1 : Heap} (h : thC D dA k V a H) (hq : H1[a]? = H[a]?) : thC D dA k V a H1 := by
  obtain ⟨t, n⟩ := k
  cases t with
  | zero =>
    obtain ⟨r, h1, h2⟩ := h
    exact ⟨r, h1, h2.kept hq⟩
  | succ t => exact hq.trans h
theorem thC.lt {D : va_G} {dA : Nat → ClassId} {k : Nat × Nat} {V : Nat → Value} {a : Nat} {H : Heap} (h : thC D dA k V a H) : a < H.size := by
  obtain ⟨t, n⟩ := k
  cases t with
  | zero =>
    obtain ⟨r, h1, cell, h2, -⟩ := h
    exact (Array.getElem?_eq_some_iff.mp h2).1
  | succ t => exact (Array.getElem?_eq_some_iff.mp h).1
def Rep (D : va_G) (dA : Nat → ClassId) (K : Kmap) (V : Vmap) (H : Heap) : Prop := ∀ (a : Nat) (k : Nat × Nat), K a = some k → thC D dA k (V a) a H
theorem Rep.fresh {D : va_G} {dA : Nat → ClassId} {K : Kmap} {V : Vmap} {H : Heap} (h : Rep D dA K V H) {q : Nat} (hq : H.size ≤ q) : K q = none := by
  cases hk : K q with
  | none => rfl
  | some k => exact absurd (h q k hk).lt (Nat.not_lt.mpr hq)
/-- the classes and array classes that the tables know -/
def KN (D : va_G) (dA : Nat → ClassId) (U : State) : Prop := va_K D TCl [] U ∧ va_Nw nestW U ∧ (∀ t, t < 9 → ArrOfT U (dA t) (tyOf t) ∧ va_RA U (dA t) (tyOf t)) ∧ ∀ Cn ∈ aoC, va_AO Cn U
theorem KN.moved {D : va_G} {dA : Nat → ClassId} {s U : State} (h : KN D dA s) (hW : s.WarmedH U.vm) : KN D dA U :=
  ⟨va_K.moved hW.alike h.1, va_Nw.warmM hW h.2.1, fun t ht => ⟨arrOfT_moved hW.alike (h.2.2.1 t ht).1, (h.2.2.1 t ht).2.moved hW.alike⟩, fun Cn hC => (h.2.2.2 Cn hC).moved hW.alike⟩
theorem KN.same {D : va_G} {dA : Nat → ClassId} {s U : State} (h : KN D dA s) (hv : s.vm = U.vm) : KN D dA U := by
  have ha : s.vm.Alike U.vm := by rw [← hv]; exact Vm.Alike.refl _
  exact ⟨va_K.moved ha h.1, va_Nw.same rfl hv h.2.1, fun t ht => ⟨arrOfT_moved ha (h.2.2.1 t ht).1, (h.2.2.1 t ht).2.moved ha⟩, fun Cn hC => (h.2.2.2 Cn hC).moved ha⟩
/-- what a walk knows of its method -/
def CX (p : Program) (s : State) (m : MethodId) (args : Array Value) (meth : Method) (c : Code) (cc : ByteArray) (nL : Nat) (rt : Option FieldType) (own : String) (D : va_G) (dA : Nat → ClassId) : Prop :=
  p.tables.exec = Jvm.exec ∧ c.code = cc ∧ c.maxLocals = nL ∧ meth.sig.returnType = rt ∧ meth.locks = false ∧ s.vm.findClass own = some m.cls ∧ (∀ w ∈ gw, w.before args s = true) ∧ KN D dA s
/-- which cells a method may change -/
def AK (K : Kmap) (sz : Nat) : Nat → Prop := fun q => (∃ k, K q = some k) ∨ sz ≤ q
/-- where a walk stands: the memory, and what has been kept since the start (K0, H0) -/
def ST (D : va_G) (dA : Nat → ClassId) (K0 : Kmap) (H0 : Heap) (K : Kmap) (V : Vmap) (H : Heap) (locs : List Loc) : Prop :=
  Rep D dA K V H ∧ va_S (AK K0 H0.size) H0 H locs ∧ (∀ a k, K a = some k → AK K0 H0.size a) ∧ ∀ a k, K0 a = some k → K a = some k
theorem ST.rf {D : va_G} {dA : Nat → ClassId} {K : Kmap} {V : Vmap} {H : Heap} (h : Rep D dA K V H) : ST D dA K H K V H [] := ⟨h, va_S.rf, fun _ k hk => Or.inl ⟨k, hk⟩, fun _ _ h => h⟩
theorem ST.put {D : va_G} {dA : Nat → ClassId} {K0 : Kmap} {H0 H H1 : Heap} {K : Kmap} {V V1 : Vmap} {locs : List Loc} {a i : Nat} {k : Nat × Nat} (h : ST D dA K0 H0 K V H locs) (ha : K a = some k) (hc : thC D dA k (V1 a) a H1) (hV : ∀ b, b ≠ a → V1 b = V b) (z : H1.size = H.size) (oq : ∀ q : Nat, q ≠ a → H1[q]? = H[q]?) : ST D dA K0 H0 K V1 H1 (locs ++ [⟨a, i⟩]) := by
  refine ⟨fun b kb hb => ?_, h.2.1.put z oq (h.2.2.1 a k ha), h.2.2.1, h.2.2.2⟩
  by_cases hba : b = a
  · subst hba
    cases ha.symm.trans hb
    exact hc
  · rw [hV b hba]
    exact (h.1 b kb hb).kept (oq b hba)
theorem ST.push {D : va_G} {dA : Nat → ClassId} {K0 : Kmap} {H0 H H1 : Heap} {K : Kmap} {V V1 : Vmap} {locs : List Loc} {k : Nat × Nat} (h : ST D dA K0 H0 K V H locs) (hc : thC D dA k (V1 H.size) H.size H1) (hV : ∀ b, b ≠ H.size → V1 b = V b) (z : H1.size = H.size + 1) (oq : ∀ q : Nat, q < H.size → H1[q]? = H[q]?) : ST D dA K0 H0 (updK K H.size k) V1 H1 locs := by
  have hs := h.2.1.1
  refine ⟨fun b kb hb => ?_, ⟨by omega, fun q h1 h2 => (oq q (by omega)).trans (h.2.1.2.1 q h1 h2), h.2.1.2.2⟩, fun a kk ha => ?_, fun a kk ha => ?_⟩
  · by_cases hba : b = H.size
    · subst hba
      rw [updK_same] at hb
      cases hb
      exact hc
    · rw [updK_ne hba] at hb
      rw [hV b hba]
      exact (h.1 b kb hb).kept (oq b (h.1 b kb hb).lt)
  · by_cases hba : a = H.size
    · exact Or.inr (by omega)
    · rw [updK_ne hba] at ha
      exact h.2.2.1 a kk ha
  · have h1 := h.2.2.2 a kk ha
    have h2 := (h.1 a kk h1).lt
    rw [updK_ne (by omega)]
    exact h1
/-- a field by its link: the kind of its object, its place -/
def FL (own : String) (index ci k : Nat) : Prop := ∃ T : vw_C, TCl[ci]? = some T ∧ k < T.2.2 ∧ (∀ w ∈ u_ws T.1 T.2.1 T.2.2, w ∈ gw) ∧ Cond.fieldLink own index (T.2.1 k).1 (T.2.1 k).2.1 (T.2.1 k).2.2.1 ∈ gw
def FP (own : String) (index ci k : Nat) (ty : FieldType) (fin : Bool) : Prop := ∃ (T : vw_C) (ty0 : Nat → FieldType), TCl[ci]? = some T ∧ k < T.2.2 ∧ (∀ w ∈ u_ws T.1 T.2.1 T.2.2, w ∈ gw) ∧ Cond.fieldLink own index (T.2.1 k).1 (T.2.1 k).2.1 (T.2.1 k).2.2.1 ∈ gw ∧ (∀ j, j < T.2.2 → parseFieldDescriptor (T.2.1 j).2.2.1 = some (ty0 j)) ∧ (∀ a, a < T.2.2 → ∀ b, b < T.2.2 → a ≠ b → (T.2.1 a).2.1 ≠ (T.2.1 b).2.1) ∧ (T.2.1 k).2.2.2 = fin ∧ parseFieldDescriptor (T.2.1 k).2.2.1 = some ty ∧ (fin = true → (T.2.1 k).1 = own)
/-! ints by what they are as numbers -/
section TI
variable {p : Program} {l : Launch} {e : Env} {R : Room} {s : State} {m : MethodId} {args : Array Value} {below : List Frame} {meth : Method} {c : Code} {H : Heap} {locs : List Loc} {cells slots : Nat} {Q : State → Prop}
variable {cc : ByteArray} {pc : Nat} {ls : Array Slot} {rest : List Value}
theorem th_top {x : Int32} {X : Int} (h : x.toInt = X) (k : ∀ y : Int32, y.toInt = X → W p l e R s m args below meth c H locs cells slots Q (F0 m pc ls (.int y :: rest))) : W p l e R s m args below meth c H locs cells slots Q (F0 m pc ls (.int x :: rest)) := k x h
theorem th_is {v w : Value} (h : v = w) (k : W p l e R s m args below meth c H locs cells slots Q (F0 m pc ls (w :: rest))) : W p l e R s m args below meth c H locs cells slots Q (F0 m pc ls (v :: rest)) := h ▸ k
theorem th_if_eq (hexec : p.tables.exec = Jvm.exec) (hb : c.code = cc) {x : Int32} {X : Int} {off : Int} {tgt : Nat} (hdg : decode cc pc = .ok (.ifCond .eq off, 3)) (ht : (pc : Int) + off = (tgt : Int)) (hX : x.toInt = X)
    (kt : X = 0 → W p l e R s m args below meth c H locs cells slots Q (F0 m tgt ls rest)) (kf : X ≠ 0 → W p l e R s m args below meth c H locs cells slots Q (F0 m (pc + 3) ls rest)) : W p l e R s m args below meth c H locs cells slots Q (F0 m pc ls (.int x :: rest)) := by
  subst hX
  exact lv_if_eq hexec hb hdg ht (fun h => kt (by rw [h]; rfl)) (fun h => kf (fun q => h (Int32.toInt_inj.mp (by rw [q]; rfl))))
theorem th_icmp_eq (hexec : p.tables.exec = Jvm.exec) (hb : c.code = cc) {x : Int32} {X : Int} {y : Int32} {Y : Int} {off : Int} {tgt : Nat} (hdg : decode cc pc = .ok (.if_icmp .eq off, 3)) (ht : (pc : Int) + off = (tgt : Int)) (hX : x.toInt = X) (hY : y.toInt = Y)
    (kt : X = Y → W p l e R s m args below meth c H locs cells slots Q (F0 m tgt ls rest)) (kf : X ≠ Y → W p l e R s m args below meth c H locs cells slots Q (F0 m (pc + 3) ls rest)) : W p l e R s m args below meth c H locs cells slots Q (F0 m pc ls (.int y :: .int x :: rest)) := by
  subst hX
  subst hY
  exact lv_icmp_eq hexec hb hdg ht (fun h => kt (by rw [h])) (fun h => kf (fun q => h (Int32.toInt_inj.mp (by rw [q]))))
theorem th_if_ne (hexec : p.tables.exec = Jvm.exec) (hb : c.code = cc) {x : Int32} {X : Int} {off : Int} {tgt : Nat} (hdg : decode cc pc = .ok (.ifCond .ne off, 3)) (ht : (pc : Int) + off = (tgt : Int)) (hX : x.toInt = X)
    (kt : X ≠ 0 → W p l e R s m args below meth c H locs cells slots Q (F0 m tgt ls rest)) (kf : X = 0 → W p l e R s m args below meth c H locs cells slots Q (F0 m (pc + 3) ls rest)) : W p l e R s m args below meth c H locs cells slots Q (F0 m pc ls (.int x :: rest)) := by
  subst hX
  exact lv_if_ne hexec hb hdg ht (fun h => kt (fun q => h (Int32.toInt_inj.mp (by rw [q]; rfl)))) (fun h => kf (by rw [h]; rfl))
theorem th_icmp_ne (hexec : p.tables.exec = Jvm.exec) (hb : c.code = cc) {x : Int32} {X : Int} {y : Int32} {Y : Int} {off : Int} {tgt : Nat} (hdg : decode cc pc = .ok (.if_icmp .ne off, 3)) (ht : (pc : Int) + off = (tgt : Int)) (hX : x.toInt = X) (hY : y.toInt = Y)
    (kt : X ≠ Y → W p l e R s m args below meth c H locs cells slots Q (F0 m tgt ls rest)) (kf : X = Y → W p l e R s m args below meth c H locs cells slots Q (F0 m (pc + 3) ls rest)) : W p l e R s m args below meth c H locs cells slots Q (F0 m pc ls (.int y :: .int x :: rest)) := by
  subst hX
  subst hY
  exact lv_icmp_ne hexec hb hdg ht (fun h => kt (fun q => h (Int32.toInt_inj.mp (by rw [q])))) (fun h => kf (by rw [h]))
theorem th_if_lt (hexec : p.tables.exec = Jvm.exec) (hb : c.code = cc) {x : Int32} {X : Int} {off : Int} {tgt : Nat} (hdg : decode cc pc = .ok (.ifCond .lt off, 3)) (ht : (pc : Int) + off = (tgt : Int)) (hX : x.toInt = X)
    (kt : X < 0 → W p l e R s m args below meth c H locs cells slots Q (F0 m tgt ls rest)) (kf : X ≥ 0 → W p l e R s m args below meth c H locs cells slots Q (F0 m (pc + 3) ls rest)) : W p l e R s m args below meth c H locs cells slots Q (F0 m pc ls (.int x :: rest)) := by
  subst hX
  exact lv_if_lt hexec hb hdg ht (fun h => kt (by rw [Int32.lt_iff_toInt_lt, Int32.toInt_zero] at h; omega)) (fun h => kf (by rw [Int32.lt_iff_toInt_lt, Int32.toInt_zero] at h; omega))
theorem th_icmp_lt (hexec : p.tables.exec = Jvm.exec) (hb : c.code = cc) {x : Int32} {X : Int} {y : Int32} {Y : Int} {off : Int} {tgt : Nat} (hdg : decode cc pc = .ok (.if_icmp .lt off, 3)) (ht : (pc : Int) + off = (tgt : Int)) (hX : x.toInt = X) (hY : y.toInt = Y)
    (kt : X < Y → W p l e R s m args below meth c H locs cells slots Q (F0 m tgt ls rest)) (kf : X ≥ Y → W p l e R s m args below meth c H locs cells slots Q (F0 m (pc + 3) ls rest)) : W p l e R s m args below meth c H locs cells slots Q (F0 m pc ls (.int y :: .int x :: rest)) := by
  subst hX
  subst hY
  exact lv_icmp_lt hexec hb hdg ht (fun h => kt (by rw [Int32.lt_iff_toInt_lt] at h; omega)) (fun h => kf (by rw [Int32.lt_iff_toInt_lt] at h; omega))
theorem th_if_ge (hexec : p.tables.exec = Jvm.exec) (hb : c.code = cc) {x : Int32} {X : Int} {off : Int} {tgt : Nat} (hdg : decode cc pc = .ok (.ifCond .ge off, 3)) (ht : (pc : Int) + off = (tgt : Int)) (hX : x.toInt = X)
    (kt : X ≥ 0 → W p l e R s m args below meth c H locs cells slots Q (F0 m tgt ls rest)) (kf : X < 0 → W p l e R s m args below meth c H locs cells slots Q (F0 m (pc + 3) ls rest)) : W p l e R s m args below meth c H locs cells slots Q (F0 m pc ls (.int x :: rest)) := by
  subst hX
  exact lv_if_ge hexec hb hdg ht (fun h => kt (by rw [Int32.le_iff_toInt_le, Int32.toInt_zero] at h; omega)) (fun h => kf (by rw [Int32.le_iff_toInt_le, Int32.toInt_zero] at h; omega))
theorem th_icmp_ge (hexec : p.tables.exec = Jvm.exec) (hb : c.code = cc) {x : Int32} {X : Int} {y : Int32} {Y : Int} {off : Int} {tgt : Nat} (hdg : decode cc pc = .ok (.if_icmp .ge off, 3)) (ht : (pc : Int) + off = (tgt : Int)) (hX : x.toInt = X) (hY : y.toInt = Y)
    (kt : X ≥ Y → W p l e R s m args below meth c H locs cells slots Q (F0 m tgt ls rest)) (kf : X < Y → W p l e R s m args below meth c H locs cells slots Q (F0 m (pc + 3) ls rest)) : W p l e R s m args below meth c H locs cells slots Q (F0 m pc ls (.int y :: .int x :: rest)) := by
  subst hX
  subst hY
  exact lv_icmp_ge hexec hb hdg ht (fun h => kt (by rw [Int32.le_iff_toInt_le] at h; omega)) (fun h => kf (by rw [Int32.le_iff_toInt_le] at h; omega))
theorem th_if_gt (hexec : p.tables.exec = Jvm.exec) (hb : c.code = cc) {x : Int32} {X : Int} {off : Int} {tgt : Nat} (hdg : decode cc pc = .ok (.ifCond .gt off, 3)) (ht : (pc : Int) + off = (tgt : Int)) (hX : x.toInt = X)
    (kt : X > 0 → W p l e R s m args below meth c H locs cells slots Q (F0 m tgt ls rest)) (kf : X ≤ 0 → W p l e R s m args below meth c H locs cells slots Q (F0 m (pc + 3) ls rest)) : W p l e R s m args below meth c H locs cells slots Q (F0 m pc ls (.int x :: rest)) := by
  subst hX
  exact lv_if_gt hexec hb hdg ht (fun h => kt (by rw [Int32.lt_iff_toInt_lt, Int32.toInt_zero] at h; omega)) (fun h => kf (by rw [Int32.lt_iff_toInt_lt, Int32.toInt_zero] at h; omega))
theorem th_icmp_gt (hexec : p.tables.exec = Jvm.exec) (hb : c.code = cc) {x : Int32} {X : Int} {y : Int32} {Y : Int} {off : Int} {tgt : Nat} (hdg : decode cc pc = .ok (.if_icmp .gt off, 3)) (ht : (pc : Int) + off = (tgt : Int)) (hX : x.toInt = X) (hY : y.toInt = Y)
    (kt : X > Y → W p l e R s m args below meth c H locs cells slots Q (F0 m tgt ls rest)) (kf : X ≤ Y → W p l e R s m args below meth c H locs cells slots Q (F0 m (pc + 3) ls rest)) : W p l e R s m args below meth c H locs cells slots Q (F0 m pc ls (.int y :: .int x :: rest)) := by
  subst hX
  subst hY
  exact lv_icmp_gt hexec hb hdg ht (fun h => kt (by rw [Int32.lt_iff_toInt_lt] at h; omega)) (fun h => kf (by rw [Int32.lt_iff_toInt_lt] at h; omega))
theorem th_if_le (hexec : p.tables.exec = Jvm.exec) (hb : c.code = cc) {x : Int32} {X : Int} {off : Int} {tgt : Nat} (hdg : decode cc pc = .ok (.ifCond .le off, 3)) (ht : (pc : Int) + off = (tgt : Int)) (hX : x.toInt = X)
    (kt : X ≤ 0 → W p l e R s m args below meth c H locs cells slots Q (F0 m tgt ls rest)) (kf : X > 0 → W p l e R s m args below meth c H locs cells slots Q (F0 m (pc + 3) ls rest)) : W p l e R s m args below meth c H locs cells slots Q (F0 m pc ls (.int x :: rest)) := by
  subst hX
  exact lv_if_le hexec hb hdg ht (fun h => kt (by rw [Int32.le_iff_toInt_le, Int32.toInt_zero] at h; omega)) (fun h => kf (by rw [Int32.le_iff_toInt_le, Int32.toInt_zero] at h; omega))
theorem th_icmp_le (hexec : p.tables.exec = Jvm.exec) (hb : c.code = cc) {x : Int32} {X : Int} {y : Int32} {Y : Int} {off : Int} {tgt : Nat} (hdg : decode cc pc = .ok (.if_icmp .le off, 3)) (ht : (pc : Int) + off = (tgt : Int)) (hX : x.toInt = X) (hY : y.toInt = Y)
    (kt : X ≤ Y → W p l e R s m args below meth c H locs cells slots Q (F0 m tgt ls rest)) (kf : X > Y → W p l e R s m args below meth c H locs cells slots Q (F0 m (pc + 3) ls rest)) : W p l e R s m args below meth c H locs cells slots Q (F0 m pc ls (.int y :: .int x :: rest)) := by
  subst hX
  subst hY
  exact lv_icmp_le hexec hb hdg ht (fun h => kt (by rw [Int32.le_iff_toInt_le] at h; omega)) (fun h => kf (by rw [Int32.le_iff_toInt_le] at h; omega))
theorem th_rng0 (x : Int32) : -2147483648 ≤ x.toInt ∧ x.toInt ≤ 2147483647 := ⟨Int32.le_toInt x, by have := Int32.toInt_lt x; omega⟩
theorem th_add {x y : Int32} {X Y : Int} (hx : x.toInt = X) (hy : y.toInt = Y) (h1 : -2147483648 ≤ X + Y) (h2 : X + Y ≤ 2147483647) : (x + y).toInt = X + Y := by
  subst hx; subst hy
  rw [Int32.toInt_add]
  exact Int.bmod_eq_of_le (by omega) (by omega)
theorem th_sub {x y : Int32} {X Y : Int} (hx : x.toInt = X) (hy : y.toInt = Y) (h1 : -2147483648 ≤ X - Y) (h2 : X - Y ≤ 2147483647) : (x - y).toInt = X - Y := by
  subst hx; subst hy
  rw [Int32.toInt_sub]
  exact Int.bmod_eq_of_le (by omega) (by omega)
theorem th_mul {x y : Int32} {X Y : Int} (hx : x.toInt = X) (hy : y.toInt = Y) (h1 : -2147483648 ≤ X * Y) (h2 : X * Y ≤ 2147483647) : (x * y).toInt = X * Y := by
  subst hx; subst hy
  rw [Int32.toInt_mul]
  exact Int.bmod_eq_of_le (by omega) (by omega)
theorem th_div {x y : Int32} {X Y : Int} (hx : x.toInt = X) (hy : y.toInt = Y) (h1 : 0 ≤ X) (h2 : 0 < Y) : (x / y).toInt = X / Y := by
  subst hx; subst hy
  rw [Int32.toInt_div]
  rw [Int.tdiv_eq_ediv_of_nonneg h1]
  have h3 := Int.ediv_nonneg h1 (Int.le_of_lt h2)
  have h4 : x.toInt / y.toInt ≤ x.toInt := Int.ediv_le_self _ h1
  have h5 := Int32.toInt_lt x
  exact Int.bmod_eq_of_le (by omega) (by omega)
theorem th_rem {x y : Int32} {X Y : Int} (hx : x.toInt = X) (hy : y.toInt = Y) (h1 : 0 ≤ X) (h2 : 0 < Y) : (x - x / y * y).toInt = X % Y := by
  have hX := th_rng0 x
  rw [hx] at hX
  have hd := th_div hx hy h1 h2
  have h3 : 0 ≤ X / Y * Y := Int.mul_nonneg (Int.ediv_nonneg h1 (Int.le_of_lt h2)) (Int.le_of_lt h2)
  have h4 : X / Y * Y ≤ X := Int.ediv_mul_le X (by omega)
  have hm := th_mul hd hy (by omega) (by omega)
  have hs := th_sub hx hm (by omega) (by omega)
  rw [hs, Int.emod_def, Int.mul_comm]
theorem th_rng (x : Int32) : -2147483648 ≤ x.toInt ∧ x.toInt ≤ 2147483647 := ⟨Int32.le_toInt x, by have := Int32.toInt_lt x; omega⟩
end TI
section TH
variable {p : Program} {l : Launch} {e : Env} {R : Room} {s : State} {m : MethodId} {args : Array Value} {below : List Frame} {meth : Method} {c : Code} {H : Heap} {locs : List Loc} {cells slots : Nat} {Q : State → Prop}
variable {cc : ByteArray} {nL : Nat} {rt : Option FieldType} {own : String} {D : va_G} {dA : Nat → ClassId} {K0 K : Kmap} {H0 : Heap} {V : Vmap} {pc : Nat} {ls : Array Slot} {rest : List Value}
theorem th_get (C : CX p s m args meth c cc nL rt own D dA) (S : Rep D dA K V H) {a ci k index : Nat} {v : Value} (ha : K a = some (0, ci)) (hf : FL own index ci k) (hv : V a k = v) (hdg : decode cc pc = .ok (.getfield index, 3))
    (kk : W p l e R s m args below meth c H locs cells slots Q (F0 m (pc + 3) ls (v :: rest))) : W p l e R s m args below meth c H locs cells slots Q (F0 m pc ls (.ref a :: rest)) := by
  obtain ⟨hx, hb, -, -, -, hown, hts, hKN⟩ := C
  obtain ⟨T, hc, hk, hin, hl⟩ := hf
  obtain ⟨r, h1, cell, q1, q2, q3, q4⟩ := S a _ ha
  have hr : r = T := Option.some.inj (h1.symm.trans hc)
  subst hr
  obtain ⟨hS, hfc, kC, hkC, hkind⟩ := hKN.1.1 ci _ hc
  obtain ⟨cf, kf, fi, f, hi, hsl⟩ := hS k hk
  refine W.getf hx hb hown (hts _ hl) hi (u_facts hfc hkC (u_lays hts hin hk) hi).1 q1 (by rw [q3]; exact fun h => by cases h) (v := v) ?_ rfl rfl hdg kk
  rw [hsl, q4 k hk, hv]
theorem th_put (C : CX p s m args meth c cc nL rt own D dA) (S : ST D dA K0 H0 K V H locs) {a ci k index : Nat} {v : Value} {ty : FieldType} (ha : K a = some (0, ci)) (hf : FP own index ci k ty false) (hn : narrow ty v = v) (hfit : fits ty v = true) (hdg : decode cc pc = .ok (.putfield index, 3))
    (kk : ∀ (V1 : Vmap) (H1 : Heap) (locs1 : List Loc), V1 = upd2 V a k v → ST D dA K0 H0 K V1 H1 locs1 → W p l e R s m args below meth c H1 locs1 cells slots Q (F0 m (pc + 3) ls rest)) : W p l e R s m args below meth c H locs cells slots Q (F0 m pc ls (v :: .ref a :: rest)) := by
  obtain ⟨hx, hb, -, -, -, hown, hts, hKN⟩ := C
  obtain ⟨T, ty0, hc, hk, hin, hlink, hty, hnm, hfin, hd, -⟩ := hf
  have hap := va_apart (own := own) hts hin ty0 hty hnm hKN.1 hc
  obtain ⟨r, h1, cell, q1, q2, q3, q4⟩ := S.1 a _ ha
  have hr : r = T := Option.some.inj (h1.symm.trans hc)
  subst hr
  obtain ⟨hS, hfc, kC, hkC, hkind⟩ := hKN.1.1 ci _ hc
  obtain ⟨cf, kf, fi, f, hi, hsl⟩ := hS k hk
  have hlay := hts _ (hin _ (u_in_lay hk))
  unfold u_lay at hlay
  rw [if_neg (by rw [hfin]; decide)] at hlay
  have hst := (u_facts hfc hkC (u_lays hts hin hk) hi).1
  have h6 := u_store hfc hkC hkind hlay hi hd hn hfit
  refine W.putK hx hb (f := f) ⟨hown, hts _ hlink, ⟨_, _, _, hi⟩, hst⟩ (by rw [q2]; exact h6) q1 q3 (by rw [hsl]; exact k2_hasslot (q4 k hk)) rfl rfl hdg fun H' e1 e2 e3 => ?_
  rw [hsl] at e1 ⊢
  refine kk _ H' _ rfl (S.put ha ⟨_, hc, ?_⟩ (fun b hb => upd2_other hb) e2 e3)
  exact t_OB.to (V := updV (V a) k v) ⟨_, e1, q2, q3, t_set q4 hap hk v⟩ (fun j _ => by rw [upd2_row])
theorem th_putF (C : CX p s m args meth c cc nL rt own D dA) (S : ST D dA K0 H0 K V H locs) (hin2 : meth.name = "<init>") {a ci k index : Nat} {v : Value} {ty : FieldType} (ha : K a = some (0, ci)) (hf : FP own index ci k ty true) (hn : narrow ty v = v) (hfit : fits ty v = true) (hdg : decode cc pc = .ok (.putfield index, 3))
    (kk : ∀ (V1 : Vmap) (H1 : Heap) (locs1 : List Loc), V1 = upd2 V a k v → ST D dA K0 H0 K V1 H1 locs1 → W p l e R s m args below meth c H1 locs1 cells slots Q (F0 m (pc + 3) ls rest)) : W p l e R s m args below meth c H locs cells slots Q (F0 m pc ls (v :: .ref a :: rest)) := by
  obtain ⟨hx, hb, -, -, -, hown, hts, hKN⟩ := C
  obtain ⟨T, ty0, hc, hk, hin, hlink, hty, hnm, hfin, hd, hdecl⟩ := hf
  have hap := va_apart (own := own) hts hin ty0 hty hnm hKN.1 hc
  obtain ⟨r, h1, cell, q1, q2, q3, q4⟩ := S.1 a _ ha
  have hr : r = T := Option.some.inj (h1.symm.trans hc)
  subst hr
  obtain ⟨hS, hfc, kC, hkC, hkind⟩ := hKN.1.1 ci _ hc
  obtain ⟨cf, kf, fi, f, hi, hsl⟩ := hS k hk
  have hlay := hts _ (hin _ (u_in_lay hk))
  unfold u_lay at hlay
  rw [if_pos hfin] at hlay
  have hst := (u_facts hfc hkC (u_lays hts hin hk) hi).1
  have hcf : m.cls = cf := by
    obtain ⟨_, _, c', _, _, _, -, -, hf', -, -, -, hown2, -⟩ := Cond.laysFinal_spec hlay
    have e1 : c' = cf := by have := hi.symm.trans hf'; simp at this; exact this.1.symm
    rw [hdecl rfl] at hown2
    rw [← e1]; exact Option.some.inj (hown.symm.trans hown2)
  have h6 := u_fits hfc hkC hkind (Or.inr hlay) hi hd hn hfit
  refine W.putFinK hx hb hown (hts _ hlink) hi hst hcf hin2 (by rw [q2]; exact h6) q1 q3 (by rw [hsl]; exact k2_hasslot (q4 k hk)) rfl rfl hdg fun H' e1 e2 e3 => ?_
  rw [hsl] at e1 ⊢
  refine kk _ H' _ rfl (S.put ha ⟨_, hc, ?_⟩ (fun b hb => upd2_other hb) e2 e3)
  exact t_OB.to (V := updV (V a) k v) ⟨_, e1, q2, q3, t_set q4 hap hk v⟩ (fun j _ => by rw [upd2_row])
theorem th_new (C : CX p s m args meth c cc nL rt own D dA) (S : ST D dA K0 H0 K V H locs) {ci index : Nat} (T : vw_C) (ty : Nat → FieldType) (hc : TCl[ci]? = some T) (hin : ∀ w ∈ u_ws T.1 T.2.1 T.2.2, w ∈ gw) (hty : ∀ k, k < T.2.2 → parseFieldDescriptor (T.2.1 k).2.2.1 = some (ty k)) (hw1 : Cond.classLink own index T.1 ∈ gw) (hw2 : Cond.instantiable T.1 T.2.2 ∈ gw) (hw3 : Cond.initialized T.1 ∈ gw) (hcells : cells + 1 ≤ R.cells) (hslots : slots + T.2.2 ≤ R.slots) (hdg : decode cc pc = .ok (.new index, 3))
    (kk : ∀ (q : Nat) (K1 : Kmap) (V1 : Vmap) (H1 : Heap), K q = none → K1 = updK K q (0, ci) → (∀ j, V1 q j = defaultValue (ty j)) → (∀ b, b ≠ q → V1 b = V b) → ST D dA K0 H0 K1 V1 H1 locs →
      W p l e R s m args below meth c H1 locs (cells + 1) (slots + T.2.2) Q (F0 m (pc + 3) ls (.ref q :: rest))) : W p l e R s m args below meth c H locs cells slots Q (F0 m pc ls rest) := by
  obtain ⟨hx, hb, -, -, -, hown, hts, hKN⟩ := C
  have hKn := hKN.1.1 ci _ hc
  refine W.newcK hx hb hown (hts _ hw1) (hts _ hw2) (hts _ hw3) rfl hdg hcells hslots hKn.2.1 rfl fun H1 kC hkC e1 z1 o1 => ?_
  refine kk H.size _ (fun b j => if b = H.size then defaultValue (ty j) else V b j) H1 (S.1.fresh (Nat.le_refl _)) rfl (fun j => by simp) (fun b hb => by funext j; simp [hb]) (S.push ?_ (fun b hb => by funext j; simp [hb]) z1 o1)
  refine ⟨T, hc, (u_born ty hts hin hKn hkC e1 hty).to fun j hj => ?_⟩
  simp
theorem th_newa (C : CX p s m args meth c cc nL rt own D dA) (S : ST D dA K0 H0 K V H locs) {atype : ArrayType} (t : Nat) (ht : t < 9) (hty : tyOf t = newarray.typeOf atype) (hw : Cond.arrayClass (newarray.typeOf atype) ∈ gw) (hnr : ∀ U cA, va_RA U cA (newarray.typeOf atype) → U.vm.findClass ("[" ++ (newarray.typeOf atype).toString) = some cA)
    {n : Int32} {N : Nat} (hN : n.toInt = N) (hbytes : N * componentBytes (newarray.typeOf atype) ≤ 536870912) (hcells : cells + 1 ≤ R.cells) (hslots : slots + N ≤ R.slots) (hdg : decode cc pc = .ok (.newarray atype, 2))
    (kk : ∀ (q : Nat) (K1 : Kmap) (V1 : Vmap) (H1 : Heap), K q = none → K1 = updK K q (t + 1, N) → (∀ j, V1 q j = defaultValue (newarray.typeOf atype)) → (∀ b, b ≠ q → V1 b = V b) → ST D dA K0 H0 K1 V1 H1 locs →
      W p l e R s m args below meth c H1 locs (cells + 1) (slots + N) Q (F0 m (pc + 2) ls (.ref q :: rest))) : W p l e R s m args below meth c H locs cells slots Q (F0 m pc ls (.int n :: rest)) := by
  obtain ⟨hx, hb, -, -, -, hown, hts, hKN⟩ := C
  have hn : ¬ n < 0 := by rw [Int32.lt_iff_toInt_lt, Int32.toInt_zero]; omega
  have hN' : n.toNatClampNeg = N := by show n.toInt.toNat = N; omega
  refine va_newaK hx hb (hts _ hw) rfl hdg rfl hn hN' hbytes hcells hslots rfl fun H1 cA e1 z1 o1 hAr hNm => ?_
  have h9 := (hKN.2.2.1 t ht).2
  rw [hty] at h9
  have hcA : cA = dA t := Option.some.inj (hNm.symm.trans (hnr _ _ h9))
  subst hcA
  refine kk H.size _ (fun b j => if b = H.size then defaultValue (newarray.typeOf atype) else V b j) H1 (S.1.fresh (Nat.le_refl _)) rfl (fun j => by simp) (fun b hb => by funext j; simp [hb]) (S.push ?_ (fun b hb => by funext j; simp [hb]) z1 o1)
  show H1[H.size]? = some (arrV (dA t) N _)
  rw [e1]
  congr 2
  funext j
  simp
theorem th_newq (C : CX p s m args meth c cc nL rt own D dA) (S : ST D dA K0 H0 K V H locs) {Cn : String} {index : Nat} (t : Nat) (ht : t < 9) (hty : tyOf t = .object Cn) (hw1 : Cond.classLink own index Cn ∈ gw) (hw : Cn ∈ aoC)
    {n : Int32} {N : Nat} (hN : n.toInt = N) (hbytes : N * 4 ≤ 536870912) (hcells : cells + 1 ≤ R.cells) (hslots : slots + N ≤ R.slots) (hdg : decode cc pc = .ok (.anewarray index, 3))
    (kk : ∀ (q : Nat) (K1 : Kmap) (V1 : Vmap) (H1 : Heap), K q = none → K1 = updK K q (t + 1, N) → (∀ j, V1 q j = .null) → (∀ b, b ≠ q → V1 b = V b) → ST D dA K0 H0 K1 V1 H1 locs →
      W p l e R s m args below meth c H1 locs (cells + 1) (slots + N) Q (F0 m (pc + 3) ls (.ref q :: rest))) : W p l e R s m args below meth c H locs cells slots Q (F0 m pc ls (.int n :: rest)) := by
  obtain ⟨hx, hb, -, -, -, hown, hts, hKN⟩ := C
  have hn : ¬ n < 0 := by rw [Int32.lt_iff_toInt_lt, Int32.toInt_zero]; omega
  have hN' : n.toNatClampNeg = N := by show n.toInt.toNat = N; omega
  subst hN'
  refine W.anew hx hb hown (hts _ hw1) (va_AO.use (hKN.2.2.2 _ hw)) rfl hdg rfl hn hbytes hcells hslots fun cA kA comp f1 f2 f3 f4 => ?_
  have h9 := (hKN.2.2.1 t ht).2
  rw [hty] at h9
  obtain ⟨kA', comp', g1, g2, g3, g4⟩ := h9
  have hcA : cA = dA t := Option.some.inj (f1.symm.trans g4)
  subst hcA
  refine kk H.size _ (fun b j => if b = H.size then .null else V b j) _ (S.1.fresh (Nat.le_refl _)) rfl (fun j => by simp) (fun b hb => by funext j; simp [hb]) (S.push (H1 := H.push _) ?_ (fun b hb => by funext j; simp [hb]) (by simp) (fun q hq => by rw [Array.getElem?_push, if_neg (Nat.ne_of_lt hq)]))
  show (H.push _)[H.size]? = some (arrV (dA t) _ _)
  rw [Array.getElem?_push_size, arrV_new]
  congr 2
  funext j
  simp
theorem th_hin {x : Int32} {n : Nat} (h0 : 0 ≤ x.toInt) (h1 : x.toInt < n) : ¬ (x < 0 ∨ n ≤ x.toNatClampNeg) := vp_in_iff.mpr ⟨h0, h1⟩
theorem th_iald (C : CX p s m args meth c cc nL rt own D dA) (S : Rep D dA K V H) {a n : Nat} {i : Int32} {v : Value} (ha : K a = some (1, n)) (h0 : 0 ≤ i.toInt) (h1 : i.toInt < n) (hv : V a i.toInt.toNat = v) (hdg : decode cc pc = .ok (.iaload, 1))
    (kk : W p l e R s m args below meth c H locs cells slots Q (F0 m (pc + 1) ls (v :: rest))) : W p l e R s m args below meth c H locs cells slots Q (F0 m pc ls (.int i :: .ref a :: rest)) := by
  obtain ⟨hx, hb, -, -, -, hown, hts, hKN⟩ := C
  have hlt : i.toNatClampNeg < n := by show i.toInt.toNat < n; omega
  exact W.iald (v := v) hx hb (S a _ ha) ((hKN.2.2.1 0 (by decide)).1 n (V a)) (fun q => by cases q) (by rw [arrV_size]; exact th_hin h0 h1) (by rw [arrV_read _ _ hlt]; exact congrArg some hv) rfl rfl hdg kk
theorem th_lald (C : CX p s m args meth c cc nL rt own D dA) (S : Rep D dA K V H) {a n : Nat} {i : Int32} {v : Value} (ha : K a = some (2, n)) (h0 : 0 ≤ i.toInt) (h1 : i.toInt < n) (hv : V a i.toInt.toNat = v) (hdg : decode cc pc = .ok (.laload, 1))
    (kk : W p l e R s m args below meth c H locs cells slots Q (F0 m (pc + 1) ls (v :: rest))) : W p l e R s m args below meth c H locs cells slots Q (F0 m pc ls (.int i :: .ref a :: rest)) := by
  obtain ⟨hx, hb, -, -, -, hown, hts, hKN⟩ := C
  have hlt : i.toNatClampNeg < n := by show i.toInt.toNat < n; omega
  exact W.lald (v := v) hx hb (S a _ ha) ((hKN.2.2.1 1 (by decide)).1 n (V a)) (fun q => by cases q) (by rw [arrV_size]; exact th_hin h0 h1) (by rw [arrV_read _ _ hlt]; exact congrArg some hv) rfl rfl hdg kk
theorem th_iast (C : CX p s m args meth c cc nL rt own D dA) (S : ST D dA K0 H0 K V H locs) {a n : Nat} {i x : Int32} (ha : K a = some (1, n)) (h0 : 0 ≤ i.toInt) (h1 : i.toInt < n) (hdg : decode cc pc = .ok (.iastore, 1))
    (kk : ∀ (V1 : Vmap) (H1 : Heap) (locs1 : List Loc), V1 = upd2 V a i.toInt.toNat (.int x) → ST D dA K0 H0 K V1 H1 locs1 → W p l e R s m args below meth c H1 locs1 cells slots Q (F0 m (pc + 1) ls rest)) : W p l e R s m args below meth c H locs cells slots Q (F0 m pc ls (.int x :: .int i :: .ref a :: rest)) := by
  obtain ⟨hx, hb, -, -, -, hown, hts, hKN⟩ := C
  refine W.iast hx hb (S.1 a _ ha) ((hKN.2.2.1 0 (by decide)).1 n (V a)) (fun q => by cases q) (by rw [arrV_size]; exact th_hin h0 h1) rfl rfl hdg fun H1 e z oq => ?_
  refine kk _ H1 _ rfl (S.put ha ?_ (fun b hb => upd2_other hb) z oq)
  show H1[a]? = some (arrV (dA 0) n (upd2 V a _ _ a))
  rw [e, arrV_store, upd2_row]
  rfl
theorem th_bast (C : CX p s m args meth c cc nL rt own D dA) (S : ST D dA K0 H0 K V H locs) {a n : Nat} {i x : Int32} (ha : K a = some (3, n)) (h0 : 0 ≤ i.toInt) (h1 : i.toInt < n) (hdg : decode cc pc = .ok (.bastore, 1))
    (kk : ∀ (V1 : Vmap) (H1 : Heap) (locs1 : List Loc), V1 = upd2 V a i.toInt.toNat (.int x.toInt8.toInt32) → ST D dA K0 H0 K V1 H1 locs1 → W p l e R s m args below meth c H1 locs1 cells slots Q (F0 m (pc + 1) ls rest)) : W p l e R s m args below meth c H locs cells slots Q (F0 m pc ls (.int x :: .int i :: .ref a :: rest)) := by
  obtain ⟨hx, hb, -, -, -, hown, hts, hKN⟩ := C
  refine W.bast hx hb (S.1 a _ ha) ((hKN.2.2.1 2 (by decide)).1 n (V a)) (fun q => by cases q) (by rw [arrV_size]; exact th_hin h0 h1) rfl rfl hdg fun H1 e z oq => ?_
  refine kk _ H1 _ rfl (S.put ha ?_ (fun b hb => upd2_other hb) z oq)
  show H1[a]? = some (arrV (dA 2) n (upd2 V a _ _ a))
  rw [e, arrV_store, upd2_row]
  rfl
theorem th_alen (C : CX p s m args meth c cc nL rt own D dA) (S : Rep D dA K V H) {a t n : Nat} (ht : t < 9) (ha : K a = some (t + 1, n)) (hdg : decode cc pc = .ok (.arraylength, 1))
    (kk : W p l e R s m args below meth c H locs cells slots Q (F0 m (pc + 1) ls (.int (Int32.ofNat n) :: rest))) : W p l e R s m args below meth c H locs cells slots Q (F0 m pc ls (.ref a :: rest)) := by
  obtain ⟨hx, hb, -, -, -, hown, hts, hKN⟩ := C
  exact W.alen (n := Int32.ofNat n) hx hb (S a _ ha) ((hKN.2.2.1 t ht).1 n (V a)) (by rw [arrV_size] <;> rfl) rfl rfl hdg kk
theorem th_aast (C : CX p s m args meth c cc nL rt own D dA) (S : ST D dA K0 H0 K V H locs) {a t ci n v : Nat} {i : Int32} (ht : t < 9) (T : vw_C) (hc : TCl[ci]? = some T) (hty : tyOf t = .object T.1) (ha : K a = some (t + 1, n)) (hv : K v = some (0, ci)) (h0 : 0 ≤ i.toInt) (h1 : i.toInt < n) (hdg : decode cc pc = .ok (.aastore, 1))
    (kk : ∀ (V1 : Vmap) (H1 : Heap) (locs1 : List Loc), V1 = upd2 V a i.toInt.toNat (.ref v) → ST D dA K0 H0 K V1 H1 locs1 → W p l e R s m args below meth c H1 locs1 cells slots Q (F0 m (pc + 1) ls rest)) : W p l e R s m args below meth c H locs cells slots Q (F0 m pc ls (.ref v :: .int i :: .ref a :: rest)) := by
  obtain ⟨hx, hb, -, -, -, hown, hts, hKN⟩ := C
  obtain ⟨r', hr', cellV, g1, g2, g3, -⟩ := S.1 v _ hv
  have hcls := (hKN.1.1 ci T hc).2
  have h9 := (hKN.2.2.1 t ht).2
  rw [hty] at h9
  obtain ⟨kA, comp, k1, k2, k3, -⟩ := h9
  have hcomp : comp = D.1 ci := Option.some.inj (k3.symm.trans hcls.1)
  subst hcomp
  obtain ⟨kC, hkC, -⟩ := hcls.2
  have hlt : i.toNatClampNeg < n := by show i.toInt.toNat < n; omega
  have h00 : ¬ i < 0 := by rw [Int32.lt_iff_toInt_lt, Int32.toInt_zero]; omega
  refine W.aast hx hb (S.1 a _ ha) (fun q h => by cases h) (fun h => by cases h) k1 k2 rfl hkC ⟨h00, by rw [arrV_size]; exact hlt⟩ g1 (fun q h => by rw [g3] at h; cases h) (by rw [g2]; exact hkC) (by rw [g2]; exact va_assign hcls) rfl rfl hdg fun H1 e z oq => ?_
  refine kk _ H1 _ rfl (S.put ha ?_ (fun b hb => upd2_other hb) z oq)
  show H1[a]? = some (arrV (dA t) n (upd2 V a _ _ a))
  rw [e, arrV_store, upd2_row]
  rfl
/-! starts and ends of methods -/
def PC (D : va_G) (dA : Nat → ClassId) (K : Kmap) (V : Vmap) (sz : Nat) (av : List Value) : Array Value → State → Prop := fun v U => v = av.toArray ∧ U.heap.size = sz ∧ KN D dA U ∧ Rep D dA K V U.heap
theorem PC.blind {D : va_G} {dA : Nat → ClassId} {K : Kmap} {V : Vmap} {sz : Nat} {av : List Value} : FrameBlind (PC D dA K V sz av) := fun a U g mk q => ⟨q.1, q.2.1, q.2.2.1.same rfl, q.2.2.2⟩
theorem PC.at {D : va_G} {dA : Nat → ClassId} {K : Kmap} {V : Vmap} {av : List Value} (hK : KN D dA s) (hR : Rep D dA K V H) : ∀ U : State, U.heap = H → s.WarmedH U.vm → PC D dA K V H.size av av.toArray U := fun U hU hW => ⟨rfl, by rw [hU], hK.moved hW, by rw [hU]; exact hR⟩
/-- an answer, and nothing is changed -/
def PQi (post : Int32 → Prop) : Array Value → State → Outcome → State → Prop := fun _ st o t => ∃ r : Int32, o = .returned (some (.int r)) ∧ post r ∧ t.heap = st.heap
def PQr (v : Value) : Array Value → State → Outcome → State → Prop := fun _ st o t => o = .returned (some v) ∧ t.heap = st.heap
def PQv : Array Value → State → Outcome → State → Prop := fun _ st o t => o = .returned none ∧ t.heap = st.heap
/-- an answer, and a memory behind it -/
def HQi (D : va_G) (dA : Nat → ClassId) (K : Kmap) (post : Int32 → Kmap → Vmap → Prop) : Array Value → State → Outcome → State → Prop := fun _ st o t => (∃ (r : Int32) (K1 : Kmap) (V1 : Vmap), o = .returned (some (.int r)) ∧ post r K1 V1 ∧ Rep D dA K1 V1 t.heap ∧ (∀ a k, K a = some k → K1 a = some k) ∧ (∀ a k, K1 a = some k → AK K st.heap.size a)) ∧ va_F (AK K st.heap.size) st t
def HQl (D : va_G) (dA : Nat → ClassId) (K : Kmap) (post : Int64 → Kmap → Vmap → Prop) : Array Value → State → Outcome → State → Prop := fun _ st o t => (∃ (r : Int64) (K1 : Kmap) (V1 : Vmap), o = .returned (some (.long r)) ∧ post r K1 V1 ∧ Rep D dA K1 V1 t.heap ∧ (∀ a k, K a = some k → K1 a = some k) ∧ (∀ a k, K1 a = some k → AK K st.heap.size a)) ∧ va_F (AK K st.heap.size) st t
def HQv (D : va_G) (dA : Nat → ClassId) (K : Kmap) (post : Kmap → Vmap → Prop) : Array Value → State → Outcome → State → Prop := fun _ st o t => (∃ (K1 : Kmap) (V1 : Vmap), o = .returned none ∧ post K1 V1 ∧ Rep D dA K1 V1 t.heap ∧ (∀ a k, K a = some k → K1 a = some k) ∧ (∀ a k, K1 a = some k → AK K st.heap.size a)) ∧ va_F (AK K st.heap.size) st t
abbrev noFree : Addr → Prop := fun _ => False
theorem th_nz {r : Int32} (h : r.toInt = 0 ∨ r.toInt = 1) : narrow .boolean (.int r) = .int r := by
  have h2 : r = 0 ∨ r = 1 := by
    rcases h with h | h
    · exact Or.inl (Int32.toInt_inj.mp (by rw [h]; rfl))
    · exact Or.inr (Int32.toInt_inj.mp (by rw [h]; rfl))
  rcases h2 with rfl | rfl <;> rfl
theorem th_reti (C : CX p s m args meth c cc nL (some .int) own D dA) {post : Int32 → Prop} {v : Int32} (hp : post v) (hdg : decode cc pc = .ok (.ireturn, 1)) : W p l e R s m args below meth c s.heap [] 0 0 (MQ below (PQi post) args s 0 0 noFree) (F0 m pc ls [.int v]) :=
  W.iret C.1 C.2.1 C.2.2.2.1 (fun t ht _ => ⟨v, rfl, hp, ht⟩) (fun _ h => by cases h) hdg (hlocks := C.2.2.2.2.1)
theorem th_retz (C : CX p s m args meth c cc nL (some .boolean) own D dA) {post : Int32 → Prop} {v : Int32} (hz : v.toInt = 0 ∨ v.toInt = 1) (hp : post v) (hdg : decode cc pc = .ok (.ireturn, 1)) : W p l e R s m args below meth c s.heap [] 0 0 (MQ below (PQi post) args s 0 0 noFree) (F0 m pc ls [.int v]) :=
  W.zret C.1 C.2.1 C.2.2.2.1 (th_nz hz) (fun t ht _ => ⟨v, rfl, hp, ht⟩) (fun _ h => by cases h) hdg (hlocks := C.2.2.2.2.1)
theorem th_retr {rty : FieldType} (C : CX p s m args meth c cc nL (some rty) own D dA) {v : Value} (hrt : (∃ n, rty = .object n) ∨ ∃ t, rty = .array t) (hv : v = .null ∨ ∃ a, v = .ref a) (hdg : decode cc pc = .ok (.areturn, 1)) : W p l e R s m args below meth c s.heap [] 0 0 (MQ below (PQr v) args s 0 0 noFree) (F0 m pc ls [v]) :=
  W.aret C.1 C.2.1 C.2.2.2.1 hrt hv (fun t ht _ => ⟨rfl, ht⟩) (fun _ h => by cases h) hdg (hlocks := C.2.2.2.2.1)
theorem th_retv (C : CX p s m args meth c cc nL none own D dA) (hdg : decode cc pc = .ok (.return_, 1)) : W p l e R s m args below meth c s.heap [] 0 0 (MQ below PQv args s 0 0 noFree) (F0 m pc ls []) :=
  W.vret C.1 C.2.1 C.2.2.2.1 (fun t ht _ => ⟨rfl, ht⟩) (fun _ h => by cases h) hdg (hlocks := C.2.2.2.2.1)
theorem th_retiH (C : CX p s m args meth c cc nL (some .int) own D dA) (S : ST D dA K s.heap K0 V H locs) {post : Int32 → Kmap → Vmap → Prop} {v : Int32} {mc ms : Nat} (hp : post v K0 V) (h1 : cells ≤ mc) (h2 : slots ≤ ms) (hdg : decode cc pc = .ok (.ireturn, 1)) : W p l e R s m args below meth c H locs cells slots (MQ below (HQi D dA K post) args s mc ms (AK K s.heap.size)) (F0 m pc ls [.int v]) :=
  W.widen h1 h2 (W.iret C.1 C.2.1 C.2.2.2.1 (fun t ht _ => ⟨⟨v, K0, V, rfl, hp, by rw [ht]; exact S.1, S.2.2.2, S.2.2.1⟩, S.2.1.F ht⟩) S.2.1.2.2 hdg (hlocks := C.2.2.2.2.1))
theorem th_retzH (C : CX p s m args meth c cc nL (some .boolean) own D dA) (S : ST D dA K s.heap K0 V H locs) {post : Int32 → Kmap → Vmap → Prop} {v : Int32} {mc ms : Nat} (hz : v.toInt = 0 ∨ v.toInt = 1) (hp : post v K0 V) (h1 : cells ≤ mc) (h2 : slots ≤ ms) (hdg : decode cc pc = .ok (.ireturn, 1)) : W p l e R s m args below meth c H locs cells slots (MQ below (HQi D dA K post) args s mc ms (AK K s.heap.size)) (F0 m pc ls [.int v]) :=
  W.widen h1 h2 (W.zret C.1 C.2.1 C.2.2.2.1 (th_nz hz) (fun t ht _ => ⟨⟨v, K0, V, rfl, hp, by rw [ht]; exact S.1, S.2.2.2, S.2.2.1⟩, S.2.1.F ht⟩) S.2.1.2.2 hdg (hlocks := C.2.2.2.2.1))
theorem th_retlH (C : CX p s m args meth c cc nL (some .long) own D dA) (S : ST D dA K s.heap K0 V H locs) {post : Int64 → Kmap → Vmap → Prop} {v : Int64} {mc ms : Nat} (hp : post v K0 V) (h1 : cells ≤ mc) (h2 : slots ≤ ms) (hdg : decode cc pc = .ok (.lreturn, 1)) : W p l e R s m args below meth c H locs cells slots (MQ below (HQl D dA K post) args s mc ms (AK K s.heap.size)) (F0 m pc ls [.long v]) :=
  W.widen h1 h2 (W.lret C.1 C.2.1 C.2.2.2.1 (fun t ht _ => ⟨⟨v, K0, V, rfl, hp, by rw [ht]; exact S.1, S.2.2.2, S.2.2.1⟩, S.2.1.F ht⟩) S.2.1.2.2 hdg (hlocks := C.2.2.2.2.1))
theorem th_retvH (C : CX p s m args meth c cc nL none own D dA) (S : ST D dA K s.heap K0 V H locs) {post : Kmap → Vmap → Prop} {mc ms : Nat} (hp : post K0 V) (h1 : cells ≤ mc) (h2 : slots ≤ ms) (hdg : decode cc pc = .ok (.return_, 1)) : W p l e R s m args below meth c H locs cells slots (MQ below (HQv D dA K post) args s mc ms (AK K s.heap.size)) (F0 m pc ls []) :=
  W.widen h1 h2 (W.vret C.1 C.2.1 C.2.2.2.1 (fun t ht _ => ⟨⟨K0, V, rfl, hp, by rw [ht]; exact S.1, S.2.2.2, S.2.2.1⟩, S.2.1.F ht⟩) S.2.1.2.2 hdg (hlocks := C.2.2.2.2.1))
/-! behind a call -/
variable {mc ms : Nat} {st0 : List Value} {aa : Array Value}
theorem th_nil {L : List Loc} (h : ∀ q ∈ L, noFree q.base) : L = [] := by
  cases L with
  | nil => rfl
  | cons q t => exact (h q List.mem_cons_self).elim
theorem th_goi {post : Int32 → Prop} (hr : va_Run p l e R s m args below meth c H locs cells slots 0 0 (F0 m pc ls st0) rest (PQi post aa) noFree) (kk : ∀ r : Int32, post r → W p l e R s m args below meth c H locs cells slots Q (F0 m (pc + 3) ls (.int r :: rest))) : W p l e R s m args below meth c H locs cells slots Q (F0 m pc ls st0) := by
  intro T hT X
  obtain ⟨v, st₀, t, T', L, h0, X', hL, e1, e2, ⟨r, hv, hp, hh⟩, st⟩ := hr T hT X
  cases hv
  obtain rfl := th_nil hL
  rw [List.append_nil] at X'
  obtain ⟨t2, a1, b1⟩ := kk r hp T' (by rw [e1, hh, h0]) X'
  exact ⟨t2, st t2 a1, b1⟩
theorem th_gor {w : Value} (hr : va_Run p l e R s m args below meth c H locs cells slots 0 0 (F0 m pc ls st0) rest (PQr w aa) noFree) (kk : W p l e R s m args below meth c H locs cells slots Q (F0 m (pc + 3) ls (w :: rest))) : W p l e R s m args below meth c H locs cells slots Q (F0 m pc ls st0) := by
  intro T hT X
  obtain ⟨v, st₀, t, T', L, h0, X', hL, e1, e2, ⟨hv, hh⟩, st⟩ := hr T hT X
  cases hv
  obtain rfl := th_nil hL
  rw [List.append_nil] at X'
  obtain ⟨t2, a1, b1⟩ := kk T' (by rw [e1, hh, h0]) X'
  exact ⟨t2, st t2 a1, b1⟩
theorem th_gov (hr : va_Run p l e R s m args below meth c H locs cells slots 0 0 (F0 m pc ls st0) rest (PQv aa) noFree) (kk : W p l e R s m args below meth c H locs cells slots Q (F0 m (pc + 3) ls rest)) : W p l e R s m args below meth c H locs cells slots Q (F0 m pc ls st0) := by
  intro T hT X
  obtain ⟨v, st₀, t, T', L, h0, X', hL, e1, e2, ⟨hv, hh⟩, st⟩ := hr T hT X
  cases hv
  obtain rfl := th_nil hL
  rw [List.append_nil] at X'
  obtain ⟨t2, a1, b1⟩ := kk T' (by rw [e1, hh, h0]) X'
  exact ⟨t2, st t2 a1, b1⟩
theorem ST.call {K1 : Kmap} {V1 : Vmap} {t st₀ : State} {L : List Loc} (S : ST D dA K0 H0 K V H locs) (h0 : st₀.heap = H) (hR : Rep D dA K1 V1 t.heap) (hK : ∀ a k, K a = some k → K1 a = some k) (hA : ∀ a k, K1 a = some k → AK K st₀.heap.size a) (hF : va_F (AK K st₀.heap.size) st₀ t) (hL : ∀ q ∈ L, AK K st₀.heap.size q.base) : ST D dA K0 H0 K1 V1 t.heap (locs ++ L) := by
  obtain ⟨hz, hk⟩ := hF
  rw [h0] at hA hz hk hL
  have hs := S.2.1.1
  have up : ∀ q, AK K H.size q → AK K0 H0.size q := fun q h => by
    rcases h with ⟨k, h⟩ | h
    · exact S.2.2.1 q k h
    · exact Or.inr (Nat.le_trans hs h)
  refine ⟨hR, ⟨Nat.le_trans hs hz, fun q h1 h2 => ?_, fun q hq => ?_⟩, fun a k h => up a (hA a k h), fun a k h => hK a k (S.2.2.2 a k h)⟩
  · rw [hk q (Nat.lt_of_lt_of_le h1 hs) (fun z => h2 (up q z))]
    exact S.2.1.2.1 q h1 h2
  · rcases List.mem_append.mp hq with h | h
    · exact S.2.1.2.2 q h
    · exact up _ (hL q h)
theorem th_goiH (S : ST D dA K0 H0 K V H locs) {sz : Nat} (hsz : H.size = sz) {post : Int32 → Kmap → Vmap → Prop} (hr : va_Run p l e R s m args below meth c H locs cells slots mc ms (F0 m pc ls st0) rest (HQi D dA K post aa) (AK K sz)) (kk : ∀ (r : Int32) (K1 : Kmap) (V1 : Vmap) (H1 : Heap) (locs1 : List Loc), post r K1 V1 → (∀ a k, K a = some k → K1 a = some k) → ST D dA K0 H0 K1 V1 H1 locs1 → W p l e R s m args below meth c H1 locs1 (cells + mc) (slots + ms) Q (F0 m (pc + 3) ls (.int r :: rest))) : W p l e R s m args below meth c H locs cells slots Q (F0 m pc ls st0) := by
  intro T hT X
  obtain ⟨v, st₀, t, T', L, h0, X', hL, e1, e2, ⟨⟨r, K1, V1, hv, hp, hR, hK, hA⟩, hF⟩, st⟩ := hr T hT X
  cases hv
  obtain ⟨t2, a1, b1⟩ := kk r K1 V1 t.heap _ hp hK (S.call h0 hR hK hA hF (by rw [h0, hsz]; exact hL)) T' e1 X'
  exact ⟨t2, st t2 a1, b1⟩
theorem th_golH (S : ST D dA K0 H0 K V H locs) {sz : Nat} (hsz : H.size = sz) {post : Int64 → Kmap → Vmap → Prop} (hr : va_Run p l e R s m args below meth c H locs cells slots mc ms (F0 m pc ls st0) rest (HQl D dA K post aa) (AK K sz)) (kk : ∀ (r : Int64) (K1 : Kmap) (V1 : Vmap) (H1 : Heap) (locs1 : List Loc), post r K1 V1 → (∀ a k, K a = some k → K1 a = some k) → ST D dA K0 H0 K1 V1 H1 locs1 → W p l e R s m args below meth c H1 locs1 (cells + mc) (slots + ms) Q (F0 m (pc + 3) ls (.long r :: rest))) : W p l e R s m args below meth c H locs cells slots Q (F0 m pc ls st0) := by
  intro T hT X
  obtain ⟨v, st₀, t, T', L, h0, X', hL, e1, e2, ⟨⟨r, K1, V1, hv, hp, hR, hK, hA⟩, hF⟩, st⟩ := hr T hT X
  cases hv
  obtain ⟨t2, a1, b1⟩ := kk r K1 V1 t.heap _ hp hK (S.call h0 hR hK hA hF (by rw [h0, hsz]; exact hL)) T' e1 X'
  exact ⟨t2, st t2 a1, b1⟩
theorem th_govH (S : ST D dA K0 H0 K V H locs) {sz : Nat} (hsz : H.size = sz) {post : Kmap → Vmap → Prop} (hr : va_Run p l e R s m args below meth c H locs cells slots mc ms (F0 m pc ls st0) rest (HQv D dA K post aa) (AK K sz)) (kk : ∀ (K1 : Kmap) (V1 : Vmap) (H1 : Heap) (locs1 : List Loc), post K1 V1 → (∀ a k, K a = some k → K1 a = some k) → ST D dA K0 H0 K1 V1 H1 locs1 → W p l e R s m args below meth c H1 locs1 (cells + mc) (slots + ms) Q (F0 m (pc + 3) ls rest)) : W p l e R s m args below meth c H locs cells slots Q (F0 m pc ls st0) := by
  intro T hT X
  obtain ⟨v, st₀, t, T', L, h0, X', hL, e1, e2, ⟨⟨K1, V1, hv, hp, hR, hK, hA⟩, hF⟩, st⟩ := hr T hT X
  cases hv
  obtain ⟨t2, a1, b1⟩ := kk K1 V1 t.heap _ hp hK (S.call h0 hR hK hA hF (by rw [h0, hsz]; exact hL)) T' e1 X'
  exact ⟨t2, st t2 a1, b1⟩
/-! calls: what the tables say of one, and the run -/
def GV (own : String) (index : Nat) (Cn : String) (y : MethodName) (b : ByteArray) (mL : Nat) (yt : Option FieldType) (n : Nat) : Prop := GoodIn gw (wsV own index Cn y (wsOf y b mL yt)) ∧ y.cls = Cn ∧ y.cls ≠ "java/lang/invoke/MethodHandle" ∧ y.cls ≠ "java/lang/invoke/VarHandle" ∧ (parseMethodDescriptor y.desc).map (fun d => d.parameters.length) = some n
def GS (own : String) (index : Nat) (y : MethodName) (b : ByteArray) (mL : Nat) (yt : Option FieldType) (n : Nat) : Prop := GoodIn gw (va_wsS own index y (wsOf y b mL yt)) ∧ y.cls ≠ "java/lang/invoke/MethodHandle" ∧ y.cls ≠ "java/lang/invoke/VarHandle" ∧ (parseMethodDescriptor y.desc).map (fun d => d.parameters.length) = some n
def GI (own : String) (index : Nat) (y : MethodName) (b : ByteArray) (mL : Nat) (n : Nat) : Prop := GoodIn gw (wsOf y b mL none) ∧ Cond.initialized y.cls ∈ gw ∧ Cond.methodLink own index y ∈ gw ∧ Cond.instanceMethod y ∈ gw ∧ y.name = "<init>" ∧ y.cls ≠ "java/lang/invoke/MethodHandle" ∧ y.cls ≠ "java/lang/invoke/VarHandle" ∧ (parseMethodDescriptor y.desc).map (fun d => d.parameters.length) = some n
variable {index mL n ci : Nat} {y : MethodName} {b : ByteArray} {yt : Option FieldType} {rm : Room} {Qc : Array Value → State → Outcome → State → Prop} {free : Addr → Prop} {As : List Value} {x : Nat} {lv : List (Nat × Value)}
theorem th_runV (C : CX p s m args meth c cc nL rt own D dA) (S : Rep D dA K V H) (T : vw_C) (hc : TCl[ci]? = some T) (hG : GV own index T.1 y b mL yt n) (hx : K x = some (0, ci)) (hM : Met l y (wsOf y b mL yt) rm (PC D dA K V H.size (.ref x :: As)) Qc mc ms free) (hl : lv_has ls nL lv) (hn : As.length = n) (hst : st0 = As.reverse ++ .ref x :: rest) (hrc : rm.cells = mc) (hrs : rm.slots = ms) (hRm : rm.frames + 1 ≤ R.frames ∧ 8 + (mL + 11) + rm.locals ≤ R.locals) (hW : (rest.map fun v => v.category).sum ≤ 8) (hf : cells + mc ≤ R.cells ∧ slots + ms ≤ R.slots) (hdg : decode cc pc = .ok (.invokevirtual index, 3)) : va_Run p l e R s m args below meth c H locs cells slots mc ms (F0 m pc ls st0) rest (Qc (Value.ref x :: As).toArray) free := by
  obtain ⟨hx0, hb, hml, -, -, hown, hts, hKN⟩ := C
  obtain ⟨r', hr', cellV, g1, g2, g3, -⟩ := S x _ hx
  have hcls := (hKN.1.1 ci T hc).2
  exact va_runV ⟨hx0, hb, hml, hown, hts⟩ hM (cwV n hts hG.1 rfl hrc hrs hG.2 hRm) ⟨PC.blind, ⟨cellV, g1, by rw [g3]; rfl, by rw [g2]; exact hcls.1⟩, PC.at hKN S⟩ rfl hn hl.1 hst (lv_room hW) hdg hf
theorem th_runS (C : CX p s m args meth c cc nL rt own D dA) (S : Rep D dA K V H) (hG : GS own index y b mL yt n) (hM : Met l y (wsOf y b mL yt) rm (PC D dA K V H.size As) Qc mc ms free) (hl : lv_has ls nL lv) (hn : As.length = n) (hst : st0 = As.reverse ++ rest) (hrc : rm.cells = mc) (hrs : rm.slots = ms) (hRm : rm.frames + 1 ≤ R.frames ∧ 8 + (mL + 11) + rm.locals ≤ R.locals) (hW : (rest.map fun v => v.category).sum ≤ 8) (hf : cells + mc ≤ R.cells ∧ slots + ms ≤ R.slots) (hdg : decode cc pc = .ok (.invokestatic index, 3)) : va_Run p l e R s m args below meth c H locs cells slots mc ms (F0 m pc ls st0) rest (Qc As.toArray) free := by
  obtain ⟨hx0, hb, hml, -, -, hown, hts, hKN⟩ := C
  exact va_runS ⟨hx0, hb, hml, hown, hts⟩ hM (va_cwS n hts hG.1 rfl hrc hrs hG.2 hRm) ⟨PC.blind, PC.at hKN S⟩ rfl hn hl.1 hst (lv_room hW) hdg hf
theorem th_runI (C : CX p s m args meth c cc nL rt own D dA) (S : Rep D dA K V H) (hG : GI own index y b mL n) (hM : Met l y (wsOf y b mL none) rm (PC D dA K V H.size (.ref x :: As)) Qc mc ms free) (hl : lv_has ls nL lv) (hn : As.length = n) (hst : st0 = As.reverse ++ .ref x :: rest) (hrc : rm.cells = mc) (hrs : rm.slots = ms) (hRm : rm.frames + 1 ≤ R.frames ∧ 8 + (mL + 11) + rm.locals ≤ R.locals) (hW : (rest.map fun v => v.category).sum ≤ 8) (hf : cells + mc ≤ R.cells ∧ slots + ms ≤ R.slots) (hdg : decode cc pc = .ok (.invokespecial index, 3)) : va_Run p l e R s m args below meth c H locs cells slots mc ms (F0 m pc ls st0) rest (Qc (Value.ref x :: As).toArray) free := by
  obtain ⟨hx0, hb, hml, -, -, hown, hts, hKN⟩ := C
  exact va_runI ⟨hx0, hb, hml, hown, hts⟩ hM (cwI n hts hG.1 rfl hrc hrs (hts _ hG.2.1) (hts _ hG.2.2.1) (hts _ hG.2.2.2.1) hG.2.2.2.2.1 hG.2.2.2.2.2 hRm) ⟨PC.blind, PC.at hKN S⟩ rfl hn hl.1 hst (lv_room hW) hdg hf
/-- a private constructor of a nest mate -/
def GN (y : MethodName) (b : ByteArray) (mL : Nat) (n : Nat) : Prop := GoodIn gw (wsOf y b mL none) ∧ Cond.initialized y.cls ∈ gw ∧ Cond.instanceMethod y ∈ gw ∧ y.name = "<init>" ∧ y.cls ≠ "java/lang/invoke/MethodHandle" ∧ y.cls ≠ "java/lang/invoke/VarHandle" ∧ (parseMethodDescriptor y.desc).map (fun d => d.parameters.length) = some n
theorem th_runIN (C : CX p s m args meth c cc nL rt nestO D dA) (S : Rep D dA K V H) (hG : GN nestY b mL n) (hM : Met l nestY (wsOf nestY b mL none) rm (PC D dA K V H.size (.ref x :: As)) Qc mc ms free) (hl : lv_has ls nL lv) (hn : As.length = n) (hst : st0 = As.reverse ++ .ref x :: rest) (hrc : rm.cells = mc) (hrs : rm.slots = ms) (hRm : rm.frames + 1 ≤ R.frames ∧ 8 + (mL + 11) + rm.locals ≤ R.locals) (hW : (rest.map fun v => v.category).sum ≤ 8) (hf : cells + mc ≤ R.cells ∧ slots + ms ≤ R.slots) (hdg : decode cc pc = .ok (.invokespecial nestI, 3)) : va_Run p l e R s m args below meth c H locs cells slots mc ms (F0 m pc ls st0) rest (Qc (Value.ref x :: As).toArray) free := by
  obtain ⟨hx0, hb, hml, -, -, hown, hts, hKN⟩ := C
  exact va_runIN ⟨hx0, hb, hml, hown, hts⟩ hM ⟨va_cnB n hts hG.1 rfl hrc hrs hKN.2.1 (hts _ hG.2.1) hG.2.2.2.2 hRm, hG.2.2.2.1, hts _ hG.2.2.1⟩ ⟨PC.blind, PC.at hKN S⟩ rfl hn hl.1 hst (lv_room hW) hdg hf
/-- a loop: a measure that falls, an invariant of locals and memory -/
theorem th_loop (I : Nat → Array Slot → Vmap → Heap → List Loc → Prop) (n0 : Nat) (h0 : I n0 ls V H locs) (hs : ∀ (n : Nat) (ls : Array Slot) (V : Vmap) (H : Heap) (locs : List Loc), I n ls V H locs → (∀ n', n' < n → ∀ (ls' : Array Slot) (V' : Vmap) (H' : Heap) (locs' : List Loc), I n' ls' V' H' locs' → W p l e R s m args below meth c H' locs' cells slots Q (F0 m pc ls' rest)) → W p l e R s m args below meth c H locs cells slots Q (F0 m pc ls rest)) : W p l e R s m args below meth c H locs cells slots Q (F0 m pc ls rest) := by
  have key : ∀ n, ∀ (ls' : Array Slot) (V' : Vmap) (H' : Heap) (locs' : List Loc), I n ls' V' H' locs' → W p l e R s m args below meth c H' locs' cells slots Q (F0 m pc ls' rest) := by
    intro n
    induction n using Nat.strongRecOn with
    | ind n ih => exact fun ls' V' H' locs' h => hs n ls' V' H' locs' h (fun n' hn' => ih n' hn')
  exact key n0 _ _ _ _ h0
end TH
/-- a contract's body, from its entry -/
theorem th_body {l : Launch} {y : MethodName} {b : ByteArray} {n : Nat} {rt : Option FieldType} {rm : Room} {D : va_G} {dA : Nat → ClassId} {K : Kmap} {V : Vmap} {sz : Nat} {av : List Value} {Qc : Array Value → State → Outcome → State → Prop} {mc ms : Nat} {free : Addr → Prop} (hy : plainName y.cls = true) (hlen : (lg_sl av).length ≤ n)
    (body : ∀ p e s m below meth c, CX p s m av.toArray meth c b n rt y.cls D dA → Rep D dA K V s.heap → s.heap.size = sz → meth.name = y.name → ∀ ls, lv_has ls n (lv_args 0 av) → W p l e rm s m av.toArray below meth c s.heap [] 0 0 (MQ below Qc av.toArray s mc ms free) (F0 m 0 ls [])) : Met l y (wsOf y b n rt) rm (PC D dA K V sz av) Qc mc ms free := by
  refine Met.ofW (cc := b) (maxL := n) (ret := rt) hy rfl ?_
  intro p e s m args below meth c s₁ B hml hv
  obtain ⟨rfl, hsz, hK, hR⟩ := hv
  have hts := atoms_spec (ws := wsOf y b n rt) B.pre
  rw [lg_entry_eq]
  exact body p e s m below meth c ⟨B.exec, B.bytes, hml, B.returns, B.notSynchronized, findClass_of_methodNamed B.named, fun w hw => hts w (List.mem_cons_of_mem _ hw), hK⟩ hR hsz (name_of_methodNamed B.named B.method).1 _ (lv_entry av hlen)
end
section
theorem li_n1000001 : (-1000001 : Int32).toInt = -1000001 := by decide +kernel
theorem li_n1000000 : (-1000000 : Int32).toInt = -1000000 := by decide +kernel
theorem li_n8 : (-8 : Int32).toInt = -8 := by decide +kernel
theorem li_n2 : (-2 : Int32).toInt = -2 := by decide +kernel
theorem li_n1 : (-1 : Int32).toInt = -1 := by decide +kernel
theorem li_0 : (0 : Int32).toInt = 0 := by decide +kernel
theorem li_1 : (1 : Int32).toInt = 1 := by decide +kernel
theorem li_2 : (2 : Int32).toInt = 2 := by decide +kernel
theorem li_3 : (3 : Int32).toInt = 3 := by decide +kernel
theorem li_4 : (4 : Int32).toInt = 4 := by decide +kernel
theorem li_5 : (5 : Int32).toInt = 5 := by decide +kernel
theorem li_6 : (6 : Int32).toInt = 6 := by decide +kernel
theorem li_7 : (7 : Int32).toInt = 7 := by decide +kernel
theorem li_8 : (8 : Int32).toInt = 8 := by decide +kernel
theorem li_9 : (9 : Int32).toInt = 9 := by decide +kernel
theorem li_10 : (10 : Int32).toInt = 10 := by decide +kernel
theorem li_11 : (11 : Int32).toInt = 11 := by decide +kernel
theorem li_12 : (12 : Int32).toInt = 12 := by decide +kernel
theorem li_14 : (14 : Int32).toInt = 14 := by decide +kernel
theorem li_16 : (16 : Int32).toInt = 16 := by decide +kernel
theorem li_18 : (18 : Int32).toInt = 18 := by decide +kernel
theorem li_19 : (19 : Int32).toInt = 19 := by decide +kernel
theorem li_20 : (20 : Int32).toInt = 20 := by decide +kernel
theorem li_24 : (24 : Int32).toInt = 24 := by decide +kernel
theorem li_25 : (25 : Int32).toInt = 25 := by decide +kernel
theorem li_28 : (28 : Int32).toInt = 28 := by decide +kernel
theorem li_30 : (30 : Int32).toInt = 30 := by decide +kernel
theorem li_32 : (32 : Int32).toInt = 32 := by decide +kernel
theorem li_40 : (40 : Int32).toInt = 40 := by decide +kernel
theorem li_48 : (48 : Int32).toInt = 48 := by decide +kernel
theorem li_50 : (50 : Int32).toInt = 50 := by decide +kernel
theorem li_60 : (60 : Int32).toInt = 60 := by decide +kernel
theorem li_63 : (63 : Int32).toInt = 63 := by decide +kernel
theorem li_64 : (64 : Int32).toInt = 64 := by decide +kernel
theorem li_90 : (90 : Int32).toInt = 90 := by decide +kernel
theorem li_100 : (100 : Int32).toInt = 100 := by decide +kernel
theorem li_120 : (120 : Int32).toInt = 120 := by decide +kernel
theorem li_144 : (144 : Int32).toInt = 144 := by decide +kernel
theorem li_180 : (180 : Int32).toInt = 180 := by decide +kernel
theorem li_200 : (200 : Int32).toInt = 200 := by decide +kernel
theorem li_220 : (220 : Int32).toInt = 220 := by decide +kernel
theorem li_239 : (239 : Int32).toInt = 239 := by decide +kernel
theorem li_240 : (240 : Int32).toInt = 240 := by decide +kernel
theorem li_255 : (255 : Int32).toInt = 255 := by decide +kernel
theorem li_300 : (300 : Int32).toInt = 300 := by decide +kernel
theorem li_359 : (359 : Int32).toInt = 359 := by decide +kernel
theorem li_360 : (360 : Int32).toInt = 360 := by decide +kernel
theorem li_400 : (400 : Int32).toInt = 400 := by decide +kernel
theorem li_441 : (441 : Int32).toInt = 441 := by decide +kernel
theorem li_480 : (480 : Int32).toInt = 480 := by decide +kernel
theorem li_600 : (600 : Int32).toInt = 600 := by decide +kernel
theorem li_900 : (900 : Int32).toInt = 900 := by decide +kernel
theorem li_1000 : (1000 : Int32).toInt = 1000 := by decide +kernel
theorem li_2048 : (2048 : Int32).toInt = 2048 := by decide +kernel
theorem li_2200 : (2200 : Int32).toInt = 2200 := by decide +kernel
theorem li_3599 : (3599 : Int32).toInt = 3599 := by decide +kernel
theorem li_3600 : (3600 : Int32).toInt = 3600 := by decide +kernel
theorem li_4400 : (4400 : Int32).toInt = 4400 := by decide +kernel
theorem tk_1 {w : Cond} (h : w ∈ tables_1_1) : w ∈ tables_1 := List.mem_append.mpr (Or.inl h)
theorem tk_2 {w : Cond} (h : w ∈ tables_1_2) : w ∈ tables_1 := List.mem_append.mpr (Or.inr (List.mem_append.mpr (Or.inl h)))
theorem tk_3 {w : Cond} (h : w ∈ tables_1_3) : w ∈ tables_1 := List.mem_append.mpr (Or.inr (List.mem_append.mpr (Or.inr (List.mem_append.mpr (Or.inl h)))))
theorem tk_4 {w : Cond} (h : w ∈ tables_1_4) : w ∈ tables_1 := List.mem_append.mpr (Or.inr (List.mem_append.mpr (Or.inr (List.mem_append.mpr (Or.inr (List.mem_append.mpr (Or.inl h)))))))
theorem tk_5 {w : Cond} (h : w ∈ tables_1_5) : w ∈ tables_1 := List.mem_append.mpr (Or.inr (List.mem_append.mpr (Or.inr (List.mem_append.mpr (Or.inr (List.mem_append.mpr (Or.inr (List.mem_append.mpr (Or.inl h)))))))))
theorem tk_6 {w : Cond} (h : w ∈ tables_1_6) : w ∈ tables_1 := List.mem_append.mpr (Or.inr (List.mem_append.mpr (Or.inr (List.mem_append.mpr (Or.inr (List.mem_append.mpr (Or.inr (List.mem_append.mpr (Or.inr (List.mem_append.mpr (Or.inl h)))))))))))
theorem tk_7 {w : Cond} (h : w ∈ tables_1_7) : w ∈ tables_1 := List.mem_append.mpr (Or.inr (List.mem_append.mpr (Or.inr (List.mem_append.mpr (Or.inr (List.mem_append.mpr (Or.inr (List.mem_append.mpr (Or.inr (List.mem_append.mpr (Or.inr (List.mem_append.mpr (Or.inl h)))))))))))))
theorem tk_8 {w : Cond} (h : w ∈ tables_1_8) : w ∈ tables_1 := List.mem_append.mpr (Or.inr (List.mem_append.mpr (Or.inr (List.mem_append.mpr (Or.inr (List.mem_append.mpr (Or.inr (List.mem_append.mpr (Or.inr (List.mem_append.mpr (Or.inr (List.mem_append.mpr (Or.inr (List.mem_append.mpr (Or.inl h)))))))))))))))
theorem tk_9 {w : Cond} (h : w ∈ tables_1_9) : w ∈ tables_1 := List.mem_append.mpr (Or.inr (List.mem_append.mpr (Or.inr (List.mem_append.mpr (Or.inr (List.mem_append.mpr (Or.inr (List.mem_append.mpr (Or.inr (List.mem_append.mpr (Or.inr (List.mem_append.mpr (Or.inr (List.mem_append.mpr (Or.inr (List.mem_append.mpr (Or.inl h)))))))))))))))))
theorem tk_10 {w : Cond} (h : w ∈ tables_1_10) : w ∈ tables_1 := List.mem_append.mpr (Or.inr (List.mem_append.mpr (Or.inr (List.mem_append.mpr (Or.inr (List.mem_append.mpr (Or.inr (List.mem_append.mpr (Or.inr (List.mem_append.mpr (Or.inr (List.mem_append.mpr (Or.inr (List.mem_append.mpr (Or.inr (List.mem_append.mpr (Or.inr (List.mem_append.mpr (Or.inl h)))))))))))))))))))
theorem tk_11 {w : Cond} (h : w ∈ tables_1_11) : w ∈ tables_1 := List.mem_append.mpr (Or.inr (List.mem_append.mpr (Or.inr (List.mem_append.mpr (Or.inr (List.mem_append.mpr (Or.inr (List.mem_append.mpr (Or.inr (List.mem_append.mpr (Or.inr (List.mem_append.mpr (Or.inr (List.mem_append.mpr (Or.inr (List.mem_append.mpr (Or.inr (List.mem_append.mpr (Or.inr (h))))))))))))))))))))
theorem tk_all {w : Cond} (h : w ∈ tables_1) : w ∈ lw_tbl := List.mem_append.mpr (Or.inr h)
theorem pv_in {y : MethodName} {n : Nat} (h : (y, n) ∈ lw_privs) : Cond.selects y.cls y y ∈ lw_tbl := List.mem_append.mpr (Or.inl (List.mem_map.mpr ⟨(y, n), h, rfl⟩))
theorem gw_1 : (Jvm.Cond.initialized "IceTreaty") ∈ gw := gw_mem (tk_all (tk_1 (List.mem_of_getElem? (i := 1) (by decide +kernel)))) (by decide +kernel)
theorem gw_2 : (Jvm.Cond.initialized "IceTreaty$Land") ∈ gw := gw_mem (tk_all (tk_1 (List.mem_of_getElem? (i := 2) (by decide +kernel)))) (by decide +kernel)
theorem gw_3 : (Jvm.Cond.initialized "IceTreaty$Rows") ∈ gw := gw_mem (tk_all (tk_1 (List.mem_of_getElem? (i := 3) (by decide +kernel)))) (by decide +kernel)
theorem gw_4 : (Jvm.Cond.initialized "IceTreaty$Law") ∈ gw := gw_mem (tk_all (tk_1 (List.mem_of_getElem? (i := 4) (by decide +kernel)))) (by decide +kernel)
theorem gw_5 : (Jvm.Cond.initialized "IceTreaty$Table") ∈ gw := gw_mem (tk_all (tk_1 (List.mem_of_getElem? (i := 5) (by decide +kernel)))) (by decide +kernel)
theorem gw_6 : (Jvm.Cond.initialized "java/lang/Math") ∈ gw := gw_mem (tk_all (tk_1 (List.mem_of_getElem? (i := 6) (by decide +kernel)))) (by decide +kernel)
theorem gw_7 : (Jvm.Cond.initialized "IceTreaty$Season") ∈ gw := gw_mem (tk_all (tk_1 (List.mem_of_getElem? (i := 7) (by decide +kernel)))) (by decide +kernel)
theorem gw_8 : (Jvm.Cond.initialized "IceTreatyModel") ∈ gw := gw_mem (tk_all (tk_1 (List.mem_of_getElem? (i := 8) (by decide +kernel)))) (by decide +kernel)
theorem gw_9 : (Jvm.Cond.initialized "IceTreaty$Party") ∈ gw := gw_mem (tk_all (tk_1 (List.mem_of_getElem? (i := 9) (by decide +kernel)))) (by decide +kernel)
theorem gw_10 : (Jvm.Cond.initialized "IceTreaty$Place") ∈ gw := gw_mem (tk_all (tk_1 (List.mem_of_getElem? (i := 10) (by decide +kernel)))) (by decide +kernel)
theorem gw_21 : (Jvm.Cond.classLink "IceTreatyLaw" (7 : Nat) "IceTreaty") ∈ gw := gw_mem (tk_all (tk_1 (List.mem_of_getElem? (i := 21) (by decide +kernel)))) (by decide +kernel)
theorem gw_22 : (Jvm.Cond.instantiable "IceTreaty" (20 : Nat)) ∈ gw := gw_mem (tk_all (tk_1 (List.mem_of_getElem? (i := 22) (by decide +kernel)))) (by decide +kernel)
theorem gw_23 : (Jvm.Cond.methodLink "IceTreatyLaw" (9 : Nat) ({ cls := "IceTreaty", name := "<init>", desc := "()V" } : Jvm.MethodName)) ∈ gw := gw_mem (tk_all (tk_1 (List.mem_of_getElem? (i := 23) (by decide +kernel)))) (by decide +kernel)
theorem gw_24 : (Jvm.Cond.instanceMethod ({ cls := "IceTreaty", name := "<init>", desc := "()V" } : Jvm.MethodName)) ∈ gw := gw_mem (tk_all (tk_1 (List.mem_of_getElem? (i := 24) (by decide +kernel)))) (by decide +kernel)
theorem gw_25 : (Jvm.Cond.code ({ cls := "IceTreaty", name := "<init>", desc := "()V" } : Jvm.MethodName) prog_1_method_1_code (1 : Nat) (Option.none : Option Jvm.ClassFile.FieldType)) ∈ gw := gw_mem (tk_all (tk_1 (List.mem_of_getElem? (i := 25) rfl))) (by decide +kernel)
theorem gw_26 : (Jvm.Cond.methodLink "IceTreaty" (3 : Nat) ({ cls := "java/lang/Object", name := "<init>", desc := "()V" } : Jvm.MethodName)) ∈ gw := gw_mem (tk_all (tk_1 (List.mem_of_getElem? (i := 26) (by decide +kernel)))) (by decide +kernel)
theorem gw_27 : (Jvm.Cond.instanceMethod ({ cls := "java/lang/Object", name := "<init>", desc := "()V" } : Jvm.MethodName)) ∈ gw := gw_mem (tk_all (tk_1 (List.mem_of_getElem? (i := 27) (by decide +kernel)))) (by decide +kernel)
theorem gw_28 : (Jvm.Cond.code ({ cls := "java/lang/Object", name := "<init>", desc := "()V" } : Jvm.MethodName) object_method_1_code (1 : Nat) (Option.none : Option Jvm.ClassFile.FieldType)) ∈ gw := gw_mem (tk_all (tk_1 (List.mem_of_getElem? (i := 28) rfl))) (by decide +kernel)
theorem gw_29 : (Jvm.Cond.classLink "IceTreaty" (9 : Nat) "IceTreaty$Land") ∈ gw := gw_mem (tk_all (tk_1 (List.mem_of_getElem? (i := 29) (by decide +kernel)))) (by decide +kernel)
theorem gw_30 : (Jvm.Cond.instantiable "IceTreaty$Land" (13 : Nat)) ∈ gw := gw_mem (tk_all (tk_1 (List.mem_of_getElem? (i := 30) (by decide +kernel)))) (by decide +kernel)
theorem gw_31 : (Jvm.Cond.methodLink "IceTreaty" (11 : Nat) ({ cls := "IceTreaty$Land", name := "<init>", desc := "()V" } : Jvm.MethodName)) ∈ gw := gw_mem (tk_all (tk_1 (List.mem_of_getElem? (i := 31) (by decide +kernel)))) (by decide +kernel)
theorem gw_32 : (Jvm.Cond.instanceMethod ({ cls := "IceTreaty$Land", name := "<init>", desc := "()V" } : Jvm.MethodName)) ∈ gw := gw_mem (tk_all (tk_1 (List.mem_of_getElem? (i := 32) (by decide +kernel)))) (by decide +kernel)
theorem gw_33 : (Jvm.Cond.code ({ cls := "IceTreaty$Land", name := "<init>", desc := "()V" } : Jvm.MethodName) prog_2_method_1_code (1 : Nat) (Option.none : Option Jvm.ClassFile.FieldType)) ∈ gw := gw_mem (tk_all (tk_1 (List.mem_of_getElem? (i := 33) rfl))) (by decide +kernel)
theorem gw_34 : (Jvm.Cond.methodLink "IceTreaty$Land" (3 : Nat) ({ cls := "java/lang/Object", name := "<init>", desc := "()V" } : Jvm.MethodName)) ∈ gw := gw_mem (tk_all (tk_1 (List.mem_of_getElem? (i := 34) (by decide +kernel)))) (by decide +kernel)
theorem gw_35 : (Jvm.Cond.methodLink "IceTreaty$Land" (52 : Nat) ({ cls := "IceTreaty$Rows", name := "fill", desc := "([II)V" } : Jvm.MethodName)) ∈ gw := gw_mem (tk_all (tk_1 (List.mem_of_getElem? (i := 35) (by decide +kernel)))) (by decide +kernel)
theorem gw_36 : (Jvm.Cond.static ({ cls := "IceTreaty$Rows", name := "fill", desc := "([II)V" } : Jvm.MethodName)) ∈ gw := gw_mem (tk_all (tk_1 (List.mem_of_getElem? (i := 36) (by decide +kernel)))) (by decide +kernel)
theorem gw_37 : (Jvm.Cond.code ({ cls := "IceTreaty$Rows", name := "fill", desc := "([II)V" } : Jvm.MethodName) prog_6_method_5_code (3 : Nat) (Option.none : Option Jvm.ClassFile.FieldType)) ∈ gw := gw_mem (tk_all (tk_1 (List.mem_of_getElem? (i := 37) rfl))) (by decide +kernel)
theorem gw_38 : (Jvm.Cond.fieldLink "IceTreaty$Land" (9 : Nat) "IceTreaty$Land" "today" "I") ∈ gw := gw_mem (tk_all (tk_1 (List.mem_of_getElem? (i := 38) (by decide +kernel)))) (by decide +kernel)
theorem gw_39 : (Jvm.Cond.fieldLink "IceTreaty" (145 : Nat) "IceTreaty$Land" "today" "I") ∈ gw := gw_mem (tk_all (tk_1 (List.mem_of_getElem? (i := 39) (by decide +kernel)))) (by decide +kernel)
theorem gw_40 : (Jvm.Cond.fieldLink "IceTreaty$Land" (15 : Nat) "IceTreaty$Land" "darkFrom" "I") ∈ gw := gw_mem (tk_all (tk_1 (List.mem_of_getElem? (i := 40) (by decide +kernel)))) (by decide +kernel)
theorem gw_41 : (Jvm.Cond.fieldLink "IceTreaty" (139 : Nat) "IceTreaty$Land" "darkFrom" "I") ∈ gw := gw_mem (tk_all (tk_1 (List.mem_of_getElem? (i := 41) (by decide +kernel)))) (by decide +kernel)
theorem gw_42 : (Jvm.Cond.fieldLink "IceTreaty$Land" (18 : Nat) "IceTreaty$Land" "darkTo" "I") ∈ gw := gw_mem (tk_all (tk_1 (List.mem_of_getElem? (i := 42) (by decide +kernel)))) (by decide +kernel)
theorem gw_43 : (Jvm.Cond.fieldLink "IceTreaty" (142 : Nat) "IceTreaty$Land" "darkTo" "I") ∈ gw := gw_mem (tk_all (tk_1 (List.mem_of_getElem? (i := 43) (by decide +kernel)))) (by decide +kernel)
theorem gw_44 : (Jvm.Cond.fieldLink "IceTreaty$Land" (21 : Nat) "IceTreaty$Land" "columns" "I") ∈ gw := gw_mem (tk_all (tk_1 (List.mem_of_getElem? (i := 44) (by decide +kernel)))) (by decide +kernel)
theorem gw_45 : (Jvm.Cond.fieldLink "IceTreaty" (639 : Nat) "IceTreaty$Land" "columns" "I") ∈ gw := gw_mem (tk_all (tk_1 (List.mem_of_getElem? (i := 45) (by decide +kernel)))) (by decide +kernel)
theorem gw_46 : (Jvm.Cond.fieldLink "IceTreaty$Land" (24 : Nat) "IceTreaty$Land" "rows" "I") ∈ gw := gw_mem (tk_all (tk_1 (List.mem_of_getElem? (i := 46) (by decide +kernel)))) (by decide +kernel)
theorem gw_47 : (Jvm.Cond.fieldLink "IceTreaty" (642 : Nat) "IceTreaty$Land" "rows" "I") ∈ gw := gw_mem (tk_all (tk_1 (List.mem_of_getElem? (i := 47) (by decide +kernel)))) (by decide +kernel)
theorem gw_48 : (Jvm.Cond.fieldLink "IceTreaty$Land" (27 : Nat) "IceTreaty$Land" "heights" "[I") ∈ gw := gw_mem (tk_all (tk_1 (List.mem_of_getElem? (i := 48) (by decide +kernel)))) (by decide +kernel)
theorem gw_49 : (Jvm.Cond.fieldLink "IceTreaty" (123 : Nat) "IceTreaty$Land" "heights" "[I") ∈ gw := gw_mem (tk_all (tk_1 (List.mem_of_getElem? (i := 49) (by decide +kernel)))) (by decide +kernel)
theorem gw_50 : (Jvm.Cond.fieldLink "IceTreaty$Land" (31 : Nat) "IceTreaty$Land" "grounds" "[I") ∈ gw := gw_mem (tk_all (tk_1 (List.mem_of_getElem? (i := 50) (by decide +kernel)))) (by decide +kernel)
theorem gw_51 : (Jvm.Cond.fieldLink "IceTreaty" (126 : Nat) "IceTreaty$Land" "grounds" "[I") ∈ gw := gw_mem (tk_all (tk_1 (List.mem_of_getElem? (i := 51) (by decide +kernel)))) (by decide +kernel)
theorem gw_52 : (Jvm.Cond.fieldLink "IceTreaty$Land" (34 : Nat) "IceTreaty$Land" "ways" "[I") ∈ gw := gw_mem (tk_all (tk_1 (List.mem_of_getElem? (i := 52) (by decide +kernel)))) (by decide +kernel)
theorem gw_53 : (Jvm.Cond.fieldLink "IceTreaty" (129 : Nat) "IceTreaty$Land" "ways" "[I") ∈ gw := gw_mem (tk_all (tk_1 (List.mem_of_getElem? (i := 53) (by decide +kernel)))) (by decide +kernel)
theorem gw_54 : (Jvm.Cond.fieldLink "IceTreaty$Land" (37 : Nat) "IceTreaty$Land" "flowDays" "[I") ∈ gw := gw_mem (tk_all (tk_1 (List.mem_of_getElem? (i := 54) (by decide +kernel)))) (by decide +kernel)
theorem gw_55 : (Jvm.Cond.fieldLink "IceTreaty" (132 : Nat) "IceTreaty$Land" "flowDays" "[I") ∈ gw := gw_mem (tk_all (tk_1 (List.mem_of_getElem? (i := 55) (by decide +kernel)))) (by decide +kernel)
theorem gw_56 : (Jvm.Cond.fieldLink "IceTreaty$Land" (40 : Nat) "IceTreaty$Land" "covers" "[I") ∈ gw := gw_mem (tk_all (tk_1 (List.mem_of_getElem? (i := 56) (by decide +kernel)))) (by decide +kernel)
theorem gw_57 : (Jvm.Cond.fieldLink "IceTreaty" (397 : Nat) "IceTreaty$Land" "covers" "[I") ∈ gw := gw_mem (tk_all (tk_1 (List.mem_of_getElem? (i := 57) (by decide +kernel)))) (by decide +kernel)
theorem gw_58 : (Jvm.Cond.fieldLink "IceTreaty$Land" (43 : Nat) "IceTreaty$Land" "seaDays" "[I") ∈ gw := gw_mem (tk_all (tk_1 (List.mem_of_getElem? (i := 58) (by decide +kernel)))) (by decide +kernel)
theorem gw_59 : (Jvm.Cond.fieldLink "IceTreaty" (400 : Nat) "IceTreaty$Land" "seaDays" "[I") ∈ gw := gw_mem (tk_all (tk_1 (List.mem_of_getElem? (i := 59) (by decide +kernel)))) (by decide +kernel)
theorem gw_60 : (Jvm.Cond.fieldLink "IceTreaty$Land" (46 : Nat) "IceTreaty$Land" "reach" "[I") ∈ gw := gw_mem (tk_all (tk_1 (List.mem_of_getElem? (i := 60) (by decide +kernel)))) (by decide +kernel)
theorem gw_61 : (Jvm.Cond.fieldLink "IceTreaty$Land" (49 : Nat) "IceTreaty$Land" "reached" "[I") ∈ gw := gw_mem (tk_all (tk_1 (List.mem_of_getElem? (i := 61) (by decide +kernel)))) (by decide +kernel)
theorem gw_89 : (Jvm.Cond.arrayClass Jvm.ClassFile.FieldType.int) ∈ gw := gw_mem (tk_all (tk_1 (List.mem_of_getElem? (i := 89) (by decide +kernel)))) (by decide +kernel)
theorem gw_90 : (Jvm.Cond.classLink "IceTreaty" (16 : Nat) "IceTreaty$Law") ∈ gw := gw_mem (tk_all (tk_1 (List.mem_of_getElem? (i := 90) (by decide +kernel)))) (by decide +kernel)
theorem gw_91 : (Jvm.Cond.instantiable "IceTreaty$Law" (13 : Nat)) ∈ gw := gw_mem (tk_all (tk_1 (List.mem_of_getElem? (i := 91) (by decide +kernel)))) (by decide +kernel)
theorem gw_93 : (Jvm.Cond.instanceMethod ({ cls := "IceTreaty$Law", name := "<init>", desc := "()V" } : Jvm.MethodName)) ∈ gw := gw_mem (tk_all (tk_1 (List.mem_of_getElem? (i := 93) (by decide +kernel)))) (by decide +kernel)
theorem gw_94 : (Jvm.Cond.code ({ cls := "IceTreaty$Law", name := "<init>", desc := "()V" } : Jvm.MethodName) prog_3_method_1_code (1 : Nat) (Option.none : Option Jvm.ClassFile.FieldType)) ∈ gw := gw_mem (tk_all (tk_1 (List.mem_of_getElem? (i := 94) rfl))) (by decide +kernel)
theorem gw_95 : (Jvm.Cond.methodLink "IceTreaty$Law" (3 : Nat) ({ cls := "java/lang/Object", name := "<init>", desc := "()V" } : Jvm.MethodName)) ∈ gw := gw_mem (tk_all (tk_1 (List.mem_of_getElem? (i := 95) (by decide +kernel)))) (by decide +kernel)
theorem gw_96 : (Jvm.Cond.classLink "IceTreaty$Law" (9 : Nat) "IceTreaty$Text") ∈ gw := gw_mem (tk_all (tk_1 (List.mem_of_getElem? (i := 96) (by decide +kernel)))) (by decide +kernel)
theorem gw_98 : (Jvm.Cond.classLink "IceTreaty$Law" (21 : Nat) "IceTreaty$Table") ∈ gw := gw_mem (tk_all (tk_1 (List.mem_of_getElem? (i := 98) (by decide +kernel)))) (by decide +kernel)
theorem gw_99 : (Jvm.Cond.instantiable "IceTreaty$Table" (4 : Nat)) ∈ gw := gw_mem (tk_all (tk_1 (List.mem_of_getElem? (i := 99) (by decide +kernel)))) (by decide +kernel)
theorem gw_100 : (Jvm.Cond.methodLink "IceTreaty$Law" (23 : Nat) ({ cls := "IceTreaty$Table", name := "<init>", desc := "(II)V" } : Jvm.MethodName)) ∈ gw := gw_mem (tk_all (tk_1 (List.mem_of_getElem? (i := 100) (by decide +kernel)))) (by decide +kernel)
theorem gw_101 : (Jvm.Cond.instanceMethod ({ cls := "IceTreaty$Table", name := "<init>", desc := "(II)V" } : Jvm.MethodName)) ∈ gw := gw_mem (tk_all (tk_1 (List.mem_of_getElem? (i := 101) (by decide +kernel)))) (by decide +kernel)
theorem gw_102 : (Jvm.Cond.code ({ cls := "IceTreaty$Table", name := "<init>", desc := "(II)V" } : Jvm.MethodName) prog_10_method_1_code (3 : Nat) (Option.none : Option Jvm.ClassFile.FieldType)) ∈ gw := gw_mem (tk_all (tk_1 (List.mem_of_getElem? (i := 102) rfl))) (by decide +kernel)
theorem gw_103 : (Jvm.Cond.methodLink "IceTreaty$Table" (3 : Nat) ({ cls := "java/lang/Object", name := "<init>", desc := "()V" } : Jvm.MethodName)) ∈ gw := gw_mem (tk_all (tk_1 (List.mem_of_getElem? (i := 103) (by decide +kernel)))) (by decide +kernel)
theorem gw_104 : (Jvm.Cond.methodLink "IceTreaty$Table" (21 : Nat) ({ cls := "java/lang/Math", name := "max", desc := "(II)I" } : Jvm.MethodName)) ∈ gw := gw_mem (tk_all (tk_1 (List.mem_of_getElem? (i := 104) (by decide +kernel)))) (by decide +kernel)
theorem gw_105 : (Jvm.Cond.static ({ cls := "java/lang/Math", name := "max", desc := "(II)I" } : Jvm.MethodName)) ∈ gw := gw_mem (tk_all (tk_1 (List.mem_of_getElem? (i := 105) (by decide +kernel)))) (by decide +kernel)
theorem gw_106 : (Jvm.Cond.code ({ cls := "java/lang/Math", name := "max", desc := "(II)I" } : Jvm.MethodName) prog_17_method_65_code (2 : Nat) (Option.some Jvm.ClassFile.FieldType.int)) ∈ gw := gw_mem (tk_all (tk_1 (List.mem_of_getElem? (i := 106) rfl))) (by decide +kernel)
theorem gw_107 : (Jvm.Cond.fieldLink "IceTreaty$Table" (15 : Nat) "IceTreaty$Table" "width" "I") ∈ gw := gw_mem (tk_all (tk_1 (List.mem_of_getElem? (i := 107) (by decide +kernel)))) (by decide +kernel)
theorem gw_108 : (Jvm.Cond.fieldLink "IceTreaty$Table" (18 : Nat) "IceTreaty$Table" "most" "I") ∈ gw := gw_mem (tk_all (tk_1 (List.mem_of_getElem? (i := 108) (by decide +kernel)))) (by decide +kernel)
theorem gw_109 : (Jvm.Cond.fieldLink "IceTreaty$Table" (27 : Nat) "IceTreaty$Table" "cells" "[I") ∈ gw := gw_mem (tk_all (tk_1 (List.mem_of_getElem? (i := 109) (by decide +kernel)))) (by decide +kernel)
theorem gw_111 : (Jvm.Cond.fieldLink "IceTreaty$Table" (9 : Nat) "IceTreaty$Table" "size" "I") ∈ gw := gw_mem (tk_all (tk_1 (List.mem_of_getElem? (i := 111) (by decide +kernel)))) (by decide +kernel)
theorem gw_115 : (Jvm.Cond.fieldLink "IceTreaty" (199 : Nat) "IceTreaty$Table" "size" "I") ∈ gw := gw_mem (tk_all (tk_1 (List.mem_of_getElem? (i := 115) (by decide +kernel)))) (by decide +kernel)
theorem gw_126 : (Jvm.Cond.fieldLink "IceTreaty$Law" (11 : Nat) "IceTreaty$Law" "texts" "[LIceTreaty$Text;") ∈ gw := gw_mem (tk_all (tk_1 (List.mem_of_getElem? (i := 126) (by decide +kernel)))) (by decide +kernel)
theorem gw_127 : (Jvm.Cond.fieldLink "IceTreaty$Law" (17 : Nat) "IceTreaty$Law" "textCount" "I") ∈ gw := gw_mem (tk_all (tk_1 (List.mem_of_getElem? (i := 127) (by decide +kernel)))) (by decide +kernel)
theorem gw_128 : (Jvm.Cond.fieldLink "IceTreaty" (216 : Nat) "IceTreaty$Law" "textCount" "I") ∈ gw := gw_mem (tk_all (tk_1 (List.mem_of_getElem? (i := 128) (by decide +kernel)))) (by decide +kernel)
theorem gw_129 : (Jvm.Cond.fieldLink "IceTreaty$Law" (26 : Nat) "IceTreaty$Law" "readings" "LIceTreaty$Table;") ∈ gw := gw_mem (tk_all (tk_1 (List.mem_of_getElem? (i := 129) (by decide +kernel)))) (by decide +kernel)
theorem gw_130 : (Jvm.Cond.fieldLink "IceTreaty" (262 : Nat) "IceTreaty$Law" "readings" "LIceTreaty$Table;") ∈ gw := gw_mem (tk_all (tk_1 (List.mem_of_getElem? (i := 130) (by decide +kernel)))) (by decide +kernel)
theorem gw_131 : (Jvm.Cond.fieldLink "IceTreaty$Law" (30 : Nat) "IceTreaty$Law" "readingTexts" "[LIceTreaty$Text;") ∈ gw := gw_mem (tk_all (tk_1 (List.mem_of_getElem? (i := 131) (by decide +kernel)))) (by decide +kernel)
theorem gw_132 : (Jvm.Cond.fieldLink "IceTreaty$Law" (33 : Nat) "IceTreaty$Law" "counting" "[I") ∈ gw := gw_mem (tk_all (tk_1 (List.mem_of_getElem? (i := 132) (by decide +kernel)))) (by decide +kernel)
theorem gw_134 : (Jvm.Cond.fieldLink "IceTreaty$Law" (37 : Nat) "IceTreaty$Law" "struck" "[I") ∈ gw := gw_mem (tk_all (tk_1 (List.mem_of_getElem? (i := 134) (by decide +kernel)))) (by decide +kernel)
theorem gw_135 : (Jvm.Cond.fieldLink "IceTreaty$Law" (40 : Nat) "IceTreaty$Law" "weighedParty" "I") ∈ gw := gw_mem (tk_all (tk_1 (List.mem_of_getElem? (i := 135) (by decide +kernel)))) (by decide +kernel)
theorem gw_136 : (Jvm.Cond.fieldLink "IceTreaty$Law" (43 : Nat) "IceTreaty$Law" "weighedDay" "I") ∈ gw := gw_mem (tk_all (tk_1 (List.mem_of_getElem? (i := 136) (by decide +kernel)))) (by decide +kernel)
theorem gw_137 : (Jvm.Cond.fieldLink "IceTreaty$Law" (46 : Nat) "IceTreaty$Law" "letters" "[I") ∈ gw := gw_mem (tk_all (tk_1 (List.mem_of_getElem? (i := 137) (by decide +kernel)))) (by decide +kernel)
theorem gw_139 : (Jvm.Cond.fieldLink "IceTreaty$Law" (49 : Nat) "IceTreaty$Law" "stack" "[I") ∈ gw := gw_mem (tk_all (tk_1 (List.mem_of_getElem? (i := 139) (by decide +kernel)))) (by decide +kernel)
theorem gw_140 : (Jvm.Cond.fieldLink "IceTreaty$Law" (52 : Nat) "IceTreaty$Law" "height" "I") ∈ gw := gw_mem (tk_all (tk_1 (List.mem_of_getElem? (i := 140) (by decide +kernel)))) (by decide +kernel)
theorem gw_141 : (Jvm.Cond.fieldLink "IceTreaty$Law" (55 : Nat) "IceTreaty$Law" "barText" "I") ∈ gw := gw_mem (tk_all (tk_1 (List.mem_of_getElem? (i := 141) (by decide +kernel)))) (by decide +kernel)
theorem gw_143 : (Jvm.Cond.fieldLink "IceTreaty$Law" (58 : Nat) "IceTreaty$Law" "barClause" "I") ∈ gw := gw_mem (tk_all (tk_1 (List.mem_of_getElem? (i := 143) (by decide +kernel)))) (by decide +kernel)
theorem gw_172 : (Jvm.Cond.classLink "IceTreaty" (23 : Nat) "IceTreaty$Season") ∈ gw := gw_mem (tk_all (tk_1 (List.mem_of_getElem? (i := 172) (by decide +kernel)))) (by decide +kernel)
theorem gw_173 : (Jvm.Cond.instantiable "IceTreaty$Season" (10 : Nat)) ∈ gw := gw_mem (tk_all (tk_1 (List.mem_of_getElem? (i := 173) (by decide +kernel)))) (by decide +kernel)
theorem gw_174 : (Jvm.Cond.methodLink "IceTreaty" (25 : Nat) ({ cls := "IceTreaty$Season", name := "<init>", desc := "()V" } : Jvm.MethodName)) ∈ gw := gw_mem (tk_all (tk_1 (List.mem_of_getElem? (i := 174) (by decide +kernel)))) (by decide +kernel)
theorem gw_175 : (Jvm.Cond.instanceMethod ({ cls := "IceTreaty$Season", name := "<init>", desc := "()V" } : Jvm.MethodName)) ∈ gw := gw_mem (tk_all (tk_1 (List.mem_of_getElem? (i := 175) (by decide +kernel)))) (by decide +kernel)
theorem gw_176 : (Jvm.Cond.code ({ cls := "IceTreaty$Season", name := "<init>", desc := "()V" } : Jvm.MethodName) prog_8_method_1_code (1 : Nat) (Option.none : Option Jvm.ClassFile.FieldType)) ∈ gw := gw_mem (tk_all (tk_1 (List.mem_of_getElem? (i := 176) rfl))) (by decide +kernel)
theorem gw_177 : (Jvm.Cond.methodLink "IceTreaty$Season" (3 : Nat) ({ cls := "java/lang/Object", name := "<init>", desc := "()V" } : Jvm.MethodName)) ∈ gw := gw_mem (tk_all (tk_1 (List.mem_of_getElem? (i := 177) (by decide +kernel)))) (by decide +kernel)
theorem gw_178 : (Jvm.Cond.classLink "IceTreaty$Season" (9 : Nat) "IceTreaty$Table") ∈ gw := gw_mem (tk_all (tk_1 (List.mem_of_getElem? (i := 178) (by decide +kernel)))) (by decide +kernel)
theorem gw_179 : (Jvm.Cond.methodLink "IceTreaty$Season" (11 : Nat) ({ cls := "IceTreaty$Table", name := "<init>", desc := "(II)V" } : Jvm.MethodName)) ∈ gw := gw_mem (tk_all (tk_1 (List.mem_of_getElem? (i := 179) (by decide +kernel)))) (by decide +kernel)
theorem gw_180 : (Jvm.Cond.methodLink "IceTreaty$Season" (49 : Nat) ({ cls := "IceTreaty$Rows", name := "fill", desc := "([II)V" } : Jvm.MethodName)) ∈ gw := gw_mem (tk_all (tk_1 (List.mem_of_getElem? (i := 180) (by decide +kernel)))) (by decide +kernel)
theorem gw_181 : (Jvm.Cond.fieldLink "IceTreaty$Season" (14 : Nat) "IceTreaty$Season" "stops" "LIceTreaty$Table;") ∈ gw := gw_mem (tk_all (tk_1 (List.mem_of_getElem? (i := 181) (by decide +kernel)))) (by decide +kernel)
theorem gw_182 : (Jvm.Cond.fieldLink "IceTreaty" (593 : Nat) "IceTreaty$Season" "stops" "LIceTreaty$Table;") ∈ gw := gw_mem (tk_all (tk_1 (List.mem_of_getElem? (i := 182) (by decide +kernel)))) (by decide +kernel)
theorem gw_183 : (Jvm.Cond.fieldLink "IceTreaty$Season" (20 : Nat) "IceTreaty$Season" "opens" "[I") ∈ gw := gw_mem (tk_all (tk_1 (List.mem_of_getElem? (i := 183) (by decide +kernel)))) (by decide +kernel)
theorem gw_185 : (Jvm.Cond.fieldLink "IceTreaty$Season" (24 : Nat) "IceTreaty$Season" "closes" "[I") ∈ gw := gw_mem (tk_all (tk_1 (List.mem_of_getElem? (i := 185) (by decide +kernel)))) (by decide +kernel)
theorem gw_187 : (Jvm.Cond.fieldLink "IceTreaty$Season" (27 : Nat) "IceTreaty$Season" "legs" "[I") ∈ gw := gw_mem (tk_all (tk_1 (List.mem_of_getElem? (i := 187) (by decide +kernel)))) (by decide +kernel)
theorem gw_189 : (Jvm.Cond.fieldLink "IceTreaty$Season" (30 : Nat) "IceTreaty$Season" "days" "[I") ∈ gw := gw_mem (tk_all (tk_1 (List.mem_of_getElem? (i := 189) (by decide +kernel)))) (by decide +kernel)
theorem gw_190 : (Jvm.Cond.fieldLink "IceTreaty$Season" (33 : Nat) "IceTreaty$Season" "order" "[I") ∈ gw := gw_mem (tk_all (tk_1 (List.mem_of_getElem? (i := 190) (by decide +kernel)))) (by decide +kernel)
theorem gw_191 : (Jvm.Cond.fieldLink "IceTreaty$Season" (36 : Nat) "IceTreaty$Season" "ahead" "[I") ∈ gw := gw_mem (tk_all (tk_1 (List.mem_of_getElem? (i := 191) (by decide +kernel)))) (by decide +kernel)
theorem gw_192 : (Jvm.Cond.fieldLink "IceTreaty$Season" (39 : Nat) "IceTreaty$Season" "best" "[I") ∈ gw := gw_mem (tk_all (tk_1 (List.mem_of_getElem? (i := 192) (by decide +kernel)))) (by decide +kernel)
theorem gw_194 : (Jvm.Cond.fieldLink "IceTreaty$Season" (42 : Nat) "IceTreaty$Season" "start" "I") ∈ gw := gw_mem (tk_all (tk_1 (List.mem_of_getElem? (i := 194) (by decide +kernel)))) (by decide +kernel)
theorem gw_196 : (Jvm.Cond.fieldLink "IceTreaty$Season" (46 : Nat) "IceTreaty$Season" "end" "I") ∈ gw := gw_mem (tk_all (tk_1 (List.mem_of_getElem? (i := 196) (by decide +kernel)))) (by decide +kernel)
theorem gw_219 : (Jvm.Cond.classLink "IceTreaty" (30 : Nat) "IceTreaty$Party") ∈ gw := gw_mem (tk_all (tk_1 (List.mem_of_getElem? (i := 219) (by decide +kernel)))) (by decide +kernel)
theorem gw_221 : (Jvm.Cond.classLink "IceTreaty" (40 : Nat) "IceTreaty$Place") ∈ gw := gw_mem (tk_all (tk_1 (List.mem_of_getElem? (i := 221) (by decide +kernel)))) (by decide +kernel)
theorem gw_223 : (Jvm.Cond.classLink "IceTreaty" (49 : Nat) "IceTreaty$Work") ∈ gw := gw_mem (tk_all (tk_1 (List.mem_of_getElem? (i := 223) (by decide +kernel)))) (by decide +kernel)
theorem gw_225 : (Jvm.Cond.classLink "IceTreaty" (58 : Nat) "IceTreaty$Ship") ∈ gw := gw_mem (tk_all (tk_1 (List.mem_of_getElem? (i := 225) (by decide +kernel)))) (by decide +kernel)
theorem gw_227 : (Jvm.Cond.classLink "IceTreaty" (67 : Nat) "IceTreaty$Table") ∈ gw := gw_mem (tk_all (tk_1 (List.mem_of_getElem? (i := 227) (by decide +kernel)))) (by decide +kernel)
theorem gw_228 : (Jvm.Cond.methodLink "IceTreaty" (69 : Nat) ({ cls := "IceTreaty$Table", name := "<init>", desc := "(II)V" } : Jvm.MethodName)) ∈ gw := gw_mem (tk_all (tk_1 (List.mem_of_getElem? (i := 228) (by decide +kernel)))) (by decide +kernel)
theorem gw_229 : (Jvm.Cond.methodLink "IceTreaty" (102 : Nat) ({ cls := "IceTreaty$Rows", name := "fill", desc := "([II)V" } : Jvm.MethodName)) ∈ gw := gw_mem (tk_all (tk_1 (List.mem_of_getElem? (i := 229) (by decide +kernel)))) (by decide +kernel)
theorem gw_230 : (Jvm.Cond.methodLink "IceTreaty" (108 : Nat) ({ cls := "IceTreaty$Rows", name := "put", desc := "([III)V" } : Jvm.MethodName)) ∈ gw := gw_mem (tk_all (tk_1 (List.mem_of_getElem? (i := 230) (by decide +kernel)))) (by decide +kernel)
theorem gw_231 : (Jvm.Cond.static ({ cls := "IceTreaty$Rows", name := "put", desc := "([III)V" } : Jvm.MethodName)) ∈ gw := gw_mem (tk_all (tk_1 (List.mem_of_getElem? (i := 231) (by decide +kernel)))) (by decide +kernel)
theorem gw_232 : (Jvm.Cond.code ({ cls := "IceTreaty$Rows", name := "put", desc := "([III)V" } : Jvm.MethodName) prog_6_method_3_code (3 : Nat) (Option.none : Option Jvm.ClassFile.FieldType)) ∈ gw := gw_mem (tk_all (tk_1 (List.mem_of_getElem? (i := 232) rfl))) (by decide +kernel)
theorem gw_233 : (Jvm.Cond.fieldLink "IceTreaty" (12 : Nat) "IceTreaty" "land" "LIceTreaty$Land;") ∈ gw := gw_mem (tk_all (tk_1 (List.mem_of_getElem? (i := 233) (by decide +kernel)))) (by decide +kernel)
theorem gw_234 : (Jvm.Cond.fieldLink "IceTreaty" (19 : Nat) "IceTreaty" "law" "LIceTreaty$Law;") ∈ gw := gw_mem (tk_all (tk_1 (List.mem_of_getElem? (i := 234) (by decide +kernel)))) (by decide +kernel)
theorem gw_235 : (Jvm.Cond.fieldLink "IceTreaty" (26 : Nat) "IceTreaty" "season" "LIceTreaty$Season;") ∈ gw := gw_mem (tk_all (tk_1 (List.mem_of_getElem? (i := 235) (by decide +kernel)))) (by decide +kernel)
theorem gw_236 : (Jvm.Cond.fieldLink "IceTreaty" (32 : Nat) "IceTreaty" "parties" "[LIceTreaty$Party;") ∈ gw := gw_mem (tk_all (tk_1 (List.mem_of_getElem? (i := 236) (by decide +kernel)))) (by decide +kernel)
theorem gw_237 : (Jvm.Cond.fieldLink "IceTreaty" (36 : Nat) "IceTreaty" "partyCount" "I") ∈ gw := gw_mem (tk_all (tk_1 (List.mem_of_getElem? (i := 237) (by decide +kernel)))) (by decide +kernel)
theorem gw_238 : (Jvm.Cond.fieldLink "IceTreaty" (42 : Nat) "IceTreaty" "places" "[LIceTreaty$Place;") ∈ gw := gw_mem (tk_all (tk_1 (List.mem_of_getElem? (i := 238) (by decide +kernel)))) (by decide +kernel)
theorem gw_239 : (Jvm.Cond.fieldLink "IceTreaty" (46 : Nat) "IceTreaty" "placeCount" "I") ∈ gw := gw_mem (tk_all (tk_1 (List.mem_of_getElem? (i := 239) (by decide +kernel)))) (by decide +kernel)
theorem gw_240 : (Jvm.Cond.fieldLink "IceTreaty" (51 : Nat) "IceTreaty" "works" "[LIceTreaty$Work;") ∈ gw := gw_mem (tk_all (tk_2 (List.mem_of_getElem? (i := 0) (by decide +kernel)))) (by decide +kernel)
theorem gw_241 : (Jvm.Cond.fieldLink "IceTreaty" (55 : Nat) "IceTreaty" "workCount" "I") ∈ gw := gw_mem (tk_all (tk_2 (List.mem_of_getElem? (i := 1) (by decide +kernel)))) (by decide +kernel)
theorem gw_242 : (Jvm.Cond.fieldLink "IceTreaty" (60 : Nat) "IceTreaty" "ships" "[LIceTreaty$Ship;") ∈ gw := gw_mem (tk_all (tk_2 (List.mem_of_getElem? (i := 2) (by decide +kernel)))) (by decide +kernel)
theorem gw_243 : (Jvm.Cond.fieldLink "IceTreaty" (64 : Nat) "IceTreaty" "shipCount" "I") ∈ gw := gw_mem (tk_all (tk_2 (List.mem_of_getElem? (i := 3) (by decide +kernel)))) (by decide +kernel)
theorem gw_244 : (Jvm.Cond.fieldLink "IceTreaty" (72 : Nat) "IceTreaty" "sledges" "LIceTreaty$Table;") ∈ gw := gw_mem (tk_all (tk_2 (List.mem_of_getElem? (i := 4) (by decide +kernel)))) (by decide +kernel)
theorem gw_245 : (Jvm.Cond.fieldLink "IceTreaty" (76 : Nat) "IceTreaty" "visits" "LIceTreaty$Table;") ∈ gw := gw_mem (tk_all (tk_2 (List.mem_of_getElem? (i := 5) (by decide +kernel)))) (by decide +kernel)
theorem gw_246 : (Jvm.Cond.fieldLink "IceTreaty" (79 : Nat) "IceTreaty" "drills" "LIceTreaty$Table;") ∈ gw := gw_mem (tk_all (tk_2 (List.mem_of_getElem? (i := 6) (by decide +kernel)))) (by decide +kernel)
theorem gw_247 : (Jvm.Cond.fieldLink "IceTreaty" (82 : Nat) "IceTreaty" "catches" "LIceTreaty$Table;") ∈ gw := gw_mem (tk_all (tk_2 (List.mem_of_getElem? (i := 7) (by decide +kernel)))) (by decide +kernel)
theorem gw_248 : (Jvm.Cond.fieldLink "IceTreaty" (85 : Nat) "IceTreaty" "reports" "LIceTreaty$Table;") ∈ gw := gw_mem (tk_all (tk_2 (List.mem_of_getElem? (i := 8) (by decide +kernel)))) (by decide +kernel)
theorem gw_249 : (Jvm.Cond.fieldLink "IceTreaty" (88 : Nat) "IceTreaty" "words" "LIceTreaty$Table;") ∈ gw := gw_mem (tk_all (tk_2 (List.mem_of_getElem? (i := 9) (by decide +kernel)))) (by decide +kernel)
theorem gw_250 : (Jvm.Cond.fieldLink "IceTreaty" (91 : Nat) "IceTreaty" "tape" "LIceTreaty$Table;") ∈ gw := gw_mem (tk_all (tk_2 (List.mem_of_getElem? (i := 10) (by decide +kernel)))) (by decide +kernel)
theorem gw_251 : (Jvm.Cond.fieldLink "IceTreaty" (94 : Nat) "IceTreaty" "speeds" "[I") ∈ gw := gw_mem (tk_all (tk_2 (List.mem_of_getElem? (i := 11) (by decide +kernel)))) (by decide +kernel)
theorem gw_252 : (Jvm.Cond.fieldLink "IceTreaty" (98 : Nat) "IceTreaty" "sums" "[J") ∈ gw := gw_mem (tk_all (tk_2 (List.mem_of_getElem? (i := 12) (by decide +kernel)))) (by decide +kernel)
theorem gw_294 : (Jvm.Cond.arrayClass Jvm.ClassFile.FieldType.long) ∈ gw := gw_mem (tk_all (tk_2 (List.mem_of_getElem? (i := 54) (by decide +kernel)))) (by decide +kernel)
theorem gw_295 : (Jvm.Cond.methodLink "IceTreatyLaw" (13 : Nat) ({ cls := "IceTreaty", name := "ice", desc := "(II)Z" } : Jvm.MethodName)) ∈ gw := gw_mem (tk_all (tk_2 (List.mem_of_getElem? (i := 55) (by decide +kernel)))) (by decide +kernel)
theorem gw_296 : (Jvm.Cond.instanceMethod ({ cls := "IceTreaty", name := "ice", desc := "(II)Z" } : Jvm.MethodName)) ∈ gw := gw_mem (tk_all (tk_2 (List.mem_of_getElem? (i := 56) (by decide +kernel)))) (by decide +kernel)
theorem gw_297 : (Jvm.Cond.selects "IceTreaty" ({ cls := "IceTreaty", name := "ice", desc := "(II)Z" } : Jvm.MethodName) ({ cls := "IceTreaty", name := "ice", desc := "(II)Z" } : Jvm.MethodName)) ∈ gw := gw_mem (tk_all (tk_2 (List.mem_of_getElem? (i := 57) (by decide +kernel)))) (by decide +kernel)
theorem gw_298 : (Jvm.Cond.code ({ cls := "IceTreaty", name := "ice", desc := "(II)Z" } : Jvm.MethodName) prog_1_method_2_code (3 : Nat) (Option.some Jvm.ClassFile.FieldType.boolean)) ∈ gw := gw_mem (tk_all (tk_2 (List.mem_of_getElem? (i := 58) rfl))) (by decide +kernel)
theorem gw_299 : (Jvm.Cond.methodLink "IceTreaty" (112 : Nat) ({ cls := "IceTreaty", name := "between", desc := "(III)Z" } : Jvm.MethodName)) ∈ gw := gw_mem (tk_all (tk_2 (List.mem_of_getElem? (i := 59) (by decide +kernel)))) (by decide +kernel)
theorem gw_300 : (Jvm.Cond.static ({ cls := "IceTreaty", name := "between", desc := "(III)Z" } : Jvm.MethodName)) ∈ gw := gw_mem (tk_all (tk_2 (List.mem_of_getElem? (i := 60) (by decide +kernel)))) (by decide +kernel)
theorem gw_301 : (Jvm.Cond.code ({ cls := "IceTreaty", name := "between", desc := "(III)Z" } : Jvm.MethodName) prog_1_method_104_code (3 : Nat) (Option.some Jvm.ClassFile.FieldType.boolean)) ∈ gw := gw_mem (tk_all (tk_2 (List.mem_of_getElem? (i := 61) rfl))) (by decide +kernel)
theorem gw_302 : (Jvm.Cond.methodLink "IceTreaty" (116 : Nat) ({ cls := "IceTreaty$Land", name := "lay", desc := "(II)V" } : Jvm.MethodName)) ∈ gw := gw_mem (tk_all (tk_2 (List.mem_of_getElem? (i := 62) (by decide +kernel)))) (by decide +kernel)
theorem gw_303 : (Jvm.Cond.instanceMethod ({ cls := "IceTreaty$Land", name := "lay", desc := "(II)V" } : Jvm.MethodName)) ∈ gw := gw_mem (tk_all (tk_2 (List.mem_of_getElem? (i := 63) (by decide +kernel)))) (by decide +kernel)
theorem gw_304 : (Jvm.Cond.selects "IceTreaty$Land" ({ cls := "IceTreaty$Land", name := "lay", desc := "(II)V" } : Jvm.MethodName) ({ cls := "IceTreaty$Land", name := "lay", desc := "(II)V" } : Jvm.MethodName)) ∈ gw := gw_mem (tk_all (tk_2 (List.mem_of_getElem? (i := 64) (by decide +kernel)))) (by decide +kernel)
theorem gw_305 : (Jvm.Cond.code ({ cls := "IceTreaty$Land", name := "lay", desc := "(II)V" } : Jvm.MethodName) prog_2_method_2_code (3 : Nat) (Option.none : Option Jvm.ClassFile.FieldType)) ∈ gw := gw_mem (tk_all (tk_2 (List.mem_of_getElem? (i := 65) rfl))) (by decide +kernel)
theorem gw_306 : (Jvm.Cond.methodLink "IceTreatyLaw" (18 : Nat) ({ cls := "IceTreaty", name := "cell", desc := "(IIIII)Z" } : Jvm.MethodName)) ∈ gw := gw_mem (tk_all (tk_2 (List.mem_of_getElem? (i := 66) (by decide +kernel)))) (by decide +kernel)
theorem gw_307 : (Jvm.Cond.instanceMethod ({ cls := "IceTreaty", name := "cell", desc := "(IIIII)Z" } : Jvm.MethodName)) ∈ gw := gw_mem (tk_all (tk_2 (List.mem_of_getElem? (i := 67) (by decide +kernel)))) (by decide +kernel)
theorem gw_308 : (Jvm.Cond.selects "IceTreaty" ({ cls := "IceTreaty", name := "cell", desc := "(IIIII)Z" } : Jvm.MethodName) ({ cls := "IceTreaty", name := "cell", desc := "(IIIII)Z" } : Jvm.MethodName)) ∈ gw := gw_mem (tk_all (tk_2 (List.mem_of_getElem? (i := 68) (by decide +kernel)))) (by decide +kernel)
theorem gw_309 : (Jvm.Cond.code ({ cls := "IceTreaty", name := "cell", desc := "(IIIII)Z" } : Jvm.MethodName) prog_1_method_3_code (8 : Nat) (Option.some Jvm.ClassFile.FieldType.boolean)) ∈ gw := gw_mem (tk_all (tk_2 (List.mem_of_getElem? (i := 69) rfl))) (by decide +kernel)
theorem gw_310 : (Jvm.Cond.methodLink "IceTreaty" (119 : Nat) ({ cls := "IceTreaty$Land", name := "isCell", desc := "(I)Z" } : Jvm.MethodName)) ∈ gw := gw_mem (tk_all (tk_2 (List.mem_of_getElem? (i := 70) (by decide +kernel)))) (by decide +kernel)
theorem gw_311 : (Jvm.Cond.instanceMethod ({ cls := "IceTreaty$Land", name := "isCell", desc := "(I)Z" } : Jvm.MethodName)) ∈ gw := gw_mem (tk_all (tk_2 (List.mem_of_getElem? (i := 71) (by decide +kernel)))) (by decide +kernel)
theorem gw_312 : (Jvm.Cond.selects "IceTreaty$Land" ({ cls := "IceTreaty$Land", name := "isCell", desc := "(I)Z" } : Jvm.MethodName) ({ cls := "IceTreaty$Land", name := "isCell", desc := "(I)Z" } : Jvm.MethodName)) ∈ gw := gw_mem (tk_all (tk_2 (List.mem_of_getElem? (i := 72) (by decide +kernel)))) (by decide +kernel)
theorem gw_313 : (Jvm.Cond.code ({ cls := "IceTreaty$Land", name := "isCell", desc := "(I)Z" } : Jvm.MethodName) prog_2_method_3_code (2 : Nat) (Option.some Jvm.ClassFile.FieldType.boolean)) ∈ gw := gw_mem (tk_all (tk_2 (List.mem_of_getElem? (i := 73) rfl))) (by decide +kernel)
theorem gw_314 : (Jvm.Cond.methodLink "IceTreatyLaw" (23 : Nat) ({ cls := "IceTreaty", name := "dark", desc := "(II)Z" } : Jvm.MethodName)) ∈ gw := gw_mem (tk_all (tk_2 (List.mem_of_getElem? (i := 74) (by decide +kernel)))) (by decide +kernel)
theorem gw_315 : (Jvm.Cond.instanceMethod ({ cls := "IceTreaty", name := "dark", desc := "(II)Z" } : Jvm.MethodName)) ∈ gw := gw_mem (tk_all (tk_2 (List.mem_of_getElem? (i := 75) (by decide +kernel)))) (by decide +kernel)
theorem gw_316 : (Jvm.Cond.selects "IceTreaty" ({ cls := "IceTreaty", name := "dark", desc := "(II)Z" } : Jvm.MethodName) ({ cls := "IceTreaty", name := "dark", desc := "(II)Z" } : Jvm.MethodName)) ∈ gw := gw_mem (tk_all (tk_2 (List.mem_of_getElem? (i := 76) (by decide +kernel)))) (by decide +kernel)
theorem gw_317 : (Jvm.Cond.code ({ cls := "IceTreaty", name := "dark", desc := "(II)Z" } : Jvm.MethodName) prog_1_method_4_code (3 : Nat) (Option.some Jvm.ClassFile.FieldType.boolean)) ∈ gw := gw_mem (tk_all (tk_2 (List.mem_of_getElem? (i := 77) rfl))) (by decide +kernel)
theorem gw_318 : (Jvm.Cond.methodLink "IceTreaty" (135 : Nat) ({ cls := "IceTreaty", name := "areYearDays", desc := "(II)Z" } : Jvm.MethodName)) ∈ gw := gw_mem (tk_all (tk_2 (List.mem_of_getElem? (i := 78) (by decide +kernel)))) (by decide +kernel)
theorem gw_319 : (Jvm.Cond.static ({ cls := "IceTreaty", name := "areYearDays", desc := "(II)Z" } : Jvm.MethodName)) ∈ gw := gw_mem (tk_all (tk_2 (List.mem_of_getElem? (i := 79) (by decide +kernel)))) (by decide +kernel)
theorem gw_320 : (Jvm.Cond.code ({ cls := "IceTreaty", name := "areYearDays", desc := "(II)Z" } : Jvm.MethodName) prog_1_method_107_code (2 : Nat) (Option.some Jvm.ClassFile.FieldType.boolean)) ∈ gw := gw_mem (tk_all (tk_2 (List.mem_of_getElem? (i := 80) rfl))) (by decide +kernel)
theorem gw_321 : (Jvm.Cond.methodLink "IceTreatyLaw" (27 : Nat) ({ cls := "IceTreaty", name := "party", desc := "(Z)I" } : Jvm.MethodName)) ∈ gw := gw_mem (tk_all (tk_2 (List.mem_of_getElem? (i := 81) (by decide +kernel)))) (by decide +kernel)
theorem gw_322 : (Jvm.Cond.instanceMethod ({ cls := "IceTreaty", name := "party", desc := "(Z)I" } : Jvm.MethodName)) ∈ gw := gw_mem (tk_all (tk_2 (List.mem_of_getElem? (i := 82) (by decide +kernel)))) (by decide +kernel)
theorem gw_323 : (Jvm.Cond.selects "IceTreaty" ({ cls := "IceTreaty", name := "party", desc := "(Z)I" } : Jvm.MethodName) ({ cls := "IceTreaty", name := "party", desc := "(Z)I" } : Jvm.MethodName)) ∈ gw := gw_mem (tk_all (tk_2 (List.mem_of_getElem? (i := 83) (by decide +kernel)))) (by decide +kernel)
theorem gw_324 : (Jvm.Cond.code ({ cls := "IceTreaty", name := "party", desc := "(Z)I" } : Jvm.MethodName) prog_1_method_5_code (2 : Nat) (Option.some Jvm.ClassFile.FieldType.int)) ∈ gw := gw_mem (tk_all (tk_2 (List.mem_of_getElem? (i := 84) rfl))) (by decide +kernel)
theorem gw_325 : (Jvm.Cond.instantiable "IceTreaty$Party" (5 : Nat)) ∈ gw := gw_mem (tk_all (tk_2 (List.mem_of_getElem? (i := 85) (by decide +kernel)))) (by decide +kernel)
theorem gw_326 : (Jvm.Cond.methodLink "IceTreaty" (148 : Nat) ({ cls := "IceTreaty$Party", name := "<init>", desc := "(I)V" } : Jvm.MethodName)) ∈ gw := gw_mem (tk_all (tk_2 (List.mem_of_getElem? (i := 86) (by decide +kernel)))) (by decide +kernel)
theorem gw_327 : (Jvm.Cond.instanceMethod ({ cls := "IceTreaty$Party", name := "<init>", desc := "(I)V" } : Jvm.MethodName)) ∈ gw := gw_mem (tk_all (tk_2 (List.mem_of_getElem? (i := 87) (by decide +kernel)))) (by decide +kernel)
theorem gw_328 : (Jvm.Cond.code ({ cls := "IceTreaty$Party", name := "<init>", desc := "(I)V" } : Jvm.MethodName) prog_4_method_1_code (2 : Nat) (Option.none : Option Jvm.ClassFile.FieldType)) ∈ gw := gw_mem (tk_all (tk_2 (List.mem_of_getElem? (i := 88) rfl))) (by decide +kernel)
theorem gw_329 : (Jvm.Cond.methodLink "IceTreaty$Party" (3 : Nat) ({ cls := "java/lang/Object", name := "<init>", desc := "()V" } : Jvm.MethodName)) ∈ gw := gw_mem (tk_all (tk_2 (List.mem_of_getElem? (i := 89) (by decide +kernel)))) (by decide +kernel)
theorem gw_330 : (Jvm.Cond.methodLink "IceTreaty$Party" (28 : Nat) ({ cls := "IceTreaty$Rows", name := "fill", desc := "([II)V" } : Jvm.MethodName)) ∈ gw := gw_mem (tk_all (tk_2 (List.mem_of_getElem? (i := 90) (by decide +kernel)))) (by decide +kernel)
theorem gw_331 : (Jvm.Cond.fieldLink "IceTreaty$Party" (25 : Nat) "IceTreaty$Party" "decidesFrom" "I") ∈ gw := gw_mem (tk_all (tk_2 (List.mem_of_getElem? (i := 91) (by decide +kernel)))) (by decide +kernel)
theorem gw_333 : (Jvm.Cond.fieldLink "IceTreaty$Party" (9 : Nat) "IceTreaty$Party" "science" "I") ∈ gw := gw_mem (tk_all (tk_2 (List.mem_of_getElem? (i := 93) (by decide +kernel)))) (by decide +kernel)
theorem gw_335 : (Jvm.Cond.fieldLink "IceTreaty$Party" (15 : Nat) "IceTreaty$Party" "barred" "I") ∈ gw := gw_mem (tk_all (tk_2 (List.mem_of_getElem? (i := 95) (by decide +kernel)))) (by decide +kernel)
theorem gw_337 : (Jvm.Cond.fieldLink "IceTreaty$Party" (18 : Nat) "IceTreaty$Party" "yesDays" "[I") ∈ gw := gw_mem (tk_all (tk_2 (List.mem_of_getElem? (i := 97) (by decide +kernel)))) (by decide +kernel)
theorem gw_340 : (Jvm.Cond.fieldLink "IceTreaty$Party" (22 : Nat) "IceTreaty$Party" "wanted" "[I") ∈ gw := gw_mem (tk_all (tk_2 (List.mem_of_getElem? (i := 100) (by decide +kernel)))) (by decide +kernel)
theorem gw_353 : (Jvm.Cond.methodLink "IceTreatyLaw" (32 : Nat) ({ cls := "IceTreaty", name := "claim", desc := "(IIII)I" } : Jvm.MethodName)) ∈ gw := gw_mem (tk_all (tk_2 (List.mem_of_getElem? (i := 113) (by decide +kernel)))) (by decide +kernel)
theorem gw_354 : (Jvm.Cond.instanceMethod ({ cls := "IceTreaty", name := "claim", desc := "(IIII)I" } : Jvm.MethodName)) ∈ gw := gw_mem (tk_all (tk_2 (List.mem_of_getElem? (i := 114) (by decide +kernel)))) (by decide +kernel)
theorem gw_355 : (Jvm.Cond.selects "IceTreaty" ({ cls := "IceTreaty", name := "claim", desc := "(IIII)I" } : Jvm.MethodName) ({ cls := "IceTreaty", name := "claim", desc := "(IIII)I" } : Jvm.MethodName)) ∈ gw := gw_mem (tk_all (tk_2 (List.mem_of_getElem? (i := 115) (by decide +kernel)))) (by decide +kernel)
theorem gw_356 : (Jvm.Cond.code ({ cls := "IceTreaty", name := "claim", desc := "(IIII)I" } : Jvm.MethodName) prog_1_method_6_code (6 : Nat) (Option.some Jvm.ClassFile.FieldType.int)) ∈ gw := gw_mem (tk_all (tk_2 (List.mem_of_getElem? (i := 116) rfl))) (by decide +kernel)
theorem gw_357 : (Jvm.Cond.methodLink "IceTreaty" (151 : Nat) ({ cls := "IceTreaty", name := "partyOf", desc := "(I)LIceTreaty$Party;" } : Jvm.MethodName)) ∈ gw := gw_mem (tk_all (tk_2 (List.mem_of_getElem? (i := 117) (by decide +kernel)))) (by decide +kernel)
theorem gw_359 : (Jvm.Cond.instanceMethod ({ cls := "IceTreaty", name := "partyOf", desc := "(I)LIceTreaty$Party;" } : Jvm.MethodName)) ∈ gw := gw_mem (tk_all (tk_2 (List.mem_of_getElem? (i := 119) (by decide +kernel)))) (by decide +kernel)
theorem gw_360 : (Jvm.Cond.code ({ cls := "IceTreaty", name := "partyOf", desc := "(I)LIceTreaty$Party;" } : Jvm.MethodName) prog_1_method_97_code (2 : Nat) (Option.some (Jvm.ClassFile.FieldType.object "IceTreaty$Party"))) ∈ gw := gw_mem (tk_all (tk_2 (List.mem_of_getElem? (i := 120) rfl))) (by decide +kernel)
theorem gw_361 : (Jvm.Cond.methodLink "IceTreaty" (155 : Nat) ({ cls := "IceTreaty$Land", name := "isRectangle", desc := "(II)Z" } : Jvm.MethodName)) ∈ gw := gw_mem (tk_all (tk_2 (List.mem_of_getElem? (i := 121) (by decide +kernel)))) (by decide +kernel)
theorem gw_362 : (Jvm.Cond.instanceMethod ({ cls := "IceTreaty$Land", name := "isRectangle", desc := "(II)Z" } : Jvm.MethodName)) ∈ gw := gw_mem (tk_all (tk_2 (List.mem_of_getElem? (i := 122) (by decide +kernel)))) (by decide +kernel)
theorem gw_363 : (Jvm.Cond.selects "IceTreaty$Land" ({ cls := "IceTreaty$Land", name := "isRectangle", desc := "(II)Z" } : Jvm.MethodName) ({ cls := "IceTreaty$Land", name := "isRectangle", desc := "(II)Z" } : Jvm.MethodName)) ∈ gw := gw_mem (tk_all (tk_2 (List.mem_of_getElem? (i := 123) (by decide +kernel)))) (by decide +kernel)
theorem gw_364 : (Jvm.Cond.code ({ cls := "IceTreaty$Land", name := "isRectangle", desc := "(II)Z" } : Jvm.MethodName) prog_2_method_8_code (3 : Nat) (Option.some Jvm.ClassFile.FieldType.boolean)) ∈ gw := gw_mem (tk_all (tk_2 (List.mem_of_getElem? (i := 124) rfl))) (by decide +kernel)
theorem gw_365 : (Jvm.Cond.methodLink "IceTreaty$Land" (62 : Nat) ({ cls := "IceTreaty$Land", name := "isCell", desc := "(I)Z" } : Jvm.MethodName)) ∈ gw := gw_mem (tk_all (tk_2 (List.mem_of_getElem? (i := 125) (by decide +kernel)))) (by decide +kernel)
theorem gw_366 : (Jvm.Cond.methodLink "IceTreaty$Land" (66 : Nat) ({ cls := "IceTreaty$Land", name := "rowOf", desc := "(I)I" } : Jvm.MethodName)) ∈ gw := gw_mem (tk_all (tk_2 (List.mem_of_getElem? (i := 126) (by decide +kernel)))) (by decide +kernel)
theorem gw_368 : (Jvm.Cond.instanceMethod ({ cls := "IceTreaty$Land", name := "rowOf", desc := "(I)I" } : Jvm.MethodName)) ∈ gw := gw_mem (tk_all (tk_2 (List.mem_of_getElem? (i := 128) (by decide +kernel)))) (by decide +kernel)
theorem gw_369 : (Jvm.Cond.code ({ cls := "IceTreaty$Land", name := "rowOf", desc := "(I)I" } : Jvm.MethodName) prog_2_method_5_code (2 : Nat) (Option.some Jvm.ClassFile.FieldType.int)) ∈ gw := gw_mem (tk_all (tk_2 (List.mem_of_getElem? (i := 129) rfl))) (by decide +kernel)
theorem gw_370 : (Jvm.Cond.methodLink "IceTreaty$Land" (75 : Nat) ({ cls := "IceTreaty$Land", name := "columnOf", desc := "(I)I" } : Jvm.MethodName)) ∈ gw := gw_mem (tk_all (tk_2 (List.mem_of_getElem? (i := 130) (by decide +kernel)))) (by decide +kernel)
theorem gw_372 : (Jvm.Cond.instanceMethod ({ cls := "IceTreaty$Land", name := "columnOf", desc := "(I)I" } : Jvm.MethodName)) ∈ gw := gw_mem (tk_all (tk_2 (List.mem_of_getElem? (i := 132) (by decide +kernel)))) (by decide +kernel)
theorem gw_373 : (Jvm.Cond.code ({ cls := "IceTreaty$Land", name := "columnOf", desc := "(I)I" } : Jvm.MethodName) prog_2_method_6_code (2 : Nat) (Option.some Jvm.ClassFile.FieldType.int)) ∈ gw := gw_mem (tk_all (tk_2 (List.mem_of_getElem? (i := 133) rfl))) (by decide +kernel)
theorem gw_387 : (Jvm.Cond.instanceMethod ({ cls := "IceTreaty$Law", name := "textOf", desc := "(I)LIceTreaty$Text;" } : Jvm.MethodName)) ∈ gw := gw_mem (tk_all (tk_2 (List.mem_of_getElem? (i := 147) (by decide +kernel)))) (by decide +kernel)
theorem gw_388 : (Jvm.Cond.selects "IceTreaty$Law" ({ cls := "IceTreaty$Law", name := "textOf", desc := "(I)LIceTreaty$Text;" } : Jvm.MethodName) ({ cls := "IceTreaty$Law", name := "textOf", desc := "(I)LIceTreaty$Text;" } : Jvm.MethodName)) ∈ gw := gw_mem (tk_all (tk_2 (List.mem_of_getElem? (i := 148) (by decide +kernel)))) (by decide +kernel)
theorem gw_389 : (Jvm.Cond.code ({ cls := "IceTreaty$Law", name := "textOf", desc := "(I)LIceTreaty$Text;" } : Jvm.MethodName) prog_3_method_2_code (2 : Nat) (Option.some (Jvm.ClassFile.FieldType.object "IceTreaty$Text"))) ∈ gw := gw_mem (tk_all (tk_2 (List.mem_of_getElem? (i := 149) rfl))) (by decide +kernel)
theorem gw_425 : (Jvm.Cond.instantiable "IceTreaty$Place" (16 : Nat)) ∈ gw := gw_mem (tk_all (tk_2 (List.mem_of_getElem? (i := 185) (by decide +kernel)))) (by decide +kernel)
theorem gw_426 : (Jvm.Cond.methodLink "IceTreaty" (162 : Nat) ({ cls := "IceTreaty$Place", name := "<init>", desc := "(IIIII)V" } : Jvm.MethodName)) ∈ gw := gw_mem (tk_all (tk_2 (List.mem_of_getElem? (i := 186) (by decide +kernel)))) (by decide +kernel)
theorem gw_427 : (Jvm.Cond.instanceMethod ({ cls := "IceTreaty$Place", name := "<init>", desc := "(IIIII)V" } : Jvm.MethodName)) ∈ gw := gw_mem (tk_all (tk_2 (List.mem_of_getElem? (i := 187) (by decide +kernel)))) (by decide +kernel)
theorem gw_428 : (Jvm.Cond.code ({ cls := "IceTreaty$Place", name := "<init>", desc := "(IIIII)V" } : Jvm.MethodName) prog_5_method_1_code (6 : Nat) (Option.none : Option Jvm.ClassFile.FieldType)) ∈ gw := gw_mem (tk_all (tk_2 (List.mem_of_getElem? (i := 188) rfl))) (by decide +kernel)
theorem gw_429 : (Jvm.Cond.methodLink "IceTreaty$Place" (3 : Nat) ({ cls := "java/lang/Object", name := "<init>", desc := "()V" } : Jvm.MethodName)) ∈ gw := gw_mem (tk_all (tk_2 (List.mem_of_getElem? (i := 189) (by decide +kernel)))) (by decide +kernel)
theorem gw_430 : (Jvm.Cond.classLink "IceTreaty$Place" (59 : Nat) "IceTreaty$Table") ∈ gw := gw_mem (tk_all (tk_2 (List.mem_of_getElem? (i := 190) (by decide +kernel)))) (by decide +kernel)
theorem gw_431 : (Jvm.Cond.methodLink "IceTreaty$Place" (61 : Nat) ({ cls := "IceTreaty$Table", name := "<init>", desc := "(II)V" } : Jvm.MethodName)) ∈ gw := gw_mem (tk_all (tk_2 (List.mem_of_getElem? (i := 191) (by decide +kernel)))) (by decide +kernel)
theorem gw_432 : (Jvm.Cond.methodLink "IceTreaty$Place" (68 : Nat) ({ cls := "IceTreaty$Rows", name := "fill", desc := "([II)V" } : Jvm.MethodName)) ∈ gw := gw_mem (tk_all (tk_2 (List.mem_of_getElem? (i := 192) (by decide +kernel)))) (by decide +kernel)
theorem gw_433 : (Jvm.Cond.fieldLink "IceTreaty$Place" (37 : Nat) "IceTreaty$Place" "kind" "I") ∈ gw := gw_mem (tk_all (tk_2 (List.mem_of_getElem? (i := 193) (by decide +kernel)))) (by decide +kernel)
theorem gw_435 : (Jvm.Cond.fieldLink "IceTreaty$Place" (40 : Nat) "IceTreaty$Place" "owner" "I") ∈ gw := gw_mem (tk_all (tk_2 (List.mem_of_getElem? (i := 195) (by decide +kernel)))) (by decide +kernel)
theorem gw_437 : (Jvm.Cond.fieldLink "IceTreaty$Place" (43 : Nat) "IceTreaty$Place" "first" "I") ∈ gw := gw_mem (tk_all (tk_2 (List.mem_of_getElem? (i := 197) (by decide +kernel)))) (by decide +kernel)
theorem gw_439 : (Jvm.Cond.fieldLink "IceTreaty$Place" (46 : Nat) "IceTreaty$Place" "last" "I") ∈ gw := gw_mem (tk_all (tk_2 (List.mem_of_getElem? (i := 199) (by decide +kernel)))) (by decide +kernel)
theorem gw_441 : (Jvm.Cond.fieldLink "IceTreaty$Place" (49 : Nat) "IceTreaty$Place" "rank" "I") ∈ gw := gw_mem (tk_all (tk_2 (List.mem_of_getElem? (i := 201) (by decide +kernel)))) (by decide +kernel)
theorem gw_443 : (Jvm.Cond.fieldLink "IceTreaty$Place" (9 : Nat) "IceTreaty$Place" "lost" "Z") ∈ gw := gw_mem (tk_all (tk_2 (List.mem_of_getElem? (i := 203) (by decide +kernel)))) (by decide +kernel)
theorem gw_445 : (Jvm.Cond.fieldLink "IceTreaty$Place" (15 : Nat) "IceTreaty$Place" "people" "I") ∈ gw := gw_mem (tk_all (tk_2 (List.mem_of_getElem? (i := 205) (by decide +kernel)))) (by decide +kernel)
theorem gw_447 : (Jvm.Cond.fieldLink "IceTreaty$Place" (19 : Nat) "IceTreaty$Place" "drums" "I") ∈ gw := gw_mem (tk_all (tk_2 (List.mem_of_getElem? (i := 207) (by decide +kernel)))) (by decide +kernel)
theorem gw_449 : (Jvm.Cond.fieldLink "IceTreaty$Place" (22 : Nat) "IceTreaty$Place" "hidden" "I") ∈ gw := gw_mem (tk_all (tk_2 (List.mem_of_getElem? (i := 209) (by decide +kernel)))) (by decide +kernel)
theorem gw_451 : (Jvm.Cond.fieldLink "IceTreaty$Place" (25 : Nat) "IceTreaty$Place" "cold" "I") ∈ gw := gw_mem (tk_all (tk_2 (List.mem_of_getElem? (i := 211) (by decide +kernel)))) (by decide +kernel)
theorem gw_453 : (Jvm.Cond.fieldLink "IceTreaty$Place" (28 : Nat) "IceTreaty$Place" "since" "I") ∈ gw := gw_mem (tk_all (tk_2 (List.mem_of_getElem? (i := 213) (by decide +kernel)))) (by decide +kernel)
theorem gw_455 : (Jvm.Cond.fieldLink "IceTreaty$Place" (31 : Nat) "IceTreaty$Place" "toldPeople" "I") ∈ gw := gw_mem (tk_all (tk_2 (List.mem_of_getElem? (i := 215) (by decide +kernel)))) (by decide +kernel)
theorem gw_457 : (Jvm.Cond.fieldLink "IceTreaty$Place" (34 : Nat) "IceTreaty$Place" "toldDrums" "I") ∈ gw := gw_mem (tk_all (tk_2 (List.mem_of_getElem? (i := 217) (by decide +kernel)))) (by decide +kernel)
theorem gw_459 : (Jvm.Cond.fieldLink "IceTreaty$Place" (52 : Nat) "IceTreaty$Place" "rows" "[I") ∈ gw := gw_mem (tk_all (tk_2 (List.mem_of_getElem? (i := 219) (by decide +kernel)))) (by decide +kernel)
theorem gw_461 : (Jvm.Cond.fieldLink "IceTreaty$Place" (56 : Nat) "IceTreaty$Place" "noises" "[I") ∈ gw := gw_mem (tk_all (tk_2 (List.mem_of_getElem? (i := 221) (by decide +kernel)))) (by decide +kernel)
theorem gw_463 : (Jvm.Cond.fieldLink "IceTreaty$Place" (64 : Nat) "IceTreaty$Place" "soundings" "LIceTreaty$Table;") ∈ gw := gw_mem (tk_all (tk_2 (List.mem_of_getElem? (i := 223) (by decide +kernel)))) (by decide +kernel)
theorem gw_497 : (Jvm.Cond.methodLink "IceTreaty" (165 : Nat) ({ cls := "IceTreaty", name := "settle", desc := "(LIceTreaty$Place;)I" } : Jvm.MethodName)) ∈ gw := gw_mem (tk_all (tk_3 (List.mem_of_getElem? (i := 17) (by decide +kernel)))) (by decide +kernel)
theorem gw_499 : (Jvm.Cond.instanceMethod ({ cls := "IceTreaty", name := "settle", desc := "(LIceTreaty$Place;)I" } : Jvm.MethodName)) ∈ gw := gw_mem (tk_all (tk_3 (List.mem_of_getElem? (i := 19) (by decide +kernel)))) (by decide +kernel)
theorem gw_500 : (Jvm.Cond.code ({ cls := "IceTreaty", name := "settle", desc := "(LIceTreaty$Place;)I" } : Jvm.MethodName) prog_1_method_12_code (2 : Nat) (Option.some Jvm.ClassFile.FieldType.int)) ∈ gw := gw_mem (tk_all (tk_3 (List.mem_of_getElem? (i := 20) rfl))) (by decide +kernel)
theorem gw_501 : (Jvm.Cond.methodLink "IceTreatyLaw" (37 : Nat) ({ cls := "IceTreaty", name := "title", desc := "(II)Z" } : Jvm.MethodName)) ∈ gw := gw_mem (tk_all (tk_3 (List.mem_of_getElem? (i := 21) (by decide +kernel)))) (by decide +kernel)
theorem gw_502 : (Jvm.Cond.instanceMethod ({ cls := "IceTreaty", name := "title", desc := "(II)Z" } : Jvm.MethodName)) ∈ gw := gw_mem (tk_all (tk_3 (List.mem_of_getElem? (i := 22) (by decide +kernel)))) (by decide +kernel)
theorem gw_503 : (Jvm.Cond.selects "IceTreaty" ({ cls := "IceTreaty", name := "title", desc := "(II)Z" } : Jvm.MethodName) ({ cls := "IceTreaty", name := "title", desc := "(II)Z" } : Jvm.MethodName)) ∈ gw := gw_mem (tk_all (tk_3 (List.mem_of_getElem? (i := 23) (by decide +kernel)))) (by decide +kernel)
theorem gw_504 : (Jvm.Cond.code ({ cls := "IceTreaty", name := "title", desc := "(II)Z" } : Jvm.MethodName) prog_1_method_7_code (5 : Nat) (Option.some Jvm.ClassFile.FieldType.boolean)) ∈ gw := gw_mem (tk_all (tk_3 (List.mem_of_getElem? (i := 24) rfl))) (by decide +kernel)
theorem gw_505 : (Jvm.Cond.methodLink "IceTreaty" (169 : Nat) ({ cls := "IceTreaty", name := "placeOf", desc := "(II)LIceTreaty$Place;" } : Jvm.MethodName)) ∈ gw := gw_mem (tk_all (tk_3 (List.mem_of_getElem? (i := 25) (by decide +kernel)))) (by decide +kernel)
theorem gw_507 : (Jvm.Cond.instanceMethod ({ cls := "IceTreaty", name := "placeOf", desc := "(II)LIceTreaty$Place;" } : Jvm.MethodName)) ∈ gw := gw_mem (tk_all (tk_3 (List.mem_of_getElem? (i := 27) (by decide +kernel)))) (by decide +kernel)
theorem gw_508 : (Jvm.Cond.code ({ cls := "IceTreaty", name := "placeOf", desc := "(II)LIceTreaty$Place;" } : Jvm.MethodName) prog_1_method_99_code (4 : Nat) (Option.some (Jvm.ClassFile.FieldType.object "IceTreaty$Place"))) ∈ gw := gw_mem (tk_all (tk_3 (List.mem_of_getElem? (i := 28) rfl))) (by decide +kernel)
theorem gw_509 : (Jvm.Cond.methodLink "IceTreaty" (384 : Nat) ({ cls := "IceTreaty", name := "anyPlace", desc := "(I)LIceTreaty$Place;" } : Jvm.MethodName)) ∈ gw := gw_mem (tk_all (tk_3 (List.mem_of_getElem? (i := 29) (by decide +kernel)))) (by decide +kernel)
theorem gw_511 : (Jvm.Cond.instanceMethod ({ cls := "IceTreaty", name := "anyPlace", desc := "(I)LIceTreaty$Place;" } : Jvm.MethodName)) ∈ gw := gw_mem (tk_all (tk_3 (List.mem_of_getElem? (i := 31) (by decide +kernel)))) (by decide +kernel)
theorem gw_512 : (Jvm.Cond.code ({ cls := "IceTreaty", name := "anyPlace", desc := "(I)LIceTreaty$Place;" } : Jvm.MethodName) prog_1_method_98_code (2 : Nat) (Option.some (Jvm.ClassFile.FieldType.object "IceTreaty$Place"))) ∈ gw := gw_mem (tk_all (tk_3 (List.mem_of_getElem? (i := 32) rfl))) (by decide +kernel)
theorem gw_513 : (Jvm.Cond.methodLink "IceTreatyLaw" (41 : Nat) ({ cls := "IceTreaty", name := "station", desc := "(IIII)I" } : Jvm.MethodName)) ∈ gw := gw_mem (tk_all (tk_3 (List.mem_of_getElem? (i := 33) (by decide +kernel)))) (by decide +kernel)
theorem gw_514 : (Jvm.Cond.instanceMethod ({ cls := "IceTreaty", name := "station", desc := "(IIII)I" } : Jvm.MethodName)) ∈ gw := gw_mem (tk_all (tk_3 (List.mem_of_getElem? (i := 34) (by decide +kernel)))) (by decide +kernel)
theorem gw_515 : (Jvm.Cond.selects "IceTreaty" ({ cls := "IceTreaty", name := "station", desc := "(IIII)I" } : Jvm.MethodName) ({ cls := "IceTreaty", name := "station", desc := "(IIII)I" } : Jvm.MethodName)) ∈ gw := gw_mem (tk_all (tk_3 (List.mem_of_getElem? (i := 35) (by decide +kernel)))) (by decide +kernel)
theorem gw_516 : (Jvm.Cond.code ({ cls := "IceTreaty", name := "station", desc := "(IIII)I" } : Jvm.MethodName) prog_1_method_8_code (7 : Nat) (Option.some Jvm.ClassFile.FieldType.int)) ∈ gw := gw_mem (tk_all (tk_3 (List.mem_of_getElem? (i := 36) rfl))) (by decide +kernel)
theorem gw_527 : (Jvm.Cond.methodLink "IceTreatyLaw" (45 : Nat) ({ cls := "IceTreaty", name := "field", desc := "(II)I" } : Jvm.MethodName)) ∈ gw := gw_mem (tk_all (tk_3 (List.mem_of_getElem? (i := 47) (by decide +kernel)))) (by decide +kernel)
theorem gw_528 : (Jvm.Cond.instanceMethod ({ cls := "IceTreaty", name := "field", desc := "(II)I" } : Jvm.MethodName)) ∈ gw := gw_mem (tk_all (tk_3 (List.mem_of_getElem? (i := 48) (by decide +kernel)))) (by decide +kernel)
theorem gw_529 : (Jvm.Cond.selects "IceTreaty" ({ cls := "IceTreaty", name := "field", desc := "(II)I" } : Jvm.MethodName) ({ cls := "IceTreaty", name := "field", desc := "(II)I" } : Jvm.MethodName)) ∈ gw := gw_mem (tk_all (tk_3 (List.mem_of_getElem? (i := 49) (by decide +kernel)))) (by decide +kernel)
theorem gw_530 : (Jvm.Cond.code ({ cls := "IceTreaty", name := "field", desc := "(II)I" } : Jvm.MethodName) prog_1_method_9_code (4 : Nat) (Option.some Jvm.ClassFile.FieldType.int)) ∈ gw := gw_mem (tk_all (tk_3 (List.mem_of_getElem? (i := 50) rfl))) (by decide +kernel)
theorem gw_531 : (Jvm.Cond.methodLink "IceTreaty" (195 : Nat) ({ cls := "IceTreaty", name := "standingStation", desc := "(I)LIceTreaty$Place;" } : Jvm.MethodName)) ∈ gw := gw_mem (tk_all (tk_3 (List.mem_of_getElem? (i := 51) (by decide +kernel)))) (by decide +kernel)
theorem gw_533 : (Jvm.Cond.instanceMethod ({ cls := "IceTreaty", name := "standingStation", desc := "(I)LIceTreaty$Place;" } : Jvm.MethodName)) ∈ gw := gw_mem (tk_all (tk_3 (List.mem_of_getElem? (i := 53) (by decide +kernel)))) (by decide +kernel)
theorem gw_534 : (Jvm.Cond.code ({ cls := "IceTreaty", name := "standingStation", desc := "(I)LIceTreaty$Place;" } : Jvm.MethodName) prog_1_method_100_code (3 : Nat) (Option.some (Jvm.ClassFile.FieldType.object "IceTreaty$Place"))) ∈ gw := gw_mem (tk_all (tk_3 (List.mem_of_getElem? (i := 54) rfl))) (by decide +kernel)
theorem gw_535 : (Jvm.Cond.methodLink "IceTreatyLaw" (50 : Nat) ({ cls := "IceTreaty", name := "reserve", desc := "(III)I" } : Jvm.MethodName)) ∈ gw := gw_mem (tk_all (tk_3 (List.mem_of_getElem? (i := 55) (by decide +kernel)))) (by decide +kernel)
theorem gw_536 : (Jvm.Cond.instanceMethod ({ cls := "IceTreaty", name := "reserve", desc := "(III)I" } : Jvm.MethodName)) ∈ gw := gw_mem (tk_all (tk_3 (List.mem_of_getElem? (i := 56) (by decide +kernel)))) (by decide +kernel)
theorem gw_537 : (Jvm.Cond.selects "IceTreaty" ({ cls := "IceTreaty", name := "reserve", desc := "(III)I" } : Jvm.MethodName) ({ cls := "IceTreaty", name := "reserve", desc := "(III)I" } : Jvm.MethodName)) ∈ gw := gw_mem (tk_all (tk_3 (List.mem_of_getElem? (i := 57) (by decide +kernel)))) (by decide +kernel)
theorem gw_538 : (Jvm.Cond.code ({ cls := "IceTreaty", name := "reserve", desc := "(III)I" } : Jvm.MethodName) prog_1_method_10_code (4 : Nat) (Option.some Jvm.ClassFile.FieldType.int)) ∈ gw := gw_mem (tk_all (tk_3 (List.mem_of_getElem? (i := 58) rfl))) (by decide +kernel)
theorem gw_539 : (Jvm.Cond.methodLink "IceTreatyLaw" (55 : Nat) ({ cls := "IceTreaty", name := "site", desc := "(IZ)I" } : Jvm.MethodName)) ∈ gw := gw_mem (tk_all (tk_3 (List.mem_of_getElem? (i := 59) (by decide +kernel)))) (by decide +kernel)
theorem gw_540 : (Jvm.Cond.instanceMethod ({ cls := "IceTreaty", name := "site", desc := "(IZ)I" } : Jvm.MethodName)) ∈ gw := gw_mem (tk_all (tk_3 (List.mem_of_getElem? (i := 60) (by decide +kernel)))) (by decide +kernel)
theorem gw_541 : (Jvm.Cond.selects "IceTreaty" ({ cls := "IceTreaty", name := "site", desc := "(IZ)I" } : Jvm.MethodName) ({ cls := "IceTreaty", name := "site", desc := "(IZ)I" } : Jvm.MethodName)) ∈ gw := gw_mem (tk_all (tk_3 (List.mem_of_getElem? (i := 61) (by decide +kernel)))) (by decide +kernel)
theorem gw_542 : (Jvm.Cond.code ({ cls := "IceTreaty", name := "site", desc := "(IZ)I" } : Jvm.MethodName) prog_1_method_11_code (3 : Nat) (Option.some Jvm.ClassFile.FieldType.int)) ∈ gw := gw_mem (tk_all (tk_3 (List.mem_of_getElem? (i := 62) rfl))) (by decide +kernel)
theorem gw_543 : (Jvm.Cond.methodLink "IceTreatyLaw" (60 : Nat) ({ cls := "IceTreaty", name := "feed", desc := "(IIIII)I" } : Jvm.MethodName)) ∈ gw := gw_mem (tk_all (tk_3 (List.mem_of_getElem? (i := 63) (by decide +kernel)))) (by decide +kernel)
theorem gw_544 : (Jvm.Cond.instanceMethod ({ cls := "IceTreaty", name := "feed", desc := "(IIIII)I" } : Jvm.MethodName)) ∈ gw := gw_mem (tk_all (tk_3 (List.mem_of_getElem? (i := 64) (by decide +kernel)))) (by decide +kernel)
theorem gw_545 : (Jvm.Cond.selects "IceTreaty" ({ cls := "IceTreaty", name := "feed", desc := "(IIIII)I" } : Jvm.MethodName) ({ cls := "IceTreaty", name := "feed", desc := "(IIIII)I" } : Jvm.MethodName)) ∈ gw := gw_mem (tk_all (tk_3 (List.mem_of_getElem? (i := 65) (by decide +kernel)))) (by decide +kernel)
theorem gw_546 : (Jvm.Cond.code ({ cls := "IceTreaty", name := "feed", desc := "(IIIII)I" } : Jvm.MethodName) prog_1_method_13_code (6 : Nat) (Option.some Jvm.ClassFile.FieldType.int)) ∈ gw := gw_mem (tk_all (tk_3 (List.mem_of_getElem? (i := 66) rfl))) (by decide +kernel)
theorem gw_547 : (Jvm.Cond.methodLink "IceTreaty" (202 : Nat) ({ cls := "IceTreaty", name := "feedNumber", desc := "(I)V" } : Jvm.MethodName)) ∈ gw := gw_mem (tk_all (tk_3 (List.mem_of_getElem? (i := 67) (by decide +kernel)))) (by decide +kernel)
theorem gw_549 : (Jvm.Cond.instanceMethod ({ cls := "IceTreaty", name := "feedNumber", desc := "(I)V" } : Jvm.MethodName)) ∈ gw := gw_mem (tk_all (tk_3 (List.mem_of_getElem? (i := 69) (by decide +kernel)))) (by decide +kernel)
theorem gw_550 : (Jvm.Cond.code ({ cls := "IceTreaty", name := "feedNumber", desc := "(I)V" } : Jvm.MethodName) prog_1_method_14_code (3 : Nat) (Option.none : Option Jvm.ClassFile.FieldType)) ∈ gw := gw_mem (tk_all (tk_3 (List.mem_of_getElem? (i := 70) rfl))) (by decide +kernel)
theorem gw_551 : (Jvm.Cond.methodLink "IceTreaty" (205 : Nat) ({ cls := "IceTreaty$Table", name := "append", desc := "(IIIII)I" } : Jvm.MethodName)) ∈ gw := gw_mem (tk_all (tk_3 (List.mem_of_getElem? (i := 71) (by decide +kernel)))) (by decide +kernel)
theorem gw_552 : (Jvm.Cond.instanceMethod ({ cls := "IceTreaty$Table", name := "append", desc := "(IIIII)I" } : Jvm.MethodName)) ∈ gw := gw_mem (tk_all (tk_3 (List.mem_of_getElem? (i := 72) (by decide +kernel)))) (by decide +kernel)
theorem gw_553 : (Jvm.Cond.selects "IceTreaty$Table" ({ cls := "IceTreaty$Table", name := "append", desc := "(IIIII)I" } : Jvm.MethodName) ({ cls := "IceTreaty$Table", name := "append", desc := "(IIIII)I" } : Jvm.MethodName)) ∈ gw := gw_mem (tk_all (tk_3 (List.mem_of_getElem? (i := 73) (by decide +kernel)))) (by decide +kernel)
theorem gw_554 : (Jvm.Cond.code ({ cls := "IceTreaty$Table", name := "append", desc := "(IIIII)I" } : Jvm.MethodName) prog_10_method_6_code (7 : Nat) (Option.some Jvm.ClassFile.FieldType.int)) ∈ gw := gw_mem (tk_all (tk_3 (List.mem_of_getElem? (i := 74) rfl))) (by decide +kernel)
theorem gw_555 : (Jvm.Cond.methodLink "IceTreaty$Table" (31 : Nat) ({ cls := "IceTreaty$Table", name := "isFull", desc := "()Z" } : Jvm.MethodName)) ∈ gw := gw_mem (tk_all (tk_3 (List.mem_of_getElem? (i := 75) (by decide +kernel)))) (by decide +kernel)
theorem gw_556 : (Jvm.Cond.instanceMethod ({ cls := "IceTreaty$Table", name := "isFull", desc := "()Z" } : Jvm.MethodName)) ∈ gw := gw_mem (tk_all (tk_3 (List.mem_of_getElem? (i := 76) (by decide +kernel)))) (by decide +kernel)
theorem gw_557 : (Jvm.Cond.selects "IceTreaty$Table" ({ cls := "IceTreaty$Table", name := "isFull", desc := "()Z" } : Jvm.MethodName) ({ cls := "IceTreaty$Table", name := "isFull", desc := "()Z" } : Jvm.MethodName)) ∈ gw := gw_mem (tk_all (tk_3 (List.mem_of_getElem? (i := 77) (by decide +kernel)))) (by decide +kernel)
theorem gw_558 : (Jvm.Cond.code ({ cls := "IceTreaty$Table", name := "isFull", desc := "()Z" } : Jvm.MethodName) prog_10_method_2_code (1 : Nat) (Option.some Jvm.ClassFile.FieldType.boolean)) ∈ gw := gw_mem (tk_all (tk_3 (List.mem_of_getElem? (i := 78) rfl))) (by decide +kernel)
theorem gw_559 : (Jvm.Cond.methodLink "IceTreaty$Table" (35 : Nat) ({ cls := "IceTreaty$Table", name := "put", desc := "(III)V" } : Jvm.MethodName)) ∈ gw := gw_mem (tk_all (tk_3 (List.mem_of_getElem? (i := 79) (by decide +kernel)))) (by decide +kernel)
theorem gw_560 : (Jvm.Cond.instanceMethod ({ cls := "IceTreaty$Table", name := "put", desc := "(III)V" } : Jvm.MethodName)) ∈ gw := gw_mem (tk_all (tk_3 (List.mem_of_getElem? (i := 80) (by decide +kernel)))) (by decide +kernel)
theorem gw_561 : (Jvm.Cond.selects "IceTreaty$Table" ({ cls := "IceTreaty$Table", name := "put", desc := "(III)V" } : Jvm.MethodName) ({ cls := "IceTreaty$Table", name := "put", desc := "(III)V" } : Jvm.MethodName)) ∈ gw := gw_mem (tk_all (tk_3 (List.mem_of_getElem? (i := 81) (by decide +kernel)))) (by decide +kernel)
theorem gw_562 : (Jvm.Cond.code ({ cls := "IceTreaty$Table", name := "put", desc := "(III)V" } : Jvm.MethodName) prog_10_method_5_code (6 : Nat) (Option.none : Option Jvm.ClassFile.FieldType)) ∈ gw := gw_mem (tk_all (tk_3 (List.mem_of_getElem? (i := 82) rfl))) (by decide +kernel)
theorem gw_563 : (Jvm.Cond.methodLink "IceTreatyLaw" (65 : Nat) ({ cls := "IceTreaty", name := "text", desc := "(III)I" } : Jvm.MethodName)) ∈ gw := gw_mem (tk_all (tk_3 (List.mem_of_getElem? (i := 83) (by decide +kernel)))) (by decide +kernel)
theorem gw_564 : (Jvm.Cond.instanceMethod ({ cls := "IceTreaty", name := "text", desc := "(III)I" } : Jvm.MethodName)) ∈ gw := gw_mem (tk_all (tk_3 (List.mem_of_getElem? (i := 84) (by decide +kernel)))) (by decide +kernel)
theorem gw_565 : (Jvm.Cond.selects "IceTreaty" ({ cls := "IceTreaty", name := "text", desc := "(III)I" } : Jvm.MethodName) ({ cls := "IceTreaty", name := "text", desc := "(III)I" } : Jvm.MethodName)) ∈ gw := gw_mem (tk_all (tk_3 (List.mem_of_getElem? (i := 85) (by decide +kernel)))) (by decide +kernel)
theorem gw_566 : (Jvm.Cond.code ({ cls := "IceTreaty", name := "text", desc := "(III)I" } : Jvm.MethodName) prog_1_method_16_code (6 : Nat) (Option.some Jvm.ClassFile.FieldType.int)) ∈ gw := gw_mem (tk_all (tk_3 (List.mem_of_getElem? (i := 86) rfl))) (by decide +kernel)
theorem gw_567 : (Jvm.Cond.methodLink "IceTreaty" (213 : Nat) ({ cls := "IceTreaty", name := "areDays", desc := "(II)Z" } : Jvm.MethodName)) ∈ gw := gw_mem (tk_all (tk_3 (List.mem_of_getElem? (i := 87) (by decide +kernel)))) (by decide +kernel)
theorem gw_568 : (Jvm.Cond.static ({ cls := "IceTreaty", name := "areDays", desc := "(II)Z" } : Jvm.MethodName)) ∈ gw := gw_mem (tk_all (tk_3 (List.mem_of_getElem? (i := 88) (by decide +kernel)))) (by decide +kernel)
theorem gw_569 : (Jvm.Cond.code ({ cls := "IceTreaty", name := "areDays", desc := "(II)Z" } : Jvm.MethodName) prog_1_method_106_code (2 : Nat) (Option.some Jvm.ClassFile.FieldType.boolean)) ∈ gw := gw_mem (tk_all (tk_3 (List.mem_of_getElem? (i := 89) rfl))) (by decide +kernel)
theorem gw_571 : (Jvm.Cond.instantiable "IceTreaty$Text" (5 : Nat)) ∈ gw := gw_mem (tk_all (tk_3 (List.mem_of_getElem? (i := 91) (by decide +kernel)))) (by decide +kernel)
theorem gw_600 : (Jvm.Cond.instantiable "IceTreaty$Scribe" (7 : Nat)) ∈ gw := gw_mem (tk_all (tk_3 (List.mem_of_getElem? (i := 120) (by decide +kernel)))) (by decide +kernel)
theorem gw_815 : (Jvm.Cond.arrayClass Jvm.ClassFile.FieldType.byte) ∈ gw := gw_mem (tk_all (tk_4 (List.mem_of_getElem? (i := 95) (by decide +kernel)))) (by decide +kernel)
theorem gw_816 : (Jvm.Cond.methodLink "IceTreatyLaw" (69 : Nat) ({ cls := "IceTreaty", name := "yes", desc := "(II)Z" } : Jvm.MethodName)) ∈ gw := gw_mem (tk_all (tk_4 (List.mem_of_getElem? (i := 96) (by decide +kernel)))) (by decide +kernel)
theorem gw_817 : (Jvm.Cond.instanceMethod ({ cls := "IceTreaty", name := "yes", desc := "(II)Z" } : Jvm.MethodName)) ∈ gw := gw_mem (tk_all (tk_4 (List.mem_of_getElem? (i := 97) (by decide +kernel)))) (by decide +kernel)
theorem gw_818 : (Jvm.Cond.selects "IceTreaty" ({ cls := "IceTreaty", name := "yes", desc := "(II)Z" } : Jvm.MethodName) ({ cls := "IceTreaty", name := "yes", desc := "(II)Z" } : Jvm.MethodName)) ∈ gw := gw_mem (tk_all (tk_4 (List.mem_of_getElem? (i := 98) (by decide +kernel)))) (by decide +kernel)
theorem gw_819 : (Jvm.Cond.code ({ cls := "IceTreaty", name := "yes", desc := "(II)Z" } : Jvm.MethodName) prog_1_method_17_code (4 : Nat) (Option.some Jvm.ClassFile.FieldType.boolean)) ∈ gw := gw_mem (tk_all (tk_4 (List.mem_of_getElem? (i := 99) rfl))) (by decide +kernel)
theorem gw_820 : (Jvm.Cond.methodLink "IceTreaty" (246 : Nat) ({ cls := "IceTreaty$Law", name := "textOf", desc := "(I)LIceTreaty$Text;" } : Jvm.MethodName)) ∈ gw := gw_mem (tk_all (tk_4 (List.mem_of_getElem? (i := 100) (by decide +kernel)))) (by decide +kernel)
theorem gw_823 : (Jvm.Cond.methodLink "IceTreatyLaw" (73 : Nat) ({ cls := "IceTreaty", name := "reading", desc := "(IIII)I" } : Jvm.MethodName)) ∈ gw := gw_mem (tk_all (tk_4 (List.mem_of_getElem? (i := 103) (by decide +kernel)))) (by decide +kernel)
theorem gw_824 : (Jvm.Cond.instanceMethod ({ cls := "IceTreaty", name := "reading", desc := "(IIII)I" } : Jvm.MethodName)) ∈ gw := gw_mem (tk_all (tk_4 (List.mem_of_getElem? (i := 104) (by decide +kernel)))) (by decide +kernel)
theorem gw_825 : (Jvm.Cond.selects "IceTreaty" ({ cls := "IceTreaty", name := "reading", desc := "(IIII)I" } : Jvm.MethodName) ({ cls := "IceTreaty", name := "reading", desc := "(IIII)I" } : Jvm.MethodName)) ∈ gw := gw_mem (tk_all (tk_4 (List.mem_of_getElem? (i := 105) (by decide +kernel)))) (by decide +kernel)
theorem gw_826 : (Jvm.Cond.code ({ cls := "IceTreaty", name := "reading", desc := "(IIII)I" } : Jvm.MethodName) prog_1_method_18_code (8 : Nat) (Option.some Jvm.ClassFile.FieldType.int)) ∈ gw := gw_mem (tk_all (tk_4 (List.mem_of_getElem? (i := 106) rfl))) (by decide +kernel)
theorem gw_832 : (Jvm.Cond.instanceMethod ({ cls := "IceTreaty$Table", name := "has", desc := "(I)Z" } : Jvm.MethodName)) ∈ gw := gw_mem (tk_all (tk_4 (List.mem_of_getElem? (i := 112) (by decide +kernel)))) (by decide +kernel)
theorem gw_833 : (Jvm.Cond.selects "IceTreaty$Table" ({ cls := "IceTreaty$Table", name := "has", desc := "(I)Z" } : Jvm.MethodName) ({ cls := "IceTreaty$Table", name := "has", desc := "(I)Z" } : Jvm.MethodName)) ∈ gw := gw_mem (tk_all (tk_4 (List.mem_of_getElem? (i := 113) (by decide +kernel)))) (by decide +kernel)
theorem gw_834 : (Jvm.Cond.code ({ cls := "IceTreaty$Table", name := "has", desc := "(I)Z" } : Jvm.MethodName) prog_10_method_3_code (2 : Nat) (Option.some Jvm.ClassFile.FieldType.boolean)) ∈ gw := gw_mem (tk_all (tk_4 (List.mem_of_getElem? (i := 114) rfl))) (by decide +kernel)
theorem gw_845 : (Jvm.Cond.methodLink "IceTreatyLaw" (77 : Nat) ({ cls := "IceTreaty", name := "counts", desc := "(III)I" } : Jvm.MethodName)) ∈ gw := gw_mem (tk_all (tk_4 (List.mem_of_getElem? (i := 125) (by decide +kernel)))) (by decide +kernel)
theorem gw_846 : (Jvm.Cond.instanceMethod ({ cls := "IceTreaty", name := "counts", desc := "(III)I" } : Jvm.MethodName)) ∈ gw := gw_mem (tk_all (tk_4 (List.mem_of_getElem? (i := 126) (by decide +kernel)))) (by decide +kernel)
theorem gw_847 : (Jvm.Cond.selects "IceTreaty" ({ cls := "IceTreaty", name := "counts", desc := "(III)I" } : Jvm.MethodName) ({ cls := "IceTreaty", name := "counts", desc := "(III)I" } : Jvm.MethodName)) ∈ gw := gw_mem (tk_all (tk_4 (List.mem_of_getElem? (i := 127) (by decide +kernel)))) (by decide +kernel)
theorem gw_848 : (Jvm.Cond.code ({ cls := "IceTreaty", name := "counts", desc := "(III)I" } : Jvm.MethodName) prog_1_method_19_code (5 : Nat) (Option.some Jvm.ClassFile.FieldType.int)) ∈ gw := gw_mem (tk_all (tk_4 (List.mem_of_getElem? (i := 128) rfl))) (by decide +kernel)
theorem gw_858 : (Jvm.Cond.methodLink "IceTreatyLaw" (81 : Nat) ({ cls := "IceTreaty", name := "number", desc := "(III)I" } : Jvm.MethodName)) ∈ gw := gw_mem (tk_all (tk_4 (List.mem_of_getElem? (i := 138) (by decide +kernel)))) (by decide +kernel)
theorem gw_859 : (Jvm.Cond.instanceMethod ({ cls := "IceTreaty", name := "number", desc := "(III)I" } : Jvm.MethodName)) ∈ gw := gw_mem (tk_all (tk_4 (List.mem_of_getElem? (i := 139) (by decide +kernel)))) (by decide +kernel)
theorem gw_860 : (Jvm.Cond.selects "IceTreaty" ({ cls := "IceTreaty", name := "number", desc := "(III)I" } : Jvm.MethodName) ({ cls := "IceTreaty", name := "number", desc := "(III)I" } : Jvm.MethodName)) ∈ gw := gw_mem (tk_all (tk_4 (List.mem_of_getElem? (i := 140) (by decide +kernel)))) (by decide +kernel)
theorem gw_861 : (Jvm.Cond.code ({ cls := "IceTreaty", name := "number", desc := "(III)I" } : Jvm.MethodName) prog_1_method_20_code (6 : Nat) (Option.some Jvm.ClassFile.FieldType.int)) ∈ gw := gw_mem (tk_all (tk_4 (List.mem_of_getElem? (i := 141) rfl))) (by decide +kernel)
theorem gw_863 : (Jvm.Cond.methodLink "IceTreatyLaw" (85 : Nat) ({ cls := "IceTreaty", name := "decides", desc := "(II)I" } : Jvm.MethodName)) ∈ gw := gw_mem (tk_all (tk_4 (List.mem_of_getElem? (i := 143) (by decide +kernel)))) (by decide +kernel)
theorem gw_864 : (Jvm.Cond.instanceMethod ({ cls := "IceTreaty", name := "decides", desc := "(II)I" } : Jvm.MethodName)) ∈ gw := gw_mem (tk_all (tk_4 (List.mem_of_getElem? (i := 144) (by decide +kernel)))) (by decide +kernel)
theorem gw_865 : (Jvm.Cond.selects "IceTreaty" ({ cls := "IceTreaty", name := "decides", desc := "(II)I" } : Jvm.MethodName) ({ cls := "IceTreaty", name := "decides", desc := "(II)I" } : Jvm.MethodName)) ∈ gw := gw_mem (tk_all (tk_4 (List.mem_of_getElem? (i := 145) (by decide +kernel)))) (by decide +kernel)
theorem gw_866 : (Jvm.Cond.code ({ cls := "IceTreaty", name := "decides", desc := "(II)I" } : Jvm.MethodName) prog_1_method_21_code (4 : Nat) (Option.some Jvm.ClassFile.FieldType.int)) ∈ gw := gw_mem (tk_all (tk_4 (List.mem_of_getElem? (i := 146) rfl))) (by decide +kernel)
theorem gw_871 : (Jvm.Cond.methodLink "IceTreatyLaw" (89 : Nat) ({ cls := "IceTreaty", name := "work", desc := "(IIIIIII)I" } : Jvm.MethodName)) ∈ gw := gw_mem (tk_all (tk_4 (List.mem_of_getElem? (i := 151) (by decide +kernel)))) (by decide +kernel)
theorem gw_872 : (Jvm.Cond.instanceMethod ({ cls := "IceTreaty", name := "work", desc := "(IIIIIII)I" } : Jvm.MethodName)) ∈ gw := gw_mem (tk_all (tk_4 (List.mem_of_getElem? (i := 152) (by decide +kernel)))) (by decide +kernel)
theorem gw_873 : (Jvm.Cond.selects "IceTreaty" ({ cls := "IceTreaty", name := "work", desc := "(IIIIIII)I" } : Jvm.MethodName) ({ cls := "IceTreaty", name := "work", desc := "(IIIIIII)I" } : Jvm.MethodName)) ∈ gw := gw_mem (tk_all (tk_4 (List.mem_of_getElem? (i := 153) (by decide +kernel)))) (by decide +kernel)
theorem gw_874 : (Jvm.Cond.code ({ cls := "IceTreaty", name := "work", desc := "(IIIIIII)I" } : Jvm.MethodName) prog_1_method_23_code (9 : Nat) (Option.some Jvm.ClassFile.FieldType.int)) ∈ gw := gw_mem (tk_all (tk_4 (List.mem_of_getElem? (i := 154) rfl))) (by decide +kernel)
theorem gw_875 : (Jvm.Cond.instantiable "IceTreaty$Work" (15 : Nat)) ∈ gw := gw_mem (tk_all (tk_4 (List.mem_of_getElem? (i := 155) (by decide +kernel)))) (by decide +kernel)
theorem gw_946 : (Jvm.Cond.methodLink "IceTreatyLaw" (94 : Nat) ({ cls := "IceTreaty", name := "tell", desc := "(II)Z" } : Jvm.MethodName)) ∈ gw := gw_mem (tk_all (tk_4 (List.mem_of_getElem? (i := 226) (by decide +kernel)))) (by decide +kernel)
theorem gw_947 : (Jvm.Cond.instanceMethod ({ cls := "IceTreaty", name := "tell", desc := "(II)Z" } : Jvm.MethodName)) ∈ gw := gw_mem (tk_all (tk_4 (List.mem_of_getElem? (i := 227) (by decide +kernel)))) (by decide +kernel)
theorem gw_948 : (Jvm.Cond.selects "IceTreaty" ({ cls := "IceTreaty", name := "tell", desc := "(II)Z" } : Jvm.MethodName) ({ cls := "IceTreaty", name := "tell", desc := "(II)Z" } : Jvm.MethodName)) ∈ gw := gw_mem (tk_all (tk_4 (List.mem_of_getElem? (i := 228) (by decide +kernel)))) (by decide +kernel)
theorem gw_949 : (Jvm.Cond.code ({ cls := "IceTreaty", name := "tell", desc := "(II)Z" } : Jvm.MethodName) prog_1_method_24_code (4 : Nat) (Option.some Jvm.ClassFile.FieldType.boolean)) ∈ gw := gw_mem (tk_all (tk_4 (List.mem_of_getElem? (i := 229) rfl))) (by decide +kernel)
theorem gw_950 : (Jvm.Cond.methodLink "IceTreaty" (309 : Nat) ({ cls := "IceTreaty", name := "workOf", desc := "(I)LIceTreaty$Work;" } : Jvm.MethodName)) ∈ gw := gw_mem (tk_all (tk_4 (List.mem_of_getElem? (i := 230) (by decide +kernel)))) (by decide +kernel)
theorem gw_952 : (Jvm.Cond.instanceMethod ({ cls := "IceTreaty", name := "workOf", desc := "(I)LIceTreaty$Work;" } : Jvm.MethodName)) ∈ gw := gw_mem (tk_all (tk_4 (List.mem_of_getElem? (i := 232) (by decide +kernel)))) (by decide +kernel)
theorem gw_953 : (Jvm.Cond.code ({ cls := "IceTreaty", name := "workOf", desc := "(I)LIceTreaty$Work;" } : Jvm.MethodName) prog_1_method_101_code (2 : Nat) (Option.some (Jvm.ClassFile.FieldType.object "IceTreaty$Work"))) ∈ gw := gw_mem (tk_all (tk_4 (List.mem_of_getElem? (i := 233) rfl))) (by decide +kernel)
theorem gw_954 : (Jvm.Cond.methodLink "IceTreatyLaw" (98 : Nat) ({ cls := "IceTreaty", name := "study", desc := "(II)Z" } : Jvm.MethodName)) ∈ gw := gw_mem (tk_all (tk_4 (List.mem_of_getElem? (i := 234) (by decide +kernel)))) (by decide +kernel)
theorem gw_955 : (Jvm.Cond.instanceMethod ({ cls := "IceTreaty", name := "study", desc := "(II)Z" } : Jvm.MethodName)) ∈ gw := gw_mem (tk_all (tk_4 (List.mem_of_getElem? (i := 235) (by decide +kernel)))) (by decide +kernel)
theorem gw_956 : (Jvm.Cond.selects "IceTreaty" ({ cls := "IceTreaty", name := "study", desc := "(II)Z" } : Jvm.MethodName) ({ cls := "IceTreaty", name := "study", desc := "(II)Z" } : Jvm.MethodName)) ∈ gw := gw_mem (tk_all (tk_4 (List.mem_of_getElem? (i := 236) (by decide +kernel)))) (by decide +kernel)
theorem gw_957 : (Jvm.Cond.code ({ cls := "IceTreaty", name := "study", desc := "(II)Z" } : Jvm.MethodName) prog_1_method_25_code (4 : Nat) (Option.some Jvm.ClassFile.FieldType.boolean)) ∈ gw := gw_mem (tk_all (tk_4 (List.mem_of_getElem? (i := 237) rfl))) (by decide +kernel)
theorem gw_958 : (Jvm.Cond.methodLink "IceTreatyLaw" (102 : Nat) ({ cls := "IceTreaty", name := "say", desc := "(IIZ)Z" } : Jvm.MethodName)) ∈ gw := gw_mem (tk_all (tk_4 (List.mem_of_getElem? (i := 238) (by decide +kernel)))) (by decide +kernel)
theorem gw_959 : (Jvm.Cond.instanceMethod ({ cls := "IceTreaty", name := "say", desc := "(IIZ)Z" } : Jvm.MethodName)) ∈ gw := gw_mem (tk_all (tk_4 (List.mem_of_getElem? (i := 239) (by decide +kernel)))) (by decide +kernel)
theorem gw_960 : (Jvm.Cond.selects "IceTreaty" ({ cls := "IceTreaty", name := "say", desc := "(IIZ)Z" } : Jvm.MethodName) ({ cls := "IceTreaty", name := "say", desc := "(IIZ)Z" } : Jvm.MethodName)) ∈ gw := gw_mem (tk_all (tk_5 (List.mem_of_getElem? (i := 0) (by decide +kernel)))) (by decide +kernel)
theorem gw_961 : (Jvm.Cond.code ({ cls := "IceTreaty", name := "say", desc := "(IIZ)Z" } : Jvm.MethodName) prog_1_method_26_code (6 : Nat) (Option.some Jvm.ClassFile.FieldType.boolean)) ∈ gw := gw_mem (tk_all (tk_5 (List.mem_of_getElem? (i := 1) rfl))) (by decide +kernel)
theorem gw_962 : (Jvm.Cond.methodLink "IceTreatyLaw" (107 : Nat) ({ cls := "IceTreaty", name := "may", desc := "(IIZ)I" } : Jvm.MethodName)) ∈ gw := gw_mem (tk_all (tk_5 (List.mem_of_getElem? (i := 2) (by decide +kernel)))) (by decide +kernel)
theorem gw_963 : (Jvm.Cond.instanceMethod ({ cls := "IceTreaty", name := "may", desc := "(IIZ)I" } : Jvm.MethodName)) ∈ gw := gw_mem (tk_all (tk_5 (List.mem_of_getElem? (i := 3) (by decide +kernel)))) (by decide +kernel)
theorem gw_964 : (Jvm.Cond.selects "IceTreaty" ({ cls := "IceTreaty", name := "may", desc := "(IIZ)I" } : Jvm.MethodName) ({ cls := "IceTreaty", name := "may", desc := "(IIZ)I" } : Jvm.MethodName)) ∈ gw := gw_mem (tk_all (tk_5 (List.mem_of_getElem? (i := 4) (by decide +kernel)))) (by decide +kernel)
theorem gw_965 : (Jvm.Cond.code ({ cls := "IceTreaty", name := "may", desc := "(IIZ)I" } : Jvm.MethodName) prog_1_method_27_code (5 : Nat) (Option.some Jvm.ClassFile.FieldType.int)) ∈ gw := gw_mem (tk_all (tk_5 (List.mem_of_getElem? (i := 5) rfl))) (by decide +kernel)
theorem gw_999 : (Jvm.Cond.methodLink "IceTreaty" (369 : Nat) ({ cls := "IceTreaty", name := "decidingOn", desc := "(I)I" } : Jvm.MethodName)) ∈ gw := gw_mem (tk_all (tk_5 (List.mem_of_getElem? (i := 39) (by decide +kernel)))) (by decide +kernel)
theorem gw_1001 : (Jvm.Cond.instanceMethod ({ cls := "IceTreaty", name := "decidingOn", desc := "(I)I" } : Jvm.MethodName)) ∈ gw := gw_mem (tk_all (tk_5 (List.mem_of_getElem? (i := 41) (by decide +kernel)))) (by decide +kernel)
theorem gw_1002 : (Jvm.Cond.code ({ cls := "IceTreaty", name := "decidingOn", desc := "(I)I" } : Jvm.MethodName) prog_1_method_32_code (5 : Nat) (Option.some Jvm.ClassFile.FieldType.int)) ∈ gw := gw_mem (tk_all (tk_5 (List.mem_of_getElem? (i := 42) rfl))) (by decide +kernel)
theorem gw_1033 : (Jvm.Cond.methodLink "IceTreatyLaw" (112 : Nat) ({ cls := "IceTreaty", name := "why", desc := "(IIZI)I" } : Jvm.MethodName)) ∈ gw := gw_mem (tk_all (tk_5 (List.mem_of_getElem? (i := 73) (by decide +kernel)))) (by decide +kernel)
theorem gw_1034 : (Jvm.Cond.instanceMethod ({ cls := "IceTreaty", name := "why", desc := "(IIZI)I" } : Jvm.MethodName)) ∈ gw := gw_mem (tk_all (tk_5 (List.mem_of_getElem? (i := 74) (by decide +kernel)))) (by decide +kernel)
theorem gw_1035 : (Jvm.Cond.selects "IceTreaty" ({ cls := "IceTreaty", name := "why", desc := "(IIZI)I" } : Jvm.MethodName) ({ cls := "IceTreaty", name := "why", desc := "(IIZI)I" } : Jvm.MethodName)) ∈ gw := gw_mem (tk_all (tk_5 (List.mem_of_getElem? (i := 75) (by decide +kernel)))) (by decide +kernel)
theorem gw_1036 : (Jvm.Cond.code ({ cls := "IceTreaty", name := "why", desc := "(IIZI)I" } : Jvm.MethodName) prog_1_method_28_code (6 : Nat) (Option.some Jvm.ClassFile.FieldType.int)) ∈ gw := gw_mem (tk_all (tk_5 (List.mem_of_getElem? (i := 76) rfl))) (by decide +kernel)
theorem gw_1037 : (Jvm.Cond.methodLink "IceTreatyLaw" (117 : Nat) ({ cls := "IceTreaty", name := "whose", desc := "(II)I" } : Jvm.MethodName)) ∈ gw := gw_mem (tk_all (tk_5 (List.mem_of_getElem? (i := 77) (by decide +kernel)))) (by decide +kernel)
theorem gw_1038 : (Jvm.Cond.instanceMethod ({ cls := "IceTreaty", name := "whose", desc := "(II)I" } : Jvm.MethodName)) ∈ gw := gw_mem (tk_all (tk_5 (List.mem_of_getElem? (i := 78) (by decide +kernel)))) (by decide +kernel)
theorem gw_1039 : (Jvm.Cond.selects "IceTreaty" ({ cls := "IceTreaty", name := "whose", desc := "(II)I" } : Jvm.MethodName) ({ cls := "IceTreaty", name := "whose", desc := "(II)I" } : Jvm.MethodName)) ∈ gw := gw_mem (tk_all (tk_5 (List.mem_of_getElem? (i := 79) (by decide +kernel)))) (by decide +kernel)
theorem gw_1040 : (Jvm.Cond.code ({ cls := "IceTreaty", name := "whose", desc := "(II)I" } : Jvm.MethodName) prog_1_method_29_code (9 : Nat) (Option.some Jvm.ClassFile.FieldType.int)) ∈ gw := gw_mem (tk_all (tk_5 (List.mem_of_getElem? (i := 80) rfl))) (by decide +kernel)
theorem gw_1041 : (Jvm.Cond.methodLink "IceTreatyLaw" (121 : Nat) ({ cls := "IceTreaty", name := "ship", desc := "(III)I" } : Jvm.MethodName)) ∈ gw := gw_mem (tk_all (tk_5 (List.mem_of_getElem? (i := 81) (by decide +kernel)))) (by decide +kernel)
theorem gw_1042 : (Jvm.Cond.instanceMethod ({ cls := "IceTreaty", name := "ship", desc := "(III)I" } : Jvm.MethodName)) ∈ gw := gw_mem (tk_all (tk_5 (List.mem_of_getElem? (i := 82) (by decide +kernel)))) (by decide +kernel)
theorem gw_1043 : (Jvm.Cond.selects "IceTreaty" ({ cls := "IceTreaty", name := "ship", desc := "(III)I" } : Jvm.MethodName) ({ cls := "IceTreaty", name := "ship", desc := "(III)I" } : Jvm.MethodName)) ∈ gw := gw_mem (tk_all (tk_5 (List.mem_of_getElem? (i := 83) (by decide +kernel)))) (by decide +kernel)
theorem gw_1044 : (Jvm.Cond.code ({ cls := "IceTreaty", name := "ship", desc := "(III)I" } : Jvm.MethodName) prog_1_method_35_code (4 : Nat) (Option.some Jvm.ClassFile.FieldType.int)) ∈ gw := gw_mem (tk_all (tk_5 (List.mem_of_getElem? (i := 84) rfl))) (by decide +kernel)
theorem gw_1045 : (Jvm.Cond.instantiable "IceTreaty$Ship" (11 : Nat)) ∈ gw := gw_mem (tk_all (tk_5 (List.mem_of_getElem? (i := 85) (by decide +kernel)))) (by decide +kernel)
theorem gw_1094 : (Jvm.Cond.methodLink "IceTreatyLaw" (125 : Nat) ({ cls := "IceTreaty", name := "cover", desc := "(III)Z" } : Jvm.MethodName)) ∈ gw := gw_mem (tk_all (tk_5 (List.mem_of_getElem? (i := 134) (by decide +kernel)))) (by decide +kernel)
theorem gw_1095 : (Jvm.Cond.instanceMethod ({ cls := "IceTreaty", name := "cover", desc := "(III)Z" } : Jvm.MethodName)) ∈ gw := gw_mem (tk_all (tk_5 (List.mem_of_getElem? (i := 135) (by decide +kernel)))) (by decide +kernel)
theorem gw_1096 : (Jvm.Cond.selects "IceTreaty" ({ cls := "IceTreaty", name := "cover", desc := "(III)Z" } : Jvm.MethodName) ({ cls := "IceTreaty", name := "cover", desc := "(III)Z" } : Jvm.MethodName)) ∈ gw := gw_mem (tk_all (tk_5 (List.mem_of_getElem? (i := 136) (by decide +kernel)))) (by decide +kernel)
theorem gw_1097 : (Jvm.Cond.code ({ cls := "IceTreaty", name := "cover", desc := "(III)Z" } : Jvm.MethodName) prog_1_method_36_code (4 : Nat) (Option.some Jvm.ClassFile.FieldType.boolean)) ∈ gw := gw_mem (tk_all (tk_5 (List.mem_of_getElem? (i := 137) rfl))) (by decide +kernel)
theorem gw_1098 : (Jvm.Cond.methodLink "IceTreaty" (394 : Nat) ({ cls := "IceTreaty", name := "isSea", desc := "(I)Z" } : Jvm.MethodName)) ∈ gw := gw_mem (tk_all (tk_5 (List.mem_of_getElem? (i := 138) (by decide +kernel)))) (by decide +kernel)
theorem gw_1099 : (Jvm.Cond.static ({ cls := "IceTreaty", name := "isSea", desc := "(I)Z" } : Jvm.MethodName)) ∈ gw := gw_mem (tk_all (tk_5 (List.mem_of_getElem? (i := 139) (by decide +kernel)))) (by decide +kernel)
theorem gw_1100 : (Jvm.Cond.code ({ cls := "IceTreaty", name := "isSea", desc := "(I)Z" } : Jvm.MethodName) prog_1_method_109_code (1 : Nat) (Option.some Jvm.ClassFile.FieldType.boolean)) ∈ gw := gw_mem (tk_all (tk_5 (List.mem_of_getElem? (i := 140) rfl))) (by decide +kernel)
theorem gw_1101 : (Jvm.Cond.methodLink "IceTreatyLaw" (130 : Nat) ({ cls := "IceTreaty", name := "sea", desc := "(II)Z" } : Jvm.MethodName)) ∈ gw := gw_mem (tk_all (tk_5 (List.mem_of_getElem? (i := 141) (by decide +kernel)))) (by decide +kernel)
theorem gw_1102 : (Jvm.Cond.instanceMethod ({ cls := "IceTreaty", name := "sea", desc := "(II)Z" } : Jvm.MethodName)) ∈ gw := gw_mem (tk_all (tk_5 (List.mem_of_getElem? (i := 142) (by decide +kernel)))) (by decide +kernel)
theorem gw_1103 : (Jvm.Cond.selects "IceTreaty" ({ cls := "IceTreaty", name := "sea", desc := "(II)Z" } : Jvm.MethodName) ({ cls := "IceTreaty", name := "sea", desc := "(II)Z" } : Jvm.MethodName)) ∈ gw := gw_mem (tk_all (tk_5 (List.mem_of_getElem? (i := 143) (by decide +kernel)))) (by decide +kernel)
theorem gw_1104 : (Jvm.Cond.code ({ cls := "IceTreaty", name := "sea", desc := "(II)Z" } : Jvm.MethodName) prog_1_method_37_code (3 : Nat) (Option.some Jvm.ClassFile.FieldType.boolean)) ∈ gw := gw_mem (tk_all (tk_5 (List.mem_of_getElem? (i := 144) rfl))) (by decide +kernel)
theorem gw_1105 : (Jvm.Cond.methodLink "IceTreatyLaw" (134 : Nat) ({ cls := "IceTreaty", name := "voyage", desc := "(IIII)Z" } : Jvm.MethodName)) ∈ gw := gw_mem (tk_all (tk_5 (List.mem_of_getElem? (i := 145) (by decide +kernel)))) (by decide +kernel)
theorem gw_1106 : (Jvm.Cond.instanceMethod ({ cls := "IceTreaty", name := "voyage", desc := "(IIII)Z" } : Jvm.MethodName)) ∈ gw := gw_mem (tk_all (tk_5 (List.mem_of_getElem? (i := 146) (by decide +kernel)))) (by decide +kernel)
theorem gw_1107 : (Jvm.Cond.selects "IceTreaty" ({ cls := "IceTreaty", name := "voyage", desc := "(IIII)Z" } : Jvm.MethodName) ({ cls := "IceTreaty", name := "voyage", desc := "(IIII)Z" } : Jvm.MethodName)) ∈ gw := gw_mem (tk_all (tk_5 (List.mem_of_getElem? (i := 147) (by decide +kernel)))) (by decide +kernel)
theorem gw_1108 : (Jvm.Cond.code ({ cls := "IceTreaty", name := "voyage", desc := "(IIII)Z" } : Jvm.MethodName) prog_1_method_38_code (7 : Nat) (Option.some Jvm.ClassFile.FieldType.boolean)) ∈ gw := gw_mem (tk_all (tk_5 (List.mem_of_getElem? (i := 148) rfl))) (by decide +kernel)
theorem gw_1109 : (Jvm.Cond.methodLink "IceTreaty" (403 : Nat) ({ cls := "IceTreaty", name := "shipOf", desc := "(I)LIceTreaty$Ship;" } : Jvm.MethodName)) ∈ gw := gw_mem (tk_all (tk_5 (List.mem_of_getElem? (i := 149) (by decide +kernel)))) (by decide +kernel)
theorem gw_1111 : (Jvm.Cond.instanceMethod ({ cls := "IceTreaty", name := "shipOf", desc := "(I)LIceTreaty$Ship;" } : Jvm.MethodName)) ∈ gw := gw_mem (tk_all (tk_5 (List.mem_of_getElem? (i := 151) (by decide +kernel)))) (by decide +kernel)
theorem gw_1112 : (Jvm.Cond.code ({ cls := "IceTreaty", name := "shipOf", desc := "(I)LIceTreaty$Ship;" } : Jvm.MethodName) prog_1_method_102_code (2 : Nat) (Option.some (Jvm.ClassFile.FieldType.object "IceTreaty$Ship"))) ∈ gw := gw_mem (tk_all (tk_5 (List.mem_of_getElem? (i := 152) rfl))) (by decide +kernel)
theorem gw_1129 : (Jvm.Cond.methodLink "IceTreatyLaw" (139 : Nat) ({ cls := "IceTreaty", name := "sledge", desc := "(III)I" } : Jvm.MethodName)) ∈ gw := gw_mem (tk_all (tk_5 (List.mem_of_getElem? (i := 169) (by decide +kernel)))) (by decide +kernel)
theorem gw_1130 : (Jvm.Cond.instanceMethod ({ cls := "IceTreaty", name := "sledge", desc := "(III)I" } : Jvm.MethodName)) ∈ gw := gw_mem (tk_all (tk_5 (List.mem_of_getElem? (i := 170) (by decide +kernel)))) (by decide +kernel)
theorem gw_1131 : (Jvm.Cond.selects "IceTreaty" ({ cls := "IceTreaty", name := "sledge", desc := "(III)I" } : Jvm.MethodName) ({ cls := "IceTreaty", name := "sledge", desc := "(III)I" } : Jvm.MethodName)) ∈ gw := gw_mem (tk_all (tk_5 (List.mem_of_getElem? (i := 171) (by decide +kernel)))) (by decide +kernel)
theorem gw_1132 : (Jvm.Cond.code ({ cls := "IceTreaty", name := "sledge", desc := "(III)I" } : Jvm.MethodName) prog_1_method_39_code (8 : Nat) (Option.some Jvm.ClassFile.FieldType.int)) ∈ gw := gw_mem (tk_all (tk_5 (List.mem_of_getElem? (i := 172) rfl))) (by decide +kernel)
theorem gw_1147 : (Jvm.Cond.methodLink "IceTreatyLaw" (143 : Nat) ({ cls := "IceTreaty", name := "people", desc := "(II)Z" } : Jvm.MethodName)) ∈ gw := gw_mem (tk_all (tk_5 (List.mem_of_getElem? (i := 187) (by decide +kernel)))) (by decide +kernel)
theorem gw_1148 : (Jvm.Cond.instanceMethod ({ cls := "IceTreaty", name := "people", desc := "(II)Z" } : Jvm.MethodName)) ∈ gw := gw_mem (tk_all (tk_5 (List.mem_of_getElem? (i := 188) (by decide +kernel)))) (by decide +kernel)
theorem gw_1149 : (Jvm.Cond.selects "IceTreaty" ({ cls := "IceTreaty", name := "people", desc := "(II)Z" } : Jvm.MethodName) ({ cls := "IceTreaty", name := "people", desc := "(II)Z" } : Jvm.MethodName)) ∈ gw := gw_mem (tk_all (tk_5 (List.mem_of_getElem? (i := 189) (by decide +kernel)))) (by decide +kernel)
theorem gw_1150 : (Jvm.Cond.code ({ cls := "IceTreaty", name := "people", desc := "(II)Z" } : Jvm.MethodName) prog_1_method_40_code (4 : Nat) (Option.some Jvm.ClassFile.FieldType.boolean)) ∈ gw := gw_mem (tk_all (tk_5 (List.mem_of_getElem? (i := 190) rfl))) (by decide +kernel)
theorem gw_1151 : (Jvm.Cond.methodLink "IceTreatyLaw" (147 : Nat) ({ cls := "IceTreaty", name := "hide", desc := "(II)Z" } : Jvm.MethodName)) ∈ gw := gw_mem (tk_all (tk_5 (List.mem_of_getElem? (i := 191) (by decide +kernel)))) (by decide +kernel)
theorem gw_1152 : (Jvm.Cond.instanceMethod ({ cls := "IceTreaty", name := "hide", desc := "(II)Z" } : Jvm.MethodName)) ∈ gw := gw_mem (tk_all (tk_5 (List.mem_of_getElem? (i := 192) (by decide +kernel)))) (by decide +kernel)
theorem gw_1153 : (Jvm.Cond.selects "IceTreaty" ({ cls := "IceTreaty", name := "hide", desc := "(II)Z" } : Jvm.MethodName) ({ cls := "IceTreaty", name := "hide", desc := "(II)Z" } : Jvm.MethodName)) ∈ gw := gw_mem (tk_all (tk_5 (List.mem_of_getElem? (i := 193) (by decide +kernel)))) (by decide +kernel)
theorem gw_1154 : (Jvm.Cond.code ({ cls := "IceTreaty", name := "hide", desc := "(II)Z" } : Jvm.MethodName) prog_1_method_41_code (4 : Nat) (Option.some Jvm.ClassFile.FieldType.boolean)) ∈ gw := gw_mem (tk_all (tk_5 (List.mem_of_getElem? (i := 194) rfl))) (by decide +kernel)
theorem gw_1155 : (Jvm.Cond.methodLink "IceTreatyLaw" (151 : Nat) ({ cls := "IceTreaty", name := "declare", desc := "(III)Z" } : Jvm.MethodName)) ∈ gw := gw_mem (tk_all (tk_5 (List.mem_of_getElem? (i := 195) (by decide +kernel)))) (by decide +kernel)
theorem gw_1156 : (Jvm.Cond.instanceMethod ({ cls := "IceTreaty", name := "declare", desc := "(III)Z" } : Jvm.MethodName)) ∈ gw := gw_mem (tk_all (tk_5 (List.mem_of_getElem? (i := 196) (by decide +kernel)))) (by decide +kernel)
theorem gw_1157 : (Jvm.Cond.selects "IceTreaty" ({ cls := "IceTreaty", name := "declare", desc := "(III)Z" } : Jvm.MethodName) ({ cls := "IceTreaty", name := "declare", desc := "(III)Z" } : Jvm.MethodName)) ∈ gw := gw_mem (tk_all (tk_5 (List.mem_of_getElem? (i := 197) (by decide +kernel)))) (by decide +kernel)
theorem gw_1158 : (Jvm.Cond.code ({ cls := "IceTreaty", name := "declare", desc := "(III)Z" } : Jvm.MethodName) prog_1_method_42_code (5 : Nat) (Option.some Jvm.ClassFile.FieldType.boolean)) ∈ gw := gw_mem (tk_all (tk_5 (List.mem_of_getElem? (i := 198) rfl))) (by decide +kernel)
theorem gw_1160 : (Jvm.Cond.methodLink "IceTreatyLaw" (155 : Nat) ({ cls := "IceTreaty", name := "visit", desc := "(II)I" } : Jvm.MethodName)) ∈ gw := gw_mem (tk_all (tk_5 (List.mem_of_getElem? (i := 200) (by decide +kernel)))) (by decide +kernel)
theorem gw_1161 : (Jvm.Cond.instanceMethod ({ cls := "IceTreaty", name := "visit", desc := "(II)I" } : Jvm.MethodName)) ∈ gw := gw_mem (tk_all (tk_5 (List.mem_of_getElem? (i := 201) (by decide +kernel)))) (by decide +kernel)
theorem gw_1162 : (Jvm.Cond.selects "IceTreaty" ({ cls := "IceTreaty", name := "visit", desc := "(II)I" } : Jvm.MethodName) ({ cls := "IceTreaty", name := "visit", desc := "(II)I" } : Jvm.MethodName)) ∈ gw := gw_mem (tk_all (tk_5 (List.mem_of_getElem? (i := 202) (by decide +kernel)))) (by decide +kernel)
theorem gw_1163 : (Jvm.Cond.code ({ cls := "IceTreaty", name := "visit", desc := "(II)I" } : Jvm.MethodName) prog_1_method_43_code (6 : Nat) (Option.some Jvm.ClassFile.FieldType.int)) ∈ gw := gw_mem (tk_all (tk_5 (List.mem_of_getElem? (i := 203) rfl))) (by decide +kernel)
theorem gw_1164 : (Jvm.Cond.methodLink "IceTreatyLaw" (159 : Nat) ({ cls := "IceTreaty", name := "seen", desc := "(II)I" } : Jvm.MethodName)) ∈ gw := gw_mem (tk_all (tk_5 (List.mem_of_getElem? (i := 204) (by decide +kernel)))) (by decide +kernel)
theorem gw_1165 : (Jvm.Cond.instanceMethod ({ cls := "IceTreaty", name := "seen", desc := "(II)I" } : Jvm.MethodName)) ∈ gw := gw_mem (tk_all (tk_5 (List.mem_of_getElem? (i := 205) (by decide +kernel)))) (by decide +kernel)
theorem gw_1166 : (Jvm.Cond.selects "IceTreaty" ({ cls := "IceTreaty", name := "seen", desc := "(II)I" } : Jvm.MethodName) ({ cls := "IceTreaty", name := "seen", desc := "(II)I" } : Jvm.MethodName)) ∈ gw := gw_mem (tk_all (tk_5 (List.mem_of_getElem? (i := 206) (by decide +kernel)))) (by decide +kernel)
theorem gw_1167 : (Jvm.Cond.code ({ cls := "IceTreaty", name := "seen", desc := "(II)I" } : Jvm.MethodName) prog_1_method_44_code (3 : Nat) (Option.some Jvm.ClassFile.FieldType.int)) ∈ gw := gw_mem (tk_all (tk_5 (List.mem_of_getElem? (i := 207) rfl))) (by decide +kernel)
theorem gw_1168 : (Jvm.Cond.methodLink "IceTreaty" (431 : Nat) ({ cls := "IceTreaty$Table", name := "has", desc := "(I)Z" } : Jvm.MethodName)) ∈ gw := gw_mem (tk_all (tk_5 (List.mem_of_getElem? (i := 208) (by decide +kernel)))) (by decide +kernel)
theorem gw_1169 : (Jvm.Cond.constant "IceTreaty" (434 : Nat) (-1000000 : Int32)) ∈ gw := gw_mem (tk_all (tk_5 (List.mem_of_getElem? (i := 209) (by decide +kernel)))) (by decide +kernel)
theorem gw_1171 : (Jvm.Cond.methodLink "IceTreatyLaw" (163 : Nat) ({ cls := "IceTreaty", name := "day", desc := "()I" } : Jvm.MethodName)) ∈ gw := gw_mem (tk_all (tk_5 (List.mem_of_getElem? (i := 211) (by decide +kernel)))) (by decide +kernel)
theorem gw_1172 : (Jvm.Cond.instanceMethod ({ cls := "IceTreaty", name := "day", desc := "()I" } : Jvm.MethodName)) ∈ gw := gw_mem (tk_all (tk_5 (List.mem_of_getElem? (i := 212) (by decide +kernel)))) (by decide +kernel)
theorem gw_1173 : (Jvm.Cond.selects "IceTreaty" ({ cls := "IceTreaty", name := "day", desc := "()I" } : Jvm.MethodName) ({ cls := "IceTreaty", name := "day", desc := "()I" } : Jvm.MethodName)) ∈ gw := gw_mem (tk_all (tk_5 (List.mem_of_getElem? (i := 213) (by decide +kernel)))) (by decide +kernel)
theorem gw_1174 : (Jvm.Cond.code ({ cls := "IceTreaty", name := "day", desc := "()I" } : Jvm.MethodName) prog_1_method_45_code (2 : Nat) (Option.some Jvm.ClassFile.FieldType.int)) ∈ gw := gw_mem (tk_all (tk_5 (List.mem_of_getElem? (i := 214) rfl))) (by decide +kernel)
theorem gw_1175 : (Jvm.Cond.methodLink "IceTreaty" (435 : Nat) ({ cls := "IceTreaty$Season", name := "forget", desc := "()V" } : Jvm.MethodName)) ∈ gw := gw_mem (tk_all (tk_5 (List.mem_of_getElem? (i := 215) (by decide +kernel)))) (by decide +kernel)
theorem gw_1176 : (Jvm.Cond.instanceMethod ({ cls := "IceTreaty$Season", name := "forget", desc := "()V" } : Jvm.MethodName)) ∈ gw := gw_mem (tk_all (tk_5 (List.mem_of_getElem? (i := 216) (by decide +kernel)))) (by decide +kernel)
theorem gw_1177 : (Jvm.Cond.selects "IceTreaty$Season" ({ cls := "IceTreaty$Season", name := "forget", desc := "()V" } : Jvm.MethodName) ({ cls := "IceTreaty$Season", name := "forget", desc := "()V" } : Jvm.MethodName)) ∈ gw := gw_mem (tk_all (tk_5 (List.mem_of_getElem? (i := 217) (by decide +kernel)))) (by decide +kernel)
theorem gw_1178 : (Jvm.Cond.code ({ cls := "IceTreaty$Season", name := "forget", desc := "()V" } : Jvm.MethodName) prog_8_method_2_code (1 : Nat) (Option.none : Option Jvm.ClassFile.FieldType)) ∈ gw := gw_mem (tk_all (tk_5 (List.mem_of_getElem? (i := 218) rfl))) (by decide +kernel)
theorem gw_1205 : (Jvm.Cond.methodLink "IceTreaty" (439 : Nat) ({ cls := "IceTreaty", name := "admitParties", desc := "()V" } : Jvm.MethodName)) ∈ gw := gw_mem (tk_all (tk_6 (List.mem_of_getElem? (i := 5) (by decide +kernel)))) (by decide +kernel)
theorem gw_1207 : (Jvm.Cond.instanceMethod ({ cls := "IceTreaty", name := "admitParties", desc := "()V" } : Jvm.MethodName)) ∈ gw := gw_mem (tk_all (tk_6 (List.mem_of_getElem? (i := 7) (by decide +kernel)))) (by decide +kernel)
theorem gw_1208 : (Jvm.Cond.code ({ cls := "IceTreaty", name := "admitParties", desc := "()V" } : Jvm.MethodName) prog_1_method_49_code (4 : Nat) (Option.none : Option Jvm.ClassFile.FieldType)) ∈ gw := gw_mem (tk_all (tk_6 (List.mem_of_getElem? (i := 8) rfl))) (by decide +kernel)
theorem gw_1266 : (Jvm.Cond.methodLink "IceTreatyLaw" (168 : Nat) ({ cls := "IceTreaty", name := "sound", desc := "(III)Z" } : Jvm.MethodName)) ∈ gw := gw_mem (tk_all (tk_6 (List.mem_of_getElem? (i := 66) (by decide +kernel)))) (by decide +kernel)
theorem gw_1267 : (Jvm.Cond.instanceMethod ({ cls := "IceTreaty", name := "sound", desc := "(III)Z" } : Jvm.MethodName)) ∈ gw := gw_mem (tk_all (tk_6 (List.mem_of_getElem? (i := 67) (by decide +kernel)))) (by decide +kernel)
theorem gw_1268 : (Jvm.Cond.selects "IceTreaty" ({ cls := "IceTreaty", name := "sound", desc := "(III)Z" } : Jvm.MethodName) ({ cls := "IceTreaty", name := "sound", desc := "(III)Z" } : Jvm.MethodName)) ∈ gw := gw_mem (tk_all (tk_6 (List.mem_of_getElem? (i := 68) (by decide +kernel)))) (by decide +kernel)
theorem gw_1269 : (Jvm.Cond.code ({ cls := "IceTreaty", name := "sound", desc := "(III)Z" } : Jvm.MethodName) prog_1_method_61_code (5 : Nat) (Option.some Jvm.ClassFile.FieldType.boolean)) ∈ gw := gw_mem (tk_all (tk_6 (List.mem_of_getElem? (i := 69) rfl))) (by decide +kernel)
theorem gw_1275 : (Jvm.Cond.methodLink "IceTreatyLaw" (172 : Nat) ({ cls := "IceTreaty", name := "sure", desc := "(I)I" } : Jvm.MethodName)) ∈ gw := gw_mem (tk_all (tk_6 (List.mem_of_getElem? (i := 75) (by decide +kernel)))) (by decide +kernel)
theorem gw_1276 : (Jvm.Cond.instanceMethod ({ cls := "IceTreaty", name := "sure", desc := "(I)I" } : Jvm.MethodName)) ∈ gw := gw_mem (tk_all (tk_6 (List.mem_of_getElem? (i := 76) (by decide +kernel)))) (by decide +kernel)
theorem gw_1277 : (Jvm.Cond.selects "IceTreaty" ({ cls := "IceTreaty", name := "sure", desc := "(I)I" } : Jvm.MethodName) ({ cls := "IceTreaty", name := "sure", desc := "(I)I" } : Jvm.MethodName)) ∈ gw := gw_mem (tk_all (tk_6 (List.mem_of_getElem? (i := 77) (by decide +kernel)))) (by decide +kernel)
theorem gw_1278 : (Jvm.Cond.code ({ cls := "IceTreaty", name := "sure", desc := "(I)I" } : Jvm.MethodName) prog_1_method_62_code (3 : Nat) (Option.some Jvm.ClassFile.FieldType.int)) ∈ gw := gw_mem (tk_all (tk_6 (List.mem_of_getElem? (i := 78) rfl))) (by decide +kernel)
theorem gw_1279 : (Jvm.Cond.methodLink "IceTreatyLaw" (177 : Nat) ({ cls := "IceTreaty", name := "drill", desc := "(II)I" } : Jvm.MethodName)) ∈ gw := gw_mem (tk_all (tk_6 (List.mem_of_getElem? (i := 79) (by decide +kernel)))) (by decide +kernel)
theorem gw_1280 : (Jvm.Cond.instanceMethod ({ cls := "IceTreaty", name := "drill", desc := "(II)I" } : Jvm.MethodName)) ∈ gw := gw_mem (tk_all (tk_6 (List.mem_of_getElem? (i := 80) (by decide +kernel)))) (by decide +kernel)
theorem gw_1281 : (Jvm.Cond.selects "IceTreaty" ({ cls := "IceTreaty", name := "drill", desc := "(II)I" } : Jvm.MethodName) ({ cls := "IceTreaty", name := "drill", desc := "(II)I" } : Jvm.MethodName)) ∈ gw := gw_mem (tk_all (tk_6 (List.mem_of_getElem? (i := 81) (by decide +kernel)))) (by decide +kernel)
theorem gw_1282 : (Jvm.Cond.code ({ cls := "IceTreaty", name := "drill", desc := "(II)I" } : Jvm.MethodName) prog_1_method_63_code (5 : Nat) (Option.some Jvm.ClassFile.FieldType.int)) ∈ gw := gw_mem (tk_all (tk_6 (List.mem_of_getElem? (i := 82) rfl))) (by decide +kernel)
theorem gw_1283 : (Jvm.Cond.methodLink "IceTreatyLaw" (181 : Nat) ({ cls := "IceTreaty", name := "speed", desc := "(II)Z" } : Jvm.MethodName)) ∈ gw := gw_mem (tk_all (tk_6 (List.mem_of_getElem? (i := 83) (by decide +kernel)))) (by decide +kernel)
theorem gw_1284 : (Jvm.Cond.instanceMethod ({ cls := "IceTreaty", name := "speed", desc := "(II)Z" } : Jvm.MethodName)) ∈ gw := gw_mem (tk_all (tk_6 (List.mem_of_getElem? (i := 84) (by decide +kernel)))) (by decide +kernel)
theorem gw_1285 : (Jvm.Cond.selects "IceTreaty" ({ cls := "IceTreaty", name := "speed", desc := "(II)Z" } : Jvm.MethodName) ({ cls := "IceTreaty", name := "speed", desc := "(II)Z" } : Jvm.MethodName)) ∈ gw := gw_mem (tk_all (tk_6 (List.mem_of_getElem? (i := 85) (by decide +kernel)))) (by decide +kernel)
theorem gw_1286 : (Jvm.Cond.code ({ cls := "IceTreaty", name := "speed", desc := "(II)Z" } : Jvm.MethodName) prog_1_method_64_code (3 : Nat) (Option.some Jvm.ClassFile.FieldType.boolean)) ∈ gw := gw_mem (tk_all (tk_6 (List.mem_of_getElem? (i := 86) rfl))) (by decide +kernel)
theorem gw_1287 : (Jvm.Cond.methodLink "IceTreatyLaw" (185 : Nat) ({ cls := "IceTreaty", name := "birds", desc := "(III)Z" } : Jvm.MethodName)) ∈ gw := gw_mem (tk_all (tk_6 (List.mem_of_getElem? (i := 87) (by decide +kernel)))) (by decide +kernel)
theorem gw_1288 : (Jvm.Cond.instanceMethod ({ cls := "IceTreaty", name := "birds", desc := "(III)Z" } : Jvm.MethodName)) ∈ gw := gw_mem (tk_all (tk_6 (List.mem_of_getElem? (i := 88) (by decide +kernel)))) (by decide +kernel)
theorem gw_1289 : (Jvm.Cond.selects "IceTreaty" ({ cls := "IceTreaty", name := "birds", desc := "(III)Z" } : Jvm.MethodName) ({ cls := "IceTreaty", name := "birds", desc := "(III)Z" } : Jvm.MethodName)) ∈ gw := gw_mem (tk_all (tk_6 (List.mem_of_getElem? (i := 89) (by decide +kernel)))) (by decide +kernel)
theorem gw_1290 : (Jvm.Cond.code ({ cls := "IceTreaty", name := "birds", desc := "(III)Z" } : Jvm.MethodName) prog_1_method_65_code (5 : Nat) (Option.some Jvm.ClassFile.FieldType.boolean)) ∈ gw := gw_mem (tk_all (tk_6 (List.mem_of_getElem? (i := 90) rfl))) (by decide +kernel)
theorem gw_1294 : (Jvm.Cond.methodLink "IceTreatyLaw" (189 : Nat) ({ cls := "IceTreaty", name := "loss", desc := "(IIIII)I" } : Jvm.MethodName)) ∈ gw := gw_mem (tk_all (tk_6 (List.mem_of_getElem? (i := 94) (by decide +kernel)))) (by decide +kernel)
theorem gw_1295 : (Jvm.Cond.instanceMethod ({ cls := "IceTreaty", name := "loss", desc := "(IIIII)I" } : Jvm.MethodName)) ∈ gw := gw_mem (tk_all (tk_6 (List.mem_of_getElem? (i := 95) (by decide +kernel)))) (by decide +kernel)
theorem gw_1296 : (Jvm.Cond.selects "IceTreaty" ({ cls := "IceTreaty", name := "loss", desc := "(IIIII)I" } : Jvm.MethodName) ({ cls := "IceTreaty", name := "loss", desc := "(IIIII)I" } : Jvm.MethodName)) ∈ gw := gw_mem (tk_all (tk_6 (List.mem_of_getElem? (i := 96) (by decide +kernel)))) (by decide +kernel)
theorem gw_1297 : (Jvm.Cond.code ({ cls := "IceTreaty", name := "loss", desc := "(IIIII)I" } : Jvm.MethodName) prog_1_method_66_code (10 : Nat) (Option.some Jvm.ClassFile.FieldType.int)) ∈ gw := gw_mem (tk_all (tk_6 (List.mem_of_getElem? (i := 97) rfl))) (by decide +kernel)
theorem gw_1298 : (Jvm.Cond.methodLink "IceTreatyLaw" (193 : Nat) ({ cls := "IceTreaty", name := "noise", desc := "(II)I" } : Jvm.MethodName)) ∈ gw := gw_mem (tk_all (tk_6 (List.mem_of_getElem? (i := 98) (by decide +kernel)))) (by decide +kernel)
theorem gw_1299 : (Jvm.Cond.instanceMethod ({ cls := "IceTreaty", name := "noise", desc := "(II)I" } : Jvm.MethodName)) ∈ gw := gw_mem (tk_all (tk_6 (List.mem_of_getElem? (i := 99) (by decide +kernel)))) (by decide +kernel)
theorem gw_1300 : (Jvm.Cond.selects "IceTreaty" ({ cls := "IceTreaty", name := "noise", desc := "(II)I" } : Jvm.MethodName) ({ cls := "IceTreaty", name := "noise", desc := "(II)I" } : Jvm.MethodName)) ∈ gw := gw_mem (tk_all (tk_6 (List.mem_of_getElem? (i := 100) (by decide +kernel)))) (by decide +kernel)
theorem gw_1301 : (Jvm.Cond.code ({ cls := "IceTreaty", name := "noise", desc := "(II)I" } : Jvm.MethodName) prog_1_method_67_code (4 : Nat) (Option.some Jvm.ClassFile.FieldType.int)) ∈ gw := gw_mem (tk_all (tk_6 (List.mem_of_getElem? (i := 101) rfl))) (by decide +kernel)
theorem gw_1302 : (Jvm.Cond.methodLink "IceTreatyLaw" (197 : Nat) ({ cls := "IceTreaty", name := "caught", desc := "(IIIII)I" } : Jvm.MethodName)) ∈ gw := gw_mem (tk_all (tk_6 (List.mem_of_getElem? (i := 102) (by decide +kernel)))) (by decide +kernel)
theorem gw_1303 : (Jvm.Cond.instanceMethod ({ cls := "IceTreaty", name := "caught", desc := "(IIIII)I" } : Jvm.MethodName)) ∈ gw := gw_mem (tk_all (tk_6 (List.mem_of_getElem? (i := 103) (by decide +kernel)))) (by decide +kernel)
theorem gw_1304 : (Jvm.Cond.selects "IceTreaty" ({ cls := "IceTreaty", name := "caught", desc := "(IIIII)I" } : Jvm.MethodName) ({ cls := "IceTreaty", name := "caught", desc := "(IIIII)I" } : Jvm.MethodName)) ∈ gw := gw_mem (tk_all (tk_6 (List.mem_of_getElem? (i := 104) (by decide +kernel)))) (by decide +kernel)
theorem gw_1305 : (Jvm.Cond.code ({ cls := "IceTreaty", name := "caught", desc := "(IIIII)I" } : Jvm.MethodName) prog_1_method_68_code (6 : Nat) (Option.some Jvm.ClassFile.FieldType.int)) ∈ gw := gw_mem (tk_all (tk_6 (List.mem_of_getElem? (i := 105) rfl))) (by decide +kernel)
theorem gw_1306 : (Jvm.Cond.methodLink "IceTreatyLaw" (201 : Nat) ({ cls := "IceTreaty", name := "over", desc := "()I" } : Jvm.MethodName)) ∈ gw := gw_mem (tk_all (tk_6 (List.mem_of_getElem? (i := 106) (by decide +kernel)))) (by decide +kernel)
theorem gw_1307 : (Jvm.Cond.instanceMethod ({ cls := "IceTreaty", name := "over", desc := "()I" } : Jvm.MethodName)) ∈ gw := gw_mem (tk_all (tk_6 (List.mem_of_getElem? (i := 107) (by decide +kernel)))) (by decide +kernel)
theorem gw_1308 : (Jvm.Cond.selects "IceTreaty" ({ cls := "IceTreaty", name := "over", desc := "()I" } : Jvm.MethodName) ({ cls := "IceTreaty", name := "over", desc := "()I" } : Jvm.MethodName)) ∈ gw := gw_mem (tk_all (tk_6 (List.mem_of_getElem? (i := 108) (by decide +kernel)))) (by decide +kernel)
theorem gw_1309 : (Jvm.Cond.code ({ cls := "IceTreaty", name := "over", desc := "()I" } : Jvm.MethodName) prog_1_method_69_code (4 : Nat) (Option.some Jvm.ClassFile.FieldType.int)) ∈ gw := gw_mem (tk_all (tk_6 (List.mem_of_getElem? (i := 109) rfl))) (by decide +kernel)
theorem gw_1318 : (Jvm.Cond.methodLink "IceTreatyLaw" (205 : Nat) ({ cls := "IceTreaty", name := "doubt", desc := "(I)I" } : Jvm.MethodName)) ∈ gw := gw_mem (tk_all (tk_6 (List.mem_of_getElem? (i := 118) (by decide +kernel)))) (by decide +kernel)
theorem gw_1319 : (Jvm.Cond.instanceMethod ({ cls := "IceTreaty", name := "doubt", desc := "(I)I" } : Jvm.MethodName)) ∈ gw := gw_mem (tk_all (tk_6 (List.mem_of_getElem? (i := 119) (by decide +kernel)))) (by decide +kernel)
theorem gw_1320 : (Jvm.Cond.selects "IceTreaty" ({ cls := "IceTreaty", name := "doubt", desc := "(I)I" } : Jvm.MethodName) ({ cls := "IceTreaty", name := "doubt", desc := "(I)I" } : Jvm.MethodName)) ∈ gw := gw_mem (tk_all (tk_6 (List.mem_of_getElem? (i := 120) (by decide +kernel)))) (by decide +kernel)
theorem gw_1321 : (Jvm.Cond.code ({ cls := "IceTreaty", name := "doubt", desc := "(I)I" } : Jvm.MethodName) prog_1_method_72_code (4 : Nat) (Option.some Jvm.ClassFile.FieldType.int)) ∈ gw := gw_mem (tk_all (tk_6 (List.mem_of_getElem? (i := 121) rfl))) (by decide +kernel)
theorem gw_1327 : (Jvm.Cond.methodLink "IceTreatyLaw" (209 : Nat) ({ cls := "IceTreaty", name := "word", desc := "(I)I" } : Jvm.MethodName)) ∈ gw := gw_mem (tk_all (tk_6 (List.mem_of_getElem? (i := 127) (by decide +kernel)))) (by decide +kernel)
theorem gw_1328 : (Jvm.Cond.instanceMethod ({ cls := "IceTreaty", name := "word", desc := "(I)I" } : Jvm.MethodName)) ∈ gw := gw_mem (tk_all (tk_6 (List.mem_of_getElem? (i := 128) (by decide +kernel)))) (by decide +kernel)
theorem gw_1329 : (Jvm.Cond.selects "IceTreaty" ({ cls := "IceTreaty", name := "word", desc := "(I)I" } : Jvm.MethodName) ({ cls := "IceTreaty", name := "word", desc := "(I)I" } : Jvm.MethodName)) ∈ gw := gw_mem (tk_all (tk_6 (List.mem_of_getElem? (i := 129) (by decide +kernel)))) (by decide +kernel)
theorem gw_1330 : (Jvm.Cond.code ({ cls := "IceTreaty", name := "word", desc := "(I)I" } : Jvm.MethodName) prog_1_method_74_code (2 : Nat) (Option.some Jvm.ClassFile.FieldType.int)) ∈ gw := gw_mem (tk_all (tk_6 (List.mem_of_getElem? (i := 130) rfl))) (by decide +kernel)
theorem gw_1331 : (Jvm.Cond.methodLink "IceTreatyLaw" (213 : Nat) ({ cls := "IceTreaty", name := "asks", desc := "(III)Z" } : Jvm.MethodName)) ∈ gw := gw_mem (tk_all (tk_6 (List.mem_of_getElem? (i := 131) (by decide +kernel)))) (by decide +kernel)
theorem gw_1332 : (Jvm.Cond.instanceMethod ({ cls := "IceTreaty", name := "asks", desc := "(III)Z" } : Jvm.MethodName)) ∈ gw := gw_mem (tk_all (tk_6 (List.mem_of_getElem? (i := 132) (by decide +kernel)))) (by decide +kernel)
theorem gw_1333 : (Jvm.Cond.selects "IceTreaty" ({ cls := "IceTreaty", name := "asks", desc := "(III)Z" } : Jvm.MethodName) ({ cls := "IceTreaty", name := "asks", desc := "(III)Z" } : Jvm.MethodName)) ∈ gw := gw_mem (tk_all (tk_6 (List.mem_of_getElem? (i := 133) (by decide +kernel)))) (by decide +kernel)
theorem gw_1334 : (Jvm.Cond.code ({ cls := "IceTreaty", name := "asks", desc := "(III)Z" } : Jvm.MethodName) prog_1_method_75_code (7 : Nat) (Option.some Jvm.ClassFile.FieldType.boolean)) ∈ gw := gw_mem (tk_all (tk_6 (List.mem_of_getElem? (i := 134) rfl))) (by decide +kernel)
theorem gw_1335 : (Jvm.Cond.methodLink "IceTreatyLaw" (217 : Nat) ({ cls := "IceTreaty", name := "blocks", desc := "(I)I" } : Jvm.MethodName)) ∈ gw := gw_mem (tk_all (tk_6 (List.mem_of_getElem? (i := 135) (by decide +kernel)))) (by decide +kernel)
theorem gw_1336 : (Jvm.Cond.instanceMethod ({ cls := "IceTreaty", name := "blocks", desc := "(I)I" } : Jvm.MethodName)) ∈ gw := gw_mem (tk_all (tk_6 (List.mem_of_getElem? (i := 136) (by decide +kernel)))) (by decide +kernel)
theorem gw_1337 : (Jvm.Cond.selects "IceTreaty" ({ cls := "IceTreaty", name := "blocks", desc := "(I)I" } : Jvm.MethodName) ({ cls := "IceTreaty", name := "blocks", desc := "(I)I" } : Jvm.MethodName)) ∈ gw := gw_mem (tk_all (tk_6 (List.mem_of_getElem? (i := 137) (by decide +kernel)))) (by decide +kernel)
theorem gw_1338 : (Jvm.Cond.code ({ cls := "IceTreaty", name := "blocks", desc := "(I)I" } : Jvm.MethodName) prog_1_method_76_code (2 : Nat) (Option.some Jvm.ClassFile.FieldType.int)) ∈ gw := gw_mem (tk_all (tk_6 (List.mem_of_getElem? (i := 138) rfl))) (by decide +kernel)
theorem gw_1339 : (Jvm.Cond.methodLink "IceTreaty" (581 : Nat) ({ cls := "IceTreaty", name := "blockers", desc := "(I)I" } : Jvm.MethodName)) ∈ gw := gw_mem (tk_all (tk_6 (List.mem_of_getElem? (i := 139) (by decide +kernel)))) (by decide +kernel)
theorem gw_1341 : (Jvm.Cond.instanceMethod ({ cls := "IceTreaty", name := "blockers", desc := "(I)I" } : Jvm.MethodName)) ∈ gw := gw_mem (tk_all (tk_6 (List.mem_of_getElem? (i := 141) (by decide +kernel)))) (by decide +kernel)
theorem gw_1342 : (Jvm.Cond.code ({ cls := "IceTreaty", name := "blockers", desc := "(I)I" } : Jvm.MethodName) prog_1_method_78_code (5 : Nat) (Option.some Jvm.ClassFile.FieldType.int)) ∈ gw := gw_mem (tk_all (tk_6 (List.mem_of_getElem? (i := 142) rfl))) (by decide +kernel)
theorem gw_1348 : (Jvm.Cond.methodLink "IceTreatyLaw" (221 : Nat) ({ cls := "IceTreaty", name := "best", desc := "()I" } : Jvm.MethodName)) ∈ gw := gw_mem (tk_all (tk_6 (List.mem_of_getElem? (i := 148) (by decide +kernel)))) (by decide +kernel)
theorem gw_1349 : (Jvm.Cond.instanceMethod ({ cls := "IceTreaty", name := "best", desc := "()I" } : Jvm.MethodName)) ∈ gw := gw_mem (tk_all (tk_6 (List.mem_of_getElem? (i := 149) (by decide +kernel)))) (by decide +kernel)
theorem gw_1350 : (Jvm.Cond.selects "IceTreaty" ({ cls := "IceTreaty", name := "best", desc := "()I" } : Jvm.MethodName) ({ cls := "IceTreaty", name := "best", desc := "()I" } : Jvm.MethodName)) ∈ gw := gw_mem (tk_all (tk_6 (List.mem_of_getElem? (i := 150) (by decide +kernel)))) (by decide +kernel)
theorem gw_1351 : (Jvm.Cond.code ({ cls := "IceTreaty", name := "best", desc := "()I" } : Jvm.MethodName) prog_1_method_77_code (7 : Nat) (Option.some Jvm.ClassFile.FieldType.int)) ∈ gw := gw_mem (tk_all (tk_6 (List.mem_of_getElem? (i := 151) rfl))) (by decide +kernel)
theorem gw_1356 : (Jvm.Cond.methodLink "IceTreatyLaw" (225 : Nat) ({ cls := "IceTreaty", name := "stop", desc := "(II)I" } : Jvm.MethodName)) ∈ gw := gw_mem (tk_all (tk_6 (List.mem_of_getElem? (i := 156) (by decide +kernel)))) (by decide +kernel)
theorem gw_1357 : (Jvm.Cond.instanceMethod ({ cls := "IceTreaty", name := "stop", desc := "(II)I" } : Jvm.MethodName)) ∈ gw := gw_mem (tk_all (tk_6 (List.mem_of_getElem? (i := 157) (by decide +kernel)))) (by decide +kernel)
theorem gw_1358 : (Jvm.Cond.selects "IceTreaty" ({ cls := "IceTreaty", name := "stop", desc := "(II)I" } : Jvm.MethodName) ({ cls := "IceTreaty", name := "stop", desc := "(II)I" } : Jvm.MethodName)) ∈ gw := gw_mem (tk_all (tk_6 (List.mem_of_getElem? (i := 158) (by decide +kernel)))) (by decide +kernel)
theorem gw_1359 : (Jvm.Cond.code ({ cls := "IceTreaty", name := "stop", desc := "(II)I" } : Jvm.MethodName) prog_1_method_80_code (3 : Nat) (Option.some Jvm.ClassFile.FieldType.int)) ∈ gw := gw_mem (tk_all (tk_6 (List.mem_of_getElem? (i := 159) rfl))) (by decide +kernel)
theorem gw_1365 : (Jvm.Cond.methodLink "IceTreatyLaw" (229 : Nat) ({ cls := "IceTreaty", name := "open", desc := "(IIII)Z" } : Jvm.MethodName)) ∈ gw := gw_mem (tk_all (tk_6 (List.mem_of_getElem? (i := 165) (by decide +kernel)))) (by decide +kernel)
theorem gw_1366 : (Jvm.Cond.instanceMethod ({ cls := "IceTreaty", name := "open", desc := "(IIII)Z" } : Jvm.MethodName)) ∈ gw := gw_mem (tk_all (tk_6 (List.mem_of_getElem? (i := 166) (by decide +kernel)))) (by decide +kernel)
theorem gw_1367 : (Jvm.Cond.selects "IceTreaty" ({ cls := "IceTreaty", name := "open", desc := "(IIII)Z" } : Jvm.MethodName) ({ cls := "IceTreaty", name := "open", desc := "(IIII)Z" } : Jvm.MethodName)) ∈ gw := gw_mem (tk_all (tk_6 (List.mem_of_getElem? (i := 167) (by decide +kernel)))) (by decide +kernel)
theorem gw_1368 : (Jvm.Cond.code ({ cls := "IceTreaty", name := "open", desc := "(IIII)Z" } : Jvm.MethodName) prog_1_method_81_code (5 : Nat) (Option.some Jvm.ClassFile.FieldType.boolean)) ∈ gw := gw_mem (tk_all (tk_6 (List.mem_of_getElem? (i := 168) rfl))) (by decide +kernel)
theorem gw_1369 : (Jvm.Cond.methodLink "IceTreatyLaw" (233 : Nat) ({ cls := "IceTreaty", name := "plan", desc := "(III)I" } : Jvm.MethodName)) ∈ gw := gw_mem (tk_all (tk_6 (List.mem_of_getElem? (i := 169) (by decide +kernel)))) (by decide +kernel)
theorem gw_1370 : (Jvm.Cond.instanceMethod ({ cls := "IceTreaty", name := "plan", desc := "(III)I" } : Jvm.MethodName)) ∈ gw := gw_mem (tk_all (tk_6 (List.mem_of_getElem? (i := 170) (by decide +kernel)))) (by decide +kernel)
theorem gw_1371 : (Jvm.Cond.selects "IceTreaty" ({ cls := "IceTreaty", name := "plan", desc := "(III)I" } : Jvm.MethodName) ({ cls := "IceTreaty", name := "plan", desc := "(III)I" } : Jvm.MethodName)) ∈ gw := gw_mem (tk_all (tk_6 (List.mem_of_getElem? (i := 171) (by decide +kernel)))) (by decide +kernel)
theorem gw_1372 : (Jvm.Cond.code ({ cls := "IceTreaty", name := "plan", desc := "(III)I" } : Jvm.MethodName) prog_1_method_82_code (6 : Nat) (Option.some Jvm.ClassFile.FieldType.int)) ∈ gw := gw_mem (tk_all (tk_6 (List.mem_of_getElem? (i := 172) rfl))) (by decide +kernel)
theorem gw_1413 : (Jvm.Cond.methodLink "IceTreatyLaw" (237 : Nat) ({ cls := "IceTreaty", name := "planned", desc := "(IIII)I" } : Jvm.MethodName)) ∈ gw := gw_mem (tk_all (tk_6 (List.mem_of_getElem? (i := 213) (by decide +kernel)))) (by decide +kernel)
theorem gw_1414 : (Jvm.Cond.instanceMethod ({ cls := "IceTreaty", name := "planned", desc := "(IIII)I" } : Jvm.MethodName)) ∈ gw := gw_mem (tk_all (tk_6 (List.mem_of_getElem? (i := 214) (by decide +kernel)))) (by decide +kernel)
theorem gw_1415 : (Jvm.Cond.selects "IceTreaty" ({ cls := "IceTreaty", name := "planned", desc := "(IIII)I" } : Jvm.MethodName) ({ cls := "IceTreaty", name := "planned", desc := "(IIII)I" } : Jvm.MethodName)) ∈ gw := gw_mem (tk_all (tk_6 (List.mem_of_getElem? (i := 215) (by decide +kernel)))) (by decide +kernel)
theorem gw_1416 : (Jvm.Cond.code ({ cls := "IceTreaty", name := "planned", desc := "(IIII)I" } : Jvm.MethodName) prog_1_method_83_code (5 : Nat) (Option.some Jvm.ClassFile.FieldType.int)) ∈ gw := gw_mem (tk_all (tk_6 (List.mem_of_getElem? (i := 216) rfl))) (by decide +kernel)
theorem gw_1417 : (Jvm.Cond.methodLink "IceTreaty" (617 : Nat) ({ cls := "IceTreaty", name := "plan", desc := "(III)I" } : Jvm.MethodName)) ∈ gw := gw_mem (tk_all (tk_6 (List.mem_of_getElem? (i := 217) (by decide +kernel)))) (by decide +kernel)
theorem gw_1418 : (Jvm.Cond.methodLink "IceTreatyLaw" (241 : Nat) ({ cls := "IceTreaty", name := "report", desc := "(IIIZ)Z" } : Jvm.MethodName)) ∈ gw := gw_mem (tk_all (tk_6 (List.mem_of_getElem? (i := 218) (by decide +kernel)))) (by decide +kernel)
theorem gw_1419 : (Jvm.Cond.instanceMethod ({ cls := "IceTreaty", name := "report", desc := "(IIIZ)Z" } : Jvm.MethodName)) ∈ gw := gw_mem (tk_all (tk_6 (List.mem_of_getElem? (i := 219) (by decide +kernel)))) (by decide +kernel)
theorem gw_1420 : (Jvm.Cond.selects "IceTreaty" ({ cls := "IceTreaty", name := "report", desc := "(IIIZ)Z" } : Jvm.MethodName) ({ cls := "IceTreaty", name := "report", desc := "(IIIZ)Z" } : Jvm.MethodName)) ∈ gw := gw_mem (tk_all (tk_6 (List.mem_of_getElem? (i := 220) (by decide +kernel)))) (by decide +kernel)
theorem gw_1421 : (Jvm.Cond.code ({ cls := "IceTreaty", name := "report", desc := "(IIIZ)Z" } : Jvm.MethodName) prog_1_method_85_code (5 : Nat) (Option.some Jvm.ClassFile.FieldType.boolean)) ∈ gw := gw_mem (tk_all (tk_6 (List.mem_of_getElem? (i := 221) rfl))) (by decide +kernel)
theorem gw_1422 : (Jvm.Cond.methodLink "IceTreatyLaw" (246 : Nat) ({ cls := "IceTreaty", name := "known", desc := "(III)I" } : Jvm.MethodName)) ∈ gw := gw_mem (tk_all (tk_6 (List.mem_of_getElem? (i := 222) (by decide +kernel)))) (by decide +kernel)
theorem gw_1423 : (Jvm.Cond.instanceMethod ({ cls := "IceTreaty", name := "known", desc := "(III)I" } : Jvm.MethodName)) ∈ gw := gw_mem (tk_all (tk_6 (List.mem_of_getElem? (i := 223) (by decide +kernel)))) (by decide +kernel)
theorem gw_1424 : (Jvm.Cond.selects "IceTreaty" ({ cls := "IceTreaty", name := "known", desc := "(III)I" } : Jvm.MethodName) ({ cls := "IceTreaty", name := "known", desc := "(III)I" } : Jvm.MethodName)) ∈ gw := gw_mem (tk_all (tk_6 (List.mem_of_getElem? (i := 224) (by decide +kernel)))) (by decide +kernel)
theorem gw_1425 : (Jvm.Cond.code ({ cls := "IceTreaty", name := "known", desc := "(III)I" } : Jvm.MethodName) prog_1_method_86_code (9 : Nat) (Option.some Jvm.ClassFile.FieldType.int)) ∈ gw := gw_mem (tk_all (tk_6 (List.mem_of_getElem? (i := 225) rfl))) (by decide +kernel)
theorem gw_1426 : (Jvm.Cond.constant "IceTreaty" (626 : Nat) (-1000001 : Int32)) ∈ gw := gw_mem (tk_all (tk_6 (List.mem_of_getElem? (i := 226) (by decide +kernel)))) (by decide +kernel)
theorem gw_1427 : (Jvm.Cond.methodLink "IceTreatyLaw" (250 : Nat) ({ cls := "IceTreaty", name := "check", desc := "(I)I" } : Jvm.MethodName)) ∈ gw := gw_mem (tk_all (tk_6 (List.mem_of_getElem? (i := 227) (by decide +kernel)))) (by decide +kernel)
theorem gw_1428 : (Jvm.Cond.instanceMethod ({ cls := "IceTreaty", name := "check", desc := "(I)I" } : Jvm.MethodName)) ∈ gw := gw_mem (tk_all (tk_6 (List.mem_of_getElem? (i := 228) (by decide +kernel)))) (by decide +kernel)
theorem gw_1429 : (Jvm.Cond.selects "IceTreaty" ({ cls := "IceTreaty", name := "check", desc := "(I)I" } : Jvm.MethodName) ({ cls := "IceTreaty", name := "check", desc := "(I)I" } : Jvm.MethodName)) ∈ gw := gw_mem (tk_all (tk_6 (List.mem_of_getElem? (i := 229) (by decide +kernel)))) (by decide +kernel)
theorem gw_1430 : (Jvm.Cond.code ({ cls := "IceTreaty", name := "check", desc := "(I)I" } : Jvm.MethodName) prog_1_method_87_code (3 : Nat) (Option.some Jvm.ClassFile.FieldType.int)) ∈ gw := gw_mem (tk_all (tk_6 (List.mem_of_getElem? (i := 230) rfl))) (by decide +kernel)
theorem gw_1431 : (Jvm.Cond.methodLink "IceTreaty" (627 : Nat) ({ cls := "IceTreaty", name := "firstWrong", desc := "(I)I" } : Jvm.MethodName)) ∈ gw := gw_mem (tk_all (tk_6 (List.mem_of_getElem? (i := 231) (by decide +kernel)))) (by decide +kernel)
theorem gw_1433 : (Jvm.Cond.instanceMethod ({ cls := "IceTreaty", name := "firstWrong", desc := "(I)I" } : Jvm.MethodName)) ∈ gw := gw_mem (tk_all (tk_6 (List.mem_of_getElem? (i := 233) (by decide +kernel)))) (by decide +kernel)
theorem gw_1434 : (Jvm.Cond.code ({ cls := "IceTreaty", name := "firstWrong", desc := "(I)I" } : Jvm.MethodName) prog_1_method_88_code (5 : Nat) (Option.some Jvm.ClassFile.FieldType.int)) ∈ gw := gw_mem (tk_all (tk_6 (List.mem_of_getElem? (i := 234) rfl))) (by decide +kernel)
theorem gw_1439 : (Jvm.Cond.methodLink "IceTreatyLaw" (254 : Nat) ({ cls := "IceTreaty", name := "look", desc := "(II)I" } : Jvm.MethodName)) ∈ gw := gw_mem (tk_all (tk_6 (List.mem_of_getElem? (i := 239) (by decide +kernel)))) (by decide +kernel)
theorem gw_1440 : (Jvm.Cond.instanceMethod ({ cls := "IceTreaty", name := "look", desc := "(II)I" } : Jvm.MethodName)) ∈ gw := gw_mem (tk_all (tk_7 (List.mem_of_getElem? (i := 0) (by decide +kernel)))) (by decide +kernel)
theorem gw_1441 : (Jvm.Cond.selects "IceTreaty" ({ cls := "IceTreaty", name := "look", desc := "(II)I" } : Jvm.MethodName) ({ cls := "IceTreaty", name := "look", desc := "(II)I" } : Jvm.MethodName)) ∈ gw := gw_mem (tk_all (tk_7 (List.mem_of_getElem? (i := 1) (by decide +kernel)))) (by decide +kernel)
theorem gw_1442 : (Jvm.Cond.code ({ cls := "IceTreaty", name := "look", desc := "(II)I" } : Jvm.MethodName) prog_1_method_89_code (4 : Nat) (Option.some Jvm.ClassFile.FieldType.int)) ∈ gw := gw_mem (tk_all (tk_7 (List.mem_of_getElem? (i := 2) rfl))) (by decide +kernel)
theorem gw_1447 : (Jvm.Cond.methodLink "IceTreatyLaw" (258 : Nat) ({ cls := "IceTreaty", name := "at", desc := "(II)I" } : Jvm.MethodName)) ∈ gw := gw_mem (tk_all (tk_7 (List.mem_of_getElem? (i := 7) (by decide +kernel)))) (by decide +kernel)
theorem gw_1448 : (Jvm.Cond.instanceMethod ({ cls := "IceTreaty", name := "at", desc := "(II)I" } : Jvm.MethodName)) ∈ gw := gw_mem (tk_all (tk_7 (List.mem_of_getElem? (i := 8) (by decide +kernel)))) (by decide +kernel)
theorem gw_1449 : (Jvm.Cond.selects "IceTreaty" ({ cls := "IceTreaty", name := "at", desc := "(II)I" } : Jvm.MethodName) ({ cls := "IceTreaty", name := "at", desc := "(II)I" } : Jvm.MethodName)) ∈ gw := gw_mem (tk_all (tk_7 (List.mem_of_getElem? (i := 9) (by decide +kernel)))) (by decide +kernel)
theorem gw_1450 : (Jvm.Cond.code ({ cls := "IceTreaty", name := "at", desc := "(II)I" } : Jvm.MethodName) prog_1_method_91_code (4 : Nat) (Option.some Jvm.ClassFile.FieldType.int)) ∈ gw := gw_mem (tk_all (tk_7 (List.mem_of_getElem? (i := 10) rfl))) (by decide +kernel)
theorem gw_1451 : (Jvm.Cond.methodLink "IceTreatyLaw" (262 : Nat) ({ cls := "IceTreaty", name := "about", desc := "(II)I" } : Jvm.MethodName)) ∈ gw := gw_mem (tk_all (tk_7 (List.mem_of_getElem? (i := 11) (by decide +kernel)))) (by decide +kernel)
theorem gw_1452 : (Jvm.Cond.instanceMethod ({ cls := "IceTreaty", name := "about", desc := "(II)I" } : Jvm.MethodName)) ∈ gw := gw_mem (tk_all (tk_7 (List.mem_of_getElem? (i := 12) (by decide +kernel)))) (by decide +kernel)
theorem gw_1453 : (Jvm.Cond.selects "IceTreaty" ({ cls := "IceTreaty", name := "about", desc := "(II)I" } : Jvm.MethodName) ({ cls := "IceTreaty", name := "about", desc := "(II)I" } : Jvm.MethodName)) ∈ gw := gw_mem (tk_all (tk_7 (List.mem_of_getElem? (i := 13) (by decide +kernel)))) (by decide +kernel)
theorem gw_1454 : (Jvm.Cond.code ({ cls := "IceTreaty", name := "about", desc := "(II)I" } : Jvm.MethodName) prog_1_method_92_code (4 : Nat) (Option.some Jvm.ClassFile.FieldType.int)) ∈ gw := gw_mem (tk_all (tk_7 (List.mem_of_getElem? (i := 14) rfl))) (by decide +kernel)
theorem gw_1455 : (Jvm.Cond.methodLink "IceTreatyLaw" (266 : Nat) ({ cls := "IceTreaty", name := "sum", desc := "(I)J" } : Jvm.MethodName)) ∈ gw := gw_mem (tk_all (tk_7 (List.mem_of_getElem? (i := 15) (by decide +kernel)))) (by decide +kernel)
theorem gw_1456 : (Jvm.Cond.instanceMethod ({ cls := "IceTreaty", name := "sum", desc := "(I)J" } : Jvm.MethodName)) ∈ gw := gw_mem (tk_all (tk_7 (List.mem_of_getElem? (i := 16) (by decide +kernel)))) (by decide +kernel)
theorem gw_1457 : (Jvm.Cond.selects "IceTreaty" ({ cls := "IceTreaty", name := "sum", desc := "(I)J" } : Jvm.MethodName) ({ cls := "IceTreaty", name := "sum", desc := "(I)J" } : Jvm.MethodName)) ∈ gw := gw_mem (tk_all (tk_7 (List.mem_of_getElem? (i := 17) (by decide +kernel)))) (by decide +kernel)
theorem gw_1458 : (Jvm.Cond.code ({ cls := "IceTreaty", name := "sum", desc := "(I)J" } : Jvm.MethodName) prog_1_method_93_code (3 : Nat) (Option.some Jvm.ClassFile.FieldType.long)) ∈ gw := gw_mem (tk_all (tk_7 (List.mem_of_getElem? (i := 18) rfl))) (by decide +kernel)
theorem gw_1459 : (Jvm.Cond.constantLong "IceTreaty" (637 : Nat) (-1 : Int64)) ∈ gw := gw_mem (tk_all (tk_7 (List.mem_of_getElem? (i := 19) (by decide +kernel)))) (by decide +kernel)
theorem gw_1460 : (Jvm.Cond.methodLink "IceTreatyLaw" (271 : Nat) ({ cls := "IceTreaty", name := "count", desc := "(I)I" } : Jvm.MethodName)) ∈ gw := gw_mem (tk_all (tk_7 (List.mem_of_getElem? (i := 20) (by decide +kernel)))) (by decide +kernel)
theorem gw_1461 : (Jvm.Cond.instanceMethod ({ cls := "IceTreaty", name := "count", desc := "(I)I" } : Jvm.MethodName)) ∈ gw := gw_mem (tk_all (tk_7 (List.mem_of_getElem? (i := 21) (by decide +kernel)))) (by decide +kernel)
theorem gw_1462 : (Jvm.Cond.selects "IceTreaty" ({ cls := "IceTreaty", name := "count", desc := "(I)I" } : Jvm.MethodName) ({ cls := "IceTreaty", name := "count", desc := "(I)I" } : Jvm.MethodName)) ∈ gw := gw_mem (tk_all (tk_7 (List.mem_of_getElem? (i := 22) (by decide +kernel)))) (by decide +kernel)
theorem gw_1463 : (Jvm.Cond.code ({ cls := "IceTreaty", name := "count", desc := "(I)I" } : Jvm.MethodName) prog_1_method_94_code (2 : Nat) (Option.some Jvm.ClassFile.FieldType.int)) ∈ gw := gw_mem (tk_all (tk_7 (List.mem_of_getElem? (i := 23) rfl))) (by decide +kernel)
theorem gw_1464 : (Jvm.Cond.methodLink "IceTreaty" (644 : Nat) ({ cls := "IceTreaty", name := "sledgesOnWay", desc := "()I" } : Jvm.MethodName)) ∈ gw := gw_mem (tk_all (tk_7 (List.mem_of_getElem? (i := 24) (by decide +kernel)))) (by decide +kernel)
theorem gw_1466 : (Jvm.Cond.instanceMethod ({ cls := "IceTreaty", name := "sledgesOnWay", desc := "()I" } : Jvm.MethodName)) ∈ gw := gw_mem (tk_all (tk_7 (List.mem_of_getElem? (i := 26) (by decide +kernel)))) (by decide +kernel)
theorem gw_1467 : (Jvm.Cond.code ({ cls := "IceTreaty", name := "sledgesOnWay", desc := "()I" } : Jvm.MethodName) prog_1_method_96_code (3 : Nat) (Option.some Jvm.ClassFile.FieldType.int)) ∈ gw := gw_mem (tk_all (tk_7 (List.mem_of_getElem? (i := 27) rfl))) (by decide +kernel)
theorem gw_1468 : (Jvm.Cond.methodLink "IceTreaty" (647 : Nat) ({ cls := "IceTreaty", name := "decidesFrom", desc := "(I)I" } : Jvm.MethodName)) ∈ gw := gw_mem (tk_all (tk_7 (List.mem_of_getElem? (i := 28) (by decide +kernel)))) (by decide +kernel)
theorem gw_1470 : (Jvm.Cond.instanceMethod ({ cls := "IceTreaty", name := "decidesFrom", desc := "(I)I" } : Jvm.MethodName)) ∈ gw := gw_mem (tk_all (tk_7 (List.mem_of_getElem? (i := 30) (by decide +kernel)))) (by decide +kernel)
theorem gw_1471 : (Jvm.Cond.code ({ cls := "IceTreaty", name := "decidesFrom", desc := "(I)I" } : Jvm.MethodName) prog_1_method_95_code (3 : Nat) (Option.some Jvm.ClassFile.FieldType.int)) ∈ gw := gw_mem (tk_all (tk_7 (List.mem_of_getElem? (i := 31) rfl))) (by decide +kernel)
theorem gw_1472 : (Jvm.Cond.classLink "IceTreatyLaw" (10 : Nat) "IceTreatyModel") ∈ gw := gw_mem (tk_all (tk_7 (List.mem_of_getElem? (i := 32) (by decide +kernel)))) (by decide +kernel)
theorem gw_1473 : (Jvm.Cond.instantiable "IceTreatyModel" (151 : Nat)) ∈ gw := gw_mem (tk_all (tk_7 (List.mem_of_getElem? (i := 33) (by decide +kernel)))) (by decide +kernel)
theorem gw_1474 : (Jvm.Cond.methodLink "IceTreatyLaw" (12 : Nat) ({ cls := "IceTreatyModel", name := "<init>", desc := "()V" } : Jvm.MethodName)) ∈ gw := gw_mem (tk_all (tk_7 (List.mem_of_getElem? (i := 34) (by decide +kernel)))) (by decide +kernel)
theorem gw_1475 : (Jvm.Cond.instanceMethod ({ cls := "IceTreatyModel", name := "<init>", desc := "()V" } : Jvm.MethodName)) ∈ gw := gw_mem (tk_all (tk_7 (List.mem_of_getElem? (i := 35) (by decide +kernel)))) (by decide +kernel)
theorem gw_1476 : (Jvm.Cond.code ({ cls := "IceTreatyModel", name := "<init>", desc := "()V" } : Jvm.MethodName) prog_14_method_1_code (2 : Nat) (Option.none : Option Jvm.ClassFile.FieldType)) ∈ gw := gw_mem (tk_all (tk_7 (List.mem_of_getElem? (i := 36) rfl))) (by decide +kernel)
theorem gw_1477 : (Jvm.Cond.methodLink "IceTreatyModel" (1 : Nat) ({ cls := "java/lang/Object", name := "<init>", desc := "()V" } : Jvm.MethodName)) ∈ gw := gw_mem (tk_all (tk_7 (List.mem_of_getElem? (i := 37) (by decide +kernel)))) (by decide +kernel)
theorem gw_1478 : (Jvm.Cond.methodLink "IceTreatyModel" (361 : Nat) ({ cls := "IceTreatyModel", name := "begins", desc := "(II)V" } : Jvm.MethodName)) ∈ gw := gw_mem (tk_all (tk_7 (List.mem_of_getElem? (i := 38) (by decide +kernel)))) (by decide +kernel)
theorem gw_1480 : (Jvm.Cond.instanceMethod ({ cls := "IceTreatyModel", name := "begins", desc := "(II)V" } : Jvm.MethodName)) ∈ gw := gw_mem (tk_all (tk_7 (List.mem_of_getElem? (i := 40) (by decide +kernel)))) (by decide +kernel)
theorem gw_1481 : (Jvm.Cond.code ({ cls := "IceTreatyModel", name := "begins", desc := "(II)V" } : Jvm.MethodName) prog_14_method_4_code (4 : Nat) (Option.none : Option Jvm.ClassFile.FieldType)) ∈ gw := gw_mem (tk_all (tk_7 (List.mem_of_getElem? (i := 41) rfl))) (by decide +kernel)
theorem gw_1482 : (Jvm.Cond.fieldLink "IceTreatyModel" (365 : Nat) "IceTreatyModel" "wide" "I") ∈ gw := gw_mem (tk_all (tk_7 (List.mem_of_getElem? (i := 42) (by decide +kernel)))) (by decide +kernel)
theorem gw_1483 : (Jvm.Cond.fieldLink "IceTreatyModel" (368 : Nat) "IceTreatyModel" "high" "I") ∈ gw := gw_mem (tk_all (tk_7 (List.mem_of_getElem? (i := 43) (by decide +kernel)))) (by decide +kernel)
theorem gw_1484 : (Jvm.Cond.fieldLink "IceTreatyModel" (396 : Nat) "IceTreatyModel" "now" "I") ∈ gw := gw_mem (tk_all (tk_7 (List.mem_of_getElem? (i := 44) (by decide +kernel)))) (by decide +kernel)
theorem gw_1485 : (Jvm.Cond.fieldLink "IceTreatyModel" (7 : Nat) "IceTreatyModel" "darkFrom" "I") ∈ gw := gw_mem (tk_all (tk_7 (List.mem_of_getElem? (i := 45) (by decide +kernel)))) (by decide +kernel)
theorem gw_1486 : (Jvm.Cond.fieldLink "IceTreatyModel" (13 : Nat) "IceTreatyModel" "darkTo" "I") ∈ gw := gw_mem (tk_all (tk_7 (List.mem_of_getElem? (i := 46) (by decide +kernel)))) (by decide +kernel)
theorem gw_1487 : (Jvm.Cond.fieldLink "IceTreatyModel" (16 : Nat) "IceTreatyModel" "height" "[I") ∈ gw := gw_mem (tk_all (tk_7 (List.mem_of_getElem? (i := 47) (by decide +kernel)))) (by decide +kernel)
theorem gw_1488 : (Jvm.Cond.fieldLink "IceTreatyModel" (20 : Nat) "IceTreatyModel" "ground" "[I") ∈ gw := gw_mem (tk_all (tk_7 (List.mem_of_getElem? (i := 48) (by decide +kernel)))) (by decide +kernel)
theorem gw_1489 : (Jvm.Cond.fieldLink "IceTreatyModel" (23 : Nat) "IceTreatyModel" "way" "[I") ∈ gw := gw_mem (tk_all (tk_7 (List.mem_of_getElem? (i := 49) (by decide +kernel)))) (by decide +kernel)
theorem gw_1490 : (Jvm.Cond.fieldLink "IceTreatyModel" (26 : Nat) "IceTreatyModel" "flow" "[I") ∈ gw := gw_mem (tk_all (tk_7 (List.mem_of_getElem? (i := 50) (by decide +kernel)))) (by decide +kernel)
theorem gw_1491 : (Jvm.Cond.fieldLink "IceTreatyModel" (393 : Nat) "IceTreatyModel" "parties" "I") ∈ gw := gw_mem (tk_all (tk_7 (List.mem_of_getElem? (i := 51) (by decide +kernel)))) (by decide +kernel)
theorem gw_1492 : (Jvm.Cond.fieldLink "IceTreatyModel" (375 : Nat) "IceTreatyModel" "places" "I") ∈ gw := gw_mem (tk_all (tk_7 (List.mem_of_getElem? (i := 52) (by decide +kernel)))) (by decide +kernel)
theorem gw_1493 : (Jvm.Cond.fieldLink "IceTreatyModel" (29 : Nat) "IceTreatyModel" "decidesFrom" "[I") ∈ gw := gw_mem (tk_all (tk_7 (List.mem_of_getElem? (i := 53) (by decide +kernel)))) (by decide +kernel)
theorem gw_1494 : (Jvm.Cond.fieldLink "IceTreatyModel" (32 : Nat) "IceTreatyModel" "science" "[I") ∈ gw := gw_mem (tk_all (tk_7 (List.mem_of_getElem? (i := 54) (by decide +kernel)))) (by decide +kernel)
theorem gw_1495 : (Jvm.Cond.fieldLink "IceTreatyModel" (35 : Nat) "IceTreatyModel" "kindOf" "[I") ∈ gw := gw_mem (tk_all (tk_7 (List.mem_of_getElem? (i := 55) (by decide +kernel)))) (by decide +kernel)
theorem gw_1496 : (Jvm.Cond.fieldLink "IceTreatyModel" (38 : Nat) "IceTreatyModel" "partyOf" "[I") ∈ gw := gw_mem (tk_all (tk_7 (List.mem_of_getElem? (i := 56) (by decide +kernel)))) (by decide +kernel)
theorem gw_1497 : (Jvm.Cond.fieldLink "IceTreatyModel" (41 : Nat) "IceTreatyModel" "cellOf" "[I") ∈ gw := gw_mem (tk_all (tk_7 (List.mem_of_getElem? (i := 57) (by decide +kernel)))) (by decide +kernel)
theorem gw_1498 : (Jvm.Cond.fieldLink "IceTreatyModel" (44 : Nat) "IceTreatyModel" "lowerOf" "[I") ∈ gw := gw_mem (tk_all (tk_7 (List.mem_of_getElem? (i := 58) (by decide +kernel)))) (by decide +kernel)
theorem gw_1499 : (Jvm.Cond.fieldLink "IceTreatyModel" (47 : Nat) "IceTreatyModel" "numberOf" "[I") ∈ gw := gw_mem (tk_all (tk_7 (List.mem_of_getElem? (i := 59) (by decide +kernel)))) (by decide +kernel)
theorem gw_1500 : (Jvm.Cond.fieldLink "IceTreatyModel" (50 : Nat) "IceTreatyModel" "sinceOf" "[I") ∈ gw := gw_mem (tk_all (tk_7 (List.mem_of_getElem? (i := 60) (by decide +kernel)))) (by decide +kernel)
theorem gw_1501 : (Jvm.Cond.fieldLink "IceTreatyModel" (53 : Nat) "IceTreatyModel" "folk" "[I") ∈ gw := gw_mem (tk_all (tk_7 (List.mem_of_getElem? (i := 61) (by decide +kernel)))) (by decide +kernel)
theorem gw_1502 : (Jvm.Cond.fieldLink "IceTreatyModel" (56 : Nat) "IceTreatyModel" "drums" "[I") ∈ gw := gw_mem (tk_all (tk_7 (List.mem_of_getElem? (i := 62) (by decide +kernel)))) (by decide +kernel)
theorem gw_1503 : (Jvm.Cond.fieldLink "IceTreatyModel" (59 : Nat) "IceTreatyModel" "hidden" "[I") ∈ gw := gw_mem (tk_all (tk_7 (List.mem_of_getElem? (i := 63) (by decide +kernel)))) (by decide +kernel)
theorem gw_1504 : (Jvm.Cond.fieldLink "IceTreatyModel" (62 : Nat) "IceTreatyModel" "coldDays" "[I") ∈ gw := gw_mem (tk_all (tk_7 (List.mem_of_getElem? (i := 64) (by decide +kernel)))) (by decide +kernel)
theorem gw_1505 : (Jvm.Cond.fieldLink "IceTreatyModel" (65 : Nat) "IceTreatyModel" "waste" "[I") ∈ gw := gw_mem (tk_all (tk_7 (List.mem_of_getElem? (i := 65) (by decide +kernel)))) (by decide +kernel)
theorem gw_1506 : (Jvm.Cond.fieldLink "IceTreatyModel" (68 : Nat) "IceTreatyModel" "saidPeople" "[I") ∈ gw := gw_mem (tk_all (tk_7 (List.mem_of_getElem? (i := 66) (by decide +kernel)))) (by decide +kernel)
theorem gw_1507 : (Jvm.Cond.fieldLink "IceTreatyModel" (71 : Nat) "IceTreatyModel" "saidDrums" "[I") ∈ gw := gw_mem (tk_all (tk_7 (List.mem_of_getElem? (i := 67) (by decide +kernel)))) (by decide +kernel)
theorem gw_1508 : (Jvm.Cond.fieldLink "IceTreatyModel" (74 : Nat) "IceTreatyModel" "noiseOf" "[I") ∈ gw := gw_mem (tk_all (tk_7 (List.mem_of_getElem? (i := 68) (by decide +kernel)))) (by decide +kernel)
theorem gw_1509 : (Jvm.Cond.fieldLink "IceTreatyModel" (77 : Nat) "IceTreatyModel" "birdOf" "[I") ∈ gw := gw_mem (tk_all (tk_7 (List.mem_of_getElem? (i := 69) (by decide +kernel)))) (by decide +kernel)
theorem gw_1510 : (Jvm.Cond.fieldLink "IceTreatyModel" (80 : Nat) "IceTreatyModel" "isLost" "[Z") ∈ gw := gw_mem (tk_all (tk_7 (List.mem_of_getElem? (i := 70) (by decide +kernel)))) (by decide +kernel)
theorem gw_1511 : (Jvm.Cond.fieldLink "IceTreatyModel" (84 : Nat) "IceTreatyModel" "tape" "[B") ∈ gw := gw_mem (tk_all (tk_7 (List.mem_of_getElem? (i := 71) (by decide +kernel)))) (by decide +kernel)
theorem gw_1512 : (Jvm.Cond.fieldLink "IceTreatyModel" (436 : Nat) "IceTreatyModel" "taped" "I") ∈ gw := gw_mem (tk_all (tk_7 (List.mem_of_getElem? (i := 72) (by decide +kernel)))) (by decide +kernel)
theorem gw_1521 : (Jvm.Cond.fieldLink "IceTreatyModel" (88 : Nat) "IceTreatyModel" "said" "[I") ∈ gw := gw_mem (tk_all (tk_7 (List.mem_of_getElem? (i := 81) (by decide +kernel)))) (by decide +kernel)
theorem gw_1522 : (Jvm.Cond.fieldLink "IceTreatyModel" (91 : Nat) "IceTreatyModel" "waits" "[I") ∈ gw := gw_mem (tk_all (tk_7 (List.mem_of_getElem? (i := 82) (by decide +kernel)))) (by decide +kernel)
theorem gw_1523 : (Jvm.Cond.fieldLink "IceTreatyModel" (94 : Nat) "IceTreatyModel" "saidLetter" "[I") ∈ gw := gw_mem (tk_all (tk_7 (List.mem_of_getElem? (i := 83) (by decide +kernel)))) (by decide +kernel)
theorem gw_1524 : (Jvm.Cond.fieldLink "IceTreatyModel" (97 : Nat) "IceTreatyModel" "saidFrom" "[I") ∈ gw := gw_mem (tk_all (tk_7 (List.mem_of_getElem? (i := 84) (by decide +kernel)))) (by decide +kernel)
theorem gw_1525 : (Jvm.Cond.fieldLink "IceTreatyModel" (100 : Nat) "IceTreatyModel" "saidTo" "[I") ∈ gw := gw_mem (tk_all (tk_7 (List.mem_of_getElem? (i := 85) (by decide +kernel)))) (by decide +kernel)
theorem gw_1526 : (Jvm.Cond.fieldLink "IceTreatyModel" (103 : Nat) "IceTreatyModel" "saidN" "[I") ∈ gw := gw_mem (tk_all (tk_7 (List.mem_of_getElem? (i := 86) (by decide +kernel)))) (by decide +kernel)
theorem gw_1527 : (Jvm.Cond.fieldLink "IceTreatyModel" (106 : Nat) "IceTreatyModel" "saidA" "[I") ∈ gw := gw_mem (tk_all (tk_7 (List.mem_of_getElem? (i := 87) (by decide +kernel)))) (by decide +kernel)
theorem gw_1528 : (Jvm.Cond.fieldLink "IceTreatyModel" (109 : Nat) "IceTreatyModel" "saidB" "[I") ∈ gw := gw_mem (tk_all (tk_7 (List.mem_of_getElem? (i := 88) (by decide +kernel)))) (by decide +kernel)
theorem gw_1529 : (Jvm.Cond.fieldLink "IceTreatyModel" (535 : Nat) "IceTreatyModel" "texts" "I") ∈ gw := gw_mem (tk_all (tk_7 (List.mem_of_getElem? (i := 89) (by decide +kernel)))) (by decide +kernel)
theorem gw_1530 : (Jvm.Cond.fieldLink "IceTreatyModel" (547 : Nat) "IceTreatyModel" "readings" "I") ∈ gw := gw_mem (tk_all (tk_7 (List.mem_of_getElem? (i := 90) (by decide +kernel)))) (by decide +kernel)
theorem gw_1531 : (Jvm.Cond.fieldLink "IceTreatyModel" (112 : Nat) "IceTreatyModel" "codes" "[I") ∈ gw := gw_mem (tk_all (tk_7 (List.mem_of_getElem? (i := 91) (by decide +kernel)))) (by decide +kernel)
theorem gw_1532 : (Jvm.Cond.fieldLink "IceTreatyModel" (115 : Nat) "IceTreatyModel" "clauseMany" "[I") ∈ gw := gw_mem (tk_all (tk_7 (List.mem_of_getElem? (i := 92) (by decide +kernel)))) (by decide +kernel)
theorem gw_1533 : (Jvm.Cond.fieldLink "IceTreatyModel" (118 : Nat) "IceTreatyModel" "textFrom" "[I") ∈ gw := gw_mem (tk_all (tk_7 (List.mem_of_getElem? (i := 93) (by decide +kernel)))) (by decide +kernel)
theorem gw_1534 : (Jvm.Cond.fieldLink "IceTreatyModel" (121 : Nat) "IceTreatyModel" "textTo" "[I") ∈ gw := gw_mem (tk_all (tk_7 (List.mem_of_getElem? (i := 94) (by decide +kernel)))) (by decide +kernel)
theorem gw_1535 : (Jvm.Cond.fieldLink "IceTreatyModel" (124 : Nat) "IceTreatyModel" "letterOf" "[I") ∈ gw := gw_mem (tk_all (tk_7 (List.mem_of_getElem? (i := 95) (by decide +kernel)))) (by decide +kernel)
theorem gw_1536 : (Jvm.Cond.fieldLink "IceTreatyModel" (127 : Nat) "IceTreatyModel" "codeFrom" "[I") ∈ gw := gw_mem (tk_all (tk_7 (List.mem_of_getElem? (i := 96) (by decide +kernel)))) (by decide +kernel)
theorem gw_1537 : (Jvm.Cond.fieldLink "IceTreatyModel" (130 : Nat) "IceTreatyModel" "codeTo" "[I") ∈ gw := gw_mem (tk_all (tk_7 (List.mem_of_getElem? (i := 97) (by decide +kernel)))) (by decide +kernel)
theorem gw_1538 : (Jvm.Cond.fieldLink "IceTreatyModel" (133 : Nat) "IceTreatyModel" "nOf" "[I") ∈ gw := gw_mem (tk_all (tk_7 (List.mem_of_getElem? (i := 98) (by decide +kernel)))) (by decide +kernel)
theorem gw_1539 : (Jvm.Cond.fieldLink "IceTreatyModel" (136 : Nat) "IceTreatyModel" "aOf" "[I") ∈ gw := gw_mem (tk_all (tk_7 (List.mem_of_getElem? (i := 99) (by decide +kernel)))) (by decide +kernel)
theorem gw_1540 : (Jvm.Cond.fieldLink "IceTreatyModel" (139 : Nat) "IceTreatyModel" "bOf" "[I") ∈ gw := gw_mem (tk_all (tk_7 (List.mem_of_getElem? (i := 100) (by decide +kernel)))) (by decide +kernel)
theorem gw_1541 : (Jvm.Cond.fieldLink "IceTreatyModel" (142 : Nat) "IceTreatyModel" "yesDay" "[I") ∈ gw := gw_mem (tk_all (tk_7 (List.mem_of_getElem? (i := 101) (by decide +kernel)))) (by decide +kernel)
theorem gw_1542 : (Jvm.Cond.fieldLink "IceTreatyModel" (145 : Nat) "IceTreatyModel" "ownCodes" "[I") ∈ gw := gw_mem (tk_all (tk_7 (List.mem_of_getElem? (i := 102) (by decide +kernel)))) (by decide +kernel)
theorem gw_1543 : (Jvm.Cond.fieldLink "IceTreatyModel" (148 : Nat) "IceTreatyModel" "ownMany" "[I") ∈ gw := gw_mem (tk_all (tk_7 (List.mem_of_getElem? (i := 103) (by decide +kernel)))) (by decide +kernel)
theorem gw_1544 : (Jvm.Cond.fieldLink "IceTreatyModel" (151 : Nat) "IceTreatyModel" "ownParty" "[I") ∈ gw := gw_mem (tk_all (tk_7 (List.mem_of_getElem? (i := 104) (by decide +kernel)))) (by decide +kernel)
theorem gw_1545 : (Jvm.Cond.fieldLink "IceTreatyModel" (154 : Nat) "IceTreatyModel" "ownClause" "[I") ∈ gw := gw_mem (tk_all (tk_7 (List.mem_of_getElem? (i := 105) (by decide +kernel)))) (by decide +kernel)
theorem gw_1546 : (Jvm.Cond.fieldLink "IceTreatyModel" (157 : Nat) "IceTreatyModel" "isBound" "[Z") ∈ gw := gw_mem (tk_all (tk_7 (List.mem_of_getElem? (i := 106) (by decide +kernel)))) (by decide +kernel)
theorem gw_1547 : (Jvm.Cond.fieldLink "IceTreatyModel" (160 : Nat) "IceTreatyModel" "isStruck" "[Z") ∈ gw := gw_mem (tk_all (tk_7 (List.mem_of_getElem? (i := 107) (by decide +kernel)))) (by decide +kernel)
theorem gw_1548 : (Jvm.Cond.fieldLink "IceTreatyModel" (378 : Nat) "IceTreatyModel" "works" "I") ∈ gw := gw_mem (tk_all (tk_7 (List.mem_of_getElem? (i := 108) (by decide +kernel)))) (by decide +kernel)
theorem gw_1549 : (Jvm.Cond.fieldLink "IceTreatyModel" (163 : Nat) "IceTreatyModel" "workKind" "[I") ∈ gw := gw_mem (tk_all (tk_7 (List.mem_of_getElem? (i := 109) (by decide +kernel)))) (by decide +kernel)
theorem gw_1550 : (Jvm.Cond.fieldLink "IceTreatyModel" (166 : Nat) "IceTreatyModel" "workParty" "[I") ∈ gw := gw_mem (tk_all (tk_7 (List.mem_of_getElem? (i := 110) (by decide +kernel)))) (by decide +kernel)
theorem gw_1551 : (Jvm.Cond.fieldLink "IceTreatyModel" (169 : Nat) "IceTreatyModel" "workCell" "[I") ∈ gw := gw_mem (tk_all (tk_7 (List.mem_of_getElem? (i := 111) (by decide +kernel)))) (by decide +kernel)
theorem gw_1552 : (Jvm.Cond.fieldLink "IceTreatyModel" (172 : Nat) "IceTreatyModel" "workFrom" "[I") ∈ gw := gw_mem (tk_all (tk_7 (List.mem_of_getElem? (i := 112) (by decide +kernel)))) (by decide +kernel)
theorem gw_1553 : (Jvm.Cond.fieldLink "IceTreatyModel" (175 : Nat) "IceTreatyModel" "workTo" "[I") ∈ gw := gw_mem (tk_all (tk_7 (List.mem_of_getElem? (i := 113) (by decide +kernel)))) (by decide +kernel)
theorem gw_1554 : (Jvm.Cond.fieldLink "IceTreatyModel" (178 : Nat) "IceTreatyModel" "workPeople" "[I") ∈ gw := gw_mem (tk_all (tk_7 (List.mem_of_getElem? (i := 114) (by decide +kernel)))) (by decide +kernel)
theorem gw_1555 : (Jvm.Cond.fieldLink "IceTreatyModel" (181 : Nat) "IceTreatyModel" "workNoise" "[I") ∈ gw := gw_mem (tk_all (tk_7 (List.mem_of_getElem? (i := 115) (by decide +kernel)))) (by decide +kernel)
theorem gw_1556 : (Jvm.Cond.fieldLink "IceTreatyModel" (184 : Nat) "IceTreatyModel" "done" "[I") ∈ gw := gw_mem (tk_all (tk_7 (List.mem_of_getElem? (i := 116) (by decide +kernel)))) (by decide +kernel)
theorem gw_1557 : (Jvm.Cond.fieldLink "IceTreatyModel" (187 : Nat) "IceTreatyModel" "held" "[I") ∈ gw := gw_mem (tk_all (tk_7 (List.mem_of_getElem? (i := 117) (by decide +kernel)))) (by decide +kernel)
theorem gw_1558 : (Jvm.Cond.fieldLink "IceTreatyModel" (190 : Nat) "IceTreatyModel" "notice" "[I") ∈ gw := gw_mem (tk_all (tk_7 (List.mem_of_getElem? (i := 118) (by decide +kernel)))) (by decide +kernel)
theorem gw_1559 : (Jvm.Cond.fieldLink "IceTreatyModel" (193 : Nat) "IceTreatyModel" "leave" "[I") ∈ gw := gw_mem (tk_all (tk_7 (List.mem_of_getElem? (i := 119) (by decide +kernel)))) (by decide +kernel)
theorem gw_1560 : (Jvm.Cond.fieldLink "IceTreatyModel" (196 : Nat) "IceTreatyModel" "studied" "[I") ∈ gw := gw_mem (tk_all (tk_7 (List.mem_of_getElem? (i := 120) (by decide +kernel)))) (by decide +kernel)
theorem gw_1561 : (Jvm.Cond.fieldLink "IceTreatyModel" (199 : Nat) "IceTreatyModel" "harm" "[I") ∈ gw := gw_mem (tk_all (tk_7 (List.mem_of_getElem? (i := 121) (by decide +kernel)))) (by decide +kernel)
theorem gw_1562 : (Jvm.Cond.fieldLink "IceTreatyModel" (202 : Nat) "IceTreatyModel" "saidOf" "[I") ∈ gw := gw_mem (tk_all (tk_7 (List.mem_of_getElem? (i := 122) (by decide +kernel)))) (by decide +kernel)
theorem gw_1563 : (Jvm.Cond.fieldLink "IceTreatyModel" (205 : Nat) "IceTreatyModel" "stack" "[I") ∈ gw := gw_mem (tk_all (tk_7 (List.mem_of_getElem? (i := 123) (by decide +kernel)))) (by decide +kernel)
theorem gw_1565 : (Jvm.Cond.fieldLink "IceTreatyModel" (429 : Nat) "IceTreatyModel" "brought" "J") ∈ gw := gw_mem (tk_all (tk_7 (List.mem_of_getElem? (i := 125) (by decide +kernel)))) (by decide +kernel)
theorem gw_1566 : (Jvm.Cond.fieldLink "IceTreatyModel" (654 : Nat) "IceTreatyModel" "burnt" "J") ∈ gw := gw_mem (tk_all (tk_7 (List.mem_of_getElem? (i := 126) (by decide +kernel)))) (by decide +kernel)
theorem gw_1567 : (Jvm.Cond.fieldLink "IceTreatyModel" (657 : Nat) "IceTreatyModel" "lostDrums" "J") ∈ gw := gw_mem (tk_all (tk_7 (List.mem_of_getElem? (i := 127) (by decide +kernel)))) (by decide +kernel)
theorem gw_1568 : (Jvm.Cond.fieldLink "IceTreatyModel" (632 : Nat) "IceTreatyModel" "homeDrums" "J") ∈ gw := gw_mem (tk_all (tk_7 (List.mem_of_getElem? (i := 128) (by decide +kernel)))) (by decide +kernel)
theorem gw_1569 : (Jvm.Cond.fieldLink "IceTreatyModel" (679 : Nat) "IceTreatyModel" "wasteMade" "J") ∈ gw := gw_mem (tk_all (tk_7 (List.mem_of_getElem? (i := 129) (by decide +kernel)))) (by decide +kernel)
theorem gw_1570 : (Jvm.Cond.fieldLink "IceTreatyModel" (682 : Nat) "IceTreatyModel" "wasteLost" "J") ∈ gw := gw_mem (tk_all (tk_7 (List.mem_of_getElem? (i := 130) (by decide +kernel)))) (by decide +kernel)
theorem gw_1571 : (Jvm.Cond.fieldLink "IceTreatyModel" (635 : Nat) "IceTreatyModel" "wasteHome" "J") ∈ gw := gw_mem (tk_all (tk_7 (List.mem_of_getElem? (i := 131) (by decide +kernel)))) (by decide +kernel)
theorem gw_1572 : (Jvm.Cond.fieldLink "IceTreatyModel" (673 : Nat) "IceTreatyModel" "wentHome" "J") ∈ gw := gw_mem (tk_all (tk_7 (List.mem_of_getElem? (i := 132) (by decide +kernel)))) (by decide +kernel)
theorem gw_1573 : (Jvm.Cond.fieldLink "IceTreatyModel" (612 : Nat) "IceTreatyModel" "ships" "I") ∈ gw := gw_mem (tk_all (tk_7 (List.mem_of_getElem? (i := 133) (by decide +kernel)))) (by decide +kernel)
theorem gw_1574 : (Jvm.Cond.fieldLink "IceTreatyModel" (648 : Nat) "IceTreatyModel" "sledges" "I") ∈ gw := gw_mem (tk_all (tk_7 (List.mem_of_getElem? (i := 134) (by decide +kernel)))) (by decide +kernel)
theorem gw_1575 : (Jvm.Cond.fieldLink "IceTreatyModel" (660 : Nat) "IceTreatyModel" "visits" "I") ∈ gw := gw_mem (tk_all (tk_7 (List.mem_of_getElem? (i := 135) (by decide +kernel)))) (by decide +kernel)
theorem gw_1576 : (Jvm.Cond.fieldLink "IceTreatyModel" (208 : Nat) "IceTreatyModel" "shipParty" "[I") ∈ gw := gw_mem (tk_all (tk_7 (List.mem_of_getElem? (i := 136) (by decide +kernel)))) (by decide +kernel)
theorem gw_1577 : (Jvm.Cond.fieldLink "IceTreatyModel" (211 : Nat) "IceTreatyModel" "room" "[I") ∈ gw := gw_mem (tk_all (tk_7 (List.mem_of_getElem? (i := 137) (by decide +kernel)))) (by decide +kernel)
theorem gw_1578 : (Jvm.Cond.fieldLink "IceTreatyModel" (214 : Nat) "IceTreatyModel" "strength" "[I") ∈ gw := gw_mem (tk_all (tk_7 (List.mem_of_getElem? (i := 138) (by decide +kernel)))) (by decide +kernel)
theorem gw_1579 : (Jvm.Cond.fieldLink "IceTreatyModel" (217 : Nat) "IceTreatyModel" "shipState" "[I") ∈ gw := gw_mem (tk_all (tk_7 (List.mem_of_getElem? (i := 139) (by decide +kernel)))) (by decide +kernel)
theorem gw_1580 : (Jvm.Cond.fieldLink "IceTreatyModel" (220 : Nat) "IceTreatyModel" "shipDrums" "[I") ∈ gw := gw_mem (tk_all (tk_7 (List.mem_of_getElem? (i := 140) (by decide +kernel)))) (by decide +kernel)
theorem gw_1581 : (Jvm.Cond.fieldLink "IceTreatyModel" (223 : Nat) "IceTreatyModel" "shipWaste" "[I") ∈ gw := gw_mem (tk_all (tk_7 (List.mem_of_getElem? (i := 141) (by decide +kernel)))) (by decide +kernel)
theorem gw_1582 : (Jvm.Cond.fieldLink "IceTreatyModel" (226 : Nat) "IceTreatyModel" "shipDay" "[I") ∈ gw := gw_mem (tk_all (tk_7 (List.mem_of_getElem? (i := 142) (by decide +kernel)))) (by decide +kernel)
theorem gw_1583 : (Jvm.Cond.fieldLink "IceTreatyModel" (229 : Nat) "IceTreatyModel" "shipWaits" "[I") ∈ gw := gw_mem (tk_all (tk_7 (List.mem_of_getElem? (i := 143) (by decide +kernel)))) (by decide +kernel)
theorem gw_1584 : (Jvm.Cond.fieldLink "IceTreatyModel" (232 : Nat) "IceTreatyModel" "shipSea" "[I") ∈ gw := gw_mem (tk_all (tk_7 (List.mem_of_getElem? (i := 144) (by decide +kernel)))) (by decide +kernel)
theorem gw_1585 : (Jvm.Cond.fieldLink "IceTreatyModel" (235 : Nat) "IceTreatyModel" "shipTo" "[I") ∈ gw := gw_mem (tk_all (tk_7 (List.mem_of_getElem? (i := 145) (by decide +kernel)))) (by decide +kernel)
theorem gw_1586 : (Jvm.Cond.fieldLink "IceTreatyModel" (238 : Nat) "IceTreatyModel" "shipDays" "[I") ∈ gw := gw_mem (tk_all (tk_7 (List.mem_of_getElem? (i := 146) (by decide +kernel)))) (by decide +kernel)
theorem gw_1587 : (Jvm.Cond.fieldLink "IceTreatyModel" (241 : Nat) "IceTreatyModel" "covers" "[I") ∈ gw := gw_mem (tk_all (tk_7 (List.mem_of_getElem? (i := 147) (by decide +kernel)))) (by decide +kernel)
theorem gw_1588 : (Jvm.Cond.fieldLink "IceTreatyModel" (244 : Nat) "IceTreatyModel" "seaDays" "[I") ∈ gw := gw_mem (tk_all (tk_7 (List.mem_of_getElem? (i := 148) (by decide +kernel)))) (by decide +kernel)
theorem gw_1589 : (Jvm.Cond.fieldLink "IceTreatyModel" (247 : Nat) "IceTreatyModel" "sledgeTo" "[I") ∈ gw := gw_mem (tk_all (tk_7 (List.mem_of_getElem? (i := 149) (by decide +kernel)))) (by decide +kernel)
theorem gw_1590 : (Jvm.Cond.fieldLink "IceTreatyModel" (250 : Nat) "IceTreatyModel" "sledgeCell" "[I") ∈ gw := gw_mem (tk_all (tk_7 (List.mem_of_getElem? (i := 150) (by decide +kernel)))) (by decide +kernel)
theorem gw_1591 : (Jvm.Cond.fieldLink "IceTreatyModel" (253 : Nat) "IceTreatyModel" "sledgeDrums" "[I") ∈ gw := gw_mem (tk_all (tk_7 (List.mem_of_getElem? (i := 151) (by decide +kernel)))) (by decide +kernel)
theorem gw_1592 : (Jvm.Cond.fieldLink "IceTreatyModel" (256 : Nat) "IceTreatyModel" "sledgeDay" "[I") ∈ gw := gw_mem (tk_all (tk_7 (List.mem_of_getElem? (i := 152) (by decide +kernel)))) (by decide +kernel)
theorem gw_1593 : (Jvm.Cond.fieldLink "IceTreatyModel" (259 : Nat) "IceTreatyModel" "isOnWay" "[Z") ∈ gw := gw_mem (tk_all (tk_7 (List.mem_of_getElem? (i := 153) (by decide +kernel)))) (by decide +kernel)
theorem gw_1594 : (Jvm.Cond.fieldLink "IceTreatyModel" (262 : Nat) "IceTreatyModel" "visitParty" "[I") ∈ gw := gw_mem (tk_all (tk_7 (List.mem_of_getElem? (i := 154) (by decide +kernel)))) (by decide +kernel)
theorem gw_1595 : (Jvm.Cond.fieldLink "IceTreatyModel" (265 : Nat) "IceTreatyModel" "visitStation" "[I") ∈ gw := gw_mem (tk_all (tk_7 (List.mem_of_getElem? (i := 155) (by decide +kernel)))) (by decide +kernel)
theorem gw_1596 : (Jvm.Cond.fieldLink "IceTreatyModel" (268 : Nat) "IceTreatyModel" "visitDay" "[I") ∈ gw := gw_mem (tk_all (tk_7 (List.mem_of_getElem? (i := 156) (by decide +kernel)))) (by decide +kernel)
theorem gw_1597 : (Jvm.Cond.fieldLink "IceTreatyModel" (271 : Nat) "IceTreatyModel" "visitPeople" "[I") ∈ gw := gw_mem (tk_all (tk_7 (List.mem_of_getElem? (i := 157) (by decide +kernel)))) (by decide +kernel)
theorem gw_1598 : (Jvm.Cond.fieldLink "IceTreatyModel" (274 : Nat) "IceTreatyModel" "visitDrums" "[I") ∈ gw := gw_mem (tk_all (tk_7 (List.mem_of_getElem? (i := 158) (by decide +kernel)))) (by decide +kernel)
theorem gw_1599 : (Jvm.Cond.fieldLink "IceTreatyModel" (277 : Nat) "IceTreatyModel" "days" "[I") ∈ gw := gw_mem (tk_all (tk_7 (List.mem_of_getElem? (i := 159) (by decide +kernel)))) (by decide +kernel)
theorem gw_1600 : (Jvm.Cond.fieldLink "IceTreatyModel" (667 : Nat) "IceTreatyModel" "drills" "I") ∈ gw := gw_mem (tk_all (tk_7 (List.mem_of_getElem? (i := 160) (by decide +kernel)))) (by decide +kernel)
theorem gw_1601 : (Jvm.Cond.fieldLink "IceTreatyModel" (280 : Nat) "IceTreatyModel" "margin" "I") ∈ gw := gw_mem (tk_all (tk_7 (List.mem_of_getElem? (i := 161) (by decide +kernel)))) (by decide +kernel)
theorem gw_1602 : (Jvm.Cond.fieldLink "IceTreatyModel" (709 : Nat) "IceTreatyModel" "catches" "I") ∈ gw := gw_mem (tk_all (tk_7 (List.mem_of_getElem? (i := 162) (by decide +kernel)))) (by decide +kernel)
theorem gw_1603 : (Jvm.Cond.fieldLink "IceTreatyModel" (283 : Nat) "IceTreatyModel" "soundMany" "[I") ∈ gw := gw_mem (tk_all (tk_7 (List.mem_of_getElem? (i := 163) (by decide +kernel)))) (by decide +kernel)
theorem gw_1604 : (Jvm.Cond.fieldLink "IceTreatyModel" (286 : Nat) "IceTreatyModel" "soundDepth" "[I") ∈ gw := gw_mem (tk_all (tk_7 (List.mem_of_getElem? (i := 164) (by decide +kernel)))) (by decide +kernel)
theorem gw_1605 : (Jvm.Cond.fieldLink "IceTreatyModel" (289 : Nat) "IceTreatyModel" "soundWrong" "[I") ∈ gw := gw_mem (tk_all (tk_7 (List.mem_of_getElem? (i := 165) (by decide +kernel)))) (by decide +kernel)
theorem gw_1606 : (Jvm.Cond.fieldLink "IceTreatyModel" (292 : Nat) "IceTreatyModel" "drillSite" "[I") ∈ gw := gw_mem (tk_all (tk_7 (List.mem_of_getElem? (i := 166) (by decide +kernel)))) (by decide +kernel)
theorem gw_1607 : (Jvm.Cond.fieldLink "IceTreatyModel" (295 : Nat) "IceTreatyModel" "drillWork" "[I") ∈ gw := gw_mem (tk_all (tk_7 (List.mem_of_getElem? (i := 167) (by decide +kernel)))) (by decide +kernel)
theorem gw_1608 : (Jvm.Cond.fieldLink "IceTreatyModel" (298 : Nat) "IceTreatyModel" "depth" "[I") ∈ gw := gw_mem (tk_all (tk_7 (List.mem_of_getElem? (i := 168) (by decide +kernel)))) (by decide +kernel)
theorem gw_1609 : (Jvm.Cond.fieldLink "IceTreatyModel" (301 : Nat) "IceTreatyModel" "speeds" "[I") ∈ gw := gw_mem (tk_all (tk_7 (List.mem_of_getElem? (i := 169) (by decide +kernel)))) (by decide +kernel)
theorem gw_1610 : (Jvm.Cond.fieldLink "IceTreatyModel" (304 : Nat) "IceTreatyModel" "catchShip" "[I") ∈ gw := gw_mem (tk_all (tk_7 (List.mem_of_getElem? (i := 170) (by decide +kernel)))) (by decide +kernel)
theorem gw_1611 : (Jvm.Cond.fieldLink "IceTreatyModel" (307 : Nat) "IceTreatyModel" "catchKind" "[I") ∈ gw := gw_mem (tk_all (tk_7 (List.mem_of_getElem? (i := 171) (by decide +kernel)))) (by decide +kernel)
theorem gw_1612 : (Jvm.Cond.fieldLink "IceTreatyModel" (310 : Nat) "IceTreatyModel" "catchSea" "[I") ∈ gw := gw_mem (tk_all (tk_7 (List.mem_of_getElem? (i := 172) (by decide +kernel)))) (by decide +kernel)
theorem gw_1613 : (Jvm.Cond.fieldLink "IceTreatyModel" (313 : Nat) "IceTreatyModel" "catchTonnes" "[I") ∈ gw := gw_mem (tk_all (tk_7 (List.mem_of_getElem? (i := 173) (by decide +kernel)))) (by decide +kernel)
theorem gw_1614 : (Jvm.Cond.fieldLink "IceTreatyModel" (316 : Nat) "IceTreatyModel" "catchDay" "[I") ∈ gw := gw_mem (tk_all (tk_7 (List.mem_of_getElem? (i := 174) (by decide +kernel)))) (by decide +kernel)
theorem gw_1615 : (Jvm.Cond.fieldLink "IceTreatyModel" (718 : Nat) "IceTreatyModel" "words" "I") ∈ gw := gw_mem (tk_all (tk_7 (List.mem_of_getElem? (i := 175) (by decide +kernel)))) (by decide +kernel)
theorem gw_1616 : (Jvm.Cond.fieldLink "IceTreatyModel" (319 : Nat) "IceTreatyModel" "worth" "[I") ∈ gw := gw_mem (tk_all (tk_7 (List.mem_of_getElem? (i := 176) (by decide +kernel)))) (by decide +kernel)
theorem gw_1617 : (Jvm.Cond.fieldLink "IceTreatyModel" (322 : Nat) "IceTreatyModel" "isBarred" "[Z") ∈ gw := gw_mem (tk_all (tk_7 (List.mem_of_getElem? (i := 177) (by decide +kernel)))) (by decide +kernel)
theorem gw_1618 : (Jvm.Cond.fieldLink "IceTreatyModel" (325 : Nat) "IceTreatyModel" "isWanted" "[Z") ∈ gw := gw_mem (tk_all (tk_7 (List.mem_of_getElem? (i := 178) (by decide +kernel)))) (by decide +kernel)
theorem gw_1619 : (Jvm.Cond.fieldLink "IceTreatyModel" (736 : Nat) "IceTreatyModel" "stops" "I") ∈ gw := gw_mem (tk_all (tk_7 (List.mem_of_getElem? (i := 179) (by decide +kernel)))) (by decide +kernel)
theorem gw_1621 : (Jvm.Cond.fieldLink "IceTreatyModel" (328 : Nat) "IceTreatyModel" "stopOf" "[I") ∈ gw := gw_mem (tk_all (tk_7 (List.mem_of_getElem? (i := 181) (by decide +kernel)))) (by decide +kernel)
theorem gw_1622 : (Jvm.Cond.fieldLink "IceTreatyModel" (331 : Nat) "IceTreatyModel" "need" "[I") ∈ gw := gw_mem (tk_all (tk_7 (List.mem_of_getElem? (i := 182) (by decide +kernel)))) (by decide +kernel)
theorem gw_1623 : (Jvm.Cond.fieldLink "IceTreatyModel" (334 : Nat) "IceTreatyModel" "openFrom" "[I") ∈ gw := gw_mem (tk_all (tk_7 (List.mem_of_getElem? (i := 183) (by decide +kernel)))) (by decide +kernel)
theorem gw_1624 : (Jvm.Cond.fieldLink "IceTreatyModel" (337 : Nat) "IceTreatyModel" "openTo" "[I") ∈ gw := gw_mem (tk_all (tk_7 (List.mem_of_getElem? (i := 184) (by decide +kernel)))) (by decide +kernel)
theorem gw_1625 : (Jvm.Cond.fieldLink "IceTreatyModel" (340 : Nat) "IceTreatyModel" "order" "[I") ∈ gw := gw_mem (tk_all (tk_7 (List.mem_of_getElem? (i := 185) (by decide +kernel)))) (by decide +kernel)
theorem gw_1626 : (Jvm.Cond.fieldLink "IceTreatyModel" (343 : Nat) "IceTreatyModel" "bestOrder" "[I") ∈ gw := gw_mem (tk_all (tk_7 (List.mem_of_getElem? (i := 186) (by decide +kernel)))) (by decide +kernel)
theorem gw_1627 : (Jvm.Cond.fieldLink "IceTreatyModel" (761 : Nat) "IceTreatyModel" "reports" "I") ∈ gw := gw_mem (tk_all (tk_7 (List.mem_of_getElem? (i := 187) (by decide +kernel)))) (by decide +kernel)
theorem gw_1628 : (Jvm.Cond.fieldLink "IceTreatyModel" (346 : Nat) "IceTreatyModel" "reportOf" "[I") ∈ gw := gw_mem (tk_all (tk_7 (List.mem_of_getElem? (i := 188) (by decide +kernel)))) (by decide +kernel)
theorem gw_1629 : (Jvm.Cond.fieldLink "IceTreatyModel" (349 : Nat) "IceTreatyModel" "reportDay" "[I") ∈ gw := gw_mem (tk_all (tk_7 (List.mem_of_getElem? (i := 189) (by decide +kernel)))) (by decide +kernel)
theorem gw_1630 : (Jvm.Cond.fieldLink "IceTreatyModel" (352 : Nat) "IceTreatyModel" "reportNumber" "[I") ∈ gw := gw_mem (tk_all (tk_7 (List.mem_of_getElem? (i := 190) (by decide +kernel)))) (by decide +kernel)
theorem gw_1631 : (Jvm.Cond.fieldLink "IceTreatyModel" (355 : Nat) "IceTreatyModel" "reportTold" "[I") ∈ gw := gw_mem (tk_all (tk_7 (List.mem_of_getElem? (i := 191) (by decide +kernel)))) (by decide +kernel)
theorem gw_1632 : (Jvm.Cond.fieldLink "IceTreatyModel" (358 : Nat) "IceTreatyModel" "isNumber" "[Z") ∈ gw := gw_mem (tk_all (tk_7 (List.mem_of_getElem? (i := 192) (by decide +kernel)))) (by decide +kernel)
theorem gw_1936 : (Jvm.Cond.arrayClass Jvm.ClassFile.FieldType.boolean) ∈ gw := gw_mem (tk_all (tk_9 (List.mem_of_getElem? (i := 16) (by decide +kernel)))) (by decide +kernel)
theorem gw_1937 : (Jvm.Cond.methodLink "IceTreatyLaw" (17 : Nat) ({ cls := "IceTreatyModel", name := "ice", desc := "(II)Z" } : Jvm.MethodName)) ∈ gw := gw_mem (tk_all (tk_9 (List.mem_of_getElem? (i := 17) (by decide +kernel)))) (by decide +kernel)
theorem gw_1938 : (Jvm.Cond.instanceMethod ({ cls := "IceTreatyModel", name := "ice", desc := "(II)Z" } : Jvm.MethodName)) ∈ gw := gw_mem (tk_all (tk_9 (List.mem_of_getElem? (i := 18) (by decide +kernel)))) (by decide +kernel)
theorem gw_1939 : (Jvm.Cond.selects "IceTreatyModel" ({ cls := "IceTreatyModel", name := "ice", desc := "(II)Z" } : Jvm.MethodName) ({ cls := "IceTreatyModel", name := "ice", desc := "(II)Z" } : Jvm.MethodName)) ∈ gw := gw_mem (tk_all (tk_9 (List.mem_of_getElem? (i := 19) (by decide +kernel)))) (by decide +kernel)
theorem gw_1940 : (Jvm.Cond.code ({ cls := "IceTreatyModel", name := "ice", desc := "(II)Z" } : Jvm.MethodName) prog_14_method_7_code (3 : Nat) (Option.some Jvm.ClassFile.FieldType.boolean)) ∈ gw := gw_mem (tk_all (tk_9 (List.mem_of_getElem? (i := 20) rfl))) (by decide +kernel)
theorem gw_1941 : (Jvm.Cond.methodLink "IceTreatyModel" (371 : Nat) ({ cls := "IceTreatyModel", name := "in", desc := "(III)Z" } : Jvm.MethodName)) ∈ gw := gw_mem (tk_all (tk_9 (List.mem_of_getElem? (i := 21) (by decide +kernel)))) (by decide +kernel)
theorem gw_1942 : (Jvm.Cond.static ({ cls := "IceTreatyModel", name := "in", desc := "(III)Z" } : Jvm.MethodName)) ∈ gw := gw_mem (tk_all (tk_9 (List.mem_of_getElem? (i := 22) (by decide +kernel)))) (by decide +kernel)
theorem gw_1943 : (Jvm.Cond.code ({ cls := "IceTreatyModel", name := "in", desc := "(III)Z" } : Jvm.MethodName) prog_14_method_2_code (3 : Nat) (Option.some Jvm.ClassFile.FieldType.boolean)) ∈ gw := gw_mem (tk_all (tk_9 (List.mem_of_getElem? (i := 23) rfl))) (by decide +kernel)
theorem gw_1944 : (Jvm.Cond.methodLink "IceTreatyLaw" (22 : Nat) ({ cls := "IceTreatyModel", name := "cell", desc := "(IIIII)Z" } : Jvm.MethodName)) ∈ gw := gw_mem (tk_all (tk_9 (List.mem_of_getElem? (i := 24) (by decide +kernel)))) (by decide +kernel)
theorem gw_1945 : (Jvm.Cond.instanceMethod ({ cls := "IceTreatyModel", name := "cell", desc := "(IIIII)Z" } : Jvm.MethodName)) ∈ gw := gw_mem (tk_all (tk_9 (List.mem_of_getElem? (i := 25) (by decide +kernel)))) (by decide +kernel)
theorem gw_1946 : (Jvm.Cond.selects "IceTreatyModel" ({ cls := "IceTreatyModel", name := "cell", desc := "(IIIII)Z" } : Jvm.MethodName) ({ cls := "IceTreatyModel", name := "cell", desc := "(IIIII)Z" } : Jvm.MethodName)) ∈ gw := gw_mem (tk_all (tk_9 (List.mem_of_getElem? (i := 26) (by decide +kernel)))) (by decide +kernel)
theorem gw_1947 : (Jvm.Cond.code ({ cls := "IceTreatyModel", name := "cell", desc := "(IIIII)Z" } : Jvm.MethodName) prog_14_method_8_code (6 : Nat) (Option.some Jvm.ClassFile.FieldType.boolean)) ∈ gw := gw_mem (tk_all (tk_9 (List.mem_of_getElem? (i := 27) rfl))) (by decide +kernel)
theorem gw_1948 : (Jvm.Cond.methodLink "IceTreatyModel" (381 : Nat) ({ cls := "IceTreatyModel", name := "isCell", desc := "(I)Z" } : Jvm.MethodName)) ∈ gw := gw_mem (tk_all (tk_9 (List.mem_of_getElem? (i := 28) (by decide +kernel)))) (by decide +kernel)
theorem gw_1950 : (Jvm.Cond.instanceMethod ({ cls := "IceTreatyModel", name := "isCell", desc := "(I)Z" } : Jvm.MethodName)) ∈ gw := gw_mem (tk_all (tk_9 (List.mem_of_getElem? (i := 30) (by decide +kernel)))) (by decide +kernel)
theorem gw_1951 : (Jvm.Cond.code ({ cls := "IceTreatyModel", name := "isCell", desc := "(I)Z" } : Jvm.MethodName) prog_14_method_5_code (2 : Nat) (Option.some Jvm.ClassFile.FieldType.boolean)) ∈ gw := gw_mem (tk_all (tk_9 (List.mem_of_getElem? (i := 31) rfl))) (by decide +kernel)
theorem gw_1952 : (Jvm.Cond.methodLink "IceTreatyLaw" (26 : Nat) ({ cls := "IceTreatyModel", name := "dark", desc := "(II)Z" } : Jvm.MethodName)) ∈ gw := gw_mem (tk_all (tk_9 (List.mem_of_getElem? (i := 32) (by decide +kernel)))) (by decide +kernel)
theorem gw_1953 : (Jvm.Cond.instanceMethod ({ cls := "IceTreatyModel", name := "dark", desc := "(II)Z" } : Jvm.MethodName)) ∈ gw := gw_mem (tk_all (tk_9 (List.mem_of_getElem? (i := 33) (by decide +kernel)))) (by decide +kernel)
theorem gw_1954 : (Jvm.Cond.selects "IceTreatyModel" ({ cls := "IceTreatyModel", name := "dark", desc := "(II)Z" } : Jvm.MethodName) ({ cls := "IceTreatyModel", name := "dark", desc := "(II)Z" } : Jvm.MethodName)) ∈ gw := gw_mem (tk_all (tk_9 (List.mem_of_getElem? (i := 34) (by decide +kernel)))) (by decide +kernel)
theorem gw_1955 : (Jvm.Cond.code ({ cls := "IceTreatyModel", name := "dark", desc := "(II)Z" } : Jvm.MethodName) prog_14_method_9_code (3 : Nat) (Option.some Jvm.ClassFile.FieldType.boolean)) ∈ gw := gw_mem (tk_all (tk_9 (List.mem_of_getElem? (i := 35) rfl))) (by decide +kernel)
theorem gw_1956 : (Jvm.Cond.methodLink "IceTreatyLaw" (31 : Nat) ({ cls := "IceTreatyModel", name := "party", desc := "(Z)I" } : Jvm.MethodName)) ∈ gw := gw_mem (tk_all (tk_9 (List.mem_of_getElem? (i := 36) (by decide +kernel)))) (by decide +kernel)
theorem gw_1957 : (Jvm.Cond.instanceMethod ({ cls := "IceTreatyModel", name := "party", desc := "(Z)I" } : Jvm.MethodName)) ∈ gw := gw_mem (tk_all (tk_9 (List.mem_of_getElem? (i := 37) (by decide +kernel)))) (by decide +kernel)
theorem gw_1958 : (Jvm.Cond.selects "IceTreatyModel" ({ cls := "IceTreatyModel", name := "party", desc := "(Z)I" } : Jvm.MethodName) ({ cls := "IceTreatyModel", name := "party", desc := "(Z)I" } : Jvm.MethodName)) ∈ gw := gw_mem (tk_all (tk_9 (List.mem_of_getElem? (i := 38) (by decide +kernel)))) (by decide +kernel)
theorem gw_1959 : (Jvm.Cond.code ({ cls := "IceTreatyModel", name := "party", desc := "(Z)I" } : Jvm.MethodName) prog_14_method_17_code (2 : Nat) (Option.some Jvm.ClassFile.FieldType.int)) ∈ gw := gw_mem (tk_all (tk_9 (List.mem_of_getElem? (i := 39) rfl))) (by decide +kernel)
theorem gw_1960 : (Jvm.Cond.methodLink "IceTreatyLaw" (88 : Nat) ({ cls := "IceTreatyModel", name := "decides", desc := "(II)I" } : Jvm.MethodName)) ∈ gw := gw_mem (tk_all (tk_9 (List.mem_of_getElem? (i := 40) (by decide +kernel)))) (by decide +kernel)
theorem gw_1961 : (Jvm.Cond.instanceMethod ({ cls := "IceTreatyModel", name := "decides", desc := "(II)I" } : Jvm.MethodName)) ∈ gw := gw_mem (tk_all (tk_9 (List.mem_of_getElem? (i := 41) (by decide +kernel)))) (by decide +kernel)
theorem gw_1962 : (Jvm.Cond.selects "IceTreatyModel" ({ cls := "IceTreatyModel", name := "decides", desc := "(II)I" } : Jvm.MethodName) ({ cls := "IceTreatyModel", name := "decides", desc := "(II)I" } : Jvm.MethodName)) ∈ gw := gw_mem (tk_all (tk_9 (List.mem_of_getElem? (i := 42) (by decide +kernel)))) (by decide +kernel)
theorem gw_1963 : (Jvm.Cond.code ({ cls := "IceTreatyModel", name := "decides", desc := "(II)I" } : Jvm.MethodName) prog_14_method_23_code (3 : Nat) (Option.some Jvm.ClassFile.FieldType.int)) ∈ gw := gw_mem (tk_all (tk_9 (List.mem_of_getElem? (i := 43) rfl))) (by decide +kernel)
theorem gw_1964 : (Jvm.Cond.methodLink "IceTreatyModel" (406 : Nat) ({ cls := "IceTreatyModel", name := "isParty", desc := "(I)Z" } : Jvm.MethodName)) ∈ gw := gw_mem (tk_all (tk_9 (List.mem_of_getElem? (i := 44) (by decide +kernel)))) (by decide +kernel)
theorem gw_1966 : (Jvm.Cond.instanceMethod ({ cls := "IceTreatyModel", name := "isParty", desc := "(I)Z" } : Jvm.MethodName)) ∈ gw := gw_mem (tk_all (tk_9 (List.mem_of_getElem? (i := 46) (by decide +kernel)))) (by decide +kernel)
theorem gw_1967 : (Jvm.Cond.code ({ cls := "IceTreatyModel", name := "isParty", desc := "(I)Z" } : Jvm.MethodName) prog_14_method_18_code (2 : Nat) (Option.some Jvm.ClassFile.FieldType.boolean)) ∈ gw := gw_mem (tk_all (tk_9 (List.mem_of_getElem? (i := 47) rfl))) (by decide +kernel)
theorem gw_1968 : (Jvm.Cond.methodLink "IceTreatyModel" (409 : Nat) ({ cls := "IceTreatyModel", name := "isDay", desc := "(I)Z" } : Jvm.MethodName)) ∈ gw := gw_mem (tk_all (tk_9 (List.mem_of_getElem? (i := 48) (by decide +kernel)))) (by decide +kernel)
theorem gw_1969 : (Jvm.Cond.static ({ cls := "IceTreatyModel", name := "isDay", desc := "(I)Z" } : Jvm.MethodName)) ∈ gw := gw_mem (tk_all (tk_9 (List.mem_of_getElem? (i := 49) (by decide +kernel)))) (by decide +kernel)
theorem gw_1970 : (Jvm.Cond.code ({ cls := "IceTreatyModel", name := "isDay", desc := "(I)Z" } : Jvm.MethodName) prog_14_method_6_code (1 : Nat) (Option.some Jvm.ClassFile.FieldType.boolean)) ∈ gw := gw_mem (tk_all (tk_9 (List.mem_of_getElem? (i := 50) rfl))) (by decide +kernel)
theorem gw_1975 : (Jvm.Cond.methodLink "IceTreatyLaw" (36 : Nat) ({ cls := "IceTreatyModel", name := "claim", desc := "(IIII)I" } : Jvm.MethodName)) ∈ gw := gw_mem (tk_all (tk_9 (List.mem_of_getElem? (i := 55) (by decide +kernel)))) (by decide +kernel)
theorem gw_1976 : (Jvm.Cond.instanceMethod ({ cls := "IceTreatyModel", name := "claim", desc := "(IIII)I" } : Jvm.MethodName)) ∈ gw := gw_mem (tk_all (tk_9 (List.mem_of_getElem? (i := 56) (by decide +kernel)))) (by decide +kernel)
theorem gw_1977 : (Jvm.Cond.selects "IceTreatyModel" ({ cls := "IceTreatyModel", name := "claim", desc := "(IIII)I" } : Jvm.MethodName) ({ cls := "IceTreatyModel", name := "claim", desc := "(IIII)I" } : Jvm.MethodName)) ∈ gw := gw_mem (tk_all (tk_9 (List.mem_of_getElem? (i := 57) (by decide +kernel)))) (by decide +kernel)
theorem gw_1978 : (Jvm.Cond.code ({ cls := "IceTreatyModel", name := "claim", desc := "(IIII)I" } : Jvm.MethodName) prog_14_method_27_code (5 : Nat) (Option.some Jvm.ClassFile.FieldType.int)) ∈ gw := gw_mem (tk_all (tk_9 (List.mem_of_getElem? (i := 58) rfl))) (by decide +kernel)
theorem gw_1979 : (Jvm.Cond.methodLink "IceTreatyModel" (415 : Nat) ({ cls := "IceTreatyModel", name := "isRectangle", desc := "(II)Z" } : Jvm.MethodName)) ∈ gw := gw_mem (tk_all (tk_9 (List.mem_of_getElem? (i := 59) (by decide +kernel)))) (by decide +kernel)
theorem gw_1981 : (Jvm.Cond.instanceMethod ({ cls := "IceTreatyModel", name := "isRectangle", desc := "(II)Z" } : Jvm.MethodName)) ∈ gw := gw_mem (tk_all (tk_9 (List.mem_of_getElem? (i := 61) (by decide +kernel)))) (by decide +kernel)
theorem gw_1982 : (Jvm.Cond.code ({ cls := "IceTreatyModel", name := "isRectangle", desc := "(II)Z" } : Jvm.MethodName) prog_14_method_25_code (3 : Nat) (Option.some Jvm.ClassFile.FieldType.boolean)) ∈ gw := gw_mem (tk_all (tk_9 (List.mem_of_getElem? (i := 62) rfl))) (by decide +kernel)
theorem gw_1999 : (Jvm.Cond.methodLink "IceTreatyModel" (421 : Nat) ({ cls := "IceTreatyModel", name := "place", desc := "(IIIII)I" } : Jvm.MethodName)) ∈ gw := gw_mem (tk_all (tk_9 (List.mem_of_getElem? (i := 79) (by decide +kernel)))) (by decide +kernel)
theorem gw_2001 : (Jvm.Cond.instanceMethod ({ cls := "IceTreatyModel", name := "place", desc := "(IIIII)I" } : Jvm.MethodName)) ∈ gw := gw_mem (tk_all (tk_9 (List.mem_of_getElem? (i := 81) (by decide +kernel)))) (by decide +kernel)
theorem gw_2002 : (Jvm.Cond.code ({ cls := "IceTreatyModel", name := "place", desc := "(IIIII)I" } : Jvm.MethodName) prog_14_method_24_code (6 : Nat) (Option.some Jvm.ClassFile.FieldType.int)) ∈ gw := gw_mem (tk_all (tk_9 (List.mem_of_getElem? (i := 82) rfl))) (by decide +kernel)
theorem gw_2003 : (Jvm.Cond.methodLink "IceTreatyLaw" (40 : Nat) ({ cls := "IceTreatyModel", name := "title", desc := "(II)Z" } : Jvm.MethodName)) ∈ gw := gw_mem (tk_all (tk_9 (List.mem_of_getElem? (i := 83) (by decide +kernel)))) (by decide +kernel)
theorem gw_2004 : (Jvm.Cond.instanceMethod ({ cls := "IceTreatyModel", name := "title", desc := "(II)Z" } : Jvm.MethodName)) ∈ gw := gw_mem (tk_all (tk_9 (List.mem_of_getElem? (i := 84) (by decide +kernel)))) (by decide +kernel)
theorem gw_2005 : (Jvm.Cond.selects "IceTreatyModel" ({ cls := "IceTreatyModel", name := "title", desc := "(II)Z" } : Jvm.MethodName) ({ cls := "IceTreatyModel", name := "title", desc := "(II)Z" } : Jvm.MethodName)) ∈ gw := gw_mem (tk_all (tk_9 (List.mem_of_getElem? (i := 85) (by decide +kernel)))) (by decide +kernel)
theorem gw_2006 : (Jvm.Cond.code ({ cls := "IceTreatyModel", name := "title", desc := "(II)Z" } : Jvm.MethodName) prog_14_method_28_code (3 : Nat) (Option.some Jvm.ClassFile.FieldType.boolean)) ∈ gw := gw_mem (tk_all (tk_9 (List.mem_of_getElem? (i := 86) rfl))) (by decide +kernel)
theorem gw_2007 : (Jvm.Cond.methodLink "IceTreatyModel" (399 : Nat) ({ cls := "IceTreatyModel", name := "isPlace", desc := "(II)Z" } : Jvm.MethodName)) ∈ gw := gw_mem (tk_all (tk_9 (List.mem_of_getElem? (i := 87) (by decide +kernel)))) (by decide +kernel)
theorem gw_2009 : (Jvm.Cond.instanceMethod ({ cls := "IceTreatyModel", name := "isPlace", desc := "(II)Z" } : Jvm.MethodName)) ∈ gw := gw_mem (tk_all (tk_9 (List.mem_of_getElem? (i := 89) (by decide +kernel)))) (by decide +kernel)
theorem gw_2010 : (Jvm.Cond.code ({ cls := "IceTreatyModel", name := "isPlace", desc := "(II)Z" } : Jvm.MethodName) prog_14_method_19_code (3 : Nat) (Option.some Jvm.ClassFile.FieldType.boolean)) ∈ gw := gw_mem (tk_all (tk_9 (List.mem_of_getElem? (i := 90) rfl))) (by decide +kernel)
theorem gw_2011 : (Jvm.Cond.methodLink "IceTreatyLaw" (44 : Nat) ({ cls := "IceTreatyModel", name := "station", desc := "(IIII)I" } : Jvm.MethodName)) ∈ gw := gw_mem (tk_all (tk_9 (List.mem_of_getElem? (i := 91) (by decide +kernel)))) (by decide +kernel)
theorem gw_2012 : (Jvm.Cond.instanceMethod ({ cls := "IceTreatyModel", name := "station", desc := "(IIII)I" } : Jvm.MethodName)) ∈ gw := gw_mem (tk_all (tk_9 (List.mem_of_getElem? (i := 92) (by decide +kernel)))) (by decide +kernel)
theorem gw_2013 : (Jvm.Cond.selects "IceTreatyModel" ({ cls := "IceTreatyModel", name := "station", desc := "(IIII)I" } : Jvm.MethodName) ({ cls := "IceTreatyModel", name := "station", desc := "(IIII)I" } : Jvm.MethodName)) ∈ gw := gw_mem (tk_all (tk_9 (List.mem_of_getElem? (i := 93) (by decide +kernel)))) (by decide +kernel)
theorem gw_2014 : (Jvm.Cond.code ({ cls := "IceTreatyModel", name := "station", desc := "(IIII)I" } : Jvm.MethodName) prog_14_method_29_code (5 : Nat) (Option.some Jvm.ClassFile.FieldType.int)) ∈ gw := gw_mem (tk_all (tk_9 (List.mem_of_getElem? (i := 94) rfl))) (by decide +kernel)
theorem gw_2020 : (Jvm.Cond.methodLink "IceTreatyLaw" (49 : Nat) ({ cls := "IceTreatyModel", name := "field", desc := "(II)I" } : Jvm.MethodName)) ∈ gw := gw_mem (tk_all (tk_9 (List.mem_of_getElem? (i := 100) (by decide +kernel)))) (by decide +kernel)
theorem gw_2021 : (Jvm.Cond.instanceMethod ({ cls := "IceTreatyModel", name := "field", desc := "(II)I" } : Jvm.MethodName)) ∈ gw := gw_mem (tk_all (tk_9 (List.mem_of_getElem? (i := 101) (by decide +kernel)))) (by decide +kernel)
theorem gw_2022 : (Jvm.Cond.selects "IceTreatyModel" ({ cls := "IceTreatyModel", name := "field", desc := "(II)I" } : Jvm.MethodName) ({ cls := "IceTreatyModel", name := "field", desc := "(II)I" } : Jvm.MethodName)) ∈ gw := gw_mem (tk_all (tk_9 (List.mem_of_getElem? (i := 102) (by decide +kernel)))) (by decide +kernel)
theorem gw_2023 : (Jvm.Cond.code ({ cls := "IceTreatyModel", name := "field", desc := "(II)I" } : Jvm.MethodName) prog_14_method_30_code (3 : Nat) (Option.some Jvm.ClassFile.FieldType.int)) ∈ gw := gw_mem (tk_all (tk_9 (List.mem_of_getElem? (i := 103) rfl))) (by decide +kernel)
theorem gw_2024 : (Jvm.Cond.methodLink "IceTreatyModel" (433 : Nat) ({ cls := "IceTreatyModel", name := "stands", desc := "(I)Z" } : Jvm.MethodName)) ∈ gw := gw_mem (tk_all (tk_9 (List.mem_of_getElem? (i := 104) (by decide +kernel)))) (by decide +kernel)
theorem gw_2026 : (Jvm.Cond.instanceMethod ({ cls := "IceTreatyModel", name := "stands", desc := "(I)Z" } : Jvm.MethodName)) ∈ gw := gw_mem (tk_all (tk_9 (List.mem_of_getElem? (i := 106) (by decide +kernel)))) (by decide +kernel)
theorem gw_2027 : (Jvm.Cond.code ({ cls := "IceTreatyModel", name := "stands", desc := "(I)Z" } : Jvm.MethodName) prog_14_method_21_code (2 : Nat) (Option.some Jvm.ClassFile.FieldType.boolean)) ∈ gw := gw_mem (tk_all (tk_9 (List.mem_of_getElem? (i := 107) rfl))) (by decide +kernel)
theorem gw_2028 : (Jvm.Cond.methodLink "IceTreatyModel" (403 : Nat) ({ cls := "IceTreatyModel", name := "isStation", desc := "(I)Z" } : Jvm.MethodName)) ∈ gw := gw_mem (tk_all (tk_9 (List.mem_of_getElem? (i := 108) (by decide +kernel)))) (by decide +kernel)
theorem gw_2030 : (Jvm.Cond.instanceMethod ({ cls := "IceTreatyModel", name := "isStation", desc := "(I)Z" } : Jvm.MethodName)) ∈ gw := gw_mem (tk_all (tk_9 (List.mem_of_getElem? (i := 110) (by decide +kernel)))) (by decide +kernel)
theorem gw_2031 : (Jvm.Cond.code ({ cls := "IceTreatyModel", name := "isStation", desc := "(I)Z" } : Jvm.MethodName) prog_14_method_20_code (2 : Nat) (Option.some Jvm.ClassFile.FieldType.boolean)) ∈ gw := gw_mem (tk_all (tk_9 (List.mem_of_getElem? (i := 111) rfl))) (by decide +kernel)
theorem gw_2032 : (Jvm.Cond.methodLink "IceTreatyLaw" (54 : Nat) ({ cls := "IceTreatyModel", name := "reserve", desc := "(III)I" } : Jvm.MethodName)) ∈ gw := gw_mem (tk_all (tk_9 (List.mem_of_getElem? (i := 112) (by decide +kernel)))) (by decide +kernel)
theorem gw_2033 : (Jvm.Cond.instanceMethod ({ cls := "IceTreatyModel", name := "reserve", desc := "(III)I" } : Jvm.MethodName)) ∈ gw := gw_mem (tk_all (tk_9 (List.mem_of_getElem? (i := 113) (by decide +kernel)))) (by decide +kernel)
theorem gw_2034 : (Jvm.Cond.selects "IceTreatyModel" ({ cls := "IceTreatyModel", name := "reserve", desc := "(III)I" } : Jvm.MethodName) ({ cls := "IceTreatyModel", name := "reserve", desc := "(III)I" } : Jvm.MethodName)) ∈ gw := gw_mem (tk_all (tk_9 (List.mem_of_getElem? (i := 114) (by decide +kernel)))) (by decide +kernel)
theorem gw_2035 : (Jvm.Cond.code ({ cls := "IceTreatyModel", name := "reserve", desc := "(III)I" } : Jvm.MethodName) prog_14_method_31_code (4 : Nat) (Option.some Jvm.ClassFile.FieldType.int)) ∈ gw := gw_mem (tk_all (tk_9 (List.mem_of_getElem? (i := 115) rfl))) (by decide +kernel)
theorem gw_2036 : (Jvm.Cond.methodLink "IceTreatyLaw" (59 : Nat) ({ cls := "IceTreatyModel", name := "site", desc := "(IZ)I" } : Jvm.MethodName)) ∈ gw := gw_mem (tk_all (tk_9 (List.mem_of_getElem? (i := 116) (by decide +kernel)))) (by decide +kernel)
theorem gw_2037 : (Jvm.Cond.instanceMethod ({ cls := "IceTreatyModel", name := "site", desc := "(IZ)I" } : Jvm.MethodName)) ∈ gw := gw_mem (tk_all (tk_9 (List.mem_of_getElem? (i := 117) (by decide +kernel)))) (by decide +kernel)
theorem gw_2038 : (Jvm.Cond.selects "IceTreatyModel" ({ cls := "IceTreatyModel", name := "site", desc := "(IZ)I" } : Jvm.MethodName) ({ cls := "IceTreatyModel", name := "site", desc := "(IZ)I" } : Jvm.MethodName)) ∈ gw := gw_mem (tk_all (tk_9 (List.mem_of_getElem? (i := 118) (by decide +kernel)))) (by decide +kernel)
theorem gw_2039 : (Jvm.Cond.code ({ cls := "IceTreatyModel", name := "site", desc := "(IZ)I" } : Jvm.MethodName) prog_14_method_32_code (3 : Nat) (Option.some Jvm.ClassFile.FieldType.int)) ∈ gw := gw_mem (tk_all (tk_9 (List.mem_of_getElem? (i := 119) rfl))) (by decide +kernel)
theorem gw_2040 : (Jvm.Cond.methodLink "IceTreatyLaw" (64 : Nat) ({ cls := "IceTreatyModel", name := "feed", desc := "(IIIII)I" } : Jvm.MethodName)) ∈ gw := gw_mem (tk_all (tk_9 (List.mem_of_getElem? (i := 120) (by decide +kernel)))) (by decide +kernel)
theorem gw_2041 : (Jvm.Cond.instanceMethod ({ cls := "IceTreatyModel", name := "feed", desc := "(IIIII)I" } : Jvm.MethodName)) ∈ gw := gw_mem (tk_all (tk_9 (List.mem_of_getElem? (i := 121) (by decide +kernel)))) (by decide +kernel)
theorem gw_2042 : (Jvm.Cond.selects "IceTreatyModel" ({ cls := "IceTreatyModel", name := "feed", desc := "(IIIII)I" } : Jvm.MethodName) ({ cls := "IceTreatyModel", name := "feed", desc := "(IIIII)I" } : Jvm.MethodName)) ∈ gw := gw_mem (tk_all (tk_9 (List.mem_of_getElem? (i := 122) (by decide +kernel)))) (by decide +kernel)
theorem gw_2043 : (Jvm.Cond.code ({ cls := "IceTreatyModel", name := "feed", desc := "(IIIII)I" } : Jvm.MethodName) prog_14_method_34_code (6 : Nat) (Option.some Jvm.ClassFile.FieldType.int)) ∈ gw := gw_mem (tk_all (tk_9 (List.mem_of_getElem? (i := 123) rfl))) (by decide +kernel)
theorem gw_2044 : (Jvm.Cond.methodLink "IceTreatyModel" (439 : Nat) ({ cls := "IceTreatyModel", name := "types", desc := "(I)V" } : Jvm.MethodName)) ∈ gw := gw_mem (tk_all (tk_9 (List.mem_of_getElem? (i := 124) (by decide +kernel)))) (by decide +kernel)
theorem gw_2046 : (Jvm.Cond.instanceMethod ({ cls := "IceTreatyModel", name := "types", desc := "(I)V" } : Jvm.MethodName)) ∈ gw := gw_mem (tk_all (tk_9 (List.mem_of_getElem? (i := 126) (by decide +kernel)))) (by decide +kernel)
theorem gw_2047 : (Jvm.Cond.code ({ cls := "IceTreatyModel", name := "types", desc := "(I)V" } : Jvm.MethodName) prog_14_method_33_code (3 : Nat) (Option.none : Option Jvm.ClassFile.FieldType)) ∈ gw := gw_mem (tk_all (tk_9 (List.mem_of_getElem? (i := 127) rfl))) (by decide +kernel)
theorem gw_2048 : (Jvm.Cond.methodLink "IceTreatyLaw" (68 : Nat) ({ cls := "IceTreatyModel", name := "text", desc := "(III)I" } : Jvm.MethodName)) ∈ gw := gw_mem (tk_all (tk_9 (List.mem_of_getElem? (i := 128) (by decide +kernel)))) (by decide +kernel)
theorem gw_2049 : (Jvm.Cond.instanceMethod ({ cls := "IceTreatyModel", name := "text", desc := "(III)I" } : Jvm.MethodName)) ∈ gw := gw_mem (tk_all (tk_9 (List.mem_of_getElem? (i := 129) (by decide +kernel)))) (by decide +kernel)
theorem gw_2050 : (Jvm.Cond.selects "IceTreatyModel" ({ cls := "IceTreatyModel", name := "text", desc := "(III)I" } : Jvm.MethodName) ({ cls := "IceTreatyModel", name := "text", desc := "(III)I" } : Jvm.MethodName)) ∈ gw := gw_mem (tk_all (tk_9 (List.mem_of_getElem? (i := 130) (by decide +kernel)))) (by decide +kernel)
theorem gw_2051 : (Jvm.Cond.code ({ cls := "IceTreatyModel", name := "text", desc := "(III)I" } : Jvm.MethodName) prog_14_method_57_code (7 : Nat) (Option.some Jvm.ClassFile.FieldType.int)) ∈ gw := gw_mem (tk_all (tk_9 (List.mem_of_getElem? (i := 131) rfl))) (by decide +kernel)
theorem gw_2138 : (Jvm.Cond.methodLink "IceTreatyLaw" (72 : Nat) ({ cls := "IceTreatyModel", name := "yes", desc := "(II)Z" } : Jvm.MethodName)) ∈ gw := gw_mem (tk_all (tk_9 (List.mem_of_getElem? (i := 218) (by decide +kernel)))) (by decide +kernel)
theorem gw_2139 : (Jvm.Cond.instanceMethod ({ cls := "IceTreatyModel", name := "yes", desc := "(II)Z" } : Jvm.MethodName)) ∈ gw := gw_mem (tk_all (tk_9 (List.mem_of_getElem? (i := 219) (by decide +kernel)))) (by decide +kernel)
theorem gw_2140 : (Jvm.Cond.selects "IceTreatyModel" ({ cls := "IceTreatyModel", name := "yes", desc := "(II)Z" } : Jvm.MethodName) ({ cls := "IceTreatyModel", name := "yes", desc := "(II)Z" } : Jvm.MethodName)) ∈ gw := gw_mem (tk_all (tk_9 (List.mem_of_getElem? (i := 220) (by decide +kernel)))) (by decide +kernel)
theorem gw_2141 : (Jvm.Cond.code ({ cls := "IceTreatyModel", name := "yes", desc := "(II)Z" } : Jvm.MethodName) prog_14_method_60_code (3 : Nat) (Option.some Jvm.ClassFile.FieldType.boolean)) ∈ gw := gw_mem (tk_all (tk_9 (List.mem_of_getElem? (i := 221) rfl))) (by decide +kernel)
theorem gw_2142 : (Jvm.Cond.methodLink "IceTreatyModel" (541 : Nat) ({ cls := "IceTreatyModel", name := "isText", desc := "(I)Z" } : Jvm.MethodName)) ∈ gw := gw_mem (tk_all (tk_9 (List.mem_of_getElem? (i := 222) (by decide +kernel)))) (by decide +kernel)
theorem gw_2144 : (Jvm.Cond.instanceMethod ({ cls := "IceTreatyModel", name := "isText", desc := "(I)Z" } : Jvm.MethodName)) ∈ gw := gw_mem (tk_all (tk_9 (List.mem_of_getElem? (i := 224) (by decide +kernel)))) (by decide +kernel)
theorem gw_2145 : (Jvm.Cond.code ({ cls := "IceTreatyModel", name := "isText", desc := "(I)Z" } : Jvm.MethodName) prog_14_method_58_code (2 : Nat) (Option.some Jvm.ClassFile.FieldType.boolean)) ∈ gw := gw_mem (tk_all (tk_9 (List.mem_of_getElem? (i := 225) rfl))) (by decide +kernel)
theorem gw_2146 : (Jvm.Cond.methodLink "IceTreatyLaw" (76 : Nat) ({ cls := "IceTreatyModel", name := "reading", desc := "(IIII)I" } : Jvm.MethodName)) ∈ gw := gw_mem (tk_all (tk_9 (List.mem_of_getElem? (i := 226) (by decide +kernel)))) (by decide +kernel)
theorem gw_2147 : (Jvm.Cond.instanceMethod ({ cls := "IceTreatyModel", name := "reading", desc := "(IIII)I" } : Jvm.MethodName)) ∈ gw := gw_mem (tk_all (tk_9 (List.mem_of_getElem? (i := 227) (by decide +kernel)))) (by decide +kernel)
theorem gw_2148 : (Jvm.Cond.selects "IceTreatyModel" ({ cls := "IceTreatyModel", name := "reading", desc := "(IIII)I" } : Jvm.MethodName) ({ cls := "IceTreatyModel", name := "reading", desc := "(IIII)I" } : Jvm.MethodName)) ∈ gw := gw_mem (tk_all (tk_9 (List.mem_of_getElem? (i := 228) (by decide +kernel)))) (by decide +kernel)
theorem gw_2149 : (Jvm.Cond.code ({ cls := "IceTreatyModel", name := "reading", desc := "(IIII)I" } : Jvm.MethodName) prog_14_method_61_code (7 : Nat) (Option.some Jvm.ClassFile.FieldType.int)) ∈ gw := gw_mem (tk_all (tk_9 (List.mem_of_getElem? (i := 229) rfl))) (by decide +kernel)
theorem gw_2154 : (Jvm.Cond.methodLink "IceTreatyLaw" (80 : Nat) ({ cls := "IceTreatyModel", name := "counts", desc := "(III)I" } : Jvm.MethodName)) ∈ gw := gw_mem (tk_all (tk_9 (List.mem_of_getElem? (i := 234) (by decide +kernel)))) (by decide +kernel)
theorem gw_2155 : (Jvm.Cond.instanceMethod ({ cls := "IceTreatyModel", name := "counts", desc := "(III)I" } : Jvm.MethodName)) ∈ gw := gw_mem (tk_all (tk_9 (List.mem_of_getElem? (i := 235) (by decide +kernel)))) (by decide +kernel)
theorem gw_2156 : (Jvm.Cond.selects "IceTreatyModel" ({ cls := "IceTreatyModel", name := "counts", desc := "(III)I" } : Jvm.MethodName) ({ cls := "IceTreatyModel", name := "counts", desc := "(III)I" } : Jvm.MethodName)) ∈ gw := gw_mem (tk_all (tk_9 (List.mem_of_getElem? (i := 236) (by decide +kernel)))) (by decide +kernel)
theorem gw_2157 : (Jvm.Cond.code ({ cls := "IceTreatyModel", name := "counts", desc := "(III)I" } : Jvm.MethodName) prog_14_method_65_code (6 : Nat) (Option.some Jvm.ClassFile.FieldType.int)) ∈ gw := gw_mem (tk_all (tk_9 (List.mem_of_getElem? (i := 237) rfl))) (by decide +kernel)
theorem gw_2158 : (Jvm.Cond.methodLink "IceTreatyLaw" (84 : Nat) ({ cls := "IceTreatyModel", name := "number", desc := "(III)I" } : Jvm.MethodName)) ∈ gw := gw_mem (tk_all (tk_9 (List.mem_of_getElem? (i := 238) (by decide +kernel)))) (by decide +kernel)
theorem gw_2159 : (Jvm.Cond.instanceMethod ({ cls := "IceTreatyModel", name := "number", desc := "(III)I" } : Jvm.MethodName)) ∈ gw := gw_mem (tk_all (tk_9 (List.mem_of_getElem? (i := 239) (by decide +kernel)))) (by decide +kernel)
theorem gw_2160 : (Jvm.Cond.selects "IceTreatyModel" ({ cls := "IceTreatyModel", name := "number", desc := "(III)I" } : Jvm.MethodName) ({ cls := "IceTreatyModel", name := "number", desc := "(III)I" } : Jvm.MethodName)) ∈ gw := gw_mem (tk_all (tk_10 (List.mem_of_getElem? (i := 0) (by decide +kernel)))) (by decide +kernel)
theorem gw_2161 : (Jvm.Cond.code ({ cls := "IceTreatyModel", name := "number", desc := "(III)I" } : Jvm.MethodName) prog_14_method_69_code (4 : Nat) (Option.some Jvm.ClassFile.FieldType.int)) ∈ gw := gw_mem (tk_all (tk_10 (List.mem_of_getElem? (i := 1) rfl))) (by decide +kernel)
theorem gw_2170 : (Jvm.Cond.methodLink "IceTreatyLaw" (93 : Nat) ({ cls := "IceTreatyModel", name := "work", desc := "(IIIIIII)I" } : Jvm.MethodName)) ∈ gw := gw_mem (tk_all (tk_10 (List.mem_of_getElem? (i := 10) (by decide +kernel)))) (by decide +kernel)
theorem gw_2171 : (Jvm.Cond.instanceMethod ({ cls := "IceTreatyModel", name := "work", desc := "(IIIIIII)I" } : Jvm.MethodName)) ∈ gw := gw_mem (tk_all (tk_10 (List.mem_of_getElem? (i := 11) (by decide +kernel)))) (by decide +kernel)
theorem gw_2172 : (Jvm.Cond.selects "IceTreatyModel" ({ cls := "IceTreatyModel", name := "work", desc := "(IIIIIII)I" } : Jvm.MethodName) ({ cls := "IceTreatyModel", name := "work", desc := "(IIIIIII)I" } : Jvm.MethodName)) ∈ gw := gw_mem (tk_all (tk_10 (List.mem_of_getElem? (i := 12) (by decide +kernel)))) (by decide +kernel)
theorem gw_2173 : (Jvm.Cond.code ({ cls := "IceTreatyModel", name := "work", desc := "(IIIIIII)I" } : Jvm.MethodName) prog_14_method_71_code (9 : Nat) (Option.some Jvm.ClassFile.FieldType.int)) ∈ gw := gw_mem (tk_all (tk_10 (List.mem_of_getElem? (i := 13) rfl))) (by decide +kernel)
theorem gw_2174 : (Jvm.Cond.methodLink "IceTreatyLaw" (97 : Nat) ({ cls := "IceTreatyModel", name := "tell", desc := "(II)Z" } : Jvm.MethodName)) ∈ gw := gw_mem (tk_all (tk_10 (List.mem_of_getElem? (i := 14) (by decide +kernel)))) (by decide +kernel)
theorem gw_2175 : (Jvm.Cond.instanceMethod ({ cls := "IceTreatyModel", name := "tell", desc := "(II)Z" } : Jvm.MethodName)) ∈ gw := gw_mem (tk_all (tk_10 (List.mem_of_getElem? (i := 15) (by decide +kernel)))) (by decide +kernel)
theorem gw_2176 : (Jvm.Cond.selects "IceTreatyModel" ({ cls := "IceTreatyModel", name := "tell", desc := "(II)Z" } : Jvm.MethodName) ({ cls := "IceTreatyModel", name := "tell", desc := "(II)Z" } : Jvm.MethodName)) ∈ gw := gw_mem (tk_all (tk_10 (List.mem_of_getElem? (i := 16) (by decide +kernel)))) (by decide +kernel)
theorem gw_2177 : (Jvm.Cond.code ({ cls := "IceTreatyModel", name := "tell", desc := "(II)Z" } : Jvm.MethodName) prog_14_method_72_code (3 : Nat) (Option.some Jvm.ClassFile.FieldType.boolean)) ∈ gw := gw_mem (tk_all (tk_10 (List.mem_of_getElem? (i := 17) rfl))) (by decide +kernel)
theorem gw_2178 : (Jvm.Cond.methodLink "IceTreatyModel" (566 : Nat) ({ cls := "IceTreatyModel", name := "isWork", desc := "(I)Z" } : Jvm.MethodName)) ∈ gw := gw_mem (tk_all (tk_10 (List.mem_of_getElem? (i := 18) (by decide +kernel)))) (by decide +kernel)
theorem gw_2180 : (Jvm.Cond.instanceMethod ({ cls := "IceTreatyModel", name := "isWork", desc := "(I)Z" } : Jvm.MethodName)) ∈ gw := gw_mem (tk_all (tk_10 (List.mem_of_getElem? (i := 20) (by decide +kernel)))) (by decide +kernel)
theorem gw_2181 : (Jvm.Cond.code ({ cls := "IceTreatyModel", name := "isWork", desc := "(I)Z" } : Jvm.MethodName) prog_14_method_70_code (2 : Nat) (Option.some Jvm.ClassFile.FieldType.boolean)) ∈ gw := gw_mem (tk_all (tk_10 (List.mem_of_getElem? (i := 21) rfl))) (by decide +kernel)
theorem gw_2182 : (Jvm.Cond.methodLink "IceTreatyLaw" (101 : Nat) ({ cls := "IceTreatyModel", name := "study", desc := "(II)Z" } : Jvm.MethodName)) ∈ gw := gw_mem (tk_all (tk_10 (List.mem_of_getElem? (i := 22) (by decide +kernel)))) (by decide +kernel)
theorem gw_2183 : (Jvm.Cond.instanceMethod ({ cls := "IceTreatyModel", name := "study", desc := "(II)Z" } : Jvm.MethodName)) ∈ gw := gw_mem (tk_all (tk_10 (List.mem_of_getElem? (i := 23) (by decide +kernel)))) (by decide +kernel)
theorem gw_2184 : (Jvm.Cond.selects "IceTreatyModel" ({ cls := "IceTreatyModel", name := "study", desc := "(II)Z" } : Jvm.MethodName) ({ cls := "IceTreatyModel", name := "study", desc := "(II)Z" } : Jvm.MethodName)) ∈ gw := gw_mem (tk_all (tk_10 (List.mem_of_getElem? (i := 24) (by decide +kernel)))) (by decide +kernel)
theorem gw_2185 : (Jvm.Cond.code ({ cls := "IceTreatyModel", name := "study", desc := "(II)Z" } : Jvm.MethodName) prog_14_method_73_code (3 : Nat) (Option.some Jvm.ClassFile.FieldType.boolean)) ∈ gw := gw_mem (tk_all (tk_10 (List.mem_of_getElem? (i := 25) rfl))) (by decide +kernel)
theorem gw_2186 : (Jvm.Cond.methodLink "IceTreatyLaw" (106 : Nat) ({ cls := "IceTreatyModel", name := "say", desc := "(IIZ)Z" } : Jvm.MethodName)) ∈ gw := gw_mem (tk_all (tk_10 (List.mem_of_getElem? (i := 26) (by decide +kernel)))) (by decide +kernel)
theorem gw_2187 : (Jvm.Cond.instanceMethod ({ cls := "IceTreatyModel", name := "say", desc := "(IIZ)Z" } : Jvm.MethodName)) ∈ gw := gw_mem (tk_all (tk_10 (List.mem_of_getElem? (i := 27) (by decide +kernel)))) (by decide +kernel)
theorem gw_2188 : (Jvm.Cond.selects "IceTreatyModel" ({ cls := "IceTreatyModel", name := "say", desc := "(IIZ)Z" } : Jvm.MethodName) ({ cls := "IceTreatyModel", name := "say", desc := "(IIZ)Z" } : Jvm.MethodName)) ∈ gw := gw_mem (tk_all (tk_10 (List.mem_of_getElem? (i := 28) (by decide +kernel)))) (by decide +kernel)
theorem gw_2189 : (Jvm.Cond.code ({ cls := "IceTreatyModel", name := "say", desc := "(IIZ)Z" } : Jvm.MethodName) prog_14_method_74_code (4 : Nat) (Option.some Jvm.ClassFile.FieldType.boolean)) ∈ gw := gw_mem (tk_all (tk_10 (List.mem_of_getElem? (i := 29) rfl))) (by decide +kernel)
theorem gw_2190 : (Jvm.Cond.methodLink "IceTreatyLaw" (111 : Nat) ({ cls := "IceTreatyModel", name := "may", desc := "(IIZ)I" } : Jvm.MethodName)) ∈ gw := gw_mem (tk_all (tk_10 (List.mem_of_getElem? (i := 30) (by decide +kernel)))) (by decide +kernel)
theorem gw_2191 : (Jvm.Cond.instanceMethod ({ cls := "IceTreatyModel", name := "may", desc := "(IIZ)I" } : Jvm.MethodName)) ∈ gw := gw_mem (tk_all (tk_10 (List.mem_of_getElem? (i := 31) (by decide +kernel)))) (by decide +kernel)
theorem gw_2192 : (Jvm.Cond.selects "IceTreatyModel" ({ cls := "IceTreatyModel", name := "may", desc := "(IIZ)I" } : Jvm.MethodName) ({ cls := "IceTreatyModel", name := "may", desc := "(IIZ)I" } : Jvm.MethodName)) ∈ gw := gw_mem (tk_all (tk_10 (List.mem_of_getElem? (i := 32) (by decide +kernel)))) (by decide +kernel)
theorem gw_2193 : (Jvm.Cond.code ({ cls := "IceTreatyModel", name := "may", desc := "(IIZ)I" } : Jvm.MethodName) prog_14_method_85_code (4 : Nat) (Option.some Jvm.ClassFile.FieldType.int)) ∈ gw := gw_mem (tk_all (tk_10 (List.mem_of_getElem? (i := 33) rfl))) (by decide +kernel)
theorem gw_2248 : (Jvm.Cond.methodLink "IceTreatyLaw" (116 : Nat) ({ cls := "IceTreatyModel", name := "why", desc := "(IIZI)I" } : Jvm.MethodName)) ∈ gw := gw_mem (tk_all (tk_10 (List.mem_of_getElem? (i := 88) (by decide +kernel)))) (by decide +kernel)
theorem gw_2249 : (Jvm.Cond.instanceMethod ({ cls := "IceTreatyModel", name := "why", desc := "(IIZI)I" } : Jvm.MethodName)) ∈ gw := gw_mem (tk_all (tk_10 (List.mem_of_getElem? (i := 89) (by decide +kernel)))) (by decide +kernel)
theorem gw_2250 : (Jvm.Cond.selects "IceTreatyModel" ({ cls := "IceTreatyModel", name := "why", desc := "(IIZI)I" } : Jvm.MethodName) ({ cls := "IceTreatyModel", name := "why", desc := "(IIZI)I" } : Jvm.MethodName)) ∈ gw := gw_mem (tk_all (tk_10 (List.mem_of_getElem? (i := 90) (by decide +kernel)))) (by decide +kernel)
theorem gw_2251 : (Jvm.Cond.code ({ cls := "IceTreatyModel", name := "why", desc := "(IIZI)I" } : Jvm.MethodName) prog_14_method_86_code (5 : Nat) (Option.some Jvm.ClassFile.FieldType.int)) ∈ gw := gw_mem (tk_all (tk_10 (List.mem_of_getElem? (i := 91) rfl))) (by decide +kernel)
theorem gw_2252 : (Jvm.Cond.methodLink "IceTreatyLaw" (120 : Nat) ({ cls := "IceTreatyModel", name := "whose", desc := "(II)I" } : Jvm.MethodName)) ∈ gw := gw_mem (tk_all (tk_10 (List.mem_of_getElem? (i := 92) (by decide +kernel)))) (by decide +kernel)
theorem gw_2253 : (Jvm.Cond.instanceMethod ({ cls := "IceTreatyModel", name := "whose", desc := "(II)I" } : Jvm.MethodName)) ∈ gw := gw_mem (tk_all (tk_10 (List.mem_of_getElem? (i := 93) (by decide +kernel)))) (by decide +kernel)
theorem gw_2254 : (Jvm.Cond.selects "IceTreatyModel" ({ cls := "IceTreatyModel", name := "whose", desc := "(II)I" } : Jvm.MethodName) ({ cls := "IceTreatyModel", name := "whose", desc := "(II)I" } : Jvm.MethodName)) ∈ gw := gw_mem (tk_all (tk_10 (List.mem_of_getElem? (i := 94) (by decide +kernel)))) (by decide +kernel)
theorem gw_2255 : (Jvm.Cond.code ({ cls := "IceTreatyModel", name := "whose", desc := "(II)I" } : Jvm.MethodName) prog_14_method_87_code (5 : Nat) (Option.some Jvm.ClassFile.FieldType.int)) ∈ gw := gw_mem (tk_all (tk_10 (List.mem_of_getElem? (i := 95) rfl))) (by decide +kernel)
theorem gw_2256 : (Jvm.Cond.methodLink "IceTreatyLaw" (124 : Nat) ({ cls := "IceTreatyModel", name := "ship", desc := "(III)I" } : Jvm.MethodName)) ∈ gw := gw_mem (tk_all (tk_10 (List.mem_of_getElem? (i := 96) (by decide +kernel)))) (by decide +kernel)
theorem gw_2257 : (Jvm.Cond.instanceMethod ({ cls := "IceTreatyModel", name := "ship", desc := "(III)I" } : Jvm.MethodName)) ∈ gw := gw_mem (tk_all (tk_10 (List.mem_of_getElem? (i := 97) (by decide +kernel)))) (by decide +kernel)
theorem gw_2258 : (Jvm.Cond.selects "IceTreatyModel" ({ cls := "IceTreatyModel", name := "ship", desc := "(III)I" } : Jvm.MethodName) ({ cls := "IceTreatyModel", name := "ship", desc := "(III)I" } : Jvm.MethodName)) ∈ gw := gw_mem (tk_all (tk_10 (List.mem_of_getElem? (i := 98) (by decide +kernel)))) (by decide +kernel)
theorem gw_2259 : (Jvm.Cond.code ({ cls := "IceTreatyModel", name := "ship", desc := "(III)I" } : Jvm.MethodName) prog_14_method_90_code (4 : Nat) (Option.some Jvm.ClassFile.FieldType.int)) ∈ gw := gw_mem (tk_all (tk_10 (List.mem_of_getElem? (i := 99) rfl))) (by decide +kernel)
theorem gw_2260 : (Jvm.Cond.methodLink "IceTreatyLaw" (129 : Nat) ({ cls := "IceTreatyModel", name := "cover", desc := "(III)Z" } : Jvm.MethodName)) ∈ gw := gw_mem (tk_all (tk_10 (List.mem_of_getElem? (i := 100) (by decide +kernel)))) (by decide +kernel)
theorem gw_2261 : (Jvm.Cond.instanceMethod ({ cls := "IceTreatyModel", name := "cover", desc := "(III)Z" } : Jvm.MethodName)) ∈ gw := gw_mem (tk_all (tk_10 (List.mem_of_getElem? (i := 101) (by decide +kernel)))) (by decide +kernel)
theorem gw_2262 : (Jvm.Cond.selects "IceTreatyModel" ({ cls := "IceTreatyModel", name := "cover", desc := "(III)Z" } : Jvm.MethodName) ({ cls := "IceTreatyModel", name := "cover", desc := "(III)Z" } : Jvm.MethodName)) ∈ gw := gw_mem (tk_all (tk_10 (List.mem_of_getElem? (i := 102) (by decide +kernel)))) (by decide +kernel)
theorem gw_2263 : (Jvm.Cond.code ({ cls := "IceTreatyModel", name := "cover", desc := "(III)Z" } : Jvm.MethodName) prog_14_method_91_code (4 : Nat) (Option.some Jvm.ClassFile.FieldType.boolean)) ∈ gw := gw_mem (tk_all (tk_10 (List.mem_of_getElem? (i := 103) rfl))) (by decide +kernel)
theorem gw_2264 : (Jvm.Cond.methodLink "IceTreatyModel" (615 : Nat) ({ cls := "IceTreatyModel", name := "isSea", desc := "(I)Z" } : Jvm.MethodName)) ∈ gw := gw_mem (tk_all (tk_10 (List.mem_of_getElem? (i := 104) (by decide +kernel)))) (by decide +kernel)
theorem gw_2265 : (Jvm.Cond.static ({ cls := "IceTreatyModel", name := "isSea", desc := "(I)Z" } : Jvm.MethodName)) ∈ gw := gw_mem (tk_all (tk_10 (List.mem_of_getElem? (i := 105) (by decide +kernel)))) (by decide +kernel)
theorem gw_2266 : (Jvm.Cond.code ({ cls := "IceTreatyModel", name := "isSea", desc := "(I)Z" } : Jvm.MethodName) prog_14_method_89_code (1 : Nat) (Option.some Jvm.ClassFile.FieldType.boolean)) ∈ gw := gw_mem (tk_all (tk_10 (List.mem_of_getElem? (i := 106) rfl))) (by decide +kernel)
theorem gw_2267 : (Jvm.Cond.methodLink "IceTreatyLaw" (133 : Nat) ({ cls := "IceTreatyModel", name := "sea", desc := "(II)Z" } : Jvm.MethodName)) ∈ gw := gw_mem (tk_all (tk_10 (List.mem_of_getElem? (i := 107) (by decide +kernel)))) (by decide +kernel)
theorem gw_2268 : (Jvm.Cond.instanceMethod ({ cls := "IceTreatyModel", name := "sea", desc := "(II)Z" } : Jvm.MethodName)) ∈ gw := gw_mem (tk_all (tk_10 (List.mem_of_getElem? (i := 108) (by decide +kernel)))) (by decide +kernel)
theorem gw_2269 : (Jvm.Cond.selects "IceTreatyModel" ({ cls := "IceTreatyModel", name := "sea", desc := "(II)Z" } : Jvm.MethodName) ({ cls := "IceTreatyModel", name := "sea", desc := "(II)Z" } : Jvm.MethodName)) ∈ gw := gw_mem (tk_all (tk_10 (List.mem_of_getElem? (i := 109) (by decide +kernel)))) (by decide +kernel)
theorem gw_2270 : (Jvm.Cond.code ({ cls := "IceTreatyModel", name := "sea", desc := "(II)Z" } : Jvm.MethodName) prog_14_method_92_code (3 : Nat) (Option.some Jvm.ClassFile.FieldType.boolean)) ∈ gw := gw_mem (tk_all (tk_10 (List.mem_of_getElem? (i := 110) rfl))) (by decide +kernel)
theorem gw_2271 : (Jvm.Cond.methodLink "IceTreatyLaw" (138 : Nat) ({ cls := "IceTreatyModel", name := "voyage", desc := "(IIII)Z" } : Jvm.MethodName)) ∈ gw := gw_mem (tk_all (tk_10 (List.mem_of_getElem? (i := 111) (by decide +kernel)))) (by decide +kernel)
theorem gw_2272 : (Jvm.Cond.instanceMethod ({ cls := "IceTreatyModel", name := "voyage", desc := "(IIII)Z" } : Jvm.MethodName)) ∈ gw := gw_mem (tk_all (tk_10 (List.mem_of_getElem? (i := 112) (by decide +kernel)))) (by decide +kernel)
theorem gw_2273 : (Jvm.Cond.selects "IceTreatyModel" ({ cls := "IceTreatyModel", name := "voyage", desc := "(IIII)Z" } : Jvm.MethodName) ({ cls := "IceTreatyModel", name := "voyage", desc := "(IIII)Z" } : Jvm.MethodName)) ∈ gw := gw_mem (tk_all (tk_10 (List.mem_of_getElem? (i := 113) (by decide +kernel)))) (by decide +kernel)
theorem gw_2274 : (Jvm.Cond.code ({ cls := "IceTreatyModel", name := "voyage", desc := "(IIII)Z" } : Jvm.MethodName) prog_14_method_93_code (5 : Nat) (Option.some Jvm.ClassFile.FieldType.boolean)) ∈ gw := gw_mem (tk_all (tk_10 (List.mem_of_getElem? (i := 114) rfl))) (by decide +kernel)
theorem gw_2275 : (Jvm.Cond.methodLink "IceTreatyModel" (618 : Nat) ({ cls := "IceTreatyModel", name := "isShip", desc := "(I)Z" } : Jvm.MethodName)) ∈ gw := gw_mem (tk_all (tk_10 (List.mem_of_getElem? (i := 115) (by decide +kernel)))) (by decide +kernel)
theorem gw_2277 : (Jvm.Cond.instanceMethod ({ cls := "IceTreatyModel", name := "isShip", desc := "(I)Z" } : Jvm.MethodName)) ∈ gw := gw_mem (tk_all (tk_10 (List.mem_of_getElem? (i := 117) (by decide +kernel)))) (by decide +kernel)
theorem gw_2278 : (Jvm.Cond.code ({ cls := "IceTreatyModel", name := "isShip", desc := "(I)Z" } : Jvm.MethodName) prog_14_method_88_code (2 : Nat) (Option.some Jvm.ClassFile.FieldType.boolean)) ∈ gw := gw_mem (tk_all (tk_10 (List.mem_of_getElem? (i := 118) rfl))) (by decide +kernel)
theorem gw_2283 : (Jvm.Cond.methodLink "IceTreatyLaw" (142 : Nat) ({ cls := "IceTreatyModel", name := "sledge", desc := "(III)I" } : Jvm.MethodName)) ∈ gw := gw_mem (tk_all (tk_10 (List.mem_of_getElem? (i := 123) (by decide +kernel)))) (by decide +kernel)
theorem gw_2284 : (Jvm.Cond.instanceMethod ({ cls := "IceTreatyModel", name := "sledge", desc := "(III)I" } : Jvm.MethodName)) ∈ gw := gw_mem (tk_all (tk_10 (List.mem_of_getElem? (i := 124) (by decide +kernel)))) (by decide +kernel)
theorem gw_2285 : (Jvm.Cond.selects "IceTreatyModel" ({ cls := "IceTreatyModel", name := "sledge", desc := "(III)I" } : Jvm.MethodName) ({ cls := "IceTreatyModel", name := "sledge", desc := "(III)I" } : Jvm.MethodName)) ∈ gw := gw_mem (tk_all (tk_10 (List.mem_of_getElem? (i := 125) (by decide +kernel)))) (by decide +kernel)
theorem gw_2286 : (Jvm.Cond.code ({ cls := "IceTreatyModel", name := "sledge", desc := "(III)I" } : Jvm.MethodName) prog_14_method_99_code (5 : Nat) (Option.some Jvm.ClassFile.FieldType.int)) ∈ gw := gw_mem (tk_all (tk_10 (List.mem_of_getElem? (i := 126) rfl))) (by decide +kernel)
theorem gw_2302 : (Jvm.Cond.methodLink "IceTreatyLaw" (146 : Nat) ({ cls := "IceTreatyModel", name := "people", desc := "(II)Z" } : Jvm.MethodName)) ∈ gw := gw_mem (tk_all (tk_10 (List.mem_of_getElem? (i := 142) (by decide +kernel)))) (by decide +kernel)
theorem gw_2303 : (Jvm.Cond.instanceMethod ({ cls := "IceTreatyModel", name := "people", desc := "(II)Z" } : Jvm.MethodName)) ∈ gw := gw_mem (tk_all (tk_10 (List.mem_of_getElem? (i := 143) (by decide +kernel)))) (by decide +kernel)
theorem gw_2304 : (Jvm.Cond.selects "IceTreatyModel" ({ cls := "IceTreatyModel", name := "people", desc := "(II)Z" } : Jvm.MethodName) ({ cls := "IceTreatyModel", name := "people", desc := "(II)Z" } : Jvm.MethodName)) ∈ gw := gw_mem (tk_all (tk_10 (List.mem_of_getElem? (i := 144) (by decide +kernel)))) (by decide +kernel)
theorem gw_2305 : (Jvm.Cond.code ({ cls := "IceTreatyModel", name := "people", desc := "(II)Z" } : Jvm.MethodName) prog_14_method_101_code (3 : Nat) (Option.some Jvm.ClassFile.FieldType.boolean)) ∈ gw := gw_mem (tk_all (tk_10 (List.mem_of_getElem? (i := 145) rfl))) (by decide +kernel)
theorem gw_2306 : (Jvm.Cond.methodLink "IceTreatyLaw" (150 : Nat) ({ cls := "IceTreatyModel", name := "hide", desc := "(II)Z" } : Jvm.MethodName)) ∈ gw := gw_mem (tk_all (tk_10 (List.mem_of_getElem? (i := 146) (by decide +kernel)))) (by decide +kernel)
theorem gw_2307 : (Jvm.Cond.instanceMethod ({ cls := "IceTreatyModel", name := "hide", desc := "(II)Z" } : Jvm.MethodName)) ∈ gw := gw_mem (tk_all (tk_10 (List.mem_of_getElem? (i := 147) (by decide +kernel)))) (by decide +kernel)
theorem gw_2308 : (Jvm.Cond.selects "IceTreatyModel" ({ cls := "IceTreatyModel", name := "hide", desc := "(II)Z" } : Jvm.MethodName) ({ cls := "IceTreatyModel", name := "hide", desc := "(II)Z" } : Jvm.MethodName)) ∈ gw := gw_mem (tk_all (tk_10 (List.mem_of_getElem? (i := 148) (by decide +kernel)))) (by decide +kernel)
theorem gw_2309 : (Jvm.Cond.code ({ cls := "IceTreatyModel", name := "hide", desc := "(II)Z" } : Jvm.MethodName) prog_14_method_102_code (3 : Nat) (Option.some Jvm.ClassFile.FieldType.boolean)) ∈ gw := gw_mem (tk_all (tk_10 (List.mem_of_getElem? (i := 149) rfl))) (by decide +kernel)
theorem gw_2310 : (Jvm.Cond.methodLink "IceTreatyLaw" (154 : Nat) ({ cls := "IceTreatyModel", name := "declare", desc := "(III)Z" } : Jvm.MethodName)) ∈ gw := gw_mem (tk_all (tk_10 (List.mem_of_getElem? (i := 150) (by decide +kernel)))) (by decide +kernel)
theorem gw_2311 : (Jvm.Cond.instanceMethod ({ cls := "IceTreatyModel", name := "declare", desc := "(III)Z" } : Jvm.MethodName)) ∈ gw := gw_mem (tk_all (tk_10 (List.mem_of_getElem? (i := 151) (by decide +kernel)))) (by decide +kernel)
theorem gw_2312 : (Jvm.Cond.selects "IceTreatyModel" ({ cls := "IceTreatyModel", name := "declare", desc := "(III)Z" } : Jvm.MethodName) ({ cls := "IceTreatyModel", name := "declare", desc := "(III)Z" } : Jvm.MethodName)) ∈ gw := gw_mem (tk_all (tk_10 (List.mem_of_getElem? (i := 152) (by decide +kernel)))) (by decide +kernel)
theorem gw_2313 : (Jvm.Cond.code ({ cls := "IceTreatyModel", name := "declare", desc := "(III)Z" } : Jvm.MethodName) prog_14_method_103_code (4 : Nat) (Option.some Jvm.ClassFile.FieldType.boolean)) ∈ gw := gw_mem (tk_all (tk_10 (List.mem_of_getElem? (i := 153) rfl))) (by decide +kernel)
theorem gw_2314 : (Jvm.Cond.methodLink "IceTreatyLaw" (158 : Nat) ({ cls := "IceTreatyModel", name := "visit", desc := "(II)I" } : Jvm.MethodName)) ∈ gw := gw_mem (tk_all (tk_10 (List.mem_of_getElem? (i := 154) (by decide +kernel)))) (by decide +kernel)
theorem gw_2315 : (Jvm.Cond.instanceMethod ({ cls := "IceTreatyModel", name := "visit", desc := "(II)I" } : Jvm.MethodName)) ∈ gw := gw_mem (tk_all (tk_10 (List.mem_of_getElem? (i := 155) (by decide +kernel)))) (by decide +kernel)
theorem gw_2316 : (Jvm.Cond.selects "IceTreatyModel" ({ cls := "IceTreatyModel", name := "visit", desc := "(II)I" } : Jvm.MethodName) ({ cls := "IceTreatyModel", name := "visit", desc := "(II)I" } : Jvm.MethodName)) ∈ gw := gw_mem (tk_all (tk_10 (List.mem_of_getElem? (i := 156) (by decide +kernel)))) (by decide +kernel)
theorem gw_2317 : (Jvm.Cond.code ({ cls := "IceTreatyModel", name := "visit", desc := "(II)I" } : Jvm.MethodName) prog_14_method_104_code (3 : Nat) (Option.some Jvm.ClassFile.FieldType.int)) ∈ gw := gw_mem (tk_all (tk_10 (List.mem_of_getElem? (i := 157) rfl))) (by decide +kernel)
theorem gw_2318 : (Jvm.Cond.methodLink "IceTreatyLaw" (162 : Nat) ({ cls := "IceTreatyModel", name := "seen", desc := "(II)I" } : Jvm.MethodName)) ∈ gw := gw_mem (tk_all (tk_10 (List.mem_of_getElem? (i := 158) (by decide +kernel)))) (by decide +kernel)
theorem gw_2319 : (Jvm.Cond.instanceMethod ({ cls := "IceTreatyModel", name := "seen", desc := "(II)I" } : Jvm.MethodName)) ∈ gw := gw_mem (tk_all (tk_10 (List.mem_of_getElem? (i := 159) (by decide +kernel)))) (by decide +kernel)
theorem gw_2320 : (Jvm.Cond.selects "IceTreatyModel" ({ cls := "IceTreatyModel", name := "seen", desc := "(II)I" } : Jvm.MethodName) ({ cls := "IceTreatyModel", name := "seen", desc := "(II)I" } : Jvm.MethodName)) ∈ gw := gw_mem (tk_all (tk_10 (List.mem_of_getElem? (i := 160) (by decide +kernel)))) (by decide +kernel)
theorem gw_2321 : (Jvm.Cond.code ({ cls := "IceTreatyModel", name := "seen", desc := "(II)I" } : Jvm.MethodName) prog_14_method_105_code (3 : Nat) (Option.some Jvm.ClassFile.FieldType.int)) ∈ gw := gw_mem (tk_all (tk_10 (List.mem_of_getElem? (i := 161) rfl))) (by decide +kernel)
theorem gw_2322 : (Jvm.Cond.constant "IceTreatyModel" (663 : Nat) (-1000000 : Int32)) ∈ gw := gw_mem (tk_all (tk_10 (List.mem_of_getElem? (i := 162) (by decide +kernel)))) (by decide +kernel)
theorem gw_2323 : (Jvm.Cond.methodLink "IceTreatyLaw" (167 : Nat) ({ cls := "IceTreatyModel", name := "day", desc := "()I" } : Jvm.MethodName)) ∈ gw := gw_mem (tk_all (tk_10 (List.mem_of_getElem? (i := 163) (by decide +kernel)))) (by decide +kernel)
theorem gw_2324 : (Jvm.Cond.instanceMethod ({ cls := "IceTreatyModel", name := "day", desc := "()I" } : Jvm.MethodName)) ∈ gw := gw_mem (tk_all (tk_10 (List.mem_of_getElem? (i := 164) (by decide +kernel)))) (by decide +kernel)
theorem gw_2325 : (Jvm.Cond.selects "IceTreatyModel" ({ cls := "IceTreatyModel", name := "day", desc := "()I" } : Jvm.MethodName) ({ cls := "IceTreatyModel", name := "day", desc := "()I" } : Jvm.MethodName)) ∈ gw := gw_mem (tk_all (tk_10 (List.mem_of_getElem? (i := 165) (by decide +kernel)))) (by decide +kernel)
theorem gw_2326 : (Jvm.Cond.code ({ cls := "IceTreatyModel", name := "day", desc := "()I" } : Jvm.MethodName) prog_14_method_112_code (2 : Nat) (Option.some Jvm.ClassFile.FieldType.int)) ∈ gw := gw_mem (tk_all (tk_10 (List.mem_of_getElem? (i := 166) rfl))) (by decide +kernel)
theorem gw_2327 : (Jvm.Cond.methodLink "IceTreatyModel" (688 : Nat) ({ cls := "IceTreatyModel", name := "worksGo", desc := "()V" } : Jvm.MethodName)) ∈ gw := gw_mem (tk_all (tk_10 (List.mem_of_getElem? (i := 167) (by decide +kernel)))) (by decide +kernel)
theorem gw_2329 : (Jvm.Cond.instanceMethod ({ cls := "IceTreatyModel", name := "worksGo", desc := "()V" } : Jvm.MethodName)) ∈ gw := gw_mem (tk_all (tk_10 (List.mem_of_getElem? (i := 169) (by decide +kernel)))) (by decide +kernel)
theorem gw_2330 : (Jvm.Cond.code ({ cls := "IceTreatyModel", name := "worksGo", desc := "()V" } : Jvm.MethodName) prog_14_method_106_code (3 : Nat) (Option.none : Option Jvm.ClassFile.FieldType)) ∈ gw := gw_mem (tk_all (tk_10 (List.mem_of_getElem? (i := 170) rfl))) (by decide +kernel)
theorem gw_2379 : (Jvm.Cond.methodLink "IceTreatyLaw" (171 : Nat) ({ cls := "IceTreatyModel", name := "sound", desc := "(III)Z" } : Jvm.MethodName)) ∈ gw := gw_mem (tk_all (tk_10 (List.mem_of_getElem? (i := 219) (by decide +kernel)))) (by decide +kernel)
theorem gw_2380 : (Jvm.Cond.instanceMethod ({ cls := "IceTreatyModel", name := "sound", desc := "(III)Z" } : Jvm.MethodName)) ∈ gw := gw_mem (tk_all (tk_10 (List.mem_of_getElem? (i := 220) (by decide +kernel)))) (by decide +kernel)
theorem gw_2381 : (Jvm.Cond.selects "IceTreatyModel" ({ cls := "IceTreatyModel", name := "sound", desc := "(III)Z" } : Jvm.MethodName) ({ cls := "IceTreatyModel", name := "sound", desc := "(III)Z" } : Jvm.MethodName)) ∈ gw := gw_mem (tk_all (tk_10 (List.mem_of_getElem? (i := 221) (by decide +kernel)))) (by decide +kernel)
theorem gw_2382 : (Jvm.Cond.code ({ cls := "IceTreatyModel", name := "sound", desc := "(III)Z" } : Jvm.MethodName) prog_14_method_113_code (4 : Nat) (Option.some Jvm.ClassFile.FieldType.boolean)) ∈ gw := gw_mem (tk_all (tk_10 (List.mem_of_getElem? (i := 222) rfl))) (by decide +kernel)
theorem gw_2383 : (Jvm.Cond.methodLink "IceTreatyLaw" (176 : Nat) ({ cls := "IceTreatyModel", name := "sure", desc := "(I)I" } : Jvm.MethodName)) ∈ gw := gw_mem (tk_all (tk_10 (List.mem_of_getElem? (i := 223) (by decide +kernel)))) (by decide +kernel)
theorem gw_2384 : (Jvm.Cond.instanceMethod ({ cls := "IceTreatyModel", name := "sure", desc := "(I)I" } : Jvm.MethodName)) ∈ gw := gw_mem (tk_all (tk_10 (List.mem_of_getElem? (i := 224) (by decide +kernel)))) (by decide +kernel)
theorem gw_2385 : (Jvm.Cond.selects "IceTreatyModel" ({ cls := "IceTreatyModel", name := "sure", desc := "(I)I" } : Jvm.MethodName) ({ cls := "IceTreatyModel", name := "sure", desc := "(I)I" } : Jvm.MethodName)) ∈ gw := gw_mem (tk_all (tk_10 (List.mem_of_getElem? (i := 225) (by decide +kernel)))) (by decide +kernel)
theorem gw_2386 : (Jvm.Cond.code ({ cls := "IceTreatyModel", name := "sure", desc := "(I)I" } : Jvm.MethodName) prog_14_method_115_code (2 : Nat) (Option.some Jvm.ClassFile.FieldType.int)) ∈ gw := gw_mem (tk_all (tk_10 (List.mem_of_getElem? (i := 226) rfl))) (by decide +kernel)
theorem gw_2387 : (Jvm.Cond.methodLink "IceTreatyLaw" (180 : Nat) ({ cls := "IceTreatyModel", name := "drill", desc := "(II)I" } : Jvm.MethodName)) ∈ gw := gw_mem (tk_all (tk_10 (List.mem_of_getElem? (i := 227) (by decide +kernel)))) (by decide +kernel)
theorem gw_2388 : (Jvm.Cond.instanceMethod ({ cls := "IceTreatyModel", name := "drill", desc := "(II)I" } : Jvm.MethodName)) ∈ gw := gw_mem (tk_all (tk_10 (List.mem_of_getElem? (i := 228) (by decide +kernel)))) (by decide +kernel)
theorem gw_2389 : (Jvm.Cond.selects "IceTreatyModel" ({ cls := "IceTreatyModel", name := "drill", desc := "(II)I" } : Jvm.MethodName) ({ cls := "IceTreatyModel", name := "drill", desc := "(II)I" } : Jvm.MethodName)) ∈ gw := gw_mem (tk_all (tk_10 (List.mem_of_getElem? (i := 229) (by decide +kernel)))) (by decide +kernel)
theorem gw_2390 : (Jvm.Cond.code ({ cls := "IceTreatyModel", name := "drill", desc := "(II)I" } : Jvm.MethodName) prog_14_method_116_code (3 : Nat) (Option.some Jvm.ClassFile.FieldType.int)) ∈ gw := gw_mem (tk_all (tk_10 (List.mem_of_getElem? (i := 230) rfl))) (by decide +kernel)
theorem gw_2391 : (Jvm.Cond.methodLink "IceTreatyLaw" (184 : Nat) ({ cls := "IceTreatyModel", name := "speed", desc := "(II)Z" } : Jvm.MethodName)) ∈ gw := gw_mem (tk_all (tk_10 (List.mem_of_getElem? (i := 231) (by decide +kernel)))) (by decide +kernel)
theorem gw_2392 : (Jvm.Cond.instanceMethod ({ cls := "IceTreatyModel", name := "speed", desc := "(II)Z" } : Jvm.MethodName)) ∈ gw := gw_mem (tk_all (tk_10 (List.mem_of_getElem? (i := 232) (by decide +kernel)))) (by decide +kernel)
theorem gw_2393 : (Jvm.Cond.selects "IceTreatyModel" ({ cls := "IceTreatyModel", name := "speed", desc := "(II)Z" } : Jvm.MethodName) ({ cls := "IceTreatyModel", name := "speed", desc := "(II)Z" } : Jvm.MethodName)) ∈ gw := gw_mem (tk_all (tk_10 (List.mem_of_getElem? (i := 233) (by decide +kernel)))) (by decide +kernel)
theorem gw_2394 : (Jvm.Cond.code ({ cls := "IceTreatyModel", name := "speed", desc := "(II)Z" } : Jvm.MethodName) prog_14_method_117_code (3 : Nat) (Option.some Jvm.ClassFile.FieldType.boolean)) ∈ gw := gw_mem (tk_all (tk_10 (List.mem_of_getElem? (i := 234) rfl))) (by decide +kernel)
theorem gw_2395 : (Jvm.Cond.methodLink "IceTreatyLaw" (188 : Nat) ({ cls := "IceTreatyModel", name := "birds", desc := "(III)Z" } : Jvm.MethodName)) ∈ gw := gw_mem (tk_all (tk_10 (List.mem_of_getElem? (i := 235) (by decide +kernel)))) (by decide +kernel)
theorem gw_2396 : (Jvm.Cond.instanceMethod ({ cls := "IceTreatyModel", name := "birds", desc := "(III)Z" } : Jvm.MethodName)) ∈ gw := gw_mem (tk_all (tk_10 (List.mem_of_getElem? (i := 236) (by decide +kernel)))) (by decide +kernel)
theorem gw_2397 : (Jvm.Cond.selects "IceTreatyModel" ({ cls := "IceTreatyModel", name := "birds", desc := "(III)Z" } : Jvm.MethodName) ({ cls := "IceTreatyModel", name := "birds", desc := "(III)Z" } : Jvm.MethodName)) ∈ gw := gw_mem (tk_all (tk_10 (List.mem_of_getElem? (i := 237) (by decide +kernel)))) (by decide +kernel)
theorem gw_2398 : (Jvm.Cond.code ({ cls := "IceTreatyModel", name := "birds", desc := "(III)Z" } : Jvm.MethodName) prog_14_method_119_code (4 : Nat) (Option.some Jvm.ClassFile.FieldType.boolean)) ∈ gw := gw_mem (tk_all (tk_10 (List.mem_of_getElem? (i := 238) rfl))) (by decide +kernel)
theorem gw_2399 : (Jvm.Cond.methodLink "IceTreatyLaw" (192 : Nat) ({ cls := "IceTreatyModel", name := "loss", desc := "(IIIII)I" } : Jvm.MethodName)) ∈ gw := gw_mem (tk_all (tk_10 (List.mem_of_getElem? (i := 239) (by decide +kernel)))) (by decide +kernel)
theorem gw_2400 : (Jvm.Cond.instanceMethod ({ cls := "IceTreatyModel", name := "loss", desc := "(IIIII)I" } : Jvm.MethodName)) ∈ gw := gw_mem (tk_all (tk_11 (List.mem_of_getElem? (i := 0) (by decide +kernel)))) (by decide +kernel)
theorem gw_2401 : (Jvm.Cond.selects "IceTreatyModel" ({ cls := "IceTreatyModel", name := "loss", desc := "(IIIII)I" } : Jvm.MethodName) ({ cls := "IceTreatyModel", name := "loss", desc := "(IIIII)I" } : Jvm.MethodName)) ∈ gw := gw_mem (tk_all (tk_11 (List.mem_of_getElem? (i := 1) (by decide +kernel)))) (by decide +kernel)
theorem gw_2402 : (Jvm.Cond.code ({ cls := "IceTreatyModel", name := "loss", desc := "(IIIII)I" } : Jvm.MethodName) prog_14_method_121_code (9 : Nat) (Option.some Jvm.ClassFile.FieldType.int)) ∈ gw := gw_mem (tk_all (tk_11 (List.mem_of_getElem? (i := 2) rfl))) (by decide +kernel)
theorem gw_2406 : (Jvm.Cond.methodLink "IceTreatyLaw" (196 : Nat) ({ cls := "IceTreatyModel", name := "noise", desc := "(II)I" } : Jvm.MethodName)) ∈ gw := gw_mem (tk_all (tk_11 (List.mem_of_getElem? (i := 6) (by decide +kernel)))) (by decide +kernel)
theorem gw_2407 : (Jvm.Cond.instanceMethod ({ cls := "IceTreatyModel", name := "noise", desc := "(II)I" } : Jvm.MethodName)) ∈ gw := gw_mem (tk_all (tk_11 (List.mem_of_getElem? (i := 7) (by decide +kernel)))) (by decide +kernel)
theorem gw_2408 : (Jvm.Cond.selects "IceTreatyModel" ({ cls := "IceTreatyModel", name := "noise", desc := "(II)I" } : Jvm.MethodName) ({ cls := "IceTreatyModel", name := "noise", desc := "(II)I" } : Jvm.MethodName)) ∈ gw := gw_mem (tk_all (tk_11 (List.mem_of_getElem? (i := 8) (by decide +kernel)))) (by decide +kernel)
theorem gw_2409 : (Jvm.Cond.code ({ cls := "IceTreatyModel", name := "noise", desc := "(II)I" } : Jvm.MethodName) prog_14_method_122_code (3 : Nat) (Option.some Jvm.ClassFile.FieldType.int)) ∈ gw := gw_mem (tk_all (tk_11 (List.mem_of_getElem? (i := 9) rfl))) (by decide +kernel)
theorem gw_2410 : (Jvm.Cond.methodLink "IceTreatyLaw" (200 : Nat) ({ cls := "IceTreatyModel", name := "caught", desc := "(IIIII)I" } : Jvm.MethodName)) ∈ gw := gw_mem (tk_all (tk_11 (List.mem_of_getElem? (i := 10) (by decide +kernel)))) (by decide +kernel)
theorem gw_2411 : (Jvm.Cond.instanceMethod ({ cls := "IceTreatyModel", name := "caught", desc := "(IIIII)I" } : Jvm.MethodName)) ∈ gw := gw_mem (tk_all (tk_11 (List.mem_of_getElem? (i := 11) (by decide +kernel)))) (by decide +kernel)
theorem gw_2412 : (Jvm.Cond.selects "IceTreatyModel" ({ cls := "IceTreatyModel", name := "caught", desc := "(IIIII)I" } : Jvm.MethodName) ({ cls := "IceTreatyModel", name := "caught", desc := "(IIIII)I" } : Jvm.MethodName)) ∈ gw := gw_mem (tk_all (tk_11 (List.mem_of_getElem? (i := 12) (by decide +kernel)))) (by decide +kernel)
theorem gw_2413 : (Jvm.Cond.code ({ cls := "IceTreatyModel", name := "caught", desc := "(IIIII)I" } : Jvm.MethodName) prog_14_method_123_code (6 : Nat) (Option.some Jvm.ClassFile.FieldType.int)) ∈ gw := gw_mem (tk_all (tk_11 (List.mem_of_getElem? (i := 13) rfl))) (by decide +kernel)
theorem gw_2414 : (Jvm.Cond.methodLink "IceTreatyLaw" (204 : Nat) ({ cls := "IceTreatyModel", name := "over", desc := "()I" } : Jvm.MethodName)) ∈ gw := gw_mem (tk_all (tk_11 (List.mem_of_getElem? (i := 14) (by decide +kernel)))) (by decide +kernel)
theorem gw_2415 : (Jvm.Cond.instanceMethod ({ cls := "IceTreatyModel", name := "over", desc := "()I" } : Jvm.MethodName)) ∈ gw := gw_mem (tk_all (tk_11 (List.mem_of_getElem? (i := 15) (by decide +kernel)))) (by decide +kernel)
theorem gw_2416 : (Jvm.Cond.selects "IceTreatyModel" ({ cls := "IceTreatyModel", name := "over", desc := "()I" } : Jvm.MethodName) ({ cls := "IceTreatyModel", name := "over", desc := "()I" } : Jvm.MethodName)) ∈ gw := gw_mem (tk_all (tk_11 (List.mem_of_getElem? (i := 16) (by decide +kernel)))) (by decide +kernel)
theorem gw_2417 : (Jvm.Cond.code ({ cls := "IceTreatyModel", name := "over", desc := "()I" } : Jvm.MethodName) prog_14_method_125_code (7 : Nat) (Option.some Jvm.ClassFile.FieldType.int)) ∈ gw := gw_mem (tk_all (tk_11 (List.mem_of_getElem? (i := 17) rfl))) (by decide +kernel)
theorem gw_2422 : (Jvm.Cond.methodLink "IceTreatyLaw" (208 : Nat) ({ cls := "IceTreatyModel", name := "doubt", desc := "(I)I" } : Jvm.MethodName)) ∈ gw := gw_mem (tk_all (tk_11 (List.mem_of_getElem? (i := 22) (by decide +kernel)))) (by decide +kernel)
theorem gw_2423 : (Jvm.Cond.instanceMethod ({ cls := "IceTreatyModel", name := "doubt", desc := "(I)I" } : Jvm.MethodName)) ∈ gw := gw_mem (tk_all (tk_11 (List.mem_of_getElem? (i := 23) (by decide +kernel)))) (by decide +kernel)
theorem gw_2424 : (Jvm.Cond.selects "IceTreatyModel" ({ cls := "IceTreatyModel", name := "doubt", desc := "(I)I" } : Jvm.MethodName) ({ cls := "IceTreatyModel", name := "doubt", desc := "(I)I" } : Jvm.MethodName)) ∈ gw := gw_mem (tk_all (tk_11 (List.mem_of_getElem? (i := 24) (by decide +kernel)))) (by decide +kernel)
theorem gw_2425 : (Jvm.Cond.code ({ cls := "IceTreatyModel", name := "doubt", desc := "(I)I" } : Jvm.MethodName) prog_14_method_127_code (4 : Nat) (Option.some Jvm.ClassFile.FieldType.int)) ∈ gw := gw_mem (tk_all (tk_11 (List.mem_of_getElem? (i := 25) rfl))) (by decide +kernel)
theorem gw_2430 : (Jvm.Cond.methodLink "IceTreatyLaw" (212 : Nat) ({ cls := "IceTreatyModel", name := "word", desc := "(I)I" } : Jvm.MethodName)) ∈ gw := gw_mem (tk_all (tk_11 (List.mem_of_getElem? (i := 30) (by decide +kernel)))) (by decide +kernel)
theorem gw_2431 : (Jvm.Cond.instanceMethod ({ cls := "IceTreatyModel", name := "word", desc := "(I)I" } : Jvm.MethodName)) ∈ gw := gw_mem (tk_all (tk_11 (List.mem_of_getElem? (i := 31) (by decide +kernel)))) (by decide +kernel)
theorem gw_2432 : (Jvm.Cond.selects "IceTreatyModel" ({ cls := "IceTreatyModel", name := "word", desc := "(I)I" } : Jvm.MethodName) ({ cls := "IceTreatyModel", name := "word", desc := "(I)I" } : Jvm.MethodName)) ∈ gw := gw_mem (tk_all (tk_11 (List.mem_of_getElem? (i := 32) (by decide +kernel)))) (by decide +kernel)
theorem gw_2433 : (Jvm.Cond.code ({ cls := "IceTreatyModel", name := "word", desc := "(I)I" } : Jvm.MethodName) prog_14_method_128_code (2 : Nat) (Option.some Jvm.ClassFile.FieldType.int)) ∈ gw := gw_mem (tk_all (tk_11 (List.mem_of_getElem? (i := 33) rfl))) (by decide +kernel)
theorem gw_2434 : (Jvm.Cond.methodLink "IceTreatyLaw" (216 : Nat) ({ cls := "IceTreatyModel", name := "asks", desc := "(III)Z" } : Jvm.MethodName)) ∈ gw := gw_mem (tk_all (tk_11 (List.mem_of_getElem? (i := 34) (by decide +kernel)))) (by decide +kernel)
theorem gw_2435 : (Jvm.Cond.instanceMethod ({ cls := "IceTreatyModel", name := "asks", desc := "(III)Z" } : Jvm.MethodName)) ∈ gw := gw_mem (tk_all (tk_11 (List.mem_of_getElem? (i := 35) (by decide +kernel)))) (by decide +kernel)
theorem gw_2436 : (Jvm.Cond.selects "IceTreatyModel" ({ cls := "IceTreatyModel", name := "asks", desc := "(III)Z" } : Jvm.MethodName) ({ cls := "IceTreatyModel", name := "asks", desc := "(III)Z" } : Jvm.MethodName)) ∈ gw := gw_mem (tk_all (tk_11 (List.mem_of_getElem? (i := 36) (by decide +kernel)))) (by decide +kernel)
theorem gw_2437 : (Jvm.Cond.code ({ cls := "IceTreatyModel", name := "asks", desc := "(III)Z" } : Jvm.MethodName) prog_14_method_130_code (5 : Nat) (Option.some Jvm.ClassFile.FieldType.boolean)) ∈ gw := gw_mem (tk_all (tk_11 (List.mem_of_getElem? (i := 37) rfl))) (by decide +kernel)
theorem gw_2442 : (Jvm.Cond.methodLink "IceTreatyLaw" (220 : Nat) ({ cls := "IceTreatyModel", name := "blocks", desc := "(I)I" } : Jvm.MethodName)) ∈ gw := gw_mem (tk_all (tk_11 (List.mem_of_getElem? (i := 42) (by decide +kernel)))) (by decide +kernel)
theorem gw_2443 : (Jvm.Cond.instanceMethod ({ cls := "IceTreatyModel", name := "blocks", desc := "(I)I" } : Jvm.MethodName)) ∈ gw := gw_mem (tk_all (tk_11 (List.mem_of_getElem? (i := 43) (by decide +kernel)))) (by decide +kernel)
theorem gw_2444 : (Jvm.Cond.selects "IceTreatyModel" ({ cls := "IceTreatyModel", name := "blocks", desc := "(I)I" } : Jvm.MethodName) ({ cls := "IceTreatyModel", name := "blocks", desc := "(I)I" } : Jvm.MethodName)) ∈ gw := gw_mem (tk_all (tk_11 (List.mem_of_getElem? (i := 44) (by decide +kernel)))) (by decide +kernel)
theorem gw_2445 : (Jvm.Cond.code ({ cls := "IceTreatyModel", name := "blocks", desc := "(I)I" } : Jvm.MethodName) prog_14_method_132_code (4 : Nat) (Option.some Jvm.ClassFile.FieldType.int)) ∈ gw := gw_mem (tk_all (tk_11 (List.mem_of_getElem? (i := 45) rfl))) (by decide +kernel)
theorem gw_2450 : (Jvm.Cond.methodLink "IceTreatyLaw" (224 : Nat) ({ cls := "IceTreatyModel", name := "best", desc := "()I" } : Jvm.MethodName)) ∈ gw := gw_mem (tk_all (tk_11 (List.mem_of_getElem? (i := 50) (by decide +kernel)))) (by decide +kernel)
theorem gw_2451 : (Jvm.Cond.instanceMethod ({ cls := "IceTreatyModel", name := "best", desc := "()I" } : Jvm.MethodName)) ∈ gw := gw_mem (tk_all (tk_11 (List.mem_of_getElem? (i := 51) (by decide +kernel)))) (by decide +kernel)
theorem gw_2452 : (Jvm.Cond.selects "IceTreatyModel" ({ cls := "IceTreatyModel", name := "best", desc := "()I" } : Jvm.MethodName) ({ cls := "IceTreatyModel", name := "best", desc := "()I" } : Jvm.MethodName)) ∈ gw := gw_mem (tk_all (tk_11 (List.mem_of_getElem? (i := 52) (by decide +kernel)))) (by decide +kernel)
theorem gw_2453 : (Jvm.Cond.code ({ cls := "IceTreatyModel", name := "best", desc := "()I" } : Jvm.MethodName) prog_14_method_135_code (5 : Nat) (Option.some Jvm.ClassFile.FieldType.int)) ∈ gw := gw_mem (tk_all (tk_11 (List.mem_of_getElem? (i := 53) rfl))) (by decide +kernel)
theorem gw_2462 : (Jvm.Cond.methodLink "IceTreatyLaw" (228 : Nat) ({ cls := "IceTreatyModel", name := "stop", desc := "(II)I" } : Jvm.MethodName)) ∈ gw := gw_mem (tk_all (tk_11 (List.mem_of_getElem? (i := 62) (by decide +kernel)))) (by decide +kernel)
theorem gw_2463 : (Jvm.Cond.instanceMethod ({ cls := "IceTreatyModel", name := "stop", desc := "(II)I" } : Jvm.MethodName)) ∈ gw := gw_mem (tk_all (tk_11 (List.mem_of_getElem? (i := 63) (by decide +kernel)))) (by decide +kernel)
theorem gw_2464 : (Jvm.Cond.selects "IceTreatyModel" ({ cls := "IceTreatyModel", name := "stop", desc := "(II)I" } : Jvm.MethodName) ({ cls := "IceTreatyModel", name := "stop", desc := "(II)I" } : Jvm.MethodName)) ∈ gw := gw_mem (tk_all (tk_11 (List.mem_of_getElem? (i := 64) (by decide +kernel)))) (by decide +kernel)
theorem gw_2465 : (Jvm.Cond.code ({ cls := "IceTreatyModel", name := "stop", desc := "(II)I" } : Jvm.MethodName) prog_14_method_136_code (4 : Nat) (Option.some Jvm.ClassFile.FieldType.int)) ∈ gw := gw_mem (tk_all (tk_11 (List.mem_of_getElem? (i := 65) rfl))) (by decide +kernel)
theorem gw_2466 : (Jvm.Cond.methodLink "IceTreatyLaw" (232 : Nat) ({ cls := "IceTreatyModel", name := "open", desc := "(IIII)Z" } : Jvm.MethodName)) ∈ gw := gw_mem (tk_all (tk_11 (List.mem_of_getElem? (i := 66) (by decide +kernel)))) (by decide +kernel)
theorem gw_2467 : (Jvm.Cond.instanceMethod ({ cls := "IceTreatyModel", name := "open", desc := "(IIII)Z" } : Jvm.MethodName)) ∈ gw := gw_mem (tk_all (tk_11 (List.mem_of_getElem? (i := 67) (by decide +kernel)))) (by decide +kernel)
theorem gw_2468 : (Jvm.Cond.selects "IceTreatyModel" ({ cls := "IceTreatyModel", name := "open", desc := "(IIII)Z" } : Jvm.MethodName) ({ cls := "IceTreatyModel", name := "open", desc := "(IIII)Z" } : Jvm.MethodName)) ∈ gw := gw_mem (tk_all (tk_11 (List.mem_of_getElem? (i := 68) (by decide +kernel)))) (by decide +kernel)
theorem gw_2469 : (Jvm.Cond.code ({ cls := "IceTreatyModel", name := "open", desc := "(IIII)Z" } : Jvm.MethodName) prog_14_method_137_code (5 : Nat) (Option.some Jvm.ClassFile.FieldType.boolean)) ∈ gw := gw_mem (tk_all (tk_11 (List.mem_of_getElem? (i := 69) rfl))) (by decide +kernel)
theorem gw_2470 : (Jvm.Cond.methodLink "IceTreatyLaw" (236 : Nat) ({ cls := "IceTreatyModel", name := "plan", desc := "(III)I" } : Jvm.MethodName)) ∈ gw := gw_mem (tk_all (tk_11 (List.mem_of_getElem? (i := 70) (by decide +kernel)))) (by decide +kernel)
theorem gw_2471 : (Jvm.Cond.instanceMethod ({ cls := "IceTreatyModel", name := "plan", desc := "(III)I" } : Jvm.MethodName)) ∈ gw := gw_mem (tk_all (tk_11 (List.mem_of_getElem? (i := 71) (by decide +kernel)))) (by decide +kernel)
theorem gw_2472 : (Jvm.Cond.selects "IceTreatyModel" ({ cls := "IceTreatyModel", name := "plan", desc := "(III)I" } : Jvm.MethodName) ({ cls := "IceTreatyModel", name := "plan", desc := "(III)I" } : Jvm.MethodName)) ∈ gw := gw_mem (tk_all (tk_11 (List.mem_of_getElem? (i := 72) (by decide +kernel)))) (by decide +kernel)
theorem gw_2473 : (Jvm.Cond.code ({ cls := "IceTreatyModel", name := "plan", desc := "(III)I" } : Jvm.MethodName) prog_14_method_143_code (4 : Nat) (Option.some Jvm.ClassFile.FieldType.int)) ∈ gw := gw_mem (tk_all (tk_11 (List.mem_of_getElem? (i := 73) rfl))) (by decide +kernel)
theorem gw_2494 : (Jvm.Cond.methodLink "IceTreatyLaw" (240 : Nat) ({ cls := "IceTreatyModel", name := "planned", desc := "(IIII)I" } : Jvm.MethodName)) ∈ gw := gw_mem (tk_all (tk_11 (List.mem_of_getElem? (i := 94) (by decide +kernel)))) (by decide +kernel)
theorem gw_2495 : (Jvm.Cond.instanceMethod ({ cls := "IceTreatyModel", name := "planned", desc := "(IIII)I" } : Jvm.MethodName)) ∈ gw := gw_mem (tk_all (tk_11 (List.mem_of_getElem? (i := 95) (by decide +kernel)))) (by decide +kernel)
theorem gw_2496 : (Jvm.Cond.selects "IceTreatyModel" ({ cls := "IceTreatyModel", name := "planned", desc := "(IIII)I" } : Jvm.MethodName) ({ cls := "IceTreatyModel", name := "planned", desc := "(IIII)I" } : Jvm.MethodName)) ∈ gw := gw_mem (tk_all (tk_11 (List.mem_of_getElem? (i := 96) (by decide +kernel)))) (by decide +kernel)
theorem gw_2497 : (Jvm.Cond.code ({ cls := "IceTreatyModel", name := "planned", desc := "(IIII)I" } : Jvm.MethodName) prog_14_method_144_code (5 : Nat) (Option.some Jvm.ClassFile.FieldType.int)) ∈ gw := gw_mem (tk_all (tk_11 (List.mem_of_getElem? (i := 97) rfl))) (by decide +kernel)
theorem gw_2498 : (Jvm.Cond.methodLink "IceTreatyModel" (758 : Nat) ({ cls := "IceTreatyModel", name := "plan", desc := "(III)I" } : Jvm.MethodName)) ∈ gw := gw_mem (tk_all (tk_11 (List.mem_of_getElem? (i := 98) (by decide +kernel)))) (by decide +kernel)
theorem gw_2499 : (Jvm.Cond.methodLink "IceTreatyLaw" (245 : Nat) ({ cls := "IceTreatyModel", name := "report", desc := "(IIIZ)Z" } : Jvm.MethodName)) ∈ gw := gw_mem (tk_all (tk_11 (List.mem_of_getElem? (i := 99) (by decide +kernel)))) (by decide +kernel)
theorem gw_2500 : (Jvm.Cond.instanceMethod ({ cls := "IceTreatyModel", name := "report", desc := "(IIIZ)Z" } : Jvm.MethodName)) ∈ gw := gw_mem (tk_all (tk_11 (List.mem_of_getElem? (i := 100) (by decide +kernel)))) (by decide +kernel)
theorem gw_2501 : (Jvm.Cond.selects "IceTreatyModel" ({ cls := "IceTreatyModel", name := "report", desc := "(IIIZ)Z" } : Jvm.MethodName) ({ cls := "IceTreatyModel", name := "report", desc := "(IIIZ)Z" } : Jvm.MethodName)) ∈ gw := gw_mem (tk_all (tk_11 (List.mem_of_getElem? (i := 101) (by decide +kernel)))) (by decide +kernel)
theorem gw_2502 : (Jvm.Cond.code ({ cls := "IceTreatyModel", name := "report", desc := "(IIIZ)Z" } : Jvm.MethodName) prog_14_method_145_code (5 : Nat) (Option.some Jvm.ClassFile.FieldType.boolean)) ∈ gw := gw_mem (tk_all (tk_11 (List.mem_of_getElem? (i := 102) rfl))) (by decide +kernel)
theorem gw_2503 : (Jvm.Cond.methodLink "IceTreatyLaw" (249 : Nat) ({ cls := "IceTreatyModel", name := "known", desc := "(III)I" } : Jvm.MethodName)) ∈ gw := gw_mem (tk_all (tk_11 (List.mem_of_getElem? (i := 103) (by decide +kernel)))) (by decide +kernel)
theorem gw_2504 : (Jvm.Cond.instanceMethod ({ cls := "IceTreatyModel", name := "known", desc := "(III)I" } : Jvm.MethodName)) ∈ gw := gw_mem (tk_all (tk_11 (List.mem_of_getElem? (i := 104) (by decide +kernel)))) (by decide +kernel)
theorem gw_2505 : (Jvm.Cond.selects "IceTreatyModel" ({ cls := "IceTreatyModel", name := "known", desc := "(III)I" } : Jvm.MethodName) ({ cls := "IceTreatyModel", name := "known", desc := "(III)I" } : Jvm.MethodName)) ∈ gw := gw_mem (tk_all (tk_11 (List.mem_of_getElem? (i := 105) (by decide +kernel)))) (by decide +kernel)
theorem gw_2506 : (Jvm.Cond.code ({ cls := "IceTreatyModel", name := "known", desc := "(III)I" } : Jvm.MethodName) prog_14_method_146_code (7 : Nat) (Option.some Jvm.ClassFile.FieldType.int)) ∈ gw := gw_mem (tk_all (tk_11 (List.mem_of_getElem? (i := 106) rfl))) (by decide +kernel)
theorem gw_2507 : (Jvm.Cond.constant "IceTreatyModel" (764 : Nat) (-1000001 : Int32)) ∈ gw := gw_mem (tk_all (tk_11 (List.mem_of_getElem? (i := 107) (by decide +kernel)))) (by decide +kernel)
theorem gw_2508 : (Jvm.Cond.methodLink "IceTreatyLaw" (253 : Nat) ({ cls := "IceTreatyModel", name := "check", desc := "(I)I" } : Jvm.MethodName)) ∈ gw := gw_mem (tk_all (tk_11 (List.mem_of_getElem? (i := 108) (by decide +kernel)))) (by decide +kernel)
theorem gw_2509 : (Jvm.Cond.instanceMethod ({ cls := "IceTreatyModel", name := "check", desc := "(I)I" } : Jvm.MethodName)) ∈ gw := gw_mem (tk_all (tk_11 (List.mem_of_getElem? (i := 109) (by decide +kernel)))) (by decide +kernel)
theorem gw_2510 : (Jvm.Cond.selects "IceTreatyModel" ({ cls := "IceTreatyModel", name := "check", desc := "(I)I" } : Jvm.MethodName) ({ cls := "IceTreatyModel", name := "check", desc := "(I)I" } : Jvm.MethodName)) ∈ gw := gw_mem (tk_all (tk_11 (List.mem_of_getElem? (i := 110) (by decide +kernel)))) (by decide +kernel)
theorem gw_2511 : (Jvm.Cond.code ({ cls := "IceTreatyModel", name := "check", desc := "(I)I" } : Jvm.MethodName) prog_14_method_148_code (4 : Nat) (Option.some Jvm.ClassFile.FieldType.int)) ∈ gw := gw_mem (tk_all (tk_11 (List.mem_of_getElem? (i := 111) rfl))) (by decide +kernel)
theorem gw_2516 : (Jvm.Cond.methodLink "IceTreatyLaw" (257 : Nat) ({ cls := "IceTreatyModel", name := "look", desc := "(II)I" } : Jvm.MethodName)) ∈ gw := gw_mem (tk_all (tk_11 (List.mem_of_getElem? (i := 116) (by decide +kernel)))) (by decide +kernel)
theorem gw_2517 : (Jvm.Cond.instanceMethod ({ cls := "IceTreatyModel", name := "look", desc := "(II)I" } : Jvm.MethodName)) ∈ gw := gw_mem (tk_all (tk_11 (List.mem_of_getElem? (i := 117) (by decide +kernel)))) (by decide +kernel)
theorem gw_2518 : (Jvm.Cond.selects "IceTreatyModel" ({ cls := "IceTreatyModel", name := "look", desc := "(II)I" } : Jvm.MethodName) ({ cls := "IceTreatyModel", name := "look", desc := "(II)I" } : Jvm.MethodName)) ∈ gw := gw_mem (tk_all (tk_11 (List.mem_of_getElem? (i := 118) (by decide +kernel)))) (by decide +kernel)
theorem gw_2519 : (Jvm.Cond.code ({ cls := "IceTreatyModel", name := "look", desc := "(II)I" } : Jvm.MethodName) prog_14_method_149_code (3 : Nat) (Option.some Jvm.ClassFile.FieldType.int)) ∈ gw := gw_mem (tk_all (tk_11 (List.mem_of_getElem? (i := 119) rfl))) (by decide +kernel)
theorem gw_2524 : (Jvm.Cond.methodLink "IceTreatyLaw" (261 : Nat) ({ cls := "IceTreatyModel", name := "at", desc := "(II)I" } : Jvm.MethodName)) ∈ gw := gw_mem (tk_all (tk_11 (List.mem_of_getElem? (i := 124) (by decide +kernel)))) (by decide +kernel)
theorem gw_2525 : (Jvm.Cond.instanceMethod ({ cls := "IceTreatyModel", name := "at", desc := "(II)I" } : Jvm.MethodName)) ∈ gw := gw_mem (tk_all (tk_11 (List.mem_of_getElem? (i := 125) (by decide +kernel)))) (by decide +kernel)
theorem gw_2526 : (Jvm.Cond.selects "IceTreatyModel" ({ cls := "IceTreatyModel", name := "at", desc := "(II)I" } : Jvm.MethodName) ({ cls := "IceTreatyModel", name := "at", desc := "(II)I" } : Jvm.MethodName)) ∈ gw := gw_mem (tk_all (tk_11 (List.mem_of_getElem? (i := 126) (by decide +kernel)))) (by decide +kernel)
theorem gw_2527 : (Jvm.Cond.code ({ cls := "IceTreatyModel", name := "at", desc := "(II)I" } : Jvm.MethodName) prog_14_method_151_code (3 : Nat) (Option.some Jvm.ClassFile.FieldType.int)) ∈ gw := gw_mem (tk_all (tk_11 (List.mem_of_getElem? (i := 127) rfl))) (by decide +kernel)
theorem gw_2528 : (Jvm.Cond.methodLink "IceTreatyLaw" (265 : Nat) ({ cls := "IceTreatyModel", name := "about", desc := "(II)I" } : Jvm.MethodName)) ∈ gw := gw_mem (tk_all (tk_11 (List.mem_of_getElem? (i := 128) (by decide +kernel)))) (by decide +kernel)
theorem gw_2529 : (Jvm.Cond.instanceMethod ({ cls := "IceTreatyModel", name := "about", desc := "(II)I" } : Jvm.MethodName)) ∈ gw := gw_mem (tk_all (tk_11 (List.mem_of_getElem? (i := 129) (by decide +kernel)))) (by decide +kernel)
theorem gw_2530 : (Jvm.Cond.selects "IceTreatyModel" ({ cls := "IceTreatyModel", name := "about", desc := "(II)I" } : Jvm.MethodName) ({ cls := "IceTreatyModel", name := "about", desc := "(II)I" } : Jvm.MethodName)) ∈ gw := gw_mem (tk_all (tk_11 (List.mem_of_getElem? (i := 130) (by decide +kernel)))) (by decide +kernel)
theorem gw_2531 : (Jvm.Cond.code ({ cls := "IceTreatyModel", name := "about", desc := "(II)I" } : Jvm.MethodName) prog_14_method_152_code (3 : Nat) (Option.some Jvm.ClassFile.FieldType.int)) ∈ gw := gw_mem (tk_all (tk_11 (List.mem_of_getElem? (i := 131) rfl))) (by decide +kernel)
theorem gw_2532 : (Jvm.Cond.methodLink "IceTreatyLaw" (270 : Nat) ({ cls := "IceTreatyModel", name := "sum", desc := "(I)J" } : Jvm.MethodName)) ∈ gw := gw_mem (tk_all (tk_11 (List.mem_of_getElem? (i := 132) (by decide +kernel)))) (by decide +kernel)
theorem gw_2533 : (Jvm.Cond.instanceMethod ({ cls := "IceTreatyModel", name := "sum", desc := "(I)J" } : Jvm.MethodName)) ∈ gw := gw_mem (tk_all (tk_11 (List.mem_of_getElem? (i := 133) (by decide +kernel)))) (by decide +kernel)
theorem gw_2534 : (Jvm.Cond.selects "IceTreatyModel" ({ cls := "IceTreatyModel", name := "sum", desc := "(I)J" } : Jvm.MethodName) ({ cls := "IceTreatyModel", name := "sum", desc := "(I)J" } : Jvm.MethodName)) ∈ gw := gw_mem (tk_all (tk_11 (List.mem_of_getElem? (i := 134) (by decide +kernel)))) (by decide +kernel)
theorem gw_2535 : (Jvm.Cond.code ({ cls := "IceTreatyModel", name := "sum", desc := "(I)J" } : Jvm.MethodName) prog_14_method_153_code (2 : Nat) (Option.some Jvm.ClassFile.FieldType.long)) ∈ gw := gw_mem (tk_all (tk_11 (List.mem_of_getElem? (i := 135) rfl))) (by decide +kernel)
theorem gw_2536 : (Jvm.Cond.constantLong "IceTreatyModel" (771 : Nat) (-1 : Int64)) ∈ gw := gw_mem (tk_all (tk_11 (List.mem_of_getElem? (i := 136) (by decide +kernel)))) (by decide +kernel)
theorem gw_2537 : (Jvm.Cond.methodLink "IceTreatyLaw" (274 : Nat) ({ cls := "IceTreatyModel", name := "count", desc := "(I)I" } : Jvm.MethodName)) ∈ gw := gw_mem (tk_all (tk_11 (List.mem_of_getElem? (i := 137) (by decide +kernel)))) (by decide +kernel)
theorem gw_2538 : (Jvm.Cond.instanceMethod ({ cls := "IceTreatyModel", name := "count", desc := "(I)I" } : Jvm.MethodName)) ∈ gw := gw_mem (tk_all (tk_11 (List.mem_of_getElem? (i := 138) (by decide +kernel)))) (by decide +kernel)
theorem gw_2539 : (Jvm.Cond.selects "IceTreatyModel" ({ cls := "IceTreatyModel", name := "count", desc := "(I)I" } : Jvm.MethodName) ({ cls := "IceTreatyModel", name := "count", desc := "(I)I" } : Jvm.MethodName)) ∈ gw := gw_mem (tk_all (tk_11 (List.mem_of_getElem? (i := 139) (by decide +kernel)))) (by decide +kernel)
theorem gw_2540 : (Jvm.Cond.code ({ cls := "IceTreatyModel", name := "count", desc := "(I)I" } : Jvm.MethodName) prog_14_method_154_code (4 : Nat) (Option.some Jvm.ClassFile.FieldType.int)) ∈ gw := gw_mem (tk_all (tk_11 (List.mem_of_getElem? (i := 140) rfl))) (by decide +kernel)
def plc_0 : List Nat := [62, 64, 66, 68, 70, 72, 74, 76, 78, 80, 82, 84, 86]
theorem layi_0 : ∀ k, k < 13 → tables_1[plc_0.getD k 0]? = some (u_lay RX0 TX0 k) := by decide +kernel
theorem layg_0 : ∀ k, k < 13 → goodWord (u_lay RX0 TX0 k) = true := by decide +kernel
theorem lays_0 : ∀ w ∈ u_ws RX0 TX0 13, w ∈ gw := fun w hw => by
  obtain ⟨k, hk, rfl⟩ := List.mem_map.mp hw
  have hk := List.mem_range.mp hk
  exact gw_mem (tk_all (List.mem_of_getElem? (layi_0 k hk))) (layg_0 k hk)
def plc_1 : List Nat := [145, 147, 149, 151, 153, 155, 157, 159, 161, 163, 165, 167, 169]
theorem layi_1 : ∀ k, k < 13 → tables_1[plc_1.getD k 0]? = some (u_lay RX1 TX1 k) := by decide +kernel
theorem layg_1 : ∀ k, k < 13 → goodWord (u_lay RX1 TX1 k) = true := by decide +kernel
theorem lays_1 : ∀ w ∈ u_ws RX1 TX1 13, w ∈ gw := fun w hw => by
  obtain ⟨k, hk, rfl⟩ := List.mem_map.mp hw
  have hk := List.mem_range.mp hk
  exact gw_mem (tk_all (List.mem_of_getElem? (layi_1 k hk))) (layg_1 k hk)
def plc_2 : List Nat := [342, 344, 346, 348, 350]
theorem layi_2 : ∀ k, k < 5 → tables_1[plc_2.getD k 0]? = some (u_lay RX2 TX2 k) := by decide +kernel
theorem layg_2 : ∀ k, k < 5 → goodWord (u_lay RX2 TX2 k) = true := by decide +kernel
theorem lays_2 : ∀ w ∈ u_ws RX2 TX2 5, w ∈ gw := fun w hw => by
  obtain ⟨k, hk, rfl⟩ := List.mem_map.mp hw
  have hk := List.mem_range.mp hk
  exact gw_mem (tk_all (List.mem_of_getElem? (layi_2 k hk))) (layg_2 k hk)
def plc_3 : List Nat := [464, 466, 468, 470, 472, 474, 476, 478, 480, 482, 484, 486, 488, 490, 492, 494]
theorem layi_3 : ∀ k, k < 16 → tables_1[plc_3.getD k 0]? = some (u_lay RX3 TX3 k) := by decide +kernel
theorem layg_3 : ∀ k, k < 16 → goodWord (u_lay RX3 TX3 k) = true := by decide +kernel
theorem lays_3 : ∀ w ∈ u_ws RX3 TX3 16, w ∈ gw := fun w hw => by
  obtain ⟨k, hk, rfl⟩ := List.mem_map.mp hw
  have hk := List.mem_range.mp hk
  exact gw_mem (tk_all (List.mem_of_getElem? (layi_3 k hk))) (layg_3 k hk)
def plc_4 : List Nat := [613, 615, 617, 619, 621, 623, 625]
theorem layi_4 : ∀ k, k < 7 → tables_1[plc_4.getD k 0]? = some (u_lay RX5 TX5 k) := by decide +kernel
theorem layg_4 : ∀ k, k < 7 → goodWord (u_lay RX5 TX5 k) = true := by decide +kernel
theorem lays_4 : ∀ w ∈ u_ws RX5 TX5 7, w ∈ gw := fun w hw => by
  obtain ⟨k, hk, rfl⟩ := List.mem_map.mp hw
  have hk := List.mem_range.mp hk
  exact gw_mem (tk_all (List.mem_of_getElem? (layi_4 k hk))) (layg_4 k hk)
def plc_5 : List Nat := [198, 200, 202, 204, 206, 208, 210, 212, 214, 216]
theorem layi_5 : ∀ k, k < 10 → tables_1[plc_5.getD k 0]? = some (u_lay RX6 TX6 k) := by decide +kernel
theorem layg_5 : ∀ k, k < 10 → goodWord (u_lay RX6 TX6 k) = true := by decide +kernel
theorem lays_5 : ∀ w ∈ u_ws RX6 TX6 10, w ∈ gw := fun w hw => by
  obtain ⟨k, hk, rfl⟩ := List.mem_map.mp hw
  have hk := List.mem_range.mp hk
  exact gw_mem (tk_all (List.mem_of_getElem? (layi_5 k hk))) (layg_5 k hk)
def plc_6 : List Nat := [1071, 1073, 1075, 1077, 1079, 1081, 1083, 1085, 1087, 1089, 1091]
theorem layi_6 : ∀ k, k < 11 → tables_1[plc_6.getD k 0]? = some (u_lay RX7 TX7 k) := by decide +kernel
theorem layg_6 : ∀ k, k < 11 → goodWord (u_lay RX7 TX7 k) = true := by decide +kernel
theorem lays_6 : ∀ w ∈ u_ws RX7 TX7 11, w ∈ gw := fun w hw => by
  obtain ⟨k, hk, rfl⟩ := List.mem_map.mp hw
  have hk := List.mem_range.mp hk
  exact gw_mem (tk_all (List.mem_of_getElem? (layi_6 k hk))) (layg_6 k hk)
def plc_7 : List Nat := [117, 119, 121, 123]
theorem layi_7 : ∀ k, k < 4 → tables_1[plc_7.getD k 0]? = some (u_lay RX8 TX8 k) := by decide +kernel
theorem layg_7 : ∀ k, k < 4 → goodWord (u_lay RX8 TX8 k) = true := by decide +kernel
theorem lays_7 : ∀ w ∈ u_ws RX8 TX8 4, w ∈ gw := fun w hw => by
  obtain ⟨k, hk, rfl⟩ := List.mem_map.mp hw
  have hk := List.mem_range.mp hk
  exact gw_mem (tk_all (List.mem_of_getElem? (layi_7 k hk))) (layg_7 k hk)
def plc_8 : List Nat := [588, 590, 592, 594, 596]
theorem layi_8 : ∀ k, k < 5 → tables_1[plc_8.getD k 0]? = some (u_lay RX9 TX9 k) := by decide +kernel
theorem layg_8 : ∀ k, k < 5 → goodWord (u_lay RX9 TX9 k) = true := by decide +kernel
theorem lays_8 : ∀ w ∈ u_ws RX9 TX9 5, w ∈ gw := fun w hw => by
  obtain ⟨k, hk, rfl⟩ := List.mem_map.mp hw
  have hk := List.mem_range.mp hk
  exact gw_mem (tk_all (List.mem_of_getElem? (layi_8 k hk))) (layg_8 k hk)
def plc_9 : List Nat := [915, 917, 919, 921, 923, 925, 927, 929, 931, 933, 935, 937, 939, 941, 943]
theorem layi_9 : ∀ k, k < 15 → tables_1[plc_9.getD k 0]? = some (u_lay RX10 TX10 k) := by decide +kernel
theorem layg_9 : ∀ k, k < 15 → goodWord (u_lay RX10 TX10 k) = true := by decide +kernel
theorem lays_9 : ∀ w ∈ u_ws RX10 TX10 15, w ∈ gw := fun w hw => by
  obtain ⟨k, hk, rfl⟩ := List.mem_map.mp hw
  have hk := List.mem_range.mp hk
  exact gw_mem (tk_all (List.mem_of_getElem? (layi_9 k hk))) (layg_9 k hk)
def plc_10 : List Nat := [253, 255, 257, 259, 261, 263, 265, 267, 269, 271, 273, 275, 277, 279, 281, 283, 285, 287, 289, 291]
theorem layi_10 : ∀ k, k < 20 → tables_1[plc_10.getD k 0]? = some (u_lay RX11 TX11 k) := by decide +kernel
theorem layg_10 : ∀ k, k < 20 → goodWord (u_lay RX11 TX11 k) = true := by decide +kernel
theorem lays_10 : ∀ w ∈ u_ws RX11 TX11 20, w ∈ gw := fun w hw => by
  obtain ⟨k, hk, rfl⟩ := List.mem_map.mp hw
  have hk := List.mem_range.mp hk
  exact gw_mem (tk_all (List.mem_of_getElem? (layi_10 k hk))) (layg_10 k hk)
def plc_11 : List Nat := [1633, 1635, 1637, 1639, 1641, 1643, 1645, 1647, 1649, 1651, 1653, 1655, 1657, 1659, 1661, 1663, 1665, 1667, 1669, 1671, 1673, 1675, 1677, 1679, 1681, 1683, 1685, 1687, 1689, 1691, 1693, 1695, 1697, 1699, 1701, 1703, 1705, 1707, 1709, 1711, 1713, 1715, 1717, 1719, 1721, 1723, 1725, 1727, 1729, 1731, 1733, 1735, 1737, 1739, 1741, 1743, 1745, 1747, 1749, 1751, 1753, 1755, 1757, 1759, 1761, 1763, 1765, 1767, 1769, 1771, 1773, 1775, 1777, 1779, 1781, 1783, 1785, 1787, 1789, 1791, 1793, 1795, 1797, 1799, 1801, 1803, 1805, 1807, 1809, 1811, 1813, 1815, 1817, 1819, 1821, 1823, 1825, 1827, 1829, 1831, 1833, 1835, 1837, 1839, 1841, 1843, 1845, 1847, 1849, 1851, 1853, 1855, 1857, 1859, 1861, 1863, 1865, 1867, 1869, 1871, 1873, 1875, 1877, 1879, 1881, 1883, 1885, 1887, 1889, 1891, 1893, 1895, 1897, 1899, 1901, 1903, 1905, 1907, 1909, 1911, 1913, 1915, 1917, 1919, 1921, 1923, 1925, 1927, 1929, 1931, 1933]
theorem layi_11 : ∀ k, k < 151 → tables_1[plc_11.getD k 0]? = some (u_lay RX12 TX12 k) := by decide +kernel
theorem layg_11 : ∀ k, k < 151 → goodWord (u_lay RX12 TX12 k) = true := by decide +kernel
theorem lays_11 : ∀ w ∈ u_ws RX12 TX12 151, w ∈ gw := fun w hw => by
  obtain ⟨k, hk, rfl⟩ := List.mem_map.mp hw
  have hk := List.mem_range.mp hk
  exact gw_mem (tk_all (List.mem_of_getElem? (layi_11 k hk))) (layg_11 k hk)
end
section
theorem gS_RX11_112 : GS RX11 112 yX11_between cX11_between 3 (some .boolean) 3 := ⟨gi_app (List.forall_mem_cons.mpr ⟨gw_299, List.forall_mem_cons.mpr ⟨gw_300, List.forall_mem_cons.mpr ⟨gw_1, fun _ h => absurd h List.not_mem_nil⟩⟩⟩) (gi_ws gw_301), by decide +kernel, by decide +kernel, by decide +kernel⟩
theorem fl_RX11_36 : FL RX11 36 10 4 := ⟨(RX11, TX11, 20), rfl, by decide, lays_10, gw_237⟩
theorem fl_RX11_46 : FL RX11 46 10 6 := ⟨(RX11, TX11, 20), rfl, by decide, lays_10, gw_239⟩
theorem sp_10 : Cond.selects RX11 yX11_anyPlace yX11_anyPlace ∈ gw := gw_mem (pv_in (List.mem_of_getElem? (i := 10) (by decide +kernel)) (n := 20)) (by decide +kernel)
theorem gV_RX11_384 : GV RX11 384 RX11 yX11_anyPlace cX11_anyPlace 2 (some (.object "IceTreaty$Place")) 1 := ⟨gi_app (List.forall_mem_cons.mpr ⟨gw_509, List.forall_mem_cons.mpr ⟨gw_511, List.forall_mem_cons.mpr ⟨sp_10, List.forall_mem_cons.mpr ⟨gw_1, fun _ h => absurd h List.not_mem_nil⟩⟩⟩⟩) (gi_ws gw_512), rfl, by decide +kernel, by decide +kernel, by decide +kernel⟩
theorem sp_9 : Cond.selects RX11 yX11_placeOf yX11_placeOf ∈ gw := gw_mem (pv_in (List.mem_of_getElem? (i := 9) (by decide +kernel)) (n := 20)) (by decide +kernel)
theorem gV_RX11_169 : GV RX11 169 RX11 yX11_placeOf cX11_placeOf 4 (some (.object "IceTreaty$Place")) 2 := ⟨gi_app (List.forall_mem_cons.mpr ⟨gw_505, List.forall_mem_cons.mpr ⟨gw_507, List.forall_mem_cons.mpr ⟨sp_9, List.forall_mem_cons.mpr ⟨gw_1, fun _ h => absurd h List.not_mem_nil⟩⟩⟩⟩) (gi_ws gw_508), rfl, by decide +kernel, by decide +kernel, by decide +kernel⟩
theorem fl_RX11_55 : FL RX11 55 10 8 := ⟨(RX11, TX11, 20), rfl, by decide, lays_10, gw_241⟩
theorem fl_RX11_64 : FL RX11 64 10 10 := ⟨(RX11, TX11, 20), rfl, by decide, lays_10, gw_243⟩
theorem fl_RX1_17 : FL RX1 17 1 1 := ⟨(RX1, TX1, 13), rfl, by decide, lays_1, gw_127⟩
theorem fl_RX0_21 : FL RX0 21 0 3 := ⟨(RX0, TX0, 13), rfl, by decide, lays_0, gw_44⟩
theorem fl_RX0_24 : FL RX0 24 0 4 := ⟨(RX0, TX0, 13), rfl, by decide, lays_0, gw_46⟩
theorem gV_RX0_62 : GV RX0 62 RX0 yX0_isCell cX0_isCell 2 (some .boolean) 1 := ⟨gi_app (List.forall_mem_cons.mpr ⟨gw_365, List.forall_mem_cons.mpr ⟨gw_311, List.forall_mem_cons.mpr ⟨gw_312, List.forall_mem_cons.mpr ⟨gw_2, fun _ h => absurd h List.not_mem_nil⟩⟩⟩⟩) (gi_ws gw_313), rfl, by decide +kernel, by decide +kernel, by decide +kernel⟩
theorem sp_1 : Cond.selects RX0 yX0_rowOf yX0_rowOf ∈ gw := gw_mem (pv_in (List.mem_of_getElem? (i := 1) (by decide +kernel)) (n := 13)) (by decide +kernel)
theorem gV_RX0_66 : GV RX0 66 RX0 yX0_rowOf cX0_rowOf 2 (some .int) 1 := ⟨gi_app (List.forall_mem_cons.mpr ⟨gw_366, List.forall_mem_cons.mpr ⟨gw_368, List.forall_mem_cons.mpr ⟨sp_1, List.forall_mem_cons.mpr ⟨gw_2, fun _ h => absurd h List.not_mem_nil⟩⟩⟩⟩) (gi_ws gw_369), rfl, by decide +kernel, by decide +kernel, by decide +kernel⟩
theorem sp_2 : Cond.selects RX0 yX0_columnOf yX0_columnOf ∈ gw := gw_mem (pv_in (List.mem_of_getElem? (i := 2) (by decide +kernel)) (n := 13)) (by decide +kernel)
theorem gV_RX0_75 : GV RX0 75 RX0 yX0_columnOf cX0_columnOf 2 (some .int) 1 := ⟨gi_app (List.forall_mem_cons.mpr ⟨gw_370, List.forall_mem_cons.mpr ⟨gw_372, List.forall_mem_cons.mpr ⟨sp_2, List.forall_mem_cons.mpr ⟨gw_2, fun _ h => absurd h List.not_mem_nil⟩⟩⟩⟩) (gi_ws gw_373), rfl, by decide +kernel, by decide +kernel, by decide +kernel⟩
theorem fl_RX8_9 : FL RX8 9 7 3 := ⟨(RX8, TX8, 4), rfl, by decide, lays_7, gw_111⟩
theorem fl_RX8_18 : FL RX8 18 7 1 := ⟨(RX8, TX8, 4), rfl, by decide, lays_7, gw_108⟩
theorem fl_RX8_15 : FL RX8 15 7 0 := ⟨(RX8, TX8, 4), rfl, by decide, lays_7, gw_107⟩
theorem fl_RX8_27 : FL RX8 27 7 2 := ⟨(RX8, TX8, 4), rfl, by decide, lays_7, gw_109⟩
theorem gV_RX8_31 : GV RX8 31 RX8 yX8_isFull cX8_isFull 1 (some .boolean) 0 := ⟨gi_app (List.forall_mem_cons.mpr ⟨gw_555, List.forall_mem_cons.mpr ⟨gw_556, List.forall_mem_cons.mpr ⟨gw_557, List.forall_mem_cons.mpr ⟨gw_5, fun _ h => absurd h List.not_mem_nil⟩⟩⟩⟩) (gi_ws gw_558), rfl, by decide +kernel, by decide +kernel, by decide +kernel⟩
theorem fp_RX8_9 : FP RX8 9 7 3 .int false := ⟨(RX8, TX8, 4), tyX8, rfl, by decide, lays_7, gw_111, tyX8_ok, nmX8, rfl, by decide +kernel, fun h => by cases h⟩
theorem gV_RX8_35 : GV RX8 35 RX8 yX8_put cX8_put 6 (none : Option Jvm.ClassFile.FieldType) 3 := ⟨gi_app (List.forall_mem_cons.mpr ⟨gw_559, List.forall_mem_cons.mpr ⟨gw_560, List.forall_mem_cons.mpr ⟨gw_561, List.forall_mem_cons.mpr ⟨gw_5, fun _ h => absurd h List.not_mem_nil⟩⟩⟩⟩) (gi_ws gw_562), rfl, by decide +kernel, by decide +kernel, by decide +kernel⟩
theorem fp_RX8_15 : FP RX8 15 7 0 .int true := ⟨(RX8, TX8, 4), tyX8, rfl, by decide, lays_7, gw_107, tyX8_ok, nmX8, rfl, by decide +kernel, fun _ => rfl⟩
theorem fp_RX8_18 : FP RX8 18 7 1 .int true := ⟨(RX8, TX8, 4), tyX8, rfl, by decide, lays_7, gw_108, tyX8_ok, nmX8, rfl, by decide +kernel, fun _ => rfl⟩
theorem fp_RX8_27 : FP RX8 27 7 2 (.array .int) true := ⟨(RX8, TX8, 4), tyX8, rfl, by decide, lays_7, gw_109, tyX8_ok, nmX8, rfl, by decide +kernel, fun _ => rfl⟩
theorem fl_RX2_9 : FL RX2 9 2 1 := ⟨(RX2, TX2, 5), rfl, by decide, lays_2, gw_333⟩
theorem fp_RX2_9 : FP RX2 9 2 1 .int false := ⟨(RX2, TX2, 5), tyX2, rfl, by decide, lays_2, gw_333, tyX2_ok, nmX2, rfl, by decide +kernel, fun h => by cases h⟩
theorem fl_RX2_15 : FL RX2 15 2 2 := ⟨(RX2, TX2, 5), rfl, by decide, lays_2, gw_335⟩
theorem fp_RX2_15 : FP RX2 15 2 2 .int false := ⟨(RX2, TX2, 5), tyX2, rfl, by decide, lays_2, gw_335, tyX2_ok, nmX2, rfl, by decide +kernel, fun h => by cases h⟩
theorem fl_RX2_18 : FL RX2 18 2 3 := ⟨(RX2, TX2, 5), rfl, by decide, lays_2, gw_337⟩
theorem fp_RX2_18 : FP RX2 18 2 3 (.array .int) true := ⟨(RX2, TX2, 5), tyX2, rfl, by decide, lays_2, gw_337, tyX2_ok, nmX2, rfl, by decide +kernel, fun _ => rfl⟩
theorem fl_RX2_22 : FL RX2 22 2 4 := ⟨(RX2, TX2, 5), rfl, by decide, lays_2, gw_340⟩
theorem fp_RX2_22 : FP RX2 22 2 4 (.array .int) true := ⟨(RX2, TX2, 5), tyX2, rfl, by decide, lays_2, gw_340, tyX2_ok, nmX2, rfl, by decide +kernel, fun _ => rfl⟩
theorem fl_RX2_25 : FL RX2 25 2 0 := ⟨(RX2, TX2, 5), rfl, by decide, lays_2, gw_331⟩
theorem fp_RX2_25 : FP RX2 25 2 0 .int false := ⟨(RX2, TX2, 5), tyX2, rfl, by decide, lays_2, gw_331, tyX2_ok, nmX2, rfl, by decide +kernel, fun h => by cases h⟩
theorem gS_RX2_28 : GS RX2 28 yX4_fill cX4_fill 3 (none : Option Jvm.ClassFile.FieldType) 2 := ⟨gi_app (List.forall_mem_cons.mpr ⟨gw_330, List.forall_mem_cons.mpr ⟨gw_36, List.forall_mem_cons.mpr ⟨gw_3, fun _ h => absurd h List.not_mem_nil⟩⟩⟩) (gi_ws gw_37), by decide +kernel, by decide +kernel, by decide +kernel⟩
theorem fl_RX3_9 : FL RX3 9 3 5 := ⟨(RX3, TX3, 16), rfl, by decide, lays_3, gw_443⟩
theorem fp_RX3_9 : FP RX3 9 3 5 .boolean false := ⟨(RX3, TX3, 16), tyX3, rfl, by decide, lays_3, gw_443, tyX3_ok, nmX3, rfl, by decide +kernel, fun h => by cases h⟩
theorem fl_RX3_15 : FL RX3 15 3 6 := ⟨(RX3, TX3, 16), rfl, by decide, lays_3, gw_445⟩
theorem fp_RX3_15 : FP RX3 15 3 6 .int false := ⟨(RX3, TX3, 16), tyX3, rfl, by decide, lays_3, gw_445, tyX3_ok, nmX3, rfl, by decide +kernel, fun h => by cases h⟩
theorem fl_RX3_19 : FL RX3 19 3 7 := ⟨(RX3, TX3, 16), rfl, by decide, lays_3, gw_447⟩
theorem fp_RX3_19 : FP RX3 19 3 7 .int false := ⟨(RX3, TX3, 16), tyX3, rfl, by decide, lays_3, gw_447, tyX3_ok, nmX3, rfl, by decide +kernel, fun h => by cases h⟩
theorem fl_RX3_22 : FL RX3 22 3 8 := ⟨(RX3, TX3, 16), rfl, by decide, lays_3, gw_449⟩
theorem fp_RX3_22 : FP RX3 22 3 8 .int false := ⟨(RX3, TX3, 16), tyX3, rfl, by decide, lays_3, gw_449, tyX3_ok, nmX3, rfl, by decide +kernel, fun h => by cases h⟩
theorem fl_RX3_25 : FL RX3 25 3 9 := ⟨(RX3, TX3, 16), rfl, by decide, lays_3, gw_451⟩
theorem fp_RX3_25 : FP RX3 25 3 9 .int false := ⟨(RX3, TX3, 16), tyX3, rfl, by decide, lays_3, gw_451, tyX3_ok, nmX3, rfl, by decide +kernel, fun h => by cases h⟩
theorem fl_RX3_28 : FL RX3 28 3 10 := ⟨(RX3, TX3, 16), rfl, by decide, lays_3, gw_453⟩
theorem fp_RX3_28 : FP RX3 28 3 10 .int false := ⟨(RX3, TX3, 16), tyX3, rfl, by decide, lays_3, gw_453, tyX3_ok, nmX3, rfl, by decide +kernel, fun h => by cases h⟩
theorem fl_RX3_31 : FL RX3 31 3 11 := ⟨(RX3, TX3, 16), rfl, by decide, lays_3, gw_455⟩
theorem fp_RX3_31 : FP RX3 31 3 11 .int false := ⟨(RX3, TX3, 16), tyX3, rfl, by decide, lays_3, gw_455, tyX3_ok, nmX3, rfl, by decide +kernel, fun h => by cases h⟩
theorem fl_RX3_34 : FL RX3 34 3 12 := ⟨(RX3, TX3, 16), rfl, by decide, lays_3, gw_457⟩
theorem fp_RX3_34 : FP RX3 34 3 12 .int false := ⟨(RX3, TX3, 16), tyX3, rfl, by decide, lays_3, gw_457, tyX3_ok, nmX3, rfl, by decide +kernel, fun h => by cases h⟩
theorem fl_RX3_37 : FL RX3 37 3 0 := ⟨(RX3, TX3, 16), rfl, by decide, lays_3, gw_433⟩
theorem fp_RX3_37 : FP RX3 37 3 0 .int true := ⟨(RX3, TX3, 16), tyX3, rfl, by decide, lays_3, gw_433, tyX3_ok, nmX3, rfl, by decide +kernel, fun _ => rfl⟩
theorem fl_RX3_40 : FL RX3 40 3 1 := ⟨(RX3, TX3, 16), rfl, by decide, lays_3, gw_435⟩
theorem fp_RX3_40 : FP RX3 40 3 1 .int true := ⟨(RX3, TX3, 16), tyX3, rfl, by decide, lays_3, gw_435, tyX3_ok, nmX3, rfl, by decide +kernel, fun _ => rfl⟩
theorem fl_RX3_43 : FL RX3 43 3 2 := ⟨(RX3, TX3, 16), rfl, by decide, lays_3, gw_437⟩
theorem fp_RX3_43 : FP RX3 43 3 2 .int false := ⟨(RX3, TX3, 16), tyX3, rfl, by decide, lays_3, gw_437, tyX3_ok, nmX3, rfl, by decide +kernel, fun h => by cases h⟩
theorem fl_RX3_46 : FL RX3 46 3 3 := ⟨(RX3, TX3, 16), rfl, by decide, lays_3, gw_439⟩
theorem fp_RX3_46 : FP RX3 46 3 3 .int true := ⟨(RX3, TX3, 16), tyX3, rfl, by decide, lays_3, gw_439, tyX3_ok, nmX3, rfl, by decide +kernel, fun _ => rfl⟩
theorem fl_RX3_49 : FL RX3 49 3 4 := ⟨(RX3, TX3, 16), rfl, by decide, lays_3, gw_441⟩
theorem fp_RX3_49 : FP RX3 49 3 4 .int false := ⟨(RX3, TX3, 16), tyX3, rfl, by decide, lays_3, gw_441, tyX3_ok, nmX3, rfl, by decide +kernel, fun h => by cases h⟩
theorem fl_RX3_52 : FL RX3 52 3 13 := ⟨(RX3, TX3, 16), rfl, by decide, lays_3, gw_459⟩
theorem fp_RX3_52 : FP RX3 52 3 13 (.array .int) true := ⟨(RX3, TX3, 16), tyX3, rfl, by decide, lays_3, gw_459, tyX3_ok, nmX3, rfl, by decide +kernel, fun _ => rfl⟩
theorem fl_RX3_56 : FL RX3 56 3 14 := ⟨(RX3, TX3, 16), rfl, by decide, lays_3, gw_461⟩
theorem fp_RX3_56 : FP RX3 56 3 14 (.array .int) true := ⟨(RX3, TX3, 16), tyX3, rfl, by decide, lays_3, gw_461, tyX3_ok, nmX3, rfl, by decide +kernel, fun _ => rfl⟩
theorem fl_RX3_64 : FL RX3 64 3 15 := ⟨(RX3, TX3, 16), rfl, by decide, lays_3, gw_463⟩
theorem fp_RX3_64 : FP RX3 64 3 15 (.object RX8) true := ⟨(RX3, TX3, 16), tyX3, rfl, by decide, lays_3, gw_463, tyX3_ok, nmX3, rfl, by decide +kernel, fun _ => rfl⟩
theorem gI_RX3_61 : GI RX3 61 yX8_init cX8_init 3 2 := ⟨gi_ws gw_102, gw_5, gw_431, gw_101, rfl, by decide +kernel, by decide +kernel, by decide +kernel⟩
theorem gS_RX3_68 : GS RX3 68 yX4_fill cX4_fill 3 (none : Option Jvm.ClassFile.FieldType) 2 := ⟨gi_app (List.forall_mem_cons.mpr ⟨gw_432, List.forall_mem_cons.mpr ⟨gw_36, List.forall_mem_cons.mpr ⟨gw_3, fun _ h => absurd h List.not_mem_nil⟩⟩⟩) (gi_ws gw_37), by decide +kernel, by decide +kernel, by decide +kernel⟩
theorem fl_RX0_9 : FL RX0 9 0 0 := ⟨(RX0, TX0, 13), rfl, by decide, lays_0, gw_38⟩
theorem fp_RX0_9 : FP RX0 9 0 0 .int false := ⟨(RX0, TX0, 13), tyX0, rfl, by decide, lays_0, gw_38, tyX0_ok, nmX0, rfl, by decide +kernel, fun h => by cases h⟩
theorem fl_RX0_15 : FL RX0 15 0 1 := ⟨(RX0, TX0, 13), rfl, by decide, lays_0, gw_40⟩
theorem fp_RX0_15 : FP RX0 15 0 1 .int false := ⟨(RX0, TX0, 13), tyX0, rfl, by decide, lays_0, gw_40, tyX0_ok, nmX0, rfl, by decide +kernel, fun h => by cases h⟩
theorem fl_RX0_18 : FL RX0 18 0 2 := ⟨(RX0, TX0, 13), rfl, by decide, lays_0, gw_42⟩
theorem fp_RX0_18 : FP RX0 18 0 2 .int false := ⟨(RX0, TX0, 13), tyX0, rfl, by decide, lays_0, gw_42, tyX0_ok, nmX0, rfl, by decide +kernel, fun h => by cases h⟩
theorem fp_RX0_21 : FP RX0 21 0 3 .int false := ⟨(RX0, TX0, 13), tyX0, rfl, by decide, lays_0, gw_44, tyX0_ok, nmX0, rfl, by decide +kernel, fun h => by cases h⟩
theorem fp_RX0_24 : FP RX0 24 0 4 .int false := ⟨(RX0, TX0, 13), tyX0, rfl, by decide, lays_0, gw_46, tyX0_ok, nmX0, rfl, by decide +kernel, fun h => by cases h⟩
theorem fl_RX0_27 : FL RX0 27 0 5 := ⟨(RX0, TX0, 13), rfl, by decide, lays_0, gw_48⟩
theorem fp_RX0_27 : FP RX0 27 0 5 (.array .int) true := ⟨(RX0, TX0, 13), tyX0, rfl, by decide, lays_0, gw_48, tyX0_ok, nmX0, rfl, by decide +kernel, fun _ => rfl⟩
theorem fl_RX0_31 : FL RX0 31 0 6 := ⟨(RX0, TX0, 13), rfl, by decide, lays_0, gw_50⟩
theorem fp_RX0_31 : FP RX0 31 0 6 (.array .int) true := ⟨(RX0, TX0, 13), tyX0, rfl, by decide, lays_0, gw_50, tyX0_ok, nmX0, rfl, by decide +kernel, fun _ => rfl⟩
theorem fl_RX0_34 : FL RX0 34 0 7 := ⟨(RX0, TX0, 13), rfl, by decide, lays_0, gw_52⟩
theorem fp_RX0_34 : FP RX0 34 0 7 (.array .int) true := ⟨(RX0, TX0, 13), tyX0, rfl, by decide, lays_0, gw_52, tyX0_ok, nmX0, rfl, by decide +kernel, fun _ => rfl⟩
theorem fl_RX0_37 : FL RX0 37 0 8 := ⟨(RX0, TX0, 13), rfl, by decide, lays_0, gw_54⟩
theorem fp_RX0_37 : FP RX0 37 0 8 (.array .int) true := ⟨(RX0, TX0, 13), tyX0, rfl, by decide, lays_0, gw_54, tyX0_ok, nmX0, rfl, by decide +kernel, fun _ => rfl⟩
theorem fl_RX0_40 : FL RX0 40 0 9 := ⟨(RX0, TX0, 13), rfl, by decide, lays_0, gw_56⟩
theorem fp_RX0_40 : FP RX0 40 0 9 (.array .int) true := ⟨(RX0, TX0, 13), tyX0, rfl, by decide, lays_0, gw_56, tyX0_ok, nmX0, rfl, by decide +kernel, fun _ => rfl⟩
theorem fl_RX0_43 : FL RX0 43 0 10 := ⟨(RX0, TX0, 13), rfl, by decide, lays_0, gw_58⟩
theorem fp_RX0_43 : FP RX0 43 0 10 (.array .int) true := ⟨(RX0, TX0, 13), tyX0, rfl, by decide, lays_0, gw_58, tyX0_ok, nmX0, rfl, by decide +kernel, fun _ => rfl⟩
theorem fl_RX0_46 : FL RX0 46 0 11 := ⟨(RX0, TX0, 13), rfl, by decide, lays_0, gw_60⟩
theorem fp_RX0_46 : FP RX0 46 0 11 (.array .int) true := ⟨(RX0, TX0, 13), tyX0, rfl, by decide, lays_0, gw_60, tyX0_ok, nmX0, rfl, by decide +kernel, fun _ => rfl⟩
theorem fl_RX0_49 : FL RX0 49 0 12 := ⟨(RX0, TX0, 13), rfl, by decide, lays_0, gw_61⟩
theorem fp_RX0_49 : FP RX0 49 0 12 (.array .int) true := ⟨(RX0, TX0, 13), tyX0, rfl, by decide, lays_0, gw_61, tyX0_ok, nmX0, rfl, by decide +kernel, fun _ => rfl⟩
theorem gS_RX0_52 : GS RX0 52 yX4_fill cX4_fill 3 (none : Option Jvm.ClassFile.FieldType) 2 := ⟨gi_app (List.forall_mem_cons.mpr ⟨gw_35, List.forall_mem_cons.mpr ⟨gw_36, List.forall_mem_cons.mpr ⟨gw_3, fun _ h => absurd h List.not_mem_nil⟩⟩⟩) (gi_ws gw_37), by decide +kernel, by decide +kernel, by decide +kernel⟩
theorem fl_RX1_11 : FL RX1 11 1 0 := ⟨(RX1, TX1, 13), rfl, by decide, lays_1, gw_126⟩
theorem fp_RX1_11 : FP RX1 11 1 0 (.array (.object RX9)) true := ⟨(RX1, TX1, 13), tyX1, rfl, by decide, lays_1, gw_126, tyX1_ok, nmX1, rfl, by decide +kernel, fun _ => rfl⟩
theorem fp_RX1_17 : FP RX1 17 1 1 .int false := ⟨(RX1, TX1, 13), tyX1, rfl, by decide, lays_1, gw_127, tyX1_ok, nmX1, rfl, by decide +kernel, fun h => by cases h⟩
theorem gI_RX1_23 : GI RX1 23 yX8_init cX8_init 3 2 := ⟨gi_ws gw_102, gw_5, gw_100, gw_101, rfl, by decide +kernel, by decide +kernel, by decide +kernel⟩
theorem fl_RX1_26 : FL RX1 26 1 2 := ⟨(RX1, TX1, 13), rfl, by decide, lays_1, gw_129⟩
theorem fp_RX1_26 : FP RX1 26 1 2 (.object RX8) true := ⟨(RX1, TX1, 13), tyX1, rfl, by decide, lays_1, gw_129, tyX1_ok, nmX1, rfl, by decide +kernel, fun _ => rfl⟩
theorem fl_RX1_30 : FL RX1 30 1 3 := ⟨(RX1, TX1, 13), rfl, by decide, lays_1, gw_131⟩
theorem fp_RX1_30 : FP RX1 30 1 3 (.array (.object RX9)) true := ⟨(RX1, TX1, 13), tyX1, rfl, by decide, lays_1, gw_131, tyX1_ok, nmX1, rfl, by decide +kernel, fun _ => rfl⟩
theorem fl_RX1_33 : FL RX1 33 1 4 := ⟨(RX1, TX1, 13), rfl, by decide, lays_1, gw_132⟩
theorem fp_RX1_33 : FP RX1 33 1 4 (.array .int) true := ⟨(RX1, TX1, 13), tyX1, rfl, by decide, lays_1, gw_132, tyX1_ok, nmX1, rfl, by decide +kernel, fun _ => rfl⟩
theorem fl_RX1_37 : FL RX1 37 1 5 := ⟨(RX1, TX1, 13), rfl, by decide, lays_1, gw_134⟩
theorem fp_RX1_37 : FP RX1 37 1 5 (.array .int) true := ⟨(RX1, TX1, 13), tyX1, rfl, by decide, lays_1, gw_134, tyX1_ok, nmX1, rfl, by decide +kernel, fun _ => rfl⟩
theorem fl_RX1_40 : FL RX1 40 1 6 := ⟨(RX1, TX1, 13), rfl, by decide, lays_1, gw_135⟩
theorem fp_RX1_40 : FP RX1 40 1 6 .int false := ⟨(RX1, TX1, 13), tyX1, rfl, by decide, lays_1, gw_135, tyX1_ok, nmX1, rfl, by decide +kernel, fun h => by cases h⟩
theorem fl_RX1_43 : FL RX1 43 1 7 := ⟨(RX1, TX1, 13), rfl, by decide, lays_1, gw_136⟩
theorem fp_RX1_43 : FP RX1 43 1 7 .int false := ⟨(RX1, TX1, 13), tyX1, rfl, by decide, lays_1, gw_136, tyX1_ok, nmX1, rfl, by decide +kernel, fun h => by cases h⟩
theorem fl_RX1_46 : FL RX1 46 1 8 := ⟨(RX1, TX1, 13), rfl, by decide, lays_1, gw_137⟩
theorem fp_RX1_46 : FP RX1 46 1 8 (.array .int) true := ⟨(RX1, TX1, 13), tyX1, rfl, by decide, lays_1, gw_137, tyX1_ok, nmX1, rfl, by decide +kernel, fun _ => rfl⟩
theorem fl_RX1_49 : FL RX1 49 1 9 := ⟨(RX1, TX1, 13), rfl, by decide, lays_1, gw_139⟩
theorem fp_RX1_49 : FP RX1 49 1 9 (.array .int) true := ⟨(RX1, TX1, 13), tyX1, rfl, by decide, lays_1, gw_139, tyX1_ok, nmX1, rfl, by decide +kernel, fun _ => rfl⟩
theorem fl_RX1_52 : FL RX1 52 1 10 := ⟨(RX1, TX1, 13), rfl, by decide, lays_1, gw_140⟩
theorem fp_RX1_52 : FP RX1 52 1 10 .int false := ⟨(RX1, TX1, 13), tyX1, rfl, by decide, lays_1, gw_140, tyX1_ok, nmX1, rfl, by decide +kernel, fun h => by cases h⟩
theorem fl_RX1_55 : FL RX1 55 1 11 := ⟨(RX1, TX1, 13), rfl, by decide, lays_1, gw_141⟩
theorem fp_RX1_55 : FP RX1 55 1 11 .int false := ⟨(RX1, TX1, 13), tyX1, rfl, by decide, lays_1, gw_141, tyX1_ok, nmX1, rfl, by decide +kernel, fun h => by cases h⟩
theorem fl_RX1_58 : FL RX1 58 1 12 := ⟨(RX1, TX1, 13), rfl, by decide, lays_1, gw_143⟩
theorem fp_RX1_58 : FP RX1 58 1 12 .int false := ⟨(RX1, TX1, 13), tyX1, rfl, by decide, lays_1, gw_143, tyX1_ok, nmX1, rfl, by decide +kernel, fun h => by cases h⟩
theorem gI_RX6_11 : GI RX6 11 yX8_init cX8_init 3 2 := ⟨gi_ws gw_102, gw_5, gw_179, gw_101, rfl, by decide +kernel, by decide +kernel, by decide +kernel⟩
theorem fl_RX6_14 : FL RX6 14 5 0 := ⟨(RX6, TX6, 10), rfl, by decide, lays_5, gw_181⟩
theorem fp_RX6_14 : FP RX6 14 5 0 (.object RX8) true := ⟨(RX6, TX6, 10), tyX6, rfl, by decide, lays_5, gw_181, tyX6_ok, nmX6, rfl, by decide +kernel, fun _ => rfl⟩
theorem fl_RX6_20 : FL RX6 20 5 1 := ⟨(RX6, TX6, 10), rfl, by decide, lays_5, gw_183⟩
theorem fp_RX6_20 : FP RX6 20 5 1 (.array .int) true := ⟨(RX6, TX6, 10), tyX6, rfl, by decide, lays_5, gw_183, tyX6_ok, nmX6, rfl, by decide +kernel, fun _ => rfl⟩
theorem fl_RX6_24 : FL RX6 24 5 2 := ⟨(RX6, TX6, 10), rfl, by decide, lays_5, gw_185⟩
theorem fp_RX6_24 : FP RX6 24 5 2 (.array .int) true := ⟨(RX6, TX6, 10), tyX6, rfl, by decide, lays_5, gw_185, tyX6_ok, nmX6, rfl, by decide +kernel, fun _ => rfl⟩
theorem fl_RX6_27 : FL RX6 27 5 3 := ⟨(RX6, TX6, 10), rfl, by decide, lays_5, gw_187⟩
theorem fp_RX6_27 : FP RX6 27 5 3 (.array .int) true := ⟨(RX6, TX6, 10), tyX6, rfl, by decide, lays_5, gw_187, tyX6_ok, nmX6, rfl, by decide +kernel, fun _ => rfl⟩
theorem fl_RX6_30 : FL RX6 30 5 4 := ⟨(RX6, TX6, 10), rfl, by decide, lays_5, gw_189⟩
theorem fp_RX6_30 : FP RX6 30 5 4 (.array .int) true := ⟨(RX6, TX6, 10), tyX6, rfl, by decide, lays_5, gw_189, tyX6_ok, nmX6, rfl, by decide +kernel, fun _ => rfl⟩
theorem fl_RX6_33 : FL RX6 33 5 5 := ⟨(RX6, TX6, 10), rfl, by decide, lays_5, gw_190⟩
theorem fp_RX6_33 : FP RX6 33 5 5 (.array .int) true := ⟨(RX6, TX6, 10), tyX6, rfl, by decide, lays_5, gw_190, tyX6_ok, nmX6, rfl, by decide +kernel, fun _ => rfl⟩
theorem fl_RX6_36 : FL RX6 36 5 6 := ⟨(RX6, TX6, 10), rfl, by decide, lays_5, gw_191⟩
theorem fp_RX6_36 : FP RX6 36 5 6 (.array .int) true := ⟨(RX6, TX6, 10), tyX6, rfl, by decide, lays_5, gw_191, tyX6_ok, nmX6, rfl, by decide +kernel, fun _ => rfl⟩
theorem fl_RX6_39 : FL RX6 39 5 7 := ⟨(RX6, TX6, 10), rfl, by decide, lays_5, gw_192⟩
theorem fp_RX6_39 : FP RX6 39 5 7 (.array .int) true := ⟨(RX6, TX6, 10), tyX6, rfl, by decide, lays_5, gw_192, tyX6_ok, nmX6, rfl, by decide +kernel, fun _ => rfl⟩
theorem fl_RX6_42 : FL RX6 42 5 8 := ⟨(RX6, TX6, 10), rfl, by decide, lays_5, gw_194⟩
theorem fp_RX6_42 : FP RX6 42 5 8 .int false := ⟨(RX6, TX6, 10), tyX6, rfl, by decide, lays_5, gw_194, tyX6_ok, nmX6, rfl, by decide +kernel, fun h => by cases h⟩
theorem fl_RX6_46 : FL RX6 46 5 9 := ⟨(RX6, TX6, 10), rfl, by decide, lays_5, gw_196⟩
theorem fp_RX6_46 : FP RX6 46 5 9 .int false := ⟨(RX6, TX6, 10), tyX6, rfl, by decide, lays_5, gw_196, tyX6_ok, nmX6, rfl, by decide +kernel, fun h => by cases h⟩
theorem gS_RX6_49 : GS RX6 49 yX4_fill cX4_fill 3 (none : Option Jvm.ClassFile.FieldType) 2 := ⟨gi_app (List.forall_mem_cons.mpr ⟨gw_180, List.forall_mem_cons.mpr ⟨gw_36, List.forall_mem_cons.mpr ⟨gw_3, fun _ h => absurd h List.not_mem_nil⟩⟩⟩) (gi_ws gw_37), by decide +kernel, by decide +kernel, by decide +kernel⟩
theorem gI_RX11_11 : GI RX11 11 yX0_init cX0_init 1 0 := ⟨gi_ws gw_33, gw_2, gw_31, gw_32, rfl, by decide +kernel, by decide +kernel, by decide +kernel⟩
theorem fl_RX11_12 : FL RX11 12 10 0 := ⟨(RX11, TX11, 20), rfl, by decide, lays_10, gw_233⟩
theorem fp_RX11_12 : FP RX11 12 10 0 (.object RX0) true := ⟨(RX11, TX11, 20), tyX11, rfl, by decide, lays_10, gw_233, tyX11_ok, nmX11, rfl, by decide +kernel, fun _ => rfl⟩
theorem gn_nest : GN yX1_init cX1_init 1 0 := ⟨gi_ws gw_94, gw_4, gw_93, rfl, by decide +kernel, by decide +kernel, by decide +kernel⟩
theorem fl_RX11_19 : FL RX11 19 10 1 := ⟨(RX11, TX11, 20), rfl, by decide, lays_10, gw_234⟩
theorem fp_RX11_19 : FP RX11 19 10 1 (.object RX1) true := ⟨(RX11, TX11, 20), tyX11, rfl, by decide, lays_10, gw_234, tyX11_ok, nmX11, rfl, by decide +kernel, fun _ => rfl⟩
theorem gI_RX11_25 : GI RX11 25 yX6_init cX6_init 1 0 := ⟨gi_ws gw_176, gw_7, gw_174, gw_175, rfl, by decide +kernel, by decide +kernel, by decide +kernel⟩
theorem fl_RX11_26 : FL RX11 26 10 2 := ⟨(RX11, TX11, 20), rfl, by decide, lays_10, gw_235⟩
theorem fp_RX11_26 : FP RX11 26 10 2 (.object RX6) true := ⟨(RX11, TX11, 20), tyX11, rfl, by decide, lays_10, gw_235, tyX11_ok, nmX11, rfl, by decide +kernel, fun _ => rfl⟩
theorem fl_RX11_32 : FL RX11 32 10 3 := ⟨(RX11, TX11, 20), rfl, by decide, lays_10, gw_236⟩
theorem fp_RX11_32 : FP RX11 32 10 3 (.array (.object RX2)) true := ⟨(RX11, TX11, 20), tyX11, rfl, by decide, lays_10, gw_236, tyX11_ok, nmX11, rfl, by decide +kernel, fun _ => rfl⟩
theorem fp_RX11_36 : FP RX11 36 10 4 .int false := ⟨(RX11, TX11, 20), tyX11, rfl, by decide, lays_10, gw_237, tyX11_ok, nmX11, rfl, by decide +kernel, fun h => by cases h⟩
theorem fl_RX11_42 : FL RX11 42 10 5 := ⟨(RX11, TX11, 20), rfl, by decide, lays_10, gw_238⟩
theorem fp_RX11_42 : FP RX11 42 10 5 (.array (.object RX3)) true := ⟨(RX11, TX11, 20), tyX11, rfl, by decide, lays_10, gw_238, tyX11_ok, nmX11, rfl, by decide +kernel, fun _ => rfl⟩
theorem fp_RX11_46 : FP RX11 46 10 6 .int false := ⟨(RX11, TX11, 20), tyX11, rfl, by decide, lays_10, gw_239, tyX11_ok, nmX11, rfl, by decide +kernel, fun h => by cases h⟩
theorem fl_RX11_51 : FL RX11 51 10 7 := ⟨(RX11, TX11, 20), rfl, by decide, lays_10, gw_240⟩
theorem fp_RX11_51 : FP RX11 51 10 7 (.array (.object RX10)) true := ⟨(RX11, TX11, 20), tyX11, rfl, by decide, lays_10, gw_240, tyX11_ok, nmX11, rfl, by decide +kernel, fun _ => rfl⟩
theorem fp_RX11_55 : FP RX11 55 10 8 .int false := ⟨(RX11, TX11, 20), tyX11, rfl, by decide, lays_10, gw_241, tyX11_ok, nmX11, rfl, by decide +kernel, fun h => by cases h⟩
theorem fl_RX11_60 : FL RX11 60 10 9 := ⟨(RX11, TX11, 20), rfl, by decide, lays_10, gw_242⟩
theorem fp_RX11_60 : FP RX11 60 10 9 (.array (.object RX7)) true := ⟨(RX11, TX11, 20), tyX11, rfl, by decide, lays_10, gw_242, tyX11_ok, nmX11, rfl, by decide +kernel, fun _ => rfl⟩
theorem fp_RX11_64 : FP RX11 64 10 10 .int false := ⟨(RX11, TX11, 20), tyX11, rfl, by decide, lays_10, gw_243, tyX11_ok, nmX11, rfl, by decide +kernel, fun h => by cases h⟩
theorem gI_RX11_69 : GI RX11 69 yX8_init cX8_init 3 2 := ⟨gi_ws gw_102, gw_5, gw_228, gw_101, rfl, by decide +kernel, by decide +kernel, by decide +kernel⟩
theorem fl_RX11_72 : FL RX11 72 10 11 := ⟨(RX11, TX11, 20), rfl, by decide, lays_10, gw_244⟩
theorem fp_RX11_72 : FP RX11 72 10 11 (.object RX8) true := ⟨(RX11, TX11, 20), tyX11, rfl, by decide, lays_10, gw_244, tyX11_ok, nmX11, rfl, by decide +kernel, fun _ => rfl⟩
theorem fl_RX11_76 : FL RX11 76 10 12 := ⟨(RX11, TX11, 20), rfl, by decide, lays_10, gw_245⟩
theorem fp_RX11_76 : FP RX11 76 10 12 (.object RX8) true := ⟨(RX11, TX11, 20), tyX11, rfl, by decide, lays_10, gw_245, tyX11_ok, nmX11, rfl, by decide +kernel, fun _ => rfl⟩
theorem fl_RX11_79 : FL RX11 79 10 13 := ⟨(RX11, TX11, 20), rfl, by decide, lays_10, gw_246⟩
theorem fp_RX11_79 : FP RX11 79 10 13 (.object RX8) true := ⟨(RX11, TX11, 20), tyX11, rfl, by decide, lays_10, gw_246, tyX11_ok, nmX11, rfl, by decide +kernel, fun _ => rfl⟩
theorem fl_RX11_82 : FL RX11 82 10 14 := ⟨(RX11, TX11, 20), rfl, by decide, lays_10, gw_247⟩
theorem fp_RX11_82 : FP RX11 82 10 14 (.object RX8) true := ⟨(RX11, TX11, 20), tyX11, rfl, by decide, lays_10, gw_247, tyX11_ok, nmX11, rfl, by decide +kernel, fun _ => rfl⟩
theorem fl_RX11_85 : FL RX11 85 10 15 := ⟨(RX11, TX11, 20), rfl, by decide, lays_10, gw_248⟩
theorem fp_RX11_85 : FP RX11 85 10 15 (.object RX8) true := ⟨(RX11, TX11, 20), tyX11, rfl, by decide, lays_10, gw_248, tyX11_ok, nmX11, rfl, by decide +kernel, fun _ => rfl⟩
theorem fl_RX11_88 : FL RX11 88 10 16 := ⟨(RX11, TX11, 20), rfl, by decide, lays_10, gw_249⟩
theorem fp_RX11_88 : FP RX11 88 10 16 (.object RX8) true := ⟨(RX11, TX11, 20), tyX11, rfl, by decide, lays_10, gw_249, tyX11_ok, nmX11, rfl, by decide +kernel, fun _ => rfl⟩
theorem fl_RX11_91 : FL RX11 91 10 17 := ⟨(RX11, TX11, 20), rfl, by decide, lays_10, gw_250⟩
theorem fp_RX11_91 : FP RX11 91 10 17 (.object RX8) true := ⟨(RX11, TX11, 20), tyX11, rfl, by decide, lays_10, gw_250, tyX11_ok, nmX11, rfl, by decide +kernel, fun _ => rfl⟩
theorem fl_RX11_94 : FL RX11 94 10 18 := ⟨(RX11, TX11, 20), rfl, by decide, lays_10, gw_251⟩
theorem fp_RX11_94 : FP RX11 94 10 18 (.array .int) true := ⟨(RX11, TX11, 20), tyX11, rfl, by decide, lays_10, gw_251, tyX11_ok, nmX11, rfl, by decide +kernel, fun _ => rfl⟩
theorem fl_RX11_98 : FL RX11 98 10 19 := ⟨(RX11, TX11, 20), rfl, by decide, lays_10, gw_252⟩
theorem fp_RX11_98 : FP RX11 98 10 19 (.array .long) true := ⟨(RX11, TX11, 20), tyX11, rfl, by decide, lays_10, gw_252, tyX11_ok, nmX11, rfl, by decide +kernel, fun _ => rfl⟩
theorem gS_RX11_102 : GS RX11 102 yX4_fill cX4_fill 3 (none : Option Jvm.ClassFile.FieldType) 2 := ⟨gi_app (List.forall_mem_cons.mpr ⟨gw_229, List.forall_mem_cons.mpr ⟨gw_36, List.forall_mem_cons.mpr ⟨gw_3, fun _ h => absurd h List.not_mem_nil⟩⟩⟩) (gi_ws gw_37), by decide +kernel, by decide +kernel, by decide +kernel⟩
theorem gS_RX11_108 : GS RX11 108 yX4_put cX4_put 3 (none : Option Jvm.ClassFile.FieldType) 3 := ⟨gi_app (List.forall_mem_cons.mpr ⟨gw_230, List.forall_mem_cons.mpr ⟨gw_231, List.forall_mem_cons.mpr ⟨gw_3, fun _ h => absurd h List.not_mem_nil⟩⟩⟩) (gi_ws gw_232), by decide +kernel, by decide +kernel, by decide +kernel⟩
theorem sp_0 : Cond.selects RX11 yX11_partyOf yX11_partyOf ∈ gw := gw_mem (pv_in (List.mem_of_getElem? (i := 0) (by decide +kernel)) (n := 20)) (by decide +kernel)
theorem gV_RX11_151 : GV RX11 151 RX11 yX11_partyOf cX11_partyOf 2 (some (.object "IceTreaty$Party")) 1 := ⟨gi_app (List.forall_mem_cons.mpr ⟨gw_357, List.forall_mem_cons.mpr ⟨gw_359, List.forall_mem_cons.mpr ⟨sp_0, List.forall_mem_cons.mpr ⟨gw_1, fun _ h => absurd h List.not_mem_nil⟩⟩⟩⟩) (gi_ws gw_360), rfl, by decide +kernel, by decide +kernel, by decide +kernel⟩
theorem fl_RX11_199 : FL RX11 199 7 3 := ⟨(RX8, TX8, 4), rfl, by decide, lays_7, gw_115⟩
theorem gV_RX11_205 : GV RX11 205 RX8 yX8_append cX8_append 7 (some .int) 5 := ⟨gi_app (List.forall_mem_cons.mpr ⟨gw_551, List.forall_mem_cons.mpr ⟨gw_552, List.forall_mem_cons.mpr ⟨gw_553, List.forall_mem_cons.mpr ⟨gw_5, fun _ h => absurd h List.not_mem_nil⟩⟩⟩⟩) (gi_ws gw_554), rfl, by decide +kernel, by decide +kernel, by decide +kernel⟩
theorem gV_RX11_116 : GV RX11 116 RX0 yX0_lay cX0_lay 3 (none : Option Jvm.ClassFile.FieldType) 2 := ⟨gi_app (List.forall_mem_cons.mpr ⟨gw_302, List.forall_mem_cons.mpr ⟨gw_303, List.forall_mem_cons.mpr ⟨gw_304, List.forall_mem_cons.mpr ⟨gw_2, fun _ h => absurd h List.not_mem_nil⟩⟩⟩⟩) (gi_ws gw_305), rfl, by decide +kernel, by decide +kernel, by decide +kernel⟩
theorem gV_RX11_119 : GV RX11 119 RX0 yX0_isCell cX0_isCell 2 (some .boolean) 1 := ⟨gi_app (List.forall_mem_cons.mpr ⟨gw_310, List.forall_mem_cons.mpr ⟨gw_311, List.forall_mem_cons.mpr ⟨gw_312, List.forall_mem_cons.mpr ⟨gw_2, fun _ h => absurd h List.not_mem_nil⟩⟩⟩⟩) (gi_ws gw_313), rfl, by decide +kernel, by decide +kernel, by decide +kernel⟩
theorem fl_RX11_123 : FL RX11 123 0 5 := ⟨(RX0, TX0, 13), rfl, by decide, lays_0, gw_49⟩
theorem fl_RX11_126 : FL RX11 126 0 6 := ⟨(RX0, TX0, 13), rfl, by decide, lays_0, gw_51⟩
theorem fl_RX11_129 : FL RX11 129 0 7 := ⟨(RX0, TX0, 13), rfl, by decide, lays_0, gw_53⟩
theorem fl_RX11_132 : FL RX11 132 0 8 := ⟨(RX0, TX0, 13), rfl, by decide, lays_0, gw_55⟩
theorem gS_RX11_135 : GS RX11 135 yX11_areYearDays cX11_areYearDays 2 (some .boolean) 2 := ⟨gi_app (List.forall_mem_cons.mpr ⟨gw_318, List.forall_mem_cons.mpr ⟨gw_319, List.forall_mem_cons.mpr ⟨gw_1, fun _ h => absurd h List.not_mem_nil⟩⟩⟩) (gi_ws gw_320), by decide +kernel, by decide +kernel, by decide +kernel⟩
theorem fl_RX11_139 : FL RX11 139 0 1 := ⟨(RX0, TX0, 13), rfl, by decide, lays_0, gw_41⟩
theorem fp_RX11_139 : FP RX11 139 0 1 .int false := ⟨(RX0, TX0, 13), tyX0, rfl, by decide, lays_0, gw_41, tyX0_ok, nmX0, rfl, by decide +kernel, fun h => by cases h⟩
theorem fl_RX11_142 : FL RX11 142 0 2 := ⟨(RX0, TX0, 13), rfl, by decide, lays_0, gw_43⟩
theorem fp_RX11_142 : FP RX11 142 0 2 .int false := ⟨(RX0, TX0, 13), tyX0, rfl, by decide, lays_0, gw_43, tyX0_ok, nmX0, rfl, by decide +kernel, fun h => by cases h⟩
theorem gI_RX11_148 : GI RX11 148 yX2_init cX2_init 2 1 := ⟨gi_ws gw_328, gw_9, gw_326, gw_327, rfl, by decide +kernel, by decide +kernel, by decide +kernel⟩
theorem fl_RX11_145 : FL RX11 145 0 0 := ⟨(RX0, TX0, 13), rfl, by decide, lays_0, gw_39⟩
theorem sp_12 : Cond.selects RX11 yX11_standingStation yX11_standingStation ∈ gw := gw_mem (pv_in (List.mem_of_getElem? (i := 12) (by decide +kernel)) (n := 20)) (by decide +kernel)
theorem gV_RX11_195 : GV RX11 195 RX11 yX11_standingStation cX11_standingStation 3 (some (.object "IceTreaty$Place")) 1 := ⟨gi_app (List.forall_mem_cons.mpr ⟨gw_531, List.forall_mem_cons.mpr ⟨gw_533, List.forall_mem_cons.mpr ⟨sp_12, List.forall_mem_cons.mpr ⟨gw_1, fun _ h => absurd h List.not_mem_nil⟩⟩⟩⟩) (gi_ws gw_534), rfl, by decide +kernel, by decide +kernel, by decide +kernel⟩
theorem gV_RX11_155 : GV RX11 155 RX0 yX0_isRectangle cX0_isRectangle 3 (some .boolean) 2 := ⟨gi_app (List.forall_mem_cons.mpr ⟨gw_361, List.forall_mem_cons.mpr ⟨gw_362, List.forall_mem_cons.mpr ⟨gw_363, List.forall_mem_cons.mpr ⟨gw_2, fun _ h => absurd h List.not_mem_nil⟩⟩⟩⟩) (gi_ws gw_364), rfl, by decide +kernel, by decide +kernel, by decide +kernel⟩
theorem gI_RX11_162 : GI RX11 162 yX3_init cX3_init 6 5 := ⟨gi_ws gw_428, gw_10, gw_426, gw_427, rfl, by decide +kernel, by decide +kernel, by decide +kernel⟩
theorem sp_8 : Cond.selects RX11 yX11_settle yX11_settle ∈ gw := gw_mem (pv_in (List.mem_of_getElem? (i := 8) (by decide +kernel)) (n := 20)) (by decide +kernel)
theorem gV_RX11_165 : GV RX11 165 RX11 yX11_settle cX11_settle 2 (some .int) 1 := ⟨gi_app (List.forall_mem_cons.mpr ⟨gw_497, List.forall_mem_cons.mpr ⟨gw_499, List.forall_mem_cons.mpr ⟨sp_8, List.forall_mem_cons.mpr ⟨gw_1, fun _ h => absurd h List.not_mem_nil⟩⟩⟩⟩) (gi_ws gw_500), rfl, by decide +kernel, by decide +kernel, by decide +kernel⟩
theorem sp_13 : Cond.selects RX11 yX11_feedNumber yX11_feedNumber ∈ gw := gw_mem (pv_in (List.mem_of_getElem? (i := 13) (by decide +kernel)) (n := 20)) (by decide +kernel)
theorem gV_RX11_202 : GV RX11 202 RX11 yX11_feedNumber cX11_feedNumber 3 (none : Option Jvm.ClassFile.FieldType) 1 := ⟨gi_app (List.forall_mem_cons.mpr ⟨gw_547, List.forall_mem_cons.mpr ⟨gw_549, List.forall_mem_cons.mpr ⟨sp_13, List.forall_mem_cons.mpr ⟨gw_1, fun _ h => absurd h List.not_mem_nil⟩⟩⟩⟩) (gi_ws gw_550), rfl, by decide +kernel, by decide +kernel, by decide +kernel⟩
theorem gS_RX11_213 : GS RX11 213 yX11_areDays cX11_areDays 2 (some .boolean) 2 := ⟨gi_app (List.forall_mem_cons.mpr ⟨gw_567, List.forall_mem_cons.mpr ⟨gw_568, List.forall_mem_cons.mpr ⟨gw_1, fun _ h => absurd h List.not_mem_nil⟩⟩⟩) (gi_ws gw_569), by decide +kernel, by decide +kernel, by decide +kernel⟩
theorem fl_RX11_216 : FL RX11 216 1 1 := ⟨(RX1, TX1, 13), rfl, by decide, lays_1, gw_128⟩
theorem gV_RX11_246 : GV RX11 246 RX1 yX1_textOf cX1_textOf 2 (some (.object "IceTreaty$Text")) 1 := ⟨gi_app (List.forall_mem_cons.mpr ⟨gw_820, List.forall_mem_cons.mpr ⟨gw_387, List.forall_mem_cons.mpr ⟨gw_388, List.forall_mem_cons.mpr ⟨gw_4, fun _ h => absurd h List.not_mem_nil⟩⟩⟩⟩) (gi_ws gw_389), rfl, by decide +kernel, by decide +kernel, by decide +kernel⟩
theorem sp_30 : Cond.selects RX11 yX11_workOf yX11_workOf ∈ gw := gw_mem (pv_in (List.mem_of_getElem? (i := 30) (by decide +kernel)) (n := 20)) (by decide +kernel)
theorem gV_RX11_309 : GV RX11 309 RX11 yX11_workOf cX11_workOf 2 (some (.object "IceTreaty$Work")) 1 := ⟨gi_app (List.forall_mem_cons.mpr ⟨gw_950, List.forall_mem_cons.mpr ⟨gw_952, List.forall_mem_cons.mpr ⟨sp_30, List.forall_mem_cons.mpr ⟨gw_1, fun _ h => absurd h List.not_mem_nil⟩⟩⟩⟩) (gi_ws gw_953), rfl, by decide +kernel, by decide +kernel, by decide +kernel⟩
theorem gS_RX11_394 : GS RX11 394 yX11_isSea cX11_isSea 1 (some .boolean) 1 := ⟨gi_app (List.forall_mem_cons.mpr ⟨gw_1098, List.forall_mem_cons.mpr ⟨gw_1099, List.forall_mem_cons.mpr ⟨gw_1, fun _ h => absurd h List.not_mem_nil⟩⟩⟩) (gi_ws gw_1100), by decide +kernel, by decide +kernel, by decide +kernel⟩
theorem fl_RX11_397 : FL RX11 397 0 9 := ⟨(RX0, TX0, 13), rfl, by decide, lays_0, gw_57⟩
theorem fl_RX11_400 : FL RX11 400 0 10 := ⟨(RX0, TX0, 13), rfl, by decide, lays_0, gw_59⟩
theorem sp_40 : Cond.selects RX11 yX11_shipOf yX11_shipOf ∈ gw := gw_mem (pv_in (List.mem_of_getElem? (i := 40) (by decide +kernel)) (n := 20)) (by decide +kernel)
theorem gV_RX11_403 : GV RX11 403 RX11 yX11_shipOf cX11_shipOf 2 (some (.object "IceTreaty$Ship")) 1 := ⟨gi_app (List.forall_mem_cons.mpr ⟨gw_1109, List.forall_mem_cons.mpr ⟨gw_1111, List.forall_mem_cons.mpr ⟨sp_40, List.forall_mem_cons.mpr ⟨gw_1, fun _ h => absurd h List.not_mem_nil⟩⟩⟩⟩) (gi_ws gw_1112), rfl, by decide +kernel, by decide +kernel, by decide +kernel⟩
theorem gV_RX11_431 : GV RX11 431 RX8 yX8_has cX8_has 2 (some .boolean) 1 := ⟨gi_app (List.forall_mem_cons.mpr ⟨gw_1168, List.forall_mem_cons.mpr ⟨gw_832, List.forall_mem_cons.mpr ⟨gw_833, List.forall_mem_cons.mpr ⟨gw_5, fun _ h => absurd h List.not_mem_nil⟩⟩⟩⟩) (gi_ws gw_834), rfl, by decide +kernel, by decide +kernel, by decide +kernel⟩
theorem fp_RX11_145 : FP RX11 145 0 0 .int false := ⟨(RX0, TX0, 13), tyX0, rfl, by decide, lays_0, gw_39, tyX0_ok, nmX0, rfl, by decide +kernel, fun h => by cases h⟩
theorem gV_RX11_435 : GV RX11 435 RX6 yX6_forget cX6_forget 1 (none : Option Jvm.ClassFile.FieldType) 0 := ⟨gi_app (List.forall_mem_cons.mpr ⟨gw_1175, List.forall_mem_cons.mpr ⟨gw_1176, List.forall_mem_cons.mpr ⟨gw_1177, List.forall_mem_cons.mpr ⟨gw_7, fun _ h => absurd h List.not_mem_nil⟩⟩⟩⟩) (gi_ws gw_1178), rfl, by decide +kernel, by decide +kernel, by decide +kernel⟩
theorem sp_46 : Cond.selects RX11 yX11_admitParties yX11_admitParties ∈ gw := gw_mem (pv_in (List.mem_of_getElem? (i := 46) (by decide +kernel)) (n := 20)) (by decide +kernel)
theorem gV_RX11_439 : GV RX11 439 RX11 yX11_admitParties cX11_admitParties 4 (none : Option Jvm.ClassFile.FieldType) 0 := ⟨gi_app (List.forall_mem_cons.mpr ⟨gw_1205, List.forall_mem_cons.mpr ⟨gw_1207, List.forall_mem_cons.mpr ⟨sp_46, List.forall_mem_cons.mpr ⟨gw_1, fun _ h => absurd h List.not_mem_nil⟩⟩⟩⟩) (gi_ws gw_1208), rfl, by decide +kernel, by decide +kernel, by decide +kernel⟩
theorem sp_61 : Cond.selects RX11 yX11_blockers yX11_blockers ∈ gw := gw_mem (pv_in (List.mem_of_getElem? (i := 61) (by decide +kernel)) (n := 20)) (by decide +kernel)
theorem gV_RX11_581 : GV RX11 581 RX11 yX11_blockers cX11_blockers 5 (some .int) 1 := ⟨gi_app (List.forall_mem_cons.mpr ⟨gw_1339, List.forall_mem_cons.mpr ⟨gw_1341, List.forall_mem_cons.mpr ⟨sp_61, List.forall_mem_cons.mpr ⟨gw_1, fun _ h => absurd h List.not_mem_nil⟩⟩⟩⟩) (gi_ws gw_1342), rfl, by decide +kernel, by decide +kernel, by decide +kernel⟩
theorem sp_35 : Cond.selects RX11 yX11_decidingOn yX11_decidingOn ∈ gw := gw_mem (pv_in (List.mem_of_getElem? (i := 35) (by decide +kernel)) (n := 20)) (by decide +kernel)
theorem gV_RX11_369 : GV RX11 369 RX11 yX11_decidingOn cX11_decidingOn 5 (some .int) 1 := ⟨gi_app (List.forall_mem_cons.mpr ⟨gw_999, List.forall_mem_cons.mpr ⟨gw_1001, List.forall_mem_cons.mpr ⟨sp_35, List.forall_mem_cons.mpr ⟨gw_1, fun _ h => absurd h List.not_mem_nil⟩⟩⟩⟩) (gi_ws gw_1002), rfl, by decide +kernel, by decide +kernel, by decide +kernel⟩
theorem fl_RX11_593 : FL RX11 593 5 0 := ⟨(RX6, TX6, 10), rfl, by decide, lays_5, gw_182⟩
theorem gV_RX11_617 : GV RX11 617 RX11 yX11_plan cX11_plan 6 (some .int) 3 := ⟨gi_app (List.forall_mem_cons.mpr ⟨gw_1417, List.forall_mem_cons.mpr ⟨gw_1370, List.forall_mem_cons.mpr ⟨gw_1371, List.forall_mem_cons.mpr ⟨gw_1, fun _ h => absurd h List.not_mem_nil⟩⟩⟩⟩) (gi_ws gw_1372), rfl, by decide +kernel, by decide +kernel, by decide +kernel⟩
theorem sp_70 : Cond.selects RX11 yX11_firstWrong yX11_firstWrong ∈ gw := gw_mem (pv_in (List.mem_of_getElem? (i := 70) (by decide +kernel)) (n := 20)) (by decide +kernel)
theorem gV_RX11_627 : GV RX11 627 RX11 yX11_firstWrong cX11_firstWrong 5 (some .int) 1 := ⟨gi_app (List.forall_mem_cons.mpr ⟨gw_1431, List.forall_mem_cons.mpr ⟨gw_1433, List.forall_mem_cons.mpr ⟨sp_70, List.forall_mem_cons.mpr ⟨gw_1, fun _ h => absurd h List.not_mem_nil⟩⟩⟩⟩) (gi_ws gw_1434), rfl, by decide +kernel, by decide +kernel, by decide +kernel⟩
theorem fp_RX11_199 : FP RX11 199 7 3 .int false := ⟨(RX8, TX8, 4), tyX8, rfl, by decide, lays_7, gw_115, tyX8_ok, nmX8, rfl, by decide +kernel, fun h => by cases h⟩
theorem fl_RX11_639 : FL RX11 639 0 3 := ⟨(RX0, TX0, 13), rfl, by decide, lays_0, gw_45⟩
theorem fl_RX11_642 : FL RX11 642 0 4 := ⟨(RX0, TX0, 13), rfl, by decide, lays_0, gw_47⟩
theorem fl_RX11_262 : FL RX11 262 1 2 := ⟨(RX1, TX1, 13), rfl, by decide, lays_1, gw_130⟩
theorem sp_73 : Cond.selects RX11 yX11_sledgesOnWay yX11_sledgesOnWay ∈ gw := gw_mem (pv_in (List.mem_of_getElem? (i := 73) (by decide +kernel)) (n := 20)) (by decide +kernel)
theorem gV_RX11_644 : GV RX11 644 RX11 yX11_sledgesOnWay cX11_sledgesOnWay 3 (some .int) 0 := ⟨gi_app (List.forall_mem_cons.mpr ⟨gw_1464, List.forall_mem_cons.mpr ⟨gw_1466, List.forall_mem_cons.mpr ⟨sp_73, List.forall_mem_cons.mpr ⟨gw_1, fun _ h => absurd h List.not_mem_nil⟩⟩⟩⟩) (gi_ws gw_1467), rfl, by decide +kernel, by decide +kernel, by decide +kernel⟩
theorem sp_74 : Cond.selects RX11 yX11_decidesFrom yX11_decidesFrom ∈ gw := gw_mem (pv_in (List.mem_of_getElem? (i := 74) (by decide +kernel)) (n := 20)) (by decide +kernel)
theorem gV_RX11_647 : GV RX11 647 RX11 yX11_decidesFrom cX11_decidesFrom 3 (some .int) 1 := ⟨gi_app (List.forall_mem_cons.mpr ⟨gw_1468, List.forall_mem_cons.mpr ⟨gw_1470, List.forall_mem_cons.mpr ⟨sp_74, List.forall_mem_cons.mpr ⟨gw_1, fun _ h => absurd h List.not_mem_nil⟩⟩⟩⟩) (gi_ws gw_1471), rfl, by decide +kernel, by decide +kernel, by decide +kernel⟩
theorem fl_RX12_365 : FL RX12 365 11 0 := ⟨(RX12, TX12, 151), rfl, by decide, lays_11, gw_1482⟩
theorem fl_RX12_368 : FL RX12 368 11 1 := ⟨(RX12, TX12, 151), rfl, by decide, lays_11, gw_1483⟩
theorem sp_76 : Cond.selects RX12 yX12_isCell yX12_isCell ∈ gw := gw_mem (pv_in (List.mem_of_getElem? (i := 76) (by decide +kernel)) (n := 151)) (by decide +kernel)
theorem gV_RX12_381 : GV RX12 381 RX12 yX12_isCell cX12_isCell 2 (some .boolean) 1 := ⟨gi_app (List.forall_mem_cons.mpr ⟨gw_1948, List.forall_mem_cons.mpr ⟨gw_1950, List.forall_mem_cons.mpr ⟨sp_76, List.forall_mem_cons.mpr ⟨gw_8, fun _ h => absurd h List.not_mem_nil⟩⟩⟩⟩) (gi_ws gw_1951), rfl, by decide +kernel, by decide +kernel, by decide +kernel⟩
theorem fl_RX12_393 : FL RX12 393 11 9 := ⟨(RX12, TX12, 151), rfl, by decide, lays_11, gw_1491⟩
theorem fl_RX12_375 : FL RX12 375 11 10 := ⟨(RX12, TX12, 151), rfl, by decide, lays_11, gw_1492⟩
theorem sp_85 : Cond.selects RX12 yX12_isPlace yX12_isPlace ∈ gw := gw_mem (pv_in (List.mem_of_getElem? (i := 85) (by decide +kernel)) (n := 151)) (by decide +kernel)
theorem gV_RX12_399 : GV RX12 399 RX12 yX12_isPlace cX12_isPlace 3 (some .boolean) 2 := ⟨gi_app (List.forall_mem_cons.mpr ⟨gw_2007, List.forall_mem_cons.mpr ⟨gw_2009, List.forall_mem_cons.mpr ⟨sp_85, List.forall_mem_cons.mpr ⟨gw_8, fun _ h => absurd h List.not_mem_nil⟩⟩⟩⟩) (gi_ws gw_2010), rfl, by decide +kernel, by decide +kernel, by decide +kernel⟩
theorem sp_88 : Cond.selects RX12 yX12_isStation yX12_isStation ∈ gw := gw_mem (pv_in (List.mem_of_getElem? (i := 88) (by decide +kernel)) (n := 151)) (by decide +kernel)
theorem gV_RX12_403 : GV RX12 403 RX12 yX12_isStation cX12_isStation 2 (some .boolean) 1 := ⟨gi_app (List.forall_mem_cons.mpr ⟨gw_2028, List.forall_mem_cons.mpr ⟨gw_2030, List.forall_mem_cons.mpr ⟨sp_88, List.forall_mem_cons.mpr ⟨gw_8, fun _ h => absurd h List.not_mem_nil⟩⟩⟩⟩) (gi_ws gw_2031), rfl, by decide +kernel, by decide +kernel, by decide +kernel⟩
theorem fl_RX12_535 : FL RX12 535 11 47 := ⟨(RX12, TX12, 151), rfl, by decide, lays_11, gw_1529⟩
theorem fl_RX12_378 : FL RX12 378 11 66 := ⟨(RX12, TX12, 151), rfl, by decide, lays_11, gw_1548⟩
theorem fl_RX12_612 : FL RX12 612 11 91 := ⟨(RX12, TX12, 151), rfl, by decide, lays_11, gw_1573⟩
theorem fl_RX12_718 : FL RX12 718 11 133 := ⟨(RX12, TX12, 151), rfl, by decide, lays_11, gw_1615⟩
theorem sp_108 : Cond.selects RX12 yX12_isText yX12_isText ∈ gw := gw_mem (pv_in (List.mem_of_getElem? (i := 108) (by decide +kernel)) (n := 151)) (by decide +kernel)
theorem gV_RX12_541 : GV RX12 541 RX12 yX12_isText cX12_isText 2 (some .boolean) 1 := ⟨gi_app (List.forall_mem_cons.mpr ⟨gw_2142, List.forall_mem_cons.mpr ⟨gw_2144, List.forall_mem_cons.mpr ⟨sp_108, List.forall_mem_cons.mpr ⟨gw_8, fun _ h => absurd h List.not_mem_nil⟩⟩⟩⟩) (gi_ws gw_2145), rfl, by decide +kernel, by decide +kernel, by decide +kernel⟩
theorem fp_RX12_365 : FP RX12 365 11 0 .int false := ⟨(RX12, TX12, 151), tyX12, rfl, by decide, lays_11, gw_1482, tyX12_ok, nmX12, rfl, by decide +kernel, fun h => by cases h⟩
theorem fp_RX12_368 : FP RX12 368 11 1 .int false := ⟨(RX12, TX12, 151), tyX12, rfl, by decide, lays_11, gw_1483, tyX12_ok, nmX12, rfl, by decide +kernel, fun h => by cases h⟩
theorem fl_RX12_16 : FL RX12 16 11 5 := ⟨(RX12, TX12, 151), rfl, by decide, lays_11, gw_1487⟩
theorem fl_RX12_20 : FL RX12 20 11 6 := ⟨(RX12, TX12, 151), rfl, by decide, lays_11, gw_1488⟩
theorem fl_RX12_23 : FL RX12 23 11 7 := ⟨(RX12, TX12, 151), rfl, by decide, lays_11, gw_1489⟩
theorem fl_RX12_26 : FL RX12 26 11 8 := ⟨(RX12, TX12, 151), rfl, by decide, lays_11, gw_1490⟩
theorem fl_RX12_35 : FL RX12 35 11 13 := ⟨(RX12, TX12, 151), rfl, by decide, lays_11, gw_1495⟩
theorem fl_RX12_38 : FL RX12 38 11 14 := ⟨(RX12, TX12, 151), rfl, by decide, lays_11, gw_1496⟩
theorem fl_RX12_41 : FL RX12 41 11 15 := ⟨(RX12, TX12, 151), rfl, by decide, lays_11, gw_1497⟩
theorem fl_RX12_44 : FL RX12 44 11 16 := ⟨(RX12, TX12, 151), rfl, by decide, lays_11, gw_1498⟩
theorem fl_RX12_47 : FL RX12 47 11 17 := ⟨(RX12, TX12, 151), rfl, by decide, lays_11, gw_1499⟩
theorem fl_RX12_50 : FL RX12 50 11 18 := ⟨(RX12, TX12, 151), rfl, by decide, lays_11, gw_1500⟩
theorem fl_RX12_396 : FL RX12 396 11 2 := ⟨(RX12, TX12, 151), rfl, by decide, lays_11, gw_1484⟩
theorem fp_RX12_375 : FP RX12 375 11 10 .int false := ⟨(RX12, TX12, 151), tyX12, rfl, by decide, lays_11, gw_1492, tyX12_ok, nmX12, rfl, by decide +kernel, fun h => by cases h⟩
theorem fl_RX12_84 : FL RX12 84 11 29 := ⟨(RX12, TX12, 151), rfl, by decide, lays_11, gw_1511⟩
theorem fl_RX12_436 : FL RX12 436 11 30 := ⟨(RX12, TX12, 151), rfl, by decide, lays_11, gw_1512⟩
theorem fp_RX12_436 : FP RX12 436 11 30 .int false := ⟨(RX12, TX12, 151), tyX12, rfl, by decide, lays_11, gw_1512, tyX12_ok, nmX12, rfl, by decide +kernel, fun h => by cases h⟩
theorem gS_RX12_371 : GS RX12 371 yX12_in cX12_in 3 (some .boolean) 3 := ⟨gi_app (List.forall_mem_cons.mpr ⟨gw_1941, List.forall_mem_cons.mpr ⟨gw_1942, List.forall_mem_cons.mpr ⟨gw_8, fun _ h => absurd h List.not_mem_nil⟩⟩⟩) (gi_ws gw_1943), by decide +kernel, by decide +kernel, by decide +kernel⟩
theorem sp_75 : Cond.selects RX12 yX12_begins yX12_begins ∈ gw := gw_mem (pv_in (List.mem_of_getElem? (i := 75) (by decide +kernel)) (n := 151)) (by decide +kernel)
theorem gV_RX12_361 : GV RX12 361 RX12 yX12_begins cX12_begins 4 (none : Option Jvm.ClassFile.FieldType) 2 := ⟨gi_app (List.forall_mem_cons.mpr ⟨gw_1478, List.forall_mem_cons.mpr ⟨gw_1480, List.forall_mem_cons.mpr ⟨sp_75, List.forall_mem_cons.mpr ⟨gw_8, fun _ h => absurd h List.not_mem_nil⟩⟩⟩⟩) (gi_ws gw_1481), rfl, by decide +kernel, by decide +kernel, by decide +kernel⟩
theorem fl_RX12_7 : FL RX12 7 11 3 := ⟨(RX12, TX12, 151), rfl, by decide, lays_11, gw_1485⟩
theorem fp_RX12_7 : FP RX12 7 11 3 .int false := ⟨(RX12, TX12, 151), tyX12, rfl, by decide, lays_11, gw_1485, tyX12_ok, nmX12, rfl, by decide +kernel, fun h => by cases h⟩
theorem fl_RX12_13 : FL RX12 13 11 4 := ⟨(RX12, TX12, 151), rfl, by decide, lays_11, gw_1486⟩
theorem fp_RX12_13 : FP RX12 13 11 4 .int false := ⟨(RX12, TX12, 151), tyX12, rfl, by decide, lays_11, gw_1486, tyX12_ok, nmX12, rfl, by decide +kernel, fun h => by cases h⟩
theorem fl_RX12_29 : FL RX12 29 11 11 := ⟨(RX12, TX12, 151), rfl, by decide, lays_11, gw_1493⟩
theorem fp_RX12_393 : FP RX12 393 11 9 .int false := ⟨(RX12, TX12, 151), tyX12, rfl, by decide, lays_11, gw_1491, tyX12_ok, nmX12, rfl, by decide +kernel, fun h => by cases h⟩
theorem sp_77 : Cond.selects RX12 yX12_isParty yX12_isParty ∈ gw := gw_mem (pv_in (List.mem_of_getElem? (i := 77) (by decide +kernel)) (n := 151)) (by decide +kernel)
theorem gV_RX12_406 : GV RX12 406 RX12 yX12_isParty cX12_isParty 2 (some .boolean) 1 := ⟨gi_app (List.forall_mem_cons.mpr ⟨gw_1964, List.forall_mem_cons.mpr ⟨gw_1966, List.forall_mem_cons.mpr ⟨sp_77, List.forall_mem_cons.mpr ⟨gw_8, fun _ h => absurd h List.not_mem_nil⟩⟩⟩⟩) (gi_ws gw_1967), rfl, by decide +kernel, by decide +kernel, by decide +kernel⟩
theorem sp_87 : Cond.selects RX12 yX12_stands yX12_stands ∈ gw := gw_mem (pv_in (List.mem_of_getElem? (i := 87) (by decide +kernel)) (n := 151)) (by decide +kernel)
theorem gV_RX12_433 : GV RX12 433 RX12 yX12_stands cX12_stands 2 (some .boolean) 1 := ⟨gi_app (List.forall_mem_cons.mpr ⟨gw_2024, List.forall_mem_cons.mpr ⟨gw_2026, List.forall_mem_cons.mpr ⟨sp_87, List.forall_mem_cons.mpr ⟨gw_8, fun _ h => absurd h List.not_mem_nil⟩⟩⟩⟩) (gi_ws gw_2027), rfl, by decide +kernel, by decide +kernel, by decide +kernel⟩
theorem sp_79 : Cond.selects RX12 yX12_isRectangle yX12_isRectangle ∈ gw := gw_mem (pv_in (List.mem_of_getElem? (i := 79) (by decide +kernel)) (n := 151)) (by decide +kernel)
theorem gV_RX12_415 : GV RX12 415 RX12 yX12_isRectangle cX12_isRectangle 3 (some .boolean) 2 := ⟨gi_app (List.forall_mem_cons.mpr ⟨gw_1979, List.forall_mem_cons.mpr ⟨gw_1981, List.forall_mem_cons.mpr ⟨sp_79, List.forall_mem_cons.mpr ⟨gw_8, fun _ h => absurd h List.not_mem_nil⟩⟩⟩⟩) (gi_ws gw_1982), rfl, by decide +kernel, by decide +kernel, by decide +kernel⟩
theorem sp_84 : Cond.selects RX12 yX12_place yX12_place ∈ gw := gw_mem (pv_in (List.mem_of_getElem? (i := 84) (by decide +kernel)) (n := 151)) (by decide +kernel)
theorem gV_RX12_421 : GV RX12 421 RX12 yX12_place cX12_place 6 (some .int) 5 := ⟨gi_app (List.forall_mem_cons.mpr ⟨gw_1999, List.forall_mem_cons.mpr ⟨gw_2001, List.forall_mem_cons.mpr ⟨sp_84, List.forall_mem_cons.mpr ⟨gw_8, fun _ h => absurd h List.not_mem_nil⟩⟩⟩⟩) (gi_ws gw_2002), rfl, by decide +kernel, by decide +kernel, by decide +kernel⟩
theorem sp_89 : Cond.selects RX12 yX12_types yX12_types ∈ gw := gw_mem (pv_in (List.mem_of_getElem? (i := 89) (by decide +kernel)) (n := 151)) (by decide +kernel)
theorem gV_RX12_439 : GV RX12 439 RX12 yX12_types cX12_types 3 (none : Option Jvm.ClassFile.FieldType) 1 := ⟨gi_app (List.forall_mem_cons.mpr ⟨gw_2044, List.forall_mem_cons.mpr ⟨gw_2046, List.forall_mem_cons.mpr ⟨sp_89, List.forall_mem_cons.mpr ⟨gw_8, fun _ h => absurd h List.not_mem_nil⟩⟩⟩⟩) (gi_ws gw_2047), rfl, by decide +kernel, by decide +kernel, by decide +kernel⟩
theorem gS_RX12_409 : GS RX12 409 yX12_isDay cX12_isDay 1 (some .boolean) 1 := ⟨gi_app (List.forall_mem_cons.mpr ⟨gw_1968, List.forall_mem_cons.mpr ⟨gw_1969, List.forall_mem_cons.mpr ⟨gw_8, fun _ h => absurd h List.not_mem_nil⟩⟩⟩) (gi_ws gw_1970), by decide +kernel, by decide +kernel, by decide +kernel⟩
theorem sp_112 : Cond.selects RX12 yX12_isWork yX12_isWork ∈ gw := gw_mem (pv_in (List.mem_of_getElem? (i := 112) (by decide +kernel)) (n := 151)) (by decide +kernel)
theorem gV_RX12_566 : GV RX12 566 RX12 yX12_isWork cX12_isWork 2 (some .boolean) 1 := ⟨gi_app (List.forall_mem_cons.mpr ⟨gw_2178, List.forall_mem_cons.mpr ⟨gw_2180, List.forall_mem_cons.mpr ⟨sp_112, List.forall_mem_cons.mpr ⟨gw_8, fun _ h => absurd h List.not_mem_nil⟩⟩⟩⟩) (gi_ws gw_2181), rfl, by decide +kernel, by decide +kernel, by decide +kernel⟩
theorem gS_RX12_615 : GS RX12 615 yX12_isSea cX12_isSea 1 (some .boolean) 1 := ⟨gi_app (List.forall_mem_cons.mpr ⟨gw_2264, List.forall_mem_cons.mpr ⟨gw_2265, List.forall_mem_cons.mpr ⟨gw_8, fun _ h => absurd h List.not_mem_nil⟩⟩⟩) (gi_ws gw_2266), by decide +kernel, by decide +kernel, by decide +kernel⟩
theorem fl_RX12_241 : FL RX12 241 11 105 := ⟨(RX12, TX12, 151), rfl, by decide, lays_11, gw_1587⟩
theorem fl_RX12_244 : FL RX12 244 11 106 := ⟨(RX12, TX12, 151), rfl, by decide, lays_11, gw_1588⟩
theorem sp_125 : Cond.selects RX12 yX12_isShip yX12_isShip ∈ gw := gw_mem (pv_in (List.mem_of_getElem? (i := 125) (by decide +kernel)) (n := 151)) (by decide +kernel)
theorem gV_RX12_618 : GV RX12 618 RX12 yX12_isShip cX12_isShip 2 (some .boolean) 1 := ⟨gi_app (List.forall_mem_cons.mpr ⟨gw_2275, List.forall_mem_cons.mpr ⟨gw_2277, List.forall_mem_cons.mpr ⟨sp_125, List.forall_mem_cons.mpr ⟨gw_8, fun _ h => absurd h List.not_mem_nil⟩⟩⟩⟩) (gi_ws gw_2278), rfl, by decide +kernel, by decide +kernel, by decide +kernel⟩
theorem fl_RX12_660 : FL RX12 660 11 93 := ⟨(RX12, TX12, 151), rfl, by decide, lays_11, gw_1575⟩
theorem fp_RX12_396 : FP RX12 396 11 2 .int false := ⟨(RX12, TX12, 151), tyX12, rfl, by decide, lays_11, gw_1484, tyX12_ok, nmX12, rfl, by decide +kernel, fun h => by cases h⟩
theorem sp_129 : Cond.selects RX12 yX12_worksGo yX12_worksGo ∈ gw := gw_mem (pv_in (List.mem_of_getElem? (i := 129) (by decide +kernel)) (n := 151)) (by decide +kernel)
theorem gV_RX12_688 : GV RX12 688 RX12 yX12_worksGo cX12_worksGo 3 (none : Option Jvm.ClassFile.FieldType) 0 := ⟨gi_app (List.forall_mem_cons.mpr ⟨gw_2327, List.forall_mem_cons.mpr ⟨gw_2329, List.forall_mem_cons.mpr ⟨sp_129, List.forall_mem_cons.mpr ⟨gw_8, fun _ h => absurd h List.not_mem_nil⟩⟩⟩⟩) (gi_ws gw_2330), rfl, by decide +kernel, by decide +kernel, by decide +kernel⟩
theorem fl_RX12_648 : FL RX12 648 11 92 := ⟨(RX12, TX12, 151), rfl, by decide, lays_11, gw_1574⟩
theorem fl_RX12_301 : FL RX12 301 11 127 := ⟨(RX12, TX12, 151), rfl, by decide, lays_11, gw_1609⟩
theorem fl_RX12_280 : FL RX12 280 11 119 := ⟨(RX12, TX12, 151), rfl, by decide, lays_11, gw_1601⟩
theorem fp_RX12_280 : FP RX12 280 11 119 .int false := ⟨(RX12, TX12, 151), tyX12, rfl, by decide, lays_11, gw_1601, tyX12_ok, nmX12, rfl, by decide +kernel, fun h => by cases h⟩
theorem fl_RX12_709 : FL RX12 709 11 120 := ⟨(RX12, TX12, 151), rfl, by decide, lays_11, gw_1602⟩
theorem fl_RX12_319 : FL RX12 319 11 134 := ⟨(RX12, TX12, 151), rfl, by decide, lays_11, gw_1616⟩
theorem fp_RX12_718 : FP RX12 718 11 133 .int false := ⟨(RX12, TX12, 151), tyX12, rfl, by decide, lays_11, gw_1615, tyX12_ok, nmX12, rfl, by decide +kernel, fun h => by cases h⟩
theorem fl_RX12_736 : FL RX12 736 11 137 := ⟨(RX12, TX12, 151), rfl, by decide, lays_11, gw_1619⟩
theorem gV_RX12_758 : GV RX12 758 RX12 yX12_plan cX12_plan 4 (some .int) 3 := ⟨gi_app (List.forall_mem_cons.mpr ⟨gw_2498, List.forall_mem_cons.mpr ⟨gw_2471, List.forall_mem_cons.mpr ⟨gw_2472, List.forall_mem_cons.mpr ⟨gw_8, fun _ h => absurd h List.not_mem_nil⟩⟩⟩⟩) (gi_ws gw_2473), rfl, by decide +kernel, by decide +kernel, by decide +kernel⟩
theorem fl_RX12_429 : FL RX12 429 11 83 := ⟨(RX12, TX12, 151), rfl, by decide, lays_11, gw_1565⟩
theorem fl_RX12_654 : FL RX12 654 11 84 := ⟨(RX12, TX12, 151), rfl, by decide, lays_11, gw_1566⟩
theorem fl_RX12_657 : FL RX12 657 11 85 := ⟨(RX12, TX12, 151), rfl, by decide, lays_11, gw_1567⟩
theorem fl_RX12_632 : FL RX12 632 11 86 := ⟨(RX12, TX12, 151), rfl, by decide, lays_11, gw_1568⟩
theorem fl_RX12_679 : FL RX12 679 11 87 := ⟨(RX12, TX12, 151), rfl, by decide, lays_11, gw_1569⟩
theorem fl_RX12_682 : FL RX12 682 11 88 := ⟨(RX12, TX12, 151), rfl, by decide, lays_11, gw_1570⟩
theorem fl_RX12_635 : FL RX12 635 11 89 := ⟨(RX12, TX12, 151), rfl, by decide, lays_11, gw_1571⟩
theorem fl_RX12_673 : FL RX12 673 11 90 := ⟨(RX12, TX12, 151), rfl, by decide, lays_11, gw_1572⟩
theorem fl_RX12_667 : FL RX12 667 11 118 := ⟨(RX12, TX12, 151), rfl, by decide, lays_11, gw_1600⟩
theorem fl_RX12_547 : FL RX12 547 11 48 := ⟨(RX12, TX12, 151), rfl, by decide, lays_11, gw_1530⟩
theorem fl_RX12_761 : FL RX12 761 11 145 := ⟨(RX12, TX12, 151), rfl, by decide, lays_11, gw_1627⟩
theorem fp_RX12_16 : FP RX12 16 11 5 (.array .int) true := ⟨(RX12, TX12, 151), tyX12, rfl, by decide, lays_11, gw_1487, tyX12_ok, nmX12, rfl, by decide +kernel, fun _ => rfl⟩
theorem fp_RX12_20 : FP RX12 20 11 6 (.array .int) true := ⟨(RX12, TX12, 151), tyX12, rfl, by decide, lays_11, gw_1488, tyX12_ok, nmX12, rfl, by decide +kernel, fun _ => rfl⟩
theorem fp_RX12_23 : FP RX12 23 11 7 (.array .int) true := ⟨(RX12, TX12, 151), tyX12, rfl, by decide, lays_11, gw_1489, tyX12_ok, nmX12, rfl, by decide +kernel, fun _ => rfl⟩
theorem fp_RX12_26 : FP RX12 26 11 8 (.array .int) true := ⟨(RX12, TX12, 151), tyX12, rfl, by decide, lays_11, gw_1490, tyX12_ok, nmX12, rfl, by decide +kernel, fun _ => rfl⟩
theorem fp_RX12_29 : FP RX12 29 11 11 (.array .int) true := ⟨(RX12, TX12, 151), tyX12, rfl, by decide, lays_11, gw_1493, tyX12_ok, nmX12, rfl, by decide +kernel, fun _ => rfl⟩
theorem fl_RX12_32 : FL RX12 32 11 12 := ⟨(RX12, TX12, 151), rfl, by decide, lays_11, gw_1494⟩
theorem fp_RX12_32 : FP RX12 32 11 12 (.array .int) true := ⟨(RX12, TX12, 151), tyX12, rfl, by decide, lays_11, gw_1494, tyX12_ok, nmX12, rfl, by decide +kernel, fun _ => rfl⟩
theorem fp_RX12_35 : FP RX12 35 11 13 (.array .int) true := ⟨(RX12, TX12, 151), tyX12, rfl, by decide, lays_11, gw_1495, tyX12_ok, nmX12, rfl, by decide +kernel, fun _ => rfl⟩
theorem fp_RX12_38 : FP RX12 38 11 14 (.array .int) true := ⟨(RX12, TX12, 151), tyX12, rfl, by decide, lays_11, gw_1496, tyX12_ok, nmX12, rfl, by decide +kernel, fun _ => rfl⟩
theorem fp_RX12_41 : FP RX12 41 11 15 (.array .int) true := ⟨(RX12, TX12, 151), tyX12, rfl, by decide, lays_11, gw_1497, tyX12_ok, nmX12, rfl, by decide +kernel, fun _ => rfl⟩
theorem fp_RX12_44 : FP RX12 44 11 16 (.array .int) true := ⟨(RX12, TX12, 151), tyX12, rfl, by decide, lays_11, gw_1498, tyX12_ok, nmX12, rfl, by decide +kernel, fun _ => rfl⟩
theorem fp_RX12_47 : FP RX12 47 11 17 (.array .int) true := ⟨(RX12, TX12, 151), tyX12, rfl, by decide, lays_11, gw_1499, tyX12_ok, nmX12, rfl, by decide +kernel, fun _ => rfl⟩
theorem fp_RX12_50 : FP RX12 50 11 18 (.array .int) true := ⟨(RX12, TX12, 151), tyX12, rfl, by decide, lays_11, gw_1500, tyX12_ok, nmX12, rfl, by decide +kernel, fun _ => rfl⟩
theorem fl_RX12_53 : FL RX12 53 11 19 := ⟨(RX12, TX12, 151), rfl, by decide, lays_11, gw_1501⟩
theorem fp_RX12_53 : FP RX12 53 11 19 (.array .int) true := ⟨(RX12, TX12, 151), tyX12, rfl, by decide, lays_11, gw_1501, tyX12_ok, nmX12, rfl, by decide +kernel, fun _ => rfl⟩
theorem fl_RX12_56 : FL RX12 56 11 20 := ⟨(RX12, TX12, 151), rfl, by decide, lays_11, gw_1502⟩
theorem fp_RX12_56 : FP RX12 56 11 20 (.array .int) true := ⟨(RX12, TX12, 151), tyX12, rfl, by decide, lays_11, gw_1502, tyX12_ok, nmX12, rfl, by decide +kernel, fun _ => rfl⟩
theorem fl_RX12_59 : FL RX12 59 11 21 := ⟨(RX12, TX12, 151), rfl, by decide, lays_11, gw_1503⟩
theorem fp_RX12_59 : FP RX12 59 11 21 (.array .int) true := ⟨(RX12, TX12, 151), tyX12, rfl, by decide, lays_11, gw_1503, tyX12_ok, nmX12, rfl, by decide +kernel, fun _ => rfl⟩
theorem fl_RX12_62 : FL RX12 62 11 22 := ⟨(RX12, TX12, 151), rfl, by decide, lays_11, gw_1504⟩
theorem fp_RX12_62 : FP RX12 62 11 22 (.array .int) true := ⟨(RX12, TX12, 151), tyX12, rfl, by decide, lays_11, gw_1504, tyX12_ok, nmX12, rfl, by decide +kernel, fun _ => rfl⟩
theorem fl_RX12_65 : FL RX12 65 11 23 := ⟨(RX12, TX12, 151), rfl, by decide, lays_11, gw_1505⟩
theorem fp_RX12_65 : FP RX12 65 11 23 (.array .int) true := ⟨(RX12, TX12, 151), tyX12, rfl, by decide, lays_11, gw_1505, tyX12_ok, nmX12, rfl, by decide +kernel, fun _ => rfl⟩
theorem fl_RX12_68 : FL RX12 68 11 24 := ⟨(RX12, TX12, 151), rfl, by decide, lays_11, gw_1506⟩
theorem fp_RX12_68 : FP RX12 68 11 24 (.array .int) true := ⟨(RX12, TX12, 151), tyX12, rfl, by decide, lays_11, gw_1506, tyX12_ok, nmX12, rfl, by decide +kernel, fun _ => rfl⟩
theorem fl_RX12_71 : FL RX12 71 11 25 := ⟨(RX12, TX12, 151), rfl, by decide, lays_11, gw_1507⟩
theorem fp_RX12_71 : FP RX12 71 11 25 (.array .int) true := ⟨(RX12, TX12, 151), tyX12, rfl, by decide, lays_11, gw_1507, tyX12_ok, nmX12, rfl, by decide +kernel, fun _ => rfl⟩
theorem fl_RX12_74 : FL RX12 74 11 26 := ⟨(RX12, TX12, 151), rfl, by decide, lays_11, gw_1508⟩
theorem fp_RX12_74 : FP RX12 74 11 26 (.array .int) true := ⟨(RX12, TX12, 151), tyX12, rfl, by decide, lays_11, gw_1508, tyX12_ok, nmX12, rfl, by decide +kernel, fun _ => rfl⟩
theorem fl_RX12_77 : FL RX12 77 11 27 := ⟨(RX12, TX12, 151), rfl, by decide, lays_11, gw_1509⟩
theorem fp_RX12_77 : FP RX12 77 11 27 (.array .int) true := ⟨(RX12, TX12, 151), tyX12, rfl, by decide, lays_11, gw_1509, tyX12_ok, nmX12, rfl, by decide +kernel, fun _ => rfl⟩
theorem fl_RX12_80 : FL RX12 80 11 28 := ⟨(RX12, TX12, 151), rfl, by decide, lays_11, gw_1510⟩
theorem fp_RX12_80 : FP RX12 80 11 28 (.array .boolean) true := ⟨(RX12, TX12, 151), tyX12, rfl, by decide, lays_11, gw_1510, tyX12_ok, nmX12, rfl, by decide +kernel, fun _ => rfl⟩
theorem fp_RX12_84 : FP RX12 84 11 29 (.array .byte) true := ⟨(RX12, TX12, 151), tyX12, rfl, by decide, lays_11, gw_1511, tyX12_ok, nmX12, rfl, by decide +kernel, fun _ => rfl⟩
theorem fl_RX12_88 : FL RX12 88 11 39 := ⟨(RX12, TX12, 151), rfl, by decide, lays_11, gw_1521⟩
theorem fp_RX12_88 : FP RX12 88 11 39 (.array .int) true := ⟨(RX12, TX12, 151), tyX12, rfl, by decide, lays_11, gw_1521, tyX12_ok, nmX12, rfl, by decide +kernel, fun _ => rfl⟩
theorem fl_RX12_91 : FL RX12 91 11 40 := ⟨(RX12, TX12, 151), rfl, by decide, lays_11, gw_1522⟩
theorem fp_RX12_91 : FP RX12 91 11 40 (.array .int) true := ⟨(RX12, TX12, 151), tyX12, rfl, by decide, lays_11, gw_1522, tyX12_ok, nmX12, rfl, by decide +kernel, fun _ => rfl⟩
theorem fl_RX12_94 : FL RX12 94 11 41 := ⟨(RX12, TX12, 151), rfl, by decide, lays_11, gw_1523⟩
theorem fp_RX12_94 : FP RX12 94 11 41 (.array .int) true := ⟨(RX12, TX12, 151), tyX12, rfl, by decide, lays_11, gw_1523, tyX12_ok, nmX12, rfl, by decide +kernel, fun _ => rfl⟩
theorem fl_RX12_97 : FL RX12 97 11 42 := ⟨(RX12, TX12, 151), rfl, by decide, lays_11, gw_1524⟩
theorem fp_RX12_97 : FP RX12 97 11 42 (.array .int) true := ⟨(RX12, TX12, 151), tyX12, rfl, by decide, lays_11, gw_1524, tyX12_ok, nmX12, rfl, by decide +kernel, fun _ => rfl⟩
theorem fl_RX12_100 : FL RX12 100 11 43 := ⟨(RX12, TX12, 151), rfl, by decide, lays_11, gw_1525⟩
theorem fp_RX12_100 : FP RX12 100 11 43 (.array .int) true := ⟨(RX12, TX12, 151), tyX12, rfl, by decide, lays_11, gw_1525, tyX12_ok, nmX12, rfl, by decide +kernel, fun _ => rfl⟩
theorem fl_RX12_103 : FL RX12 103 11 44 := ⟨(RX12, TX12, 151), rfl, by decide, lays_11, gw_1526⟩
theorem fp_RX12_103 : FP RX12 103 11 44 (.array .int) true := ⟨(RX12, TX12, 151), tyX12, rfl, by decide, lays_11, gw_1526, tyX12_ok, nmX12, rfl, by decide +kernel, fun _ => rfl⟩
theorem fl_RX12_106 : FL RX12 106 11 45 := ⟨(RX12, TX12, 151), rfl, by decide, lays_11, gw_1527⟩
theorem fp_RX12_106 : FP RX12 106 11 45 (.array .int) true := ⟨(RX12, TX12, 151), tyX12, rfl, by decide, lays_11, gw_1527, tyX12_ok, nmX12, rfl, by decide +kernel, fun _ => rfl⟩
theorem fl_RX12_109 : FL RX12 109 11 46 := ⟨(RX12, TX12, 151), rfl, by decide, lays_11, gw_1528⟩
theorem fp_RX12_109 : FP RX12 109 11 46 (.array .int) true := ⟨(RX12, TX12, 151), tyX12, rfl, by decide, lays_11, gw_1528, tyX12_ok, nmX12, rfl, by decide +kernel, fun _ => rfl⟩
theorem fl_RX12_112 : FL RX12 112 11 49 := ⟨(RX12, TX12, 151), rfl, by decide, lays_11, gw_1531⟩
theorem fp_RX12_112 : FP RX12 112 11 49 (.array .int) true := ⟨(RX12, TX12, 151), tyX12, rfl, by decide, lays_11, gw_1531, tyX12_ok, nmX12, rfl, by decide +kernel, fun _ => rfl⟩
theorem fl_RX12_115 : FL RX12 115 11 50 := ⟨(RX12, TX12, 151), rfl, by decide, lays_11, gw_1532⟩
theorem fp_RX12_115 : FP RX12 115 11 50 (.array .int) true := ⟨(RX12, TX12, 151), tyX12, rfl, by decide, lays_11, gw_1532, tyX12_ok, nmX12, rfl, by decide +kernel, fun _ => rfl⟩
theorem fl_RX12_118 : FL RX12 118 11 51 := ⟨(RX12, TX12, 151), rfl, by decide, lays_11, gw_1533⟩
theorem fp_RX12_118 : FP RX12 118 11 51 (.array .int) true := ⟨(RX12, TX12, 151), tyX12, rfl, by decide, lays_11, gw_1533, tyX12_ok, nmX12, rfl, by decide +kernel, fun _ => rfl⟩
theorem fl_RX12_121 : FL RX12 121 11 52 := ⟨(RX12, TX12, 151), rfl, by decide, lays_11, gw_1534⟩
theorem fp_RX12_121 : FP RX12 121 11 52 (.array .int) true := ⟨(RX12, TX12, 151), tyX12, rfl, by decide, lays_11, gw_1534, tyX12_ok, nmX12, rfl, by decide +kernel, fun _ => rfl⟩
theorem fl_RX12_124 : FL RX12 124 11 53 := ⟨(RX12, TX12, 151), rfl, by decide, lays_11, gw_1535⟩
theorem fp_RX12_124 : FP RX12 124 11 53 (.array .int) true := ⟨(RX12, TX12, 151), tyX12, rfl, by decide, lays_11, gw_1535, tyX12_ok, nmX12, rfl, by decide +kernel, fun _ => rfl⟩
theorem fl_RX12_127 : FL RX12 127 11 54 := ⟨(RX12, TX12, 151), rfl, by decide, lays_11, gw_1536⟩
theorem fp_RX12_127 : FP RX12 127 11 54 (.array .int) true := ⟨(RX12, TX12, 151), tyX12, rfl, by decide, lays_11, gw_1536, tyX12_ok, nmX12, rfl, by decide +kernel, fun _ => rfl⟩
theorem fl_RX12_130 : FL RX12 130 11 55 := ⟨(RX12, TX12, 151), rfl, by decide, lays_11, gw_1537⟩
theorem fp_RX12_130 : FP RX12 130 11 55 (.array .int) true := ⟨(RX12, TX12, 151), tyX12, rfl, by decide, lays_11, gw_1537, tyX12_ok, nmX12, rfl, by decide +kernel, fun _ => rfl⟩
theorem fl_RX12_133 : FL RX12 133 11 56 := ⟨(RX12, TX12, 151), rfl, by decide, lays_11, gw_1538⟩
theorem fp_RX12_133 : FP RX12 133 11 56 (.array .int) true := ⟨(RX12, TX12, 151), tyX12, rfl, by decide, lays_11, gw_1538, tyX12_ok, nmX12, rfl, by decide +kernel, fun _ => rfl⟩
theorem fl_RX12_136 : FL RX12 136 11 57 := ⟨(RX12, TX12, 151), rfl, by decide, lays_11, gw_1539⟩
theorem fp_RX12_136 : FP RX12 136 11 57 (.array .int) true := ⟨(RX12, TX12, 151), tyX12, rfl, by decide, lays_11, gw_1539, tyX12_ok, nmX12, rfl, by decide +kernel, fun _ => rfl⟩
theorem fl_RX12_139 : FL RX12 139 11 58 := ⟨(RX12, TX12, 151), rfl, by decide, lays_11, gw_1540⟩
theorem fp_RX12_139 : FP RX12 139 11 58 (.array .int) true := ⟨(RX12, TX12, 151), tyX12, rfl, by decide, lays_11, gw_1540, tyX12_ok, nmX12, rfl, by decide +kernel, fun _ => rfl⟩
theorem fl_RX12_142 : FL RX12 142 11 59 := ⟨(RX12, TX12, 151), rfl, by decide, lays_11, gw_1541⟩
theorem fp_RX12_142 : FP RX12 142 11 59 (.array .int) true := ⟨(RX12, TX12, 151), tyX12, rfl, by decide, lays_11, gw_1541, tyX12_ok, nmX12, rfl, by decide +kernel, fun _ => rfl⟩
theorem fl_RX12_145 : FL RX12 145 11 60 := ⟨(RX12, TX12, 151), rfl, by decide, lays_11, gw_1542⟩
theorem fp_RX12_145 : FP RX12 145 11 60 (.array .int) true := ⟨(RX12, TX12, 151), tyX12, rfl, by decide, lays_11, gw_1542, tyX12_ok, nmX12, rfl, by decide +kernel, fun _ => rfl⟩
theorem fl_RX12_148 : FL RX12 148 11 61 := ⟨(RX12, TX12, 151), rfl, by decide, lays_11, gw_1543⟩
theorem fp_RX12_148 : FP RX12 148 11 61 (.array .int) true := ⟨(RX12, TX12, 151), tyX12, rfl, by decide, lays_11, gw_1543, tyX12_ok, nmX12, rfl, by decide +kernel, fun _ => rfl⟩
theorem fl_RX12_151 : FL RX12 151 11 62 := ⟨(RX12, TX12, 151), rfl, by decide, lays_11, gw_1544⟩
theorem fp_RX12_151 : FP RX12 151 11 62 (.array .int) true := ⟨(RX12, TX12, 151), tyX12, rfl, by decide, lays_11, gw_1544, tyX12_ok, nmX12, rfl, by decide +kernel, fun _ => rfl⟩
theorem fl_RX12_154 : FL RX12 154 11 63 := ⟨(RX12, TX12, 151), rfl, by decide, lays_11, gw_1545⟩
theorem fp_RX12_154 : FP RX12 154 11 63 (.array .int) true := ⟨(RX12, TX12, 151), tyX12, rfl, by decide, lays_11, gw_1545, tyX12_ok, nmX12, rfl, by decide +kernel, fun _ => rfl⟩
theorem fl_RX12_157 : FL RX12 157 11 64 := ⟨(RX12, TX12, 151), rfl, by decide, lays_11, gw_1546⟩
theorem fp_RX12_157 : FP RX12 157 11 64 (.array .boolean) true := ⟨(RX12, TX12, 151), tyX12, rfl, by decide, lays_11, gw_1546, tyX12_ok, nmX12, rfl, by decide +kernel, fun _ => rfl⟩
theorem fl_RX12_160 : FL RX12 160 11 65 := ⟨(RX12, TX12, 151), rfl, by decide, lays_11, gw_1547⟩
theorem fp_RX12_160 : FP RX12 160 11 65 (.array .boolean) true := ⟨(RX12, TX12, 151), tyX12, rfl, by decide, lays_11, gw_1547, tyX12_ok, nmX12, rfl, by decide +kernel, fun _ => rfl⟩
theorem fl_RX12_163 : FL RX12 163 11 67 := ⟨(RX12, TX12, 151), rfl, by decide, lays_11, gw_1549⟩
theorem fp_RX12_163 : FP RX12 163 11 67 (.array .int) true := ⟨(RX12, TX12, 151), tyX12, rfl, by decide, lays_11, gw_1549, tyX12_ok, nmX12, rfl, by decide +kernel, fun _ => rfl⟩
theorem fl_RX12_166 : FL RX12 166 11 68 := ⟨(RX12, TX12, 151), rfl, by decide, lays_11, gw_1550⟩
theorem fp_RX12_166 : FP RX12 166 11 68 (.array .int) true := ⟨(RX12, TX12, 151), tyX12, rfl, by decide, lays_11, gw_1550, tyX12_ok, nmX12, rfl, by decide +kernel, fun _ => rfl⟩
theorem fl_RX12_169 : FL RX12 169 11 69 := ⟨(RX12, TX12, 151), rfl, by decide, lays_11, gw_1551⟩
theorem fp_RX12_169 : FP RX12 169 11 69 (.array .int) true := ⟨(RX12, TX12, 151), tyX12, rfl, by decide, lays_11, gw_1551, tyX12_ok, nmX12, rfl, by decide +kernel, fun _ => rfl⟩
theorem fl_RX12_172 : FL RX12 172 11 70 := ⟨(RX12, TX12, 151), rfl, by decide, lays_11, gw_1552⟩
theorem fp_RX12_172 : FP RX12 172 11 70 (.array .int) true := ⟨(RX12, TX12, 151), tyX12, rfl, by decide, lays_11, gw_1552, tyX12_ok, nmX12, rfl, by decide +kernel, fun _ => rfl⟩
theorem fl_RX12_175 : FL RX12 175 11 71 := ⟨(RX12, TX12, 151), rfl, by decide, lays_11, gw_1553⟩
theorem fp_RX12_175 : FP RX12 175 11 71 (.array .int) true := ⟨(RX12, TX12, 151), tyX12, rfl, by decide, lays_11, gw_1553, tyX12_ok, nmX12, rfl, by decide +kernel, fun _ => rfl⟩
theorem fl_RX12_178 : FL RX12 178 11 72 := ⟨(RX12, TX12, 151), rfl, by decide, lays_11, gw_1554⟩
theorem fp_RX12_178 : FP RX12 178 11 72 (.array .int) true := ⟨(RX12, TX12, 151), tyX12, rfl, by decide, lays_11, gw_1554, tyX12_ok, nmX12, rfl, by decide +kernel, fun _ => rfl⟩
theorem fl_RX12_181 : FL RX12 181 11 73 := ⟨(RX12, TX12, 151), rfl, by decide, lays_11, gw_1555⟩
theorem fp_RX12_181 : FP RX12 181 11 73 (.array .int) true := ⟨(RX12, TX12, 151), tyX12, rfl, by decide, lays_11, gw_1555, tyX12_ok, nmX12, rfl, by decide +kernel, fun _ => rfl⟩
theorem fl_RX12_184 : FL RX12 184 11 74 := ⟨(RX12, TX12, 151), rfl, by decide, lays_11, gw_1556⟩
theorem fp_RX12_184 : FP RX12 184 11 74 (.array .int) true := ⟨(RX12, TX12, 151), tyX12, rfl, by decide, lays_11, gw_1556, tyX12_ok, nmX12, rfl, by decide +kernel, fun _ => rfl⟩
theorem fl_RX12_187 : FL RX12 187 11 75 := ⟨(RX12, TX12, 151), rfl, by decide, lays_11, gw_1557⟩
theorem fp_RX12_187 : FP RX12 187 11 75 (.array .int) true := ⟨(RX12, TX12, 151), tyX12, rfl, by decide, lays_11, gw_1557, tyX12_ok, nmX12, rfl, by decide +kernel, fun _ => rfl⟩
theorem fl_RX12_190 : FL RX12 190 11 76 := ⟨(RX12, TX12, 151), rfl, by decide, lays_11, gw_1558⟩
theorem fp_RX12_190 : FP RX12 190 11 76 (.array .int) true := ⟨(RX12, TX12, 151), tyX12, rfl, by decide, lays_11, gw_1558, tyX12_ok, nmX12, rfl, by decide +kernel, fun _ => rfl⟩
theorem fl_RX12_193 : FL RX12 193 11 77 := ⟨(RX12, TX12, 151), rfl, by decide, lays_11, gw_1559⟩
theorem fp_RX12_193 : FP RX12 193 11 77 (.array .int) true := ⟨(RX12, TX12, 151), tyX12, rfl, by decide, lays_11, gw_1559, tyX12_ok, nmX12, rfl, by decide +kernel, fun _ => rfl⟩
theorem fl_RX12_196 : FL RX12 196 11 78 := ⟨(RX12, TX12, 151), rfl, by decide, lays_11, gw_1560⟩
theorem fp_RX12_196 : FP RX12 196 11 78 (.array .int) true := ⟨(RX12, TX12, 151), tyX12, rfl, by decide, lays_11, gw_1560, tyX12_ok, nmX12, rfl, by decide +kernel, fun _ => rfl⟩
theorem fl_RX12_199 : FL RX12 199 11 79 := ⟨(RX12, TX12, 151), rfl, by decide, lays_11, gw_1561⟩
theorem fp_RX12_199 : FP RX12 199 11 79 (.array .int) true := ⟨(RX12, TX12, 151), tyX12, rfl, by decide, lays_11, gw_1561, tyX12_ok, nmX12, rfl, by decide +kernel, fun _ => rfl⟩
theorem fl_RX12_202 : FL RX12 202 11 80 := ⟨(RX12, TX12, 151), rfl, by decide, lays_11, gw_1562⟩
theorem fp_RX12_202 : FP RX12 202 11 80 (.array .int) true := ⟨(RX12, TX12, 151), tyX12, rfl, by decide, lays_11, gw_1562, tyX12_ok, nmX12, rfl, by decide +kernel, fun _ => rfl⟩
theorem fl_RX12_205 : FL RX12 205 11 81 := ⟨(RX12, TX12, 151), rfl, by decide, lays_11, gw_1563⟩
theorem fp_RX12_205 : FP RX12 205 11 81 (.array .int) true := ⟨(RX12, TX12, 151), tyX12, rfl, by decide, lays_11, gw_1563, tyX12_ok, nmX12, rfl, by decide +kernel, fun _ => rfl⟩
theorem fl_RX12_208 : FL RX12 208 11 94 := ⟨(RX12, TX12, 151), rfl, by decide, lays_11, gw_1576⟩
theorem fp_RX12_208 : FP RX12 208 11 94 (.array .int) true := ⟨(RX12, TX12, 151), tyX12, rfl, by decide, lays_11, gw_1576, tyX12_ok, nmX12, rfl, by decide +kernel, fun _ => rfl⟩
theorem fl_RX12_211 : FL RX12 211 11 95 := ⟨(RX12, TX12, 151), rfl, by decide, lays_11, gw_1577⟩
theorem fp_RX12_211 : FP RX12 211 11 95 (.array .int) true := ⟨(RX12, TX12, 151), tyX12, rfl, by decide, lays_11, gw_1577, tyX12_ok, nmX12, rfl, by decide +kernel, fun _ => rfl⟩
theorem fl_RX12_214 : FL RX12 214 11 96 := ⟨(RX12, TX12, 151), rfl, by decide, lays_11, gw_1578⟩
theorem fp_RX12_214 : FP RX12 214 11 96 (.array .int) true := ⟨(RX12, TX12, 151), tyX12, rfl, by decide, lays_11, gw_1578, tyX12_ok, nmX12, rfl, by decide +kernel, fun _ => rfl⟩
theorem fl_RX12_217 : FL RX12 217 11 97 := ⟨(RX12, TX12, 151), rfl, by decide, lays_11, gw_1579⟩
theorem fp_RX12_217 : FP RX12 217 11 97 (.array .int) true := ⟨(RX12, TX12, 151), tyX12, rfl, by decide, lays_11, gw_1579, tyX12_ok, nmX12, rfl, by decide +kernel, fun _ => rfl⟩
theorem fl_RX12_220 : FL RX12 220 11 98 := ⟨(RX12, TX12, 151), rfl, by decide, lays_11, gw_1580⟩
theorem fp_RX12_220 : FP RX12 220 11 98 (.array .int) true := ⟨(RX12, TX12, 151), tyX12, rfl, by decide, lays_11, gw_1580, tyX12_ok, nmX12, rfl, by decide +kernel, fun _ => rfl⟩
theorem fl_RX12_223 : FL RX12 223 11 99 := ⟨(RX12, TX12, 151), rfl, by decide, lays_11, gw_1581⟩
theorem fp_RX12_223 : FP RX12 223 11 99 (.array .int) true := ⟨(RX12, TX12, 151), tyX12, rfl, by decide, lays_11, gw_1581, tyX12_ok, nmX12, rfl, by decide +kernel, fun _ => rfl⟩
theorem fl_RX12_226 : FL RX12 226 11 100 := ⟨(RX12, TX12, 151), rfl, by decide, lays_11, gw_1582⟩
theorem fp_RX12_226 : FP RX12 226 11 100 (.array .int) true := ⟨(RX12, TX12, 151), tyX12, rfl, by decide, lays_11, gw_1582, tyX12_ok, nmX12, rfl, by decide +kernel, fun _ => rfl⟩
theorem fl_RX12_229 : FL RX12 229 11 101 := ⟨(RX12, TX12, 151), rfl, by decide, lays_11, gw_1583⟩
theorem fp_RX12_229 : FP RX12 229 11 101 (.array .int) true := ⟨(RX12, TX12, 151), tyX12, rfl, by decide, lays_11, gw_1583, tyX12_ok, nmX12, rfl, by decide +kernel, fun _ => rfl⟩
theorem fl_RX12_232 : FL RX12 232 11 102 := ⟨(RX12, TX12, 151), rfl, by decide, lays_11, gw_1584⟩
theorem fp_RX12_232 : FP RX12 232 11 102 (.array .int) true := ⟨(RX12, TX12, 151), tyX12, rfl, by decide, lays_11, gw_1584, tyX12_ok, nmX12, rfl, by decide +kernel, fun _ => rfl⟩
theorem fl_RX12_235 : FL RX12 235 11 103 := ⟨(RX12, TX12, 151), rfl, by decide, lays_11, gw_1585⟩
theorem fp_RX12_235 : FP RX12 235 11 103 (.array .int) true := ⟨(RX12, TX12, 151), tyX12, rfl, by decide, lays_11, gw_1585, tyX12_ok, nmX12, rfl, by decide +kernel, fun _ => rfl⟩
theorem fl_RX12_238 : FL RX12 238 11 104 := ⟨(RX12, TX12, 151), rfl, by decide, lays_11, gw_1586⟩
theorem fp_RX12_238 : FP RX12 238 11 104 (.array .int) true := ⟨(RX12, TX12, 151), tyX12, rfl, by decide, lays_11, gw_1586, tyX12_ok, nmX12, rfl, by decide +kernel, fun _ => rfl⟩
theorem fp_RX12_241 : FP RX12 241 11 105 (.array .int) true := ⟨(RX12, TX12, 151), tyX12, rfl, by decide, lays_11, gw_1587, tyX12_ok, nmX12, rfl, by decide +kernel, fun _ => rfl⟩
theorem fp_RX12_244 : FP RX12 244 11 106 (.array .int) true := ⟨(RX12, TX12, 151), tyX12, rfl, by decide, lays_11, gw_1588, tyX12_ok, nmX12, rfl, by decide +kernel, fun _ => rfl⟩
theorem fl_RX12_247 : FL RX12 247 11 107 := ⟨(RX12, TX12, 151), rfl, by decide, lays_11, gw_1589⟩
theorem fp_RX12_247 : FP RX12 247 11 107 (.array .int) true := ⟨(RX12, TX12, 151), tyX12, rfl, by decide, lays_11, gw_1589, tyX12_ok, nmX12, rfl, by decide +kernel, fun _ => rfl⟩
theorem fl_RX12_250 : FL RX12 250 11 108 := ⟨(RX12, TX12, 151), rfl, by decide, lays_11, gw_1590⟩
theorem fp_RX12_250 : FP RX12 250 11 108 (.array .int) true := ⟨(RX12, TX12, 151), tyX12, rfl, by decide, lays_11, gw_1590, tyX12_ok, nmX12, rfl, by decide +kernel, fun _ => rfl⟩
theorem fl_RX12_253 : FL RX12 253 11 109 := ⟨(RX12, TX12, 151), rfl, by decide, lays_11, gw_1591⟩
theorem fp_RX12_253 : FP RX12 253 11 109 (.array .int) true := ⟨(RX12, TX12, 151), tyX12, rfl, by decide, lays_11, gw_1591, tyX12_ok, nmX12, rfl, by decide +kernel, fun _ => rfl⟩
theorem fl_RX12_256 : FL RX12 256 11 110 := ⟨(RX12, TX12, 151), rfl, by decide, lays_11, gw_1592⟩
theorem fp_RX12_256 : FP RX12 256 11 110 (.array .int) true := ⟨(RX12, TX12, 151), tyX12, rfl, by decide, lays_11, gw_1592, tyX12_ok, nmX12, rfl, by decide +kernel, fun _ => rfl⟩
theorem fl_RX12_259 : FL RX12 259 11 111 := ⟨(RX12, TX12, 151), rfl, by decide, lays_11, gw_1593⟩
theorem fp_RX12_259 : FP RX12 259 11 111 (.array .boolean) true := ⟨(RX12, TX12, 151), tyX12, rfl, by decide, lays_11, gw_1593, tyX12_ok, nmX12, rfl, by decide +kernel, fun _ => rfl⟩
theorem fl_RX12_262 : FL RX12 262 11 112 := ⟨(RX12, TX12, 151), rfl, by decide, lays_11, gw_1594⟩
theorem fp_RX12_262 : FP RX12 262 11 112 (.array .int) true := ⟨(RX12, TX12, 151), tyX12, rfl, by decide, lays_11, gw_1594, tyX12_ok, nmX12, rfl, by decide +kernel, fun _ => rfl⟩
theorem fl_RX12_265 : FL RX12 265 11 113 := ⟨(RX12, TX12, 151), rfl, by decide, lays_11, gw_1595⟩
theorem fp_RX12_265 : FP RX12 265 11 113 (.array .int) true := ⟨(RX12, TX12, 151), tyX12, rfl, by decide, lays_11, gw_1595, tyX12_ok, nmX12, rfl, by decide +kernel, fun _ => rfl⟩
theorem fl_RX12_268 : FL RX12 268 11 114 := ⟨(RX12, TX12, 151), rfl, by decide, lays_11, gw_1596⟩
theorem fp_RX12_268 : FP RX12 268 11 114 (.array .int) true := ⟨(RX12, TX12, 151), tyX12, rfl, by decide, lays_11, gw_1596, tyX12_ok, nmX12, rfl, by decide +kernel, fun _ => rfl⟩
theorem fl_RX12_271 : FL RX12 271 11 115 := ⟨(RX12, TX12, 151), rfl, by decide, lays_11, gw_1597⟩
theorem fp_RX12_271 : FP RX12 271 11 115 (.array .int) true := ⟨(RX12, TX12, 151), tyX12, rfl, by decide, lays_11, gw_1597, tyX12_ok, nmX12, rfl, by decide +kernel, fun _ => rfl⟩
theorem fl_RX12_274 : FL RX12 274 11 116 := ⟨(RX12, TX12, 151), rfl, by decide, lays_11, gw_1598⟩
theorem fp_RX12_274 : FP RX12 274 11 116 (.array .int) true := ⟨(RX12, TX12, 151), tyX12, rfl, by decide, lays_11, gw_1598, tyX12_ok, nmX12, rfl, by decide +kernel, fun _ => rfl⟩
theorem fl_RX12_277 : FL RX12 277 11 117 := ⟨(RX12, TX12, 151), rfl, by decide, lays_11, gw_1599⟩
theorem fp_RX12_277 : FP RX12 277 11 117 (.array .int) true := ⟨(RX12, TX12, 151), tyX12, rfl, by decide, lays_11, gw_1599, tyX12_ok, nmX12, rfl, by decide +kernel, fun _ => rfl⟩
theorem fl_RX12_283 : FL RX12 283 11 121 := ⟨(RX12, TX12, 151), rfl, by decide, lays_11, gw_1603⟩
theorem fp_RX12_283 : FP RX12 283 11 121 (.array .int) true := ⟨(RX12, TX12, 151), tyX12, rfl, by decide, lays_11, gw_1603, tyX12_ok, nmX12, rfl, by decide +kernel, fun _ => rfl⟩
theorem fl_RX12_286 : FL RX12 286 11 122 := ⟨(RX12, TX12, 151), rfl, by decide, lays_11, gw_1604⟩
theorem fp_RX12_286 : FP RX12 286 11 122 (.array .int) true := ⟨(RX12, TX12, 151), tyX12, rfl, by decide, lays_11, gw_1604, tyX12_ok, nmX12, rfl, by decide +kernel, fun _ => rfl⟩
theorem fl_RX12_289 : FL RX12 289 11 123 := ⟨(RX12, TX12, 151), rfl, by decide, lays_11, gw_1605⟩
theorem fp_RX12_289 : FP RX12 289 11 123 (.array .int) true := ⟨(RX12, TX12, 151), tyX12, rfl, by decide, lays_11, gw_1605, tyX12_ok, nmX12, rfl, by decide +kernel, fun _ => rfl⟩
theorem fl_RX12_292 : FL RX12 292 11 124 := ⟨(RX12, TX12, 151), rfl, by decide, lays_11, gw_1606⟩
theorem fp_RX12_292 : FP RX12 292 11 124 (.array .int) true := ⟨(RX12, TX12, 151), tyX12, rfl, by decide, lays_11, gw_1606, tyX12_ok, nmX12, rfl, by decide +kernel, fun _ => rfl⟩
theorem fl_RX12_295 : FL RX12 295 11 125 := ⟨(RX12, TX12, 151), rfl, by decide, lays_11, gw_1607⟩
theorem fp_RX12_295 : FP RX12 295 11 125 (.array .int) true := ⟨(RX12, TX12, 151), tyX12, rfl, by decide, lays_11, gw_1607, tyX12_ok, nmX12, rfl, by decide +kernel, fun _ => rfl⟩
theorem fl_RX12_298 : FL RX12 298 11 126 := ⟨(RX12, TX12, 151), rfl, by decide, lays_11, gw_1608⟩
theorem fp_RX12_298 : FP RX12 298 11 126 (.array .int) true := ⟨(RX12, TX12, 151), tyX12, rfl, by decide, lays_11, gw_1608, tyX12_ok, nmX12, rfl, by decide +kernel, fun _ => rfl⟩
theorem fp_RX12_301 : FP RX12 301 11 127 (.array .int) true := ⟨(RX12, TX12, 151), tyX12, rfl, by decide, lays_11, gw_1609, tyX12_ok, nmX12, rfl, by decide +kernel, fun _ => rfl⟩
theorem fl_RX12_304 : FL RX12 304 11 128 := ⟨(RX12, TX12, 151), rfl, by decide, lays_11, gw_1610⟩
theorem fp_RX12_304 : FP RX12 304 11 128 (.array .int) true := ⟨(RX12, TX12, 151), tyX12, rfl, by decide, lays_11, gw_1610, tyX12_ok, nmX12, rfl, by decide +kernel, fun _ => rfl⟩
theorem fl_RX12_307 : FL RX12 307 11 129 := ⟨(RX12, TX12, 151), rfl, by decide, lays_11, gw_1611⟩
theorem fp_RX12_307 : FP RX12 307 11 129 (.array .int) true := ⟨(RX12, TX12, 151), tyX12, rfl, by decide, lays_11, gw_1611, tyX12_ok, nmX12, rfl, by decide +kernel, fun _ => rfl⟩
theorem fl_RX12_310 : FL RX12 310 11 130 := ⟨(RX12, TX12, 151), rfl, by decide, lays_11, gw_1612⟩
theorem fp_RX12_310 : FP RX12 310 11 130 (.array .int) true := ⟨(RX12, TX12, 151), tyX12, rfl, by decide, lays_11, gw_1612, tyX12_ok, nmX12, rfl, by decide +kernel, fun _ => rfl⟩
theorem fl_RX12_313 : FL RX12 313 11 131 := ⟨(RX12, TX12, 151), rfl, by decide, lays_11, gw_1613⟩
theorem fp_RX12_313 : FP RX12 313 11 131 (.array .int) true := ⟨(RX12, TX12, 151), tyX12, rfl, by decide, lays_11, gw_1613, tyX12_ok, nmX12, rfl, by decide +kernel, fun _ => rfl⟩
theorem fl_RX12_316 : FL RX12 316 11 132 := ⟨(RX12, TX12, 151), rfl, by decide, lays_11, gw_1614⟩
theorem fp_RX12_316 : FP RX12 316 11 132 (.array .int) true := ⟨(RX12, TX12, 151), tyX12, rfl, by decide, lays_11, gw_1614, tyX12_ok, nmX12, rfl, by decide +kernel, fun _ => rfl⟩
theorem fp_RX12_319 : FP RX12 319 11 134 (.array .int) true := ⟨(RX12, TX12, 151), tyX12, rfl, by decide, lays_11, gw_1616, tyX12_ok, nmX12, rfl, by decide +kernel, fun _ => rfl⟩
theorem fl_RX12_322 : FL RX12 322 11 135 := ⟨(RX12, TX12, 151), rfl, by decide, lays_11, gw_1617⟩
theorem fp_RX12_322 : FP RX12 322 11 135 (.array .boolean) true := ⟨(RX12, TX12, 151), tyX12, rfl, by decide, lays_11, gw_1617, tyX12_ok, nmX12, rfl, by decide +kernel, fun _ => rfl⟩
theorem fl_RX12_325 : FL RX12 325 11 136 := ⟨(RX12, TX12, 151), rfl, by decide, lays_11, gw_1618⟩
theorem fp_RX12_325 : FP RX12 325 11 136 (.array .boolean) true := ⟨(RX12, TX12, 151), tyX12, rfl, by decide, lays_11, gw_1618, tyX12_ok, nmX12, rfl, by decide +kernel, fun _ => rfl⟩
theorem fl_RX12_328 : FL RX12 328 11 139 := ⟨(RX12, TX12, 151), rfl, by decide, lays_11, gw_1621⟩
theorem fp_RX12_328 : FP RX12 328 11 139 (.array .int) true := ⟨(RX12, TX12, 151), tyX12, rfl, by decide, lays_11, gw_1621, tyX12_ok, nmX12, rfl, by decide +kernel, fun _ => rfl⟩
theorem fl_RX12_331 : FL RX12 331 11 140 := ⟨(RX12, TX12, 151), rfl, by decide, lays_11, gw_1622⟩
theorem fp_RX12_331 : FP RX12 331 11 140 (.array .int) true := ⟨(RX12, TX12, 151), tyX12, rfl, by decide, lays_11, gw_1622, tyX12_ok, nmX12, rfl, by decide +kernel, fun _ => rfl⟩
theorem fl_RX12_334 : FL RX12 334 11 141 := ⟨(RX12, TX12, 151), rfl, by decide, lays_11, gw_1623⟩
theorem fp_RX12_334 : FP RX12 334 11 141 (.array .int) true := ⟨(RX12, TX12, 151), tyX12, rfl, by decide, lays_11, gw_1623, tyX12_ok, nmX12, rfl, by decide +kernel, fun _ => rfl⟩
theorem fl_RX12_337 : FL RX12 337 11 142 := ⟨(RX12, TX12, 151), rfl, by decide, lays_11, gw_1624⟩
theorem fp_RX12_337 : FP RX12 337 11 142 (.array .int) true := ⟨(RX12, TX12, 151), tyX12, rfl, by decide, lays_11, gw_1624, tyX12_ok, nmX12, rfl, by decide +kernel, fun _ => rfl⟩
theorem fl_RX12_340 : FL RX12 340 11 143 := ⟨(RX12, TX12, 151), rfl, by decide, lays_11, gw_1625⟩
theorem fp_RX12_340 : FP RX12 340 11 143 (.array .int) true := ⟨(RX12, TX12, 151), tyX12, rfl, by decide, lays_11, gw_1625, tyX12_ok, nmX12, rfl, by decide +kernel, fun _ => rfl⟩
theorem fl_RX12_343 : FL RX12 343 11 144 := ⟨(RX12, TX12, 151), rfl, by decide, lays_11, gw_1626⟩
theorem fp_RX12_343 : FP RX12 343 11 144 (.array .int) true := ⟨(RX12, TX12, 151), tyX12, rfl, by decide, lays_11, gw_1626, tyX12_ok, nmX12, rfl, by decide +kernel, fun _ => rfl⟩
theorem fl_RX12_346 : FL RX12 346 11 146 := ⟨(RX12, TX12, 151), rfl, by decide, lays_11, gw_1628⟩
theorem fp_RX12_346 : FP RX12 346 11 146 (.array .int) true := ⟨(RX12, TX12, 151), tyX12, rfl, by decide, lays_11, gw_1628, tyX12_ok, nmX12, rfl, by decide +kernel, fun _ => rfl⟩
theorem fl_RX12_349 : FL RX12 349 11 147 := ⟨(RX12, TX12, 151), rfl, by decide, lays_11, gw_1629⟩
theorem fp_RX12_349 : FP RX12 349 11 147 (.array .int) true := ⟨(RX12, TX12, 151), tyX12, rfl, by decide, lays_11, gw_1629, tyX12_ok, nmX12, rfl, by decide +kernel, fun _ => rfl⟩
theorem fl_RX12_352 : FL RX12 352 11 148 := ⟨(RX12, TX12, 151), rfl, by decide, lays_11, gw_1630⟩
theorem fp_RX12_352 : FP RX12 352 11 148 (.array .int) true := ⟨(RX12, TX12, 151), tyX12, rfl, by decide, lays_11, gw_1630, tyX12_ok, nmX12, rfl, by decide +kernel, fun _ => rfl⟩
theorem fl_RX12_355 : FL RX12 355 11 149 := ⟨(RX12, TX12, 151), rfl, by decide, lays_11, gw_1631⟩
theorem fp_RX12_355 : FP RX12 355 11 149 (.array .int) true := ⟨(RX12, TX12, 151), tyX12, rfl, by decide, lays_11, gw_1631, tyX12_ok, nmX12, rfl, by decide +kernel, fun _ => rfl⟩
theorem fl_RX12_358 : FL RX12 358 11 150 := ⟨(RX12, TX12, 151), rfl, by decide, lays_11, gw_1632⟩
theorem fp_RX12_358 : FP RX12 358 11 150 (.array .boolean) true := ⟨(RX12, TX12, 151), tyX12, rfl, by decide, lays_11, gw_1632, tyX12_ok, nmX12, rfl, by decide +kernel, fun _ => rfl⟩
theorem gI_RL_9 : GI RL 9 yX11_init cX11_init 1 0 := ⟨gi_ws gw_25, gw_1, gw_23, gw_24, rfl, by decide +kernel, by decide +kernel, by decide +kernel⟩
theorem gI_RL_12 : GI RL 12 yX12_init cX12_init 2 0 := ⟨gi_ws gw_1476, gw_8, gw_1474, gw_1475, rfl, by decide +kernel, by decide +kernel, by decide +kernel⟩
theorem gV_RL_13 : GV RL 13 RX11 yX11_ice cX11_ice 3 (some .boolean) 2 := ⟨gi_app (List.forall_mem_cons.mpr ⟨gw_295, List.forall_mem_cons.mpr ⟨gw_296, List.forall_mem_cons.mpr ⟨gw_297, List.forall_mem_cons.mpr ⟨gw_1, fun _ h => absurd h List.not_mem_nil⟩⟩⟩⟩) (gi_ws gw_298), rfl, by decide +kernel, by decide +kernel, by decide +kernel⟩
theorem gV_RL_17 : GV RL 17 RX12 yX12_ice cX12_ice 3 (some .boolean) 2 := ⟨gi_app (List.forall_mem_cons.mpr ⟨gw_1937, List.forall_mem_cons.mpr ⟨gw_1938, List.forall_mem_cons.mpr ⟨gw_1939, List.forall_mem_cons.mpr ⟨gw_8, fun _ h => absurd h List.not_mem_nil⟩⟩⟩⟩) (gi_ws gw_1940), rfl, by decide +kernel, by decide +kernel, by decide +kernel⟩
theorem gV_RL_18 : GV RL 18 RX11 yX11_cell cX11_cell 8 (some .boolean) 5 := ⟨gi_app (List.forall_mem_cons.mpr ⟨gw_306, List.forall_mem_cons.mpr ⟨gw_307, List.forall_mem_cons.mpr ⟨gw_308, List.forall_mem_cons.mpr ⟨gw_1, fun _ h => absurd h List.not_mem_nil⟩⟩⟩⟩) (gi_ws gw_309), rfl, by decide +kernel, by decide +kernel, by decide +kernel⟩
theorem gV_RL_22 : GV RL 22 RX12 yX12_cell cX12_cell 6 (some .boolean) 5 := ⟨gi_app (List.forall_mem_cons.mpr ⟨gw_1944, List.forall_mem_cons.mpr ⟨gw_1945, List.forall_mem_cons.mpr ⟨gw_1946, List.forall_mem_cons.mpr ⟨gw_8, fun _ h => absurd h List.not_mem_nil⟩⟩⟩⟩) (gi_ws gw_1947), rfl, by decide +kernel, by decide +kernel, by decide +kernel⟩
theorem gV_RL_23 : GV RL 23 RX11 yX11_dark cX11_dark 3 (some .boolean) 2 := ⟨gi_app (List.forall_mem_cons.mpr ⟨gw_314, List.forall_mem_cons.mpr ⟨gw_315, List.forall_mem_cons.mpr ⟨gw_316, List.forall_mem_cons.mpr ⟨gw_1, fun _ h => absurd h List.not_mem_nil⟩⟩⟩⟩) (gi_ws gw_317), rfl, by decide +kernel, by decide +kernel, by decide +kernel⟩
theorem gV_RL_26 : GV RL 26 RX12 yX12_dark cX12_dark 3 (some .boolean) 2 := ⟨gi_app (List.forall_mem_cons.mpr ⟨gw_1952, List.forall_mem_cons.mpr ⟨gw_1953, List.forall_mem_cons.mpr ⟨gw_1954, List.forall_mem_cons.mpr ⟨gw_8, fun _ h => absurd h List.not_mem_nil⟩⟩⟩⟩) (gi_ws gw_1955), rfl, by decide +kernel, by decide +kernel, by decide +kernel⟩
theorem gV_RL_27 : GV RL 27 RX11 yX11_party cX11_party 2 (some .int) 1 := ⟨gi_app (List.forall_mem_cons.mpr ⟨gw_321, List.forall_mem_cons.mpr ⟨gw_322, List.forall_mem_cons.mpr ⟨gw_323, List.forall_mem_cons.mpr ⟨gw_1, fun _ h => absurd h List.not_mem_nil⟩⟩⟩⟩) (gi_ws gw_324), rfl, by decide +kernel, by decide +kernel, by decide +kernel⟩
theorem gV_RL_31 : GV RL 31 RX12 yX12_party cX12_party 2 (some .int) 1 := ⟨gi_app (List.forall_mem_cons.mpr ⟨gw_1956, List.forall_mem_cons.mpr ⟨gw_1957, List.forall_mem_cons.mpr ⟨gw_1958, List.forall_mem_cons.mpr ⟨gw_8, fun _ h => absurd h List.not_mem_nil⟩⟩⟩⟩) (gi_ws gw_1959), rfl, by decide +kernel, by decide +kernel, by decide +kernel⟩
theorem gV_RL_32 : GV RL 32 RX11 yX11_claim cX11_claim 6 (some .int) 4 := ⟨gi_app (List.forall_mem_cons.mpr ⟨gw_353, List.forall_mem_cons.mpr ⟨gw_354, List.forall_mem_cons.mpr ⟨gw_355, List.forall_mem_cons.mpr ⟨gw_1, fun _ h => absurd h List.not_mem_nil⟩⟩⟩⟩) (gi_ws gw_356), rfl, by decide +kernel, by decide +kernel, by decide +kernel⟩
theorem gV_RL_36 : GV RL 36 RX12 yX12_claim cX12_claim 5 (some .int) 4 := ⟨gi_app (List.forall_mem_cons.mpr ⟨gw_1975, List.forall_mem_cons.mpr ⟨gw_1976, List.forall_mem_cons.mpr ⟨gw_1977, List.forall_mem_cons.mpr ⟨gw_8, fun _ h => absurd h List.not_mem_nil⟩⟩⟩⟩) (gi_ws gw_1978), rfl, by decide +kernel, by decide +kernel, by decide +kernel⟩
theorem gV_RL_37 : GV RL 37 RX11 yX11_title cX11_title 5 (some .boolean) 2 := ⟨gi_app (List.forall_mem_cons.mpr ⟨gw_501, List.forall_mem_cons.mpr ⟨gw_502, List.forall_mem_cons.mpr ⟨gw_503, List.forall_mem_cons.mpr ⟨gw_1, fun _ h => absurd h List.not_mem_nil⟩⟩⟩⟩) (gi_ws gw_504), rfl, by decide +kernel, by decide +kernel, by decide +kernel⟩
theorem gV_RL_40 : GV RL 40 RX12 yX12_title cX12_title 3 (some .boolean) 2 := ⟨gi_app (List.forall_mem_cons.mpr ⟨gw_2003, List.forall_mem_cons.mpr ⟨gw_2004, List.forall_mem_cons.mpr ⟨gw_2005, List.forall_mem_cons.mpr ⟨gw_8, fun _ h => absurd h List.not_mem_nil⟩⟩⟩⟩) (gi_ws gw_2006), rfl, by decide +kernel, by decide +kernel, by decide +kernel⟩
theorem gV_RL_41 : GV RL 41 RX11 yX11_station cX11_station 7 (some .int) 4 := ⟨gi_app (List.forall_mem_cons.mpr ⟨gw_513, List.forall_mem_cons.mpr ⟨gw_514, List.forall_mem_cons.mpr ⟨gw_515, List.forall_mem_cons.mpr ⟨gw_1, fun _ h => absurd h List.not_mem_nil⟩⟩⟩⟩) (gi_ws gw_516), rfl, by decide +kernel, by decide +kernel, by decide +kernel⟩
theorem gV_RL_44 : GV RL 44 RX12 yX12_station cX12_station 5 (some .int) 4 := ⟨gi_app (List.forall_mem_cons.mpr ⟨gw_2011, List.forall_mem_cons.mpr ⟨gw_2012, List.forall_mem_cons.mpr ⟨gw_2013, List.forall_mem_cons.mpr ⟨gw_8, fun _ h => absurd h List.not_mem_nil⟩⟩⟩⟩) (gi_ws gw_2014), rfl, by decide +kernel, by decide +kernel, by decide +kernel⟩
theorem gV_RL_45 : GV RL 45 RX11 yX11_field cX11_field 4 (some .int) 2 := ⟨gi_app (List.forall_mem_cons.mpr ⟨gw_527, List.forall_mem_cons.mpr ⟨gw_528, List.forall_mem_cons.mpr ⟨gw_529, List.forall_mem_cons.mpr ⟨gw_1, fun _ h => absurd h List.not_mem_nil⟩⟩⟩⟩) (gi_ws gw_530), rfl, by decide +kernel, by decide +kernel, by decide +kernel⟩
theorem gV_RL_49 : GV RL 49 RX12 yX12_field cX12_field 3 (some .int) 2 := ⟨gi_app (List.forall_mem_cons.mpr ⟨gw_2020, List.forall_mem_cons.mpr ⟨gw_2021, List.forall_mem_cons.mpr ⟨gw_2022, List.forall_mem_cons.mpr ⟨gw_8, fun _ h => absurd h List.not_mem_nil⟩⟩⟩⟩) (gi_ws gw_2023), rfl, by decide +kernel, by decide +kernel, by decide +kernel⟩
theorem gV_RL_50 : GV RL 50 RX11 yX11_reserve cX11_reserve 4 (some .int) 3 := ⟨gi_app (List.forall_mem_cons.mpr ⟨gw_535, List.forall_mem_cons.mpr ⟨gw_536, List.forall_mem_cons.mpr ⟨gw_537, List.forall_mem_cons.mpr ⟨gw_1, fun _ h => absurd h List.not_mem_nil⟩⟩⟩⟩) (gi_ws gw_538), rfl, by decide +kernel, by decide +kernel, by decide +kernel⟩
theorem gV_RL_54 : GV RL 54 RX12 yX12_reserve cX12_reserve 4 (some .int) 3 := ⟨gi_app (List.forall_mem_cons.mpr ⟨gw_2032, List.forall_mem_cons.mpr ⟨gw_2033, List.forall_mem_cons.mpr ⟨gw_2034, List.forall_mem_cons.mpr ⟨gw_8, fun _ h => absurd h List.not_mem_nil⟩⟩⟩⟩) (gi_ws gw_2035), rfl, by decide +kernel, by decide +kernel, by decide +kernel⟩
theorem gV_RL_55 : GV RL 55 RX11 yX11_site cX11_site 3 (some .int) 2 := ⟨gi_app (List.forall_mem_cons.mpr ⟨gw_539, List.forall_mem_cons.mpr ⟨gw_540, List.forall_mem_cons.mpr ⟨gw_541, List.forall_mem_cons.mpr ⟨gw_1, fun _ h => absurd h List.not_mem_nil⟩⟩⟩⟩) (gi_ws gw_542), rfl, by decide +kernel, by decide +kernel, by decide +kernel⟩
theorem gV_RL_59 : GV RL 59 RX12 yX12_site cX12_site 3 (some .int) 2 := ⟨gi_app (List.forall_mem_cons.mpr ⟨gw_2036, List.forall_mem_cons.mpr ⟨gw_2037, List.forall_mem_cons.mpr ⟨gw_2038, List.forall_mem_cons.mpr ⟨gw_8, fun _ h => absurd h List.not_mem_nil⟩⟩⟩⟩) (gi_ws gw_2039), rfl, by decide +kernel, by decide +kernel, by decide +kernel⟩
theorem gV_RL_60 : GV RL 60 RX11 yX11_feed cX11_feed 6 (some .int) 5 := ⟨gi_app (List.forall_mem_cons.mpr ⟨gw_543, List.forall_mem_cons.mpr ⟨gw_544, List.forall_mem_cons.mpr ⟨gw_545, List.forall_mem_cons.mpr ⟨gw_1, fun _ h => absurd h List.not_mem_nil⟩⟩⟩⟩) (gi_ws gw_546), rfl, by decide +kernel, by decide +kernel, by decide +kernel⟩
theorem gV_RL_64 : GV RL 64 RX12 yX12_feed cX12_feed 6 (some .int) 5 := ⟨gi_app (List.forall_mem_cons.mpr ⟨gw_2040, List.forall_mem_cons.mpr ⟨gw_2041, List.forall_mem_cons.mpr ⟨gw_2042, List.forall_mem_cons.mpr ⟨gw_8, fun _ h => absurd h List.not_mem_nil⟩⟩⟩⟩) (gi_ws gw_2043), rfl, by decide +kernel, by decide +kernel, by decide +kernel⟩
theorem gV_RL_65 : GV RL 65 RX11 yX11_text cX11_text 6 (some .int) 3 := ⟨gi_app (List.forall_mem_cons.mpr ⟨gw_563, List.forall_mem_cons.mpr ⟨gw_564, List.forall_mem_cons.mpr ⟨gw_565, List.forall_mem_cons.mpr ⟨gw_1, fun _ h => absurd h List.not_mem_nil⟩⟩⟩⟩) (gi_ws gw_566), rfl, by decide +kernel, by decide +kernel, by decide +kernel⟩
theorem gV_RL_68 : GV RL 68 RX12 yX12_text cX12_text 7 (some .int) 3 := ⟨gi_app (List.forall_mem_cons.mpr ⟨gw_2048, List.forall_mem_cons.mpr ⟨gw_2049, List.forall_mem_cons.mpr ⟨gw_2050, List.forall_mem_cons.mpr ⟨gw_8, fun _ h => absurd h List.not_mem_nil⟩⟩⟩⟩) (gi_ws gw_2051), rfl, by decide +kernel, by decide +kernel, by decide +kernel⟩
theorem gV_RL_69 : GV RL 69 RX11 yX11_yes cX11_yes 4 (some .boolean) 2 := ⟨gi_app (List.forall_mem_cons.mpr ⟨gw_816, List.forall_mem_cons.mpr ⟨gw_817, List.forall_mem_cons.mpr ⟨gw_818, List.forall_mem_cons.mpr ⟨gw_1, fun _ h => absurd h List.not_mem_nil⟩⟩⟩⟩) (gi_ws gw_819), rfl, by decide +kernel, by decide +kernel, by decide +kernel⟩
theorem gV_RL_72 : GV RL 72 RX12 yX12_yes cX12_yes 3 (some .boolean) 2 := ⟨gi_app (List.forall_mem_cons.mpr ⟨gw_2138, List.forall_mem_cons.mpr ⟨gw_2139, List.forall_mem_cons.mpr ⟨gw_2140, List.forall_mem_cons.mpr ⟨gw_8, fun _ h => absurd h List.not_mem_nil⟩⟩⟩⟩) (gi_ws gw_2141), rfl, by decide +kernel, by decide +kernel, by decide +kernel⟩
theorem gV_RL_73 : GV RL 73 RX11 yX11_reading cX11_reading 8 (some .int) 4 := ⟨gi_app (List.forall_mem_cons.mpr ⟨gw_823, List.forall_mem_cons.mpr ⟨gw_824, List.forall_mem_cons.mpr ⟨gw_825, List.forall_mem_cons.mpr ⟨gw_1, fun _ h => absurd h List.not_mem_nil⟩⟩⟩⟩) (gi_ws gw_826), rfl, by decide +kernel, by decide +kernel, by decide +kernel⟩
theorem gV_RL_76 : GV RL 76 RX12 yX12_reading cX12_reading 7 (some .int) 4 := ⟨gi_app (List.forall_mem_cons.mpr ⟨gw_2146, List.forall_mem_cons.mpr ⟨gw_2147, List.forall_mem_cons.mpr ⟨gw_2148, List.forall_mem_cons.mpr ⟨gw_8, fun _ h => absurd h List.not_mem_nil⟩⟩⟩⟩) (gi_ws gw_2149), rfl, by decide +kernel, by decide +kernel, by decide +kernel⟩
theorem gV_RL_77 : GV RL 77 RX11 yX11_counts cX11_counts 5 (some .int) 3 := ⟨gi_app (List.forall_mem_cons.mpr ⟨gw_845, List.forall_mem_cons.mpr ⟨gw_846, List.forall_mem_cons.mpr ⟨gw_847, List.forall_mem_cons.mpr ⟨gw_1, fun _ h => absurd h List.not_mem_nil⟩⟩⟩⟩) (gi_ws gw_848), rfl, by decide +kernel, by decide +kernel, by decide +kernel⟩
theorem gV_RL_80 : GV RL 80 RX12 yX12_counts cX12_counts 6 (some .int) 3 := ⟨gi_app (List.forall_mem_cons.mpr ⟨gw_2154, List.forall_mem_cons.mpr ⟨gw_2155, List.forall_mem_cons.mpr ⟨gw_2156, List.forall_mem_cons.mpr ⟨gw_8, fun _ h => absurd h List.not_mem_nil⟩⟩⟩⟩) (gi_ws gw_2157), rfl, by decide +kernel, by decide +kernel, by decide +kernel⟩
theorem gV_RL_81 : GV RL 81 RX11 yX11_number cX11_number 6 (some .int) 3 := ⟨gi_app (List.forall_mem_cons.mpr ⟨gw_858, List.forall_mem_cons.mpr ⟨gw_859, List.forall_mem_cons.mpr ⟨gw_860, List.forall_mem_cons.mpr ⟨gw_1, fun _ h => absurd h List.not_mem_nil⟩⟩⟩⟩) (gi_ws gw_861), rfl, by decide +kernel, by decide +kernel, by decide +kernel⟩
theorem gV_RL_84 : GV RL 84 RX12 yX12_number cX12_number 4 (some .int) 3 := ⟨gi_app (List.forall_mem_cons.mpr ⟨gw_2158, List.forall_mem_cons.mpr ⟨gw_2159, List.forall_mem_cons.mpr ⟨gw_2160, List.forall_mem_cons.mpr ⟨gw_8, fun _ h => absurd h List.not_mem_nil⟩⟩⟩⟩) (gi_ws gw_2161), rfl, by decide +kernel, by decide +kernel, by decide +kernel⟩
theorem gV_RL_85 : GV RL 85 RX11 yX11_decides cX11_decides 4 (some .int) 2 := ⟨gi_app (List.forall_mem_cons.mpr ⟨gw_863, List.forall_mem_cons.mpr ⟨gw_864, List.forall_mem_cons.mpr ⟨gw_865, List.forall_mem_cons.mpr ⟨gw_1, fun _ h => absurd h List.not_mem_nil⟩⟩⟩⟩) (gi_ws gw_866), rfl, by decide +kernel, by decide +kernel, by decide +kernel⟩
theorem gV_RL_88 : GV RL 88 RX12 yX12_decides cX12_decides 3 (some .int) 2 := ⟨gi_app (List.forall_mem_cons.mpr ⟨gw_1960, List.forall_mem_cons.mpr ⟨gw_1961, List.forall_mem_cons.mpr ⟨gw_1962, List.forall_mem_cons.mpr ⟨gw_8, fun _ h => absurd h List.not_mem_nil⟩⟩⟩⟩) (gi_ws gw_1963), rfl, by decide +kernel, by decide +kernel, by decide +kernel⟩
theorem gV_RL_89 : GV RL 89 RX11 yX11_work cX11_work 9 (some .int) 7 := ⟨gi_app (List.forall_mem_cons.mpr ⟨gw_871, List.forall_mem_cons.mpr ⟨gw_872, List.forall_mem_cons.mpr ⟨gw_873, List.forall_mem_cons.mpr ⟨gw_1, fun _ h => absurd h List.not_mem_nil⟩⟩⟩⟩) (gi_ws gw_874), rfl, by decide +kernel, by decide +kernel, by decide +kernel⟩
theorem gV_RL_93 : GV RL 93 RX12 yX12_work cX12_work 9 (some .int) 7 := ⟨gi_app (List.forall_mem_cons.mpr ⟨gw_2170, List.forall_mem_cons.mpr ⟨gw_2171, List.forall_mem_cons.mpr ⟨gw_2172, List.forall_mem_cons.mpr ⟨gw_8, fun _ h => absurd h List.not_mem_nil⟩⟩⟩⟩) (gi_ws gw_2173), rfl, by decide +kernel, by decide +kernel, by decide +kernel⟩
theorem gV_RL_94 : GV RL 94 RX11 yX11_tell cX11_tell 4 (some .boolean) 2 := ⟨gi_app (List.forall_mem_cons.mpr ⟨gw_946, List.forall_mem_cons.mpr ⟨gw_947, List.forall_mem_cons.mpr ⟨gw_948, List.forall_mem_cons.mpr ⟨gw_1, fun _ h => absurd h List.not_mem_nil⟩⟩⟩⟩) (gi_ws gw_949), rfl, by decide +kernel, by decide +kernel, by decide +kernel⟩
theorem gV_RL_97 : GV RL 97 RX12 yX12_tell cX12_tell 3 (some .boolean) 2 := ⟨gi_app (List.forall_mem_cons.mpr ⟨gw_2174, List.forall_mem_cons.mpr ⟨gw_2175, List.forall_mem_cons.mpr ⟨gw_2176, List.forall_mem_cons.mpr ⟨gw_8, fun _ h => absurd h List.not_mem_nil⟩⟩⟩⟩) (gi_ws gw_2177), rfl, by decide +kernel, by decide +kernel, by decide +kernel⟩
theorem gV_RL_98 : GV RL 98 RX11 yX11_study cX11_study 4 (some .boolean) 2 := ⟨gi_app (List.forall_mem_cons.mpr ⟨gw_954, List.forall_mem_cons.mpr ⟨gw_955, List.forall_mem_cons.mpr ⟨gw_956, List.forall_mem_cons.mpr ⟨gw_1, fun _ h => absurd h List.not_mem_nil⟩⟩⟩⟩) (gi_ws gw_957), rfl, by decide +kernel, by decide +kernel, by decide +kernel⟩
theorem gV_RL_101 : GV RL 101 RX12 yX12_study cX12_study 3 (some .boolean) 2 := ⟨gi_app (List.forall_mem_cons.mpr ⟨gw_2182, List.forall_mem_cons.mpr ⟨gw_2183, List.forall_mem_cons.mpr ⟨gw_2184, List.forall_mem_cons.mpr ⟨gw_8, fun _ h => absurd h List.not_mem_nil⟩⟩⟩⟩) (gi_ws gw_2185), rfl, by decide +kernel, by decide +kernel, by decide +kernel⟩
theorem gV_RL_102 : GV RL 102 RX11 yX11_say cX11_say 6 (some .boolean) 3 := ⟨gi_app (List.forall_mem_cons.mpr ⟨gw_958, List.forall_mem_cons.mpr ⟨gw_959, List.forall_mem_cons.mpr ⟨gw_960, List.forall_mem_cons.mpr ⟨gw_1, fun _ h => absurd h List.not_mem_nil⟩⟩⟩⟩) (gi_ws gw_961), rfl, by decide +kernel, by decide +kernel, by decide +kernel⟩
theorem gV_RL_106 : GV RL 106 RX12 yX12_say cX12_say 4 (some .boolean) 3 := ⟨gi_app (List.forall_mem_cons.mpr ⟨gw_2186, List.forall_mem_cons.mpr ⟨gw_2187, List.forall_mem_cons.mpr ⟨gw_2188, List.forall_mem_cons.mpr ⟨gw_8, fun _ h => absurd h List.not_mem_nil⟩⟩⟩⟩) (gi_ws gw_2189), rfl, by decide +kernel, by decide +kernel, by decide +kernel⟩
theorem gV_RL_107 : GV RL 107 RX11 yX11_may cX11_may 5 (some .int) 3 := ⟨gi_app (List.forall_mem_cons.mpr ⟨gw_962, List.forall_mem_cons.mpr ⟨gw_963, List.forall_mem_cons.mpr ⟨gw_964, List.forall_mem_cons.mpr ⟨gw_1, fun _ h => absurd h List.not_mem_nil⟩⟩⟩⟩) (gi_ws gw_965), rfl, by decide +kernel, by decide +kernel, by decide +kernel⟩
theorem gV_RL_111 : GV RL 111 RX12 yX12_may cX12_may 4 (some .int) 3 := ⟨gi_app (List.forall_mem_cons.mpr ⟨gw_2190, List.forall_mem_cons.mpr ⟨gw_2191, List.forall_mem_cons.mpr ⟨gw_2192, List.forall_mem_cons.mpr ⟨gw_8, fun _ h => absurd h List.not_mem_nil⟩⟩⟩⟩) (gi_ws gw_2193), rfl, by decide +kernel, by decide +kernel, by decide +kernel⟩
theorem gV_RL_112 : GV RL 112 RX11 yX11_why cX11_why 6 (some .int) 4 := ⟨gi_app (List.forall_mem_cons.mpr ⟨gw_1033, List.forall_mem_cons.mpr ⟨gw_1034, List.forall_mem_cons.mpr ⟨gw_1035, List.forall_mem_cons.mpr ⟨gw_1, fun _ h => absurd h List.not_mem_nil⟩⟩⟩⟩) (gi_ws gw_1036), rfl, by decide +kernel, by decide +kernel, by decide +kernel⟩
theorem gV_RL_116 : GV RL 116 RX12 yX12_why cX12_why 5 (some .int) 4 := ⟨gi_app (List.forall_mem_cons.mpr ⟨gw_2248, List.forall_mem_cons.mpr ⟨gw_2249, List.forall_mem_cons.mpr ⟨gw_2250, List.forall_mem_cons.mpr ⟨gw_8, fun _ h => absurd h List.not_mem_nil⟩⟩⟩⟩) (gi_ws gw_2251), rfl, by decide +kernel, by decide +kernel, by decide +kernel⟩
theorem gV_RL_117 : GV RL 117 RX11 yX11_whose cX11_whose 9 (some .int) 2 := ⟨gi_app (List.forall_mem_cons.mpr ⟨gw_1037, List.forall_mem_cons.mpr ⟨gw_1038, List.forall_mem_cons.mpr ⟨gw_1039, List.forall_mem_cons.mpr ⟨gw_1, fun _ h => absurd h List.not_mem_nil⟩⟩⟩⟩) (gi_ws gw_1040), rfl, by decide +kernel, by decide +kernel, by decide +kernel⟩
theorem gV_RL_120 : GV RL 120 RX12 yX12_whose cX12_whose 5 (some .int) 2 := ⟨gi_app (List.forall_mem_cons.mpr ⟨gw_2252, List.forall_mem_cons.mpr ⟨gw_2253, List.forall_mem_cons.mpr ⟨gw_2254, List.forall_mem_cons.mpr ⟨gw_8, fun _ h => absurd h List.not_mem_nil⟩⟩⟩⟩) (gi_ws gw_2255), rfl, by decide +kernel, by decide +kernel, by decide +kernel⟩
theorem gV_RL_121 : GV RL 121 RX11 yX11_ship cX11_ship 4 (some .int) 3 := ⟨gi_app (List.forall_mem_cons.mpr ⟨gw_1041, List.forall_mem_cons.mpr ⟨gw_1042, List.forall_mem_cons.mpr ⟨gw_1043, List.forall_mem_cons.mpr ⟨gw_1, fun _ h => absurd h List.not_mem_nil⟩⟩⟩⟩) (gi_ws gw_1044), rfl, by decide +kernel, by decide +kernel, by decide +kernel⟩
theorem gV_RL_124 : GV RL 124 RX12 yX12_ship cX12_ship 4 (some .int) 3 := ⟨gi_app (List.forall_mem_cons.mpr ⟨gw_2256, List.forall_mem_cons.mpr ⟨gw_2257, List.forall_mem_cons.mpr ⟨gw_2258, List.forall_mem_cons.mpr ⟨gw_8, fun _ h => absurd h List.not_mem_nil⟩⟩⟩⟩) (gi_ws gw_2259), rfl, by decide +kernel, by decide +kernel, by decide +kernel⟩
theorem gV_RL_125 : GV RL 125 RX11 yX11_cover cX11_cover 4 (some .boolean) 3 := ⟨gi_app (List.forall_mem_cons.mpr ⟨gw_1094, List.forall_mem_cons.mpr ⟨gw_1095, List.forall_mem_cons.mpr ⟨gw_1096, List.forall_mem_cons.mpr ⟨gw_1, fun _ h => absurd h List.not_mem_nil⟩⟩⟩⟩) (gi_ws gw_1097), rfl, by decide +kernel, by decide +kernel, by decide +kernel⟩
theorem gV_RL_129 : GV RL 129 RX12 yX12_cover cX12_cover 4 (some .boolean) 3 := ⟨gi_app (List.forall_mem_cons.mpr ⟨gw_2260, List.forall_mem_cons.mpr ⟨gw_2261, List.forall_mem_cons.mpr ⟨gw_2262, List.forall_mem_cons.mpr ⟨gw_8, fun _ h => absurd h List.not_mem_nil⟩⟩⟩⟩) (gi_ws gw_2263), rfl, by decide +kernel, by decide +kernel, by decide +kernel⟩
theorem gV_RL_130 : GV RL 130 RX11 yX11_sea cX11_sea 3 (some .boolean) 2 := ⟨gi_app (List.forall_mem_cons.mpr ⟨gw_1101, List.forall_mem_cons.mpr ⟨gw_1102, List.forall_mem_cons.mpr ⟨gw_1103, List.forall_mem_cons.mpr ⟨gw_1, fun _ h => absurd h List.not_mem_nil⟩⟩⟩⟩) (gi_ws gw_1104), rfl, by decide +kernel, by decide +kernel, by decide +kernel⟩
theorem gV_RL_133 : GV RL 133 RX12 yX12_sea cX12_sea 3 (some .boolean) 2 := ⟨gi_app (List.forall_mem_cons.mpr ⟨gw_2267, List.forall_mem_cons.mpr ⟨gw_2268, List.forall_mem_cons.mpr ⟨gw_2269, List.forall_mem_cons.mpr ⟨gw_8, fun _ h => absurd h List.not_mem_nil⟩⟩⟩⟩) (gi_ws gw_2270), rfl, by decide +kernel, by decide +kernel, by decide +kernel⟩
theorem gV_RL_134 : GV RL 134 RX11 yX11_voyage cX11_voyage 7 (some .boolean) 4 := ⟨gi_app (List.forall_mem_cons.mpr ⟨gw_1105, List.forall_mem_cons.mpr ⟨gw_1106, List.forall_mem_cons.mpr ⟨gw_1107, List.forall_mem_cons.mpr ⟨gw_1, fun _ h => absurd h List.not_mem_nil⟩⟩⟩⟩) (gi_ws gw_1108), rfl, by decide +kernel, by decide +kernel, by decide +kernel⟩
theorem gV_RL_138 : GV RL 138 RX12 yX12_voyage cX12_voyage 5 (some .boolean) 4 := ⟨gi_app (List.forall_mem_cons.mpr ⟨gw_2271, List.forall_mem_cons.mpr ⟨gw_2272, List.forall_mem_cons.mpr ⟨gw_2273, List.forall_mem_cons.mpr ⟨gw_8, fun _ h => absurd h List.not_mem_nil⟩⟩⟩⟩) (gi_ws gw_2274), rfl, by decide +kernel, by decide +kernel, by decide +kernel⟩
theorem gV_RL_139 : GV RL 139 RX11 yX11_sledge cX11_sledge 8 (some .int) 3 := ⟨gi_app (List.forall_mem_cons.mpr ⟨gw_1129, List.forall_mem_cons.mpr ⟨gw_1130, List.forall_mem_cons.mpr ⟨gw_1131, List.forall_mem_cons.mpr ⟨gw_1, fun _ h => absurd h List.not_mem_nil⟩⟩⟩⟩) (gi_ws gw_1132), rfl, by decide +kernel, by decide +kernel, by decide +kernel⟩
theorem gV_RL_142 : GV RL 142 RX12 yX12_sledge cX12_sledge 5 (some .int) 3 := ⟨gi_app (List.forall_mem_cons.mpr ⟨gw_2283, List.forall_mem_cons.mpr ⟨gw_2284, List.forall_mem_cons.mpr ⟨gw_2285, List.forall_mem_cons.mpr ⟨gw_8, fun _ h => absurd h List.not_mem_nil⟩⟩⟩⟩) (gi_ws gw_2286), rfl, by decide +kernel, by decide +kernel, by decide +kernel⟩
theorem gV_RL_143 : GV RL 143 RX11 yX11_people cX11_people 4 (some .boolean) 2 := ⟨gi_app (List.forall_mem_cons.mpr ⟨gw_1147, List.forall_mem_cons.mpr ⟨gw_1148, List.forall_mem_cons.mpr ⟨gw_1149, List.forall_mem_cons.mpr ⟨gw_1, fun _ h => absurd h List.not_mem_nil⟩⟩⟩⟩) (gi_ws gw_1150), rfl, by decide +kernel, by decide +kernel, by decide +kernel⟩
theorem gV_RL_146 : GV RL 146 RX12 yX12_people cX12_people 3 (some .boolean) 2 := ⟨gi_app (List.forall_mem_cons.mpr ⟨gw_2302, List.forall_mem_cons.mpr ⟨gw_2303, List.forall_mem_cons.mpr ⟨gw_2304, List.forall_mem_cons.mpr ⟨gw_8, fun _ h => absurd h List.not_mem_nil⟩⟩⟩⟩) (gi_ws gw_2305), rfl, by decide +kernel, by decide +kernel, by decide +kernel⟩
theorem gV_RL_147 : GV RL 147 RX11 yX11_hide cX11_hide 4 (some .boolean) 2 := ⟨gi_app (List.forall_mem_cons.mpr ⟨gw_1151, List.forall_mem_cons.mpr ⟨gw_1152, List.forall_mem_cons.mpr ⟨gw_1153, List.forall_mem_cons.mpr ⟨gw_1, fun _ h => absurd h List.not_mem_nil⟩⟩⟩⟩) (gi_ws gw_1154), rfl, by decide +kernel, by decide +kernel, by decide +kernel⟩
theorem gV_RL_150 : GV RL 150 RX12 yX12_hide cX12_hide 3 (some .boolean) 2 := ⟨gi_app (List.forall_mem_cons.mpr ⟨gw_2306, List.forall_mem_cons.mpr ⟨gw_2307, List.forall_mem_cons.mpr ⟨gw_2308, List.forall_mem_cons.mpr ⟨gw_8, fun _ h => absurd h List.not_mem_nil⟩⟩⟩⟩) (gi_ws gw_2309), rfl, by decide +kernel, by decide +kernel, by decide +kernel⟩
theorem gV_RL_151 : GV RL 151 RX11 yX11_declare cX11_declare 5 (some .boolean) 3 := ⟨gi_app (List.forall_mem_cons.mpr ⟨gw_1155, List.forall_mem_cons.mpr ⟨gw_1156, List.forall_mem_cons.mpr ⟨gw_1157, List.forall_mem_cons.mpr ⟨gw_1, fun _ h => absurd h List.not_mem_nil⟩⟩⟩⟩) (gi_ws gw_1158), rfl, by decide +kernel, by decide +kernel, by decide +kernel⟩
theorem gV_RL_154 : GV RL 154 RX12 yX12_declare cX12_declare 4 (some .boolean) 3 := ⟨gi_app (List.forall_mem_cons.mpr ⟨gw_2310, List.forall_mem_cons.mpr ⟨gw_2311, List.forall_mem_cons.mpr ⟨gw_2312, List.forall_mem_cons.mpr ⟨gw_8, fun _ h => absurd h List.not_mem_nil⟩⟩⟩⟩) (gi_ws gw_2313), rfl, by decide +kernel, by decide +kernel, by decide +kernel⟩
theorem gV_RL_155 : GV RL 155 RX11 yX11_visit cX11_visit 6 (some .int) 2 := ⟨gi_app (List.forall_mem_cons.mpr ⟨gw_1160, List.forall_mem_cons.mpr ⟨gw_1161, List.forall_mem_cons.mpr ⟨gw_1162, List.forall_mem_cons.mpr ⟨gw_1, fun _ h => absurd h List.not_mem_nil⟩⟩⟩⟩) (gi_ws gw_1163), rfl, by decide +kernel, by decide +kernel, by decide +kernel⟩
theorem gV_RL_158 : GV RL 158 RX12 yX12_visit cX12_visit 3 (some .int) 2 := ⟨gi_app (List.forall_mem_cons.mpr ⟨gw_2314, List.forall_mem_cons.mpr ⟨gw_2315, List.forall_mem_cons.mpr ⟨gw_2316, List.forall_mem_cons.mpr ⟨gw_8, fun _ h => absurd h List.not_mem_nil⟩⟩⟩⟩) (gi_ws gw_2317), rfl, by decide +kernel, by decide +kernel, by decide +kernel⟩
theorem gV_RL_159 : GV RL 159 RX11 yX11_seen cX11_seen 3 (some .int) 2 := ⟨gi_app (List.forall_mem_cons.mpr ⟨gw_1164, List.forall_mem_cons.mpr ⟨gw_1165, List.forall_mem_cons.mpr ⟨gw_1166, List.forall_mem_cons.mpr ⟨gw_1, fun _ h => absurd h List.not_mem_nil⟩⟩⟩⟩) (gi_ws gw_1167), rfl, by decide +kernel, by decide +kernel, by decide +kernel⟩
theorem gV_RL_162 : GV RL 162 RX12 yX12_seen cX12_seen 3 (some .int) 2 := ⟨gi_app (List.forall_mem_cons.mpr ⟨gw_2318, List.forall_mem_cons.mpr ⟨gw_2319, List.forall_mem_cons.mpr ⟨gw_2320, List.forall_mem_cons.mpr ⟨gw_8, fun _ h => absurd h List.not_mem_nil⟩⟩⟩⟩) (gi_ws gw_2321), rfl, by decide +kernel, by decide +kernel, by decide +kernel⟩
theorem gV_RL_163 : GV RL 163 RX11 yX11_day cX11_day 2 (some .int) 0 := ⟨gi_app (List.forall_mem_cons.mpr ⟨gw_1171, List.forall_mem_cons.mpr ⟨gw_1172, List.forall_mem_cons.mpr ⟨gw_1173, List.forall_mem_cons.mpr ⟨gw_1, fun _ h => absurd h List.not_mem_nil⟩⟩⟩⟩) (gi_ws gw_1174), rfl, by decide +kernel, by decide +kernel, by decide +kernel⟩
theorem gV_RL_167 : GV RL 167 RX12 yX12_day cX12_day 2 (some .int) 0 := ⟨gi_app (List.forall_mem_cons.mpr ⟨gw_2323, List.forall_mem_cons.mpr ⟨gw_2324, List.forall_mem_cons.mpr ⟨gw_2325, List.forall_mem_cons.mpr ⟨gw_8, fun _ h => absurd h List.not_mem_nil⟩⟩⟩⟩) (gi_ws gw_2326), rfl, by decide +kernel, by decide +kernel, by decide +kernel⟩
theorem gV_RL_168 : GV RL 168 RX11 yX11_sound cX11_sound 5 (some .boolean) 3 := ⟨gi_app (List.forall_mem_cons.mpr ⟨gw_1266, List.forall_mem_cons.mpr ⟨gw_1267, List.forall_mem_cons.mpr ⟨gw_1268, List.forall_mem_cons.mpr ⟨gw_1, fun _ h => absurd h List.not_mem_nil⟩⟩⟩⟩) (gi_ws gw_1269), rfl, by decide +kernel, by decide +kernel, by decide +kernel⟩
theorem gV_RL_171 : GV RL 171 RX12 yX12_sound cX12_sound 4 (some .boolean) 3 := ⟨gi_app (List.forall_mem_cons.mpr ⟨gw_2379, List.forall_mem_cons.mpr ⟨gw_2380, List.forall_mem_cons.mpr ⟨gw_2381, List.forall_mem_cons.mpr ⟨gw_8, fun _ h => absurd h List.not_mem_nil⟩⟩⟩⟩) (gi_ws gw_2382), rfl, by decide +kernel, by decide +kernel, by decide +kernel⟩
theorem gV_RL_172 : GV RL 172 RX11 yX11_sure cX11_sure 3 (some .int) 1 := ⟨gi_app (List.forall_mem_cons.mpr ⟨gw_1275, List.forall_mem_cons.mpr ⟨gw_1276, List.forall_mem_cons.mpr ⟨gw_1277, List.forall_mem_cons.mpr ⟨gw_1, fun _ h => absurd h List.not_mem_nil⟩⟩⟩⟩) (gi_ws gw_1278), rfl, by decide +kernel, by decide +kernel, by decide +kernel⟩
theorem gV_RL_176 : GV RL 176 RX12 yX12_sure cX12_sure 2 (some .int) 1 := ⟨gi_app (List.forall_mem_cons.mpr ⟨gw_2383, List.forall_mem_cons.mpr ⟨gw_2384, List.forall_mem_cons.mpr ⟨gw_2385, List.forall_mem_cons.mpr ⟨gw_8, fun _ h => absurd h List.not_mem_nil⟩⟩⟩⟩) (gi_ws gw_2386), rfl, by decide +kernel, by decide +kernel, by decide +kernel⟩
theorem gV_RL_177 : GV RL 177 RX11 yX11_drill cX11_drill 5 (some .int) 2 := ⟨gi_app (List.forall_mem_cons.mpr ⟨gw_1279, List.forall_mem_cons.mpr ⟨gw_1280, List.forall_mem_cons.mpr ⟨gw_1281, List.forall_mem_cons.mpr ⟨gw_1, fun _ h => absurd h List.not_mem_nil⟩⟩⟩⟩) (gi_ws gw_1282), rfl, by decide +kernel, by decide +kernel, by decide +kernel⟩
theorem gV_RL_180 : GV RL 180 RX12 yX12_drill cX12_drill 3 (some .int) 2 := ⟨gi_app (List.forall_mem_cons.mpr ⟨gw_2387, List.forall_mem_cons.mpr ⟨gw_2388, List.forall_mem_cons.mpr ⟨gw_2389, List.forall_mem_cons.mpr ⟨gw_8, fun _ h => absurd h List.not_mem_nil⟩⟩⟩⟩) (gi_ws gw_2390), rfl, by decide +kernel, by decide +kernel, by decide +kernel⟩
theorem gV_RL_181 : GV RL 181 RX11 yX11_speed cX11_speed 3 (some .boolean) 2 := ⟨gi_app (List.forall_mem_cons.mpr ⟨gw_1283, List.forall_mem_cons.mpr ⟨gw_1284, List.forall_mem_cons.mpr ⟨gw_1285, List.forall_mem_cons.mpr ⟨gw_1, fun _ h => absurd h List.not_mem_nil⟩⟩⟩⟩) (gi_ws gw_1286), rfl, by decide +kernel, by decide +kernel, by decide +kernel⟩
theorem gV_RL_184 : GV RL 184 RX12 yX12_speed cX12_speed 3 (some .boolean) 2 := ⟨gi_app (List.forall_mem_cons.mpr ⟨gw_2391, List.forall_mem_cons.mpr ⟨gw_2392, List.forall_mem_cons.mpr ⟨gw_2393, List.forall_mem_cons.mpr ⟨gw_8, fun _ h => absurd h List.not_mem_nil⟩⟩⟩⟩) (gi_ws gw_2394), rfl, by decide +kernel, by decide +kernel, by decide +kernel⟩
theorem gV_RL_185 : GV RL 185 RX11 yX11_birds cX11_birds 5 (some .boolean) 3 := ⟨gi_app (List.forall_mem_cons.mpr ⟨gw_1287, List.forall_mem_cons.mpr ⟨gw_1288, List.forall_mem_cons.mpr ⟨gw_1289, List.forall_mem_cons.mpr ⟨gw_1, fun _ h => absurd h List.not_mem_nil⟩⟩⟩⟩) (gi_ws gw_1290), rfl, by decide +kernel, by decide +kernel, by decide +kernel⟩
theorem gV_RL_188 : GV RL 188 RX12 yX12_birds cX12_birds 4 (some .boolean) 3 := ⟨gi_app (List.forall_mem_cons.mpr ⟨gw_2395, List.forall_mem_cons.mpr ⟨gw_2396, List.forall_mem_cons.mpr ⟨gw_2397, List.forall_mem_cons.mpr ⟨gw_8, fun _ h => absurd h List.not_mem_nil⟩⟩⟩⟩) (gi_ws gw_2398), rfl, by decide +kernel, by decide +kernel, by decide +kernel⟩
theorem gV_RL_189 : GV RL 189 RX11 yX11_loss cX11_loss 10 (some .int) 5 := ⟨gi_app (List.forall_mem_cons.mpr ⟨gw_1294, List.forall_mem_cons.mpr ⟨gw_1295, List.forall_mem_cons.mpr ⟨gw_1296, List.forall_mem_cons.mpr ⟨gw_1, fun _ h => absurd h List.not_mem_nil⟩⟩⟩⟩) (gi_ws gw_1297), rfl, by decide +kernel, by decide +kernel, by decide +kernel⟩
theorem gV_RL_192 : GV RL 192 RX12 yX12_loss cX12_loss 9 (some .int) 5 := ⟨gi_app (List.forall_mem_cons.mpr ⟨gw_2399, List.forall_mem_cons.mpr ⟨gw_2400, List.forall_mem_cons.mpr ⟨gw_2401, List.forall_mem_cons.mpr ⟨gw_8, fun _ h => absurd h List.not_mem_nil⟩⟩⟩⟩) (gi_ws gw_2402), rfl, by decide +kernel, by decide +kernel, by decide +kernel⟩
theorem gV_RL_193 : GV RL 193 RX11 yX11_noise cX11_noise 4 (some .int) 2 := ⟨gi_app (List.forall_mem_cons.mpr ⟨gw_1298, List.forall_mem_cons.mpr ⟨gw_1299, List.forall_mem_cons.mpr ⟨gw_1300, List.forall_mem_cons.mpr ⟨gw_1, fun _ h => absurd h List.not_mem_nil⟩⟩⟩⟩) (gi_ws gw_1301), rfl, by decide +kernel, by decide +kernel, by decide +kernel⟩
theorem gV_RL_196 : GV RL 196 RX12 yX12_noise cX12_noise 3 (some .int) 2 := ⟨gi_app (List.forall_mem_cons.mpr ⟨gw_2406, List.forall_mem_cons.mpr ⟨gw_2407, List.forall_mem_cons.mpr ⟨gw_2408, List.forall_mem_cons.mpr ⟨gw_8, fun _ h => absurd h List.not_mem_nil⟩⟩⟩⟩) (gi_ws gw_2409), rfl, by decide +kernel, by decide +kernel, by decide +kernel⟩
theorem gV_RL_197 : GV RL 197 RX11 yX11_caught cX11_caught 6 (some .int) 5 := ⟨gi_app (List.forall_mem_cons.mpr ⟨gw_1302, List.forall_mem_cons.mpr ⟨gw_1303, List.forall_mem_cons.mpr ⟨gw_1304, List.forall_mem_cons.mpr ⟨gw_1, fun _ h => absurd h List.not_mem_nil⟩⟩⟩⟩) (gi_ws gw_1305), rfl, by decide +kernel, by decide +kernel, by decide +kernel⟩
theorem gV_RL_200 : GV RL 200 RX12 yX12_caught cX12_caught 6 (some .int) 5 := ⟨gi_app (List.forall_mem_cons.mpr ⟨gw_2410, List.forall_mem_cons.mpr ⟨gw_2411, List.forall_mem_cons.mpr ⟨gw_2412, List.forall_mem_cons.mpr ⟨gw_8, fun _ h => absurd h List.not_mem_nil⟩⟩⟩⟩) (gi_ws gw_2413), rfl, by decide +kernel, by decide +kernel, by decide +kernel⟩
theorem gV_RL_201 : GV RL 201 RX11 yX11_over cX11_over 4 (some .int) 0 := ⟨gi_app (List.forall_mem_cons.mpr ⟨gw_1306, List.forall_mem_cons.mpr ⟨gw_1307, List.forall_mem_cons.mpr ⟨gw_1308, List.forall_mem_cons.mpr ⟨gw_1, fun _ h => absurd h List.not_mem_nil⟩⟩⟩⟩) (gi_ws gw_1309), rfl, by decide +kernel, by decide +kernel, by decide +kernel⟩
theorem gV_RL_204 : GV RL 204 RX12 yX12_over cX12_over 7 (some .int) 0 := ⟨gi_app (List.forall_mem_cons.mpr ⟨gw_2414, List.forall_mem_cons.mpr ⟨gw_2415, List.forall_mem_cons.mpr ⟨gw_2416, List.forall_mem_cons.mpr ⟨gw_8, fun _ h => absurd h List.not_mem_nil⟩⟩⟩⟩) (gi_ws gw_2417), rfl, by decide +kernel, by decide +kernel, by decide +kernel⟩
theorem gV_RL_205 : GV RL 205 RX11 yX11_doubt cX11_doubt 4 (some .int) 1 := ⟨gi_app (List.forall_mem_cons.mpr ⟨gw_1318, List.forall_mem_cons.mpr ⟨gw_1319, List.forall_mem_cons.mpr ⟨gw_1320, List.forall_mem_cons.mpr ⟨gw_1, fun _ h => absurd h List.not_mem_nil⟩⟩⟩⟩) (gi_ws gw_1321), rfl, by decide +kernel, by decide +kernel, by decide +kernel⟩
theorem gV_RL_208 : GV RL 208 RX12 yX12_doubt cX12_doubt 4 (some .int) 1 := ⟨gi_app (List.forall_mem_cons.mpr ⟨gw_2422, List.forall_mem_cons.mpr ⟨gw_2423, List.forall_mem_cons.mpr ⟨gw_2424, List.forall_mem_cons.mpr ⟨gw_8, fun _ h => absurd h List.not_mem_nil⟩⟩⟩⟩) (gi_ws gw_2425), rfl, by decide +kernel, by decide +kernel, by decide +kernel⟩
theorem gV_RL_209 : GV RL 209 RX11 yX11_word cX11_word 2 (some .int) 1 := ⟨gi_app (List.forall_mem_cons.mpr ⟨gw_1327, List.forall_mem_cons.mpr ⟨gw_1328, List.forall_mem_cons.mpr ⟨gw_1329, List.forall_mem_cons.mpr ⟨gw_1, fun _ h => absurd h List.not_mem_nil⟩⟩⟩⟩) (gi_ws gw_1330), rfl, by decide +kernel, by decide +kernel, by decide +kernel⟩
theorem gV_RL_212 : GV RL 212 RX12 yX12_word cX12_word 2 (some .int) 1 := ⟨gi_app (List.forall_mem_cons.mpr ⟨gw_2430, List.forall_mem_cons.mpr ⟨gw_2431, List.forall_mem_cons.mpr ⟨gw_2432, List.forall_mem_cons.mpr ⟨gw_8, fun _ h => absurd h List.not_mem_nil⟩⟩⟩⟩) (gi_ws gw_2433), rfl, by decide +kernel, by decide +kernel, by decide +kernel⟩
theorem gV_RL_213 : GV RL 213 RX11 yX11_asks cX11_asks 7 (some .boolean) 3 := ⟨gi_app (List.forall_mem_cons.mpr ⟨gw_1331, List.forall_mem_cons.mpr ⟨gw_1332, List.forall_mem_cons.mpr ⟨gw_1333, List.forall_mem_cons.mpr ⟨gw_1, fun _ h => absurd h List.not_mem_nil⟩⟩⟩⟩) (gi_ws gw_1334), rfl, by decide +kernel, by decide +kernel, by decide +kernel⟩
theorem gV_RL_216 : GV RL 216 RX12 yX12_asks cX12_asks 5 (some .boolean) 3 := ⟨gi_app (List.forall_mem_cons.mpr ⟨gw_2434, List.forall_mem_cons.mpr ⟨gw_2435, List.forall_mem_cons.mpr ⟨gw_2436, List.forall_mem_cons.mpr ⟨gw_8, fun _ h => absurd h List.not_mem_nil⟩⟩⟩⟩) (gi_ws gw_2437), rfl, by decide +kernel, by decide +kernel, by decide +kernel⟩
theorem gV_RL_217 : GV RL 217 RX11 yX11_blocks cX11_blocks 2 (some .int) 1 := ⟨gi_app (List.forall_mem_cons.mpr ⟨gw_1335, List.forall_mem_cons.mpr ⟨gw_1336, List.forall_mem_cons.mpr ⟨gw_1337, List.forall_mem_cons.mpr ⟨gw_1, fun _ h => absurd h List.not_mem_nil⟩⟩⟩⟩) (gi_ws gw_1338), rfl, by decide +kernel, by decide +kernel, by decide +kernel⟩
theorem gV_RL_220 : GV RL 220 RX12 yX12_blocks cX12_blocks 4 (some .int) 1 := ⟨gi_app (List.forall_mem_cons.mpr ⟨gw_2442, List.forall_mem_cons.mpr ⟨gw_2443, List.forall_mem_cons.mpr ⟨gw_2444, List.forall_mem_cons.mpr ⟨gw_8, fun _ h => absurd h List.not_mem_nil⟩⟩⟩⟩) (gi_ws gw_2445), rfl, by decide +kernel, by decide +kernel, by decide +kernel⟩
theorem gV_RL_221 : GV RL 221 RX11 yX11_best cX11_best 7 (some .int) 0 := ⟨gi_app (List.forall_mem_cons.mpr ⟨gw_1348, List.forall_mem_cons.mpr ⟨gw_1349, List.forall_mem_cons.mpr ⟨gw_1350, List.forall_mem_cons.mpr ⟨gw_1, fun _ h => absurd h List.not_mem_nil⟩⟩⟩⟩) (gi_ws gw_1351), rfl, by decide +kernel, by decide +kernel, by decide +kernel⟩
theorem gV_RL_224 : GV RL 224 RX12 yX12_best cX12_best 5 (some .int) 0 := ⟨gi_app (List.forall_mem_cons.mpr ⟨gw_2450, List.forall_mem_cons.mpr ⟨gw_2451, List.forall_mem_cons.mpr ⟨gw_2452, List.forall_mem_cons.mpr ⟨gw_8, fun _ h => absurd h List.not_mem_nil⟩⟩⟩⟩) (gi_ws gw_2453), rfl, by decide +kernel, by decide +kernel, by decide +kernel⟩
theorem gV_RL_225 : GV RL 225 RX11 yX11_stop cX11_stop 3 (some .int) 2 := ⟨gi_app (List.forall_mem_cons.mpr ⟨gw_1356, List.forall_mem_cons.mpr ⟨gw_1357, List.forall_mem_cons.mpr ⟨gw_1358, List.forall_mem_cons.mpr ⟨gw_1, fun _ h => absurd h List.not_mem_nil⟩⟩⟩⟩) (gi_ws gw_1359), rfl, by decide +kernel, by decide +kernel, by decide +kernel⟩
theorem gV_RL_228 : GV RL 228 RX12 yX12_stop cX12_stop 4 (some .int) 2 := ⟨gi_app (List.forall_mem_cons.mpr ⟨gw_2462, List.forall_mem_cons.mpr ⟨gw_2463, List.forall_mem_cons.mpr ⟨gw_2464, List.forall_mem_cons.mpr ⟨gw_8, fun _ h => absurd h List.not_mem_nil⟩⟩⟩⟩) (gi_ws gw_2465), rfl, by decide +kernel, by decide +kernel, by decide +kernel⟩
theorem gV_RL_229 : GV RL 229 RX11 yX11_open cX11_open 5 (some .boolean) 4 := ⟨gi_app (List.forall_mem_cons.mpr ⟨gw_1365, List.forall_mem_cons.mpr ⟨gw_1366, List.forall_mem_cons.mpr ⟨gw_1367, List.forall_mem_cons.mpr ⟨gw_1, fun _ h => absurd h List.not_mem_nil⟩⟩⟩⟩) (gi_ws gw_1368), rfl, by decide +kernel, by decide +kernel, by decide +kernel⟩
theorem gV_RL_232 : GV RL 232 RX12 yX12_open cX12_open 5 (some .boolean) 4 := ⟨gi_app (List.forall_mem_cons.mpr ⟨gw_2466, List.forall_mem_cons.mpr ⟨gw_2467, List.forall_mem_cons.mpr ⟨gw_2468, List.forall_mem_cons.mpr ⟨gw_8, fun _ h => absurd h List.not_mem_nil⟩⟩⟩⟩) (gi_ws gw_2469), rfl, by decide +kernel, by decide +kernel, by decide +kernel⟩
theorem gV_RL_233 : GV RL 233 RX11 yX11_plan cX11_plan 6 (some .int) 3 := ⟨gi_app (List.forall_mem_cons.mpr ⟨gw_1369, List.forall_mem_cons.mpr ⟨gw_1370, List.forall_mem_cons.mpr ⟨gw_1371, List.forall_mem_cons.mpr ⟨gw_1, fun _ h => absurd h List.not_mem_nil⟩⟩⟩⟩) (gi_ws gw_1372), rfl, by decide +kernel, by decide +kernel, by decide +kernel⟩
theorem gV_RL_236 : GV RL 236 RX12 yX12_plan cX12_plan 4 (some .int) 3 := ⟨gi_app (List.forall_mem_cons.mpr ⟨gw_2470, List.forall_mem_cons.mpr ⟨gw_2471, List.forall_mem_cons.mpr ⟨gw_2472, List.forall_mem_cons.mpr ⟨gw_8, fun _ h => absurd h List.not_mem_nil⟩⟩⟩⟩) (gi_ws gw_2473), rfl, by decide +kernel, by decide +kernel, by decide +kernel⟩
theorem gV_RL_237 : GV RL 237 RX11 yX11_planned cX11_planned 5 (some .int) 4 := ⟨gi_app (List.forall_mem_cons.mpr ⟨gw_1413, List.forall_mem_cons.mpr ⟨gw_1414, List.forall_mem_cons.mpr ⟨gw_1415, List.forall_mem_cons.mpr ⟨gw_1, fun _ h => absurd h List.not_mem_nil⟩⟩⟩⟩) (gi_ws gw_1416), rfl, by decide +kernel, by decide +kernel, by decide +kernel⟩
theorem gV_RL_240 : GV RL 240 RX12 yX12_planned cX12_planned 5 (some .int) 4 := ⟨gi_app (List.forall_mem_cons.mpr ⟨gw_2494, List.forall_mem_cons.mpr ⟨gw_2495, List.forall_mem_cons.mpr ⟨gw_2496, List.forall_mem_cons.mpr ⟨gw_8, fun _ h => absurd h List.not_mem_nil⟩⟩⟩⟩) (gi_ws gw_2497), rfl, by decide +kernel, by decide +kernel, by decide +kernel⟩
theorem gV_RL_241 : GV RL 241 RX11 yX11_report cX11_report 5 (some .boolean) 4 := ⟨gi_app (List.forall_mem_cons.mpr ⟨gw_1418, List.forall_mem_cons.mpr ⟨gw_1419, List.forall_mem_cons.mpr ⟨gw_1420, List.forall_mem_cons.mpr ⟨gw_1, fun _ h => absurd h List.not_mem_nil⟩⟩⟩⟩) (gi_ws gw_1421), rfl, by decide +kernel, by decide +kernel, by decide +kernel⟩
theorem gV_RL_245 : GV RL 245 RX12 yX12_report cX12_report 5 (some .boolean) 4 := ⟨gi_app (List.forall_mem_cons.mpr ⟨gw_2499, List.forall_mem_cons.mpr ⟨gw_2500, List.forall_mem_cons.mpr ⟨gw_2501, List.forall_mem_cons.mpr ⟨gw_8, fun _ h => absurd h List.not_mem_nil⟩⟩⟩⟩) (gi_ws gw_2502), rfl, by decide +kernel, by decide +kernel, by decide +kernel⟩
theorem gV_RL_246 : GV RL 246 RX11 yX11_known cX11_known 9 (some .int) 3 := ⟨gi_app (List.forall_mem_cons.mpr ⟨gw_1422, List.forall_mem_cons.mpr ⟨gw_1423, List.forall_mem_cons.mpr ⟨gw_1424, List.forall_mem_cons.mpr ⟨gw_1, fun _ h => absurd h List.not_mem_nil⟩⟩⟩⟩) (gi_ws gw_1425), rfl, by decide +kernel, by decide +kernel, by decide +kernel⟩
theorem gV_RL_249 : GV RL 249 RX12 yX12_known cX12_known 7 (some .int) 3 := ⟨gi_app (List.forall_mem_cons.mpr ⟨gw_2503, List.forall_mem_cons.mpr ⟨gw_2504, List.forall_mem_cons.mpr ⟨gw_2505, List.forall_mem_cons.mpr ⟨gw_8, fun _ h => absurd h List.not_mem_nil⟩⟩⟩⟩) (gi_ws gw_2506), rfl, by decide +kernel, by decide +kernel, by decide +kernel⟩
theorem gV_RL_250 : GV RL 250 RX11 yX11_check cX11_check 3 (some .int) 1 := ⟨gi_app (List.forall_mem_cons.mpr ⟨gw_1427, List.forall_mem_cons.mpr ⟨gw_1428, List.forall_mem_cons.mpr ⟨gw_1429, List.forall_mem_cons.mpr ⟨gw_1, fun _ h => absurd h List.not_mem_nil⟩⟩⟩⟩) (gi_ws gw_1430), rfl, by decide +kernel, by decide +kernel, by decide +kernel⟩
theorem gV_RL_253 : GV RL 253 RX12 yX12_check cX12_check 4 (some .int) 1 := ⟨gi_app (List.forall_mem_cons.mpr ⟨gw_2508, List.forall_mem_cons.mpr ⟨gw_2509, List.forall_mem_cons.mpr ⟨gw_2510, List.forall_mem_cons.mpr ⟨gw_8, fun _ h => absurd h List.not_mem_nil⟩⟩⟩⟩) (gi_ws gw_2511), rfl, by decide +kernel, by decide +kernel, by decide +kernel⟩
theorem gV_RL_254 : GV RL 254 RX11 yX11_look cX11_look 4 (some .int) 2 := ⟨gi_app (List.forall_mem_cons.mpr ⟨gw_1439, List.forall_mem_cons.mpr ⟨gw_1440, List.forall_mem_cons.mpr ⟨gw_1441, List.forall_mem_cons.mpr ⟨gw_1, fun _ h => absurd h List.not_mem_nil⟩⟩⟩⟩) (gi_ws gw_1442), rfl, by decide +kernel, by decide +kernel, by decide +kernel⟩
theorem gV_RL_257 : GV RL 257 RX12 yX12_look cX12_look 3 (some .int) 2 := ⟨gi_app (List.forall_mem_cons.mpr ⟨gw_2516, List.forall_mem_cons.mpr ⟨gw_2517, List.forall_mem_cons.mpr ⟨gw_2518, List.forall_mem_cons.mpr ⟨gw_8, fun _ h => absurd h List.not_mem_nil⟩⟩⟩⟩) (gi_ws gw_2519), rfl, by decide +kernel, by decide +kernel, by decide +kernel⟩
theorem gV_RL_258 : GV RL 258 RX11 yX11_at cX11_at 4 (some .int) 2 := ⟨gi_app (List.forall_mem_cons.mpr ⟨gw_1447, List.forall_mem_cons.mpr ⟨gw_1448, List.forall_mem_cons.mpr ⟨gw_1449, List.forall_mem_cons.mpr ⟨gw_1, fun _ h => absurd h List.not_mem_nil⟩⟩⟩⟩) (gi_ws gw_1450), rfl, by decide +kernel, by decide +kernel, by decide +kernel⟩
theorem gV_RL_261 : GV RL 261 RX12 yX12_at cX12_at 3 (some .int) 2 := ⟨gi_app (List.forall_mem_cons.mpr ⟨gw_2524, List.forall_mem_cons.mpr ⟨gw_2525, List.forall_mem_cons.mpr ⟨gw_2526, List.forall_mem_cons.mpr ⟨gw_8, fun _ h => absurd h List.not_mem_nil⟩⟩⟩⟩) (gi_ws gw_2527), rfl, by decide +kernel, by decide +kernel, by decide +kernel⟩
theorem gV_RL_262 : GV RL 262 RX11 yX11_about cX11_about 4 (some .int) 2 := ⟨gi_app (List.forall_mem_cons.mpr ⟨gw_1451, List.forall_mem_cons.mpr ⟨gw_1452, List.forall_mem_cons.mpr ⟨gw_1453, List.forall_mem_cons.mpr ⟨gw_1, fun _ h => absurd h List.not_mem_nil⟩⟩⟩⟩) (gi_ws gw_1454), rfl, by decide +kernel, by decide +kernel, by decide +kernel⟩
theorem gV_RL_265 : GV RL 265 RX12 yX12_about cX12_about 3 (some .int) 2 := ⟨gi_app (List.forall_mem_cons.mpr ⟨gw_2528, List.forall_mem_cons.mpr ⟨gw_2529, List.forall_mem_cons.mpr ⟨gw_2530, List.forall_mem_cons.mpr ⟨gw_8, fun _ h => absurd h List.not_mem_nil⟩⟩⟩⟩) (gi_ws gw_2531), rfl, by decide +kernel, by decide +kernel, by decide +kernel⟩
theorem gV_RL_266 : GV RL 266 RX11 yX11_sum cX11_sum 3 (some .long) 1 := ⟨gi_app (List.forall_mem_cons.mpr ⟨gw_1455, List.forall_mem_cons.mpr ⟨gw_1456, List.forall_mem_cons.mpr ⟨gw_1457, List.forall_mem_cons.mpr ⟨gw_1, fun _ h => absurd h List.not_mem_nil⟩⟩⟩⟩) (gi_ws gw_1458), rfl, by decide +kernel, by decide +kernel, by decide +kernel⟩
theorem gV_RL_270 : GV RL 270 RX12 yX12_sum cX12_sum 2 (some .long) 1 := ⟨gi_app (List.forall_mem_cons.mpr ⟨gw_2532, List.forall_mem_cons.mpr ⟨gw_2533, List.forall_mem_cons.mpr ⟨gw_2534, List.forall_mem_cons.mpr ⟨gw_8, fun _ h => absurd h List.not_mem_nil⟩⟩⟩⟩) (gi_ws gw_2535), rfl, by decide +kernel, by decide +kernel, by decide +kernel⟩
theorem gV_RL_271 : GV RL 271 RX11 yX11_count cX11_count 2 (some .int) 1 := ⟨gi_app (List.forall_mem_cons.mpr ⟨gw_1460, List.forall_mem_cons.mpr ⟨gw_1461, List.forall_mem_cons.mpr ⟨gw_1462, List.forall_mem_cons.mpr ⟨gw_1, fun _ h => absurd h List.not_mem_nil⟩⟩⟩⟩) (gi_ws gw_1463), rfl, by decide +kernel, by decide +kernel, by decide +kernel⟩
theorem gV_RL_274 : GV RL 274 RX12 yX12_count cX12_count 4 (some .int) 1 := ⟨gi_app (List.forall_mem_cons.mpr ⟨gw_2537, List.forall_mem_cons.mpr ⟨gw_2538, List.forall_mem_cons.mpr ⟨gw_2539, List.forall_mem_cons.mpr ⟨gw_8, fun _ h => absurd h List.not_mem_nil⟩⟩⟩⟩) (gi_ws gw_2540), rfl, by decide +kernel, by decide +kernel, by decide +kernel⟩
end
