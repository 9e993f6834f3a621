section
-- ===== PART A: goes FIRST, ahead of the names: the tables' words, and 'selects' of the private methods out of them =====
/-- a private method of a class that the tables say can be made, by its rows of tables_1 -/
def lw_okq (q : MethodName × Nat) : Prop := (q.1.cls ≠ "java/lang/invoke/MethodHandle" ∧ q.1.cls ≠ "java/lang/invoke/VarHandle") ∧ Cond.instantiable q.1.cls q.2 ∈ tables_1 ∧ Cond.privateMethod q.1 ∈ tables_1 ∧ Cond.instanceMethod q.1 ∈ tables_1
theorem lw_p0 : lw_okq (⟨"LetterPost$Reader", "begin", "()V"⟩, 8) := ⟨⟨by decide +kernel, by decide +kernel⟩, List.mem_of_getElem? (i := 106) (by decide +kernel), List.mem_of_getElem? (i := 357) (by decide +kernel), List.mem_of_getElem? (i := 358) (by decide +kernel)⟩
theorem lw_p1 : lw_okq (⟨"LetterPost$Tokens", "behindBlanks", "(I)I"⟩, 10) := ⟨⟨by decide +kernel, by decide +kernel⟩, List.mem_of_getElem? (i := 33) (by decide +kernel), List.mem_of_getElem? (i := 365) (by decide +kernel), List.mem_of_getElem? (i := 366) (by decide +kernel)⟩
theorem lw_p2 : lw_okq (⟨"LetterPost$Tokens", "cutOne", "(I)I"⟩, 10) := ⟨⟨by decide +kernel, by decide +kernel⟩, List.mem_of_getElem? (i := 33) (by decide +kernel), List.mem_of_getElem? (i := 369) (by decide +kernel), List.mem_of_getElem? (i := 370) (by decide +kernel)⟩
theorem lw_p3 : lw_okq (⟨"LetterPost$Tokens", "put", "(IIIJ)I"⟩, 10) := ⟨⟨by decide +kernel, by decide +kernel⟩, List.mem_of_getElem? (i := 33) (by decide +kernel), List.mem_of_getElem? (i := 373) (by decide +kernel), List.mem_of_getElem? (i := 374) (by decide +kernel)⟩
theorem lw_p4 : lw_okq (⟨"LetterPost$Tokens", "cutName", "(II)I"⟩, 10) := ⟨⟨by decide +kernel, by decide +kernel⟩, List.mem_of_getElem? (i := 33) (by decide +kernel), List.mem_of_getElem? (i := 380) (by decide +kernel), List.mem_of_getElem? (i := 381) (by decide +kernel)⟩
theorem lw_p5 : lw_okq (⟨"LetterPost$Tokens", "packed", "(II)J"⟩, 10) := ⟨⟨by decide +kernel, by decide +kernel⟩, List.mem_of_getElem? (i := 33) (by decide +kernel), List.mem_of_getElem? (i := 387) (by decide +kernel), List.mem_of_getElem? (i := 388) (by decide +kernel)⟩
theorem lw_p6 : lw_okq (⟨"LetterPost$Tokens", "cutNumber", "(I)I"⟩, 10) := ⟨⟨by decide +kernel, by decide +kernel⟩, List.mem_of_getElem? (i := 33) (by decide +kernel), List.mem_of_getElem? (i := 396) (by decide +kernel), List.mem_of_getElem? (i := 397) (by decide +kernel)⟩
theorem lw_p7 : lw_okq (⟨"LetterPost$Tokens", "cutText", "(I)I"⟩, 10) := ⟨⟨by decide +kernel, by decide +kernel⟩, List.mem_of_getElem? (i := 33) (by decide +kernel), List.mem_of_getElem? (i := 401) (by decide +kernel), List.mem_of_getElem? (i := 402) (by decide +kernel)⟩
theorem lw_p8 : lw_okq (⟨"LetterPost$Reader", "readKind", "(Z)Z"⟩, 8) := ⟨⟨by decide +kernel, by decide +kernel⟩, List.mem_of_getElem? (i := 106) (by decide +kernel), List.mem_of_getElem? (i := 496) (by decide +kernel), List.mem_of_getElem? (i := 497) (by decide +kernel)⟩
theorem lw_p9 : lw_okq (⟨"LetterPost$Reader", "failHere", "(I)Z"⟩, 8) := ⟨⟨by decide +kernel, by decide +kernel⟩, List.mem_of_getElem? (i := 106) (by decide +kernel), List.mem_of_getElem? (i := 501) (by decide +kernel), List.mem_of_getElem? (i := 502) (by decide +kernel)⟩
theorem lw_p10 : lw_okq (⟨"LetterPost$Reader", "readUnder", "(IZ)Z"⟩, 8) := ⟨⟨by decide +kernel, by decide +kernel⟩, List.mem_of_getElem? (i := 106) (by decide +kernel), List.mem_of_getElem? (i := 513) (by decide +kernel), List.mem_of_getElem? (i := 514) (by decide +kernel)⟩
theorem lw_p11 : lw_okq (⟨"LetterPost$Reader", "readParts", "(I)Z"⟩, 8) := ⟨⟨by decide +kernel, by decide +kernel⟩, List.mem_of_getElem? (i := 106) (by decide +kernel), List.mem_of_getElem? (i := 533) (by decide +kernel), List.mem_of_getElem? (i := 534) (by decide +kernel)⟩
theorem lw_p12 : lw_okq (⟨"LetterPost$Reader", "sortHere", "()I"⟩, 8) := ⟨⟨by decide +kernel, by decide +kernel⟩, List.mem_of_getElem? (i := 106) (by decide +kernel), List.mem_of_getElem? (i := 537) (by decide +kernel), List.mem_of_getElem? (i := 538) (by decide +kernel)⟩
theorem lw_p13 : lw_okq (⟨"LetterPost$Reader", "expect", "(I)Z"⟩, 8) := ⟨⟨by decide +kernel, by decide +kernel⟩, List.mem_of_getElem? (i := 106) (by decide +kernel), List.mem_of_getElem? (i := 545) (by decide +kernel), List.mem_of_getElem? (i := 546) (by decide +kernel)⟩
theorem lw_p14 : lw_okq (⟨"LetterPost$Reader", "readHead", "()Z"⟩, 8) := ⟨⟨by decide +kernel, by decide +kernel⟩, List.mem_of_getElem? (i := 106) (by decide +kernel), List.mem_of_getElem? (i := 549) (by decide +kernel), List.mem_of_getElem? (i := 550) (by decide +kernel)⟩
theorem lw_p15 : lw_okq (⟨"LetterPost$Reader", "findFunction", "(J)I"⟩, 8) := ⟨⟨by decide +kernel, by decide +kernel⟩, List.mem_of_getElem? (i := 106) (by decide +kernel), List.mem_of_getElem? (i := 553) (by decide +kernel), List.mem_of_getElem? (i := 554) (by decide +kernel)⟩
def lw_privs_1 : List (MethodName × Nat) := [(⟨"LetterPost$Reader", "begin", "()V"⟩, 8), (⟨"LetterPost$Tokens", "behindBlanks", "(I)I"⟩, 10), (⟨"LetterPost$Tokens", "cutOne", "(I)I"⟩, 10), (⟨"LetterPost$Tokens", "put", "(IIIJ)I"⟩, 10), (⟨"LetterPost$Tokens", "cutName", "(II)I"⟩, 10), (⟨"LetterPost$Tokens", "packed", "(II)J"⟩, 10), (⟨"LetterPost$Tokens", "cutNumber", "(I)I"⟩, 10), (⟨"LetterPost$Tokens", "cutText", "(I)I"⟩, 10), (⟨"LetterPost$Reader", "readKind", "(Z)Z"⟩, 8), (⟨"LetterPost$Reader", "failHere", "(I)Z"⟩, 8), (⟨"LetterPost$Reader", "readUnder", "(IZ)Z"⟩, 8), (⟨"LetterPost$Reader", "readParts", "(I)Z"⟩, 8), (⟨"LetterPost$Reader", "sortHere", "()I"⟩, 8), (⟨"LetterPost$Reader", "expect", "(I)Z"⟩, 8), (⟨"LetterPost$Reader", "readHead", "()Z"⟩, 8), (⟨"LetterPost$Reader", "findFunction", "(J)I"⟩, 8)]
theorem lw_r1 : ∀ q ∈ lw_privs_1, lw_okq q := List.forall_mem_cons.mpr ⟨lw_p0, List.forall_mem_cons.mpr ⟨lw_p1, List.forall_mem_cons.mpr ⟨lw_p2, List.forall_mem_cons.mpr ⟨lw_p3, List.forall_mem_cons.mpr ⟨lw_p4, List.forall_mem_cons.mpr ⟨lw_p5, List.forall_mem_cons.mpr ⟨lw_p6, List.forall_mem_cons.mpr ⟨lw_p7, List.forall_mem_cons.mpr ⟨lw_p8, List.forall_mem_cons.mpr ⟨lw_p9, List.forall_mem_cons.mpr ⟨lw_p10, List.forall_mem_cons.mpr ⟨lw_p11, List.forall_mem_cons.mpr ⟨lw_p12, List.forall_mem_cons.mpr ⟨lw_p13, List.forall_mem_cons.mpr ⟨lw_p14, List.forall_mem_cons.mpr ⟨lw_p15, fun _ h => absurd h List.not_mem_nil⟩⟩⟩⟩⟩⟩⟩⟩⟩⟩⟩⟩⟩⟩⟩⟩
theorem lw_p16 : lw_okq (⟨"LetterPost$Reader", "readColumns", "()Z"⟩, 8) := ⟨⟨by decide +kernel, by decide +kernel⟩, List.mem_of_getElem? (i := 106) (by decide +kernel), List.mem_of_getElem? (i := 618) (by decide +kernel), List.mem_of_getElem? (i := 619) (by decide +kernel)⟩
theorem lw_p17 : lw_okq (⟨"LetterPost$Reader", "readRules", "()Z"⟩, 8) := ⟨⟨by decide +kernel, by decide +kernel⟩, List.mem_of_getElem? (i := 106) (by decide +kernel), List.mem_of_getElem? (i := 644) (by decide +kernel), List.mem_of_getElem? (i := 645) (by decide +kernel)⟩
theorem lw_p18 : lw_okq (⟨"LetterPost$Reader", "readPatterns", "(Z)Z"⟩, 8) := ⟨⟨by decide +kernel, by decide +kernel⟩, List.mem_of_getElem? (i := 106) (by decide +kernel), List.mem_of_getElem? (i := 742) (by decide +kernel), List.mem_of_getElem? (i := 743) (by decide +kernel)⟩
theorem lw_p19 : lw_okq (⟨"LetterPost$Reader", "readComma", "()Z"⟩, 8) := ⟨⟨by decide +kernel, by decide +kernel⟩, List.mem_of_getElem? (i := 106) (by decide +kernel), List.mem_of_getElem? (i := 746) (by decide +kernel), List.mem_of_getElem? (i := 747) (by decide +kernel)⟩
theorem lw_p20 : lw_okq (⟨"LetterPost$Reader", "readPattern", "(IIIZ)LLetterPost$Pattern;"⟩, 8) := ⟨⟨by decide +kernel, by decide +kernel⟩, List.mem_of_getElem? (i := 106) (by decide +kernel), List.mem_of_getElem? (i := 750) (by decide +kernel), List.mem_of_getElem? (i := 751) (by decide +kernel)⟩
theorem lw_p21 : lw_okq (⟨"LetterPost$Reader", "firstFault", "(I)I"⟩, 8) := ⟨⟨by decide +kernel, by decide +kernel⟩, List.mem_of_getElem? (i := 106) (by decide +kernel), List.mem_of_getElem? (i := 754) (by decide +kernel), List.mem_of_getElem? (i := 755) (by decide +kernel)⟩
theorem lw_p22 : lw_okq (⟨"LetterPost$Reader", "isTurnedRange", "()Z"⟩, 8) := ⟨⟨by decide +kernel, by decide +kernel⟩, List.mem_of_getElem? (i := 106) (by decide +kernel), List.mem_of_getElem? (i := 770) (by decide +kernel), List.mem_of_getElem? (i := 771) (by decide +kernel)⟩
theorem lw_p23 : lw_okq (⟨"LetterPost$Reader", "readName", "(I)Z"⟩, 8) := ⟨⟨by decide +kernel, by decide +kernel⟩, List.mem_of_getElem? (i := 106) (by decide +kernel), List.mem_of_getElem? (i := 845) (by decide +kernel), List.mem_of_getElem? (i := 846) (by decide +kernel)⟩
theorem lw_p24 : lw_okq (⟨"LetterPost$Reader", "readRange", "(LLetterPost$Pattern;)Z"⟩, 8) := ⟨⟨by decide +kernel, by decide +kernel⟩, List.mem_of_getElem? (i := 106) (by decide +kernel), List.mem_of_getElem? (i := 853) (by decide +kernel), List.mem_of_getElem? (i := 854) (by decide +kernel)⟩
theorem lw_p25 : lw_okq (⟨"LetterPost$Reader", "readNumber", "()I"⟩, 8) := ⟨⟨by decide +kernel, by decide +kernel⟩, List.mem_of_getElem? (i := 106) (by decide +kernel), List.mem_of_getElem? (i := 857) (by decide +kernel), List.mem_of_getElem? (i := 858) (by decide +kernel)⟩
theorem lw_p26 : lw_okq (⟨"LetterPost$Reader", "failAt", "(II)Z"⟩, 8) := ⟨⟨by decide +kernel, by decide +kernel⟩, List.mem_of_getElem? (i := 106) (by decide +kernel), List.mem_of_getElem? (i := 866) (by decide +kernel), List.mem_of_getElem? (i := 867) (by decide +kernel)⟩
theorem lw_p27 : lw_okq (⟨"LetterPost$Reader", "readKindPattern", "(LLetterPost$Pattern;I)Z"⟩, 8) := ⟨⟨by decide +kernel, by decide +kernel⟩, List.mem_of_getElem? (i := 106) (by decide +kernel), List.mem_of_getElem? (i := 870) (by decide +kernel), List.mem_of_getElem? (i := 871) (by decide +kernel)⟩
theorem lw_p28 : lw_okq (⟨"LetterPost$Reader", "readAlternatives", "(LLetterPost$Pattern;I)Z"⟩, 8) := ⟨⟨by decide +kernel, by decide +kernel⟩, List.mem_of_getElem? (i := 106) (by decide +kernel), List.mem_of_getElem? (i := 892) (by decide +kernel), List.mem_of_getElem? (i := 893) (by decide +kernel)⟩
theorem lw_p29 : lw_okq (⟨"LetterPost$Rule", "isAmong", "(III)Z"⟩, 20) := ⟨⟨by decide +kernel, by decide +kernel⟩, List.mem_of_getElem? (i := 648) (by decide +kernel), List.mem_of_getElem? (i := 904) (by decide +kernel), List.mem_of_getElem? (i := 905) (by decide +kernel)⟩
theorem lw_p30 : lw_okq (⟨"LetterPost$Reader", "readConstant", "(LLetterPost$Pattern;)Z"⟩, 8) := ⟨⟨by decide +kernel, by decide +kernel⟩, List.mem_of_getElem? (i := 106) (by decide +kernel), List.mem_of_getElem? (i := 909) (by decide +kernel), List.mem_of_getElem? (i := 910) (by decide +kernel)⟩
theorem lw_p31 : lw_okq (⟨"LetterPost$Reader", "readGuard", "()Z"⟩, 8) := ⟨⟨by decide +kernel, by decide +kernel⟩, List.mem_of_getElem? (i := 106) (by decide +kernel), List.mem_of_getElem? (i := 914) (by decide +kernel), List.mem_of_getElem? (i := 915) (by decide +kernel)⟩
def lw_privs_2 : List (MethodName × Nat) := [(⟨"LetterPost$Reader", "readColumns", "()Z"⟩, 8), (⟨"LetterPost$Reader", "readRules", "()Z"⟩, 8), (⟨"LetterPost$Reader", "readPatterns", "(Z)Z"⟩, 8), (⟨"LetterPost$Reader", "readComma", "()Z"⟩, 8), (⟨"LetterPost$Reader", "readPattern", "(IIIZ)LLetterPost$Pattern;"⟩, 8), (⟨"LetterPost$Reader", "firstFault", "(I)I"⟩, 8), (⟨"LetterPost$Reader", "isTurnedRange", "()Z"⟩, 8), (⟨"LetterPost$Reader", "readName", "(I)Z"⟩, 8), (⟨"LetterPost$Reader", "readRange", "(LLetterPost$Pattern;)Z"⟩, 8), (⟨"LetterPost$Reader", "readNumber", "()I"⟩, 8), (⟨"LetterPost$Reader", "failAt", "(II)Z"⟩, 8), (⟨"LetterPost$Reader", "readKindPattern", "(LLetterPost$Pattern;I)Z"⟩, 8), (⟨"LetterPost$Reader", "readAlternatives", "(LLetterPost$Pattern;I)Z"⟩, 8), (⟨"LetterPost$Rule", "isAmong", "(III)Z"⟩, 20), (⟨"LetterPost$Reader", "readConstant", "(LLetterPost$Pattern;)Z"⟩, 8), (⟨"LetterPost$Reader", "readGuard", "()Z"⟩, 8)]
theorem lw_r2 : ∀ q ∈ lw_privs_2, lw_okq q := List.forall_mem_cons.mpr ⟨lw_p16, List.forall_mem_cons.mpr ⟨lw_p17, List.forall_mem_cons.mpr ⟨lw_p18, List.forall_mem_cons.mpr ⟨lw_p19, List.forall_mem_cons.mpr ⟨lw_p20, List.forall_mem_cons.mpr ⟨lw_p21, List.forall_mem_cons.mpr ⟨lw_p22, List.forall_mem_cons.mpr ⟨lw_p23, List.forall_mem_cons.mpr ⟨lw_p24, List.forall_mem_cons.mpr ⟨lw_p25, List.forall_mem_cons.mpr ⟨lw_p26, List.forall_mem_cons.mpr ⟨lw_p27, List.forall_mem_cons.mpr ⟨lw_p28, List.forall_mem_cons.mpr ⟨lw_p29, List.forall_mem_cons.mpr ⟨lw_p30, List.forall_mem_cons.mpr ⟨lw_p31, fun _ h => absurd h List.not_mem_nil⟩⟩⟩⟩⟩⟩⟩⟩⟩⟩⟩⟩⟩⟩⟩⟩
theorem lw_p32 : lw_okq (⟨"LetterPost$Reader", "readSum", "(I)Z"⟩, 8) := ⟨⟨by decide +kernel, by decide +kernel⟩, List.mem_of_getElem? (i := 106) (by decide +kernel), List.mem_of_getElem? (i := 918) (by decide +kernel), List.mem_of_getElem? (i := 919) (by decide +kernel)⟩
theorem lw_p33 : lw_okq (⟨"LetterPost$Reader", "readTerm", "(I)Z"⟩, 8) := ⟨⟨by decide +kernel, by decide +kernel⟩, List.mem_of_getElem? (i := 106) (by decide +kernel), List.mem_of_getElem? (i := 922) (by decide +kernel), List.mem_of_getElem? (i := 923) (by decide +kernel)⟩
theorem lw_p34 : lw_okq (⟨"LetterPost$Reader", "readWholeName", "()I"⟩, 8) := ⟨⟨by decide +kernel, by decide +kernel⟩, List.mem_of_getElem? (i := 106) (by decide +kernel), List.mem_of_getElem? (i := 926) (by decide +kernel), List.mem_of_getElem? (i := 927) (by decide +kernel)⟩
theorem lw_p35 : lw_okq (⟨"LetterPost$Reader", "readAnswer", "()Z"⟩, 8) := ⟨⟨by decide +kernel, by decide +kernel⟩, List.mem_of_getElem? (i := 106) (by decide +kernel), List.mem_of_getElem? (i := 934) (by decide +kernel), List.mem_of_getElem? (i := 935) (by decide +kernel)⟩
theorem lw_p36 : lw_okq (⟨"LetterPost$Reader", "readCall", "()Z"⟩, 8) := ⟨⟨by decide +kernel, by decide +kernel⟩, List.mem_of_getElem? (i := 106) (by decide +kernel), List.mem_of_getElem? (i := 938) (by decide +kernel), List.mem_of_getElem? (i := 939) (by decide +kernel)⟩
theorem lw_p37 : lw_okq (⟨"LetterPost$Reader", "checkCalls", "()Z"⟩, 8) := ⟨⟨by decide +kernel, by decide +kernel⟩, List.mem_of_getElem? (i := 106) (by decide +kernel), List.mem_of_getElem? (i := 950) (by decide +kernel), List.mem_of_getElem? (i := 951) (by decide +kernel)⟩
theorem lw_p38 : lw_okq (⟨"LetterPost$Reader", "checkCall", "(LLetterPost$Rule;)Z"⟩, 8) := ⟨⟨by decide +kernel, by decide +kernel⟩, List.mem_of_getElem? (i := 106) (by decide +kernel), List.mem_of_getElem? (i := 954) (by decide +kernel), List.mem_of_getElem? (i := 955) (by decide +kernel)⟩
theorem lw_p39 : lw_okq (⟨"LetterPost$Reader", "layRows", "()Z"⟩, 8) := ⟨⟨by decide +kernel, by decide +kernel⟩, List.mem_of_getElem? (i := 106) (by decide +kernel), List.mem_of_getElem? (i := 966) (by decide +kernel), List.mem_of_getElem? (i := 967) (by decide +kernel)⟩
theorem lw_p40 : lw_okq (⟨"LetterPost$Row", "lay", "(LLetterPost$Pattern;II)V"⟩, 5) := ⟨⟨by decide +kernel, by decide +kernel⟩, List.mem_of_getElem? (i := 977) (by decide +kernel), List.mem_of_getElem? (i := 1012) (by decide +kernel), List.mem_of_getElem? (i := 1013) (by decide +kernel)⟩
theorem lw_p41 : lw_okq (⟨"LetterPost$Row", "holdName", "(JI)V"⟩, 5) := ⟨⟨by decide +kernel, by decide +kernel⟩, List.mem_of_getElem? (i := 977) (by decide +kernel), List.mem_of_getElem? (i := 1016) (by decide +kernel), List.mem_of_getElem? (i := 1017) (by decide +kernel)⟩
theorem lw_p42 : lw_okq (⟨"LetterPost$Row", "layAlternative", "(LLetterPost$Pattern;II)V"⟩, 5) := ⟨⟨by decide +kernel, by decide +kernel⟩, List.mem_of_getElem? (i := 977) (by decide +kernel), List.mem_of_getElem? (i := 1021) (by decide +kernel), List.mem_of_getElem? (i := 1022) (by decide +kernel)⟩
theorem lw_p43 : lw_okq (⟨"LetterPost$Row", "addTest", "(LLetterPost$Pattern;)V"⟩, 5) := ⟨⟨by decide +kernel, by decide +kernel⟩, List.mem_of_getElem? (i := 977) (by decide +kernel), List.mem_of_getElem? (i := 1025) (by decide +kernel), List.mem_of_getElem? (i := 1026) (by decide +kernel)⟩
theorem lw_p44 : lw_okq (⟨"LetterPost$TreeMaker", "grow", "(JJI)Z"⟩, 8) := ⟨⟨by decide +kernel, by decide +kernel⟩, List.mem_of_getElem? (i := 142) (by decide +kernel), List.mem_of_getElem? (i := 1051) (by decide +kernel), List.mem_of_getElem? (i := 1052) (by decide +kernel)⟩
theorem lw_p45 : lw_okq (⟨"LetterPost$TreeMaker", "stillPossible", "(J)J"⟩, 8) := ⟨⟨by decide +kernel, by decide +kernel⟩, List.mem_of_getElem? (i := 142) (by decide +kernel), List.mem_of_getElem? (i := 1060) (by decide +kernel), List.mem_of_getElem? (i := 1061) (by decide +kernel)⟩
theorem lw_p46 : lw_okq (⟨"LetterPost$TreeMaker", "isPossible", "(LLetterPost$Row;)Z"⟩, 8) := ⟨⟨by decide +kernel, by decide +kernel⟩, List.mem_of_getElem? (i := 142) (by decide +kernel), List.mem_of_getElem? (i := 1064) (by decide +kernel), List.mem_of_getElem? (i := 1065) (by decide +kernel)⟩
theorem lw_p47 : lw_okq (⟨"LetterPost$TreeMaker", "isKnown", "(I)Z"⟩, 8) := ⟨⟨by decide +kernel, by decide +kernel⟩, List.mem_of_getElem? (i := 142) (by decide +kernel), List.mem_of_getElem? (i := 1068) (by decide +kernel), List.mem_of_getElem? (i := 1069) (by decide +kernel)⟩
def lw_privs_3 : List (MethodName × Nat) := [(⟨"LetterPost$Reader", "readSum", "(I)Z"⟩, 8), (⟨"LetterPost$Reader", "readTerm", "(I)Z"⟩, 8), (⟨"LetterPost$Reader", "readWholeName", "()I"⟩, 8), (⟨"LetterPost$Reader", "readAnswer", "()Z"⟩, 8), (⟨"LetterPost$Reader", "readCall", "()Z"⟩, 8), (⟨"LetterPost$Reader", "checkCalls", "()Z"⟩, 8), (⟨"LetterPost$Reader", "checkCall", "(LLetterPost$Rule;)Z"⟩, 8), (⟨"LetterPost$Reader", "layRows", "()Z"⟩, 8), (⟨"LetterPost$Row", "lay", "(LLetterPost$Pattern;II)V"⟩, 5), (⟨"LetterPost$Row", "holdName", "(JI)V"⟩, 5), (⟨"LetterPost$Row", "layAlternative", "(LLetterPost$Pattern;II)V"⟩, 5), (⟨"LetterPost$Row", "addTest", "(LLetterPost$Pattern;)V"⟩, 5), (⟨"LetterPost$TreeMaker", "grow", "(JJI)Z"⟩, 8), (⟨"LetterPost$TreeMaker", "stillPossible", "(J)J"⟩, 8), (⟨"LetterPost$TreeMaker", "isPossible", "(LLetterPost$Row;)Z"⟩, 8), (⟨"LetterPost$TreeMaker", "isKnown", "(I)Z"⟩, 8)]
theorem lw_r3 : ∀ q ∈ lw_privs_3, lw_okq q := List.forall_mem_cons.mpr ⟨lw_p32, List.forall_mem_cons.mpr ⟨lw_p33, List.forall_mem_cons.mpr ⟨lw_p34, List.forall_mem_cons.mpr ⟨lw_p35, List.forall_mem_cons.mpr ⟨lw_p36, List.forall_mem_cons.mpr ⟨lw_p37, List.forall_mem_cons.mpr ⟨lw_p38, List.forall_mem_cons.mpr ⟨lw_p39, List.forall_mem_cons.mpr ⟨lw_p40, List.forall_mem_cons.mpr ⟨lw_p41, List.forall_mem_cons.mpr ⟨lw_p42, List.forall_mem_cons.mpr ⟨lw_p43, List.forall_mem_cons.mpr ⟨lw_p44, List.forall_mem_cons.mpr ⟨lw_p45, List.forall_mem_cons.mpr ⟨lw_p46, List.forall_mem_cons.mpr ⟨lw_p47, fun _ h => absurd h List.not_mem_nil⟩⟩⟩⟩⟩⟩⟩⟩⟩⟩⟩⟩⟩⟩⟩⟩
theorem lw_p48 : lw_okq (⟨"LetterPost$TreeMaker", "chosenPlace", "(LLetterPost$Row;J)I"⟩, 8) := ⟨⟨by decide +kernel, by decide +kernel⟩, List.mem_of_getElem? (i := 142) (by decide +kernel), List.mem_of_getElem? (i := 1087) (by decide +kernel), List.mem_of_getElem? (i := 1088) (by decide +kernel)⟩
theorem lw_p49 : lw_okq (⟨"LetterPost$TreeMaker", "canBeAsked", "(I)Z"⟩, 8) := ⟨⟨by decide +kernel, by decide +kernel⟩, List.mem_of_getElem? (i := 142) (by decide +kernel), List.mem_of_getElem? (i := 1091) (by decide +kernel), List.mem_of_getElem? (i := 1092) (by decide +kernel)⟩
theorem lw_p50 : lw_okq (⟨"LetterPost$TreeMaker", "worthOf", "(IIJ)I"⟩, 8) := ⟨⟨by decide +kernel, by decide +kernel⟩, List.mem_of_getElem? (i := 142) (by decide +kernel), List.mem_of_getElem? (i := 1099) (by decide +kernel), List.mem_of_getElem? (i := 1100) (by decide +kernel)⟩
theorem lw_p51 : lw_okq (⟨"LetterPost$TreeMaker", "rowsAt", "(IJ)I"⟩, 8) := ⟨⟨by decide +kernel, by decide +kernel⟩, List.mem_of_getElem? (i := 142) (by decide +kernel), List.mem_of_getElem? (i := 1103) (by decide +kernel), List.mem_of_getElem? (i := 1104) (by decide +kernel)⟩
theorem lw_p52 : lw_okq (⟨"LetterPost$TreeMaker", "testAt", "(IIJ)LLetterPost$Pattern;"⟩, 8) := ⟨⟨by decide +kernel, by decide +kernel⟩, List.mem_of_getElem? (i := 142) (by decide +kernel), List.mem_of_getElem? (i := 1107) (by decide +kernel), List.mem_of_getElem? (i := 1108) (by decide +kernel)⟩
theorem lw_p53 : lw_okq (⟨"LetterPost$TreeMaker", "pushLabels", "(IJ)I"⟩, 8) := ⟨⟨by decide +kernel, by decide +kernel⟩, List.mem_of_getElem? (i := 142) (by decide +kernel), List.mem_of_getElem? (i := 1115) (by decide +kernel), List.mem_of_getElem? (i := 1116) (by decide +kernel)⟩
theorem lw_p54 : lw_okq (⟨"LetterPost$TreeMaker", "pushUpward", "(JI)V"⟩, 8) := ⟨⟨by decide +kernel, by decide +kernel⟩, List.mem_of_getElem? (i := 142) (by decide +kernel), List.mem_of_getElem? (i := 1119) (by decide +kernel), List.mem_of_getElem? (i := 1120) (by decide +kernel)⟩
theorem lw_p55 : lw_okq (⟨"LetterPost$TreeMaker", "isPushed", "(JI)Z"⟩, 8) := ⟨⟨by decide +kernel, by decide +kernel⟩, List.mem_of_getElem? (i := 142) (by decide +kernel), List.mem_of_getElem? (i := 1123) (by decide +kernel), List.mem_of_getElem? (i := 1124) (by decide +kernel)⟩
theorem lw_p56 : lw_okq (⟨"LetterPost$TreeMaker", "push", "(J)V"⟩, 8) := ⟨⟨by decide +kernel, by decide +kernel⟩, List.mem_of_getElem? (i := 142) (by decide +kernel), List.mem_of_getElem? (i := 1127) (by decide +kernel), List.mem_of_getElem? (i := 1128) (by decide +kernel)⟩
theorem lw_p57 : lw_okq (⟨"LetterPost$TreeMaker", "pushLastLabels", "(I)V"⟩, 8) := ⟨⟨by decide +kernel, by decide +kernel⟩, List.mem_of_getElem? (i := 142) (by decide +kernel), List.mem_of_getElem? (i := 1131) (by decide +kernel), List.mem_of_getElem? (i := 1132) (by decide +kernel)⟩
theorem lw_p58 : lw_okq (⟨"LetterPost$TreeMaker", "settle", "(IJII)Z"⟩, 8) := ⟨⟨by decide +kernel, by decide +kernel⟩, List.mem_of_getElem? (i := 142) (by decide +kernel), List.mem_of_getElem? (i := 1142) (by decide +kernel), List.mem_of_getElem? (i := 1143) (by decide +kernel)⟩
theorem lw_p59 : lw_okq (⟨"LetterPost$TreeMaker", "promise", "(I)Z"⟩, 8) := ⟨⟨by decide +kernel, by decide +kernel⟩, List.mem_of_getElem? (i := 142) (by decide +kernel), List.mem_of_getElem? (i := 1150) (by decide +kernel), List.mem_of_getElem? (i := 1151) (by decide +kernel)⟩
theorem lw_p60 : lw_okq (⟨"LetterPost$TreeMaker", "split", "(IJII)Z"⟩, 8) := ⟨⟨by decide +kernel, by decide +kernel⟩, List.mem_of_getElem? (i := 142) (by decide +kernel), List.mem_of_getElem? (i := 1158) (by decide +kernel), List.mem_of_getElem? (i := 1159) (by decide +kernel)⟩
theorem lw_p61 : lw_okq (⟨"LetterPost$Function", "placeDepth", "(I)I"⟩, 11) := ⟨⟨by decide +kernel, by decide +kernel⟩, List.mem_of_getElem? (i := 556) (by decide +kernel), List.mem_of_getElem? (i := 1226) (by decide +kernel), List.mem_of_getElem? (i := 1227) (by decide +kernel)⟩
theorem lw_p62 : lw_okq (⟨"LetterPost$Letters", "putSized", "(IJII)I"⟩, 9) := ⟨⟨by decide +kernel, by decide +kernel⟩, List.mem_of_getElem? (i := 228) (by decide +kernel), List.mem_of_getElem? (i := 1272) (by decide +kernel), List.mem_of_getElem? (i := 1273) (by decide +kernel)⟩
theorem lw_p63 : lw_okq (⟨"LetterPost$Letters", "firstLike", "(I)I"⟩, 9) := ⟨⟨by decide +kernel, by decide +kernel⟩, List.mem_of_getElem? (i := 228) (by decide +kernel), List.mem_of_getElem? (i := 1277) (by decide +kernel), List.mem_of_getElem? (i := 1278) (by decide +kernel)⟩
def lw_privs_4 : List (MethodName × Nat) := [(⟨"LetterPost$TreeMaker", "chosenPlace", "(LLetterPost$Row;J)I"⟩, 8), (⟨"LetterPost$TreeMaker", "canBeAsked", "(I)Z"⟩, 8), (⟨"LetterPost$TreeMaker", "worthOf", "(IIJ)I"⟩, 8), (⟨"LetterPost$TreeMaker", "rowsAt", "(IJ)I"⟩, 8), (⟨"LetterPost$TreeMaker", "testAt", "(IIJ)LLetterPost$Pattern;"⟩, 8), (⟨"LetterPost$TreeMaker", "pushLabels", "(IJ)I"⟩, 8), (⟨"LetterPost$TreeMaker", "pushUpward", "(JI)V"⟩, 8), (⟨"LetterPost$TreeMaker", "isPushed", "(JI)Z"⟩, 8), (⟨"LetterPost$TreeMaker", "push", "(J)V"⟩, 8), (⟨"LetterPost$TreeMaker", "pushLastLabels", "(I)V"⟩, 8), (⟨"LetterPost$TreeMaker", "settle", "(IJII)Z"⟩, 8), (⟨"LetterPost$TreeMaker", "promise", "(I)Z"⟩, 8), (⟨"LetterPost$TreeMaker", "split", "(IJII)Z"⟩, 8), (⟨"LetterPost$Function", "placeDepth", "(I)I"⟩, 11), (⟨"LetterPost$Letters", "putSized", "(IJII)I"⟩, 9), (⟨"LetterPost$Letters", "firstLike", "(I)I"⟩, 9)]
theorem lw_r4 : ∀ q ∈ lw_privs_4, lw_okq q := List.forall_mem_cons.mpr ⟨lw_p48, List.forall_mem_cons.mpr ⟨lw_p49, List.forall_mem_cons.mpr ⟨lw_p50, List.forall_mem_cons.mpr ⟨lw_p51, List.forall_mem_cons.mpr ⟨lw_p52, List.forall_mem_cons.mpr ⟨lw_p53, List.forall_mem_cons.mpr ⟨lw_p54, List.forall_mem_cons.mpr ⟨lw_p55, List.forall_mem_cons.mpr ⟨lw_p56, List.forall_mem_cons.mpr ⟨lw_p57, List.forall_mem_cons.mpr ⟨lw_p58, List.forall_mem_cons.mpr ⟨lw_p59, List.forall_mem_cons.mpr ⟨lw_p60, List.forall_mem_cons.mpr ⟨lw_p61, List.forall_mem_cons.mpr ⟨lw_p62, List.forall_mem_cons.mpr ⟨lw_p63, fun _ h => absurd h List.not_mem_nil⟩⟩⟩⟩⟩⟩⟩⟩⟩⟩⟩⟩⟩⟩⟩⟩
theorem lw_p64 : lw_okq (⟨"LetterPost$Letters", "haveLikeParts", "(II)Z"⟩, 9) := ⟨⟨by decide +kernel, by decide +kernel⟩, List.mem_of_getElem? (i := 228) (by decide +kernel), List.mem_of_getElem? (i := 1281) (by decide +kernel), List.mem_of_getElem? (i := 1282) (by decide +kernel)⟩
theorem lw_p65 : lw_okq (⟨"LetterPost$Letters", "worth", "(I)I"⟩, 9) := ⟨⟨by decide +kernel, by decide +kernel⟩, List.mem_of_getElem? (i := 228) (by decide +kernel), List.mem_of_getElem? (i := 1339) (by decide +kernel), List.mem_of_getElem? (i := 1340) (by decide +kernel)⟩
theorem lw_p66 : lw_okq (⟨"LetterPost$Sorter", "byTree", "(LLetterPost$Function;)LLetterPost$Rule;"⟩, 12) := ⟨⟨by decide +kernel, by decide +kernel⟩, List.mem_of_getElem? (i := 265) (by decide +kernel), List.mem_of_getElem? (i := 1374) (by decide +kernel), List.mem_of_getElem? (i := 1375) (by decide +kernel)⟩
theorem lw_p67 : lw_okq (⟨"LetterPost$Sorter", "labelAt", "(LLetterPost$Function;I)J"⟩, 12) := ⟨⟨by decide +kernel, by decide +kernel⟩, List.mem_of_getElem? (i := 265) (by decide +kernel), List.mem_of_getElem? (i := 1380) (by decide +kernel), List.mem_of_getElem? (i := 1381) (by decide +kernel)⟩
theorem lw_p68 : lw_okq (⟨"LetterPost$Sorter", "valueAt", "(LLetterPost$Function;II)I"⟩, 12) := ⟨⟨by decide +kernel, by decide +kernel⟩, List.mem_of_getElem? (i := 265) (by decide +kernel), List.mem_of_getElem? (i := 1384) (by decide +kernel), List.mem_of_getElem? (i := 1385) (by decide +kernel)⟩
theorem lw_p69 : lw_okq (⟨"LetterPost$Sorter", "end", "(II)V"⟩, 12) := ⟨⟨by decide +kernel, by decide +kernel⟩, List.mem_of_getElem? (i := 265) (by decide +kernel), List.mem_of_getElem? (i := 1401) (by decide +kernel), List.mem_of_getElem? (i := 1402) (by decide +kernel)⟩
theorem lw_p70 : lw_okq (⟨"LetterPost$Sorter", "holdRow", "(LLetterPost$Function;LLetterPost$Row;)V"⟩, 12) := ⟨⟨by decide +kernel, by decide +kernel⟩, List.mem_of_getElem? (i := 265) (by decide +kernel), List.mem_of_getElem? (i := 1405) (by decide +kernel), List.mem_of_getElem? (i := 1406) (by decide +kernel)⟩
theorem lw_p71 : lw_okq (⟨"LetterPost$Sorter", "guardLets", "(LLetterPost$Rule;)Z"⟩, 12) := ⟨⟨by decide +kernel, by decide +kernel⟩, List.mem_of_getElem? (i := 265) (by decide +kernel), List.mem_of_getElem? (i := 1409) (by decide +kernel), List.mem_of_getElem? (i := 1410) (by decide +kernel)⟩
theorem lw_p72 : lw_okq (⟨"LetterPost$Sorter", "sum", "(LLetterPost$Rule;I)I"⟩, 12) := ⟨⟨by decide +kernel, by decide +kernel⟩, List.mem_of_getElem? (i := 265) (by decide +kernel), List.mem_of_getElem? (i := 1414) (by decide +kernel), List.mem_of_getElem? (i := 1415) (by decide +kernel)⟩
theorem lw_p73 : lw_okq (⟨"LetterPost$Sorter", "term", "(LLetterPost$Rule;I)I"⟩, 12) := ⟨⟨by decide +kernel, by decide +kernel⟩, List.mem_of_getElem? (i := 265) (by decide +kernel), List.mem_of_getElem? (i := 1418) (by decide +kernel), List.mem_of_getElem? (i := 1419) (by decide +kernel)⟩
theorem lw_p74 : lw_okq (⟨"LetterPost$Sorter", "numberHeld", "(I)I"⟩, 12) := ⟨⟨by decide +kernel, by decide +kernel⟩, List.mem_of_getElem? (i := 265) (by decide +kernel), List.mem_of_getElem? (i := 1422) (by decide +kernel), List.mem_of_getElem? (i := 1423) (by decide +kernel)⟩
theorem lw_p75 : lw_okq (⟨"LetterPost$Sorter", "heldAt", "(I)I"⟩, 12) := ⟨⟨by decide +kernel, by decide +kernel⟩, List.mem_of_getElem? (i := 265) (by decide +kernel), List.mem_of_getElem? (i := 1426) (by decide +kernel), List.mem_of_getElem? (i := 1427) (by decide +kernel)⟩
theorem lw_p76 : lw_okq (⟨"LetterPost$Sorter", "divided", "(IIZ)I"⟩, 12) := ⟨⟨by decide +kernel, by decide +kernel⟩, List.mem_of_getElem? (i := 265) (by decide +kernel), List.mem_of_getElem? (i := 1430) (by decide +kernel), List.mem_of_getElem? (i := 1431) (by decide +kernel)⟩
theorem lw_p77 : lw_okq (⟨"LetterPost$Sorter", "byRules", "(LLetterPost$Function;)LLetterPost$Rule;"⟩, 12) := ⟨⟨by decide +kernel, by decide +kernel⟩, List.mem_of_getElem? (i := 265) (by decide +kernel), List.mem_of_getElem? (i := 1434) (by decide +kernel), List.mem_of_getElem? (i := 1435) (by decide +kernel)⟩
theorem lw_p78 : lw_okq (⟨"LetterPost$Sorter", "patternsFit", "(LLetterPost$Rule;)Z"⟩, 12) := ⟨⟨by decide +kernel, by decide +kernel⟩, List.mem_of_getElem? (i := 265) (by decide +kernel), List.mem_of_getElem? (i := 1438) (by decide +kernel), List.mem_of_getElem? (i := 1439) (by decide +kernel)⟩
theorem lw_p79 : lw_okq (⟨"LetterPost$Sorter", "fits", "(LLetterPost$Rule;LLetterPost$Pattern;II)Z"⟩, 12) := ⟨⟨by decide +kernel, by decide +kernel⟩, List.mem_of_getElem? (i := 265) (by decide +kernel), List.mem_of_getElem? (i := 1442) (by decide +kernel), List.mem_of_getElem? (i := 1443) (by decide +kernel)⟩
def lw_privs_5 : List (MethodName × Nat) := [(⟨"LetterPost$Letters", "haveLikeParts", "(II)Z"⟩, 9), (⟨"LetterPost$Letters", "worth", "(I)I"⟩, 9), (⟨"LetterPost$Sorter", "byTree", "(LLetterPost$Function;)LLetterPost$Rule;"⟩, 12), (⟨"LetterPost$Sorter", "labelAt", "(LLetterPost$Function;I)J"⟩, 12), (⟨"LetterPost$Sorter", "valueAt", "(LLetterPost$Function;II)I"⟩, 12), (⟨"LetterPost$Sorter", "end", "(II)V"⟩, 12), (⟨"LetterPost$Sorter", "holdRow", "(LLetterPost$Function;LLetterPost$Row;)V"⟩, 12), (⟨"LetterPost$Sorter", "guardLets", "(LLetterPost$Rule;)Z"⟩, 12), (⟨"LetterPost$Sorter", "sum", "(LLetterPost$Rule;I)I"⟩, 12), (⟨"LetterPost$Sorter", "term", "(LLetterPost$Rule;I)I"⟩, 12), (⟨"LetterPost$Sorter", "numberHeld", "(I)I"⟩, 12), (⟨"LetterPost$Sorter", "heldAt", "(I)I"⟩, 12), (⟨"LetterPost$Sorter", "divided", "(IIZ)I"⟩, 12), (⟨"LetterPost$Sorter", "byRules", "(LLetterPost$Function;)LLetterPost$Rule;"⟩, 12), (⟨"LetterPost$Sorter", "patternsFit", "(LLetterPost$Rule;)Z"⟩, 12), (⟨"LetterPost$Sorter", "fits", "(LLetterPost$Rule;LLetterPost$Pattern;II)Z"⟩, 12)]
theorem lw_r5 : ∀ q ∈ lw_privs_5, lw_okq q := List.forall_mem_cons.mpr ⟨lw_p64, List.forall_mem_cons.mpr ⟨lw_p65, List.forall_mem_cons.mpr ⟨lw_p66, List.forall_mem_cons.mpr ⟨lw_p67, List.forall_mem_cons.mpr ⟨lw_p68, List.forall_mem_cons.mpr ⟨lw_p69, List.forall_mem_cons.mpr ⟨lw_p70, List.forall_mem_cons.mpr ⟨lw_p71, List.forall_mem_cons.mpr ⟨lw_p72, List.forall_mem_cons.mpr ⟨lw_p73, List.forall_mem_cons.mpr ⟨lw_p74, List.forall_mem_cons.mpr ⟨lw_p75, List.forall_mem_cons.mpr ⟨lw_p76, List.forall_mem_cons.mpr ⟨lw_p77, List.forall_mem_cons.mpr ⟨lw_p78, List.forall_mem_cons.mpr ⟨lw_p79, fun _ h => absurd h List.not_mem_nil⟩⟩⟩⟩⟩⟩⟩⟩⟩⟩⟩⟩⟩⟩⟩⟩
theorem lw_p80 : lw_okq (⟨"LetterPost$Sorter", "hold", "(LLetterPost$Rule;JI)V"⟩, 12) := ⟨⟨by decide +kernel, by decide +kernel⟩, List.mem_of_getElem? (i := 265) (by decide +kernel), List.mem_of_getElem? (i := 1446) (by decide +kernel), List.mem_of_getElem? (i := 1447) (by decide +kernel)⟩
theorem lw_p81 : lw_okq (⟨"LetterPost$Sorter", "anyFits", "(LLetterPost$Rule;LLetterPost$Pattern;II)Z"⟩, 12) := ⟨⟨by decide +kernel, by decide +kernel⟩, List.mem_of_getElem? (i := 265) (by decide +kernel), List.mem_of_getElem? (i := 1451) (by decide +kernel), List.mem_of_getElem? (i := 1452) (by decide +kernel)⟩
theorem lw_p82 : lw_okq (⟨"LetterPost$Sorter", "partsFit", "(LLetterPost$Rule;LLetterPost$Pattern;II)Z"⟩, 12) := ⟨⟨by decide +kernel, by decide +kernel⟩, List.mem_of_getElem? (i := 265) (by decide +kernel), List.mem_of_getElem? (i := 1456) (by decide +kernel), List.mem_of_getElem? (i := 1457) (by decide +kernel)⟩
theorem lw_p83 : lw_okq (⟨"LetterPost$Sorter", "keepBound", "(LLetterPost$Rule;)V"⟩, 12) := ⟨⟨by decide +kernel, by decide +kernel⟩, List.mem_of_getElem? (i := 265) (by decide +kernel), List.mem_of_getElem? (i := 1460) (by decide +kernel), List.mem_of_getElem? (i := 1461) (by decide +kernel)⟩
theorem lw_p84 : lw_okq (⟨"LetterPost$Sorter", "handOver", "(LLetterPost$Rule;)V"⟩, 12) := ⟨⟨by decide +kernel, by decide +kernel⟩, List.mem_of_getElem? (i := 265) (by decide +kernel), List.mem_of_getElem? (i := 1466) (by decide +kernel), List.mem_of_getElem? (i := 1467) (by decide +kernel)⟩
theorem lw_p85 : lw_okq (⟨"LetterPostModel", "beginTape", "()V"⟩, 130) := ⟨⟨by decide +kernel, by decide +kernel⟩, List.mem_of_getElem? (i := 1490) (by decide +kernel), List.mem_of_getElem? (i := 1901) (by decide +kernel), List.mem_of_getElem? (i := 1902) (by decide +kernel)⟩
theorem lw_p86 : lw_okq (⟨"LetterPostModel", "next", "()V"⟩, 130) := ⟨⟨by decide +kernel, by decide +kernel⟩, List.mem_of_getElem? (i := 1490) (by decide +kernel), List.mem_of_getElem? (i := 1905) (by decide +kernel), List.mem_of_getElem? (i := 1906) (by decide +kernel)⟩
theorem lw_p87 : lw_okq (⟨"LetterPostModel", "byteAt", "(I)I"⟩, 130) := ⟨⟨by decide +kernel, by decide +kernel⟩, List.mem_of_getElem? (i := 1490) (by decide +kernel), List.mem_of_getElem? (i := 1909) (by decide +kernel), List.mem_of_getElem? (i := 1910) (by decide +kernel)⟩
theorem lw_p88 : lw_okq (⟨"LetterPostModel", "name", "(I)V"⟩, 130) := ⟨⟨by decide +kernel, by decide +kernel⟩, List.mem_of_getElem? (i := 1490) (by decide +kernel), List.mem_of_getElem? (i := 1920) (by decide +kernel), List.mem_of_getElem? (i := 1921) (by decide +kernel)⟩
theorem lw_p89 : lw_okq (⟨"LetterPostModel", "isWord", "(I)Z"⟩, 130) := ⟨⟨by decide +kernel, by decide +kernel⟩, List.mem_of_getElem? (i := 1490) (by decide +kernel), List.mem_of_getElem? (i := 1945) (by decide +kernel), List.mem_of_getElem? (i := 1946) (by decide +kernel)⟩
theorem lw_p90 : lw_okq (⟨"LetterPostModel", "readKind", "(Z)V"⟩, 130) := ⟨⟨by decide +kernel, by decide +kernel⟩, List.mem_of_getElem? (i := 1490) (by decide +kernel), List.mem_of_getElem? (i := 1949) (by decide +kernel), List.mem_of_getElem? (i := 1950) (by decide +kernel)⟩
theorem lw_p91 : lw_okq (⟨"LetterPostModel", "stop", "(I)V"⟩, 130) := ⟨⟨by decide +kernel, by decide +kernel⟩, List.mem_of_getElem? (i := 1490) (by decide +kernel), List.mem_of_getElem? (i := 1953) (by decide +kernel), List.mem_of_getElem? (i := 1954) (by decide +kernel)⟩
theorem lw_p92 : lw_okq (⟨"LetterPostModel", "fails", "(II)V"⟩, 130) := ⟨⟨by decide +kernel, by decide +kernel⟩, List.mem_of_getElem? (i := 1490) (by decide +kernel), List.mem_of_getElem? (i := 1957) (by decide +kernel), List.mem_of_getElem? (i := 1958) (by decide +kernel)⟩
theorem lw_p93 : lw_okq (⟨"LetterPostModel", "kindOf", "(J)I"⟩, 130) := ⟨⟨by decide +kernel, by decide +kernel⟩, List.mem_of_getElem? (i := 1490) (by decide +kernel), List.mem_of_getElem? (i := 1961) (by decide +kernel), List.mem_of_getElem? (i := 1962) (by decide +kernel)⟩
theorem lw_p94 : lw_okq (⟨"LetterPostModel", "readUnder", "(IZ)V"⟩, 130) := ⟨⟨by decide +kernel, by decide +kernel⟩, List.mem_of_getElem? (i := 1490) (by decide +kernel), List.mem_of_getElem? (i := 1965) (by decide +kernel), List.mem_of_getElem? (i := 1966) (by decide +kernel)⟩
theorem lw_p95 : lw_okq (⟨"LetterPostModel", "isSealed", "(I)Z"⟩, 130) := ⟨⟨by decide +kernel, by decide +kernel⟩, List.mem_of_getElem? (i := 1490) (by decide +kernel), List.mem_of_getElem? (i := 1969) (by decide +kernel), List.mem_of_getElem? (i := 1970) (by decide +kernel)⟩
def lw_privs_6 : List (MethodName × Nat) := [(⟨"LetterPost$Sorter", "hold", "(LLetterPost$Rule;JI)V"⟩, 12), (⟨"LetterPost$Sorter", "anyFits", "(LLetterPost$Rule;LLetterPost$Pattern;II)Z"⟩, 12), (⟨"LetterPost$Sorter", "partsFit", "(LLetterPost$Rule;LLetterPost$Pattern;II)Z"⟩, 12), (⟨"LetterPost$Sorter", "keepBound", "(LLetterPost$Rule;)V"⟩, 12), (⟨"LetterPost$Sorter", "handOver", "(LLetterPost$Rule;)V"⟩, 12), (⟨"LetterPostModel", "beginTape", "()V"⟩, 130), (⟨"LetterPostModel", "next", "()V"⟩, 130), (⟨"LetterPostModel", "byteAt", "(I)I"⟩, 130), (⟨"LetterPostModel", "name", "(I)V"⟩, 130), (⟨"LetterPostModel", "isWord", "(I)Z"⟩, 130), (⟨"LetterPostModel", "readKind", "(Z)V"⟩, 130), (⟨"LetterPostModel", "stop", "(I)V"⟩, 130), (⟨"LetterPostModel", "fails", "(II)V"⟩, 130), (⟨"LetterPostModel", "kindOf", "(J)I"⟩, 130), (⟨"LetterPostModel", "readUnder", "(IZ)V"⟩, 130), (⟨"LetterPostModel", "isSealed", "(I)Z"⟩, 130)]
theorem lw_r6 : ∀ q ∈ lw_privs_6, lw_okq q := List.forall_mem_cons.mpr ⟨lw_p80, List.forall_mem_cons.mpr ⟨lw_p81, List.forall_mem_cons.mpr ⟨lw_p82, List.forall_mem_cons.mpr ⟨lw_p83, List.forall_mem_cons.mpr ⟨lw_p84, List.forall_mem_cons.mpr ⟨lw_p85, List.forall_mem_cons.mpr ⟨lw_p86, List.forall_mem_cons.mpr ⟨lw_p87, List.forall_mem_cons.mpr ⟨lw_p88, List.forall_mem_cons.mpr ⟨lw_p89, List.forall_mem_cons.mpr ⟨lw_p90, List.forall_mem_cons.mpr ⟨lw_p91, List.forall_mem_cons.mpr ⟨lw_p92, List.forall_mem_cons.mpr ⟨lw_p93, List.forall_mem_cons.mpr ⟨lw_p94, List.forall_mem_cons.mpr ⟨lw_p95, fun _ h => absurd h List.not_mem_nil⟩⟩⟩⟩⟩⟩⟩⟩⟩⟩⟩⟩⟩⟩⟩⟩
theorem lw_p96 : lw_okq (⟨"LetterPostModel", "takes", "(I)Z"⟩, 130) := ⟨⟨by decide +kernel, by decide +kernel⟩, List.mem_of_getElem? (i := 1490) (by decide +kernel), List.mem_of_getElem? (i := 1973) (by decide +kernel), List.mem_of_getElem? (i := 1974) (by decide +kernel)⟩
theorem lw_p97 : lw_okq (⟨"LetterPostModel", "isSign", "(I)Z"⟩, 130) := ⟨⟨by decide +kernel, by decide +kernel⟩, List.mem_of_getElem? (i := 1490) (by decide +kernel), List.mem_of_getElem? (i := 1977) (by decide +kernel), List.mem_of_getElem? (i := 1978) (by decide +kernel)⟩
theorem lw_p98 : lw_okq (⟨"LetterPostModel", "readSort", "(Z)I"⟩, 130) := ⟨⟨by decide +kernel, by decide +kernel⟩, List.mem_of_getElem? (i := 1490) (by decide +kernel), List.mem_of_getElem? (i := 1981) (by decide +kernel), List.mem_of_getElem? (i := 1982) (by decide +kernel)⟩
theorem lw_p99 : lw_okq (⟨"LetterPostModel", "must", "(I)V"⟩, 130) := ⟨⟨by decide +kernel, by decide +kernel⟩, List.mem_of_getElem? (i := 1490) (by decide +kernel), List.mem_of_getElem? (i := 1987) (by decide +kernel), List.mem_of_getElem? (i := 1988) (by decide +kernel)⟩
theorem lw_p100 : lw_okq (⟨"LetterPostModel", "readFunction", "()V"⟩, 130) := ⟨⟨by decide +kernel, by decide +kernel⟩, List.mem_of_getElem? (i := 1490) (by decide +kernel), List.mem_of_getElem? (i := 1991) (by decide +kernel), List.mem_of_getElem? (i := 1992) (by decide +kernel)⟩
theorem lw_p101 : lw_okq (⟨"LetterPostModel", "functionOf", "(J)I"⟩, 130) := ⟨⟨by decide +kernel, by decide +kernel⟩, List.mem_of_getElem? (i := 1490) (by decide +kernel), List.mem_of_getElem? (i := 1995) (by decide +kernel), List.mem_of_getElem? (i := 1996) (by decide +kernel)⟩
theorem lw_p102 : lw_okq (⟨"LetterPostModel", "readRule", "(I)V"⟩, 130) := ⟨⟨by decide +kernel, by decide +kernel⟩, List.mem_of_getElem? (i := 1490) (by decide +kernel), List.mem_of_getElem? (i := 1999) (by decide +kernel), List.mem_of_getElem? (i := 2000) (by decide +kernel)⟩
theorem lw_p103 : lw_okq (⟨"LetterPostModel", "readPattern", "(IZ)I"⟩, 130) := ⟨⟨by decide +kernel, by decide +kernel⟩, List.mem_of_getElem? (i := 1490) (by decide +kernel), List.mem_of_getElem? (i := 2003) (by decide +kernel), List.mem_of_getElem? (i := 2004) (by decide +kernel)⟩
theorem lw_p104 : lw_okq (⟨"LetterPostModel", "begins", "(IZ)I"⟩, 130) := ⟨⟨by decide +kernel, by decide +kernel⟩, List.mem_of_getElem? (i := 1490) (by decide +kernel), List.mem_of_getElem? (i := 2007) (by decide +kernel), List.mem_of_getElem? (i := 2008) (by decide +kernel)⟩
theorem lw_p105 : lw_okq (⟨"LetterPostModel", "isOf", "(II)Z"⟩, 130) := ⟨⟨by decide +kernel, by decide +kernel⟩, List.mem_of_getElem? (i := 1490) (by decide +kernel), List.mem_of_getElem? (i := 2011) (by decide +kernel), List.mem_of_getElem? (i := 2012) (by decide +kernel)⟩
theorem lw_p106 : lw_okq (⟨"LetterPostModel", "newPattern", "(II)I"⟩, 130) := ⟨⟨by decide +kernel, by decide +kernel⟩, List.mem_of_getElem? (i := 1490) (by decide +kernel), List.mem_of_getElem? (i := 2015) (by decide +kernel), List.mem_of_getElem? (i := 2016) (by decide +kernel)⟩
theorem lw_p107 : lw_okq (⟨"LetterPostModel", "nameOf", "(J)I"⟩, 130) := ⟨⟨by decide +kernel, by decide +kernel⟩, List.mem_of_getElem? (i := 1490) (by decide +kernel), List.mem_of_getElem? (i := 2019) (by decide +kernel), List.mem_of_getElem? (i := 2020) (by decide +kernel)⟩
theorem lw_p108 : lw_okq (⟨"LetterPostModel", "binds", "(I)I"⟩, 130) := ⟨⟨by decide +kernel, by decide +kernel⟩, List.mem_of_getElem? (i := 1490) (by decide +kernel), List.mem_of_getElem? (i := 2023) (by decide +kernel), List.mem_of_getElem? (i := 2024) (by decide +kernel)⟩
theorem lw_p109 : lw_okq (⟨"LetterPostModel", "range", "(II)V"⟩, 130) := ⟨⟨by decide +kernel, by decide +kernel⟩, List.mem_of_getElem? (i := 1490) (by decide +kernel), List.mem_of_getElem? (i := 2027) (by decide +kernel), List.mem_of_getElem? (i := 2028) (by decide +kernel)⟩
theorem lw_p110 : lw_okq (⟨"LetterPostModel", "number", "()I"⟩, 130) := ⟨⟨by decide +kernel, by decide +kernel⟩, List.mem_of_getElem? (i := 1490) (by decide +kernel), List.mem_of_getElem? (i := 2031) (by decide +kernel), List.mem_of_getElem? (i := 2032) (by decide +kernel)⟩
theorem lw_p111 : lw_okq (⟨"LetterPostModel", "opens", "(II)V"⟩, 130) := ⟨⟨by decide +kernel, by decide +kernel⟩, List.mem_of_getElem? (i := 1490) (by decide +kernel), List.mem_of_getElem? (i := 2035) (by decide +kernel), List.mem_of_getElem? (i := 2036) (by decide +kernel)⟩
def lw_privs_7 : List (MethodName × Nat) := [(⟨"LetterPostModel", "takes", "(I)Z"⟩, 130), (⟨"LetterPostModel", "isSign", "(I)Z"⟩, 130), (⟨"LetterPostModel", "readSort", "(Z)I"⟩, 130), (⟨"LetterPostModel", "must", "(I)V"⟩, 130), (⟨"LetterPostModel", "readFunction", "()V"⟩, 130), (⟨"LetterPostModel", "functionOf", "(J)I"⟩, 130), (⟨"LetterPostModel", "readRule", "(I)V"⟩, 130), (⟨"LetterPostModel", "readPattern", "(IZ)I"⟩, 130), (⟨"LetterPostModel", "begins", "(IZ)I"⟩, 130), (⟨"LetterPostModel", "isOf", "(II)Z"⟩, 130), (⟨"LetterPostModel", "newPattern", "(II)I"⟩, 130), (⟨"LetterPostModel", "nameOf", "(J)I"⟩, 130), (⟨"LetterPostModel", "binds", "(I)I"⟩, 130), (⟨"LetterPostModel", "range", "(II)V"⟩, 130), (⟨"LetterPostModel", "number", "()I"⟩, 130), (⟨"LetterPostModel", "opens", "(II)V"⟩, 130)]
theorem lw_r7 : ∀ q ∈ lw_privs_7, lw_okq q := List.forall_mem_cons.mpr ⟨lw_p96, List.forall_mem_cons.mpr ⟨lw_p97, List.forall_mem_cons.mpr ⟨lw_p98, List.forall_mem_cons.mpr ⟨lw_p99, List.forall_mem_cons.mpr ⟨lw_p100, List.forall_mem_cons.mpr ⟨lw_p101, List.forall_mem_cons.mpr ⟨lw_p102, List.forall_mem_cons.mpr ⟨lw_p103, List.forall_mem_cons.mpr ⟨lw_p104, List.forall_mem_cons.mpr ⟨lw_p105, List.forall_mem_cons.mpr ⟨lw_p106, List.forall_mem_cons.mpr ⟨lw_p107, List.forall_mem_cons.mpr ⟨lw_p108, List.forall_mem_cons.mpr ⟨lw_p109, List.forall_mem_cons.mpr ⟨lw_p110, List.forall_mem_cons.mpr ⟨lw_p111, fun _ h => absurd h List.not_mem_nil⟩⟩⟩⟩⟩⟩⟩⟩⟩⟩⟩⟩⟩⟩⟩⟩
theorem lw_p112 : lw_okq (⟨"LetterPostModel", "wanted", "()I"⟩, 130) := ⟨⟨by decide +kernel, by decide +kernel⟩, List.mem_of_getElem? (i := 1490) (by decide +kernel), List.mem_of_getElem? (i := 2039) (by decide +kernel), List.mem_of_getElem? (i := 2040) (by decide +kernel)⟩
theorem lw_p113 : lw_okq (⟨"LetterPostModel", "readAs", "(I)V"⟩, 130) := ⟨⟨by decide +kernel, by decide +kernel⟩, List.mem_of_getElem? (i := 1490) (by decide +kernel), List.mem_of_getElem? (i := 2043) (by decide +kernel), List.mem_of_getElem? (i := 2044) (by decide +kernel)⟩
theorem lw_p114 : lw_okq (⟨"LetterPostModel", "comesInto", "(I)V"⟩, 130) := ⟨⟨by decide +kernel, by decide +kernel⟩, List.mem_of_getElem? (i := 1490) (by decide +kernel), List.mem_of_getElem? (i := 2047) (by decide +kernel), List.mem_of_getElem? (i := 2048) (by decide +kernel)⟩
theorem lw_p115 : lw_okq (⟨"LetterPostModel", "goesOn", "()Z"⟩, 130) := ⟨⟨by decide +kernel, by decide +kernel⟩, List.mem_of_getElem? (i := 1490) (by decide +kernel), List.mem_of_getElem? (i := 2051) (by decide +kernel), List.mem_of_getElem? (i := 2052) (by decide +kernel)⟩
theorem lw_p116 : lw_okq (⟨"LetterPostModel", "endsAlternative", "()V"⟩, 130) := ⟨⟨by decide +kernel, by decide +kernel⟩, List.mem_of_getElem? (i := 1490) (by decide +kernel), List.mem_of_getElem? (i := 2055) (by decide +kernel), List.mem_of_getElem? (i := 2056) (by decide +kernel)⟩
theorem lw_p117 : lw_okq (⟨"LetterPostModel", "readGuard", "()V"⟩, 130) := ⟨⟨by decide +kernel, by decide +kernel⟩, List.mem_of_getElem? (i := 1490) (by decide +kernel), List.mem_of_getElem? (i := 2059) (by decide +kernel), List.mem_of_getElem? (i := 2060) (by decide +kernel)⟩
theorem lw_p118 : lw_okq (⟨"LetterPostModel", "readSum", "(II)V"⟩, 130) := ⟨⟨by decide +kernel, by decide +kernel⟩, List.mem_of_getElem? (i := 1490) (by decide +kernel), List.mem_of_getElem? (i := 2063) (by decide +kernel), List.mem_of_getElem? (i := 2064) (by decide +kernel)⟩
theorem lw_p119 : lw_okq (⟨"LetterPostModel", "readTerm", "(I)V"⟩, 130) := ⟨⟨by decide +kernel, by decide +kernel⟩, List.mem_of_getElem? (i := 1490) (by decide +kernel), List.mem_of_getElem? (i := 2067) (by decide +kernel), List.mem_of_getElem? (i := 2068) (by decide +kernel)⟩
theorem lw_p120 : lw_okq (⟨"LetterPostModel", "boundName", "(Z)I"⟩, 130) := ⟨⟨by decide +kernel, by decide +kernel⟩, List.mem_of_getElem? (i := 1490) (by decide +kernel), List.mem_of_getElem? (i := 2071) (by decide +kernel), List.mem_of_getElem? (i := 2072) (by decide +kernel)⟩
theorem lw_p121 : lw_okq (⟨"LetterPostModel", "readAnswer", "()V"⟩, 130) := ⟨⟨by decide +kernel, by decide +kernel⟩, List.mem_of_getElem? (i := 1490) (by decide +kernel), List.mem_of_getElem? (i := 2075) (by decide +kernel), List.mem_of_getElem? (i := 2076) (by decide +kernel)⟩
theorem lw_p122 : lw_okq (⟨"LetterPostModel", "judge", "()V"⟩, 130) := ⟨⟨by decide +kernel, by decide +kernel⟩, List.mem_of_getElem? (i := 1490) (by decide +kernel), List.mem_of_getElem? (i := 2079) (by decide +kernel), List.mem_of_getElem? (i := 2080) (by decide +kernel)⟩
theorem lw_p123 : lw_okq (⟨"LetterPostModel", "judgeAnswer", "(I)V"⟩, 130) := ⟨⟨by decide +kernel, by decide +kernel⟩, List.mem_of_getElem? (i := 1490) (by decide +kernel), List.mem_of_getElem? (i := 2083) (by decide +kernel), List.mem_of_getElem? (i := 2084) (by decide +kernel)⟩
theorem lw_p124 : lw_okq (⟨"LetterPostModel", "makes", "(IIIZ)Z"⟩, 130) := ⟨⟨by decide +kernel, by decide +kernel⟩, List.mem_of_getElem? (i := 1490) (by decide +kernel), List.mem_of_getElem? (i := 2087) (by decide +kernel), List.mem_of_getElem? (i := 2088) (by decide +kernel)⟩
theorem lw_p125 : lw_okq (⟨"LetterPostModel", "layRows", "(IZ)V"⟩, 130) := ⟨⟨by decide +kernel, by decide +kernel⟩, List.mem_of_getElem? (i := 1490) (by decide +kernel), List.mem_of_getElem? (i := 2091) (by decide +kernel), List.mem_of_getElem? (i := 2092) (by decide +kernel)⟩
theorem lw_p126 : lw_okq (⟨"LetterPostModel", "layRow", "(II)V"⟩, 130) := ⟨⟨by decide +kernel, by decide +kernel⟩, List.mem_of_getElem? (i := 1490) (by decide +kernel), List.mem_of_getElem? (i := 2095) (by decide +kernel), List.mem_of_getElem? (i := 2096) (by decide +kernel)⟩
theorem lw_p127 : lw_okq (⟨"LetterPostModel", "waitAll", "(IIII)V"⟩, 130) := ⟨⟨by decide +kernel, by decide +kernel⟩, List.mem_of_getElem? (i := 1490) (by decide +kernel), List.mem_of_getElem? (i := 2099) (by decide +kernel), List.mem_of_getElem? (i := 2100) (by decide +kernel)⟩
def lw_privs_8 : List (MethodName × Nat) := [(⟨"LetterPostModel", "wanted", "()I"⟩, 130), (⟨"LetterPostModel", "readAs", "(I)V"⟩, 130), (⟨"LetterPostModel", "comesInto", "(I)V"⟩, 130), (⟨"LetterPostModel", "goesOn", "()Z"⟩, 130), (⟨"LetterPostModel", "endsAlternative", "()V"⟩, 130), (⟨"LetterPostModel", "readGuard", "()V"⟩, 130), (⟨"LetterPostModel", "readSum", "(II)V"⟩, 130), (⟨"LetterPostModel", "readTerm", "(I)V"⟩, 130), (⟨"LetterPostModel", "boundName", "(Z)I"⟩, 130), (⟨"LetterPostModel", "readAnswer", "()V"⟩, 130), (⟨"LetterPostModel", "judge", "()V"⟩, 130), (⟨"LetterPostModel", "judgeAnswer", "(I)V"⟩, 130), (⟨"LetterPostModel", "makes", "(IIIZ)Z"⟩, 130), (⟨"LetterPostModel", "layRows", "(IZ)V"⟩, 130), (⟨"LetterPostModel", "layRow", "(II)V"⟩, 130), (⟨"LetterPostModel", "waitAll", "(IIII)V"⟩, 130)]
theorem lw_r8 : ∀ q ∈ lw_privs_8, lw_okq q := List.forall_mem_cons.mpr ⟨lw_p112, List.forall_mem_cons.mpr ⟨lw_p113, List.forall_mem_cons.mpr ⟨lw_p114, List.forall_mem_cons.mpr ⟨lw_p115, List.forall_mem_cons.mpr ⟨lw_p116, List.forall_mem_cons.mpr ⟨lw_p117, List.forall_mem_cons.mpr ⟨lw_p118, List.forall_mem_cons.mpr ⟨lw_p119, List.forall_mem_cons.mpr ⟨lw_p120, List.forall_mem_cons.mpr ⟨lw_p121, List.forall_mem_cons.mpr ⟨lw_p122, List.forall_mem_cons.mpr ⟨lw_p123, List.forall_mem_cons.mpr ⟨lw_p124, List.forall_mem_cons.mpr ⟨lw_p125, List.forall_mem_cons.mpr ⟨lw_p126, List.forall_mem_cons.mpr ⟨lw_p127, fun _ h => absurd h List.not_mem_nil⟩⟩⟩⟩⟩⟩⟩⟩⟩⟩⟩⟩⟩⟩⟩⟩
theorem lw_p128 : lw_okq (⟨"LetterPostModel", "wait0", "(IIII)V"⟩, 130) := ⟨⟨by decide +kernel, by decide +kernel⟩, List.mem_of_getElem? (i := 1490) (by decide +kernel), List.mem_of_getElem? (i := 2103) (by decide +kernel), List.mem_of_getElem? (i := 2104) (by decide +kernel)⟩
theorem lw_p129 : lw_okq (⟨"LetterPostModel", "nextPattern", "()I"⟩, 130) := ⟨⟨by decide +kernel, by decide +kernel⟩, List.mem_of_getElem? (i := 1490) (by decide +kernel), List.mem_of_getElem? (i := 2107) (by decide +kernel), List.mem_of_getElem? (i := 2108) (by decide +kernel)⟩
theorem lw_p130 : lw_okq (⟨"LetterPostModel", "notes", "(II)V"⟩, 130) := ⟨⟨by decide +kernel, by decide +kernel⟩, List.mem_of_getElem? (i := 1490) (by decide +kernel), List.mem_of_getElem? (i := 2111) (by decide +kernel), List.mem_of_getElem? (i := 2112) (by decide +kernel)⟩
theorem lw_p131 : lw_okq (⟨"LetterPostModel", "settle", "(II)V"⟩, 130) := ⟨⟨by decide +kernel, by decide +kernel⟩, List.mem_of_getElem? (i := 1490) (by decide +kernel), List.mem_of_getElem? (i := 2115) (by decide +kernel), List.mem_of_getElem? (i := 2116) (by decide +kernel)⟩
theorem lw_p132 : lw_okq (⟨"LetterPostModel", "layKnown", "(I)V"⟩, 130) := ⟨⟨by decide +kernel, by decide +kernel⟩, List.mem_of_getElem? (i := 1490) (by decide +kernel), List.mem_of_getElem? (i := 2119) (by decide +kernel), List.mem_of_getElem? (i := 2120) (by decide +kernel)⟩
theorem lw_p133 : lw_okq (⟨"LetterPostModel", "sift", "()I"⟩, 130) := ⟨⟨by decide +kernel, by decide +kernel⟩, List.mem_of_getElem? (i := 1490) (by decide +kernel), List.mem_of_getElem? (i := 2123) (by decide +kernel), List.mem_of_getElem? (i := 2124) (by decide +kernel)⟩
theorem lw_p134 : lw_okq (⟨"LetterPostModel", "stands", "(I)I"⟩, 130) := ⟨⟨by decide +kernel, by decide +kernel⟩, List.mem_of_getElem? (i := 1490) (by decide +kernel), List.mem_of_getElem? (i := 2127) (by decide +kernel), List.mem_of_getElem? (i := 2128) (by decide +kernel)⟩
theorem lw_p135 : lw_okq (⟨"LetterPostModel", "asksAt", "(II)I"⟩, 130) := ⟨⟨by decide +kernel, by decide +kernel⟩, List.mem_of_getElem? (i := 1490) (by decide +kernel), List.mem_of_getElem? (i := 2131) (by decide +kernel), List.mem_of_getElem? (i := 2132) (by decide +kernel)⟩
theorem lw_p136 : lw_okq (⟨"LetterPostModel", "isLeft", "(II)Z"⟩, 130) := ⟨⟨by decide +kernel, by decide +kernel⟩, List.mem_of_getElem? (i := 1490) (by decide +kernel), List.mem_of_getElem? (i := 2135) (by decide +kernel), List.mem_of_getElem? (i := 2136) (by decide +kernel)⟩
theorem lw_p137 : lw_okq (⟨"LetterPostModel", "layBranches", "(II)V"⟩, 130) := ⟨⟨by decide +kernel, by decide +kernel⟩, List.mem_of_getElem? (i := 1490) (by decide +kernel), List.mem_of_getElem? (i := 2139) (by decide +kernel), List.mem_of_getElem? (i := 2140) (by decide +kernel)⟩
theorem lw_p138 : lw_okq (⟨"LetterPostModel", "oneBranch", "(IIJZ)V"⟩, 130) := ⟨⟨by decide +kernel, by decide +kernel⟩, List.mem_of_getElem? (i := 1490) (by decide +kernel), List.mem_of_getElem? (i := 2143) (by decide +kernel), List.mem_of_getElem? (i := 2144) (by decide +kernel)⟩
theorem lw_p139 : lw_okq (⟨"LetterPostModel", "cut", "(J)V"⟩, 130) := ⟨⟨by decide +kernel, by decide +kernel⟩, List.mem_of_getElem? (i := 1490) (by decide +kernel), List.mem_of_getElem? (i := 2147) (by decide +kernel), List.mem_of_getElem? (i := 2148) (by decide +kernel)⟩
theorem lw_p140 : lw_okq (⟨"LetterPostModel", "wants", "(J)V"⟩, 130) := ⟨⟨by decide +kernel, by decide +kernel⟩, List.mem_of_getElem? (i := 1490) (by decide +kernel), List.mem_of_getElem? (i := 2152) (by decide +kernel), List.mem_of_getElem? (i := 2153) (by decide +kernel)⟩
theorem lw_p141 : lw_okq (⟨"LetterPostModel", "parts", "()V"⟩, 130) := ⟨⟨by decide +kernel, by decide +kernel⟩, List.mem_of_getElem? (i := 1490) (by decide +kernel), List.mem_of_getElem? (i := 2156) (by decide +kernel), List.mem_of_getElem? (i := 2157) (by decide +kernel)⟩
theorem lw_p142 : lw_okq (⟨"LetterPostModel", "layAhead", "(I)V"⟩, 130) := ⟨⟨by decide +kernel, by decide +kernel⟩, List.mem_of_getElem? (i := 1490) (by decide +kernel), List.mem_of_getElem? (i := 2161) (by decide +kernel), List.mem_of_getElem? (i := 2162) (by decide +kernel)⟩
theorem lw_p143 : lw_okq (⟨"LetterPostModel", "isFunction", "(I)Z"⟩, 130) := ⟨⟨by decide +kernel, by decide +kernel⟩, List.mem_of_getElem? (i := 1490) (by decide +kernel), List.mem_of_getElem? (i := 2177) (by decide +kernel), List.mem_of_getElem? (i := 2178) (by decide +kernel)⟩
def lw_privs_9 : List (MethodName × Nat) := [(⟨"LetterPostModel", "wait0", "(IIII)V"⟩, 130), (⟨"LetterPostModel", "nextPattern", "()I"⟩, 130), (⟨"LetterPostModel", "notes", "(II)V"⟩, 130), (⟨"LetterPostModel", "settle", "(II)V"⟩, 130), (⟨"LetterPostModel", "layKnown", "(I)V"⟩, 130), (⟨"LetterPostModel", "sift", "()I"⟩, 130), (⟨"LetterPostModel", "stands", "(I)I"⟩, 130), (⟨"LetterPostModel", "asksAt", "(II)I"⟩, 130), (⟨"LetterPostModel", "isLeft", "(II)Z"⟩, 130), (⟨"LetterPostModel", "layBranches", "(II)V"⟩, 130), (⟨"LetterPostModel", "oneBranch", "(IIJZ)V"⟩, 130), (⟨"LetterPostModel", "cut", "(J)V"⟩, 130), (⟨"LetterPostModel", "wants", "(J)V"⟩, 130), (⟨"LetterPostModel", "parts", "()V"⟩, 130), (⟨"LetterPostModel", "layAhead", "(I)V"⟩, 130), (⟨"LetterPostModel", "isFunction", "(I)Z"⟩, 130)]
theorem lw_r9 : ∀ q ∈ lw_privs_9, lw_okq q := List.forall_mem_cons.mpr ⟨lw_p128, List.forall_mem_cons.mpr ⟨lw_p129, List.forall_mem_cons.mpr ⟨lw_p130, List.forall_mem_cons.mpr ⟨lw_p131, List.forall_mem_cons.mpr ⟨lw_p132, List.forall_mem_cons.mpr ⟨lw_p133, List.forall_mem_cons.mpr ⟨lw_p134, List.forall_mem_cons.mpr ⟨lw_p135, List.forall_mem_cons.mpr ⟨lw_p136, List.forall_mem_cons.mpr ⟨lw_p137, List.forall_mem_cons.mpr ⟨lw_p138, List.forall_mem_cons.mpr ⟨lw_p139, List.forall_mem_cons.mpr ⟨lw_p140, List.forall_mem_cons.mpr ⟨lw_p141, List.forall_mem_cons.mpr ⟨lw_p142, List.forall_mem_cons.mpr ⟨lw_p143, fun _ h => absurd h List.not_mem_nil⟩⟩⟩⟩⟩⟩⟩⟩⟩⟩⟩⟩⟩⟩⟩⟩
theorem lw_p144 : lw_okq (⟨"LetterPostModel", "isKind", "(I)Z"⟩, 130) := ⟨⟨by decide +kernel, by decide +kernel⟩, List.mem_of_getElem? (i := 1490) (by decide +kernel), List.mem_of_getElem? (i := 2189) (by decide +kernel), List.mem_of_getElem? (i := 2190) (by decide +kernel)⟩
theorem lw_p145 : lw_okq (⟨"LetterPostModel", "depth", "(I)I"⟩, 130) := ⟨⟨by decide +kernel, by decide +kernel⟩, List.mem_of_getElem? (i := 1490) (by decide +kernel), List.mem_of_getElem? (i := 2201) (by decide +kernel), List.mem_of_getElem? (i := 2202) (by decide +kernel)⟩
theorem lw_p146 : lw_okq (⟨"LetterPostModel", "newValue", "(IIJ)I"⟩, 130) := ⟨⟨by decide +kernel, by decide +kernel⟩, List.mem_of_getElem? (i := 1490) (by decide +kernel), List.mem_of_getElem? (i := 2226) (by decide +kernel), List.mem_of_getElem? (i := 2227) (by decide +kernel)⟩
theorem lw_p147 : lw_okq (⟨"LetterPostModel", "isValue", "(I)Z"⟩, 130) := ⟨⟨by decide +kernel, by decide +kernel⟩, List.mem_of_getElem? (i := 1490) (by decide +kernel), List.mem_of_getElem? (i := 2246) (by decide +kernel), List.mem_of_getElem? (i := 2247) (by decide +kernel)⟩
theorem lw_p148 : lw_okq (⟨"LetterPostModel", "isOfSort", "(II)Z"⟩, 130) := ⟨⟨by decide +kernel, by decide +kernel⟩, List.mem_of_getElem? (i := 1490) (by decide +kernel), List.mem_of_getElem? (i := 2250) (by decide +kernel), List.mem_of_getElem? (i := 2251) (by decide +kernel)⟩
theorem lw_p149 : lw_okq (⟨"LetterPostModel", "runs", "(IIIIZ)I"⟩, 130) := ⟨⟨by decide +kernel, by decide +kernel⟩, List.mem_of_getElem? (i := 1490) (by decide +kernel), List.mem_of_getElem? (i := 2267) (by decide +kernel), List.mem_of_getElem? (i := 2268) (by decide +kernel)⟩
theorem lw_p150 : lw_okq (⟨"LetterPostModel", "byTree", "(I)I"⟩, 130) := ⟨⟨by decide +kernel, by decide +kernel⟩, List.mem_of_getElem? (i := 1490) (by decide +kernel), List.mem_of_getElem? (i := 2271) (by decide +kernel), List.mem_of_getElem? (i := 2272) (by decide +kernel)⟩
theorem lw_p151 : lw_okq (⟨"LetterPostModel", "binds0", "(II)Z"⟩, 130) := ⟨⟨by decide +kernel, by decide +kernel⟩, List.mem_of_getElem? (i := 1490) (by decide +kernel), List.mem_of_getElem? (i := 2275) (by decide +kernel), List.mem_of_getElem? (i := 2276) (by decide +kernel)⟩
theorem lw_p152 : lw_okq (⟨"LetterPostModel", "fitsHere", "(II)Z"⟩, 130) := ⟨⟨by decide +kernel, by decide +kernel⟩, List.mem_of_getElem? (i := 1490) (by decide +kernel), List.mem_of_getElem? (i := 2279) (by decide +kernel), List.mem_of_getElem? (i := 2280) (by decide +kernel)⟩
theorem lw_p153 : lw_okq (⟨"LetterPostModel", "guarded", "(I)I"⟩, 130) := ⟨⟨by decide +kernel, by decide +kernel⟩, List.mem_of_getElem? (i := 1490) (by decide +kernel), List.mem_of_getElem? (i := 2283) (by decide +kernel), List.mem_of_getElem? (i := 2284) (by decide +kernel)⟩
theorem lw_p154 : lw_okq (⟨"LetterPostModel", "isThrown", "(II)Z"⟩, 130) := ⟨⟨by decide +kernel, by decide +kernel⟩, List.mem_of_getElem? (i := 1490) (by decide +kernel), List.mem_of_getElem? (i := 2287) (by decide +kernel), List.mem_of_getElem? (i := 2288) (by decide +kernel)⟩
theorem lw_p155 : lw_okq (⟨"LetterPostModel", "term", "(I)I"⟩, 130) := ⟨⟨by decide +kernel, by decide +kernel⟩, List.mem_of_getElem? (i := 1490) (by decide +kernel), List.mem_of_getElem? (i := 2291) (by decide +kernel), List.mem_of_getElem? (i := 2292) (by decide +kernel)⟩
theorem lw_p156 : lw_okq (⟨"LetterPostModel", "sum", "(II)I"⟩, 130) := ⟨⟨by decide +kernel, by decide +kernel⟩, List.mem_of_getElem? (i := 1490) (by decide +kernel), List.mem_of_getElem? (i := 2295) (by decide +kernel), List.mem_of_getElem? (i := 2296) (by decide +kernel)⟩
theorem lw_p157 : lw_okq (⟨"LetterPostModel", "standing", "(I)I"⟩, 130) := ⟨⟨by decide +kernel, by decide +kernel⟩, List.mem_of_getElem? (i := 1490) (by decide +kernel), List.mem_of_getElem? (i := 2299) (by decide +kernel), List.mem_of_getElem? (i := 2300) (by decide +kernel)⟩
theorem lw_p158 : lw_okq (⟨"LetterPostModel", "isBranch", "(III)Z"⟩, 130) := ⟨⟨by decide +kernel, by decide +kernel⟩, List.mem_of_getElem? (i := 1490) (by decide +kernel), List.mem_of_getElem? (i := 2303) (by decide +kernel), List.mem_of_getElem? (i := 2304) (by decide +kernel)⟩
theorem lw_p159 : lw_okq (⟨"LetterPostModel", "byRules", "(I)I"⟩, 130) := ⟨⟨by decide +kernel, by decide +kernel⟩, List.mem_of_getElem? (i := 1490) (by decide +kernel), List.mem_of_getElem? (i := 2307) (by decide +kernel), List.mem_of_getElem? (i := 2308) (by decide +kernel)⟩
def lw_privs_10 : List (MethodName × Nat) := [(⟨"LetterPostModel", "isKind", "(I)Z"⟩, 130), (⟨"LetterPostModel", "depth", "(I)I"⟩, 130), (⟨"LetterPostModel", "newValue", "(IIJ)I"⟩, 130), (⟨"LetterPostModel", "isValue", "(I)Z"⟩, 130), (⟨"LetterPostModel", "isOfSort", "(II)Z"⟩, 130), (⟨"LetterPostModel", "runs", "(IIIIZ)I"⟩, 130), (⟨"LetterPostModel", "byTree", "(I)I"⟩, 130), (⟨"LetterPostModel", "binds0", "(II)Z"⟩, 130), (⟨"LetterPostModel", "fitsHere", "(II)Z"⟩, 130), (⟨"LetterPostModel", "guarded", "(I)I"⟩, 130), (⟨"LetterPostModel", "isThrown", "(II)Z"⟩, 130), (⟨"LetterPostModel", "term", "(I)I"⟩, 130), (⟨"LetterPostModel", "sum", "(II)I"⟩, 130), (⟨"LetterPostModel", "standing", "(I)I"⟩, 130), (⟨"LetterPostModel", "isBranch", "(III)Z"⟩, 130), (⟨"LetterPostModel", "byRules", "(I)I"⟩, 130)]
theorem lw_r10 : ∀ q ∈ lw_privs_10, lw_okq q := List.forall_mem_cons.mpr ⟨lw_p144, List.forall_mem_cons.mpr ⟨lw_p145, List.forall_mem_cons.mpr ⟨lw_p146, List.forall_mem_cons.mpr ⟨lw_p147, List.forall_mem_cons.mpr ⟨lw_p148, List.forall_mem_cons.mpr ⟨lw_p149, List.forall_mem_cons.mpr ⟨lw_p150, List.forall_mem_cons.mpr ⟨lw_p151, List.forall_mem_cons.mpr ⟨lw_p152, List.forall_mem_cons.mpr ⟨lw_p153, List.forall_mem_cons.mpr ⟨lw_p154, List.forall_mem_cons.mpr ⟨lw_p155, List.forall_mem_cons.mpr ⟨lw_p156, List.forall_mem_cons.mpr ⟨lw_p157, List.forall_mem_cons.mpr ⟨lw_p158, List.forall_mem_cons.mpr ⟨lw_p159, fun _ h => absurd h List.not_mem_nil⟩⟩⟩⟩⟩⟩⟩⟩⟩⟩⟩⟩⟩⟩⟩⟩
def lw_privs : List (MethodName × Nat) := lw_privs_1 ++ (lw_privs_2 ++ (lw_privs_3 ++ (lw_privs_4 ++ (lw_privs_5 ++ (lw_privs_6 ++ (lw_privs_7 ++ (lw_privs_8 ++ (lw_privs_9 ++ (lw_privs_10)))))))))
def lw_tbl : List Cond := k2_sels lw_privs ++ tables_1
theorem lw_privs_ok : ∀ q ∈ lw_privs, lw_okq q := by
  show ∀ q ∈ lw_privs_1 ++ (lw_privs_2 ++ (lw_privs_3 ++ (lw_privs_4 ++ (lw_privs_5 ++ (lw_privs_6 ++ (lw_privs_7 ++ (lw_privs_8 ++ (lw_privs_9 ++ (lw_privs_10))))))))), lw_okq q
  exact List.forall_mem_append.mpr ⟨lw_r1, List.forall_mem_append.mpr ⟨lw_r2, List.forall_mem_append.mpr ⟨lw_r3, List.forall_mem_append.mpr ⟨lw_r4, List.forall_mem_append.mpr ⟨lw_r5, List.forall_mem_append.mpr ⟨lw_r6, List.forall_mem_append.mpr ⟨lw_r7, List.forall_mem_append.mpr ⟨lw_r8, List.forall_mem_append.mpr ⟨lw_r9, lw_r10⟩⟩⟩⟩⟩⟩⟩⟩⟩
-- ===== end of PART A; then your names; then what follows =====
end
section
/-- values with addresses of their own; g says where each lies -/
def am_v (g : Nat → Nat) (v : Value) : Value := match v with
  | .ref a => .ref (g a)
  | .int x => .int x
  | .long x => .long x
  | .float x => .float x
  | .double x => .double x
  | .null => .null
  | .retAddr x => .retAddr x
def am_l (g : Nat → Nat) (q : Nat × Value) : Nat × Value := (q.1, am_v g q.2)
theorem am_v_cat (g : Nat → Nat) (v : Value) : (am_v g v).category = v.category := by cases v <;> rfl
def am_ld (lv : List (Nat × Value)) (i : Nat) : Option Value := (lv.find? (fun q => q.1 == i)).map Prod.snd
def am_p1 (lv : List (Nat × Value)) (i : Nat) (v : Value) : List (Nat × Value) := (i, v) :: lv.filter (fun q => !(q.1 == i) && !(q.1 + 1 == i && q.2.category == 2))
def am_p2 (lv : List (Nat × Value)) (i : Nat) (v : Value) : List (Nat × Value) := (i, v) :: lv.filter (fun q => !(q.1 == i) && (!(q.1 == i + 1) && !(q.1 + 1 == i && q.2.category == 2)))
theorem am_ld_ok {lv : List (Nat × Value)} {i : Nat} {v : Value} {g : Nat → Nat} {ls : Array Slot} {nL : Nat} (h : am_ld lv i = some v) (hl : lv_has ls nL (lv.map (am_l g))) : ls[i]? = some (.val (am_v g v)) := by
  unfold am_ld at h
  cases hf : lv.find? (fun q => q.1 == i) with
  | none => rw [hf] at h; cases h
  | some q =>
    rw [hf] at h
    cases h
    have h1 := List.find?_some hf
    have h2 := List.mem_of_find?_eq_some hf
    have h3 : q.1 = i := by simpa using h1
    have h4 := hl.2.2 (am_l g q) (List.mem_map_of_mem h2)
    rw [← h3]
    exact h4
theorem am_ld_mem {lv : List (Nat × Value)} {i : Nat} {v : Value} {g : Nat → Nat} (h : am_ld lv i = some v) : ∃ k : Nat, (lv.map (am_l g))[k]? = some (i, am_v g v) := by
  unfold am_ld at h
  cases hf : lv.find? (fun q => q.1 == i) with
  | none => rw [hf] at h; cases h
  | some q =>
    rw [hf] at h
    cases h
    have h1 := List.find?_some hf
    have h2 := List.mem_of_find?_eq_some hf
    have h3 : q.1 = i := by simpa using h1
    obtain ⟨k, hk⟩ := List.getElem?_of_mem (List.mem_map_of_mem (f := am_l g) h2)
    exact ⟨k, by rw [hk, ← h3]; rfl⟩
theorem am_p1_map (g : Nat → Nat) (lv : List (Nat × Value)) (i : Nat) (v : Value) : (am_p1 lv i v).map (am_l g) = (i, am_v g v) :: (lv.map (am_l g)).filter (fun q => !(q.1 == i) && !(q.1 + 1 == i && q.2.category == 2)) := by
  unfold am_p1
  rw [List.map_cons, List.filter_map]
  congr 2
  apply congrArg (fun P => List.filter P lv)
  funext q
  simp [am_l, am_v_cat]
theorem am_p2_map (g : Nat → Nat) (lv : List (Nat × Value)) (i : Nat) (v : Value) : (am_p2 lv i v).map (am_l g) = (i, am_v g v) :: (lv.map (am_l g)).filter (fun q => !(q.1 == i) && (!(q.1 == i + 1) && !(q.1 + 1 == i && q.2.category == 2))) := by
  unfold am_p2
  rw [List.map_cons, List.filter_map]
  congr 2
  apply congrArg (fun P => List.filter P lv)
  funext q
  simp [am_l, am_v_cat]
abbrev am_X : Type := Nat × List (Nat × Value) × List Value
def am_jp (pc : Nat) (off : Int) : Option Nat := if 0 ≤ (pc : Int) + off then some ((pc : Int) + off).toNat else none
theorem am_jp_ok {pc t : Nat} {off : Int} (h : am_jp pc off = some t) : (pc : Int) + off = (t : Int) := by
  unfold am_jp at h
  split at h
  · cases h; omega
  · cases h
def am_ldi (lv : List (Nat × Value)) (st : List Value) (i t : Nat) : Option am_X := match am_ld lv i with
  | some (.int x) => some (t, lv, .int x :: st)
  | _ => none
def am_ldl (lv : List (Nat × Value)) (st : List Value) (i t : Nat) : Option am_X := match am_ld lv i with
  | some (.long x) => some (t, lv, .long x :: st)
  | _ => none
def am_lda (lv : List (Nat × Value)) (st : List Value) (i t : Nat) : Option am_X := match am_ld lv i with
  | some (.ref x) => some (t, lv, .ref x :: st)
  | some .null => some (t, lv, .null :: st)
  | _ => none
def am_sti (nL : Nat) (lv : List (Nat × Value)) (st : List Value) (i t : Nat) : Option am_X := match st with
  | .int x :: r => if i < nL then some (t, am_p1 lv i (.int x), r) else none
  | _ => none
def am_stl (nL : Nat) (lv : List (Nat × Value)) (st : List Value) (i t : Nat) : Option am_X := match st with
  | .long x :: r => if i + 1 < nL then some (t, am_p2 lv i (.long x), r) else none
  | _ => none
def am_sta (nL : Nat) (lv : List (Nat × Value)) (st : List Value) (i t : Nat) : Option am_X := match st with
  | .ref x :: r => if i < nL then some (t, am_p1 lv i (.ref x), r) else none
  | .null :: r => if i < nL then some (t, am_p1 lv i .null, r) else none
  | _ => none
def am_inc (nL : Nat) (lv : List (Nat × Value)) (st : List Value) (i : Nat) (n : Int) (t : Nat) : Option am_X := match am_ld lv i with
  | some (.int x) => if i < nL then some (t, am_p1 lv i (.int (x + Int32.ofInt n)), st) else none
  | _ => none
def am_i1 (f : Int32 → Int32) (lv : List (Nat × Value)) (st : List Value) (t : Nat) : Option am_X := match st with
  | .int x :: r => some (t, lv, .int (f x) :: r)
  | _ => none
def am_i2 (f : Int32 → Int32 → Int32) (lv : List (Nat × Value)) (st : List Value) (t : Nat) : Option am_X := match st with
  | .int y :: .int x :: r => some (t, lv, .int (f x y) :: r)
  | _ => none
def am_i3 (f : Int32 → Int32 → Int32) (lv : List (Nat × Value)) (st : List Value) (t : Nat) : Option am_X := match st with
  | .int y :: .int x :: r => if y = 0 then none else some (t, lv, .int (f x y) :: r)
  | _ => none
def am_l1 (f : Int64 → Int64) (lv : List (Nat × Value)) (st : List Value) (t : Nat) : Option am_X := match st with
  | .long x :: r => some (t, lv, .long (f x) :: r)
  | _ => none
def am_l2 (f : Int64 → Int64 → Int64) (lv : List (Nat × Value)) (st : List Value) (t : Nat) : Option am_X := match st with
  | .long y :: .long x :: r => some (t, lv, .long (f x y) :: r)
  | _ => none
def am_ls (f : Int64 → Int32 → Int64) (lv : List (Nat × Value)) (st : List Value) (t : Nat) : Option am_X := match st with
  | .int y :: .long x :: r => some (t, lv, .long (f x y) :: r)
  | _ => none
def am_pu (nL : Nat) (i : Instr) (pc : Nat) (lv : List (Nat × Value)) (st : List Value) : Option am_X := match i with
  | .iconst n => some (pc + 1, lv, .int (Int32.ofInt n) :: st)
  | .bipush n => some (pc + 2, lv, .int (Int8.ofInt n).toInt32 :: st)
  | .sipush n => some (pc + 3, lv, .int (Int16.ofInt n).toInt32 :: st)
  | .lconst n => some (pc + 1, lv, .long (Int64.ofNat (n : Nat)) :: st)
  | .aconst_null => some (pc + 1, lv, .null :: st)
  | .iload_n k => am_ldi lv st (k : Nat) (pc + 1)
  | .iload k => am_ldi lv st k (pc + 2)
  | .lload_n k => am_ldl lv st (k : Nat) (pc + 1)
  | .lload k => am_ldl lv st k (pc + 2)
  | .aload_n k => am_lda lv st (k : Nat) (pc + 1)
  | .aload k => am_lda lv st k (pc + 2)
  | .istore_n k => am_sti nL lv st (k : Nat) (pc + 1)
  | .istore k => am_sti nL lv st k (pc + 2)
  | .lstore_n k => am_stl nL lv st (k : Nat) (pc + 1)
  | .lstore k => am_stl nL lv st k (pc + 2)
  | .astore_n k => am_sta nL lv st (k : Nat) (pc + 1)
  | .astore k => am_sta nL lv st k (pc + 2)
  | .iinc k n => am_inc nL lv st k n (pc + 3)
  | .iadd => am_i2 (fun x y => x + y) lv st (pc + 1)
  | .isub => am_i2 (fun x y => x - y) lv st (pc + 1)
  | .imul => am_i2 (fun x y => x * y) lv st (pc + 1)
  | .iand => am_i2 (fun x y => x &&& y) lv st (pc + 1)
  | .ior => am_i2 (fun x y => x ||| y) lv st (pc + 1)
  | .ixor => am_i2 (fun x y => x ^^^ y) lv st (pc + 1)
  | .ishl => am_i2 (fun x y => x <<< (y &&& 31)) lv st (pc + 1)
  | .ishr => am_i2 (fun x y => x >>> (y &&& 31)) lv st (pc + 1)
  | .iushr => am_i2 (fun x y => (x.toUInt32 >>> (y.toUInt32 &&& Int32.toUInt32 31)).toInt32) lv st (pc + 1)
  | .idiv => am_i3 (fun x y => x / y) lv st (pc + 1)
  | .irem => am_i3 (fun x y => x - x / y * y) lv st (pc + 1)
  | .ineg => am_i1 (fun x => -x) lv st (pc + 1)
  | .i2b => am_i1 (fun x => x.toInt8.toInt32) lv st (pc + 1)
  | .i2s => am_i1 (fun x => x.toInt16.toInt32) lv st (pc + 1)
  | .i2c => am_i1 (fun x => (x.toUInt32 % 65536).toInt32) lv st (pc + 1)
  | .ladd => am_l2 (fun x y => x + y) lv st (pc + 1)
  | .lsub => am_l2 (fun x y => x - y) lv st (pc + 1)
  | .lmul => am_l2 (fun x y => x * y) lv st (pc + 1)
  | .land => am_l2 (fun x y => x &&& y) lv st (pc + 1)
  | .lor => am_l2 (fun x y => x ||| y) lv st (pc + 1)
  | .lxor => am_l2 (fun x y => x ^^^ y) lv st (pc + 1)
  | .lneg => am_l1 (fun x => -x) lv st (pc + 1)
  | .lshl => am_ls (fun x y => x <<< (y.toInt64 &&& 63)) lv st (pc + 1)
  | .lshr => am_ls (fun x y => x >>> (y.toInt64 &&& 63)) lv st (pc + 1)
  | .lushr => am_ls (fun x y => (x.toUInt64 >>> (y.toInt64.toUInt64 &&& Int64.toUInt64 63)).toInt64) lv st (pc + 1)
  | .i2l => (match st with | .int x :: r => some (pc + 1, lv, .long x.toInt64 :: r) | _ => none)
  | .l2i => (match st with | .long x :: r => some (pc + 1, lv, .int x.toInt32 :: r) | _ => none)
  | .lcmp => (match st with | .long y :: .long x :: r => some (pc + 1, lv, .int (lg_cmp x y) :: r) | _ => none)
  | .dup => (match st with | a :: r => if a.category = 1 then some (pc + 1, lv, a :: a :: r) else none | _ => none)
  | .pop => (match st with | a :: r => if a.category = 1 then some (pc + 1, lv, r) else none | _ => none)
  | .dup_x1 => (match st with | a :: b :: r => if a.category = 1 ∧ b.category = 1 then some (pc + 1, lv, a :: b :: a :: r) else none | _ => none)
  | .dup2 => (match st with | a :: b :: r => if a.category = 1 ∧ b.category = 1 then some (pc + 1, lv, a :: b :: a :: b :: r) else none | _ => none)
  | .goto off => (match am_jp pc off with | some t => some (t, lv, st) | none => none)
  | .ifCond .eq off => (match st, am_jp pc off with | .int x :: r, some t => if x = 0 then some (t, lv, r) else some (pc + 3, lv, r) | _, _ => none)
  | .ifCond .ne off => (match st, am_jp pc off with | .int x :: r, some t => if x = 0 then some (pc + 3, lv, r) else some (t, lv, r) | _, _ => none)
  | .ifCond .lt off => (match st, am_jp pc off with | .int x :: r, some t => if x < 0 then some (t, lv, r) else some (pc + 3, lv, r) | _, _ => none)
  | .ifCond .ge off => (match st, am_jp pc off with | .int x :: r, some t => if 0 ≤ x then some (t, lv, r) else some (pc + 3, lv, r) | _, _ => none)
  | .ifCond .gt off => (match st, am_jp pc off with | .int x :: r, some t => if 0 < x then some (t, lv, r) else some (pc + 3, lv, r) | _, _ => none)
  | .ifCond .le off => (match st, am_jp pc off with | .int x :: r, some t => if x ≤ 0 then some (t, lv, r) else some (pc + 3, lv, r) | _, _ => none)
  | .if_icmp .eq off => (match st, am_jp pc off with | .int y :: .int x :: r, some t => if x = y then some (t, lv, r) else some (pc + 3, lv, r) | _, _ => none)
  | .if_icmp .ne off => (match st, am_jp pc off with | .int y :: .int x :: r, some t => if x = y then some (pc + 3, lv, r) else some (t, lv, r) | _, _ => none)
  | .if_icmp .lt off => (match st, am_jp pc off with | .int y :: .int x :: r, some t => if x < y then some (t, lv, r) else some (pc + 3, lv, r) | _, _ => none)
  | .if_icmp .ge off => (match st, am_jp pc off with | .int y :: .int x :: r, some t => if y ≤ x then some (t, lv, r) else some (pc + 3, lv, r) | _, _ => none)
  | .if_icmp .gt off => (match st, am_jp pc off with | .int y :: .int x :: r, some t => if y < x then some (t, lv, r) else some (pc + 3, lv, r) | _, _ => none)
  | .if_icmp .le off => (match st, am_jp pc off with | .int y :: .int x :: r, some t => if x ≤ y then some (t, lv, r) else some (pc + 3, lv, r) | _, _ => none)
  | .ifnull off => (match st, am_jp pc off with | .null :: r, some t => some (t, lv, r) | .ref _ :: r, _ => some (pc + 3, lv, r) | _, _ => none)
  | .ifnonnull off => (match st, am_jp pc off with | .ref _ :: r, some t => some (t, lv, r) | .null :: r, _ => some (pc + 3, lv, r) | _, _ => none)
  | .if_acmp .eq off => (match st, am_jp pc off with | .ref y :: .ref x :: r, some t => if x = y then some (t, lv, r) else some (pc + 3, lv, r) | .null :: .ref _ :: r, some t => some (pc + 3, lv, r) | .ref _ :: .null :: r, some t => some (pc + 3, lv, r) | .null :: .null :: r, some t => some (t, lv, r) | _, _ => none)
  | .if_acmp .ne off => (match st, am_jp pc off with | .ref y :: .ref x :: r, some t => if x = y then some (pc + 3, lv, r) else some (t, lv, r) | .null :: .ref _ :: r, some t => some (t, lv, r) | .ref _ :: .null :: r, some t => some (t, lv, r) | .null :: .null :: r, some t => some (pc + 3, lv, r) | _, _ => none)
  | .tableswitch d lo hi offs => (match st with | .int x :: r => if x.toInt < lo ∨ hi < x.toInt then (match am_jp pc d with | some t => some (t, lv, r) | none => none) else (match offs[(x.toInt - lo).toNat]? with | some off => (match am_jp pc off with | some t => some (t, lv, r) | none => none) | none => none) | _ => none)
  | .lookupswitch d ps => (match st with | .int x :: r => if (ps.toList.zip (ps.toList.drop 1)).all (fun q => decide (q.1.1 < q.2.1)) = true then (match am_jp pc (Op.lookupswitch.offset ps.toList d x.toInt) with | some t => some (t, lv, r) | none => none) else none | _ => none)
  | _ => none
def am_ln (i : Instr) : Nat := match i with
  | .iconst n => 1
  | .bipush n => 2
  | .sipush n => 3
  | .lconst n => 1
  | .aconst_null => 1
  | .iload_n k => 1
  | .iload k => 2
  | .lload_n k => 1
  | .lload k => 2
  | .aload_n k => 1
  | .aload k => 2
  | .istore_n k => 1
  | .istore k => 2
  | .lstore_n k => 1
  | .lstore k => 2
  | .astore_n k => 1
  | .astore k => 2
  | .iinc k n => 3
  | .iadd => 1
  | .isub => 1
  | .imul => 1
  | .iand => 1
  | .ior => 1
  | .ixor => 1
  | .ishl => 1
  | .ishr => 1
  | .iushr => 1
  | .idiv => 1
  | .irem => 1
  | .ineg => 1
  | .i2b => 1
  | .i2s => 1
  | .i2c => 1
  | .ladd => 1
  | .lsub => 1
  | .lmul => 1
  | .land => 1
  | .lor => 1
  | .lxor => 1
  | .lneg => 1
  | .lshl => 1
  | .lshr => 1
  | .lushr => 1
  | .i2l => 1
  | .l2i => 1
  | .lcmp => 1
  | .dup => 1
  | .pop => 1
  | .dup_x1 => 1
  | .dup2 => 1
  | .goto off => 3
  | .ifCond .eq off => 3
  | .ifCond .ne off => 3
  | .ifCond .lt off => 3
  | .ifCond .ge off => 3
  | .ifCond .gt off => 3
  | .ifCond .le off => 3
  | .if_icmp .eq off => 3
  | .if_icmp .ne off => 3
  | .if_icmp .lt off => 3
  | .if_icmp .ge off => 3
  | .if_icmp .gt off => 3
  | .if_icmp .le off => 3
  | .ifnull off => 3
  | .ifnonnull off => 3
  | .if_acmp .eq off => 3
  | .if_acmp .ne off => 3
  | .getfield _ => 3
  | .putfield _ => 3
  | .iaload => 1
  | .laload => 1
  | .baload => 1
  | .aaload => 1
  | .iastore => 1
  | .lastore => 1
  | .bastore => 1
  | .aastore => 1
  | .arraylength => 1
  | .new _ => 3
  | .newarray _ => 2
  | .anewarray _ => 3
  | .ldc _ => 2
  | .ldc2_w _ => 3
  | .getstatic _ => 3
  | .invokevirtual _ => 3
  | .invokestatic _ => 3
  | .invokespecial _ => 3
  | .ireturn => 1
  | .lreturn => 1
  | .areturn => 1
  | .return_ => 1
  | _ => 0
section AM1
variable {p : Program} {l : Launch} {e : Env} {R : Room} {s : State} {m : MethodId} {args : Array Value} {below : List Frame} {meth : Method} {c : Code} {H : Heap} {locs : List Loc} {cells slots : Nat} {Q : State → Prop}
variable {cc : ByteArray} {pc nL pc2 : Nat} {ls : Array Slot} {lv lv2 : List (Nat × Value)} {st st2 : List Value} {g : Nat → Nat}
theorem am_s0 {n : Int} (hx : p.tables.exec = Jvm.exec) (hb : c.code = cc) (hg : ∀ x y, g x = g y → x = y) (hd : decode cc pc = .ok (.iconst n, 1)) (h : some (pc + 1, lv, .int (Int32.ofInt n) :: st) = some (pc2, lv2, st2)) (hl : lv_has ls nL (lv.map (am_l g))) (K : ∀ ls2 : Array Slot, lv_has ls2 nL (lv2.map (am_l g)) → W p l e R s m args below meth c H locs cells slots Q (F0 m pc2 ls2 (st2.map (am_v g)))) : W p l e R s m args below meth c H locs cells slots Q (F0 m pc ls (st.map (am_v g))) := by
  cases h
  exact lv_iconst hx hb hd rfl (K ls hl)
theorem am_s1 {n : Int} (hx : p.tables.exec = Jvm.exec) (hb : c.code = cc) (hg : ∀ x y, g x = g y → x = y) (hd : decode cc pc = .ok (.bipush n, 2)) (h : some (pc + 2, lv, .int (Int8.ofInt n).toInt32 :: st) = some (pc2, lv2, st2)) (hl : lv_has ls nL (lv.map (am_l g))) (K : ∀ ls2 : Array Slot, lv_has ls2 nL (lv2.map (am_l g)) → W p l e R s m args below meth c H locs cells slots Q (F0 m pc2 ls2 (st2.map (am_v g)))) : W p l e R s m args below meth c H locs cells slots Q (F0 m pc ls (st.map (am_v g))) := by
  cases h
  exact lv_bipush hx hb hd rfl (K ls hl)
theorem am_s2 {n : Int} (hx : p.tables.exec = Jvm.exec) (hb : c.code = cc) (hg : ∀ x y, g x = g y → x = y) (hd : decode cc pc = .ok (.sipush n, 3)) (h : some (pc + 3, lv, .int (Int16.ofInt n).toInt32 :: st) = some (pc2, lv2, st2)) (hl : lv_has ls nL (lv.map (am_l g))) (K : ∀ ls2 : Array Slot, lv_has ls2 nL (lv2.map (am_l g)) → W p l e R s m args below meth c H locs cells slots Q (F0 m pc2 ls2 (st2.map (am_v g)))) : W p l e R s m args below meth c H locs cells slots Q (F0 m pc ls (st.map (am_v g))) := by
  cases h
  exact lv_sipush hx hb hd rfl (K ls hl)
theorem am_s3 {n : Fin 2} (hx : p.tables.exec = Jvm.exec) (hb : c.code = cc) (hg : ∀ x y, g x = g y → x = y) (hd : decode cc pc = .ok (.lconst n, 1)) (h : some (pc + 1, lv, .long (Int64.ofNat (n : Nat)) :: st) = some (pc2, lv2, st2)) (hl : lv_has ls nL (lv.map (am_l g))) (K : ∀ ls2 : Array Slot, lv_has ls2 nL (lv2.map (am_l g)) → W p l e R s m args below meth c H locs cells slots Q (F0 m pc2 ls2 (st2.map (am_v g)))) : W p l e R s m args below meth c H locs cells slots Q (F0 m pc ls (st.map (am_v g))) := by
  cases h
  exact lv_lconst hx hb hd rfl (K ls hl)
theorem am_s4  (hx : p.tables.exec = Jvm.exec) (hb : c.code = cc) (hg : ∀ x y, g x = g y → x = y) (hd : decode cc pc = .ok (.aconst_null, 1)) (h : some (pc + 1, lv, .null :: st) = some (pc2, lv2, st2)) (hl : lv_has ls nL (lv.map (am_l g))) (K : ∀ ls2 : Array Slot, lv_has ls2 nL (lv2.map (am_l g)) → W p l e R s m args below meth c H locs cells slots Q (F0 m pc2 ls2 (st2.map (am_v g)))) : W p l e R s m args below meth c H locs cells slots Q (F0 m pc ls (st.map (am_v g))) := by
  cases h
  exact lv_null hx hb hd (K ls hl)
theorem am_s5 {k : Fin 4} (hx : p.tables.exec = Jvm.exec) (hb : c.code = cc) (hg : ∀ x y, g x = g y → x = y) (hd : decode cc pc = .ok (.iload_n k, 1)) (h : am_ldi lv st (k : Nat) (pc + 1) = some (pc2, lv2, st2)) (hl : lv_has ls nL (lv.map (am_l g))) (K : ∀ ls2 : Array Slot, lv_has ls2 nL (lv2.map (am_l g)) → W p l e R s m args below meth c H locs cells slots Q (F0 m pc2 ls2 (st2.map (am_v g)))) : W p l e R s m args below meth c H locs cells slots Q (F0 m pc ls (st.map (am_v g))) := by
  unfold am_ldi at h
  split at h
  · rename_i x hv
    cases h
    exact lv_iload_n hx hb hd rfl (am_ld_ok hv hl) (K ls hl)
  · cases h
theorem am_s6 {k : Nat} (hx : p.tables.exec = Jvm.exec) (hb : c.code = cc) (hg : ∀ x y, g x = g y → x = y) (hd : decode cc pc = .ok (.iload k, 2)) (h : am_ldi lv st k (pc + 2) = some (pc2, lv2, st2)) (hl : lv_has ls nL (lv.map (am_l g))) (K : ∀ ls2 : Array Slot, lv_has ls2 nL (lv2.map (am_l g)) → W p l e R s m args below meth c H locs cells slots Q (F0 m pc2 ls2 (st2.map (am_v g)))) : W p l e R s m args below meth c H locs cells slots Q (F0 m pc ls (st.map (am_v g))) := by
  unfold am_ldi at h
  split at h
  · rename_i x hv
    cases h
    exact lv_iload hx hb hd (am_ld_ok hv hl) (K ls hl)
  · cases h
theorem am_s7 {k : Fin 4} (hx : p.tables.exec = Jvm.exec) (hb : c.code = cc) (hg : ∀ x y, g x = g y → x = y) (hd : decode cc pc = .ok (.lload_n k, 1)) (h : am_ldl lv st (k : Nat) (pc + 1) = some (pc2, lv2, st2)) (hl : lv_has ls nL (lv.map (am_l g))) (K : ∀ ls2 : Array Slot, lv_has ls2 nL (lv2.map (am_l g)) → W p l e R s m args below meth c H locs cells slots Q (F0 m pc2 ls2 (st2.map (am_v g)))) : W p l e R s m args below meth c H locs cells slots Q (F0 m pc ls (st.map (am_v g))) := by
  unfold am_ldl at h
  split at h
  · rename_i x hv
    cases h
    exact lv_lload_n hx hb hd rfl (am_ld_ok hv hl) (K ls hl)
  · cases h
theorem am_s8 {k : Nat} (hx : p.tables.exec = Jvm.exec) (hb : c.code = cc) (hg : ∀ x y, g x = g y → x = y) (hd : decode cc pc = .ok (.lload k, 2)) (h : am_ldl lv st k (pc + 2) = some (pc2, lv2, st2)) (hl : lv_has ls nL (lv.map (am_l g))) (K : ∀ ls2 : Array Slot, lv_has ls2 nL (lv2.map (am_l g)) → W p l e R s m args below meth c H locs cells slots Q (F0 m pc2 ls2 (st2.map (am_v g)))) : W p l e R s m args below meth c H locs cells slots Q (F0 m pc ls (st.map (am_v g))) := by
  unfold am_ldl at h
  split at h
  · rename_i x hv
    cases h
    exact lv_lload hx hb hd (am_ld_ok hv hl) (K ls hl)
  · cases h
theorem am_s9 {k : Fin 4} (hx : p.tables.exec = Jvm.exec) (hb : c.code = cc) (hg : ∀ x y, g x = g y → x = y) (hd : decode cc pc = .ok (.aload_n k, 1)) (h : am_lda lv st (k : Nat) (pc + 1) = some (pc2, lv2, st2)) (hl : lv_has ls nL (lv.map (am_l g))) (K : ∀ ls2 : Array Slot, lv_has ls2 nL (lv2.map (am_l g)) → W p l e R s m args below meth c H locs cells slots Q (F0 m pc2 ls2 (st2.map (am_v g)))) : W p l e R s m args below meth c H locs cells slots Q (F0 m pc ls (st.map (am_v g))) := by
  unfold am_lda at h
  split at h
  · rename_i x hv
    cases h
    exact lv_aload_n hx hb hd rfl (am_ld_ok hv hl) (K ls hl)
  · rename_i hv
    cases h
    exact lv_aload_nN hx hb hd rfl (am_ld_ok hv hl) (K ls hl)
  · cases h
theorem am_s10 {k : Nat} (hx : p.tables.exec = Jvm.exec) (hb : c.code = cc) (hg : ∀ x y, g x = g y → x = y) (hd : decode cc pc = .ok (.aload k, 2)) (h : am_lda lv st k (pc + 2) = some (pc2, lv2, st2)) (hl : lv_has ls nL (lv.map (am_l g))) (K : ∀ ls2 : Array Slot, lv_has ls2 nL (lv2.map (am_l g)) → W p l e R s m args below meth c H locs cells slots Q (F0 m pc2 ls2 (st2.map (am_v g)))) : W p l e R s m args below meth c H locs cells slots Q (F0 m pc ls (st.map (am_v g))) := by
  unfold am_lda at h
  split at h
  · rename_i x hv
    cases h
    exact lv_aload hx hb hd (am_ld_ok hv hl) (K ls hl)
  · rename_i hv
    cases h
    exact lv_aloadN hx hb hd (am_ld_ok hv hl) (K ls hl)
  · cases h
theorem am_s11 {k : Fin 4} (hx : p.tables.exec = Jvm.exec) (hb : c.code = cc) (hg : ∀ x y, g x = g y → x = y) (hd : decode cc pc = .ok (.istore_n k, 1)) (h : am_sti nL lv st (k : Nat) (pc + 1) = some (pc2, lv2, st2)) (hl : lv_has ls nL (lv.map (am_l g))) (K : ∀ ls2 : Array Slot, lv_has ls2 nL (lv2.map (am_l g)) → W p l e R s m args below meth c H locs cells slots Q (F0 m pc2 ls2 (st2.map (am_v g)))) : W p l e R s m args below meth c H locs cells slots Q (F0 m pc ls (st.map (am_v g))) := by
  unfold am_sti at h
  split at h
  · split at h
    · rename_i hn
      cases h
      exact lv_istore_n hx hb hd rfl hl hn (am_p1_map g lv _ (.int _)).symm (fun ls hl => K ls hl)
    · cases h
  · cases h
theorem am_s12 {k : Nat} (hx : p.tables.exec = Jvm.exec) (hb : c.code = cc) (hg : ∀ x y, g x = g y → x = y) (hd : decode cc pc = .ok (.istore k, 2)) (h : am_sti nL lv st k (pc + 2) = some (pc2, lv2, st2)) (hl : lv_has ls nL (lv.map (am_l g))) (K : ∀ ls2 : Array Slot, lv_has ls2 nL (lv2.map (am_l g)) → W p l e R s m args below meth c H locs cells slots Q (F0 m pc2 ls2 (st2.map (am_v g)))) : W p l e R s m args below meth c H locs cells slots Q (F0 m pc ls (st.map (am_v g))) := by
  unfold am_sti at h
  split at h
  · split at h
    · rename_i hn
      cases h
      exact lv_istore hx hb hd hl hn (am_p1_map g lv _ (.int _)).symm (fun ls hl => K ls hl)
    · cases h
  · cases h
theorem am_s13 {k : Fin 4} (hx : p.tables.exec = Jvm.exec) (hb : c.code = cc) (hg : ∀ x y, g x = g y → x = y) (hd : decode cc pc = .ok (.lstore_n k, 1)) (h : am_stl nL lv st (k : Nat) (pc + 1) = some (pc2, lv2, st2)) (hl : lv_has ls nL (lv.map (am_l g))) (K : ∀ ls2 : Array Slot, lv_has ls2 nL (lv2.map (am_l g)) → W p l e R s m args below meth c H locs cells slots Q (F0 m pc2 ls2 (st2.map (am_v g)))) : W p l e R s m args below meth c H locs cells slots Q (F0 m pc ls (st.map (am_v g))) := by
  unfold am_stl at h
  split at h
  · split at h
    · rename_i hn
      cases h
      exact lv_lstore_n hx hb hd rfl hl hn (am_p2_map g lv _ (.long _)).symm (fun ls hl => K ls hl)
    · cases h
  · cases h
theorem am_s14 {k : Nat} (hx : p.tables.exec = Jvm.exec) (hb : c.code = cc) (hg : ∀ x y, g x = g y → x = y) (hd : decode cc pc = .ok (.lstore k, 2)) (h : am_stl nL lv st k (pc + 2) = some (pc2, lv2, st2)) (hl : lv_has ls nL (lv.map (am_l g))) (K : ∀ ls2 : Array Slot, lv_has ls2 nL (lv2.map (am_l g)) → W p l e R s m args below meth c H locs cells slots Q (F0 m pc2 ls2 (st2.map (am_v g)))) : W p l e R s m args below meth c H locs cells slots Q (F0 m pc ls (st.map (am_v g))) := by
  unfold am_stl at h
  split at h
  · split at h
    · rename_i hn
      cases h
      exact lv_lstore hx hb hd hl hn (am_p2_map g lv _ (.long _)).symm (fun ls hl => K ls hl)
    · cases h
  · cases h
theorem am_s15 {k : Fin 4} (hx : p.tables.exec = Jvm.exec) (hb : c.code = cc) (hg : ∀ x y, g x = g y → x = y) (hd : decode cc pc = .ok (.astore_n k, 1)) (h : am_sta nL lv st (k : Nat) (pc + 1) = some (pc2, lv2, st2)) (hl : lv_has ls nL (lv.map (am_l g))) (K : ∀ ls2 : Array Slot, lv_has ls2 nL (lv2.map (am_l g)) → W p l e R s m args below meth c H locs cells slots Q (F0 m pc2 ls2 (st2.map (am_v g)))) : W p l e R s m args below meth c H locs cells slots Q (F0 m pc ls (st.map (am_v g))) := by
  unfold am_sta at h
  split at h
  · split at h
    · rename_i hn
      cases h
      exact lv_astore_n hx hb hd rfl hl hn (am_p1_map g lv _ (.ref _)).symm (fun ls hl => K ls hl)
    · cases h
  · split at h
    · rename_i hn
      cases h
      exact lv_astore_nN hx hb hd rfl hl hn (am_p1_map g lv _ .null).symm (fun ls hl => K ls hl)
    · cases h
  · cases h
theorem am_s16 {k : Nat} (hx : p.tables.exec = Jvm.exec) (hb : c.code = cc) (hg : ∀ x y, g x = g y → x = y) (hd : decode cc pc = .ok (.astore k, 2)) (h : am_sta nL lv st k (pc + 2) = some (pc2, lv2, st2)) (hl : lv_has ls nL (lv.map (am_l g))) (K : ∀ ls2 : Array Slot, lv_has ls2 nL (lv2.map (am_l g)) → W p l e R s m args below meth c H locs cells slots Q (F0 m pc2 ls2 (st2.map (am_v g)))) : W p l e R s m args below meth c H locs cells slots Q (F0 m pc ls (st.map (am_v g))) := by
  unfold am_sta at h
  split at h
  · split at h
    · rename_i hn
      cases h
      exact lv_astore hx hb hd hl hn (am_p1_map g lv _ (.ref _)).symm (fun ls hl => K ls hl)
    · cases h
  · split at h
    · rename_i hn
      cases h
      exact lv_astoreN hx hb hd hl hn (am_p1_map g lv _ .null).symm (fun ls hl => K ls hl)
    · cases h
  · cases h
theorem am_s17 {k : Nat} {n : Int} (hx : p.tables.exec = Jvm.exec) (hb : c.code = cc) (hg : ∀ x y, g x = g y → x = y) (hd : decode cc pc = .ok (.iinc k n, 3)) (h : am_inc nL lv st k n (pc + 3) = some (pc2, lv2, st2)) (hl : lv_has ls nL (lv.map (am_l g))) (K : ∀ ls2 : Array Slot, lv_has ls2 nL (lv2.map (am_l g)) → W p l e R s m args below meth c H locs cells slots Q (F0 m pc2 ls2 (st2.map (am_v g)))) : W p l e R s m args below meth c H locs cells slots Q (F0 m pc ls (st.map (am_v g))) := by
  unfold am_inc at h
  split at h
  · rename_i x hv
    split at h
    · rename_i hn
      cases h
      obtain ⟨j, hj⟩ := am_ld_mem (g := g) hv
      exact lv_iinc hx hb hd hl hj rfl hn (am_p1_map g lv _ (.int _)).symm (fun ls hl => K ls hl)
    · cases h
  · cases h
theorem am_s18  (hx : p.tables.exec = Jvm.exec) (hb : c.code = cc) (hg : ∀ x y, g x = g y → x = y) (hd : decode cc pc = .ok (.iadd, 1)) (h : am_i2 (fun x y => x + y) lv st (pc + 1) = some (pc2, lv2, st2)) (hl : lv_has ls nL (lv.map (am_l g))) (K : ∀ ls2 : Array Slot, lv_has ls2 nL (lv2.map (am_l g)) → W p l e R s m args below meth c H locs cells slots Q (F0 m pc2 ls2 (st2.map (am_v g)))) : W p l e R s m args below meth c H locs cells slots Q (F0 m pc ls (st.map (am_v g))) := by
  unfold am_i2 at h
  split at h
  · cases h
    exact lv_iadd hx hb hd (K ls hl)
  · cases h
theorem am_s19  (hx : p.tables.exec = Jvm.exec) (hb : c.code = cc) (hg : ∀ x y, g x = g y → x = y) (hd : decode cc pc = .ok (.isub, 1)) (h : am_i2 (fun x y => x - y) lv st (pc + 1) = some (pc2, lv2, st2)) (hl : lv_has ls nL (lv.map (am_l g))) (K : ∀ ls2 : Array Slot, lv_has ls2 nL (lv2.map (am_l g)) → W p l e R s m args below meth c H locs cells slots Q (F0 m pc2 ls2 (st2.map (am_v g)))) : W p l e R s m args below meth c H locs cells slots Q (F0 m pc ls (st.map (am_v g))) := by
  unfold am_i2 at h
  split at h
  · cases h
    exact lv_isub hx hb hd (K ls hl)
  · cases h
theorem am_s20  (hx : p.tables.exec = Jvm.exec) (hb : c.code = cc) (hg : ∀ x y, g x = g y → x = y) (hd : decode cc pc = .ok (.imul, 1)) (h : am_i2 (fun x y => x * y) lv st (pc + 1) = some (pc2, lv2, st2)) (hl : lv_has ls nL (lv.map (am_l g))) (K : ∀ ls2 : Array Slot, lv_has ls2 nL (lv2.map (am_l g)) → W p l e R s m args below meth c H locs cells slots Q (F0 m pc2 ls2 (st2.map (am_v g)))) : W p l e R s m args below meth c H locs cells slots Q (F0 m pc ls (st.map (am_v g))) := by
  unfold am_i2 at h
  split at h
  · cases h
    exact lv_imul hx hb hd (K ls hl)
  · cases h
theorem am_s21  (hx : p.tables.exec = Jvm.exec) (hb : c.code = cc) (hg : ∀ x y, g x = g y → x = y) (hd : decode cc pc = .ok (.iand, 1)) (h : am_i2 (fun x y => x &&& y) lv st (pc + 1) = some (pc2, lv2, st2)) (hl : lv_has ls nL (lv.map (am_l g))) (K : ∀ ls2 : Array Slot, lv_has ls2 nL (lv2.map (am_l g)) → W p l e R s m args below meth c H locs cells slots Q (F0 m pc2 ls2 (st2.map (am_v g)))) : W p l e R s m args below meth c H locs cells slots Q (F0 m pc ls (st.map (am_v g))) := by
  unfold am_i2 at h
  split at h
  · cases h
    exact lv_iand hx hb hd (K ls hl)
  · cases h
theorem am_s22  (hx : p.tables.exec = Jvm.exec) (hb : c.code = cc) (hg : ∀ x y, g x = g y → x = y) (hd : decode cc pc = .ok (.ior, 1)) (h : am_i2 (fun x y => x ||| y) lv st (pc + 1) = some (pc2, lv2, st2)) (hl : lv_has ls nL (lv.map (am_l g))) (K : ∀ ls2 : Array Slot, lv_has ls2 nL (lv2.map (am_l g)) → W p l e R s m args below meth c H locs cells slots Q (F0 m pc2 ls2 (st2.map (am_v g)))) : W p l e R s m args below meth c H locs cells slots Q (F0 m pc ls (st.map (am_v g))) := by
  unfold am_i2 at h
  split at h
  · cases h
    exact lv_ior hx hb hd (K ls hl)
  · cases h
theorem am_s23  (hx : p.tables.exec = Jvm.exec) (hb : c.code = cc) (hg : ∀ x y, g x = g y → x = y) (hd : decode cc pc = .ok (.ixor, 1)) (h : am_i2 (fun x y => x ^^^ y) lv st (pc + 1) = some (pc2, lv2, st2)) (hl : lv_has ls nL (lv.map (am_l g))) (K : ∀ ls2 : Array Slot, lv_has ls2 nL (lv2.map (am_l g)) → W p l e R s m args below meth c H locs cells slots Q (F0 m pc2 ls2 (st2.map (am_v g)))) : W p l e R s m args below meth c H locs cells slots Q (F0 m pc ls (st.map (am_v g))) := by
  unfold am_i2 at h
  split at h
  · cases h
    exact lv_ixor hx hb hd (K ls hl)
  · cases h
theorem am_s24  (hx : p.tables.exec = Jvm.exec) (hb : c.code = cc) (hg : ∀ x y, g x = g y → x = y) (hd : decode cc pc = .ok (.ishl, 1)) (h : am_i2 (fun x y => x <<< (y &&& 31)) lv st (pc + 1) = some (pc2, lv2, st2)) (hl : lv_has ls nL (lv.map (am_l g))) (K : ∀ ls2 : Array Slot, lv_has ls2 nL (lv2.map (am_l g)) → W p l e R s m args below meth c H locs cells slots Q (F0 m pc2 ls2 (st2.map (am_v g)))) : W p l e R s m args below meth c H locs cells slots Q (F0 m pc ls (st.map (am_v g))) := by
  unfold am_i2 at h
  split at h
  · cases h
    exact lv_ishl hx hb hd (K ls hl)
  · cases h
theorem am_s25  (hx : p.tables.exec = Jvm.exec) (hb : c.code = cc) (hg : ∀ x y, g x = g y → x = y) (hd : decode cc pc = .ok (.ishr, 1)) (h : am_i2 (fun x y => x >>> (y &&& 31)) lv st (pc + 1) = some (pc2, lv2, st2)) (hl : lv_has ls nL (lv.map (am_l g))) (K : ∀ ls2 : Array Slot, lv_has ls2 nL (lv2.map (am_l g)) → W p l e R s m args below meth c H locs cells slots Q (F0 m pc2 ls2 (st2.map (am_v g)))) : W p l e R s m args below meth c H locs cells slots Q (F0 m pc ls (st.map (am_v g))) := by
  unfold am_i2 at h
  split at h
  · cases h
    exact lv_ishr hx hb hd (K ls hl)
  · cases h
theorem am_s26  (hx : p.tables.exec = Jvm.exec) (hb : c.code = cc) (hg : ∀ x y, g x = g y → x = y) (hd : decode cc pc = .ok (.iushr, 1)) (h : am_i2 (fun x y => (x.toUInt32 >>> (y.toUInt32 &&& Int32.toUInt32 31)).toInt32) lv st (pc + 1) = some (pc2, lv2, st2)) (hl : lv_has ls nL (lv.map (am_l g))) (K : ∀ ls2 : Array Slot, lv_has ls2 nL (lv2.map (am_l g)) → W p l e R s m args below meth c H locs cells slots Q (F0 m pc2 ls2 (st2.map (am_v g)))) : W p l e R s m args below meth c H locs cells slots Q (F0 m pc ls (st.map (am_v g))) := by
  unfold am_i2 at h
  split at h
  · cases h
    exact lv_iushr hx hb hd rfl (K ls hl)
  · cases h
theorem am_s27  (hx : p.tables.exec = Jvm.exec) (hb : c.code = cc) (hg : ∀ x y, g x = g y → x = y) (hd : decode cc pc = .ok (.idiv, 1)) (h : am_i3 (fun x y => x / y) lv st (pc + 1) = some (pc2, lv2, st2)) (hl : lv_has ls nL (lv.map (am_l g))) (K : ∀ ls2 : Array Slot, lv_has ls2 nL (lv2.map (am_l g)) → W p l e R s m args below meth c H locs cells slots Q (F0 m pc2 ls2 (st2.map (am_v g)))) : W p l e R s m args below meth c H locs cells slots Q (F0 m pc ls (st.map (am_v g))) := by
  unfold am_i3 at h
  split at h
  · split at h
    · cases h
    · rename_i hn
      cases h
      exact lv_idiv hx hb hd hn (K ls hl)
  · cases h
theorem am_s28  (hx : p.tables.exec = Jvm.exec) (hb : c.code = cc) (hg : ∀ x y, g x = g y → x = y) (hd : decode cc pc = .ok (.irem, 1)) (h : am_i3 (fun x y => x - x / y * y) lv st (pc + 1) = some (pc2, lv2, st2)) (hl : lv_has ls nL (lv.map (am_l g))) (K : ∀ ls2 : Array Slot, lv_has ls2 nL (lv2.map (am_l g)) → W p l e R s m args below meth c H locs cells slots Q (F0 m pc2 ls2 (st2.map (am_v g)))) : W p l e R s m args below meth c H locs cells slots Q (F0 m pc ls (st.map (am_v g))) := by
  unfold am_i3 at h
  split at h
  · split at h
    · cases h
    · rename_i hn
      cases h
      exact lv_irem hx hb hd hn (K ls hl)
  · cases h
theorem am_s29  (hx : p.tables.exec = Jvm.exec) (hb : c.code = cc) (hg : ∀ x y, g x = g y → x = y) (hd : decode cc pc = .ok (.ineg, 1)) (h : am_i1 (fun x => -x) lv st (pc + 1) = some (pc2, lv2, st2)) (hl : lv_has ls nL (lv.map (am_l g))) (K : ∀ ls2 : Array Slot, lv_has ls2 nL (lv2.map (am_l g)) → W p l e R s m args below meth c H locs cells slots Q (F0 m pc2 ls2 (st2.map (am_v g)))) : W p l e R s m args below meth c H locs cells slots Q (F0 m pc ls (st.map (am_v g))) := by
  unfold am_i1 at h
  split at h
  · cases h
    exact lv_ineg hx hb hd (K ls hl)
  · cases h
theorem am_s30  (hx : p.tables.exec = Jvm.exec) (hb : c.code = cc) (hg : ∀ x y, g x = g y → x = y) (hd : decode cc pc = .ok (.i2b, 1)) (h : am_i1 (fun x => x.toInt8.toInt32) lv st (pc + 1) = some (pc2, lv2, st2)) (hl : lv_has ls nL (lv.map (am_l g))) (K : ∀ ls2 : Array Slot, lv_has ls2 nL (lv2.map (am_l g)) → W p l e R s m args below meth c H locs cells slots Q (F0 m pc2 ls2 (st2.map (am_v g)))) : W p l e R s m args below meth c H locs cells slots Q (F0 m pc ls (st.map (am_v g))) := by
  unfold am_i1 at h
  split at h
  · cases h
    exact lv_i2b hx hb hd rfl (K ls hl)
  · cases h
theorem am_s31  (hx : p.tables.exec = Jvm.exec) (hb : c.code = cc) (hg : ∀ x y, g x = g y → x = y) (hd : decode cc pc = .ok (.i2s, 1)) (h : am_i1 (fun x => x.toInt16.toInt32) lv st (pc + 1) = some (pc2, lv2, st2)) (hl : lv_has ls nL (lv.map (am_l g))) (K : ∀ ls2 : Array Slot, lv_has ls2 nL (lv2.map (am_l g)) → W p l e R s m args below meth c H locs cells slots Q (F0 m pc2 ls2 (st2.map (am_v g)))) : W p l e R s m args below meth c H locs cells slots Q (F0 m pc ls (st.map (am_v g))) := by
  unfold am_i1 at h
  split at h
  · cases h
    exact lv_i2s hx hb hd rfl (K ls hl)
  · cases h
theorem am_s32  (hx : p.tables.exec = Jvm.exec) (hb : c.code = cc) (hg : ∀ x y, g x = g y → x = y) (hd : decode cc pc = .ok (.i2c, 1)) (h : am_i1 (fun x => (x.toUInt32 % 65536).toInt32) lv st (pc + 1) = some (pc2, lv2, st2)) (hl : lv_has ls nL (lv.map (am_l g))) (K : ∀ ls2 : Array Slot, lv_has ls2 nL (lv2.map (am_l g)) → W p l e R s m args below meth c H locs cells slots Q (F0 m pc2 ls2 (st2.map (am_v g)))) : W p l e R s m args below meth c H locs cells slots Q (F0 m pc ls (st.map (am_v g))) := by
  unfold am_i1 at h
  split at h
  · cases h
    exact lv_i2c hx hb hd rfl (K ls hl)
  · cases h
theorem am_s33  (hx : p.tables.exec = Jvm.exec) (hb : c.code = cc) (hg : ∀ x y, g x = g y → x = y) (hd : decode cc pc = .ok (.ladd, 1)) (h : am_l2 (fun x y => x + y) lv st (pc + 1) = some (pc2, lv2, st2)) (hl : lv_has ls nL (lv.map (am_l g))) (K : ∀ ls2 : Array Slot, lv_has ls2 nL (lv2.map (am_l g)) → W p l e R s m args below meth c H locs cells slots Q (F0 m pc2 ls2 (st2.map (am_v g)))) : W p l e R s m args below meth c H locs cells slots Q (F0 m pc ls (st.map (am_v g))) := by
  unfold am_l2 at h
  split at h
  · cases h
    exact lv_ladd hx hb hd (K ls hl)
  · cases h
theorem am_s34  (hx : p.tables.exec = Jvm.exec) (hb : c.code = cc) (hg : ∀ x y, g x = g y → x = y) (hd : decode cc pc = .ok (.lsub, 1)) (h : am_l2 (fun x y => x - y) lv st (pc + 1) = some (pc2, lv2, st2)) (hl : lv_has ls nL (lv.map (am_l g))) (K : ∀ ls2 : Array Slot, lv_has ls2 nL (lv2.map (am_l g)) → W p l e R s m args below meth c H locs cells slots Q (F0 m pc2 ls2 (st2.map (am_v g)))) : W p l e R s m args below meth c H locs cells slots Q (F0 m pc ls (st.map (am_v g))) := by
  unfold am_l2 at h
  split at h
  · cases h
    exact lv_lsub hx hb hd (K ls hl)
  · cases h
theorem am_s35  (hx : p.tables.exec = Jvm.exec) (hb : c.code = cc) (hg : ∀ x y, g x = g y → x = y) (hd : decode cc pc = .ok (.lmul, 1)) (h : am_l2 (fun x y => x * y) lv st (pc + 1) = some (pc2, lv2, st2)) (hl : lv_has ls nL (lv.map (am_l g))) (K : ∀ ls2 : Array Slot, lv_has ls2 nL (lv2.map (am_l g)) → W p l e R s m args below meth c H locs cells slots Q (F0 m pc2 ls2 (st2.map (am_v g)))) : W p l e R s m args below meth c H locs cells slots Q (F0 m pc ls (st.map (am_v g))) := by
  unfold am_l2 at h
  split at h
  · cases h
    exact lv_lmul hx hb hd (K ls hl)
  · cases h
theorem am_s36  (hx : p.tables.exec = Jvm.exec) (hb : c.code = cc) (hg : ∀ x y, g x = g y → x = y) (hd : decode cc pc = .ok (.land, 1)) (h : am_l2 (fun x y => x &&& y) lv st (pc + 1) = some (pc2, lv2, st2)) (hl : lv_has ls nL (lv.map (am_l g))) (K : ∀ ls2 : Array Slot, lv_has ls2 nL (lv2.map (am_l g)) → W p l e R s m args below meth c H locs cells slots Q (F0 m pc2 ls2 (st2.map (am_v g)))) : W p l e R s m args below meth c H locs cells slots Q (F0 m pc ls (st.map (am_v g))) := by
  unfold am_l2 at h
  split at h
  · cases h
    exact lv_land hx hb hd (K ls hl)
  · cases h
theorem am_s37  (hx : p.tables.exec = Jvm.exec) (hb : c.code = cc) (hg : ∀ x y, g x = g y → x = y) (hd : decode cc pc = .ok (.lor, 1)) (h : am_l2 (fun x y => x ||| y) lv st (pc + 1) = some (pc2, lv2, st2)) (hl : lv_has ls nL (lv.map (am_l g))) (K : ∀ ls2 : Array Slot, lv_has ls2 nL (lv2.map (am_l g)) → W p l e R s m args below meth c H locs cells slots Q (F0 m pc2 ls2 (st2.map (am_v g)))) : W p l e R s m args below meth c H locs cells slots Q (F0 m pc ls (st.map (am_v g))) := by
  unfold am_l2 at h
  split at h
  · cases h
    exact lv_lor hx hb hd (K ls hl)
  · cases h
theorem am_s38  (hx : p.tables.exec = Jvm.exec) (hb : c.code = cc) (hg : ∀ x y, g x = g y → x = y) (hd : decode cc pc = .ok (.lxor, 1)) (h : am_l2 (fun x y => x ^^^ y) lv st (pc + 1) = some (pc2, lv2, st2)) (hl : lv_has ls nL (lv.map (am_l g))) (K : ∀ ls2 : Array Slot, lv_has ls2 nL (lv2.map (am_l g)) → W p l e R s m args below meth c H locs cells slots Q (F0 m pc2 ls2 (st2.map (am_v g)))) : W p l e R s m args below meth c H locs cells slots Q (F0 m pc ls (st.map (am_v g))) := by
  unfold am_l2 at h
  split at h
  · cases h
    exact lv_lxor hx hb hd (K ls hl)
  · cases h
theorem am_s39  (hx : p.tables.exec = Jvm.exec) (hb : c.code = cc) (hg : ∀ x y, g x = g y → x = y) (hd : decode cc pc = .ok (.lneg, 1)) (h : am_l1 (fun x => -x) lv st (pc + 1) = some (pc2, lv2, st2)) (hl : lv_has ls nL (lv.map (am_l g))) (K : ∀ ls2 : Array Slot, lv_has ls2 nL (lv2.map (am_l g)) → W p l e R s m args below meth c H locs cells slots Q (F0 m pc2 ls2 (st2.map (am_v g)))) : W p l e R s m args below meth c H locs cells slots Q (F0 m pc ls (st.map (am_v g))) := by
  unfold am_l1 at h
  split at h
  · cases h
    exact lv_lneg hx hb hd (K ls hl)
  · cases h
theorem am_s40  (hx : p.tables.exec = Jvm.exec) (hb : c.code = cc) (hg : ∀ x y, g x = g y → x = y) (hd : decode cc pc = .ok (.lshl, 1)) (h : am_ls (fun x y => x <<< (y.toInt64 &&& 63)) lv st (pc + 1) = some (pc2, lv2, st2)) (hl : lv_has ls nL (lv.map (am_l g))) (K : ∀ ls2 : Array Slot, lv_has ls2 nL (lv2.map (am_l g)) → W p l e R s m args below meth c H locs cells slots Q (F0 m pc2 ls2 (st2.map (am_v g)))) : W p l e R s m args below meth c H locs cells slots Q (F0 m pc ls (st.map (am_v g))) := by
  unfold am_ls at h
  split at h
  · cases h
    exact lv_lshl hx hb hd rfl (K ls hl)
  · cases h
theorem am_s41  (hx : p.tables.exec = Jvm.exec) (hb : c.code = cc) (hg : ∀ x y, g x = g y → x = y) (hd : decode cc pc = .ok (.lshr, 1)) (h : am_ls (fun x y => x >>> (y.toInt64 &&& 63)) lv st (pc + 1) = some (pc2, lv2, st2)) (hl : lv_has ls nL (lv.map (am_l g))) (K : ∀ ls2 : Array Slot, lv_has ls2 nL (lv2.map (am_l g)) → W p l e R s m args below meth c H locs cells slots Q (F0 m pc2 ls2 (st2.map (am_v g)))) : W p l e R s m args below meth c H locs cells slots Q (F0 m pc ls (st.map (am_v g))) := by
  unfold am_ls at h
  split at h
  · cases h
    exact lv_lshr hx hb hd rfl (K ls hl)
  · cases h
theorem am_s42  (hx : p.tables.exec = Jvm.exec) (hb : c.code = cc) (hg : ∀ x y, g x = g y → x = y) (hd : decode cc pc = .ok (.lushr, 1)) (h : am_ls (fun x y => (x.toUInt64 >>> (y.toInt64.toUInt64 &&& Int64.toUInt64 63)).toInt64) lv st (pc + 1) = some (pc2, lv2, st2)) (hl : lv_has ls nL (lv.map (am_l g))) (K : ∀ ls2 : Array Slot, lv_has ls2 nL (lv2.map (am_l g)) → W p l e R s m args below meth c H locs cells slots Q (F0 m pc2 ls2 (st2.map (am_v g)))) : W p l e R s m args below meth c H locs cells slots Q (F0 m pc ls (st.map (am_v g))) := by
  unfold am_ls at h
  split at h
  · cases h
    exact lv_lushr hx hb hd rfl (K ls hl)
  · cases h
theorem am_s43  (hx : p.tables.exec = Jvm.exec) (hb : c.code = cc) (hg : ∀ x y, g x = g y → x = y) (hd : decode cc pc = .ok (.i2l, 1)) (h : (match st with | .int x :: r => some (pc + 1, lv, .long x.toInt64 :: r) | _ => none) = some (pc2, lv2, st2)) (hl : lv_has ls nL (lv.map (am_l g))) (K : ∀ ls2 : Array Slot, lv_has ls2 nL (lv2.map (am_l g)) → W p l e R s m args below meth c H locs cells slots Q (F0 m pc2 ls2 (st2.map (am_v g)))) : W p l e R s m args below meth c H locs cells slots Q (F0 m pc ls (st.map (am_v g))) := by
  split at h
  · cases h
    exact lv_i2l hx hb hd rfl (K ls hl)
  · cases h
theorem am_s44  (hx : p.tables.exec = Jvm.exec) (hb : c.code = cc) (hg : ∀ x y, g x = g y → x = y) (hd : decode cc pc = .ok (.l2i, 1)) (h : (match st with | .long x :: r => some (pc + 1, lv, .int x.toInt32 :: r) | _ => none) = some (pc2, lv2, st2)) (hl : lv_has ls nL (lv.map (am_l g))) (K : ∀ ls2 : Array Slot, lv_has ls2 nL (lv2.map (am_l g)) → W p l e R s m args below meth c H locs cells slots Q (F0 m pc2 ls2 (st2.map (am_v g)))) : W p l e R s m args below meth c H locs cells slots Q (F0 m pc ls (st.map (am_v g))) := by
  split at h
  · cases h
    exact lv_l2i hx hb hd rfl (K ls hl)
  · cases h
theorem am_s45  (hx : p.tables.exec = Jvm.exec) (hb : c.code = cc) (hg : ∀ x y, g x = g y → x = y) (hd : decode cc pc = .ok (.lcmp, 1)) (h : (match st with | .long y :: .long x :: r => some (pc + 1, lv, .int (lg_cmp x y) :: r) | _ => none) = some (pc2, lv2, st2)) (hl : lv_has ls nL (lv.map (am_l g))) (K : ∀ ls2 : Array Slot, lv_has ls2 nL (lv2.map (am_l g)) → W p l e R s m args below meth c H locs cells slots Q (F0 m pc2 ls2 (st2.map (am_v g)))) : W p l e R s m args below meth c H locs cells slots Q (F0 m pc ls (st.map (am_v g))) := by
  split at h
  · cases h
    exact W.lcmp hx hb hd (K ls hl)
  · cases h
theorem am_s46  (hx : p.tables.exec = Jvm.exec) (hb : c.code = cc) (hg : ∀ x y, g x = g y → x = y) (hd : decode cc pc = .ok (.dup, 1)) (h : (match st with | a :: r => if a.category = 1 then some (pc + 1, lv, a :: a :: r) else none | _ => none) = some (pc2, lv2, st2)) (hl : lv_has ls nL (lv.map (am_l g))) (K : ∀ ls2 : Array Slot, lv_has ls2 nL (lv2.map (am_l g)) → W p l e R s m args below meth c H locs cells slots Q (F0 m pc2 ls2 (st2.map (am_v g)))) : W p l e R s m args below meth c H locs cells slots Q (F0 m pc ls (st.map (am_v g))) := by
  split at h
  · split at h
    · rename_i h1
      cases h
      exact lv_dup hx hb hd (by rw [am_v_cat]; exact h1) (K ls hl)
    · cases h
  · cases h
theorem am_s47  (hx : p.tables.exec = Jvm.exec) (hb : c.code = cc) (hg : ∀ x y, g x = g y → x = y) (hd : decode cc pc = .ok (.pop, 1)) (h : (match st with | a :: r => if a.category = 1 then some (pc + 1, lv, r) else none | _ => none) = some (pc2, lv2, st2)) (hl : lv_has ls nL (lv.map (am_l g))) (K : ∀ ls2 : Array Slot, lv_has ls2 nL (lv2.map (am_l g)) → W p l e R s m args below meth c H locs cells slots Q (F0 m pc2 ls2 (st2.map (am_v g)))) : W p l e R s m args below meth c H locs cells slots Q (F0 m pc ls (st.map (am_v g))) := by
  split at h
  · split at h
    · rename_i h1
      cases h
      exact lv_pop hx hb hd (by rw [am_v_cat]; exact h1) (K ls hl)
    · cases h
  · cases h
theorem am_s48  (hx : p.tables.exec = Jvm.exec) (hb : c.code = cc) (hg : ∀ x y, g x = g y → x = y) (hd : decode cc pc = .ok (.dup_x1, 1)) (h : (match st with | a :: b :: r => if a.category = 1 ∧ b.category = 1 then some (pc + 1, lv, a :: b :: a :: r) else none | _ => none) = some (pc2, lv2, st2)) (hl : lv_has ls nL (lv.map (am_l g))) (K : ∀ ls2 : Array Slot, lv_has ls2 nL (lv2.map (am_l g)) → W p l e R s m args below meth c H locs cells slots Q (F0 m pc2 ls2 (st2.map (am_v g)))) : W p l e R s m args below meth c H locs cells slots Q (F0 m pc ls (st.map (am_v g))) := by
  split at h
  · split at h
    · rename_i h1
      cases h
      exact lv_dup_x1 hx hb hd (by rw [am_v_cat]; exact h1.1) (by rw [am_v_cat]; exact h1.2) (K ls hl)
    · cases h
  · cases h
theorem am_s49  (hx : p.tables.exec = Jvm.exec) (hb : c.code = cc) (hg : ∀ x y, g x = g y → x = y) (hd : decode cc pc = .ok (.dup2, 1)) (h : (match st with | a :: b :: r => if a.category = 1 ∧ b.category = 1 then some (pc + 1, lv, a :: b :: a :: b :: r) else none | _ => none) = some (pc2, lv2, st2)) (hl : lv_has ls nL (lv.map (am_l g))) (K : ∀ ls2 : Array Slot, lv_has ls2 nL (lv2.map (am_l g)) → W p l e R s m args below meth c H locs cells slots Q (F0 m pc2 ls2 (st2.map (am_v g)))) : W p l e R s m args below meth c H locs cells slots Q (F0 m pc ls (st.map (am_v g))) := by
  split at h
  · split at h
    · rename_i h1
      cases h
      exact lv_dup2_11 hx hb hd (by rw [am_v_cat]; exact h1.1) (by rw [am_v_cat]; exact h1.2) (K ls hl)
    · cases h
  · cases h
theorem am_s50 {off : Int} (hx : p.tables.exec = Jvm.exec) (hb : c.code = cc) (hg : ∀ x y, g x = g y → x = y) (hd : decode cc pc = .ok (.goto off, 3)) (h : (match am_jp pc off with | some t => some (t, lv, st) | none => none) = some (pc2, lv2, st2)) (hl : lv_has ls nL (lv.map (am_l g))) (K : ∀ ls2 : Array Slot, lv_has ls2 nL (lv2.map (am_l g)) → W p l e R s m args below meth c H locs cells slots Q (F0 m pc2 ls2 (st2.map (am_v g)))) : W p l e R s m args below meth c H locs cells slots Q (F0 m pc ls (st.map (am_v g))) := by
  split at h
  · rename_i t ht
    cases h
    exact lv_goto hx hb hd (am_jp_ok ht) (K ls hl)
  · cases h
theorem am_s51 {off : Int} (hx : p.tables.exec = Jvm.exec) (hb : c.code = cc) (hg : ∀ x y, g x = g y → x = y) (hd : decode cc pc = .ok (.ifCond .eq off, 3)) (h : (match st, am_jp pc off with | .int x :: r, some t => if x = 0 then some (t, lv, r) else some (pc + 3, lv, r) | _, _ => none) = some (pc2, lv2, st2)) (hl : lv_has ls nL (lv.map (am_l g))) (K : ∀ ls2 : Array Slot, lv_has ls2 nL (lv2.map (am_l g)) → W p l e R s m args below meth c H locs cells slots Q (F0 m pc2 ls2 (st2.map (am_v g)))) : W p l e R s m args below meth c H locs cells slots Q (F0 m pc ls (st.map (am_v g))) := by
  split at h
  · rename_i x r t ht
    refine lv_if_eq hx hb hd (am_jp_ok ht) (fun q => ?_) (fun q => ?_)
    · rw [if_pos q] at h; cases h; exact K ls hl
    · rw [if_neg q] at h; cases h; exact K ls hl
  · cases h
theorem am_s52 {off : Int} (hx : p.tables.exec = Jvm.exec) (hb : c.code = cc) (hg : ∀ x y, g x = g y → x = y) (hd : decode cc pc = .ok (.ifCond .ne off, 3)) (h : (match st, am_jp pc off with | .int x :: r, some t => if x = 0 then some (pc + 3, lv, r) else some (t, lv, r) | _, _ => none) = some (pc2, lv2, st2)) (hl : lv_has ls nL (lv.map (am_l g))) (K : ∀ ls2 : Array Slot, lv_has ls2 nL (lv2.map (am_l g)) → W p l e R s m args below meth c H locs cells slots Q (F0 m pc2 ls2 (st2.map (am_v g)))) : W p l e R s m args below meth c H locs cells slots Q (F0 m pc ls (st.map (am_v g))) := by
  split at h
  · rename_i x r t ht
    refine lv_if_ne hx hb hd (am_jp_ok ht) (fun q => ?_) (fun q => ?_)
    · rw [if_neg q] at h; cases h; exact K ls hl
    · rw [if_pos q] at h; cases h; exact K ls hl
  · cases h
theorem am_s53 {off : Int} (hx : p.tables.exec = Jvm.exec) (hb : c.code = cc) (hg : ∀ x y, g x = g y → x = y) (hd : decode cc pc = .ok (.ifCond .lt off, 3)) (h : (match st, am_jp pc off with | .int x :: r, some t => if x < 0 then some (t, lv, r) else some (pc + 3, lv, r) | _, _ => none) = some (pc2, lv2, st2)) (hl : lv_has ls nL (lv.map (am_l g))) (K : ∀ ls2 : Array Slot, lv_has ls2 nL (lv2.map (am_l g)) → W p l e R s m args below meth c H locs cells slots Q (F0 m pc2 ls2 (st2.map (am_v g)))) : W p l e R s m args below meth c H locs cells slots Q (F0 m pc ls (st.map (am_v g))) := by
  split at h
  · rename_i x r t ht
    refine lv_if_lt hx hb hd (am_jp_ok ht) (fun q => ?_) (fun q => ?_)
    · rw [if_pos q] at h; cases h; exact K ls hl
    · rw [if_neg q] at h; cases h; exact K ls hl
  · cases h
theorem am_s54 {off : Int} (hx : p.tables.exec = Jvm.exec) (hb : c.code = cc) (hg : ∀ x y, g x = g y → x = y) (hd : decode cc pc = .ok (.ifCond .ge off, 3)) (h : (match st, am_jp pc off with | .int x :: r, some t => if 0 ≤ x then some (t, lv, r) else some (pc + 3, lv, r) | _, _ => none) = some (pc2, lv2, st2)) (hl : lv_has ls nL (lv.map (am_l g))) (K : ∀ ls2 : Array Slot, lv_has ls2 nL (lv2.map (am_l g)) → W p l e R s m args below meth c H locs cells slots Q (F0 m pc2 ls2 (st2.map (am_v g)))) : W p l e R s m args below meth c H locs cells slots Q (F0 m pc ls (st.map (am_v g))) := by
  split at h
  · rename_i x r t ht
    refine lv_if_ge hx hb hd (am_jp_ok ht) (fun q => ?_) (fun q => ?_)
    · rw [if_pos q] at h; cases h; exact K ls hl
    · rw [if_neg q] at h; cases h; exact K ls hl
  · cases h
theorem am_s55 {off : Int} (hx : p.tables.exec = Jvm.exec) (hb : c.code = cc) (hg : ∀ x y, g x = g y → x = y) (hd : decode cc pc = .ok (.ifCond .gt off, 3)) (h : (match st, am_jp pc off with | .int x :: r, some t => if 0 < x then some (t, lv, r) else some (pc + 3, lv, r) | _, _ => none) = some (pc2, lv2, st2)) (hl : lv_has ls nL (lv.map (am_l g))) (K : ∀ ls2 : Array Slot, lv_has ls2 nL (lv2.map (am_l g)) → W p l e R s m args below meth c H locs cells slots Q (F0 m pc2 ls2 (st2.map (am_v g)))) : W p l e R s m args below meth c H locs cells slots Q (F0 m pc ls (st.map (am_v g))) := by
  split at h
  · rename_i x r t ht
    refine lv_if_gt hx hb hd (am_jp_ok ht) (fun q => ?_) (fun q => ?_)
    · rw [if_pos q] at h; cases h; exact K ls hl
    · rw [if_neg q] at h; cases h; exact K ls hl
  · cases h
theorem am_s56 {off : Int} (hx : p.tables.exec = Jvm.exec) (hb : c.code = cc) (hg : ∀ x y, g x = g y → x = y) (hd : decode cc pc = .ok (.ifCond .le off, 3)) (h : (match st, am_jp pc off with | .int x :: r, some t => if x ≤ 0 then some (t, lv, r) else some (pc + 3, lv, r) | _, _ => none) = some (pc2, lv2, st2)) (hl : lv_has ls nL (lv.map (am_l g))) (K : ∀ ls2 : Array Slot, lv_has ls2 nL (lv2.map (am_l g)) → W p l e R s m args below meth c H locs cells slots Q (F0 m pc2 ls2 (st2.map (am_v g)))) : W p l e R s m args below meth c H locs cells slots Q (F0 m pc ls (st.map (am_v g))) := by
  split at h
  · rename_i x r t ht
    refine lv_if_le hx hb hd (am_jp_ok ht) (fun q => ?_) (fun q => ?_)
    · rw [if_pos q] at h; cases h; exact K ls hl
    · rw [if_neg q] at h; cases h; exact K ls hl
  · cases h
theorem am_s57 {off : Int} (hx : p.tables.exec = Jvm.exec) (hb : c.code = cc) (hg : ∀ x y, g x = g y → x = y) (hd : decode cc pc = .ok (.if_icmp .eq off, 3)) (h : (match st, am_jp pc off with | .int y :: .int x :: r, some t => if x = y then some (t, lv, r) else some (pc + 3, lv, r) | _, _ => none) = some (pc2, lv2, st2)) (hl : lv_has ls nL (lv.map (am_l g))) (K : ∀ ls2 : Array Slot, lv_has ls2 nL (lv2.map (am_l g)) → W p l e R s m args below meth c H locs cells slots Q (F0 m pc2 ls2 (st2.map (am_v g)))) : W p l e R s m args below meth c H locs cells slots Q (F0 m pc ls (st.map (am_v g))) := by
  split at h
  · rename_i y x r t ht
    refine lv_icmp_eq hx hb hd (am_jp_ok ht) (fun q => ?_) (fun q => ?_)
    · rw [if_pos q] at h; cases h; exact K ls hl
    · rw [if_neg q] at h; cases h; exact K ls hl
  · cases h
theorem am_s58 {off : Int} (hx : p.tables.exec = Jvm.exec) (hb : c.code = cc) (hg : ∀ x y, g x = g y → x = y) (hd : decode cc pc = .ok (.if_icmp .ne off, 3)) (h : (match st, am_jp pc off with | .int y :: .int x :: r, some t => if x = y then some (pc + 3, lv, r) else some (t, lv, r) | _, _ => none) = some (pc2, lv2, st2)) (hl : lv_has ls nL (lv.map (am_l g))) (K : ∀ ls2 : Array Slot, lv_has ls2 nL (lv2.map (am_l g)) → W p l e R s m args below meth c H locs cells slots Q (F0 m pc2 ls2 (st2.map (am_v g)))) : W p l e R s m args below meth c H locs cells slots Q (F0 m pc ls (st.map (am_v g))) := by
  split at h
  · rename_i y x r t ht
    refine lv_icmp_ne hx hb hd (am_jp_ok ht) (fun q => ?_) (fun q => ?_)
    · rw [if_neg q] at h; cases h; exact K ls hl
    · rw [if_pos q] at h; cases h; exact K ls hl
  · cases h
theorem am_s59 {off : Int} (hx : p.tables.exec = Jvm.exec) (hb : c.code = cc) (hg : ∀ x y, g x = g y → x = y) (hd : decode cc pc = .ok (.if_icmp .lt off, 3)) (h : (match st, am_jp pc off with | .int y :: .int x :: r, some t => if x < y then some (t, lv, r) else some (pc + 3, lv, r) | _, _ => none) = some (pc2, lv2, st2)) (hl : lv_has ls nL (lv.map (am_l g))) (K : ∀ ls2 : Array Slot, lv_has ls2 nL (lv2.map (am_l g)) → W p l e R s m args below meth c H locs cells slots Q (F0 m pc2 ls2 (st2.map (am_v g)))) : W p l e R s m args below meth c H locs cells slots Q (F0 m pc ls (st.map (am_v g))) := by
  split at h
  · rename_i y x r t ht
    refine lv_icmp_lt hx hb hd (am_jp_ok ht) (fun q => ?_) (fun q => ?_)
    · rw [if_pos q] at h; cases h; exact K ls hl
    · rw [if_neg q] at h; cases h; exact K ls hl
  · cases h
theorem am_s60 {off : Int} (hx : p.tables.exec = Jvm.exec) (hb : c.code = cc) (hg : ∀ x y, g x = g y → x = y) (hd : decode cc pc = .ok (.if_icmp .ge off, 3)) (h : (match st, am_jp pc off with | .int y :: .int x :: r, some t => if y ≤ x then some (t, lv, r) else some (pc + 3, lv, r) | _, _ => none) = some (pc2, lv2, st2)) (hl : lv_has ls nL (lv.map (am_l g))) (K : ∀ ls2 : Array Slot, lv_has ls2 nL (lv2.map (am_l g)) → W p l e R s m args below meth c H locs cells slots Q (F0 m pc2 ls2 (st2.map (am_v g)))) : W p l e R s m args below meth c H locs cells slots Q (F0 m pc ls (st.map (am_v g))) := by
  split at h
  · rename_i y x r t ht
    refine lv_icmp_ge hx hb hd (am_jp_ok ht) (fun q => ?_) (fun q => ?_)
    · rw [if_pos q] at h; cases h; exact K ls hl
    · rw [if_neg q] at h; cases h; exact K ls hl
  · cases h
theorem am_s61 {off : Int} (hx : p.tables.exec = Jvm.exec) (hb : c.code = cc) (hg : ∀ x y, g x = g y → x = y) (hd : decode cc pc = .ok (.if_icmp .gt off, 3)) (h : (match st, am_jp pc off with | .int y :: .int x :: r, some t => if y < x then some (t, lv, r) else some (pc + 3, lv, r) | _, _ => none) = some (pc2, lv2, st2)) (hl : lv_has ls nL (lv.map (am_l g))) (K : ∀ ls2 : Array Slot, lv_has ls2 nL (lv2.map (am_l g)) → W p l e R s m args below meth c H locs cells slots Q (F0 m pc2 ls2 (st2.map (am_v g)))) : W p l e R s m args below meth c H locs cells slots Q (F0 m pc ls (st.map (am_v g))) := by
  split at h
  · rename_i y x r t ht
    refine lv_icmp_gt hx hb hd (am_jp_ok ht) (fun q => ?_) (fun q => ?_)
    · rw [if_pos q] at h; cases h; exact K ls hl
    · rw [if_neg q] at h; cases h; exact K ls hl
  · cases h
theorem am_s62 {off : Int} (hx : p.tables.exec = Jvm.exec) (hb : c.code = cc) (hg : ∀ x y, g x = g y → x = y) (hd : decode cc pc = .ok (.if_icmp .le off, 3)) (h : (match st, am_jp pc off with | .int y :: .int x :: r, some t => if x ≤ y then some (t, lv, r) else some (pc + 3, lv, r) | _, _ => none) = some (pc2, lv2, st2)) (hl : lv_has ls nL (lv.map (am_l g))) (K : ∀ ls2 : Array Slot, lv_has ls2 nL (lv2.map (am_l g)) → W p l e R s m args below meth c H locs cells slots Q (F0 m pc2 ls2 (st2.map (am_v g)))) : W p l e R s m args below meth c H locs cells slots Q (F0 m pc ls (st.map (am_v g))) := by
  split at h
  · rename_i y x r t ht
    refine lv_icmp_le hx hb hd (am_jp_ok ht) (fun q => ?_) (fun q => ?_)
    · rw [if_pos q] at h; cases h; exact K ls hl
    · rw [if_neg q] at h; cases h; exact K ls hl
  · cases h
theorem am_s63 {off : Int} (hx : p.tables.exec = Jvm.exec) (hb : c.code = cc) (hg : ∀ x y, g x = g y → x = y) (hd : decode cc pc = .ok (.ifnull off, 3)) (h : (match st, am_jp pc off with | .null :: r, some t => some (t, lv, r) | .ref _ :: r, _ => some (pc + 3, lv, r) | _, _ => none) = some (pc2, lv2, st2)) (hl : lv_has ls nL (lv.map (am_l g))) (K : ∀ ls2 : Array Slot, lv_has ls2 nL (lv2.map (am_l g)) → W p l e R s m args below meth c H locs cells slots Q (F0 m pc2 ls2 (st2.map (am_v g)))) : W p l e R s m args below meth c H locs cells slots Q (F0 m pc ls (st.map (am_v g))) := by
  split at h
  · rename_i r t ht
    cases h
    exact lv_ifnullN hx hb hd (am_jp_ok ht) (K ls hl)
  · cases h
    exact lv_ifnull hx hb hd (K ls hl)
  · cases h
theorem am_s64 {off : Int} (hx : p.tables.exec = Jvm.exec) (hb : c.code = cc) (hg : ∀ x y, g x = g y → x = y) (hd : decode cc pc = .ok (.ifnonnull off, 3)) (h : (match st, am_jp pc off with | .ref _ :: r, some t => some (t, lv, r) | .null :: r, _ => some (pc + 3, lv, r) | _, _ => none) = some (pc2, lv2, st2)) (hl : lv_has ls nL (lv.map (am_l g))) (K : ∀ ls2 : Array Slot, lv_has ls2 nL (lv2.map (am_l g)) → W p l e R s m args below meth c H locs cells slots Q (F0 m pc2 ls2 (st2.map (am_v g)))) : W p l e R s m args below meth c H locs cells slots Q (F0 m pc ls (st.map (am_v g))) := by
  split at h
  · rename_i x r t ht
    cases h
    exact lv_ifnonnull hx hb hd (am_jp_ok ht) (K ls hl)
  · cases h
    exact lv_ifnonnullN hx hb hd (K ls hl)
  · cases h
theorem am_s65 {off : Int} (hx : p.tables.exec = Jvm.exec) (hb : c.code = cc) (hg : ∀ x y, g x = g y → x = y) (hd : decode cc pc = .ok (.if_acmp .eq off, 3)) (h : (match st, am_jp pc off with | .ref y :: .ref x :: r, some t => if x = y then some (t, lv, r) else some (pc + 3, lv, r) | .null :: .ref _ :: r, some t => some (pc + 3, lv, r) | .ref _ :: .null :: r, some t => some (pc + 3, lv, r) | .null :: .null :: r, some t => some (t, lv, r) | _, _ => none) = some (pc2, lv2, st2)) (hl : lv_has ls nL (lv.map (am_l g))) (K : ∀ ls2 : Array Slot, lv_has ls2 nL (lv2.map (am_l g)) → W p l e R s m args below meth c H locs cells slots Q (F0 m pc2 ls2 (st2.map (am_v g)))) : W p l e R s m args below meth c H locs cells slots Q (F0 m pc ls (st.map (am_v g))) := by
  split at h
  · rename_i y x r t ht
    refine lv_acmp_eq (rx := some (g x)) (ry := some (g y)) hx hb hd (am_jp_ok ht) (fun q => ?_) (fun q => ?_)
    · rw [if_pos (hg x y (Option.some.inj q))] at h; cases h; exact K ls hl
    · rw [if_neg (fun z => q (by rw [z]))] at h; cases h; exact K ls hl
  · rename_i x r t ht
    cases h
    refine lv_acmp_eq (rx := some (g x)) (ry := none) hx hb hd (am_jp_ok ht) (fun q => by cases q) (fun q => K ls hl)
  · rename_i y r t ht
    cases h
    refine lv_acmp_eq (rx := none) (ry := some (g y)) hx hb hd (am_jp_ok ht) (fun q => by cases q) (fun q => K ls hl)
  · rename_i r t ht
    cases h
    refine lv_acmp_eq (rx := none) (ry := none) hx hb hd (am_jp_ok ht) (fun q => K ls hl) (fun q => absurd rfl q)
  · cases h
theorem am_s66 {off : Int} (hx : p.tables.exec = Jvm.exec) (hb : c.code = cc) (hg : ∀ x y, g x = g y → x = y) (hd : decode cc pc = .ok (.if_acmp .ne off, 3)) (h : (match st, am_jp pc off with | .ref y :: .ref x :: r, some t => if x = y then some (pc + 3, lv, r) else some (t, lv, r) | .null :: .ref _ :: r, some t => some (t, lv, r) | .ref _ :: .null :: r, some t => some (t, lv, r) | .null :: .null :: r, some t => some (pc + 3, lv, r) | _, _ => none) = some (pc2, lv2, st2)) (hl : lv_has ls nL (lv.map (am_l g))) (K : ∀ ls2 : Array Slot, lv_has ls2 nL (lv2.map (am_l g)) → W p l e R s m args below meth c H locs cells slots Q (F0 m pc2 ls2 (st2.map (am_v g)))) : W p l e R s m args below meth c H locs cells slots Q (F0 m pc ls (st.map (am_v g))) := by
  split at h
  · rename_i y x r t ht
    refine lv_acmp_ne (rx := some (g x)) (ry := some (g y)) hx hb hd (am_jp_ok ht) (fun q => ?_) (fun q => ?_)
    · rw [if_neg (fun z => q (by rw [z]))] at h; cases h; exact K ls hl
    · rw [if_pos (hg x y (Option.some.inj q))] at h; cases h; exact K ls hl
  · rename_i x r t ht
    cases h
    refine lv_acmp_ne (rx := some (g x)) (ry := none) hx hb hd (am_jp_ok ht) (fun q => K ls hl) (fun q => by cases q)
  · rename_i y r t ht
    cases h
    refine lv_acmp_ne (rx := none) (ry := some (g y)) hx hb hd (am_jp_ok ht) (fun q => K ls hl) (fun q => by cases q)
  · rename_i r t ht
    cases h
    refine lv_acmp_ne (rx := none) (ry := none) hx hb hd (am_jp_ok ht) (fun q => absurd rfl q) (fun q => K ls hl)
  · cases h
theorem am_s67 {d : Int} {lo : Int} {hi : Int} {offs : Array Int} {ln : Nat} (hx : p.tables.exec = Jvm.exec) (hb : c.code = cc) (hg : ∀ x y, g x = g y → x = y) (hd : decode cc pc = .ok (.tableswitch d lo hi offs, ln)) (h : (match st with | .int x :: r => if x.toInt < lo ∨ hi < x.toInt then (match am_jp pc d with | some t => some (t, lv, r) | none => none) else (match offs[(x.toInt - lo).toNat]? with | some off => (match am_jp pc off with | some t => some (t, lv, r) | none => none) | none => none) | _ => none) = some (pc2, lv2, st2)) (hl : lv_has ls nL (lv.map (am_l g))) (K : ∀ ls2 : Array Slot, lv_has ls2 nL (lv2.map (am_l g)) → W p l e R s m args below meth c H locs cells slots Q (F0 m pc2 ls2 (st2.map (am_v g)))) : W p l e R s m args below meth c H locs cells slots Q (F0 m pc ls (st.map (am_v g))) := by
  split at h
  · split at h
    · rename_i q
      split at h
      · rename_i t ht
        cases h
        exact lv_tableOut hx hb hd q (am_jp_ok ht) (K ls hl)
      · cases h
    · rename_i q
      split at h
      · rename_i off ho
        split at h
        · rename_i t ht
          cases h
          exact lv_tableIn hx hb hd (fun z => q (Or.inl z)) (fun z => q (Or.inr z)) ho (am_jp_ok ht) (K ls hl)
        · cases h
      · cases h
  · cases h
theorem am_s68 {d : Int} {ps : Array (Int × Int)} {ln : Nat} (hx : p.tables.exec = Jvm.exec) (hb : c.code = cc) (hg : ∀ x y, g x = g y → x = y) (hd : decode cc pc = .ok (.lookupswitch d ps, ln)) (h : (match st with | .int x :: r => if (ps.toList.zip (ps.toList.drop 1)).all (fun q => decide (q.1.1 < q.2.1)) = true then (match am_jp pc (Op.lookupswitch.offset ps.toList d x.toInt) with | some t => some (t, lv, r) | none => none) else none | _ => none) = some (pc2, lv2, st2)) (hl : lv_has ls nL (lv.map (am_l g))) (K : ∀ ls2 : Array Slot, lv_has ls2 nL (lv2.map (am_l g)) → W p l e R s m args below meth c H locs cells slots Q (F0 m pc2 ls2 (st2.map (am_v g)))) : W p l e R s m args below meth c H locs cells slots Q (F0 m pc ls (st.map (am_v g))) := by
  split at h
  · split at h
    · rename_i q
      split at h
      · rename_i t ht
        cases h
        exact lv_lookup hx hb hd q rfl (am_jp_ok ht) (K ls hl)
      · cases h
    · cases h
  · cases h
end AM1
theorem am_le {cc : ByteArray} {pc len n : Nat} {i : Instr} (hk : am_ln i = 0 ∨ am_ln i = len) (h0 : am_ln i = n) (hn : n ≠ 0) (hd : decode cc pc = .ok (i, len)) : decode cc pc = .ok (i, n) := by
  rcases hk with h | h
  · exact absurd (h0.symm.trans h) hn
  · rw [hd, ← h0, h]
theorem am_pu_ok {p : Program} {l : Launch} {e : Env} {R : Room} {s : State} {m : MethodId} {args : Array Value} {below : List Frame} {meth : Method} {c : Code} {H : Heap} {locs : List Loc} {cells slots : Nat} {Q : State → Prop} {cc : ByteArray} {pc nL pc2 : Nat} {ls : Array Slot} {lv lv2 : List (Nat × Value)} {st st2 : List Value} {g : Nat → Nat} {i : Instr} {len : Nat} (hx : p.tables.exec = Jvm.exec) (hb : c.code = cc) (hg : ∀ x y, g x = g y → x = y) (hd : decode cc pc = .ok (i, len)) (hk : am_ln i = 0 ∨ am_ln i = len) (h : am_pu nL i pc lv st = some (pc2, lv2, st2)) (hl : lv_has ls nL (lv.map (am_l g))) (K : ∀ ls2 : Array Slot, lv_has ls2 nL (lv2.map (am_l g)) → W p l e R s m args below meth c H locs cells slots Q (F0 m pc2 ls2 (st2.map (am_v g)))) : W p l e R s m args below meth c H locs cells slots Q (F0 m pc ls (st.map (am_v g))) := by
  match i, hd, hk, h with
  | .iconst n, hd, hk, h => exact am_s0 hx hb hg (am_le (n := 1) hk rfl (by decide) hd) h hl K
  | .bipush n, hd, hk, h => exact am_s1 hx hb hg (am_le (n := 2) hk rfl (by decide) hd) h hl K
  | .sipush n, hd, hk, h => exact am_s2 hx hb hg (am_le (n := 3) hk rfl (by decide) hd) h hl K
  | .lconst n, hd, hk, h => exact am_s3 hx hb hg (am_le (n := 1) hk rfl (by decide) hd) h hl K
  | .aconst_null, hd, hk, h => exact am_s4 hx hb hg (am_le (n := 1) hk rfl (by decide) hd) h hl K
  | .iload_n k, hd, hk, h => exact am_s5 hx hb hg (am_le (n := 1) hk rfl (by decide) hd) h hl K
  | .iload k, hd, hk, h => exact am_s6 hx hb hg (am_le (n := 2) hk rfl (by decide) hd) h hl K
  | .lload_n k, hd, hk, h => exact am_s7 hx hb hg (am_le (n := 1) hk rfl (by decide) hd) h hl K
  | .lload k, hd, hk, h => exact am_s8 hx hb hg (am_le (n := 2) hk rfl (by decide) hd) h hl K
  | .aload_n k, hd, hk, h => exact am_s9 hx hb hg (am_le (n := 1) hk rfl (by decide) hd) h hl K
  | .aload k, hd, hk, h => exact am_s10 hx hb hg (am_le (n := 2) hk rfl (by decide) hd) h hl K
  | .istore_n k, hd, hk, h => exact am_s11 hx hb hg (am_le (n := 1) hk rfl (by decide) hd) h hl K
  | .istore k, hd, hk, h => exact am_s12 hx hb hg (am_le (n := 2) hk rfl (by decide) hd) h hl K
  | .lstore_n k, hd, hk, h => exact am_s13 hx hb hg (am_le (n := 1) hk rfl (by decide) hd) h hl K
  | .lstore k, hd, hk, h => exact am_s14 hx hb hg (am_le (n := 2) hk rfl (by decide) hd) h hl K
  | .astore_n k, hd, hk, h => exact am_s15 hx hb hg (am_le (n := 1) hk rfl (by decide) hd) h hl K
  | .astore k, hd, hk, h => exact am_s16 hx hb hg (am_le (n := 2) hk rfl (by decide) hd) h hl K
  | .iinc k n, hd, hk, h => exact am_s17 hx hb hg (am_le (n := 3) hk rfl (by decide) hd) h hl K
  | .iadd, hd, hk, h => exact am_s18 hx hb hg (am_le (n := 1) hk rfl (by decide) hd) h hl K
  | .isub, hd, hk, h => exact am_s19 hx hb hg (am_le (n := 1) hk rfl (by decide) hd) h hl K
  | .imul, hd, hk, h => exact am_s20 hx hb hg (am_le (n := 1) hk rfl (by decide) hd) h hl K
  | .iand, hd, hk, h => exact am_s21 hx hb hg (am_le (n := 1) hk rfl (by decide) hd) h hl K
  | .ior, hd, hk, h => exact am_s22 hx hb hg (am_le (n := 1) hk rfl (by decide) hd) h hl K
  | .ixor, hd, hk, h => exact am_s23 hx hb hg (am_le (n := 1) hk rfl (by decide) hd) h hl K
  | .ishl, hd, hk, h => exact am_s24 hx hb hg (am_le (n := 1) hk rfl (by decide) hd) h hl K
  | .ishr, hd, hk, h => exact am_s25 hx hb hg (am_le (n := 1) hk rfl (by decide) hd) h hl K
  | .iushr, hd, hk, h => exact am_s26 hx hb hg (am_le (n := 1) hk rfl (by decide) hd) h hl K
  | .idiv, hd, hk, h => exact am_s27 hx hb hg (am_le (n := 1) hk rfl (by decide) hd) h hl K
  | .irem, hd, hk, h => exact am_s28 hx hb hg (am_le (n := 1) hk rfl (by decide) hd) h hl K
  | .ineg, hd, hk, h => exact am_s29 hx hb hg (am_le (n := 1) hk rfl (by decide) hd) h hl K
  | .i2b, hd, hk, h => exact am_s30 hx hb hg (am_le (n := 1) hk rfl (by decide) hd) h hl K
  | .i2s, hd, hk, h => exact am_s31 hx hb hg (am_le (n := 1) hk rfl (by decide) hd) h hl K
  | .i2c, hd, hk, h => exact am_s32 hx hb hg (am_le (n := 1) hk rfl (by decide) hd) h hl K
  | .ladd, hd, hk, h => exact am_s33 hx hb hg (am_le (n := 1) hk rfl (by decide) hd) h hl K
  | .lsub, hd, hk, h => exact am_s34 hx hb hg (am_le (n := 1) hk rfl (by decide) hd) h hl K
  | .lmul, hd, hk, h => exact am_s35 hx hb hg (am_le (n := 1) hk rfl (by decide) hd) h hl K
  | .land, hd, hk, h => exact am_s36 hx hb hg (am_le (n := 1) hk rfl (by decide) hd) h hl K
  | .lor, hd, hk, h => exact am_s37 hx hb hg (am_le (n := 1) hk rfl (by decide) hd) h hl K
  | .lxor, hd, hk, h => exact am_s38 hx hb hg (am_le (n := 1) hk rfl (by decide) hd) h hl K
  | .lneg, hd, hk, h => exact am_s39 hx hb hg (am_le (n := 1) hk rfl (by decide) hd) h hl K
  | .lshl, hd, hk, h => exact am_s40 hx hb hg (am_le (n := 1) hk rfl (by decide) hd) h hl K
  | .lshr, hd, hk, h => exact am_s41 hx hb hg (am_le (n := 1) hk rfl (by decide) hd) h hl K
  | .lushr, hd, hk, h => exact am_s42 hx hb hg (am_le (n := 1) hk rfl (by decide) hd) h hl K
  | .i2l, hd, hk, h => exact am_s43 hx hb hg (am_le (n := 1) hk rfl (by decide) hd) h hl K
  | .l2i, hd, hk, h => exact am_s44 hx hb hg (am_le (n := 1) hk rfl (by decide) hd) h hl K
  | .lcmp, hd, hk, h => exact am_s45 hx hb hg (am_le (n := 1) hk rfl (by decide) hd) h hl K
  | .dup, hd, hk, h => exact am_s46 hx hb hg (am_le (n := 1) hk rfl (by decide) hd) h hl K
  | .pop, hd, hk, h => exact am_s47 hx hb hg (am_le (n := 1) hk rfl (by decide) hd) h hl K
  | .dup_x1, hd, hk, h => exact am_s48 hx hb hg (am_le (n := 1) hk rfl (by decide) hd) h hl K
  | .dup2, hd, hk, h => exact am_s49 hx hb hg (am_le (n := 1) hk rfl (by decide) hd) h hl K
  | .goto off, hd, hk, h => exact am_s50 hx hb hg (am_le (n := 3) hk rfl (by decide) hd) h hl K
  | .ifCond .eq off, hd, hk, h => exact am_s51 hx hb hg (am_le (n := 3) hk rfl (by decide) hd) h hl K
  | .ifCond .ne off, hd, hk, h => exact am_s52 hx hb hg (am_le (n := 3) hk rfl (by decide) hd) h hl K
  | .ifCond .lt off, hd, hk, h => exact am_s53 hx hb hg (am_le (n := 3) hk rfl (by decide) hd) h hl K
  | .ifCond .ge off, hd, hk, h => exact am_s54 hx hb hg (am_le (n := 3) hk rfl (by decide) hd) h hl K
  | .ifCond .gt off, hd, hk, h => exact am_s55 hx hb hg (am_le (n := 3) hk rfl (by decide) hd) h hl K
  | .ifCond .le off, hd, hk, h => exact am_s56 hx hb hg (am_le (n := 3) hk rfl (by decide) hd) h hl K
  | .if_icmp .eq off, hd, hk, h => exact am_s57 hx hb hg (am_le (n := 3) hk rfl (by decide) hd) h hl K
  | .if_icmp .ne off, hd, hk, h => exact am_s58 hx hb hg (am_le (n := 3) hk rfl (by decide) hd) h hl K
  | .if_icmp .lt off, hd, hk, h => exact am_s59 hx hb hg (am_le (n := 3) hk rfl (by decide) hd) h hl K
  | .if_icmp .ge off, hd, hk, h => exact am_s60 hx hb hg (am_le (n := 3) hk rfl (by decide) hd) h hl K
  | .if_icmp .gt off, hd, hk, h => exact am_s61 hx hb hg (am_le (n := 3) hk rfl (by decide) hd) h hl K
  | .if_icmp .le off, hd, hk, h => exact am_s62 hx hb hg (am_le (n := 3) hk rfl (by decide) hd) h hl K
  | .ifnull off, hd, hk, h => exact am_s63 hx hb hg (am_le (n := 3) hk rfl (by decide) hd) h hl K
  | .ifnonnull off, hd, hk, h => exact am_s64 hx hb hg (am_le (n := 3) hk rfl (by decide) hd) h hl K
  | .if_acmp .eq off, hd, hk, h => exact am_s65 hx hb hg (am_le (n := 3) hk rfl (by decide) hd) h hl K
  | .if_acmp .ne off, hd, hk, h => exact am_s66 hx hb hg (am_le (n := 3) hk rfl (by decide) hd) h hl K
  | .tableswitch d lo hi offs, hd, hk, h => exact am_s67 hx hb hg hd h hl K
  | .lookupswitch d ps, hd, hk, h => exact am_s68 hx hb hg hd h hl K
end
section
abbrev am_E : Type := (Nat × vp_A) ⊕ (Nat × List Value)
abbrev am_M : Type := MethodName × ByteArray × Nat × Option FieldType × Nat
abbrev am_T : Type := (Nat → Option am_M) × (Nat → Nat → Option (Instr × Nat)) × (Nat → Nat → Option (Nat × Nat × FieldType × Nat)) × (Nat → Nat → Option (Nat × Nat × Nat)) × (Nat → Nat → Option (Nat × Nat)) × (Nat → Nat → Option Value) × List FieldType × List vw_C × (Nat → List Value) × List (String × String × String × Nat)
abbrev am_mt (T : am_T) := T.1
abbrev am_in (T : am_T) := T.2.1
abbrev am_fl (T : am_T) := T.2.2.1
abbrev am_ml (T : am_T) := T.2.2.2.1
abbrev am_kl (T : am_T) := T.2.2.2.2.1
abbrev am_cs (T : am_T) := T.2.2.2.2.2.1
abbrev am_ty (T : am_T) := T.2.2.2.2.2.2.1
abbrev am_cl (T : am_T) := T.2.2.2.2.2.2.2.1
abbrev am_df (T : am_T) := T.2.2.2.2.2.2.2.2.1
abbrev am_sx (T : am_T) := T.2.2.2.2.2.2.2.2.2
def am_lx (g : Nat → Nat) (x : (Nat → Int32) ⊕ (Nat → Int64) ⊕ (Nat → UInt32) ⊕ (Nat → UInt64) ⊕ (Nat → Option Nat)) : (Nat → Int32) ⊕ (Nat → Int64) ⊕ (Nat → UInt32) ⊕ (Nat → UInt64) ⊕ (Nat → Option Nat) := match x with
  | .inl f => .inl f
  | .inr (.inl f) => .inr (.inl f)
  | .inr (.inr (.inl f)) => .inr (.inr (.inl f))
  | .inr (.inr (.inr (.inl f))) => .inr (.inr (.inr (.inl f)))
  | .inr (.inr (.inr (.inr f))) => .inr (.inr (.inr (.inr (fun j => (f j).map g))))
def am_lo (g : Nat → Nat) (dT : Nat → ClassId) (c : am_E) : va_E := match c with
  | .inl (t, n, x) => .inl (dT t, n, am_lx g x)
  | .inr (ci, fs) => .inr (ci, fs.map (am_v g))
def am_ws (g : Nat → Nat) (dT : Nat → ClassId) (k : Nat) (h : List am_E) : va_W := h.mapIdx (fun i c => (g (k + i), am_lo g dT c))
theorem am_ws_at {g : Nat → Nat} {dT : Nat → ClassId} {k i : Nat} {h : List am_E} {c : am_E} (hi : h[i]? = some c) : (am_ws g dT k h)[i]? = some (g (k + i), am_lo g dT c) := by
  unfold am_ws
  rw [List.getElem?_mapIdx, hi]
  rfl
theorem am_ws_set (g : Nat → Nat) (dT : Nat → ClassId) (k i : Nat) (h : List am_E) (c : am_E) : am_ws g dT k (h.set i c) = (am_ws g dT k h).set i (g (k + i), am_lo g dT c) := by
  apply List.ext_getElem?
  intro j
  unfold am_ws
  rw [List.getElem?_mapIdx]
  by_cases hj : i = j
  · subst hj
    by_cases hl : i < h.length
    · rw [List.getElem?_set_self hl, List.getElem?_set_self (by simpa using hl)]
      rfl
    · rw [List.getElem?_eq_none (by simp; omega), List.getElem?_eq_none (by simp; omega)]
      rfl
  · rw [List.getElem?_set_ne hj, List.getElem?_set_ne hj, List.getElem?_mapIdx]
theorem am_ws_push (g : Nat → Nat) (dT : Nat → ClassId) (k : Nat) (h : List am_E) (c : am_E) : am_ws g dT k (h ++ [c]) = am_ws g dT k h ++ [(g (k + h.length), am_lo g dT c)] := by
  unfold am_ws
  rw [List.mapIdx_append]
  simp
def am_tl (T : am_T) (dT : Nat → ClassId) : List (ClassId × FieldType) := (am_ty T).mapIdx (fun t y => (dT t, y))
theorem am_tl_at {T : am_T} {dT : Nat → ClassId} {t : Nat} {y : FieldType} (h : (am_ty T)[t]? = some y) : (am_tl T dT)[t]? = some (dT t, y) := by
  unfold am_tl
  rw [List.getElem?_mapIdx, h]
  rfl
def am_G (g : Nat → Nat) (N k : Nat) : Prop := (∀ i, g (k + i) = N + i) ∧ (∀ x y, g x = g y → x = y)
def am_W (T : am_T) (D : va_G) (dT : Nat → ClassId) (g : Nat → Nat) (N k : Nat) (h : List am_E) (H : Heap) : Prop := H.size = N + h.length ∧ va_P D (am_cl T) (am_ws g dT k h) H
theorem am_D {g : Nat → Nat} {dT : Nat → ClassId} {N k : Nat} (hG : am_G g N k) (h : List am_E) : va_D (fun q => N ≤ q) (am_ws g dT k h) := by
  have key : ∀ (i : Nat) (q : Nat × va_E), (am_ws g dT k h)[i]? = some q → q.1 = g (k + i) := by
    intro i q hq
    unfold am_ws at hq
    rw [List.getElem?_mapIdx] at hq
    cases hc : h[i]? with
    | none => rw [hc] at hq; cases hq
    | some c => rw [hc] at hq; cases hq; rfl
  refine ⟨fun i j x y hi hj hxy => ?_, fun i q hq => ?_⟩
  · rw [key i x hi, key j y hj] at hxy
    have := hG.2 _ _ hxy
    omega
  · rw [key i q hq, hG.1]
    exact Nat.le_add_right N i
def am_vl (x : (Nat → Int32) ⊕ (Nat → Int64) ⊕ (Nat → UInt32) ⊕ (Nat → UInt64) ⊕ (Nat → Option Nat)) : Nat → Value := match x with
  | .inl f => fun j => .int (f j)
  | .inr (.inl f) => fun j => .long (f j)
  | _ => fun _ => .null
def am_RO (T : am_T) (g : Nat → Nat) (N : Nat) (ro : List am_E) (U : State) : Prop := (∀ (i t n : Nat) (x : (Nat → Int32) ⊕ (Nat → Int64) ⊕ (Nat → UInt32) ⊕ (Nat → UInt64) ⊕ (Nat → Option Nat)) (y : FieldType), ro[i]? = some (.inl (t, n, x)) → (am_ty T)[t]? = some y → va_T y (g i) n (am_vl x) (fun q => N ≤ q) U U.heap) ∧ ∀ q ∈ am_sx T, va_Z q.1 q.2.1 q.2.2.1 (.ref (g q.2.2.2)) (fun q => N ≤ q) U U.heap
def am_okF (T : am_T) (Ts : List Cond) : Prop := ∀ (m idx ci kf : Nat) (ty : FieldType) (md : Nat) (M : am_M), am_fl T m idx = some (ci, kf, ty, md) → am_mt T m = some M → ∃ (C : String) (TT : u_T) (N : Nat), (am_cl T)[ci]? = some (C, TT, N) ∧ kf < N ∧ Cond.fieldLink M.1.cls idx (TT kf).1 (TT kf).2.1 (TT kf).2.2.1 ∈ Ts ∧ parseFieldDescriptor (TT kf).2.2.1 = some ty ∧ (md = 0 → (TT kf).2.2.2 = false) ∧ (md = 2 → (TT kf).2.2.2 = true ∧ (TT kf).1 = M.1.cls ∧ M.1.name = "<init>")
def am_okC (T : am_T) (Ts : List Cond) : Prop := ∀ (ci : Nat) (C : String) (TT : u_T) (N : Nat), (am_cl T)[ci]? = some (C, TT, N) → (∀ w ∈ u_ws C TT N, w ∈ Ts) ∧ (∃ ty0 : Nat → FieldType, (∀ k, k < N → parseFieldDescriptor (TT k).2.2.1 = some (ty0 k)) ∧ ∀ j, j < N → defaultValue (ty0 j) = vp_V (am_df T ci) j ∧ ∃ z, (am_df T ci)[j]? = some z ∧ ∀ g, am_v g z = z) ∧ (am_df T ci).length = N ∧ (∀ a, a < N → ∀ b, b < N → a ≠ b → (TT a).2.1 ≠ (TT b).2.1) ∧ Cond.instantiable C N ∈ Ts ∧ Cond.initialized C ∈ Ts
def am_okK (T : am_T) (Ts : List Cond) : Prop := ∀ (m idx ci t : Nat) (M : am_M), am_kl T m idx = some (ci, t) → am_mt T m = some M → (∀ (C : String) (TT : u_T) (N : Nat), (am_cl T)[ci]? = some (C, TT, N) → Cond.classLink M.1.cls idx C ∈ Ts) ∧ ∀ C : String, (am_ty T)[t]? = some (.object C) → Cond.classLink M.1.cls idx C ∈ Ts
def am_okS (T : am_T) (Ts : List Cond) : Prop := ∀ (m idx : Nat) (v : Value) (M : am_M), am_cs T m idx = some v → am_mt T m = some M → (∀ x, v = .int x → Cond.constant M.1.cls idx x ∈ Ts) ∧ (∀ x, v = .long x → Cond.constantLong M.1.cls idx x ∈ Ts) ∧ ∀ a, v = .ref a → ∃ q ∈ am_sx T, q.2.2.2 = a ∧ Cond.fieldLink M.1.cls idx q.1 q.2.1 q.2.2.1 ∈ Ts
def am_okT (T : am_T) (Ts : List Cond) : Prop := ((am_ty T)[0]? = some .int ∧ Cond.arrayClass .int ∈ Ts) ∧ ((am_ty T)[1]? = some .long ∧ Cond.arrayClass .long ∈ Ts) ∧ ((am_ty T)[2]? = some .byte ∧ Cond.arrayClass .byte ∈ Ts) ∧ ((am_ty T)[3]? = some .boolean ∧ Cond.arrayClass .boolean ∈ Ts)
def am_K (T : am_T) (D : va_G) (dT : Nat → ClassId) (s : State) : Prop := va_K D (am_cl T) (am_tl T dT) s ∧ ∀ (t : Nat) (C : String), (am_ty T)[t]? = some (.object C) → va_AO C s
def am_fit (ty : FieldType) (v : Value) : Bool := match ty, v with
  | .int, .int _ => true
  | .long, .long _ => true
  | .boolean, .int x => x == 0 || x == 1
  | .object _, .null => true
  | .object _, .ref _ => true
  | .array _, .null => true
  | .array _, .ref _ => true
  | _, _ => false
theorem am_fit_ok {ty : FieldType} {v : Value} (g : Nat → Nat) (h : am_fit ty v = true) : narrow ty (am_v g v) = am_v g v ∧ fits ty (am_v g v) = true := by
  unfold am_fit at h
  split at h
  · exact ⟨rfl, rfl⟩
  · exact ⟨rfl, rfl⟩
  · rename_i x
    have h1 : x = 0 ∨ x = 1 := by simpa using h
    rcases h1 with rfl | rfl
    · exact ⟨by show narrow .boolean (.int 0) = .int 0; decide, by show fits .boolean (.int 0) = true; decide⟩
    · exact ⟨by show narrow .boolean (.int 1) = .int 1; decide, by show fits .boolean (.int 1) = true; decide⟩
  · exact ⟨rfl, rfl⟩
  · exact ⟨rfl, rfl⟩
  · exact ⟨rfl, rfl⟩
  · exact ⟨rfl, rfl⟩
  · cases h
/-- the cell at an address: those ahead of k are only read -/
def am_at (ro h : List am_E) (a : Nat) : Option am_E := if a < ro.length then ro[a]? else h[a - ro.length]?
def am_dy (ro h : List am_E) (a : Nat) : Option am_E := if a < ro.length then none else h[a - ro.length]?
def am_up (ro h : List am_E) (a : Nat) (c : am_E) : List am_E := h.set (a - ro.length) c
theorem am_dy_ok {ro h : List am_E} {a : Nat} {c : am_E} (hd : am_dy ro h a = some c) : ∃ i, a = ro.length + i ∧ h[i]? = some c := by
  unfold am_dy at hd
  split at hd
  · cases hd
  · exact ⟨a - ro.length, by omega, hd⟩
theorem am_at_ok {ro h : List am_E} {a : Nat} {c : am_E} (hd : am_at ro h a = some c) : ro[a]? = some c ∨ ∃ i, a = ro.length + i ∧ h[i]? = some c := by
  unfold am_at at hd
  split at hd
  · exact Or.inl hd
  · exact Or.inr ⟨a - ro.length, by omega, hd⟩
theorem am_up_at (ro h : List am_E) (i : Nat) (c : am_E) : am_up ro h (ro.length + i) c = h.set i c := by
  unfold am_up
  rw [Nat.add_sub_cancel_left]
def am_ok (T : am_T) (Ts : List Cond) : Prop := am_okF T Ts ∧ am_okC T Ts ∧ am_okK T Ts ∧ am_okS T Ts ∧ am_okT T Ts
/-- what stays the same in a method's body -/
def am_C (p : Program) (s : State) (m : MethodId) (args : Array Value) (meth : Method) (c : Code) (T : am_T) (Ts : List Cond) (D : va_G) (dT : Nat → ClassId) (g : Nat → Nat) (N : Nat) (ro : List am_E) (mm : Nat) (M : am_M) : Prop := p.tables.exec = Jvm.exec ∧ c.code = M.2.1 ∧ c.maxLocals = M.2.2.1 ∧ s.vm.findClass M.1.cls = some m.cls ∧ (∀ w ∈ Ts, w.before args s = true) ∧ (M.1.name = "<init>" → meth.name = "<init>") ∧ am_mt T mm = some M ∧ am_K T D dT s ∧ am_RO T g N ro s ∧ N ≤ s.heap.size ∧ am_G g N ro.length ∧ am_ok T Ts
end
section
abbrev am_Y : Type := List Value × List am_E
def am_iin (i : Int32) (n : Nat) : Bool := !(decide (i < 0)) && decide (i.toNatClampNeg < n)
theorem am_iin_ok {i : Int32} {n : Nat} (h : am_iin i n = true) : vp_in i n := by
  unfold am_iin at h
  simp only [Bool.and_eq_true, Bool.not_eq_true', decide_eq_false_iff_not, decide_eq_true_eq] at h
  exact fun q => q.elim (fun z => h.1 z) (fun z => absurd h.2 (by omega))
def am_gf (T : am_T) (ro : List am_E) (m idx : Nat) (st : List Value) (h : List am_E) : Option am_Y := match st with
  | .ref a :: r => match am_fl T m idx with
    | some (ci, kf, _, _) => match am_dy ro h a with
      | some (.inr (cj, fs)) => if cj = ci then (match fs[kf]? with | some v => some (v :: r, h) | none => none) else none
      | _ => none
    | none => none
  | _ => none
def am_pf (T : am_T) (ro : List am_E) (m idx : Nat) (st : List Value) (h : List am_E) : Option am_Y := match st with
  | v :: .ref a :: r => match am_fl T m idx with
    | some (ci, kf, ty, md) => match am_dy ro h a with
      | some (.inr (cj, fs)) => if cj = ci ∧ kf < fs.length ∧ am_fit ty v = true ∧ (md = 0 ∨ md = 2) then some (r, am_up ro h a (.inr (cj, fs.set kf v))) else none
      | _ => none
    | none => none
  | _ => none
def am_ial (ro : List am_E) (st : List Value) (h : List am_E) : Option am_Y := match st with
  | .int i :: .ref a :: r => match am_at ro h a with
    | some (.inl (t, n, .inl f)) => if t = 0 ∧ am_iin i n = true then some (.int (f i.toNatClampNeg) :: r, h) else none
    | _ => none
  | _ => none
def am_lal (ro : List am_E) (st : List Value) (h : List am_E) : Option am_Y := match st with
  | .int i :: .ref a :: r => match am_at ro h a with
    | some (.inl (t, n, .inr (.inl f))) => if t = 1 ∧ am_iin i n = true then some (.long (f i.toNatClampNeg) :: r, h) else none
    | _ => none
  | _ => none
def am_bal (ro : List am_E) (st : List Value) (h : List am_E) : Option am_Y := match st with
  | .int i :: .ref a :: r => match am_dy ro h a with
    | some (.inl (t, n, .inl f)) => if (t = 2 ∨ t = 3) ∧ am_iin i n = true then some (.int (f i.toNatClampNeg) :: r, h) else none
    | _ => none
  | _ => none
def am_aal (T : am_T) (ro : List am_E) (st : List Value) (h : List am_E) : Option am_Y := match st with
  | .int i :: .ref a :: r => match am_dy ro h a with
    | some (.inl (t, n, .inr (.inr (.inr (.inr f))))) => match (am_ty T)[t]? with
      | some (.object _) => if am_iin i n = true then some (va_rf (f i.toNatClampNeg) :: r, h) else none
      | _ => none
    | _ => none
  | _ => none
def am_ias (ro : List am_E) (st : List Value) (h : List am_E) : Option am_Y := match st with
  | .int x :: .int i :: .ref a :: r => match am_dy ro h a with
    | some (.inl (t, n, .inl f)) => if t = 0 ∧ am_iin i n = true then some (r, am_up ro h a (.inl (t, n, .inl (upd f i.toNatClampNeg x)))) else none
    | _ => none
  | _ => none
def am_las (ro : List am_E) (st : List Value) (h : List am_E) : Option am_Y := match st with
  | .long x :: .int i :: .ref a :: r => match am_dy ro h a with
    | some (.inl (t, n, .inr (.inl f))) => if t = 1 ∧ am_iin i n = true then some (r, am_up ro h a (.inl (t, n, .inr (.inl (vp_updL f i.toNatClampNeg x))))) else none
    | _ => none
  | _ => none
def am_bas (ro : List am_E) (st : List Value) (h : List am_E) : Option am_Y := match st with
  | .int x :: .int i :: .ref a :: r => match am_dy ro h a with
    | some (.inl (t, n, .inl f)) => if am_iin i n = true then (if t = 2 then some (r, am_up ro h a (.inl (t, n, .inl (upd f i.toNatClampNeg x.toInt8.toInt32)))) else if t = 3 then some (r, am_up ro h a (.inl (t, n, .inl (upd f i.toNatClampNeg (x &&& 1))))) else none) else none
    | _ => none
  | _ => none
def am_aas (T : am_T) (ro : List am_E) (st : List Value) (h : List am_E) : Option am_Y := match st with
  | .null :: .int i :: .ref a :: r => match am_dy ro h a with
    | some (.inl (t, n, .inr (.inr (.inr (.inr f))))) => match (am_ty T)[t]? with
      | some (.object _) => if am_iin i n = true then some (r, am_up ro h a (.inl (t, n, .inr (.inr (.inr (.inr (va_up f i.toNatClampNeg none))))))) else none
      | _ => none
    | _ => none
  | .ref v :: .int i :: .ref a :: r => match am_dy ro h a, am_dy ro h v with
    | some (.inl (t, n, .inr (.inr (.inr (.inr f))))), some (.inr (cj, _)) => match (am_ty T)[t]?, (am_cl T)[cj]? with
      | some (.object C), some (C2, _, _) => if C = C2 ∧ am_iin i n = true then some (r, am_up ro h a (.inl (t, n, .inr (.inr (.inr (.inr (va_up f i.toNatClampNeg (some v)))))))) else none
      | _, _ => none
    | _, _ => none
  | _ => none
def am_aln (T : am_T) (ro : List am_E) (st : List Value) (h : List am_E) : Option am_Y := match st with
  | .ref a :: r => match am_at ro h a with
    | some (.inl (t, n, _)) => match (am_ty T)[t]? with
      | some _ => some (.int (Int32.ofNat n) :: r, h)
      | none => none
    | _ => none
  | _ => none
def am_new (T : am_T) (ro : List am_E) (m idx : Nat) (st : List Value) (h : List am_E) : Option am_Y := match am_kl T m idx with
  | some (ci, _) => match (am_cl T)[ci]? with
    | some _ => some (.ref (ro.length + h.length) :: st, h ++ [.inr (ci, am_df T ci)])
    | none => none
  | none => none
def am_nad (y : ArrayType) : Option (Nat × FieldType × ((Nat → Int32) ⊕ (Nat → Int64) ⊕ (Nat → UInt32) ⊕ (Nat → UInt64) ⊕ (Nat → Option Nat))) := match y with
  | .int => some (0, .int, .inl (fun _ => 0))
  | .long => some (1, .long, .inr (.inl (fun _ => 0)))
  | .byte => some (2, .byte, .inl (fun _ => 0))
  | .boolean => some (3, .boolean, .inl (fun _ => 0))
  | _ => none
def am_na (y : ArrayType) (ro : List am_E) (st : List Value) (h : List am_E) : Option am_Y := match st with
  | .int n :: r => match am_nad y with
    | some (t, _, x) => if ¬ n < 0 ∧ n.toNatClampNeg * 8 ≤ 536870912 then some (.ref (ro.length + h.length) :: r, h ++ [.inl (t, n.toNatClampNeg, x)]) else none
    | none => none
  | _ => none
def am_nq (T : am_T) (ro : List am_E) (m idx : Nat) (st : List Value) (h : List am_E) : Option am_Y := match st with
  | .int n :: r => match am_kl T m idx with
    | some (_, t) => match (am_ty T)[t]? with
      | some (.object _) => if ¬ n < 0 ∧ n.toNatClampNeg * 4 ≤ 536870912 then some (.ref (ro.length + h.length) :: r, h ++ [.inl (t, n.toNatClampNeg, .inr (.inr (.inr (.inr (fun _ => none)))))]) else none
      | _ => none
    | none => none
  | _ => none
def am_ldc (T : am_T) (m idx : Nat) (st : List Value) (h : List am_E) : Option am_Y := match am_cs T m idx with
  | some (.int x) => some (.int x :: st, h)
  | _ => none
def am_ldw (T : am_T) (m idx : Nat) (st : List Value) (h : List am_E) : Option am_Y := match am_cs T m idx with
  | some (.long x) => some (.long x :: st, h)
  | _ => none
def am_gs (T : am_T) (m idx : Nat) (st : List Value) (h : List am_E) : Option am_Y := match am_cs T m idx with
  | some (.ref a) => some (.ref a :: st, h)
  | _ => none
def am_hp (T : am_T) (ro : List am_E) (m : Nat) (i : Instr) (st : List Value) (h : List am_E) : Option am_Y := match i with
  | .getfield idx => am_gf T ro m idx st h
  | .putfield idx => am_pf T ro m idx st h
  | .iaload => am_ial ro st h
  | .laload => am_lal ro st h
  | .baload => am_bal ro st h
  | .aaload => am_aal T ro st h
  | .iastore => am_ias ro st h
  | .lastore => am_las ro st h
  | .bastore => am_bas ro st h
  | .aastore => am_aas T ro st h
  | .arraylength => am_aln T ro st h
  | .new idx => am_new T ro m idx st h
  | .newarray y => am_na y ro st h
  | .anewarray idx => am_nq T ro m idx st h
  | .ldc idx => am_ldc T m idx st h
  | .ldc2_w idx => am_ldw T m idx st h
  | .getstatic idx => am_gs T m idx st h
  | _ => none
/-- cells and their slots -/
def am_sz (c : am_E) : Nat := match c with
  | .inl (_, n, _) => n
  | .inr (_, fs) => fs.length
def am_sl (h : List am_E) : Nat := (h.map am_sz).sum
theorem am_sl_push (h : List am_E) (c : am_E) : am_sl (h ++ [c]) = am_sl h + am_sz c := by
  unfold am_sl
  simp
theorem am_sl_set {h : List am_E} {i : Nat} {c c2 : am_E} (hi : h[i]? = some c) (hz : am_sz c2 = am_sz c) : am_sl (h.set i c2) = am_sl h := by
  unfold am_sl
  rw [List.map_set, hz]
  have : (h.map am_sz).set i (am_sz c) = h.map am_sz := by
    apply List.ext_getElem?
    intro j
    by_cases hj : i = j
    · subst hj
      have hl : i < h.length := (List.getElem?_eq_some_iff.mp hi).1
      rw [List.getElem?_set_self (by simpa using hl), List.getElem?_map, hi]
      rfl
    · rw [List.getElem?_set_ne hj]
  rw [this]
/-- the room that a step needs and leaves -/
def am_grow (h h2 : List am_E) : Prop := h.length ≤ h2.length ∧ am_sl h ≤ am_sl h2
theorem am_grow_rf (h : List am_E) : am_grow h h := ⟨Nat.le_refl _, Nat.le_refl _⟩
theorem am_grow_tr {a b c : List am_E} (h1 : am_grow a b) (h2 : am_grow b c) : am_grow a c := ⟨Nat.le_trans h1.1 h2.1, Nat.le_trans h1.2 h2.2⟩
theorem am_grow_push (h : List am_E) (c : am_E) : am_grow h (h ++ [c]) := ⟨by simp, by rw [am_sl_push]; exact Nat.le_add_right _ _⟩
theorem am_grow_up {ro h : List am_E} {a : Nat} {c c2 : am_E} (hd : am_dy ro h a = some c) (hz : am_sz c2 = am_sz c) : am_grow h (am_up ro h a c2) := by
  obtain ⟨i, rfl, hi⟩ := am_dy_ok hd
  rw [am_up_at]
  exact ⟨by simp, by rw [am_sl_set hi hz]; exact Nat.le_refl _⟩
end
section
theorem am_wsz {p : Program} {l : Launch} {e : Env} {R : Room} {s : State} {m : MethodId} {args : Array Value} {below : List Frame} {meth : Method} {c : Code} {H : Heap} {locs : List Loc} {cells slots : Nat} {Q : State → Prop} {f : JFrame} (k : H.size ≤ s.heap.size + cells → W p l e R s m args below meth c H locs cells slots Q f) : W p l e R s m args below meth c H locs cells slots Q f := fun T hT X => k (by rw [← hT]; exact X.heapSize) T hT X
theorem am_size {T : am_T} {D : va_G} {dT : Nat → ClassId} {g : Nat → Nat} {N k cells : Nat} {h2 : List am_E} {H1 H0 : Heap} {locs1 : List Loc} (hG : am_G g N k) (hP1 : va_P D (am_cl T) (am_ws g dT k h2) H1) (hN : N ≤ H0.size) (hS1 : va_S (fun q => N ≤ q) H0 H1 locs1) (hub : H1.size ≤ H0.size + cells) (hex : H0.size + cells = N + h2.length) : H1.size = N + h2.length := by
  rcases Nat.eq_zero_or_pos h2.length with hz | hz
  · have := hS1.1
    omega
  · obtain ⟨c, hc⟩ : ∃ c, h2[h2.length - 1]? = some c := ⟨h2[h2.length - 1], List.getElem?_eq_getElem (by omega)⟩
    have h1 := (hP1 _ _ (am_ws_at (g := g) (dT := dT) (k := k) hc)).lt
    have h2' := hG.1 (h2.length - 1)
    simp only at h1
    omega
section AM2
variable {p : Program} {l : Launch} {e : Env} {R : Room} {s : State} {m : MethodId} {args : Array Value} {below : List Frame} {meth : Method} {c : Code} {H : Heap} {locs : List Loc} {cells slots : Nat} {Q : State → Prop}
variable {T : am_T} {Ts : List Cond} {D : va_G} {dT : Nat → ClassId} {g : Nat → Nat} {N mm : Nat} {ro h h2 : List am_E} {M : am_M} {pc : Nat} {ls : Array Slot} {st st2 : List Value}
theorem am_h_gf {idx : Nat} (Cx : am_C p s m args meth c T Ts D dT g N ro mm M) (hW : am_W T D dT g N ro.length h H) (hS : va_S (fun q => N ≤ q) s.heap H locs) (hE : s.heap.size + cells = H.size) (hd : decode M.2.1 pc = .ok (.getfield idx, 3)) (hh : am_gf T ro mm idx st h = some (st2, h2))
    (K : ∀ (H2 : Heap) (locs2 : List Loc) (cells2 slots2 : Nat), am_W T D dT g N ro.length h2 H2 → va_S (fun q => N ≤ q) s.heap H2 locs2 → s.heap.size + cells2 = H2.size → slots2 + am_sl h = slots + am_sl h2 → W p l e R s m args below meth c H2 locs2 cells2 slots2 Q (F0 m (pc + 3) ls (st2.map (am_v g)))) : W p l e R s m args below meth c H locs cells slots Q (F0 m pc ls (st.map (am_v g))) := by
  obtain ⟨hx, hb, hml, hown, hts, hnm, hM, hK, hRO, hNs, hG, hok⟩ := Cx
  unfold am_gf at hh
  split at hh
  · rename_i a r
    split at hh
    · rename_i ci kf ty md hfl
      split at hh
      · rename_i cj fs hdy
        split at hh
        · rename_i hcj
          subst hcj
          split at hh
          · rename_i v hv
            cases hh
            obtain ⟨i, rfl, hi⟩ := am_dy_ok hdy
            obtain ⟨C, TT, NN, hc, hk, hlink, hty, -, -⟩ := hok.1 mm idx cj kf ty md M hfl hM
            exact va_get hx hb hts ((hok.2.1 cj C TT NN hc).1) hown hK.1 hW.2 i (am_ws_at hi) hc kf hk (hts _ hlink) (fun _ z => z) (v := am_v g v) (by show (fs.map (am_v g))[kf]? = _; rw [List.getElem?_map, hv]; rfl) hd (K H locs cells slots hW hS hE rfl)
          · cases hh
        · cases hh
      · cases hh
    · cases hh
  · cases hh
theorem am_h_pf {idx : Nat} (Cx : am_C p s m args meth c T Ts D dT g N ro mm M) (hW : am_W T D dT g N ro.length h H) (hS : va_S (fun q => N ≤ q) s.heap H locs) (hE : s.heap.size + cells = H.size) (hd : decode M.2.1 pc = .ok (.putfield idx, 3)) (hh : am_pf T ro mm idx st h = some (st2, h2))
    (K : ∀ (H2 : Heap) (locs2 : List Loc) (cells2 slots2 : Nat), am_W T D dT g N ro.length h2 H2 → va_S (fun q => N ≤ q) s.heap H2 locs2 → s.heap.size + cells2 = H2.size → slots2 + am_sl h = slots + am_sl h2 → W p l e R s m args below meth c H2 locs2 cells2 slots2 Q (F0 m (pc + 3) ls (st2.map (am_v g)))) : W p l e R s m args below meth c H locs cells slots Q (F0 m pc ls (st.map (am_v g))) := by
  obtain ⟨hx, hb, hml, hown, hts, hnm, hM, hK, hRO, hNs, hG, hok⟩ := Cx
  unfold am_pf at hh
  split at hh
  · rename_i v a r
    split at hh
    · rename_i ci kf ty md hfl
      split at hh
      · rename_i cj fs hdy
        split at hh
        · rename_i hcj
          obtain ⟨rfl, hlt, hfit, hmd⟩ := hcj
          cases hh
          obtain ⟨i, rfl, hi⟩ := am_dy_ok hdy
          obtain ⟨C, TT, NN, hc, hk, hlink, hty, h0, h2'⟩ := hok.1 mm idx cj kf ty md M hfl hM
          obtain ⟨hin, ⟨ty0, hty0, -⟩, -, hnmf, -, -⟩ := hok.2.1 cj C TT NN hc
          obtain ⟨f1, f2⟩ := am_fit_ok g hfit
          have fin : ∀ (H1 : Heap) (locs1 : List Loc), va_P D (am_cl T) ((am_ws g dT ro.length h).set i (g (ro.length + i), .inr (cj, (fs.map (am_v g)).set kf (am_v g v)))) H1 → va_D (fun q => N ≤ q) ((am_ws g dT ro.length h).set i (g (ro.length + i), .inr (cj, (fs.map (am_v g)).set kf (am_v g v)))) → va_S (fun q => N ≤ q) s.heap H1 locs1 → W p l e R s m args below meth c H1 locs1 cells slots Q (F0 m (pc + 3) ls (st2.map (am_v g))) := by
            intro H1 locs1 hP1 _ hS1
            refine am_wsz fun hub => ?_
            rw [am_up_at] at K
            have e1 : (g (ro.length + i), (Sum.inr (cj, (fs.map (am_v g)).set kf (am_v g v)) : va_E)) = (g (ro.length + i), am_lo g dT (.inr (cj, fs.set kf v))) := by
              show _ = (g (ro.length + i), (Sum.inr (cj, (fs.set kf v).map (am_v g)) : va_E))
              rw [List.map_set]
            rw [e1, ← am_ws_set] at hP1
            have hz := am_size hG hP1 hNs hS1 hub (by rw [hE, hW.1]; simp)
            exact K H1 locs1 cells slots ⟨hz, hP1⟩ hS1 (by rw [hE, hW.1, hz]; simp) (by rw [am_sl_set hi (by simp [am_sz])])
          rcases hmd with hmd | hmd
          · exact va_put hx hb hts hin ty0 hty0 hnmf hown hK.1 hW.2 (am_D hG h) hS i (am_ws_at hi) hc kf hk (hts _ hlink) (fun _ z => z) (h0 hmd) hty f1 f2 (by simpa using hlt) hd fin
          · obtain ⟨q1, q2, q3⟩ := h2' hmd
            exact va_putF hx hb hts hin ty0 hty0 hnmf hown hK.1 hW.2 (am_D hG h) hS i (am_ws_at hi) hc kf hk (hts _ hlink) (fun _ z => z) q1 (hnm q3) q2 hty f1 f2 (by simpa using hlt) hd fin
        · cases hh
      · cases hh
    · cases hh
  · cases hh
end AM2
end
section
section AM3
variable {p : Program} {l : Launch} {e : Env} {R : Room} {s : State} {m : MethodId} {args : Array Value} {below : List Frame} {meth : Method} {c : Code} {H : Heap} {locs : List Loc} {cells slots : Nat} {Q : State → Prop}
variable {T : am_T} {Ts : List Cond} {D : va_G} {dT : Nat → ClassId} {g : Nat → Nat} {N mm : Nat} {ro h h2 : List am_E} {M : am_M} {pc : Nat} {ls : Array Slot} {st st2 : List Value}

theorem am_h_ial (Cx : am_C p s m args meth c T Ts D dT g N ro mm M) (hW : am_W T D dT g N ro.length h H) (hS : va_S (fun q => N ≤ q) s.heap H locs) (hE : s.heap.size + cells = H.size) (hd : decode M.2.1 pc = .ok (.iaload, 1)) (hh : am_ial ro st h = some (st2, h2))
    (K : ∀ (H2 : Heap) (locs2 : List Loc) (cells2 slots2 : Nat), am_W T D dT g N ro.length h2 H2 → va_S (fun q => N ≤ q) s.heap H2 locs2 → s.heap.size + cells2 = H2.size → slots2 + am_sl h = slots + am_sl h2 → W p l e R s m args below meth c H2 locs2 cells2 slots2 Q (F0 m (pc + 1) ls (st2.map (am_v g)))) : W p l e R s m args below meth c H locs cells slots Q (F0 m pc ls (st.map (am_v g))) := by
  obtain ⟨hx, hb, hml, hown, hts, hnm, hM, hK, hRO, hNs, hG, hok⟩ := Cx
  unfold am_ial at hh
  split at hh
  · rename_i i a r
    split at hh
    · rename_i t n f hdy
      split at hh
      · rename_i hc
        obtain ⟨rfl, hin⟩ := hc
        cases hh
        rcases am_at_ok hdy with hr | ⟨j, rfl, hi⟩
        · exact va_ti hx hb (hRO.1 a 0 n _ _ hr hok.2.2.2.2.1.1) hS (am_iin_ok hin) rfl hd (K H locs cells slots hW hS hE rfl)
        · exact va_iald hx hb hK.1 hW.2 j 0 (am_ws_at hi) (am_tl_at hok.2.2.2.2.1.1) (am_iin_ok hin) hd (K H locs cells slots hW hS hE rfl)
      · cases hh
    · cases hh
  · cases hh
theorem am_h_lal (Cx : am_C p s m args meth c T Ts D dT g N ro mm M) (hW : am_W T D dT g N ro.length h H) (hS : va_S (fun q => N ≤ q) s.heap H locs) (hE : s.heap.size + cells = H.size) (hd : decode M.2.1 pc = .ok (.laload, 1)) (hh : am_lal ro st h = some (st2, h2))
    (K : ∀ (H2 : Heap) (locs2 : List Loc) (cells2 slots2 : Nat), am_W T D dT g N ro.length h2 H2 → va_S (fun q => N ≤ q) s.heap H2 locs2 → s.heap.size + cells2 = H2.size → slots2 + am_sl h = slots + am_sl h2 → W p l e R s m args below meth c H2 locs2 cells2 slots2 Q (F0 m (pc + 1) ls (st2.map (am_v g)))) : W p l e R s m args below meth c H locs cells slots Q (F0 m pc ls (st.map (am_v g))) := by
  obtain ⟨hx, hb, hml, hown, hts, hnm, hM, hK, hRO, hNs, hG, hok⟩ := Cx
  unfold am_lal at hh
  split at hh
  · rename_i i a r
    split at hh
    · rename_i t n f hdy
      split at hh
      · rename_i hc
        obtain ⟨rfl, hin⟩ := hc
        cases hh
        rcases am_at_ok hdy with hr | ⟨j, rfl, hi⟩
        · exact va_tl hx hb (hRO.1 a 1 n _ _ hr hok.2.2.2.2.2.1.1) hS (am_iin_ok hin) rfl hd (K H locs cells slots hW hS hE rfl)
        · exact va_lald hx hb hK.1 hW.2 j 1 (am_ws_at hi) (am_tl_at hok.2.2.2.2.2.1.1) (am_iin_ok hin) hd (K H locs cells slots hW hS hE rfl)
      · cases hh
    · cases hh
  · cases hh
theorem am_h_bal (Cx : am_C p s m args meth c T Ts D dT g N ro mm M) (hW : am_W T D dT g N ro.length h H) (hS : va_S (fun q => N ≤ q) s.heap H locs) (hE : s.heap.size + cells = H.size) (hd : decode M.2.1 pc = .ok (.baload, 1)) (hh : am_bal ro st h = some (st2, h2))
    (K : ∀ (H2 : Heap) (locs2 : List Loc) (cells2 slots2 : Nat), am_W T D dT g N ro.length h2 H2 → va_S (fun q => N ≤ q) s.heap H2 locs2 → s.heap.size + cells2 = H2.size → slots2 + am_sl h = slots + am_sl h2 → W p l e R s m args below meth c H2 locs2 cells2 slots2 Q (F0 m (pc + 1) ls (st2.map (am_v g)))) : W p l e R s m args below meth c H locs cells slots Q (F0 m pc ls (st.map (am_v g))) := by
  obtain ⟨hx, hb, hml, hown, hts, hnm, hM, hK, hRO, hNs, hG, hok⟩ := Cx
  unfold am_bal at hh
  split at hh
  · rename_i i a r
    split at hh
    · rename_i t n f hdy
      split at hh
      · rename_i hc
        obtain ⟨ht, hin⟩ := hc
        cases hh
        obtain ⟨j, rfl, hi⟩ := am_dy_ok hdy
        rcases ht with rfl | rfl
        · exact va_bald hx hb hK.1 hW.2 j 2 (am_ws_at hi) (am_tl_at hok.2.2.2.2.2.2.1.1) (am_iin_ok hin) hd (K H locs cells slots hW hS hE rfl)
        · exact va_zald hx hb hK.1 hW.2 j 3 (am_ws_at hi) (am_tl_at hok.2.2.2.2.2.2.2.1) (am_iin_ok hin) hd (K H locs cells slots hW hS hE rfl)
      · cases hh
    · cases hh
  · cases hh
theorem am_v_rf (g : Nat → Nat) (r : Option Nat) : am_v g (va_rf r) = va_rf (r.map g) := by cases r <;> rfl
theorem am_h_aal (Cx : am_C p s m args meth c T Ts D dT g N ro mm M) (hW : am_W T D dT g N ro.length h H) (hS : va_S (fun q => N ≤ q) s.heap H locs) (hE : s.heap.size + cells = H.size) (hd : decode M.2.1 pc = .ok (.aaload, 1)) (hh : am_aal T ro st h = some (st2, h2))
    (K : ∀ (H2 : Heap) (locs2 : List Loc) (cells2 slots2 : Nat), am_W T D dT g N ro.length h2 H2 → va_S (fun q => N ≤ q) s.heap H2 locs2 → s.heap.size + cells2 = H2.size → slots2 + am_sl h = slots + am_sl h2 → W p l e R s m args below meth c H2 locs2 cells2 slots2 Q (F0 m (pc + 1) ls (st2.map (am_v g)))) : W p l e R s m args below meth c H locs cells slots Q (F0 m pc ls (st.map (am_v g))) := by
  obtain ⟨hx, hb, hml, hown, hts, hnm, hM, hK, hRO, hNs, hG, hok⟩ := Cx
  unfold am_aal at hh
  split at hh
  · rename_i i a r
    split at hh
    · rename_i t n f hdy
      split at hh
      · rename_i C hty
        split at hh
        · rename_i hin
          cases hh
          obtain ⟨j, rfl, hi⟩ := am_dy_ok hdy
          refine va_aldq hx hb hK.1 hW.2 j t (am_ws_at hi) (am_tl_at hty) (am_iin_ok hin) hd ?_
          have := K H locs cells slots hW hS hE rfl
          rw [List.map_cons, am_v_rf] at this
          exact this
        · cases hh
      · cases hh
    · cases hh
  · cases hh
theorem am_h_ias (Cx : am_C p s m args meth c T Ts D dT g N ro mm M) (hW : am_W T D dT g N ro.length h H) (hS : va_S (fun q => N ≤ q) s.heap H locs) (hE : s.heap.size + cells = H.size) (hd : decode M.2.1 pc = .ok (.iastore, 1)) (hh : am_ias ro st h = some (st2, h2))
    (K : ∀ (H2 : Heap) (locs2 : List Loc) (cells2 slots2 : Nat), am_W T D dT g N ro.length h2 H2 → va_S (fun q => N ≤ q) s.heap H2 locs2 → s.heap.size + cells2 = H2.size → slots2 + am_sl h = slots + am_sl h2 → W p l e R s m args below meth c H2 locs2 cells2 slots2 Q (F0 m (pc + 1) ls (st2.map (am_v g)))) : W p l e R s m args below meth c H locs cells slots Q (F0 m pc ls (st.map (am_v g))) := by
  obtain ⟨hx, hb, hml, hown, hts, hnm, hM, hK, hRO, hNs, hG, hok⟩ := Cx
  unfold am_ias at hh
  split at hh
  · rename_i x i a r
    split at hh
    · rename_i t n f hdy
      split at hh
      · rename_i hc
        obtain ⟨rfl, hin⟩ := hc
        cases hh
        obtain ⟨j, rfl, hi⟩ := am_dy_ok hdy
        refine va_iast hx hb hK.1 hW.2 (am_D hG h) hS j 0 (am_ws_at hi) (am_tl_at hok.2.2.2.2.1.1) (am_iin_ok hin) hd ?_
        intro H1 locs1 hP1 _ hS1
        refine am_wsz fun hub => ?_
        rw [am_up_at] at K
        have e1 : (g (ro.length + j), (Sum.inl (dT 0, n, .inl (upd f i.toNatClampNeg x)) : va_E)) = (g (ro.length + j), am_lo g dT (.inl (0, n, .inl (upd f i.toNatClampNeg x)))) := rfl
        rw [e1, ← am_ws_set] at hP1
        have hz := am_size hG hP1 hNs hS1 hub (by rw [hE, hW.1]; simp)
        exact K H1 locs1 cells slots ⟨hz, hP1⟩ hS1 (by rw [hE, hW.1, hz]; simp) (by rw [am_sl_set hi (by simp [am_sz])])
      · cases hh
    · cases hh
  · cases hh
theorem am_h_las (Cx : am_C p s m args meth c T Ts D dT g N ro mm M) (hW : am_W T D dT g N ro.length h H) (hS : va_S (fun q => N ≤ q) s.heap H locs) (hE : s.heap.size + cells = H.size) (hd : decode M.2.1 pc = .ok (.lastore, 1)) (hh : am_las ro st h = some (st2, h2))
    (K : ∀ (H2 : Heap) (locs2 : List Loc) (cells2 slots2 : Nat), am_W T D dT g N ro.length h2 H2 → va_S (fun q => N ≤ q) s.heap H2 locs2 → s.heap.size + cells2 = H2.size → slots2 + am_sl h = slots + am_sl h2 → W p l e R s m args below meth c H2 locs2 cells2 slots2 Q (F0 m (pc + 1) ls (st2.map (am_v g)))) : W p l e R s m args below meth c H locs cells slots Q (F0 m pc ls (st.map (am_v g))) := by
  obtain ⟨hx, hb, hml, hown, hts, hnm, hM, hK, hRO, hNs, hG, hok⟩ := Cx
  unfold am_las at hh
  split at hh
  · rename_i x i a r
    split at hh
    · rename_i t n f hdy
      split at hh
      · rename_i hc
        obtain ⟨rfl, hin⟩ := hc
        cases hh
        obtain ⟨j, rfl, hi⟩ := am_dy_ok hdy
        refine va_last hx hb hK.1 hW.2 (am_D hG h) hS j 1 (am_ws_at hi) (am_tl_at hok.2.2.2.2.2.1.1) (am_iin_ok hin) hd ?_
        intro H1 locs1 hP1 _ hS1
        refine am_wsz fun hub => ?_
        rw [am_up_at] at K
        have e1 : (g (ro.length + j), (Sum.inl (dT 1, n, .inr (.inl (vp_updL f i.toNatClampNeg x))) : va_E)) = (g (ro.length + j), am_lo g dT (.inl (1, n, .inr (.inl (vp_updL f i.toNatClampNeg x))))) := rfl
        rw [e1, ← am_ws_set] at hP1
        have hz := am_size hG hP1 hNs hS1 hub (by rw [hE, hW.1]; simp)
        exact K H1 locs1 cells slots ⟨hz, hP1⟩ hS1 (by rw [hE, hW.1, hz]; simp) (by rw [am_sl_set hi (by simp [am_sz])])
      · cases hh
    · cases hh
  · cases hh
theorem am_h_bas (Cx : am_C p s m args meth c T Ts D dT g N ro mm M) (hW : am_W T D dT g N ro.length h H) (hS : va_S (fun q => N ≤ q) s.heap H locs) (hE : s.heap.size + cells = H.size) (hd : decode M.2.1 pc = .ok (.bastore, 1)) (hh : am_bas ro st h = some (st2, h2))
    (K : ∀ (H2 : Heap) (locs2 : List Loc) (cells2 slots2 : Nat), am_W T D dT g N ro.length h2 H2 → va_S (fun q => N ≤ q) s.heap H2 locs2 → s.heap.size + cells2 = H2.size → slots2 + am_sl h = slots + am_sl h2 → W p l e R s m args below meth c H2 locs2 cells2 slots2 Q (F0 m (pc + 1) ls (st2.map (am_v g)))) : W p l e R s m args below meth c H locs cells slots Q (F0 m pc ls (st.map (am_v g))) := by
  obtain ⟨hx, hb, hml, hown, hts, hnm, hM, hK, hRO, hNs, hG, hok⟩ := Cx
  unfold am_bas at hh
  split at hh
  · rename_i x i a r
    split at hh
    · rename_i t n f hdy
      split at hh
      · rename_i hin
        split at hh
        · rename_i ht
          subst ht
          cases hh
          obtain ⟨j, rfl, hi⟩ := am_dy_ok hdy
          refine va_bast hx hb hK.1 hW.2 (am_D hG h) hS j 2 (am_ws_at hi) (am_tl_at hok.2.2.2.2.2.2.1.1) (am_iin_ok hin) hd ?_
          intro H1 locs1 hP1 _ hS1
          refine am_wsz fun hub => ?_
          rw [am_up_at] at K
          have e1 : (g (ro.length + j), (Sum.inl (dT 2, n, .inl (upd f i.toNatClampNeg (vp_nar .byte x))) : va_E)) = (g (ro.length + j), am_lo g dT (.inl (2, n, .inl (upd f i.toNatClampNeg x.toInt8.toInt32)))) := rfl
          rw [e1, ← am_ws_set] at hP1
          have hz := am_size hG hP1 hNs hS1 hub (by rw [hE, hW.1]; simp)
          exact K H1 locs1 cells slots ⟨hz, hP1⟩ hS1 (by rw [hE, hW.1, hz]; simp) (by rw [am_sl_set hi (by simp [am_sz])])
        · split at hh
          · rename_i ht
            subst ht
            cases hh
            obtain ⟨j, rfl, hi⟩ := am_dy_ok hdy
            refine va_zast hx hb hK.1 hW.2 (am_D hG h) hS j 3 (am_ws_at hi) (am_tl_at hok.2.2.2.2.2.2.2.1) (am_iin_ok hin) hd ?_
            intro H1 locs1 hP1 _ hS1
            refine am_wsz fun hub => ?_
            rw [am_up_at] at K
            have e1 : (g (ro.length + j), (Sum.inl (dT 3, n, .inl (upd f i.toNatClampNeg (vp_nar .boolean x))) : va_E)) = (g (ro.length + j), am_lo g dT (.inl (3, n, .inl (upd f i.toNatClampNeg (x &&& 1))))) := rfl
            rw [e1, ← am_ws_set] at hP1
            have hz := am_size hG hP1 hNs hS1 hub (by rw [hE, hW.1]; simp)
            exact K H1 locs1 cells slots ⟨hz, hP1⟩ hS1 (by rw [hE, hW.1, hz]; simp) (by rw [am_sl_set hi (by simp [am_sz])])
          · cases hh
      · cases hh
    · cases hh
  · cases hh
theorem am_up_map (g : Nat → Nat) (f : Nat → Option Nat) (i : Nat) (v : Option Nat) : (fun j => (va_up f i v j).map g) = va_up (fun j => (f j).map g) i (v.map g) := by
  funext j
  unfold va_up
  split <;> rfl
theorem am_h_aas (Cx : am_C p s m args meth c T Ts D dT g N ro mm M) (hW : am_W T D dT g N ro.length h H) (hS : va_S (fun q => N ≤ q) s.heap H locs) (hE : s.heap.size + cells = H.size) (hd : decode M.2.1 pc = .ok (.aastore, 1)) (hh : am_aas T ro st h = some (st2, h2))
    (K : ∀ (H2 : Heap) (locs2 : List Loc) (cells2 slots2 : Nat), am_W T D dT g N ro.length h2 H2 → va_S (fun q => N ≤ q) s.heap H2 locs2 → s.heap.size + cells2 = H2.size → slots2 + am_sl h = slots + am_sl h2 → W p l e R s m args below meth c H2 locs2 cells2 slots2 Q (F0 m (pc + 1) ls (st2.map (am_v g)))) : W p l e R s m args below meth c H locs cells slots Q (F0 m pc ls (st.map (am_v g))) := by
  obtain ⟨hx, hb, hml, hown, hts, hnm, hM, hK, hRO, hNs, hG, hok⟩ := Cx
  unfold am_aas at hh
  split at hh
  · rename_i i a r
    split at hh
    · rename_i t n f hdy
      split at hh
      · rename_i C hty
        split at hh
        · rename_i hin
          cases hh
          obtain ⟨j, rfl, hi⟩ := am_dy_ok hdy
          refine va_astqN hx hb hK.1 hW.2 (am_D hG h) hS j t (am_ws_at hi) (am_tl_at hty) (am_iin_ok hin) hd ?_
          intro H1 locs1 hP1 _ hS1
          refine am_wsz fun hub => ?_
          rw [am_up_at] at K
          have e1 : (g (ro.length + j), (Sum.inl (dT t, n, .inr (.inr (.inr (.inr (va_up (fun j => (f j).map g) i.toNatClampNeg none))))) : va_E)) = (g (ro.length + j), am_lo g dT (.inl (t, n, .inr (.inr (.inr (.inr (va_up f i.toNatClampNeg none))))))) := by show _ = (g (ro.length + j), (Sum.inl (dT t, n, .inr (.inr (.inr (.inr (fun j => (va_up f i.toNatClampNeg none j).map g))))) : va_E)); rw [am_up_map]; rfl
          rw [e1, ← am_ws_set] at hP1
          have hz := am_size hG hP1 hNs hS1 hub (by rw [hE, hW.1]; simp)
          exact K H1 locs1 cells slots ⟨hz, hP1⟩ hS1 (by rw [hE, hW.1, hz]; simp) (by rw [am_sl_set hi (by simp [am_sz])])
        · cases hh
      · cases hh
    · cases hh
  · rename_i v i a r
    split at hh
    · rename_i t n f cj vs hdy hdv
      split at hh
      · rename_i C C2 TT NN hty hcl
        split at hh
        · rename_i hc
          obtain ⟨rfl, hin⟩ := hc
          cases hh
          obtain ⟨j, rfl, hi⟩ := am_dy_ok hdy
          obtain ⟨jv, rfl, hiv⟩ := am_dy_ok hdv
          refine va_astq (r := (C, TT, NN)) hx hb hK.1 hW.2 (am_D hG h) hS j t jv cj (am_ws_at hi) (am_tl_at hty) (am_ws_at hiv) hcl (am_iin_ok hin) hd ?_
          intro H1 locs1 hP1 _ hS1
          refine am_wsz fun hub => ?_
          rw [am_up_at] at K
          have e1 : (g (ro.length + j), (Sum.inl (dT t, n, .inr (.inr (.inr (.inr (va_up (fun j => (f j).map g) i.toNatClampNeg (some (g (ro.length + jv)))))))) : va_E)) = (g (ro.length + j), am_lo g dT (.inl (t, n, .inr (.inr (.inr (.inr (va_up f i.toNatClampNeg (some (ro.length + jv))))))))) := by show _ = (g (ro.length + j), (Sum.inl (dT t, n, .inr (.inr (.inr (.inr (fun j => (va_up f i.toNatClampNeg (some (ro.length + jv)) j).map g))))) : va_E)); rw [am_up_map]; rfl
          rw [e1, ← am_ws_set] at hP1
          have hz := am_size hG hP1 hNs hS1 hub (by rw [hE, hW.1]; simp)
          exact K H1 locs1 cells slots ⟨hz, hP1⟩ hS1 (by rw [hE, hW.1, hz]; simp) (by rw [am_sl_set hi (by simp [am_sz])])
        · cases hh
      · cases hh
    · cases hh
  · cases hh
theorem am_h_aln (Cx : am_C p s m args meth c T Ts D dT g N ro mm M) (hW : am_W T D dT g N ro.length h H) (hS : va_S (fun q => N ≤ q) s.heap H locs) (hE : s.heap.size + cells = H.size) (hd : decode M.2.1 pc = .ok (.arraylength, 1)) (hh : am_aln T ro st h = some (st2, h2))
    (K : ∀ (H2 : Heap) (locs2 : List Loc) (cells2 slots2 : Nat), am_W T D dT g N ro.length h2 H2 → va_S (fun q => N ≤ q) s.heap H2 locs2 → s.heap.size + cells2 = H2.size → slots2 + am_sl h = slots + am_sl h2 → W p l e R s m args below meth c H2 locs2 cells2 slots2 Q (F0 m (pc + 1) ls (st2.map (am_v g)))) : W p l e R s m args below meth c H locs cells slots Q (F0 m pc ls (st.map (am_v g))) := by
  obtain ⟨hx, hb, hml, hown, hts, hnm, hM, hK, hRO, hNs, hG, hok⟩ := Cx
  unfold am_aln at hh
  split at hh
  · rename_i a r
    split at hh
    · rename_i t n x hdy
      split at hh
      · rename_i y hty
        cases hh
        rcases am_at_ok hdy with hr | ⟨j, rfl, hi⟩
        · exact va_tlen hx hb (hRO.1 a t n _ _ hr hty) hS rfl hd (K H locs cells slots hW hS hE rfl)
        · exact va_alen hx hb hK.1 hW.2 j t (am_ws_at hi) (am_tl_at hty) rfl hd (K H locs cells slots hW hS hE rfl)
      · cases hh
    · cases hh
  · cases hh
theorem am_h_ldc {idx : Nat} (Cx : am_C p s m args meth c T Ts D dT g N ro mm M) (hW : am_W T D dT g N ro.length h H) (hS : va_S (fun q => N ≤ q) s.heap H locs) (hE : s.heap.size + cells = H.size) (hd : decode M.2.1 pc = .ok (.ldc idx, 2)) (hh : am_ldc T mm idx st h = some (st2, h2))
    (K : ∀ (H2 : Heap) (locs2 : List Loc) (cells2 slots2 : Nat), am_W T D dT g N ro.length h2 H2 → va_S (fun q => N ≤ q) s.heap H2 locs2 → s.heap.size + cells2 = H2.size → slots2 + am_sl h = slots + am_sl h2 → W p l e R s m args below meth c H2 locs2 cells2 slots2 Q (F0 m (pc + 2) ls (st2.map (am_v g)))) : W p l e R s m args below meth c H locs cells slots Q (F0 m pc ls (st.map (am_v g))) := by
  obtain ⟨hx, hb, hml, hown, hts, hnm, hM, hK, hRO, hNs, hG, hok⟩ := Cx
  unfold am_ldc at hh
  split at hh
  · rename_i x hcs
    cases hh
    exact lv_ldc hx hb hown (hts _ ((hok.2.2.2.1 mm idx _ M hcs hM).1 x rfl)) hd (K H locs cells slots hW hS hE rfl)
  · cases hh
theorem am_h_ldw {idx : Nat} (Cx : am_C p s m args meth c T Ts D dT g N ro mm M) (hW : am_W T D dT g N ro.length h H) (hS : va_S (fun q => N ≤ q) s.heap H locs) (hE : s.heap.size + cells = H.size) (hd : decode M.2.1 pc = .ok (.ldc2_w idx, 3)) (hh : am_ldw T mm idx st h = some (st2, h2))
    (K : ∀ (H2 : Heap) (locs2 : List Loc) (cells2 slots2 : Nat), am_W T D dT g N ro.length h2 H2 → va_S (fun q => N ≤ q) s.heap H2 locs2 → s.heap.size + cells2 = H2.size → slots2 + am_sl h = slots + am_sl h2 → W p l e R s m args below meth c H2 locs2 cells2 slots2 Q (F0 m (pc + 3) ls (st2.map (am_v g)))) : W p l e R s m args below meth c H locs cells slots Q (F0 m pc ls (st.map (am_v g))) := by
  obtain ⟨hx, hb, hml, hown, hts, hnm, hM, hK, hRO, hNs, hG, hok⟩ := Cx
  unfold am_ldw at hh
  split at hh
  · rename_i x hcs
    cases hh
    exact lv_ldc2 hx hb hown (hts _ ((hok.2.2.2.1 mm idx _ M hcs hM).2.1 x rfl)) hd (K H locs cells slots hW hS hE rfl)
  · cases hh
theorem am_h_gs {idx : Nat} (Cx : am_C p s m args meth c T Ts D dT g N ro mm M) (hW : am_W T D dT g N ro.length h H) (hS : va_S (fun q => N ≤ q) s.heap H locs) (hE : s.heap.size + cells = H.size) (hd : decode M.2.1 pc = .ok (.getstatic idx, 3)) (hh : am_gs T mm idx st h = some (st2, h2))
    (K : ∀ (H2 : Heap) (locs2 : List Loc) (cells2 slots2 : Nat), am_W T D dT g N ro.length h2 H2 → va_S (fun q => N ≤ q) s.heap H2 locs2 → s.heap.size + cells2 = H2.size → slots2 + am_sl h = slots + am_sl h2 → W p l e R s m args below meth c H2 locs2 cells2 slots2 Q (F0 m (pc + 3) ls (st2.map (am_v g)))) : W p l e R s m args below meth c H locs cells slots Q (F0 m pc ls (st.map (am_v g))) := by
  obtain ⟨hx, hb, hml, hown, hts, hnm, hM, hK, hRO, hNs, hG, hok⟩ := Cx
  unfold am_gs at hh
  split at hh
  · rename_i a hcs
    cases hh
    obtain ⟨q, hq, rfl, hlk⟩ := (hok.2.2.2.1 mm idx _ M hcs hM).2.2 a rfl
    exact va_gets hx hb (hRO.2 q hq) hS hown (hts _ hlk) (fun _ z => z) hd (K H locs cells slots hW hS hE rfl)
  · cases hh
end AM3
end
section
/-- a new cell's address can only be the next one -/
theorem am_fresh {T : am_T} {D : va_G} {dT : Nat → ClassId} {g : Nat → Nat} {N k cells q : Nat} {h : List am_E} {x : va_E} {H1 H0 : Heap} (hG : am_G g N k) (hP1 : va_P D (am_cl T) (am_ws g dT k h ++ [(q, x)]) H1) (hD1 : va_D (fun q => N ≤ q) (am_ws g dT k h ++ [(q, x)])) (hub : H1.size ≤ H0.size + cells) (hex : H0.size + cells = N + h.length + 1) : q = g (k + h.length) := by
  have hlen : (am_ws g dT k h).length = h.length := by unfold am_ws; simp
  have hq : (am_ws g dT k h ++ [(q, x)])[h.length]? = some (q, x) := by
    rw [List.getElem?_append_right (by omega), hlen, Nat.sub_self]
    rfl
  have h1 := (hP1 _ _ hq).lt
  have h2 : N ≤ q := hD1.2 _ _ hq
  simp only at h1
  rw [hG.1]
  rcases Nat.lt_or_ge q (N + h.length) with hlt | hge
  · exfalso
    obtain ⟨cc, hc⟩ : ∃ cc, h[q - N]? = some cc := ⟨h[q - N], List.getElem?_eq_getElem (by omega)⟩
    have h3 : (am_ws g dT k h ++ [(q, x)])[q - N]? = some (g (k + (q - N)), am_lo g dT cc) := by
      rw [List.getElem?_append_left (by omega)]
      exact am_ws_at hc
    have h4 := hD1.1 _ _ _ _ h3 hq (by show g (k + (q - N)) = q; rw [hG.1]; omega)
    omega
  · omega
section AM4
variable {p : Program} {l : Launch} {e : Env} {R : Room} {s : State} {m : MethodId} {args : Array Value} {below : List Frame} {meth : Method} {c : Code} {H : Heap} {locs : List Loc} {cells slots : Nat} {Q : State → Prop}
variable {T : am_T} {Ts : List Cond} {D : va_G} {dT : Nat → ClassId} {g : Nat → Nat} {N mm : Nat} {ro h h2 : List am_E} {M : am_M} {pc : Nat} {ls : Array Slot} {st st2 : List Value}
theorem am_h_new {idx : Nat} (Cx : am_C p s m args meth c T Ts D dT g N ro mm M) (hW : am_W T D dT g N ro.length h H) (hS : va_S (fun q => N ≤ q) s.heap H locs) (hE : s.heap.size + cells = H.size) (hR : cells + h2.length ≤ R.cells + h.length ∧ slots + am_sl h2 ≤ R.slots + am_sl h) (hd : decode M.2.1 pc = .ok (.new idx, 3)) (hh : am_new T ro mm idx st h = some (st2, h2))
    (K : ∀ (H2 : Heap) (locs2 : List Loc) (cells2 slots2 : Nat), am_W T D dT g N ro.length h2 H2 → va_S (fun q => N ≤ q) s.heap H2 locs2 → s.heap.size + cells2 = H2.size → slots2 + am_sl h = slots + am_sl h2 → W p l e R s m args below meth c H2 locs2 cells2 slots2 Q (F0 m (pc + 3) ls (st2.map (am_v g)))) : W p l e R s m args below meth c H locs cells slots Q (F0 m pc ls (st.map (am_v g))) := by
  obtain ⟨hx, hb, hml, hown, hts, hnm, hM, hK, hRO, hNs, hG, hok⟩ := Cx
  unfold am_new at hh
  split at hh
  · rename_i ci t hkl
    split at hh
    · rename_i q hcl
      obtain ⟨C, TT, NN⟩ := q
      cases hh
      obtain ⟨hin, ⟨ty0, hty0, hdf⟩, hlen, hnmf, hinst, hini⟩ := hok.2.1 ci C TT NN hcl
      have hmap : (am_df T ci).map (am_v g) = am_df T ci := by
        apply List.ext_getElem?
        intro j
        rw [List.getElem?_map]
        by_cases hj : j < NN
        · obtain ⟨z, hz, hzz⟩ := (hdf j hj).2
          rw [hz]
          show some (am_v g z) = some z
          rw [hzz]
        · rw [List.getElem?_eq_none (by omega)]
          rfl
      rw [am_sl_push] at hR
      have hR1 : cells + 1 ≤ R.cells := by
        have := hR.1
        simp at this
        omega
      have hR2 : slots + NN ≤ R.slots := by
        have := hR.2
        simp only [am_sz] at this
        omega
      refine va_new hx hb hts hin ty0 hty0 hown (hts _ ((hok.2.2.1 mm idx ci t M hkl hM).1 C TT NN hcl)) (hts _ hinst) (hts _ hini) hK.1 hW.2 (am_D hG h) hS (fun q hq => Nat.le_trans hNs hq) hcl (fun j hj => (hdf j hj).1) hR1 hR2 hd ?_
      intro q H1 hP1 hD1 hS1
      refine am_wsz fun hub => ?_
      have hq := am_fresh hG hP1 hD1 hub (by have := hW.1; omega)
      subst hq
      have e1 : am_ws g dT ro.length h ++ [(g (ro.length + h.length), (Sum.inr (ci, am_df T ci) : va_E))] = am_ws g dT ro.length (h ++ [.inr (ci, am_df T ci)]) := by
        rw [am_ws_push]
        show _ = _ ++ [(g (ro.length + h.length), (Sum.inr (ci, (am_df T ci).map (am_v g)) : va_E))]
        rw [hmap]
      rw [e1] at hP1
      have hz := am_size hG hP1 hNs hS1 hub (by have := hW.1; simp; omega)
      exact K H1 locs (cells + 1) (slots + NN) ⟨hz, hP1⟩ hS1 (by have := hW.1; rw [hz]; simp; omega) (by rw [am_sl_push]; simp only [am_sz]; omega)
    · cases hh
  · cases hh
theorem am_h_na {y : ArrayType} (Cx : am_C p s m args meth c T Ts D dT g N ro mm M) (hW : am_W T D dT g N ro.length h H) (hS : va_S (fun q => N ≤ q) s.heap H locs) (hE : s.heap.size + cells = H.size) (hR : cells + h2.length ≤ R.cells + h.length ∧ slots + am_sl h2 ≤ R.slots + am_sl h) (hd : decode M.2.1 pc = .ok (.newarray y, 2)) (hh : am_na y ro st h = some (st2, h2))
    (K : ∀ (H2 : Heap) (locs2 : List Loc) (cells2 slots2 : Nat), am_W T D dT g N ro.length h2 H2 → va_S (fun q => N ≤ q) s.heap H2 locs2 → s.heap.size + cells2 = H2.size → slots2 + am_sl h = slots + am_sl h2 → W p l e R s m args below meth c H2 locs2 cells2 slots2 Q (F0 m (pc + 2) ls (st2.map (am_v g)))) : W p l e R s m args below meth c H locs cells slots Q (F0 m pc ls (st.map (am_v g))) := by
  obtain ⟨hx, hb, hml, hown, hts, hnm, hM, hK, hRO, hNs, hG, hok⟩ := Cx
  unfold am_na at hh
  split at hh
  · rename_i n r
    split at hh
    · rename_i t ft x hnad
      split at hh
      · rename_i hc
        obtain ⟨hn, hbyt⟩ := hc
        cases hh
        have key : newarray.typeOf y = ft ∧ (am_ty T)[t]? = some ft ∧ Cond.arrayClass ft ∈ Ts ∧ componentBytes ft ≤ 8 ∧ (∀ cA : ClassId, vp_cell cA (n.toNatClampNeg, x) = arrV cA n.toNatClampNeg (fun _ => defaultValue ft)) ∧ am_lx g x = x ∧ ∀ (U : State) (cA : ClassId), va_RA U cA ft ↔ U.vm.findClass ("[" ++ ft.toString) = some cA := by
          obtain ⟨⟨i1, i2⟩, ⟨l1, l2⟩, ⟨b1, b2⟩, ⟨z1, z2⟩⟩ := hok.2.2.2.2
          cases y <;> cases hnad
          · exact ⟨rfl, z1, z2, by decide, fun _ => rfl, rfl, fun _ _ => Iff.rfl⟩
          · exact ⟨rfl, b1, b2, by decide, fun _ => rfl, rfl, fun _ _ => Iff.rfl⟩
          · exact ⟨rfl, i1, i2, by decide, fun _ => rfl, rfl, fun _ _ => Iff.rfl⟩
          · exact ⟨rfl, l1, l2, by decide, fun _ => rfl, rfl, fun _ _ => Iff.rfl⟩
        obtain ⟨k1, k2, k3, k4, k5, k6, k7⟩ := key
        rw [am_sl_push] at hR
        have hR1 : cells + 1 ≤ R.cells := by
          have := hR.1
          simp at this
          omega
        have hR2 : slots + n.toNatClampNeg ≤ R.slots := by
          have := hR.2
          simp only [am_sz] at this
          omega
        refine va_newa hx hb (by rw [k1]; exact hts _ k3) k1 hK.1 hW.2 (am_D hG h) hS (fun q hq => Nat.le_trans hNs hq) k5 hn rfl (Nat.le_trans (Nat.mul_le_mul_left _ k4) hbyt) hR1 hR2 hd ?_
        intro q cA H1 hK1 hP1 hD1 hS1
        refine am_wsz fun hub => ?_
        have hq := am_fresh hG hP1 hD1 hub (by have := hW.1; omega)
        subst hq
        have hcA : cA = dT t := by
          have a1 := (hK1.2 (am_tl T dT).length (cA, ft) (by rw [List.getElem?_append_right (Nat.le_refl _), Nat.sub_self]; rfl)).2
          have a2 := (hK.1.2 t (dT t, ft) (am_tl_at k2)).2
          exact Option.some.inj (((k7 s cA).mp a1).symm.trans ((k7 s (dT t)).mp a2))
        subst hcA
        have e1 : am_ws g dT ro.length h ++ [(g (ro.length + h.length), (Sum.inl (dT t, n.toNatClampNeg, x) : va_E))] = am_ws g dT ro.length (h ++ [.inl (t, n.toNatClampNeg, x)]) := by
          rw [am_ws_push]
          show _ = _ ++ [(g (ro.length + h.length), (Sum.inl (dT t, n.toNatClampNeg, am_lx g x) : va_E))]
          rw [k6]
        rw [e1] at hP1
        have hz := am_size hG hP1 hNs hS1 hub (by have := hW.1; simp; omega)
        exact K H1 locs (cells + 1) (slots + n.toNatClampNeg) ⟨hz, hP1⟩ hS1 (by have := hW.1; rw [hz]; simp; omega) (by rw [am_sl_push]; simp only [am_sz]; omega)
      · cases hh
    · cases hh
  · cases hh
theorem am_h_nq {idx : Nat} (Cx : am_C p s m args meth c T Ts D dT g N ro mm M) (hW : am_W T D dT g N ro.length h H) (hS : va_S (fun q => N ≤ q) s.heap H locs) (hE : s.heap.size + cells = H.size) (hR : cells + h2.length ≤ R.cells + h.length ∧ slots + am_sl h2 ≤ R.slots + am_sl h) (hd : decode M.2.1 pc = .ok (.anewarray idx, 3)) (hh : am_nq T ro mm idx st h = some (st2, h2))
    (K : ∀ (H2 : Heap) (locs2 : List Loc) (cells2 slots2 : Nat), am_W T D dT g N ro.length h2 H2 → va_S (fun q => N ≤ q) s.heap H2 locs2 → s.heap.size + cells2 = H2.size → slots2 + am_sl h = slots + am_sl h2 → W p l e R s m args below meth c H2 locs2 cells2 slots2 Q (F0 m (pc + 3) ls (st2.map (am_v g)))) : W p l e R s m args below meth c H locs cells slots Q (F0 m pc ls (st.map (am_v g))) := by
  obtain ⟨hx, hb, hml, hown, hts, hnm, hM, hK, hRO, hNs, hG, hok⟩ := Cx
  unfold am_nq at hh
  split at hh
  · rename_i n r
    split at hh
    · rename_i ci t hkl
      split at hh
      · rename_i C hty
        split at hh
        · rename_i hc
          obtain ⟨hn, hbyt⟩ := hc
          cases hh
          rw [am_sl_push] at hR
          have hR1 : cells + 1 ≤ R.cells := by
            have := hR.1
            simp at this
            omega
          have hR2 : slots + n.toNatClampNeg ≤ R.slots := by
            have := hR.2
            simp only [am_sz] at this
            omega
          refine va_newq hx hb hown (hts _ ((hok.2.2.1 mm idx ci t M hkl hM).2 C hty)) (hK.2 t C hty) hK.1 hW.2 (am_D hG h) hS (fun q hq => Nat.le_trans hNs hq) hn rfl hbyt hR1 hR2 hd ?_
          intro q cA H1 hK1 hP1 hD1 hS1
          refine am_wsz fun hub => ?_
          have hq := am_fresh hG hP1 hD1 hub (by have := hW.1; omega)
          subst hq
          have hcA : cA = dT t := by
            obtain ⟨_, _, _, _, _, a1⟩ := (hK1.2 (am_tl T dT).length (cA, .object C) (by rw [List.getElem?_append_right (Nat.le_refl _), Nat.sub_self]; rfl)).2
            obtain ⟨_, _, _, _, _, a2⟩ := (hK.1.2 t (dT t, .object C) (am_tl_at hty)).2
            exact Option.some.inj (a1.symm.trans a2)
          subst hcA
          have e1 : am_ws g dT ro.length h ++ [(g (ro.length + h.length), (Sum.inl (dT t, n.toNatClampNeg, .inr (.inr (.inr (.inr (fun _ => none))))) : va_E))] = am_ws g dT ro.length (h ++ [.inl (t, n.toNatClampNeg, .inr (.inr (.inr (.inr (fun _ => none)))))]) := by
            rw [am_ws_push]
            rfl
          rw [e1] at hP1
          have hz := am_size hG hP1 hNs hS1 hub (by have := hW.1; simp; omega)
          exact K H1 locs (cells + 1) (slots + n.toNatClampNeg) ⟨hz, hP1⟩ hS1 (by have := hW.1; rw [hz]; simp; omega) (by rw [am_sl_push]; simp only [am_sz]; omega)
        · cases hh
      · cases hh
    · cases hh
  · cases hh
end AM4
end
section
def am_ct (st : List Value) : Nat := (st.map (fun v => v.category)).sum
theorem am_ct_map (g : Nat → Nat) (st : List Value) : ((st.map (am_v g)).map (fun v => v.category)).sum = am_ct st := by
  unfold am_ct
  rw [List.map_map]
  congr 1
  apply List.map_congr_left
  intro v _
  exact am_v_cat g v
theorem am_sl_len (vs : List Value) : (lg_sl vs).length = am_ct vs := by
  unfold lg_sl am_ct
  induction vs with
  | nil => rfl
  | cons v vs ih =>
    rw [List.flatMap_cons, List.length_append, ih, List.map_cons, List.sum_cons]
    congr 1
    rcases lv_cat v with h | h <;> simp [h]
def am_rt (ret : Option FieldType) (i : Instr) (st : List Value) : Option (Option Value) := match i, st with
  | .ireturn, [.int v] => (match ret with
    | some .int => some (some (.int v))
    | some .boolean => if v = 0 ∨ v = 1 then some (some (.int v)) else none
    | _ => none)
  | .lreturn, [.long v] => (match ret with
    | some .long => some (some (.long v))
    | _ => none)
  | .areturn, [.ref a] => (match ret with
    | some (.object _) => some (some (.ref a))
    | some (.array _) => some (some (.ref a))
    | _ => none)
  | .areturn, [.null] => (match ret with
    | some (.object _) => some (some .null)
    | some (.array _) => some (some .null)
    | _ => none)
  | .return_, [] => (match ret with
    | none => some none
    | _ => none)
  | _, _ => none
def am_ca (T : am_T) (ro : List am_E) (m : Nat) (i : Instr) (st : List Value) (h : List am_E) : Option (Nat × am_M × List Value × List Value) := match i with
  | .invokestatic idx => (match am_ml T m idx with
    | some (k, 0, _) => (match am_mt T k with
      | some M => if M.2.2.2.2 ≤ st.length ∧ am_ct (st.drop M.2.2.2.2) ≤ 8 then some (k, M, (st.take M.2.2.2.2).reverse, st.drop M.2.2.2.2) else none
      | none => none)
    | _ => none)
  | .invokevirtual idx => (match am_ml T m idx with
    | some (k, 1, ci) => (match am_mt T k with
      | some M => (match st.drop M.2.2.2.2 with
        | .ref b :: rest => (match am_dy ro h b with
          | some (.inr (cj, _)) => if cj = ci ∧ M.2.2.2.2 ≤ st.length ∧ am_ct rest ≤ 8 then some (k, M, .ref b :: (st.take M.2.2.2.2).reverse, rest) else none
          | _ => none)
        | _ => none)
      | none => none)
    | _ => none)
  | .invokespecial idx => (match am_ml T m idx with
    | some (k, kd, _) => if kd = 2 ∨ kd = 3 then (match am_mt T k with
      | some M => (match st.drop M.2.2.2.2 with
        | .ref b :: rest => if M.2.2.2.2 ≤ st.length ∧ am_ct rest ≤ 8 then some (k, M, .ref b :: (st.take M.2.2.2.2).reverse, rest) else none
        | _ => none)
      | none => none) else none
    | _ => none)
  | _ => none
def am_nv (T : am_T) (ro : List am_E) (f w m : Nat) (i : Instr) (st : List Value) (h : List am_E) : Option am_Y := match i with
  | .invokespecial idx => (match am_ml T m idx, st with
    | some (_, 4, _), .ref _ :: r => if 1 ≤ f ∧ am_ct r + 12 ≤ w then some (r, h) else none
    | _, _ => none)
  | .invokestatic idx => (match am_ml T m idx, st with
    | some (_, 5, _), .int n :: .int dp :: .ref a :: .int sp :: .ref a0 :: r => (match am_dy ro h a0, am_dy ro h a with
      | some (.inl (t0, n0, .inl f0)), some (.inl (t1, n1, .inl f1)) => if t0 = 0 ∧ t1 = 0 ∧ ¬ sp < 0 ∧ ¬ dp < 0 ∧ ¬ n < 0 ∧ sp.toNatClampNeg + n.toNatClampNeg ≤ n0 ∧ dp.toNatClampNeg + n.toNatClampNeg ≤ n1 ∧ 1 ≤ f ∧ am_ct r + (nativeFrameWords "java/lang/System" "arraycopy" 5 + 11) ≤ w then some (r, am_up ro h a (.inl (t1, n1, .inl (va_cpy f0 f1 sp.toNatClampNeg dp.toNatClampNeg n.toNatClampNeg)))) else none
      | _, _ => none)
    | _, _ => none)
  | _ => none
/-- the machine of one's own: n steps at most, f frames and w words left -/
noncomputable def am_go (T : am_T) (ro : List am_E) (n : Nat) : Nat → Nat → Nat → Nat → List (Nat × Value) → List Value → List am_E → Option (Option Value × List am_E) :=
  Nat.rec (fun _ _ _ _ _ _ _ => none) (fun _ ih f w m pc lv st h =>
    match am_in T m pc, am_mt T m with
    | some (i, _), some M => (match am_rt M.2.2.2.1 i st with
      | some r => some (r, h)
      | none => (match am_pu M.2.2.1 i pc lv st with
        | some (pc2, lv2, st2) => ih f w m pc2 lv2 st2 h
        | none => (match am_hp T ro m i st h with
          | some (st2, h2) => ih f w m (pc + am_ln i) lv st2 h2
          | none => (match am_nv T ro f w m i st h with
            | some (st2, h2) => ih f w m (pc + 3) lv st2 h2
            | none => (match am_ca T ro m i st h with
              | some (k, M2, as, rest) => if 1 ≤ f ∧ 19 + M2.2.2.1 ≤ w ∧ am_ct as ≤ M2.2.2.1 then (match ih (f - 1) (w - (19 + M2.2.2.1)) k 0 (lv_args 0 as) [] h with
                | some (r, h2) => ih f w m (pc + 3) lv (r.toList ++ rest) h2
                | none => none) else none
              | none => none)))))
    | _, _ => none) n
theorem am_go_succ (T : am_T) (ro : List am_E) (n f w m pc : Nat) (lv : List (Nat × Value)) (st : List Value) (h : List am_E) : am_go T ro (n + 1) f w m pc lv st h = 
    match am_in T m pc, am_mt T m with
    | some (i, _), some M => (match am_rt M.2.2.2.1 i st with
      | some r => some (r, h)
      | none => (match am_pu M.2.2.1 i pc lv st with
        | some (pc2, lv2, st2) => am_go T ro n f w m pc2 lv2 st2 h
        | none => (match am_hp T ro m i st h with
          | some (st2, h2) => am_go T ro n f w m (pc + am_ln i) lv st2 h2
          | none => (match am_nv T ro f w m i st h with
            | some (st2, h2) => am_go T ro n f w m (pc + 3) lv st2 h2
            | none => (match am_ca T ro m i st h with
              | some (k, M2, as, rest) => if 1 ≤ f ∧ 19 + M2.2.2.1 ≤ w ∧ am_ct as ≤ M2.2.2.1 then (match am_go T ro n (f - 1) (w - (19 + M2.2.2.1)) k 0 (lv_args 0 as) [] h with
                | some (r, h2) => am_go T ro n f w m (pc + 3) lv (r.toList ++ rest) h2
                | none => none) else none
              | none => none)))))
    | _, _ => none := rfl
theorem am_hp_grow {T : am_T} {ro : List am_E} {m : Nat} {i : Instr} {st st2 : List Value} {h h2 : List am_E} (hh : am_hp T ro m i st h = some (st2, h2)) : am_grow h h2 := by
  unfold am_hp at hh
  split at hh
  · unfold am_gf at hh
    repeat' split at hh
    all_goals first | (cases hh; exact am_grow_rf _) | cases hh
  · unfold am_pf at hh
    split at hh
    · split at hh
      · split at hh
        · rename_i hdy
          split at hh
          · cases hh
            exact am_grow_up hdy (by simp [am_sz])
          · cases hh
        · cases hh
      · cases hh
    · cases hh
  · unfold am_ial at hh
    repeat' split at hh
    all_goals first | (cases hh; exact am_grow_rf _) | cases hh
  · unfold am_lal at hh
    repeat' split at hh
    all_goals first | (cases hh; exact am_grow_rf _) | cases hh
  · unfold am_bal at hh
    repeat' split at hh
    all_goals first | (cases hh; exact am_grow_rf _) | cases hh
  · unfold am_aal at hh
    repeat' split at hh
    all_goals first | (cases hh; exact am_grow_rf _) | cases hh
  · unfold am_ias at hh
    split at hh
    · split at hh
      · rename_i hdy
        split at hh
        · cases hh
          exact am_grow_up hdy rfl
        · cases hh
      · cases hh
    · cases hh
  · unfold am_las at hh
    split at hh
    · split at hh
      · rename_i hdy
        split at hh
        · cases hh
          exact am_grow_up hdy rfl
        · cases hh
      · cases hh
    · cases hh
  · unfold am_bas at hh
    split at hh
    · split at hh
      · rename_i hdy
        split at hh
        · split at hh
          · cases hh
            exact am_grow_up hdy rfl
          · split at hh
            · cases hh
              exact am_grow_up hdy rfl
            · cases hh
        · cases hh
      · cases hh
    · cases hh
  · unfold am_aas at hh
    split at hh
    · split at hh
      · rename_i hdy
        split at hh
        · split at hh
          · cases hh
            exact am_grow_up hdy rfl
          · cases hh
        · cases hh
      · cases hh
    · split at hh
      · rename_i hdy hdv
        split at hh
        · split at hh
          · cases hh
            exact am_grow_up hdy rfl
          · cases hh
        · cases hh
      · cases hh
    · cases hh
  · unfold am_aln at hh
    repeat' split at hh
    all_goals first | (cases hh; exact am_grow_rf _) | cases hh
  · unfold am_new at hh
    repeat' split at hh
    all_goals first | (cases hh; exact am_grow_push _ _) | cases hh
  · unfold am_na at hh
    repeat' split at hh
    all_goals first | (cases hh; exact am_grow_push _ _) | cases hh
  · unfold am_nq at hh
    repeat' split at hh
    all_goals first | (cases hh; exact am_grow_push _ _) | cases hh
  · unfold am_ldc at hh
    repeat' split at hh
    all_goals first | (cases hh; exact am_grow_rf _) | cases hh
  · unfold am_ldw at hh
    repeat' split at hh
    all_goals first | (cases hh; exact am_grow_rf _) | cases hh
  · unfold am_gs at hh
    repeat' split at hh
    all_goals first | (cases hh; exact am_grow_rf _) | cases hh
  · cases hh
theorem am_nv_grow {T : am_T} {ro : List am_E} {f w m : Nat} {i : Instr} {st st2 : List Value} {h h2 : List am_E} (hh : am_nv T ro f w m i st h = some (st2, h2)) : am_grow h h2 := by
  unfold am_nv at hh
  split at hh
  · repeat' split at hh
    all_goals first | (cases hh; exact am_grow_rf _) | cases hh
  · split at hh
    · split at hh
      · rename_i hd0 hd1
        split at hh
        · cases hh
          exact am_grow_up hd1 rfl
        · cases hh
      · cases hh
    · cases hh
  · cases hh
theorem am_go_grow (T : am_T) (ro : List am_E) (n : Nat) : ∀ (f w m pc : Nat) (lv : List (Nat × Value)) (st : List Value) (h : List am_E) (r : Option Value) (h2 : List am_E), am_go T ro n f w m pc lv st h = some (r, h2) → am_grow h h2 := by
  induction n with
  | zero => intro f w m pc lv st h r h2 hh; cases hh
  | succ n ih =>
    intro f w m pc lv st h r h2 hh
    rw [am_go_succ] at hh
    split at hh
    · split at hh
      · cases hh; exact am_grow_rf _
      · split at hh
        · exact ih _ _ _ _ _ _ _ _ _ hh
        · split at hh
          · rename_i h1
            exact am_grow_tr (am_hp_grow h1) (ih _ _ _ _ _ _ _ _ _ hh)
          · split at hh
            · rename_i h1
              exact am_grow_tr (am_nv_grow h1) (ih _ _ _ _ _ _ _ _ _ hh)
            · split at hh
              · split at hh
                · split at hh
                  · rename_i h1
                    exact am_grow_tr (ih _ _ _ _ _ _ _ _ _ h1) (ih _ _ _ _ _ _ _ _ _ hh)
                  · cases hh
                · cases hh
              · cases hh
    · cases hh
end
section
def am_gd (Ts : List Cond) : Prop := ∀ w ∈ Ts, (w.onTables && w.keeps) = true ∨ ∃ ty, w = .arrayClass ty
def am_okI (T : am_T) : Prop := ∀ (m pc : Nat) (i : Instr) (len : Nat) (M : am_M), am_in T m pc = some (i, len) → am_mt T m = some M → decode M.2.1 pc = .ok (i, len) ∧ (am_ln i = 0 ∨ am_ln i = len)
def am_okM (T : am_T) (Ts Ls : List Cond) : Prop := ∀ (m idx k kd ci : Nat) (M : am_M), am_ml T m idx = some (k, kd, ci) → am_mt T m = some M →
  (kd = 4 → Cond.methodLink M.1.cls idx objectInit ∈ Ts ∧ Cond.instanceMethod objectInit ∈ Ts ∧ Cond.code objectInit ⟨#[0xb1]⟩ 1 none ∈ Ts) ∧
  (kd = 5 → Cond.methodLink M.1.cls idx arraycopyName ∈ Ts ∧ Cond.native arraycopyName ∈ Ts ∧ Cond.static arraycopyName ∈ Ts ∧ Cond.initialized "java/lang/System" ∈ Ts) ∧
  ∀ M2, am_mt T k = some M2 → kd < 4 → plainFor M2.1 = true ∧ (M2.1.cls ≠ "java/lang/invoke/MethodHandle" ∧ M2.1.cls ≠ "java/lang/invoke/VarHandle" ∧ (parseMethodDescriptor M2.1.desc).map (fun d => d.parameters.length) = some M2.2.2.2.2) ∧ Cond.code M2.1 M2.2.1 M2.2.2.1 M2.2.2.2.1 ∈ Ts ∧ Cond.initialized M2.1.cls ∈ Ts ∧ (kd ≠ 3 → Cond.methodLink M.1.cls idx M2.1 ∈ Ts) ∧ (kd = 0 → Cond.static M2.1 ∈ Ts) ∧ (kd = 1 → Cond.instanceMethod M2.1 ∈ Ts ∧ Cond.selects M2.1.cls M2.1 M2.1 ∈ Ts ∧ ∃ (TT : u_T) (NN : Nat), (am_cl T)[ci]? = some (M2.1.cls, TT, NN)) ∧ (kd = 2 ∨ kd = 3 → M2.1.name = "<init>" ∧ Cond.instanceMethod M2.1 ∈ Ts ∧ M2.2.2.2.1 = none) ∧ (kd = 3 → ∃ host, Cond.methodLinkNest M.1.cls idx M2.1 host ∈ Ls)
def am_Nst (Ls : List Cond) (s : State) : Prop := ∀ (own : String) (idx : Nat) (y : MethodName) (host : String), Cond.methodLinkNest own idx y host ∈ Ls → va_Nw (.methodLinkNest own idx y host) s
def am_I (T : am_T) (Ls : List Cond) (D : va_G) (dT : Nat → ClassId) (g : Nat → Nat) (N : Nat) (ro h : List am_E) (U : State) : Prop := am_W T D dT g N ro.length h U.heap ∧ am_K T D dT U ∧ am_RO T g N ro U ∧ N ≤ U.heap.size ∧ am_Nst Ls U
theorem am_blind {T : am_T} {Ls : List Cond} {D : va_G} {dT : Nat → ClassId} {g : Nat → Nat} {N : Nat} {ro h : List am_E} {as : List Value} : FrameBlind (va_Pc as (am_I T Ls D dT g N ro h)) := by
  intro a U f mk q
  obtain ⟨q0, qW, qK, qR, qN, qL⟩ := q
  refine ⟨q0, qW, ⟨va_K.moved (u := U) (U := U.calling f mk a) (Vm.Alike.refl U.vm) qK.1, fun t C h => va_AO.moved (u := U) (U := U.calling f mk a) (Vm.Alike.refl U.vm) (qK.2 t C h)⟩, ⟨fun i t n x y h1 h2 => va_T.moved (u := U) (U := U.calling f mk a) (Vm.Alike.refl U.vm) (qR.1 i t n x y h1 h2), fun q hq => va_Z.moved (u := U) (U := U.calling f mk a) (Vm.Alike.refl U.vm) (qR.2 q hq)⟩, qN, fun own idx y host h => va_tabs rfl (rfl : U.vm = (U.calling f mk a).vm) (qL own idx y host h)⟩
theorem am_moved {T : am_T} {Ls : List Cond} {D : va_G} {dT : Nat → ClassId} {g : Nat → Nat} {N : Nat} {ro h : List am_E} {s U : State} {H : Heap} {locs : List Loc} (hW : am_W T D dT g N ro.length h H) (hK : am_K T D dT s) (hR : am_RO T g N ro s) (hN : N ≤ s.heap.size) (hL : am_Nst Ls s) (hS : va_S (fun q => N ≤ q) s.heap H locs) (hU : U.heap = H) (hw : s.WarmedH U.vm) : am_I T Ls D dT g N ro h U := by
  refine ⟨by rw [hU]; exact hW, ⟨va_K.moved hw.alike hK.1, fun t C h => va_AO.moved hw.alike (hK.2 t C h)⟩, ⟨fun i t n x y h1 h2 => ?_, fun q hq => ?_⟩, by rw [hU]; exact Nat.le_trans hN hS.1, fun own idx y host h => va_Nw.warmM hw (hL own idx y host h)⟩
  · rw [hU]
    exact va_T.moved hw.alike ((hR.1 i t n x y h1 h2).kept (fun a h3 h4 => hS.2.1 a h3 h4))
  · rw [hU]
    exact va_Z.moved hw.alike ((hR.2 q hq).kept (fun a h3 h4 => hS.2.1 a h3 h4))
/-- a call, whatever it answers -/
theorem am_run_k {p : Program} {l : Launch} {e : Env} {R : Room} {s : State} {m : MethodId} {args : Array Value} {below : List Frame} {meth : Method} {c : Code} {H H0 : Heap} {locs : List Loc} {cells slots mc ms pc : Nat} {Q : State → Prop} {ls : Array Slot} {st0 rest : List Value} {Qa : State → Outcome → State → Prop} {free : Addr → Prop} {A : Nat → Prop} {v0 : Option Value} {B : State → Prop}
    (hr : va_Run p l e R s m args below meth c H locs cells slots mc ms (F0 m pc ls st0) rest Qa free) (hQ : ∀ (st₀ : State) (o : Outcome) (t : State), Qa st₀ o t → o = .returned v0 ∧ B t ∧ va_F A st₀ t) (hS : va_S A H0 H locs) (hf : ∀ q, free q → A q)
    (kk : ∀ (t : State) (H1 : Heap) (locs1 : List Loc), t.heap = H1 → B t → va_S A H0 H1 locs1 → W p l e R s m args below meth c H1 locs1 (cells + mc) (slots + ms) Q (F0 m (pc + 3) ls (v0.toList ++ rest))) : W p l e R s m args below meth c H locs cells slots Q (F0 m pc ls st0) := by
  intro T hT X
  obtain ⟨v, st₀, t, T', L, h0, X', hL, e1, e2, hq, st⟩ := hr T hT X
  obtain ⟨ho, hB, hz, hk⟩ := hQ _ _ _ hq
  cases ho
  rw [h0] at hz hk
  obtain ⟨t2, a1, b1⟩ := kk t T'.heap (locs ++ L) e1.symm hB ⟨Nat.le_trans hS.1 (by rw [e1]; exact hz), fun q h1 h2 => by rw [e1, hk q (Nat.lt_of_lt_of_le h1 hS.1) h2]; exact hS.2.1 q h1 h2, fun q hq => by
      rcases List.mem_append.mp hq with h | h
      · exact hS.2.2 q h
      · exact hf _ (hL q h)⟩ T' rfl X'
  exact ⟨t2, st t2 a1, b1⟩
/-- what n steps of the own machine say of the real one -/
def am_Snd (T : am_T) (Ts Ls : List Cond) (D : va_G) (dT : Nat → ClassId) (g : Nat → Nat) (N : Nat) (ro : List am_E) (l : Launch) (n : Nat) : Prop := ∀ (f w mm pc : Nat) (lv : List (Nat × Value)) (st : List Value) (h : List am_E) (r : Option Value) (h2 : List am_E), am_go T ro n f w mm pc lv st h = some (r, h2) →
  ∀ {p : Program} {e : Env} {R : Room} {s : State} {m : MethodId} {args : Array Value} {below : List Frame} {meth : Method} {c : Code} {H : Heap} {locs : List Loc} {cells slots : Nat} {Q : State → Prop} {ls : Array Slot} {M : am_M}, am_C p s m args meth c T Ts D dT g N ro mm M → am_Nst Ls s → am_W T D dT g N ro.length h H → va_S (fun q => N ≤ q) s.heap H locs → s.heap.size + cells = H.size → lv_has ls M.2.2.1 (lv.map (am_l g)) → f ≤ R.frames → w ≤ R.locals → cells + h2.length ≤ R.cells + h.length → slots + am_sl h2 ≤ R.slots + am_sl h →
  (∀ (H3 : Heap) (locs3 : List Loc) (cells3 slots3 pc3 : Nat) (ls3 : Array Slot) (st3 : List Value) (i : Instr) (len : Nat), am_W T D dT g N ro.length h2 H3 → va_S (fun q => N ≤ q) s.heap H3 locs3 → s.heap.size + cells3 = H3.size → slots3 + am_sl h = slots + am_sl h2 → decode M.2.1 pc3 = .ok (i, len) → (am_ln i = 0 ∨ am_ln i = len) → am_rt M.2.2.2.1 i st3 = some r → W p l e R s m args below meth c H3 locs3 cells3 slots3 Q (F0 m pc3 ls3 (st3.map (am_v g)))) →
  W p l e R s m args below meth c H locs cells slots Q (F0 m pc ls (st.map (am_v g)))
theorem am_rets {p : Program} {l : Launch} {e : Env} {R : Room} {s : State} {m : MethodId} {args : Array Value} {below : List Frame} {meth : Method} {c : Code} {H : Heap} {locs : List Loc} {cells slots : Nat} {cc : ByteArray} {Qc : Array Value → State → Outcome → State → Prop} {free : Addr → Prop} {g : Nat → Nat} {ret : Option FieldType} {i : Instr} {len pc : Nat} {ls : Array Slot} {st : List Value} {r : Option Value}
    (hx : p.tables.exec = Jvm.exec) (hb : c.code = cc) (hr : meth.sig.returnType = ret) (hlocks : meth.locks = false) (hd : decode cc pc = .ok (i, len)) (hl : am_ln i = 0 ∨ am_ln i = len) (ha : am_rt ret i st = some r) (hq : ∀ t : State, t.heap = H → s.WarmedH t.vm → Qc args s (.returned (r.map (am_v g))) t) (hf : ∀ q ∈ locs, free q.base) :
    W p l e R s m args below meth c H locs cells slots (MQ below Qc args s cells slots free) (F0 m pc ls (st.map (am_v g))) := by
  unfold am_rt at ha
  split at ha
  · rename_i v
    have hd1 : decode cc pc = .ok (.ireturn, 1) := am_le hl rfl (by decide) hd
    split at ha
    · cases ha
      exact W.iret hx hb hr hq hf hd1 hlocks
    · split at ha
      · rename_i hv
        cases ha
        refine W.zret hx hb hr ?_ hq hf hd1 hlocks
        rcases hv with rfl | rfl <;> decide
      · cases ha
    · cases ha
  · rename_i v
    have hd1 : decode cc pc = .ok (.lreturn, 1) := am_le hl rfl (by decide) hd
    split at ha
    · cases ha
      exact W.lret hx hb hr hq hf hd1 hlocks
    · cases ha
  · rename_i a
    have hd1 : decode cc pc = .ok (.areturn, 1) := am_le hl rfl (by decide) hd
    split at ha
    · cases ha
      exact W.aret hx hb hr (Or.inl ⟨_, rfl⟩) (Or.inr ⟨g a, rfl⟩) hq hf hd1 hlocks
    · cases ha
      exact W.aret hx hb hr (Or.inr ⟨_, rfl⟩) (Or.inr ⟨g a, rfl⟩) hq hf hd1 hlocks
    · cases ha
  · have hd1 : decode cc pc = .ok (.areturn, 1) := am_le hl rfl (by decide) hd
    split at ha
    · cases ha
      exact W.aret hx hb hr (Or.inl ⟨_, rfl⟩) (Or.inl rfl) hq hf hd1 hlocks
    · cases ha
      exact W.aret hx hb hr (Or.inr ⟨_, rfl⟩) (Or.inl rfl) hq hf hd1 hlocks
    · cases ha
  · have hd1 : decode cc pc = .ok (.return_, 1) := am_le hl rfl (by decide) hd
    split at ha
    · cases ha
      exact W.vret hx hb hr hq hf hd1 hlocks
    · cases ha
  · cases ha
theorem am_args_map (g : Nat → Nat) : ∀ (i : Nat) (vs : List Value), lv_args i (vs.map (am_v g)) = (lv_args i vs).map (am_l g)
  | _, [] => rfl
  | i, v :: vs => by
    rw [List.map_cons, lv_args, lv_args, List.map_cons, am_v_cat, am_args_map g _ vs]
    rfl
theorem am_met {T : am_T} {Ts Ls : List Cond} {D : va_G} {dT : Nat → ClassId} {g : Nat → Nat} {N : Nat} {ro : List am_E} {l : Launch} {n : Nat} (ih : am_Snd T Ts Ls D dT g N ro l n) (hG : am_G g N ro.length) (hok : am_ok T Ts) {f w mm : Nat} {as : List Value} {h h2 : List am_E} {r : Option Value} {M : am_M} (hgo : am_go T ro n f w mm 0 (lv_args 0 as) [] h = some (r, h2)) (hM : am_mt T mm = some M) (hpl : plainFor M.1 = true) (hct : am_ct as ≤ M.2.2.1) :
    Met l M.1 (Cond.code M.1 M.2.1 M.2.2.1 M.2.2.2.1 :: Ts) ({ frames := f, cells := h2.length - h.length, slots := am_sl h2 - am_sl h, locals := w }) (va_Pc (as.map (am_v g)) (am_I T Ls D dT g N ro h)) (fun _ st o t => o = .returned (r.map (am_v g)) ∧ am_W T D dT g N ro.length h2 t.heap ∧ va_F (fun q => N ≤ q) st t) (h2.length - h.length) (am_sl h2 - am_sl h) (fun q => N ≤ q) := by
  have hgr := am_go_grow T ro n _ _ _ _ _ _ _ _ _ hgo
  refine va_MetF (cc := M.2.1) (maxL := M.2.2.1) (ret := M.2.2.2.1) hpl rfl ?_
  intro p e s m args below meth c s₁ B hml hv
  obtain ⟨rfl, hW, hK, hRO, hN, hL⟩ := hv
  have hts := atoms_spec (ws := Cond.code M.1 M.2.1 M.2.2.1 M.2.2.2.1 :: Ts) B.pre
  have hl := lv_entry (as.map (am_v g)) (n := M.2.2.1) (by rw [am_sl_len]; unfold am_ct; rw [am_ct_map]; exact hct)
  rw [lg_entry_eq]
  generalize (lg_sl (as.map (am_v g)) ++ List.replicate (M.2.2.1 - (lg_sl (as.map (am_v g))).length) Slot.unset).toArray = ls at hl ⊢
  rw [am_args_map] at hl
  have hsz := hW.1
  have key := ih f w mm 0 (lv_args 0 as) [] h r h2 hgo (p := p) (e := e) (R := (headSpec (Cond.code M.1 M.2.1 M.2.2.1 M.2.2.2.1 :: Ts) ({ frames := f, cells := h2.length - h.length, slots := am_sl h2 - am_sl h, locals := w })).room) (s := s) (m := m) (args := (as.map (am_v g)).toArray) (below := below) (meth := meth) (c := c) (H := s.heap) (locs := []) (cells := 0) (slots := 0) (Q := MQ below (fun _ st o t => o = .returned (r.map (am_v g)) ∧ am_W T D dT g N ro.length h2 t.heap ∧ va_F (fun q => N ≤ q) st t) (as.map (am_v g)).toArray s (h2.length - h.length) (am_sl h2 - am_sl h) (fun q => N ≤ q)) (ls := ls) (M := M)
    ⟨B.exec, B.bytes, hml, findClass_of_methodNamed B.named, fun w hw => hts w (List.mem_cons_of_mem _ hw), fun z => (name_of_methodNamed B.named B.method).1.trans z, hM, hK, hRO, hN, hG, hok⟩ hL hW va_S.rf (by omega) hl (Nat.le_refl _) (Nat.le_refl _) (by show 0 + h2.length ≤ (h2.length - h.length) + h.length; have := hgr.1; omega) (by show 0 + am_sl h2 ≤ (am_sl h2 - am_sl h) + am_sl h; have := hgr.2; omega) ?_
  · exact key
  · intro H3 locs3 cells3 slots3 pc3 ls3 st3 i len hW3 hS3 hE3 hsl3 hd3 hln3 hrt3
    have e1 : cells3 = h2.length - h.length := by
      have := hW3.1
      omega
    have e2 : slots3 = am_sl h2 - am_sl h := by omega
    subst e1
    subst e2
    exact am_rets B.exec B.bytes B.returns B.notSynchronized hd3 hln3 hrt3 (fun t ht hw => ⟨rfl, by rw [ht]; exact hW3, hS3.F ht⟩) hS3.2.2
end
section
theorem am_hp_ok {p : Program} {l : Launch} {e : Env} {R : Room} {s : State} {m : MethodId} {args : Array Value} {below : List Frame} {meth : Method} {c : Code} {H : Heap} {locs : List Loc} {cells slots : Nat} {Q : State → Prop} {T : am_T} {Ts : List Cond} {D : va_G} {dT : Nat → ClassId} {g : Nat → Nat} {N mm : Nat} {ro h h2 : List am_E} {M : am_M} {pc : Nat} {ls : Array Slot} {st st2 : List Value} {i : Instr} {len : Nat}
    (Cx : am_C p s m args meth c T Ts D dT g N ro mm M) (hW : am_W T D dT g N ro.length h H) (hS : va_S (fun q => N ≤ q) s.heap H locs) (hE : s.heap.size + cells = H.size) (hR : cells + h2.length ≤ R.cells + h.length ∧ slots + am_sl h2 ≤ R.slots + am_sl h) (hd : decode M.2.1 pc = .ok (i, len)) (hl : am_ln i = 0 ∨ am_ln i = len) (hh : am_hp T ro mm i st h = some (st2, h2))
    (K : ∀ (H2 : Heap) (locs2 : List Loc) (cells2 slots2 : Nat), am_W T D dT g N ro.length h2 H2 → va_S (fun q => N ≤ q) s.heap H2 locs2 → s.heap.size + cells2 = H2.size → slots2 + am_sl h = slots + am_sl h2 → W p l e R s m args below meth c H2 locs2 cells2 slots2 Q (F0 m (pc + am_ln i) ls (st2.map (am_v g)))) : W p l e R s m args below meth c H locs cells slots Q (F0 m pc ls (st.map (am_v g))) := by
  unfold am_hp at hh
  split at hh
  · exact am_h_gf Cx hW hS hE (am_le (n := 3) hl rfl (by decide) hd) hh K
  · exact am_h_pf Cx hW hS hE (am_le (n := 3) hl rfl (by decide) hd) hh K
  · exact am_h_ial Cx hW hS hE (am_le (n := 1) hl rfl (by decide) hd) hh K
  · exact am_h_lal Cx hW hS hE (am_le (n := 1) hl rfl (by decide) hd) hh K
  · exact am_h_bal Cx hW hS hE (am_le (n := 1) hl rfl (by decide) hd) hh K
  · exact am_h_aal Cx hW hS hE (am_le (n := 1) hl rfl (by decide) hd) hh K
  · exact am_h_ias Cx hW hS hE (am_le (n := 1) hl rfl (by decide) hd) hh K
  · exact am_h_las Cx hW hS hE (am_le (n := 1) hl rfl (by decide) hd) hh K
  · exact am_h_bas Cx hW hS hE (am_le (n := 1) hl rfl (by decide) hd) hh K
  · exact am_h_aas Cx hW hS hE (am_le (n := 1) hl rfl (by decide) hd) hh K
  · exact am_h_aln Cx hW hS hE (am_le (n := 1) hl rfl (by decide) hd) hh K
  · exact am_h_new Cx hW hS hE hR (am_le (n := 3) hl rfl (by decide) hd) hh K
  · exact am_h_na Cx hW hS hE hR (am_le (n := 2) hl rfl (by decide) hd) hh K
  · exact am_h_nq Cx hW hS hE hR (am_le (n := 3) hl rfl (by decide) hd) hh K
  · exact am_h_ldc Cx hW hS hE (am_le (n := 2) hl rfl (by decide) hd) hh K
  · exact am_h_ldw Cx hW hS hE (am_le (n := 3) hl rfl (by decide) hd) hh K
  · exact am_h_gs Cx hW hS hE (am_le (n := 3) hl rfl (by decide) hd) hh K
  · cases hh
theorem am_nv_ok {p : Program} {l : Launch} {e : Env} {R : Room} {s : State} {m : MethodId} {args : Array Value} {below : List Frame} {meth : Method} {c : Code} {H : Heap} {locs : List Loc} {cells slots : Nat} {Q : State → Prop} {T : am_T} {Ts Ls : List Cond} {D : va_G} {dT : Nat → ClassId} {g : Nat → Nat} {N mm f w : Nat} {ro h h2 : List am_E} {M : am_M} {pc : Nat} {ls : Array Slot} {lv : List (Nat × Value)} {st st2 : List Value} {i : Instr} {len : Nat} (hMm : am_okM T Ts Ls)
    (Cx : am_C p s m args meth c T Ts D dT g N ro mm M) (hW : am_W T D dT g N ro.length h H) (hS : va_S (fun q => N ≤ q) s.heap H locs) (hE : s.heap.size + cells = H.size) (hlv : lv_has ls M.2.2.1 lv) (hf : f ≤ R.frames) (hw : w ≤ R.locals) (hd : decode M.2.1 pc = .ok (i, len)) (hl : am_ln i = 0 ∨ am_ln i = len) (hh : am_nv T ro f w mm i st h = some (st2, h2))
    (K : ∀ (H2 : Heap) (locs2 : List Loc) (cells2 slots2 : Nat), am_W T D dT g N ro.length h2 H2 → va_S (fun q => N ≤ q) s.heap H2 locs2 → s.heap.size + cells2 = H2.size → slots2 + am_sl h = slots + am_sl h2 → W p l e R s m args below meth c H2 locs2 cells2 slots2 Q (F0 m (pc + 3) ls (st2.map (am_v g)))) : W p l e R s m args below meth c H locs cells slots Q (F0 m pc ls (st.map (am_v g))) := by
  obtain ⟨hx, hb, hml, hown, hts, hnm, hM, hK, hRO, hNs, hG, hok⟩ := Cx
  unfold am_nv at hh
  split at hh
  · rename_i idx
    split at hh
    · rename_i k ci a r hkl
      split at hh
      · rename_i hc
        cases hh
        obtain ⟨q1, q2, q3⟩ := (hMm mm idx k 4 ci M hkl hM).1 rfl
        refine W.objInit hx hb hown (hts _ q1) (hts _ q2) (hts _ q3) rfl (hlv.1.trans hml.symm) rfl (am_le (n := 3) hl rfl (by decide) hd) (Nat.le_trans hc.1 hf) ?_ (K H locs cells slots hW hS hE rfl)
        have h1 := am_ct_map g st2
        have h2 := hc.2
        show 2 * (F0 m pc ls _).monitorRoom + _ + 12 ≤ R.locals
        have h3 : 2 * (F0 m pc ls ((Value.ref a :: st2).map (am_v g))).monitorRoom = 0 := rfl
        omega
      · cases hh
    · cases hh
  · rename_i idx
    split at hh
    · rename_i k ci n dp a sp a0 r hkl
      split at hh
      · rename_i t0 n0 f0 t1 n1 f1 hd0 hd1
        split at hh
        · rename_i hc
          obtain ⟨rfl, rfl, h1, h2, h3, h4, h5, h6, h7⟩ := hc
          cases hh
          obtain ⟨j0, rfl, hi0⟩ := am_dy_ok hd0
          obtain ⟨j, rfl, hi⟩ := am_dy_ok hd1
          obtain ⟨q1, q2, q3, q4⟩ := (hMm mm idx k 5 ci M hkl hM).2.1 rfl
          have hct := am_ct_map g st2
          refine va_copyi hx hb (hml.trans hlv.1.symm) hown (hts _ q1) (hts _ q2) (hts _ q3) (hts _ q4) hK.1 hW.2 (am_D hG h) hS j0 j 0 0 (am_ws_at hi0) (am_ws_at hi) (am_tl_at hok.2.2.2.2.1.1) (am_tl_at hok.2.2.2.2.1.1) rfl h1 h2 h3 h4 h5 (fun _ _ => rfl) (Nat.le_trans h6 hf) (by omega) (am_le (n := 3) hl rfl (by decide) hd) ?_
          intro H1 locs1 hP1 _ hS1
          refine am_wsz fun hub => ?_
          rw [am_up_at] at K
          have e1 : (g (ro.length + j), (Sum.inl (dT 0, n1, .inl (va_cpy f0 f1 sp.toNatClampNeg dp.toNatClampNeg n.toNatClampNeg)) : va_E)) = (g (ro.length + j), am_lo g dT (.inl (0, n1, .inl (va_cpy f0 f1 sp.toNatClampNeg dp.toNatClampNeg n.toNatClampNeg)))) := rfl
          rw [e1, ← am_ws_set] at hP1
          have hz := am_size hG hP1 hNs hS1 hub (by rw [hE, hW.1]; simp)
          exact K H1 locs1 cells slots ⟨hz, hP1⟩ hS1 (by rw [hE, hW.1, hz]; simp) (by rw [am_sl_set hi (by simp [am_sz])])
        · cases hh
      · cases hh
    · cases hh
  · cases hh
theorem am_good {Ts : List Cond} (hgd : am_gd Ts) {w : Cond} (hw : w ∈ Ts) : GoodIn Ts (w :: Ts) := fun v hv => by
  rcases List.mem_cons.mp hv with rfl | h
  · exact ⟨hw, hgd _ hw⟩
  · exact ⟨h, hgd _ h⟩
theorem am_step {T : am_T} {Ts Ls : List Cond} {D : va_G} {dT : Nat → ClassId} {g : Nat → Nat} {N : Nat} {ro : List am_E} {l : Launch} (hI : am_okI T) (hMm : am_okM T Ts Ls) (hgd : am_gd Ts) {n : Nat} (ih : am_Snd T Ts Ls D dT g N ro l n) : am_Snd T Ts Ls D dT g N ro l (n + 1) := by
  intro f w mm pc lv st h r h2 hgo p e R s m args below meth c H locs cells slots Q ls M Cx hL hW hS hE hlv hf hw hR1 hR2 K
  have Cx0 := Cx
  obtain ⟨hx, hb, hml, hown, hts, hnm, hM, hK, hRO, hNs, hG, hok⟩ := Cx
  rw [am_go_succ] at hgo
  split at hgo
  · rename_i i len M0 hin hM0
    have eM : M0 = M := Option.some.inj (hM0.symm.trans hM)
    subst eM
    obtain ⟨hd, hl⟩ := hI mm pc i len M0 hin hM
    split at hgo
    · rename_i r0 hrt
      cases hgo
      exact K H locs cells slots pc ls st i len hW hS hE rfl hd hl hrt
    · split at hgo
      · rename_i pc2 lv2 st2 hpu
        refine am_pu_ok hx hb hG.2 hd hl hpu hlv (fun ls2 hlv2 => ?_)
        exact ih f w mm pc2 lv2 st2 h r h2 hgo Cx0 hL hW hS hE hlv2 hf hw hR1 hR2 K
      · split at hgo
        · rename_i st2 h3 hhp
          have g1 := am_hp_grow hhp
          have g2 := am_go_grow T ro n _ _ _ _ _ _ _ _ _ hgo
          refine am_hp_ok Cx0 hW hS hE ⟨by have := g2.1; omega, by have := g2.2; omega⟩ hd hl hhp ?_
          intro H4 locs4 cells4 slots4 hW4 hS4 hE4 hsl4
          have hz := hW.1
          have hz4 := hW4.1
          refine ih f w mm _ lv st2 h3 r h2 hgo Cx0 hL hW4 hS4 hE4 hlv hf hw (by omega) (by omega) ?_
          intro H5 locs5 cells5 slots5 pc5 ls5 st5 i5 len5 a1 a2 a3 a4 a5 a6 a7
          exact K H5 locs5 cells5 slots5 pc5 ls5 st5 i5 len5 a1 a2 a3 (by omega) a5 a6 a7
        · split at hgo
          · rename_i st2 h3 hnv
            have g1 := am_nv_grow hnv
            have g2 := am_go_grow T ro n _ _ _ _ _ _ _ _ _ hgo
            refine am_nv_ok hMm Cx0 hW hS hE hlv hf hw hd hl hnv ?_
            intro H4 locs4 cells4 slots4 hW4 hS4 hE4 hsl4
            have hz := hW.1
            have hz4 := hW4.1
            refine ih f w mm _ lv st2 h3 r h2 hgo Cx0 hL hW4 hS4 hE4 hlv hf hw (by omega) (by omega) ?_
            intro H5 locs5 cells5 slots5 pc5 ls5 st5 i5 len5 a1 a2 a3 a4 a5 a6 a7
            exact K H5 locs5 cells5 slots5 pc5 ls5 st5 i5 len5 a1 a2 a3 (by omega) a5 a6 a7
          · split at hgo
            · rename_i k M2 as rest hca
              split at hgo
              · rename_i hfw
                obtain ⟨hf1, hw1, hct⟩ := hfw
                split at hgo
                · rename_i r1 h3 hgo1
                  have g1 := am_go_grow T ro n _ _ _ _ _ _ _ _ _ hgo1
                  have g2 := am_go_grow T ro n _ _ _ _ _ _ _ _ _ hgo
                  have fin : ∀ (t : State) (H1 : Heap) (locs1 : List Loc), t.heap = H1 → am_W T D dT g N ro.length h3 t.heap → va_S (fun q => N ≤ q) s.heap H1 locs1 → W p l e R s m args below meth c H1 locs1 (cells + (h3.length - h.length)) (slots + (am_sl h3 - am_sl h)) Q (F0 m (pc + 3) ls ((r1.map (am_v g)).toList ++ rest.map (am_v g))) := by
                    intro t H1 locs1 ht hW4 hS4
                    rw [ht] at hW4
                    have hz := hW.1
                    have hz4 := hW4.1
                    have e1 : (r1.map (am_v g)).toList ++ rest.map (am_v g) = (r1.toList ++ rest).map (am_v g) := by
                      cases r1 <;> rfl
                    rw [e1]
                    have ga := g1.1
                    have gb := g1.2
                    refine ih f w mm _ lv _ h3 r h2 hgo Cx0 hL hW4 hS4 (by omega) hlv hf hw (by omega) (by omega) ?_
                    intro H5 locs5 cells5 slots5 pc5 ls5 st5 i5 len5 a1 a2 a3 a4 a5 a6 a7
                    exact K H5 locs5 cells5 slots5 pc5 ls5 st5 i5 len5 a1 a2 a3 (by omega) a5 a6 a7
                  have room : (h3.length - h.length) + cells ≤ R.cells ∧ (am_sl h3 - am_sl h) + slots ≤ R.slots := by
                    have := g1.1
                    have := g1.2
                    have := g2.1
                    have := g2.2
                    omega
                  have pre : ∀ U : State, U.heap = H → s.WarmedH U.vm → am_I T Ls D dT g N ro h U := fun U hU hwU => am_moved hW hK hRO hNs hL hS hU hwU
                  unfold am_ca at hca
                  split at hca
                  · rename_i idx
                    split at hca
                    · rename_i k0 ci hml0
                      split at hca
                      · rename_i M3 hM3
                        split at hca
                        · rename_i hc
                          cases hca
                          obtain ⟨b1, b2, b3, b4, b5, b6, b7, b8, b9⟩ := (hMm mm _ k 0 ci M0 hml0 hM).2.2 M2 hM3 (by decide)
                          have hMet := am_met ih hG hok hgo1 hM3 b1 hct
                          refine am_run_k (A := fun q => N ≤ q) (B := fun t => am_W T D dT g N ro.length h3 t.heap) (va_runS (As := (st.take M2.2.2.2.2).reverse.map (am_v g)) (rest := (st.drop M2.2.2.2.2).map (am_v g)) ⟨hx, hb, hml, hown, hts⟩ hMet ⟨callB_of M2.2.2.2.2 hts (am_good hgd b3) rfl rfl rfl (hts _ b4) (hts _ (b5 (by decide))) b2 ⟨by show f - 1 + 1 ≤ R.frames; omega, by show 8 + (M2.2.2.1 + 11) + (w - (19 + M2.2.2.1)) ≤ R.locals; omega⟩, hts _ (b6 rfl)⟩ ⟨am_blind, fun U hU hwU => ⟨rfl, pre U hU hwU⟩⟩ rfl (by simp; omega) hlv.1 ?_ ?_ (am_le (n := 3) hl rfl (by decide) hd) ⟨by omega, by omega⟩) (fun st₀ o t hq => hq) hS (fun q hq => hq) fin
                          · show st.map (am_v g) = _
                            rw [← List.map_reverse, List.reverse_reverse, ← List.map_append, List.take_append_drop]
                          · have := am_ct_map g (st.drop M2.2.2.2.2)
                            have h3' : 2 * (F0 m pc ls (st.map (am_v g))).monitorRoom = 0 := rfl
                            have := hc.2
                            omega
                        · cases hca
                      · cases hca
                    · cases hca
                  · rename_i idx
                    split at hca
                    · rename_i k0 ci hml0
                      split at hca
                      · rename_i M3 hM3
                        split at hca
                        · rename_i b rest0 hdrop
                          split at hca
                          · rename_i cj vs hdy
                            split at hca
                            · rename_i hc
                              obtain ⟨rfl, hlen, hct8⟩ := hc
                              cases hca
                              obtain ⟨b1, b2, b3, b4, b5, b6, b7, b8, b9⟩ := (hMm mm _ k 1 cj M0 hml0 hM).2.2 M2 hM3 (by decide)
                              obtain ⟨c1, c2, TT, NN, c3⟩ := b7 rfl
                              have hMet := am_met ih hG hok hgo1 hM3 b1 hct
                              obtain ⟨j, rfl, hi⟩ := am_dy_ok hdy
                              refine am_run_k (A := fun q => N ≤ q) (B := fun t => am_W T D dT g N ro.length h3 t.heap) (va_runV (C := M2.1.cls) (b := g (ro.length + j)) (As := (st.take M2.2.2.2.2).reverse.map (am_v g)) (rest := rest.map (am_v g)) ⟨hx, hb, hml, hown, hts⟩ hMet ⟨callB_of M2.2.2.2.2 hts (am_good hgd b3) rfl rfl rfl (hts _ b4) (hts _ (b5 (by decide))) b2 ⟨by show f - 1 + 1 ≤ R.frames; omega, by show 8 + (M2.2.2.1 + 11) + (w - (19 + M2.2.2.1)) ≤ R.locals; omega⟩, hts _ c1, hts _ c2⟩ ⟨am_blind, va_recv hK.1 hW.2 c3 (am_ws_at hi), fun U hU hwU => ⟨rfl, pre U hU hwU⟩⟩ rfl (by simp; omega) hlv.1 ?_ ?_ (am_le (n := 3) hl rfl (by decide) hd) ⟨by omega, by omega⟩) (fun st₀ o t hq => hq) hS (fun q hq => hq) fin
                              · show st.map (am_v g) = _
                                rw [← List.map_reverse, List.reverse_reverse]
                                show _ = _ ++ (Value.ref (ro.length + j) :: rest).map (am_v g)
                                rw [← hdrop, ← List.map_append, List.take_append_drop]
                              · have := am_ct_map g rest
                                have h3' : 2 * (F0 m pc ls (st.map (am_v g))).monitorRoom = 0 := rfl
                                omega
                            · cases hca
                          · cases hca
                        · cases hca
                      · cases hca
                    · cases hca
                  · rename_i idx
                    split at hca
                    · rename_i k0 kd ci hml0
                      split at hca
                      · rename_i hkd
                        split at hca
                        · rename_i M3 hM3
                          split at hca
                          · rename_i b rest0 hdrop
                            split at hca
                            · rename_i hc
                              obtain ⟨hlen, hct8⟩ := hc
                              cases hca
                              obtain ⟨b1, b2, b3, b4, b5, b6, b7, b8, b9⟩ := (hMm mm _ k kd ci M0 hml0 hM).2.2 M2 hM3 (by omega)
                              obtain ⟨c1, c2, c3⟩ := b8 hkd
                              have hMet := am_met ih hG hok hgo1 hM3 b1 hct
                              rw [c3] at hMet b3
                              have stk : st.map (am_v g) = ((st.take M2.2.2.2.2).reverse.map (am_v g)).reverse ++ Value.ref (g b) :: rest.map (am_v g) := by
                                rw [← List.map_reverse, List.reverse_reverse]
                                show _ = _ ++ (Value.ref b :: rest).map (am_v g)
                                rw [← hdrop, ← List.map_append, List.take_append_drop]
                              have cat : 2 * (F0 m pc ls (st.map (am_v g))).monitorRoom + ((rest.map (am_v g)).map fun v => v.category).sum ≤ 8 := by
                                have := am_ct_map g rest
                                have h3' : 2 * (F0 m pc ls (st.map (am_v g))).monitorRoom = 0 := rfl
                                omega
                              by_cases hk3 : kd = 3
                              · obtain ⟨host, c4⟩ := b9 hk3
                                exact am_run_k (A := fun q => N ≤ q) (B := fun t => am_W T D dT g N ro.length h3 t.heap) (va_runIN (b := g b) (As := (st.take M2.2.2.2.2).reverse.map (am_v g)) (rest := rest.map (am_v g)) ⟨hx, hb, hml, hown, hts⟩ hMet ⟨va_cnB M2.2.2.2.2 hts (am_good hgd b3) rfl rfl rfl (hL _ _ _ _ c4) (hts _ b4) b2 ⟨by show f - 1 + 1 ≤ R.frames; omega, by show 8 + (M2.2.2.1 + 11) + (w - (19 + M2.2.2.1)) ≤ R.locals; omega⟩, c1, hts _ c2⟩ ⟨am_blind, fun U hU hwU => ⟨rfl, pre U hU hwU⟩⟩ rfl (by simp; omega) hlv.1 stk cat (am_le (n := 3) hl rfl (by decide) hd) ⟨by omega, by omega⟩) (fun st₀ o t hq => hq) hS (fun q hq => hq) fin
                              · exact am_run_k (A := fun q => N ≤ q) (B := fun t => am_W T D dT g N ro.length h3 t.heap) (va_runI (b := g b) (As := (st.take M2.2.2.2.2).reverse.map (am_v g)) (rest := rest.map (am_v g)) ⟨hx, hb, hml, hown, hts⟩ hMet ⟨callB_of M2.2.2.2.2 hts (am_good hgd b3) rfl rfl rfl (hts _ b4) (hts _ (b5 hk3)) b2 ⟨by show f - 1 + 1 ≤ R.frames; omega, by show 8 + (M2.2.2.1 + 11) + (w - (19 + M2.2.2.1)) ≤ R.locals; omega⟩, c1, hts _ c2⟩ ⟨am_blind, fun U hU hwU => ⟨rfl, pre U hU hwU⟩⟩ rfl (by simp; omega) hlv.1 stk cat (am_le (n := 3) hl rfl (by decide) hd) ⟨by omega, by omega⟩) (fun st₀ o t hq => hq) hS (fun q hq => hq) fin
                            · cases hca
                          · cases hca
                        · cases hca
                      · cases hca
                    · cases hca
                  · cases hca
                · cases hgo
              · cases hgo
            · cases hgo
  · cases hgo
theorem am_sound {T : am_T} {Ts Ls : List Cond} {D : va_G} {dT : Nat → ClassId} {g : Nat → Nat} {N : Nat} {ro : List am_E} {l : Launch} (hI : am_okI T) (hMm : am_okM T Ts Ls) (hgd : am_gd Ts) : ∀ n, am_Snd T Ts Ls D dT g N ro l n
  | 0 => fun _ _ _ _ _ _ _ _ _ h => by cases h
  | n + 1 => am_step hI hMm hgd (am_sound hI hMm hgd n)
end
section
theorem am_nv_mono {T : am_T} {ro : List am_E} {f w f2 w2 m : Nat} {i : Instr} {st : List Value} {h : List am_E} {x : am_Y} (hf : f ≤ f2) (hw : w ≤ w2) (hh : am_nv T ro f w m i st h = some x) : am_nv T ro f2 w2 m i st h = some x := by
  unfold am_nv at hh ⊢
  split at hh
  · split at hh
    · rename_i k ci a r hkl
      split at hh
      · rename_i hc
        try simp only [hkl]
        rw [if_pos ⟨by omega, by omega⟩]
        exact hh
      · cases hh
    · cases hh
  · split at hh
    · rename_i k ci n dp a sp a0 r hkl
      split at hh
      · rename_i t0 n0 f0 t1 n1 f1 hd0 hd1
        split at hh
        · rename_i hc
          obtain ⟨h1, h2, h3, h4, h5, h6, h7, h8, h9⟩ := hc
          try simp only [hkl, hd0, hd1]
          rw [if_pos ⟨h1, h2, h3, h4, h5, h6, h7, by omega, by omega⟩]
          exact hh
        · cases hh
      · cases hh
    · cases hh
  · cases hh
theorem am_ca_nv {T : am_T} {ro : List am_E} {f w m : Nat} {i : Instr} {st : List Value} {h : List am_E} {x : Nat × am_M × List Value × List Value} (hh : am_ca T ro m i st h = some x) : am_nv T ro f w m i st h = none := by
  unfold am_ca at hh
  unfold am_nv
  split at hh
  · rename_i idx
    split at hh
    · rename_i k ci hk
      simp only [hk]
    · cases hh
  · rename_i idx
    rfl
  · rename_i idx
    split at hh
    · rename_i k kd ci hk
      split at hh
      · rename_i hkd
        simp only [hk]
        rcases hkd with rfl | rfl
        · rfl
        · rfl
      · cases hh
    · cases hh
  · cases hh
theorem am_go_mono (T : am_T) (ro : List am_E) : ∀ (n f w m pc : Nat) (lv : List (Nat × Value)) (st : List Value) (h : List am_E) (x : Option Value × List am_E), am_go T ro n f w m pc lv st h = some x → ∀ (n2 f2 w2 : Nat), n ≤ n2 → f ≤ f2 → w ≤ w2 → am_go T ro n2 f2 w2 m pc lv st h = some x := by
  intro n
  induction n with
  | zero => intro f w m pc lv st h x hh; cases hh
  | succ n ih =>
    intro f w m pc lv st h x hh n2 f2 w2 hn hf hw
    obtain ⟨k, rfl⟩ : ∃ k, n2 = k + 1 := ⟨n2 - 1, by omega⟩
    rw [am_go_succ] at hh ⊢
    split at hh
    · rename_i i len M hin hM
      try simp only [hin, hM]
      split at hh
      · rename_i r hrt
        try simp only [hrt]
        exact hh
      · rename_i hrt
        try simp only [hrt]
        split at hh
        · rename_i pc2 lv2 st2 hpu
          try simp only [hpu]
          exact ih _ _ _ _ _ _ _ _ hh _ _ _ (by omega) hf hw
        · rename_i hpu
          try simp only [hpu]
          split at hh
          · rename_i st2 h2 hhp
            try simp only [hhp]
            exact ih _ _ _ _ _ _ _ _ hh _ _ _ (by omega) hf hw
          · rename_i hhp
            try simp only [hhp]
            split at hh
            · rename_i st2 h2 hnv
              simp only [am_nv_mono hf hw hnv]
              exact ih _ _ _ _ _ _ _ _ hh _ _ _ (by omega) hf hw
            · split at hh
              · rename_i kk M2 as rest hca
                simp only [am_ca_nv hca, hca]
                split at hh
                · rename_i hc
                  rw [if_pos ⟨by omega, by omega, hc.2.2⟩]
                  split at hh
                  · rename_i r1 h1 hgo
                    simp only [ih _ _ _ _ _ _ _ _ hgo k (f2 - 1) (w2 - (19 + M2.2.2.1)) (by omega) (by omega) (by omega)]
                    exact ih _ _ _ _ _ _ _ _ hh _ _ _ (by omega) hf hw
                  · cases hh
                · cases hh
              · cases hh
    · cases hh
/-- the own machine comes to an end: f frames and w words are enough -/
def am_ev (T : am_T) (ro : List am_E) (f w m pc : Nat) (lv : List (Nat × Value)) (st : List Value) (h : List am_E) (r : Option Value) (h2 : List am_E) : Prop := ∃ n, am_go T ro n f w m pc lv st h = some (r, h2)
section EV
variable {T : am_T} {ro : List am_E} {f w m pc len : Nat} {lv : List (Nat × Value)} {st : List Value} {h h2 h3 : List am_E} {r : Option Value} {i : Instr} {M : am_M}
theorem am_ev_mono (hh : am_ev T ro f w m pc lv st h r h2) {f2 w2 : Nat} (hf : f ≤ f2) (hw : w ≤ w2) : am_ev T ro f2 w2 m pc lv st h r h2 := by
  obtain ⟨n, hn⟩ := hh
  exact ⟨n, am_go_mono T ro n f w m pc lv st h _ hn n f2 w2 (Nat.le_refl _) hf hw⟩
theorem am_ev_ret (hi : am_in T m pc = some (i, len)) (hM : am_mt T m = some M) (hr : am_rt M.2.2.2.1 i st = some r) : am_ev T ro f w m pc lv st h r h := ⟨1, by rw [am_go_succ, hi, hM]; simp only [hr]⟩
theorem am_ev_pu {pc2 : Nat} {lv2 : List (Nat × Value)} {st2 : List Value} (hi : am_in T m pc = some (i, len)) (hM : am_mt T m = some M) (hr : am_rt M.2.2.2.1 i st = none) (hp : am_pu M.2.2.1 i pc lv st = some (pc2, lv2, st2)) (K : am_ev T ro f w m pc2 lv2 st2 h r h2) : am_ev T ro f w m pc lv st h r h2 := by
  obtain ⟨n, hn⟩ := K
  exact ⟨n + 1, by rw [am_go_succ, hi, hM]; simp only [hr, hp]; exact hn⟩
theorem am_ev_hp {st2 : List Value} (hi : am_in T m pc = some (i, len)) (hM : am_mt T m = some M) (hr : am_rt M.2.2.2.1 i st = none) (hp : am_pu M.2.2.1 i pc lv st = none) (hh : am_hp T ro m i st h = some (st2, h3)) (K : am_ev T ro f w m (pc + am_ln i) lv st2 h3 r h2) : am_ev T ro f w m pc lv st h r h2 := by
  obtain ⟨n, hn⟩ := K
  exact ⟨n + 1, by rw [am_go_succ, hi, hM]; simp only [hr, hp, hh]; exact hn⟩
theorem am_ev_nv {st2 : List Value} (hi : am_in T m pc = some (i, len)) (hM : am_mt T m = some M) (hr : am_rt M.2.2.2.1 i st = none) (hp : am_pu M.2.2.1 i pc lv st = none) (hh : am_hp T ro m i st h = none) (hv : am_nv T ro f w m i st h = some (st2, h3)) (K : am_ev T ro f w m (pc + 3) lv st2 h3 r h2) : am_ev T ro f w m pc lv st h r h2 := by
  obtain ⟨n, hn⟩ := K
  exact ⟨n + 1, by rw [am_go_succ, hi, hM]; simp only [hr, hp, hh, hv]; exact hn⟩
theorem am_ev_call {k : Nat} {M2 : am_M} {as rest : List Value} {r1 : Option Value} {f1 w1 : Nat} (hi : am_in T m pc = some (i, len)) (hM : am_mt T m = some M) (hr : am_rt M.2.2.2.1 i st = none) (hp : am_pu M.2.2.1 i pc lv st = none) (hh : am_hp T ro m i st h = none) (hc : am_ca T ro m i st h = some (k, M2, as, rest)) (hf : f1 + 1 ≤ f) (hw : w1 + (19 + M2.2.2.1) ≤ w) (hct : am_ct as ≤ M2.2.2.1) (hcall : am_ev T ro f1 w1 k 0 (lv_args 0 as) [] h r1 h3) (K : am_ev T ro f w m (pc + 3) lv (r1.toList ++ rest) h3 r h2) : am_ev T ro f w m pc lv st h r h2 := by
  obtain ⟨n1, hn1⟩ := hcall
  obtain ⟨n2, hn2⟩ := K
  refine ⟨(n1 + n2) + 1, ?_⟩
  rw [am_go_succ, hi, hM]
  simp only [hr, hp, hh, am_ca_nv hc, hc]
  rw [if_pos ⟨by omega, by omega, hct⟩, am_go_mono T ro n1 f1 w1 k 0 _ _ _ _ hn1 (n1 + n2) (f - 1) (w - (19 + M2.2.2.1)) (by omega) (by omega) (by omega)]
  exact am_go_mono T ro n2 f w m (pc + 3) lv _ _ _ hn2 (n1 + n2) f w (by omega) (Nat.le_refl _) (Nat.le_refl _)
end EV
end
