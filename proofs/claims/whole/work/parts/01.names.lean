-- ===== PART A: goes FIRST, ahead of the names: the tables' words, and 'selects' of the private methods out of them =====
/-- a private method of a class that the tables say can be made, by its rows of tables_1 -/
def lw_okq (q : MethodName × Nat) : Prop := (q.1.cls ≠ "java/lang/invoke/MethodHandle" ∧ q.1.cls ≠ "java/lang/invoke/VarHandle") ∧ Cond.instantiable q.1.cls q.2 ∈ tables_1 ∧ Cond.privateMethod q.1 ∈ tables_1 ∧ Cond.instanceMethod q.1 ∈ tables_1
theorem lw_p0 : lw_okq (⟨"ReorderMind$Text", "tellClause", "(LReorderMind$State;)Z"⟩, 3) := ⟨⟨by decide +kernel, by decide +kernel⟩, List.mem_of_getElem? (i := 217) (by decide +kernel), List.mem_of_getElem? (i := 355) (by decide +kernel), List.mem_of_getElem? (i := 356) (by decide +kernel)⟩
theorem lw_p1 : lw_okq (⟨"ReorderMind$Text", "signHere", "()I"⟩, 3) := ⟨⟨by decide +kernel, by decide +kernel⟩, List.mem_of_getElem? (i := 217) (by decide +kernel), List.mem_of_getElem? (i := 359) (by decide +kernel), List.mem_of_getElem? (i := 360) (by decide +kernel)⟩
theorem lw_p2 : lw_okq (⟨"ReorderMind$Text", "tellWeights", "(LReorderMind$State;)Z"⟩, 3) := ⟨⟨by decide +kernel, by decide +kernel⟩, List.mem_of_getElem? (i := 217) (by decide +kernel), List.mem_of_getElem? (i := 363) (by decide +kernel), List.mem_of_getElem? (i := 364) (by decide +kernel)⟩
theorem lw_p3 : lw_okq (⟨"ReorderMind$Text", "takeDigit", "(I)I"⟩, 3) := ⟨⟨by decide +kernel, by decide +kernel⟩, List.mem_of_getElem? (i := 217) (by decide +kernel), List.mem_of_getElem? (i := 367) (by decide +kernel), List.mem_of_getElem? (i := 368) (by decide +kernel)⟩
theorem lw_p4 : lw_okq (⟨"ReorderMind$Text", "tellCosts", "(LReorderMind$State;)Z"⟩, 3) := ⟨⟨by decide +kernel, by decide +kernel⟩, List.mem_of_getElem? (i := 217) (by decide +kernel), List.mem_of_getElem? (i := 373) (by decide +kernel), List.mem_of_getElem? (i := 374) (by decide +kernel)⟩
theorem lw_p5 : lw_okq (⟨"ReorderMind$Text", "tellTenths", "(LReorderMind$State;)Z"⟩, 3) := ⟨⟨by decide +kernel, by decide +kernel⟩, List.mem_of_getElem? (i := 217) (by decide +kernel), List.mem_of_getElem? (i := 377) (by decide +kernel), List.mem_of_getElem? (i := 378) (by decide +kernel)⟩
theorem lw_p6 : lw_okq (⟨"ReorderMind$Text", "tellRule", "(LReorderMind$State;)Z"⟩, 3) := ⟨⟨by decide +kernel, by decide +kernel⟩, List.mem_of_getElem? (i := 217) (by decide +kernel), List.mem_of_getElem? (i := 381) (by decide +kernel), List.mem_of_getElem? (i := 382) (by decide +kernel)⟩
theorem lw_p7 : lw_okq (⟨"ReorderMind", "refusalOf", "(IZ)I"⟩, 8) := ⟨⟨by decide +kernel, by decide +kernel⟩, List.mem_of_getElem? (i := 12) (by decide +kernel), List.mem_of_getElem? (i := 410) (by decide +kernel), List.mem_of_getElem? (i := 411) (by decide +kernel)⟩
theorem lw_p8 : lw_okq (⟨"ReorderMind", "reckonBy", "(I)V"⟩, 8) := ⟨⟨by decide +kernel, by decide +kernel⟩, List.mem_of_getElem? (i := 12) (by decide +kernel), List.mem_of_getElem? (i := 414) (by decide +kernel), List.mem_of_getElem? (i := 415) (by decide +kernel)⟩
theorem lw_p9 : lw_okq (⟨"ReorderMind$Reckoner", "fillMatrix", "(LReorderMind$State;JJ)V"⟩, 16) := ⟨⟨by decide +kernel, by decide +kernel⟩, List.mem_of_getElem? (i := 150) (by decide +kernel), List.mem_of_getElem? (i := 436) (by decide +kernel), List.mem_of_getElem? (i := 437) (by decide +kernel)⟩
theorem lw_p10 : lw_okq (⟨"ReorderMind$Reckoner", "isClosed", "(LReorderMind$State;I)Z"⟩, 16) := ⟨⟨by decide +kernel, by decide +kernel⟩, List.mem_of_getElem? (i := 150) (by decide +kernel), List.mem_of_getElem? (i := 541) (by decide +kernel), List.mem_of_getElem? (i := 542) (by decide +kernel)⟩
theorem lw_p11 : lw_okq (⟨"ReorderMind$Reckoner", "goAhead", "(LReorderMind$State;I)V"⟩, 16) := ⟨⟨by decide +kernel, by decide +kernel⟩, List.mem_of_getElem? (i := 150) (by decide +kernel), List.mem_of_getElem? (i := 584) (by decide +kernel), List.mem_of_getElem? (i := 585) (by decide +kernel)⟩
theorem lw_p12 : lw_okq (⟨"ReorderMind$Reckoner", "isActWorth", "(LReorderMind$State;II)Z"⟩, 16) := ⟨⟨by decide +kernel, by decide +kernel⟩, List.mem_of_getElem? (i := 150) (by decide +kernel), List.mem_of_getElem? (i := 600) (by decide +kernel), List.mem_of_getElem? (i := 601) (by decide +kernel)⟩
theorem lw_p13 : lw_okq (⟨"ReorderMind", "becomeBalance", "(J)I"⟩, 8) := ⟨⟨by decide +kernel, by decide +kernel⟩, List.mem_of_getElem? (i := 12) (by decide +kernel), List.mem_of_getElem? (i := 661) (by decide +kernel), List.mem_of_getElem? (i := 662) (by decide +kernel)⟩
theorem lw_p14 : lw_okq (⟨"ReorderMind", "goPlanned", "(II)I"⟩, 8) := ⟨⟨by decide +kernel, by decide +kernel⟩, List.mem_of_getElem? (i := 12) (by decide +kernel), List.mem_of_getElem? (i := 701) (by decide +kernel), List.mem_of_getElem? (i := 702) (by decide +kernel)⟩
theorem lw_p15 : lw_okq (⟨"ReorderMind", "tapeAt", "(I)LReorderMind$Tape;"⟩, 8) := ⟨⟨by decide +kernel, by decide +kernel⟩, List.mem_of_getElem? (i := 12) (by decide +kernel), List.mem_of_getElem? (i := 714) (by decide +kernel), List.mem_of_getElem? (i := 715) (by decide +kernel)⟩
def lw_privs_1 : List (MethodName × Nat) := [(⟨"ReorderMind$Text", "tellClause", "(LReorderMind$State;)Z"⟩, 3), (⟨"ReorderMind$Text", "signHere", "()I"⟩, 3), (⟨"ReorderMind$Text", "tellWeights", "(LReorderMind$State;)Z"⟩, 3), (⟨"ReorderMind$Text", "takeDigit", "(I)I"⟩, 3), (⟨"ReorderMind$Text", "tellCosts", "(LReorderMind$State;)Z"⟩, 3), (⟨"ReorderMind$Text", "tellTenths", "(LReorderMind$State;)Z"⟩, 3), (⟨"ReorderMind$Text", "tellRule", "(LReorderMind$State;)Z"⟩, 3), (⟨"ReorderMind", "refusalOf", "(IZ)I"⟩, 8), (⟨"ReorderMind", "reckonBy", "(I)V"⟩, 8), (⟨"ReorderMind$Reckoner", "fillMatrix", "(LReorderMind$State;JJ)V"⟩, 16), (⟨"ReorderMind$Reckoner", "isClosed", "(LReorderMind$State;I)Z"⟩, 16), (⟨"ReorderMind$Reckoner", "goAhead", "(LReorderMind$State;I)V"⟩, 16), (⟨"ReorderMind$Reckoner", "isActWorth", "(LReorderMind$State;II)Z"⟩, 16), (⟨"ReorderMind", "becomeBalance", "(J)I"⟩, 8), (⟨"ReorderMind", "goPlanned", "(II)I"⟩, 8), (⟨"ReorderMind", "tapeAt", "(I)LReorderMind$Tape;"⟩, 8)]
theorem lw_r1 : ∀ q ∈ lw_privs_1, lw_okq q := List.forall_mem_cons.mpr ⟨lw_p0, List.forall_mem_cons.mpr ⟨lw_p1, List.forall_mem_cons.mpr ⟨lw_p2, List.forall_mem_cons.mpr ⟨lw_p3, List.forall_mem_cons.mpr ⟨lw_p4, List.forall_mem_cons.mpr ⟨lw_p5, List.forall_mem_cons.mpr ⟨lw_p6, List.forall_mem_cons.mpr ⟨lw_p7, List.forall_mem_cons.mpr ⟨lw_p8, List.forall_mem_cons.mpr ⟨lw_p9, List.forall_mem_cons.mpr ⟨lw_p10, List.forall_mem_cons.mpr ⟨lw_p11, List.forall_mem_cons.mpr ⟨lw_p12, List.forall_mem_cons.mpr ⟨lw_p13, List.forall_mem_cons.mpr ⟨lw_p14, List.forall_mem_cons.mpr ⟨lw_p15, fun _ h => absurd h List.not_mem_nil⟩⟩⟩⟩⟩⟩⟩⟩⟩⟩⟩⟩⟩⟩⟩⟩
theorem lw_p16 : lw_okq (⟨"ReorderMindModel", "mostOf", "(I)I"⟩, 25) := ⟨⟨by decide +kernel, by decide +kernel⟩, List.mem_of_getElem? (i := 766) (by decide +kernel), List.mem_of_getElem? (i := 862) (by decide +kernel), List.mem_of_getElem? (i := 863) (by decide +kernel)⟩
theorem lw_p17 : lw_okq (⟨"ReorderMindModel", "sumOf", "()I"⟩, 25) := ⟨⟨by decide +kernel, by decide +kernel⟩, List.mem_of_getElem? (i := 766) (by decide +kernel), List.mem_of_getElem? (i := 871) (by decide +kernel), List.mem_of_getElem? (i := 872) (by decide +kernel)⟩
theorem lw_p18 : lw_okq (⟨"ReorderMindModel", "isStock", "(I)Z"⟩, 25) := ⟨⟨by decide +kernel, by decide +kernel⟩, List.mem_of_getElem? (i := 766) (by decide +kernel), List.mem_of_getElem? (i := 879) (by decide +kernel), List.mem_of_getElem? (i := 880) (by decide +kernel)⟩
theorem lw_p19 : lw_okq (⟨"ReorderMindModel", "isOrder", "(II)Z"⟩, 25) := ⟨⟨by decide +kernel, by decide +kernel⟩, List.mem_of_getElem? (i := 766) (by decide +kernel), List.mem_of_getElem? (i := 883) (by decide +kernel), List.mem_of_getElem? (i := 884) (by decide +kernel)⟩
theorem lw_p20 : lw_okq (⟨"ReorderMindModel", "readClause", "()V"⟩, 25) := ⟨⟨by decide +kernel, by decide +kernel⟩, List.mem_of_getElem? (i := 766) (by decide +kernel), List.mem_of_getElem? (i := 909) (by decide +kernel), List.mem_of_getElem? (i := 910) (by decide +kernel)⟩
theorem lw_p21 : lw_okq (⟨"ReorderMindModel", "here", "()I"⟩, 25) := ⟨⟨by decide +kernel, by decide +kernel⟩, List.mem_of_getElem? (i := 766) (by decide +kernel), List.mem_of_getElem? (i := 913) (by decide +kernel), List.mem_of_getElem? (i := 914) (by decide +kernel)⟩
theorem lw_p22 : lw_okq (⟨"ReorderMindModel", "readWeights", "()V"⟩, 25) := ⟨⟨by decide +kernel, by decide +kernel⟩, List.mem_of_getElem? (i := 766) (by decide +kernel), List.mem_of_getElem? (i := 917) (by decide +kernel), List.mem_of_getElem? (i := 918) (by decide +kernel)⟩
theorem lw_p23 : lw_okq (⟨"ReorderMindModel", "readDigit", "(I)I"⟩, 25) := ⟨⟨by decide +kernel, by decide +kernel⟩, List.mem_of_getElem? (i := 766) (by decide +kernel), List.mem_of_getElem? (i := 921) (by decide +kernel), List.mem_of_getElem? (i := 922) (by decide +kernel)⟩
theorem lw_p24 : lw_okq (⟨"ReorderMindModel", "weightTo", "(III)I"⟩, 25) := ⟨⟨by decide +kernel, by decide +kernel⟩, List.mem_of_getElem? (i := 766) (by decide +kernel), List.mem_of_getElem? (i := 933) (by decide +kernel), List.mem_of_getElem? (i := 934) (by decide +kernel)⟩
theorem lw_p25 : lw_okq (⟨"ReorderMindModel", "thenOf", "(III)I"⟩, 25) := ⟨⟨by decide +kernel, by decide +kernel⟩, List.mem_of_getElem? (i := 766) (by decide +kernel), List.mem_of_getElem? (i := 937) (by decide +kernel), List.mem_of_getElem? (i := 938) (by decide +kernel)⟩
theorem lw_p26 : lw_okq (⟨"ReorderMindModel", "costBy", "(II)J"⟩, 25) := ⟨⟨by decide +kernel, by decide +kernel⟩, List.mem_of_getElem? (i := 766) (by decide +kernel), List.mem_of_getElem? (i := 952) (by decide +kernel), List.mem_of_getElem? (i := 953) (by decide +kernel)⟩
theorem lw_p27 : lw_okq (⟨"ReorderMindModel", "costOf", "(III)I"⟩, 25) := ⟨⟨by decide +kernel, by decide +kernel⟩, List.mem_of_getElem? (i := 766) (by decide +kernel), List.mem_of_getElem? (i := 956) (by decide +kernel), List.mem_of_getElem? (i := 957) (by decide +kernel)⟩
theorem lw_p28 : lw_okq (⟨"ReorderMindModel", "lostOf", "(III)I"⟩, 25) := ⟨⟨by decide +kernel, by decide +kernel⟩, List.mem_of_getElem? (i := 766) (by decide +kernel), List.mem_of_getElem? (i := 960) (by decide +kernel), List.mem_of_getElem? (i := 961) (by decide +kernel)⟩
theorem lw_p29 : lw_okq (⟨"ReorderMindModel", "lays", "(I)I"⟩, 25) := ⟨⟨by decide +kernel, by decide +kernel⟩, List.mem_of_getElem? (i := 766) (by decide +kernel), List.mem_of_getElem? (i := 970) (by decide +kernel), List.mem_of_getElem? (i := 971) (by decide +kernel)⟩
theorem lw_p30 : lw_okq (⟨"ReorderMindModel", "layBest", "()V"⟩, 25) := ⟨⟨by decide +kernel, by decide +kernel⟩, List.mem_of_getElem? (i := 766) (by decide +kernel), List.mem_of_getElem? (i := 974) (by decide +kernel), List.mem_of_getElem? (i := 975) (by decide +kernel)⟩
theorem lw_p31 : lw_okq (⟨"ReorderMindModel", "goesRound", "()I"⟩, 25) := ⟨⟨by decide +kernel, by decide +kernel⟩, List.mem_of_getElem? (i := 766) (by decide +kernel), List.mem_of_getElem? (i := 978) (by decide +kernel), List.mem_of_getElem? (i := 979) (by decide +kernel)⟩
def lw_privs_2 : List (MethodName × Nat) := [(⟨"ReorderMindModel", "mostOf", "(I)I"⟩, 25), (⟨"ReorderMindModel", "sumOf", "()I"⟩, 25), (⟨"ReorderMindModel", "isStock", "(I)Z"⟩, 25), (⟨"ReorderMindModel", "isOrder", "(II)Z"⟩, 25), (⟨"ReorderMindModel", "readClause", "()V"⟩, 25), (⟨"ReorderMindModel", "here", "()I"⟩, 25), (⟨"ReorderMindModel", "readWeights", "()V"⟩, 25), (⟨"ReorderMindModel", "readDigit", "(I)I"⟩, 25), (⟨"ReorderMindModel", "weightTo", "(III)I"⟩, 25), (⟨"ReorderMindModel", "thenOf", "(III)I"⟩, 25), (⟨"ReorderMindModel", "costBy", "(II)J"⟩, 25), (⟨"ReorderMindModel", "costOf", "(III)I"⟩, 25), (⟨"ReorderMindModel", "lostOf", "(III)I"⟩, 25), (⟨"ReorderMindModel", "lays", "(I)I"⟩, 25), (⟨"ReorderMindModel", "layBest", "()V"⟩, 25), (⟨"ReorderMindModel", "goesRound", "()I"⟩, 25)]
theorem lw_r2 : ∀ q ∈ lw_privs_2, lw_okq q := List.forall_mem_cons.mpr ⟨lw_p16, List.forall_mem_cons.mpr ⟨lw_p17, List.forall_mem_cons.mpr ⟨lw_p18, List.forall_mem_cons.mpr ⟨lw_p19, List.forall_mem_cons.mpr ⟨lw_p20, List.forall_mem_cons.mpr ⟨lw_p21, List.forall_mem_cons.mpr ⟨lw_p22, List.forall_mem_cons.mpr ⟨lw_p23, List.forall_mem_cons.mpr ⟨lw_p24, List.forall_mem_cons.mpr ⟨lw_p25, List.forall_mem_cons.mpr ⟨lw_p26, List.forall_mem_cons.mpr ⟨lw_p27, List.forall_mem_cons.mpr ⟨lw_p28, List.forall_mem_cons.mpr ⟨lw_p29, List.forall_mem_cons.mpr ⟨lw_p30, List.forall_mem_cons.mpr ⟨lw_p31, fun _ h => absurd h List.not_mem_nil⟩⟩⟩⟩⟩⟩⟩⟩⟩⟩⟩⟩⟩⟩⟩⟩
theorem lw_p32 : lw_okq (⟨"ReorderMindModel", "layWorths", "()V"⟩, 25) := ⟨⟨by decide +kernel, by decide +kernel⟩, List.mem_of_getElem? (i := 766) (by decide +kernel), List.mem_of_getElem? (i := 982) (by decide +kernel), List.mem_of_getElem? (i := 983) (by decide +kernel)⟩
theorem lw_p33 : lw_okq (⟨"ReorderMindModel", "solves", "(I)V"⟩, 25) := ⟨⟨by decide +kernel, by decide +kernel⟩, List.mem_of_getElem? (i := 766) (by decide +kernel), List.mem_of_getElem? (i := 987) (by decide +kernel), List.mem_of_getElem? (i := 988) (by decide +kernel)⟩
theorem lw_p34 : lw_okq (⟨"ReorderMindModel", "betterAt", "(I)I"⟩, 25) := ⟨⟨by decide +kernel, by decide +kernel⟩, List.mem_of_getElem? (i := 766) (by decide +kernel), List.mem_of_getElem? (i := 991) (by decide +kernel), List.mem_of_getElem? (i := 992) (by decide +kernel)⟩
theorem lw_p35 : lw_okq (⟨"ReorderMindModel", "actOf", "(II)J"⟩, 25) := ⟨⟨by decide +kernel, by decide +kernel⟩, List.mem_of_getElem? (i := 766) (by decide +kernel), List.mem_of_getElem? (i := 995) (by decide +kernel), List.mem_of_getElem? (i := 996) (by decide +kernel)⟩
theorem lw_p36 : lw_okq (⟨"ReorderMindModel", "belowActs", "()J"⟩, 25) := ⟨⟨by decide +kernel, by decide +kernel⟩, List.mem_of_getElem? (i := 766) (by decide +kernel), List.mem_of_getElem? (i := 1007) (by decide +kernel), List.mem_of_getElem? (i := 1008) (by decide +kernel)⟩
theorem lw_p37 : lw_okq (⟨"ReorderMindModel", "layComes", "()V"⟩, 25) := ⟨⟨by decide +kernel, by decide +kernel⟩, List.mem_of_getElem? (i := 766) (by decide +kernel), List.mem_of_getElem? (i := 1031) (by decide +kernel), List.mem_of_getElem? (i := 1032) (by decide +kernel)⟩
theorem lw_p38 : lw_okq (⟨"ReorderMindModel", "closedMany", "()I"⟩, 25) := ⟨⟨by decide +kernel, by decide +kernel⟩, List.mem_of_getElem? (i := 766) (by decide +kernel), List.mem_of_getElem? (i := 1035) (by decide +kernel), List.mem_of_getElem? (i := 1036) (by decide +kernel)⟩
theorem lw_p39 : lw_okq (⟨"ReorderMindModel", "isClosed", "(I)Z"⟩, 25) := ⟨⟨by decide +kernel, by decide +kernel⟩, List.mem_of_getElem? (i := 766) (by decide +kernel), List.mem_of_getElem? (i := 1039) (by decide +kernel), List.mem_of_getElem? (i := 1040) (by decide +kernel)⟩
theorem lw_p40 : lw_okq (⟨"ReorderMindModel", "closedAt", "(I)I"⟩, 25) := ⟨⟨by decide +kernel, by decide +kernel⟩, List.mem_of_getElem? (i := 766) (by decide +kernel), List.mem_of_getElem? (i := 1043) (by decide +kernel), List.mem_of_getElem? (i := 1044) (by decide +kernel)⟩
theorem lw_p41 : lw_okq (⟨"ReorderMindModel", "layStays", "()Z"⟩, 25) := ⟨⟨by decide +kernel, by decide +kernel⟩, List.mem_of_getElem? (i := 766) (by decide +kernel), List.mem_of_getElem? (i := 1051) (by decide +kernel), List.mem_of_getElem? (i := 1052) (by decide +kernel)⟩
theorem lw_p42 : lw_okq (⟨"ReorderMindModel", "leadsTo", "(II)J"⟩, 25) := ⟨⟨by decide +kernel, by decide +kernel⟩, List.mem_of_getElem? (i := 766) (by decide +kernel), List.mem_of_getElem? (i := 1055) (by decide +kernel), List.mem_of_getElem? (i := 1056) (by decide +kernel)⟩
theorem lw_p43 : lw_okq (⟨"ReorderMindModel", "allStays", "()J"⟩, 25) := ⟨⟨by decide +kernel, by decide +kernel⟩, List.mem_of_getElem? (i := 766) (by decide +kernel), List.mem_of_getElem? (i := 1059) (by decide +kernel), List.mem_of_getElem? (i := 1060) (by decide +kernel)⟩
theorem lw_p44 : lw_okq (⟨"ReorderMindModel", "limitOf", "(I)I"⟩, 25) := ⟨⟨by decide +kernel, by decide +kernel⟩, List.mem_of_getElem? (i := 766) (by decide +kernel), List.mem_of_getElem? (i := 1071) (by decide +kernel), List.mem_of_getElem? (i := 1072) (by decide +kernel)⟩
theorem lw_p45 : lw_okq (⟨"ReorderMindModel", "layAhead", "(I)V"⟩, 25) := ⟨⟨by decide +kernel, by decide +kernel⟩, List.mem_of_getElem? (i := 766) (by decide +kernel), List.mem_of_getElem? (i := 1079) (by decide +kernel), List.mem_of_getElem? (i := 1080) (by decide +kernel)⟩
theorem lw_p46 : lw_okq (⟨"ReorderMindModel", "overOf", "(I)J"⟩, 25) := ⟨⟨by decide +kernel, by decide +kernel⟩, List.mem_of_getElem? (i := 766) (by decide +kernel), List.mem_of_getElem? (i := 1083) (by decide +kernel), List.mem_of_getElem? (i := 1084) (by decide +kernel)⟩
theorem lw_p47 : lw_okq (⟨"ReorderMindModel", "aheadBy", "(IIIJ)J"⟩, 25) := ⟨⟨by decide +kernel, by decide +kernel⟩, List.mem_of_getElem? (i := 766) (by decide +kernel), List.mem_of_getElem? (i := 1087) (by decide +kernel), List.mem_of_getElem? (i := 1088) (by decide +kernel)⟩
def lw_privs_3 : List (MethodName × Nat) := [(⟨"ReorderMindModel", "layWorths", "()V"⟩, 25), (⟨"ReorderMindModel", "solves", "(I)V"⟩, 25), (⟨"ReorderMindModel", "betterAt", "(I)I"⟩, 25), (⟨"ReorderMindModel", "actOf", "(II)J"⟩, 25), (⟨"ReorderMindModel", "belowActs", "()J"⟩, 25), (⟨"ReorderMindModel", "layComes", "()V"⟩, 25), (⟨"ReorderMindModel", "closedMany", "()I"⟩, 25), (⟨"ReorderMindModel", "isClosed", "(I)Z"⟩, 25), (⟨"ReorderMindModel", "closedAt", "(I)I"⟩, 25), (⟨"ReorderMindModel", "layStays", "()Z"⟩, 25), (⟨"ReorderMindModel", "leadsTo", "(II)J"⟩, 25), (⟨"ReorderMindModel", "allStays", "()J"⟩, 25), (⟨"ReorderMindModel", "limitOf", "(I)I"⟩, 25), (⟨"ReorderMindModel", "layAhead", "(I)V"⟩, 25), (⟨"ReorderMindModel", "overOf", "(I)J"⟩, 25), (⟨"ReorderMindModel", "aheadBy", "(IIIJ)J"⟩, 25)]
theorem lw_r3 : ∀ q ∈ lw_privs_3, lw_okq q := List.forall_mem_cons.mpr ⟨lw_p32, List.forall_mem_cons.mpr ⟨lw_p33, List.forall_mem_cons.mpr ⟨lw_p34, List.forall_mem_cons.mpr ⟨lw_p35, List.forall_mem_cons.mpr ⟨lw_p36, List.forall_mem_cons.mpr ⟨lw_p37, List.forall_mem_cons.mpr ⟨lw_p38, List.forall_mem_cons.mpr ⟨lw_p39, List.forall_mem_cons.mpr ⟨lw_p40, List.forall_mem_cons.mpr ⟨lw_p41, List.forall_mem_cons.mpr ⟨lw_p42, List.forall_mem_cons.mpr ⟨lw_p43, List.forall_mem_cons.mpr ⟨lw_p44, List.forall_mem_cons.mpr ⟨lw_p45, List.forall_mem_cons.mpr ⟨lw_p46, List.forall_mem_cons.mpr ⟨lw_p47, fun _ h => absurd h List.not_mem_nil⟩⟩⟩⟩⟩⟩⟩⟩⟩⟩⟩⟩⟩⟩⟩⟩
theorem lw_p48 : lw_okq (⟨"ReorderMindModel", "isSeen", "()Z"⟩, 25) := ⟨⟨by decide +kernel, by decide +kernel⟩, List.mem_of_getElem? (i := 766) (by decide +kernel), List.mem_of_getElem? (i := 1107) (by decide +kernel), List.mem_of_getElem? (i := 1108) (by decide +kernel)⟩
theorem lw_p49 : lw_okq (⟨"ReorderMindModel", "demandDrawn", "()I"⟩, 25) := ⟨⟨by decide +kernel, by decide +kernel⟩, List.mem_of_getElem? (i := 766) (by decide +kernel), List.mem_of_getElem? (i := 1116) (by decide +kernel), List.mem_of_getElem? (i := 1117) (by decide +kernel)⟩
theorem lw_p50 : lw_okq (⟨"ReorderMindModel", "drawBelow", "(I)I"⟩, 25) := ⟨⟨by decide +kernel, by decide +kernel⟩, List.mem_of_getElem? (i := 766) (by decide +kernel), List.mem_of_getElem? (i := 1120) (by decide +kernel), List.mem_of_getElem? (i := 1121) (by decide +kernel)⟩
theorem lw_p51 : lw_okq (⟨"ReorderMindModel", "records", "(III)V"⟩, 25) := ⟨⟨by decide +kernel, by decide +kernel⟩, List.mem_of_getElem? (i := 766) (by decide +kernel), List.mem_of_getElem? (i := 1126) (by decide +kernel), List.mem_of_getElem? (i := 1127) (by decide +kernel)⟩
def lw_privs_4 : List (MethodName × Nat) := [(⟨"ReorderMindModel", "isSeen", "()Z"⟩, 25), (⟨"ReorderMindModel", "demandDrawn", "()I"⟩, 25), (⟨"ReorderMindModel", "drawBelow", "(I)I"⟩, 25), (⟨"ReorderMindModel", "records", "(III)V"⟩, 25)]
theorem lw_r4 : ∀ q ∈ lw_privs_4, lw_okq q := List.forall_mem_cons.mpr ⟨lw_p48, List.forall_mem_cons.mpr ⟨lw_p49, List.forall_mem_cons.mpr ⟨lw_p50, List.forall_mem_cons.mpr ⟨lw_p51, fun _ h => absurd h List.not_mem_nil⟩⟩⟩⟩
def lw_privs : List (MethodName × Nat) := lw_privs_1 ++ (lw_privs_2 ++ (lw_privs_3 ++ (lw_privs_4)))
def lw_tbl : List Cond := k2_sels lw_privs ++ tables_1
theorem lw_privs_ok : ∀ q ∈ lw_privs, lw_okq q := by
  show ∀ q ∈ lw_privs_1 ++ (lw_privs_2 ++ (lw_privs_3 ++ (lw_privs_4))), lw_okq q
  exact List.forall_mem_append.mpr ⟨lw_r1, List.forall_mem_append.mpr ⟨lw_r2, List.forall_mem_append.mpr ⟨lw_r3, lw_r4⟩⟩⟩
def RX0 : String := "ReorderMind$Day"
def TX0 : u_T := fun k => match k with
  | 0 => ("ReorderMind$Day", "ordered", "I", false)
  | 1 => ("ReorderMind$Day", "lost", "I", false)
  | 2 => ("ReorderMind$Day", "spent", "I", false)
  | _ => ("ReorderMind$Day", "then", "I", false)
def tyX0 : Nat → FieldType := fun k => match k with
  | 0 => .int
  | 1 => .int
  | 2 => .int
  | _ => .int
abbrev wsX00 : List Cond := u_ws RX0 TX0 4
theorem nmX0 : ∀ a, a < 4 → ∀ b, b < 4 → a ≠ b → (TX0 a).2.1 ≠ (TX0 b).2.1 := by decide +kernel
theorem tyX0_ok : ∀ k, k < 4 → parseFieldDescriptor (TX0 k).2.2.1 = some (tyX0 k) := by decide +kernel
abbrev cX0_init : ByteArray := prog_2_method_1_code
def yX0_init : MethodName := ⟨RX0, "<init>", "()V"⟩
abbrev cX0_go : ByteArray := prog_2_method_2_code
def yX0_go : MethodName := ⟨RX0, "go", "(LReorderMind$State;III)V"⟩
abbrev cX0_goDrawn : ByteArray := prog_2_method_3_code
def yX0_goDrawn : MethodName := ⟨RX0, "goDrawn", "(LReorderMind$State;)V"⟩
def RX1 : String := "ReorderMind$Reckoner"
def TX1 : u_T := fun k => match k with
  | 0 => ("ReorderMind$Reckoner", "day", "LReorderMind$Day;", true)
  | 1 => ("ReorderMind$Reckoner", "rule", "[I", true)
  | 2 => ("ReorderMind$Reckoner", "next", "[I", true)
  | 3 => ("ReorderMind$Reckoner", "matrix", "[J", true)
  | 4 => ("ReorderMind$Reckoner", "changed", "[J", true)
  | 5 => ("ReorderMind$Reckoner", "right", "[J", true)
  | 6 => ("ReorderMind$Reckoner", "worthAbove", "[J", true)
  | 7 => ("ReorderMind$Reckoner", "worthBelow", "J", false)
  | 8 => ("ReorderMind$Reckoner", "rounds", "I", false)
  | 9 => ("ReorderMind$Reckoner", "reach", "[I", true)
  | 10 => ("ReorderMind$Reckoner", "partAbove", "[J", true)
  | 11 => ("ReorderMind$Reckoner", "partBelow", "J", false)
  | 12 => ("ReorderMind$Reckoner", "withinAbove", "[J", true)
  | 13 => ("ReorderMind$Reckoner", "withinNext", "[J", true)
  | 14 => ("ReorderMind$Reckoner", "withinBelow", "J", false)
  | _ => ("ReorderMind$Reckoner", "firsts", "[I", true)
def tyX1 : Nat → FieldType := fun k => match k with
  | 0 => .object "ReorderMind$Day"
  | 1 => .array .int
  | 2 => .array .int
  | 3 => .array .long
  | 4 => .array .long
  | 5 => .array .long
  | 6 => .array .long
  | 7 => .long
  | 8 => .int
  | 9 => .array .int
  | 10 => .array .long
  | 11 => .long
  | 12 => .array .long
  | 13 => .array .long
  | 14 => .long
  | _ => .array .int
abbrev wsX10 : List Cond := u_ws RX1 TX1 16
theorem nmX1 : ∀ a, a < 16 → ∀ b, b < 16 → a ≠ b → (TX1 a).2.1 ≠ (TX1 b).2.1 := by decide +kernel
theorem tyX1_ok : ∀ k, k < 16 → parseFieldDescriptor (TX1 k).2.2.1 = some (tyX1 k) := by decide +kernel
abbrev cX1_init : ByteArray := prog_3_method_1_code
def yX1_init : MethodName := ⟨RX1, "<init>", "()V"⟩
abbrev cX1_takeRule : ByteArray := prog_3_method_2_code
def yX1_takeRule : MethodName := ⟨RX1, "takeRule", "([II)V"⟩
abbrev cX1_orderAt : ByteArray := prog_3_method_3_code
def yX1_orderAt : MethodName := ⟨RX1, "orderAt", "(I)I"⟩
abbrev cX1_cellAt : ByteArray := prog_3_method_4_code
def yX1_cellAt : MethodName := ⟨RX1, "cellAt", "([JI)J"⟩
abbrev cX1_weightOfMove : ByteArray := prog_3_method_5_code
def yX1_weightOfMove : MethodName := ⟨RX1, "weightOfMove", "(LReorderMind$State;III)J"⟩
abbrev cX1_spentBySum : ByteArray := prog_3_method_6_code
def yX1_spentBySum : MethodName := ⟨RX1, "spentBySum", "(LReorderMind$State;II)J"⟩
abbrev cX1_findWorth : ByteArray := prog_3_method_7_code
def yX1_findWorth : MethodName := ⟨RX1, "findWorth", "(LReorderMind$State;)V"⟩
abbrev cX1_fillMatrix : ByteArray := prog_3_method_8_code
def yX1_fillMatrix : MethodName := ⟨RX1, "fillMatrix", "(LReorderMind$State;JJ)V"⟩
abbrev cX1_determinant : ByteArray := prog_3_method_9_code
def yX1_determinant : MethodName := ⟨RX1, "determinant", "([J)J"⟩
abbrev cX1_pairOf : ByteArray := prog_3_method_10_code
def yX1_pairOf : MethodName := ⟨RX1, "pairOf", "([JIII)J"⟩
abbrev cX1_actAbove : ByteArray := prog_3_method_11_code
def yX1_actAbove : MethodName := ⟨RX1, "actAbove", "(LReorderMind$State;II)J"⟩
abbrev cX1_actBelow : ByteArray := prog_3_method_12_code
def yX1_actBelow : MethodName := ⟨RX1, "actBelow", "(LReorderMind$State;)J"⟩
abbrev cX1_isActWorth : ByteArray := prog_3_method_13_code
def yX1_isActWorth : MethodName := ⟨RX1, "isActWorth", "(LReorderMind$State;II)Z"⟩
abbrev cX1_betterAt : ByteArray := prog_3_method_14_code
def yX1_betterAt : MethodName := ⟨RX1, "betterAt", "(LReorderMind$State;I)I"⟩
abbrev cX1_improve : ByteArray := prog_3_method_15_code
def yX1_improve : MethodName := ⟨RX1, "improve", "(LReorderMind$State;)I"⟩
abbrev cX1_findBest : ByteArray := prog_3_method_16_code
def yX1_findBest : MethodName := ⟨RX1, "findBest", "(LReorderMind$State;)V"⟩
abbrev cX1_seenAreBest : ByteArray := prog_3_method_17_code
def yX1_seenAreBest : MethodName := ⟨RX1, "seenAreBest", "(LReorderMind$State;)Z"⟩
abbrev cX1_findReach : ByteArray := prog_3_method_18_code
def yX1_findReach : MethodName := ⟨RX1, "findReach", "(LReorderMind$State;)V"⟩
abbrev cX1_isClosed : ByteArray := prog_3_method_19_code
def yX1_isClosed : MethodName := ⟨RX1, "isClosed", "(LReorderMind$State;I)Z"⟩
abbrev cX1_closedSets : ByteArray := prog_3_method_20_code
def yX1_closedSets : MethodName := ⟨RX1, "closedSets", "(LReorderMind$State;)I"⟩
abbrev cX1_closedSet : ByteArray := prog_3_method_21_code
def yX1_closedSet : MethodName := ⟨RX1, "closedSet", "(LReorderMind$State;I)I"⟩
abbrev cX1_findParts : ByteArray := prog_3_method_22_code
def yX1_findParts : MethodName := ⟨RX1, "findParts", "(LReorderMind$State;)Z"⟩
abbrev cX1_dailyAbove : ByteArray := prog_3_method_23_code
def yX1_dailyAbove : MethodName := ⟨RX1, "dailyAbove", "(LReorderMind$State;)J"⟩
abbrev cX1_lowLimit : ByteArray := prog_3_method_24_code
def yX1_lowLimit : MethodName := ⟨RX1, "lowLimit", "(LReorderMind$State;)I"⟩
abbrev cX1_findWithin : ByteArray := prog_3_method_25_code
def yX1_findWithin : MethodName := ⟨RX1, "findWithin", "(LReorderMind$State;I)V"⟩
abbrev cX1_goAhead : ByteArray := prog_3_method_26_code
def yX1_goAhead : MethodName := ⟨RX1, "goAhead", "(LReorderMind$State;I)V"⟩
abbrev cX1_firstsAreBest : ByteArray := prog_3_method_27_code
def yX1_firstsAreBest : MethodName := ⟨RX1, "firstsAreBest", "(LReorderMind$State;)Z"⟩
def RX2 : String := "ReorderMind$Rows"
def TX2 : u_T := fun k => match k with
  | 0 => ("ReorderMind$Rows", "limit", "I", true)
  | 1 => ("ReorderMind$Rows", "items", "[I", true)
  | _ => ("ReorderMind$Rows", "size", "I", false)
def tyX2 : Nat → FieldType := fun k => match k with
  | 0 => .int
  | 1 => .array .int
  | _ => .int
abbrev wsX20 : List Cond := u_ws RX2 TX2 3
theorem nmX2 : ∀ a, a < 3 → ∀ b, b < 3 → a ≠ b → (TX2 a).2.1 ≠ (TX2 b).2.1 := by decide +kernel
theorem tyX2_ok : ∀ k, k < 3 → parseFieldDescriptor (TX2 k).2.2.1 = some (tyX2 k) := by decide +kernel
abbrev cX2_init : ByteArray := prog_4_method_1_code
def yX2_init : MethodName := ⟨RX2, "<init>", "(I)V"⟩
abbrev cX2_isFull : ByteArray := prog_4_method_2_code
def yX2_isFull : MethodName := ⟨RX2, "isFull", "()Z"⟩
abbrev cX2_add : ByteArray := prog_4_method_3_code
def yX2_add : MethodName := ⟨RX2, "add", "(III)V"⟩
abbrev cX2_dropOldest : ByteArray := prog_4_method_4_code
def yX2_dropOldest : MethodName := ⟨RX2, "dropOldest", "()V"⟩
abbrev cX2_at : ByteArray := prog_4_method_5_code
def yX2_at : MethodName := ⟨RX2, "at", "(II)I"⟩
abbrev cX2_copyFrom : ByteArray := prog_4_method_6_code
def yX2_copyFrom : MethodName := ⟨RX2, "copyFrom", "(LReorderMind$Rows;)V"⟩
def RX3 : String := "ReorderMind$State"
def TX3 : u_T := fun k => match k with
  | 0 => ("ReorderMind$State", "kind", "I", false)
  | 1 => ("ReorderMind$State", "cap", "I", false)
  | 2 => ("ReorderMind$State", "stock", "I", false)
  | 3 => ("ReorderMind$State", "tenths", "I", false)
  | 4 => ("ReorderMind$State", "seed", "I", false)
  | 5 => ("ReorderMind$State", "balance", "I", false)
  | 6 => ("ReorderMind$State", "gone", "I", false)
  | 7 => ("ReorderMind$State", "costs", "[I", true)
  | 8 => ("ReorderMind$State", "weights", "[I", true)
  | 9 => ("ReorderMind$State", "rule", "[I", true)
  | 10 => ("ReorderMind$State", "kept", "[I", true)
  | 11 => ("ReorderMind$State", "isKept", "[Z", true)
  | 12 => ("ReorderMind$State", "seen", "LReorderMind$Rows;", true)
  | 13 => ("ReorderMind$State", "planned", "LReorderMind$Rows;", true)
  | _ => ("ReorderMind$State", "latest", "LReorderMind$Rows;", true)
def tyX3 : Nat → FieldType := fun k => match k with
  | 0 => .int
  | 1 => .int
  | 2 => .int
  | 3 => .int
  | 4 => .int
  | 5 => .int
  | 6 => .int
  | 7 => .array .int
  | 8 => .array .int
  | 9 => .array .int
  | 10 => .array .int
  | 11 => .array .boolean
  | 12 => .object "ReorderMind$Rows"
  | 13 => .object "ReorderMind$Rows"
  | _ => .object "ReorderMind$Rows"
abbrev wsX30 : List Cond := u_ws RX3 TX3 15
theorem nmX3 : ∀ a, a < 15 → ∀ b, b < 15 → a ≠ b → (TX3 a).2.1 ≠ (TX3 b).2.1 := by decide +kernel
theorem tyX3_ok : ∀ k, k < 15 → parseFieldDescriptor (TX3 k).2.2.1 = some (tyX3 k) := by decide +kernel
abbrev cX3_init : ByteArray := prog_5_method_1_code
def yX3_init : MethodName := ⟨RX3, "<init>", "()V"⟩
abbrev cX3_copyFrom : ByteArray := prog_5_method_2_code
def yX3_copyFrom : MethodName := ⟨RX3, "copyFrom", "(LReorderMind$State;)V"⟩
abbrev cX3_becomeNew : ByteArray := prog_5_method_3_code
def yX3_becomeNew : MethodName := ⟨RX3, "becomeNew", "(II)V"⟩
abbrev cX3_isStock : ByteArray := prog_5_method_4_code
def yX3_isStock : MethodName := ⟨RX3, "isStock", "(I)Z"⟩
abbrev cX3_isOrder : ByteArray := prog_5_method_5_code
def yX3_isOrder : MethodName := ⟨RX3, "isOrder", "(II)Z"⟩
abbrev cX3_orderAt : ByteArray := prog_5_method_6_code
def yX3_orderAt : MethodName := ⟨RX3, "orderAt", "(I)I"⟩
abbrev cX3_weightOf : ByteArray := prog_5_method_7_code
def yX3_weightOf : MethodName := ⟨RX3, "weightOf", "(I)I"⟩
abbrev cX3_sum : ByteArray := prog_5_method_8_code
def yX3_sum : MethodName := ⟨RX3, "sum", "()I"⟩
abbrev cX3_mostOf : ByteArray := prog_5_method_9_code
def yX3_mostOf : MethodName := ⟨RX3, "mostOf", "(I)I"⟩
abbrev cX3_numberOf : ByteArray := prog_5_method_10_code
def yX3_numberOf : MethodName := ⟨RX3, "numberOf", "(I)I"⟩
abbrev cX3_setNumber : ByteArray := prog_5_method_11_code
def yX3_setNumber : MethodName := ⟨RX3, "setNumber", "(II)V"⟩
abbrev cX3_keptRules : ByteArray := prog_5_method_12_code
def yX3_keptRules : MethodName := ⟨RX3, "keptRules", "()I"⟩
abbrev cX3_othersThan : ByteArray := prog_5_method_13_code
def yX3_othersThan : MethodName := ⟨RX3, "othersThan", "([II)I"⟩
abbrev cX3_becomeRule : ByteArray := prog_5_method_14_code
def yX3_becomeRule : MethodName := ⟨RX3, "becomeRule", "([II)I"⟩
abbrev cX3_drawDemand : ByteArray := prog_5_method_15_code
def yX3_drawDemand : MethodName := ⟨RX3, "drawDemand", "()I"⟩
def RX4 : String := "ReorderMind$Tape"
def TX4 : u_T := fun k => match k with
  | 0 => ("ReorderMind$Tape", "sort", "I", false)
  | 1 => ("ReorderMind$Tape", "size", "I", false)
  | _ => ("ReorderMind$Tape", "items", "[J", true)
def tyX4 : Nat → FieldType := fun k => match k with
  | 0 => .int
  | 1 => .int
  | _ => .array .long
abbrev wsX40 : List Cond := u_ws RX4 TX4 3
theorem nmX4 : ∀ a, a < 3 → ∀ b, b < 3 → a ≠ b → (TX4 a).2.1 ≠ (TX4 b).2.1 := by decide +kernel
theorem tyX4_ok : ∀ k, k < 3 → parseFieldDescriptor (TX4 k).2.2.1 = some (tyX4 k) := by decide +kernel
abbrev cX4_init : ByteArray := prog_6_method_1_code
def yX4_init : MethodName := ⟨RX4, "<init>", "()V"⟩
abbrev cX4_become : ByteArray := prog_6_method_2_code
def yX4_become : MethodName := ⟨RX4, "become", "(II)V"⟩
abbrev cX4_hasRow : ByteArray := prog_6_method_3_code
def yX4_hasRow : MethodName := ⟨RX4, "hasRow", "(II)Z"⟩
abbrev cX4_asItem : ByteArray := prog_6_method_4_code
def yX4_asItem : MethodName := ⟨RX4, "asItem", "(J)J"⟩
def RX5 : String := "ReorderMind$Text"
def TX5 : u_T := fun k => match k with
  | 0 => ("ReorderMind$Text", "signs", "[B", true)
  | 1 => ("ReorderMind$Text", "length", "I", false)
  | _ => ("ReorderMind$Text", "place", "I", false)
def tyX5 : Nat → FieldType := fun k => match k with
  | 0 => .array .byte
  | 1 => .int
  | _ => .int
abbrev wsX50 : List Cond := u_ws RX5 TX5 3
theorem nmX5 : ∀ a, a < 3 → ∀ b, b < 3 → a ≠ b → (TX5 a).2.1 ≠ (TX5 b).2.1 := by decide +kernel
theorem tyX5_ok : ∀ k, k < 3 → parseFieldDescriptor (TX5 k).2.2.1 = some (tyX5 k) := by decide +kernel
abbrev cX5_init : ByteArray := prog_7_method_1_code
def yX5_init : MethodName := ⟨RX5, "<init>", "()V"⟩
abbrev cX5_append : ByteArray := prog_7_method_2_code
def yX5_append : MethodName := ⟨RX5, "append", "(I)V"⟩
abbrev cX5_tellTo : ByteArray := prog_7_method_3_code
def yX5_tellTo : MethodName := ⟨RX5, "tellTo", "(LReorderMind$State;)I"⟩
abbrev cX5_signHere : ByteArray := prog_7_method_4_code
def yX5_signHere : MethodName := ⟨RX5, "signHere", "()I"⟩
abbrev cX5_tellClause : ByteArray := prog_7_method_5_code
def yX5_tellClause : MethodName := ⟨RX5, "tellClause", "(LReorderMind$State;)Z"⟩
abbrev cX5_takeDigit : ByteArray := prog_7_method_6_code
def yX5_takeDigit : MethodName := ⟨RX5, "takeDigit", "(I)I"⟩
abbrev cX5_tellWeights : ByteArray := prog_7_method_7_code
def yX5_tellWeights : MethodName := ⟨RX5, "tellWeights", "(LReorderMind$State;)Z"⟩
abbrev cX5_tellCosts : ByteArray := prog_7_method_8_code
def yX5_tellCosts : MethodName := ⟨RX5, "tellCosts", "(LReorderMind$State;)Z"⟩
abbrev cX5_tellTenths : ByteArray := prog_7_method_9_code
def yX5_tellTenths : MethodName := ⟨RX5, "tellTenths", "(LReorderMind$State;)Z"⟩
abbrev cX5_tellRule : ByteArray := prog_7_method_10_code
def yX5_tellRule : MethodName := ⟨RX5, "tellRule", "(LReorderMind$State;)Z"⟩
def RX6 : String := "ReorderMind"
def TX6 : u_T := fun k => match k with
  | 0 => ("ReorderMind", "now", "LReorderMind$State;", true)
  | 1 => ("ReorderMind", "pictured", "LReorderMind$State;", true)
  | 2 => ("ReorderMind", "thought", "LReorderMind$State;", true)
  | 3 => ("ReorderMind", "isPictured", "Z", false)
  | 4 => ("ReorderMind", "passed", "LReorderMind$Day;", true)
  | 5 => ("ReorderMind", "reckoner", "LReorderMind$Reckoner;", true)
  | 6 => ("ReorderMind", "text", "LReorderMind$Text;", true)
  | _ => ("ReorderMind", "tapes", "[LReorderMind$Tape;", true)
def tyX6 : Nat → FieldType := fun k => match k with
  | 0 => .object "ReorderMind$State"
  | 1 => .object "ReorderMind$State"
  | 2 => .object "ReorderMind$State"
  | 3 => .boolean
  | 4 => .object "ReorderMind$Day"
  | 5 => .object "ReorderMind$Reckoner"
  | 6 => .object "ReorderMind$Text"
  | _ => .array (.object "ReorderMind$Tape")
abbrev wsX60 : List Cond := u_ws RX6 TX6 8
theorem nmX6 : ∀ a, a < 8 → ∀ b, b < 8 → a ≠ b → (TX6 a).2.1 ≠ (TX6 b).2.1 := by decide +kernel
theorem tyX6_ok : ∀ k, k < 8 → parseFieldDescriptor (TX6 k).2.2.1 = some (tyX6 k) := by decide +kernel
abbrev cX6_init : ByteArray := prog_1_method_1_code
def yX6_init : MethodName := ⟨RX6, "<init>", "()V"⟩
abbrev cX6_store : ByteArray := prog_1_method_2_code
def yX6_store : MethodName := ⟨RX6, "store", "(II)I"⟩
abbrev cX6_tell : ByteArray := prog_1_method_3_code
def yX6_tell : MethodName := ⟨RX6, "tell", "(II)I"⟩
abbrev cX6_weight : ByteArray := prog_1_method_4_code
def yX6_weight : MethodName := ⟨RX6, "weight", "(II)I"⟩
abbrev cX6_order : ByteArray := prog_1_method_5_code
def yX6_order : MethodName := ⟨RX6, "order", "(II)I"⟩
abbrev cX6_feed : ByteArray := prog_1_method_6_code
def yX6_feed : MethodName := ⟨RX6, "feed", "(I)I"⟩
abbrev cX6_read : ByteArray := prog_1_method_7_code
def yX6_read : MethodName := ⟨RX6, "read", "()I"⟩
abbrev cX6_keep : ByteArray := prog_1_method_8_code
def yX6_keep : MethodName := ⟨RX6, "keep", "(I)I"⟩
abbrev cX6_use : ByteArray := prog_1_method_9_code
def yX6_use : MethodName := ⟨RX6, "use", "(I)I"⟩
abbrev cX6_told : ByteArray := prog_1_method_10_code
def yX6_told : MethodName := ⟨RX6, "told", "(I)I"⟩
abbrev cX6_ruled : ByteArray := prog_1_method_11_code
def yX6_ruled : MethodName := ⟨RX6, "ruled", "(II)I"⟩
abbrev cX6_row : ByteArray := prog_1_method_12_code
def yX6_row : MethodName := ⟨RX6, "row", "(IIII)J"⟩
abbrev cX6_cost : ByteArray := prog_1_method_13_code
def yX6_cost : MethodName := ⟨RX6, "cost", "(III)J"⟩
abbrev cX6_worth : ByteArray := prog_1_method_14_code
def yX6_worth : MethodName := ⟨RX6, "worth", "(III)J"⟩
abbrev cX6_act : ByteArray := prog_1_method_15_code
def yX6_act : MethodName := ⟨RX6, "act", "(IIII)J"⟩
abbrev cX6_better : ByteArray := prog_1_method_16_code
def yX6_better : MethodName := ⟨RX6, "better", "(II)I"⟩
abbrev cX6_round : ByteArray := prog_1_method_17_code
def yX6_round : MethodName := ⟨RX6, "round", "()I"⟩
abbrev cX6_best : ByteArray := prog_1_method_18_code
def yX6_best : MethodName := ⟨RX6, "best", "(I)I"⟩
abbrev cX6_regret : ByteArray := prog_1_method_19_code
def yX6_regret : MethodName := ⟨RX6, "regret", "(II)J"⟩
abbrev cX6_closed : ByteArray := prog_1_method_20_code
def yX6_closed : MethodName := ⟨RX6, "closed", "(II)I"⟩
abbrev cX6_share : ByteArray := prog_1_method_21_code
def yX6_share : MethodName := ⟨RX6, "share", "(III)J"⟩
abbrev cX6_daily : ByteArray := prog_1_method_22_code
def yX6_daily : MethodName := ⟨RX6, "daily", "(II)J"⟩
abbrev cX6_limits : ByteArray := prog_1_method_23_code
def yX6_limits : MethodName := ⟨RX6, "limits", "(II)I"⟩
abbrev cX6_within : ByteArray := prog_1_method_24_code
def yX6_within : MethodName := ⟨RX6, "within", "(III)J"⟩
abbrev cX6_first : ByteArray := prog_1_method_25_code
def yX6_first : MethodName := ⟨RX6, "first", "(II)I"⟩
abbrev cX6_looks : ByteArray := prog_1_method_26_code
def yX6_looks : MethodName := ⟨RX6, "looks", "()I"⟩
abbrev cX6_see : ByteArray := prog_1_method_27_code
def yX6_see : MethodName := ⟨RX6, "see", "(II)I"⟩
abbrev cX6_fits : ByteArray := prog_1_method_28_code
def yX6_fits : MethodName := ⟨RX6, "fits", "(II)I"⟩
abbrev cX6_day : ByteArray := prog_1_method_29_code
def yX6_day : MethodName := ⟨RX6, "day", "(I)I"⟩
abbrev cX6_pay : ByteArray := prog_1_method_30_code
def yX6_pay : MethodName := ⟨RX6, "pay", "(I)I"⟩
abbrev cX6_times : ByteArray := prog_1_method_31_code
def yX6_times : MethodName := ⟨RX6, "times", "(I)I"⟩
abbrev cX6_total : ByteArray := prog_1_method_32_code
def yX6_total : MethodName := ⟨RX6, "total", "(JJ)I"⟩
abbrev cX6_record : ByteArray := prog_1_method_33_code
def yX6_record : MethodName := ⟨RX6, "record", "(II)I"⟩
abbrev cX6_likely : ByteArray := prog_1_method_34_code
def yX6_likely : MethodName := ⟨RX6, "likely", "(I)J"⟩
abbrev cX6_would : ByteArray := prog_1_method_35_code
def yX6_would : MethodName := ⟨RX6, "would", "(IIII)I"⟩
abbrev cX6_plan : ByteArray := prog_1_method_36_code
def yX6_plan : MethodName := ⟨RX6, "plan", "(II)I"⟩
abbrev cX6_ends : ByteArray := prog_1_method_37_code
def yX6_ends : MethodName := ⟨RX6, "ends", "(I)I"⟩
abbrev cX6_judge : ByteArray := prog_1_method_38_code
def yX6_judge : MethodName := ⟨RX6, "judge", "(III)I"⟩
abbrev cX6_image : ByteArray := prog_1_method_39_code
def yX6_image : MethodName := ⟨RX6, "image", "()I"⟩
abbrev cX6_undo : ByteArray := prog_1_method_40_code
def yX6_undo : MethodName := ⟨RX6, "undo", "()I"⟩
abbrev cX6_taken : ByteArray := prog_1_method_41_code
def yX6_taken : MethodName := ⟨RX6, "taken", "(I)I"⟩
abbrev cX6_count : ByteArray := prog_1_method_42_code
def yX6_count : MethodName := ⟨RX6, "count", "(I)I"⟩
abbrev cX6_tape : ByteArray := prog_1_method_43_code
def yX6_tape : MethodName := ⟨RX6, "tape", "(III)I"⟩
abbrev cX6_item : ByteArray := prog_1_method_44_code
def yX6_item : MethodName := ⟨RX6, "item", "(IIJ)I"⟩
abbrev cX6_peek : ByteArray := prog_1_method_45_code
def yX6_peek : MethodName := ⟨RX6, "peek", "(II)J"⟩
abbrev cX6_shift : ByteArray := prog_1_method_46_code
def yX6_shift : MethodName := ⟨RX6, "shift", "(IIIII)I"⟩
abbrev cX6_isWithin : ByteArray := prog_1_method_47_code
def yX6_isWithin : MethodName := ⟨RX6, "isWithin", "(III)Z"⟩
abbrev cX6_isInt : ByteArray := prog_1_method_48_code
def yX6_isInt : MethodName := ⟨RX6, "isInt", "(J)Z"⟩
abbrev cX6_isProductLong : ByteArray := prog_1_method_49_code
def yX6_isProductLong : MethodName := ⟨RX6, "isProductLong", "(JI)Z"⟩
abbrev cX6_partOf : ByteArray := prog_1_method_50_code
def yX6_partOf : MethodName := ⟨RX6, "partOf", "(JJI)J"⟩
abbrev cX6_commonDivisor : ByteArray := prog_1_method_51_code
def yX6_commonDivisor : MethodName := ⟨RX6, "commonDivisor", "(JJ)J"⟩
abbrev cX6_refusalOf : ByteArray := prog_1_method_52_code
def yX6_refusalOf : MethodName := ⟨RX6, "refusalOf", "(IZ)I"⟩
abbrev cX6_reckonBy : ByteArray := prog_1_method_53_code
def yX6_reckonBy : MethodName := ⟨RX6, "reckonBy", "(I)V"⟩
abbrev cX6_becomeBalance : ByteArray := prog_1_method_54_code
def yX6_becomeBalance : MethodName := ⟨RX6, "becomeBalance", "(J)I"⟩
abbrev cX6_goPlanned : ByteArray := prog_1_method_55_code
def yX6_goPlanned : MethodName := ⟨RX6, "goPlanned", "(II)I"⟩
abbrev cX6_tapeAt : ByteArray := prog_1_method_56_code
def yX6_tapeAt : MethodName := ⟨RX6, "tapeAt", "(I)LReorderMind$Tape;"⟩
def RX7 : String := "ReorderMindModel"
def TX7 : u_T := fun k => match k with
  | 0 => ("ReorderMindModel", "now", "[I", true)
  | 1 => ("ReorderMindModel", "imaged", "[I", true)
  | 2 => ("ReorderMindModel", "hasImage", "Z", false)
  | 3 => ("ReorderMindModel", "text", "[I", true)
  | 4 => ("ReorderMindModel", "size", "I", false)
  | 5 => ("ReorderMindModel", "place", "I", false)
  | 6 => ("ReorderMindModel", "isBad", "Z", false)
  | 7 => ("ReorderMindModel", "digits", "[I", true)
  | 8 => ("ReorderMindModel", "ahead", "[I", true)
  | 9 => ("ReorderMindModel", "rule0", "[I", true)
  | 10 => ("ReorderMindModel", "lines", "[J", true)
  | 11 => ("ReorderMindModel", "worths", "[J", true)
  | 12 => ("ReorderMindModel", "below", "J", false)
  | 13 => ("ReorderMindModel", "next", "[I", true)
  | 14 => ("ReorderMindModel", "rounds", "I", false)
  | 15 => ("ReorderMindModel", "comes", "[I", true)
  | 16 => ("ReorderMindModel", "stays", "[J", true)
  | 17 => ("ReorderMindModel", "those", "[I", true)
  | 18 => ("ReorderMindModel", "least", "[J", true)
  | 19 => ("ReorderMindModel", "firsts", "[I", true)
  | 20 => ("ReorderMindModel", "seed0", "I", false)
  | 21 => ("ReorderMindModel", "holds", "[I", true)
  | 22 => ("ReorderMindModel", "tapeMany", "[I", true)
  | 23 => ("ReorderMindModel", "tapes", "[J", true)
  | _ => ("ReorderMindModel", "between", "[J", true)
def tyX7 : Nat → FieldType := fun k => match k with
  | 0 => .array .int
  | 1 => .array .int
  | 2 => .boolean
  | 3 => .array .int
  | 4 => .int
  | 5 => .int
  | 6 => .boolean
  | 7 => .array .int
  | 8 => .array .int
  | 9 => .array .int
  | 10 => .array .long
  | 11 => .array .long
  | 12 => .long
  | 13 => .array .int
  | 14 => .int
  | 15 => .array .int
  | 16 => .array .long
  | 17 => .array .int
  | 18 => .array .long
  | 19 => .array .int
  | 20 => .int
  | 21 => .array .int
  | 22 => .array .int
  | 23 => .array .long
  | _ => .array .long
abbrev wsX70 : List Cond := u_ws RX7 TX7 25
theorem nmX7 : ∀ a, a < 25 → ∀ b, b < 25 → a ≠ b → (TX7 a).2.1 ≠ (TX7 b).2.1 := by decide +kernel
theorem tyX7_ok : ∀ k, k < 25 → parseFieldDescriptor (TX7 k).2.2.1 = some (tyX7 k) := by decide +kernel
abbrev cX7_init : ByteArray := prog_9_method_1_code
def yX7_init : MethodName := ⟨RX7, "<init>", "()V"⟩
abbrev cX7_in : ByteArray := prog_9_method_2_code
def yX7_in : MethodName := ⟨RX7, "in", "(JJJ)Z"⟩
abbrev cX7_isStock : ByteArray := prog_9_method_3_code
def yX7_isStock : MethodName := ⟨RX7, "isStock", "(I)Z"⟩
abbrev cX7_isOrder : ByteArray := prog_9_method_4_code
def yX7_isOrder : MethodName := ⟨RX7, "isOrder", "(II)Z"⟩
abbrev cX7_sumOf : ByteArray := prog_9_method_5_code
def yX7_sumOf : MethodName := ⟨RX7, "sumOf", "()I"⟩
abbrev cX7_store : ByteArray := prog_9_method_6_code
def yX7_store : MethodName := ⟨RX7, "store", "(II)I"⟩
abbrev cX7_mostOf : ByteArray := prog_9_method_7_code
def yX7_mostOf : MethodName := ⟨RX7, "mostOf", "(I)I"⟩
abbrev cX7_tell : ByteArray := prog_9_method_8_code
def yX7_tell : MethodName := ⟨RX7, "tell", "(II)I"⟩
abbrev cX7_weight : ByteArray := prog_9_method_9_code
def yX7_weight : MethodName := ⟨RX7, "weight", "(II)I"⟩
abbrev cX7_order : ByteArray := prog_9_method_10_code
def yX7_order : MethodName := ⟨RX7, "order", "(II)I"⟩
abbrev cX7_keep : ByteArray := prog_9_method_11_code
def yX7_keep : MethodName := ⟨RX7, "keep", "(I)I"⟩
abbrev cX7_use : ByteArray := prog_9_method_12_code
def yX7_use : MethodName := ⟨RX7, "use", "(I)I"⟩
abbrev cX7_told : ByteArray := prog_9_method_13_code
def yX7_told : MethodName := ⟨RX7, "told", "(I)I"⟩
abbrev cX7_feed : ByteArray := prog_9_method_14_code
def yX7_feed : MethodName := ⟨RX7, "feed", "(I)I"⟩
abbrev cX7_here : ByteArray := prog_9_method_15_code
def yX7_here : MethodName := ⟨RX7, "here", "()I"⟩
abbrev cX7_readDigit : ByteArray := prog_9_method_16_code
def yX7_readDigit : MethodName := ⟨RX7, "readDigit", "(I)I"⟩
abbrev cX7_readWeights : ByteArray := prog_9_method_17_code
def yX7_readWeights : MethodName := ⟨RX7, "readWeights", "()V"⟩
abbrev cX7_readClause : ByteArray := prog_9_method_18_code
def yX7_readClause : MethodName := ⟨RX7, "readClause", "()V"⟩
abbrev cX7_read : ByteArray := prog_9_method_19_code
def yX7_read : MethodName := ⟨RX7, "read", "()I"⟩
abbrev cX7_thenOf : ByteArray := prog_9_method_20_code
def yX7_thenOf : MethodName := ⟨RX7, "thenOf", "(III)I"⟩
abbrev cX7_lostOf : ByteArray := prog_9_method_21_code
def yX7_lostOf : MethodName := ⟨RX7, "lostOf", "(III)I"⟩
abbrev cX7_costOf : ByteArray := prog_9_method_22_code
def yX7_costOf : MethodName := ⟨RX7, "costOf", "(III)I"⟩
abbrev cX7_costBy : ByteArray := prog_9_method_23_code
def yX7_costBy : MethodName := ⟨RX7, "costBy", "(II)J"⟩
abbrev cX7_weightTo : ByteArray := prog_9_method_24_code
def yX7_weightTo : MethodName := ⟨RX7, "weightTo", "(III)I"⟩
abbrev cX7_divisor : ByteArray := prog_9_method_25_code
def yX7_divisor : MethodName := ⟨RX7, "divisor", "(JJ)J"⟩
abbrev cX7_partOf : ByteArray := prog_9_method_26_code
def yX7_partOf : MethodName := ⟨RX7, "partOf", "(JJI)J"⟩
abbrev cX7_isPart : ByteArray := prog_9_method_27_code
def yX7_isPart : MethodName := ⟨RX7, "isPart", "(I)Z"⟩
abbrev cX7_row : ByteArray := prog_9_method_28_code
def yX7_row : MethodName := ⟨RX7, "row", "(IIII)J"⟩
abbrev cX7_cost : ByteArray := prog_9_method_29_code
def yX7_cost : MethodName := ⟨RX7, "cost", "(III)J"⟩
abbrev cX7_solves : ByteArray := prog_9_method_30_code
def yX7_solves : MethodName := ⟨RX7, "solves", "(I)V"⟩
abbrev cX7_layWorths : ByteArray := prog_9_method_31_code
def yX7_layWorths : MethodName := ⟨RX7, "layWorths", "()V"⟩
abbrev cX7_actOf : ByteArray := prog_9_method_32_code
def yX7_actOf : MethodName := ⟨RX7, "actOf", "(II)J"⟩
abbrev cX7_belowActs : ByteArray := prog_9_method_33_code
def yX7_belowActs : MethodName := ⟨RX7, "belowActs", "()J"⟩
abbrev cX7_betterAt : ByteArray := prog_9_method_34_code
def yX7_betterAt : MethodName := ⟨RX7, "betterAt", "(I)I"⟩
abbrev cX7_goesRound : ByteArray := prog_9_method_35_code
def yX7_goesRound : MethodName := ⟨RX7, "goesRound", "()I"⟩
abbrev cX7_layBest : ByteArray := prog_9_method_36_code
def yX7_layBest : MethodName := ⟨RX7, "layBest", "()V"⟩
abbrev cX7_lays : ByteArray := prog_9_method_37_code
def yX7_lays : MethodName := ⟨RX7, "lays", "(I)I"⟩
abbrev cX7_ruled : ByteArray := prog_9_method_38_code
def yX7_ruled : MethodName := ⟨RX7, "ruled", "(II)I"⟩
abbrev cX7_worth : ByteArray := prog_9_method_39_code
def yX7_worth : MethodName := ⟨RX7, "worth", "(III)J"⟩
abbrev cX7_act : ByteArray := prog_9_method_40_code
def yX7_act : MethodName := ⟨RX7, "act", "(IIII)J"⟩
abbrev cX7_better : ByteArray := prog_9_method_41_code
def yX7_better : MethodName := ⟨RX7, "better", "(II)I"⟩
abbrev cX7_round : ByteArray := prog_9_method_42_code
def yX7_round : MethodName := ⟨RX7, "round", "()I"⟩
abbrev cX7_best : ByteArray := prog_9_method_43_code
def yX7_best : MethodName := ⟨RX7, "best", "(I)I"⟩
abbrev cX7_regret : ByteArray := prog_9_method_44_code
def yX7_regret : MethodName := ⟨RX7, "regret", "(II)J"⟩
abbrev cX7_layComes : ByteArray := prog_9_method_45_code
def yX7_layComes : MethodName := ⟨RX7, "layComes", "()V"⟩
abbrev cX7_isClosed : ByteArray := prog_9_method_46_code
def yX7_isClosed : MethodName := ⟨RX7, "isClosed", "(I)Z"⟩
abbrev cX7_closedMany : ByteArray := prog_9_method_47_code
def yX7_closedMany : MethodName := ⟨RX7, "closedMany", "()I"⟩
abbrev cX7_closedAt : ByteArray := prog_9_method_48_code
def yX7_closedAt : MethodName := ⟨RX7, "closedAt", "(I)I"⟩
abbrev cX7_closed : ByteArray := prog_9_method_49_code
def yX7_closed : MethodName := ⟨RX7, "closed", "(II)I"⟩
abbrev cX7_leadsTo : ByteArray := prog_9_method_50_code
def yX7_leadsTo : MethodName := ⟨RX7, "leadsTo", "(II)J"⟩
abbrev cX7_layStays : ByteArray := prog_9_method_51_code
def yX7_layStays : MethodName := ⟨RX7, "layStays", "()Z"⟩
abbrev cX7_allStays : ByteArray := prog_9_method_52_code
def yX7_allStays : MethodName := ⟨RX7, "allStays", "()J"⟩
abbrev cX7_share : ByteArray := prog_9_method_53_code
def yX7_share : MethodName := ⟨RX7, "share", "(III)J"⟩
abbrev cX7_daily : ByteArray := prog_9_method_54_code
def yX7_daily : MethodName := ⟨RX7, "daily", "(II)J"⟩
abbrev cX7_limitOf : ByteArray := prog_9_method_55_code
def yX7_limitOf : MethodName := ⟨RX7, "limitOf", "(I)I"⟩
abbrev cX7_limits : ByteArray := prog_9_method_56_code
def yX7_limits : MethodName := ⟨RX7, "limits", "(II)I"⟩
abbrev cX7_aheadBy : ByteArray := prog_9_method_57_code
def yX7_aheadBy : MethodName := ⟨RX7, "aheadBy", "(IIIJ)J"⟩
abbrev cX7_overOf : ByteArray := prog_9_method_58_code
def yX7_overOf : MethodName := ⟨RX7, "overOf", "(I)J"⟩
abbrev cX7_layAhead : ByteArray := prog_9_method_59_code
def yX7_layAhead : MethodName := ⟨RX7, "layAhead", "(I)V"⟩
abbrev cX7_within : ByteArray := prog_9_method_60_code
def yX7_within : MethodName := ⟨RX7, "within", "(III)J"⟩
abbrev cX7_first : ByteArray := prog_9_method_61_code
def yX7_first : MethodName := ⟨RX7, "first", "(II)I"⟩
abbrev cX7_looks : ByteArray := prog_9_method_62_code
def yX7_looks : MethodName := ⟨RX7, "looks", "()I"⟩
abbrev cX7_see : ByteArray := prog_9_method_63_code
def yX7_see : MethodName := ⟨RX7, "see", "(II)I"⟩
abbrev cX7_isSeen : ByteArray := prog_9_method_64_code
def yX7_isSeen : MethodName := ⟨RX7, "isSeen", "()Z"⟩
abbrev cX7_fits : ByteArray := prog_9_method_65_code
def yX7_fits : MethodName := ⟨RX7, "fits", "(II)I"⟩
abbrev cX7_drawBelow : ByteArray := prog_9_method_66_code
def yX7_drawBelow : MethodName := ⟨RX7, "drawBelow", "(I)I"⟩
abbrev cX7_demandDrawn : ByteArray := prog_9_method_67_code
def yX7_demandDrawn : MethodName := ⟨RX7, "demandDrawn", "()I"⟩
abbrev cX7_records : ByteArray := prog_9_method_68_code
def yX7_records : MethodName := ⟨RX7, "records", "(III)V"⟩
abbrev cX7_day : ByteArray := prog_9_method_69_code
def yX7_day : MethodName := ⟨RX7, "day", "(I)I"⟩
abbrev cX7_isInt : ByteArray := prog_9_method_70_code
def yX7_isInt : MethodName := ⟨RX7, "isInt", "(J)Z"⟩
abbrev cX7_pay : ByteArray := prog_9_method_71_code
def yX7_pay : MethodName := ⟨RX7, "pay", "(I)I"⟩
abbrev cX7_times : ByteArray := prog_9_method_72_code
def yX7_times : MethodName := ⟨RX7, "times", "(I)I"⟩
abbrev cX7_total : ByteArray := prog_9_method_73_code
def yX7_total : MethodName := ⟨RX7, "total", "(JJ)I"⟩
abbrev cX7_record : ByteArray := prog_9_method_74_code
def yX7_record : MethodName := ⟨RX7, "record", "(II)I"⟩
abbrev cX7_likely : ByteArray := prog_9_method_75_code
def yX7_likely : MethodName := ⟨RX7, "likely", "(I)J"⟩
abbrev cX7_would : ByteArray := prog_9_method_76_code
def yX7_would : MethodName := ⟨RX7, "would", "(IIII)I"⟩
abbrev cX7_plan : ByteArray := prog_9_method_77_code
def yX7_plan : MethodName := ⟨RX7, "plan", "(II)I"⟩
abbrev cX7_ends : ByteArray := prog_9_method_78_code
def yX7_ends : MethodName := ⟨RX7, "ends", "(I)I"⟩
abbrev cX7_isTape : ByteArray := prog_9_method_79_code
def yX7_isTape : MethodName := ⟨RX7, "isTape", "(I)Z"⟩
abbrev cX7_narrowed : ByteArray := prog_9_method_80_code
def yX7_narrowed : MethodName := ⟨RX7, "narrowed", "(JI)J"⟩
abbrev cX7_tape : ByteArray := prog_9_method_81_code
def yX7_tape : MethodName := ⟨RX7, "tape", "(III)I"⟩
abbrev cX7_item : ByteArray := prog_9_method_82_code
def yX7_item : MethodName := ⟨RX7, "item", "(IIJ)I"⟩
abbrev cX7_peek : ByteArray := prog_9_method_83_code
def yX7_peek : MethodName := ⟨RX7, "peek", "(II)J"⟩
abbrev cX7_shift : ByteArray := prog_9_method_84_code
def yX7_shift : MethodName := ⟨RX7, "shift", "(IIIII)I"⟩
abbrev cX7_judge : ByteArray := prog_9_method_85_code
def yX7_judge : MethodName := ⟨RX7, "judge", "(III)I"⟩
abbrev cX7_image : ByteArray := prog_9_method_86_code
def yX7_image : MethodName := ⟨RX7, "image", "()I"⟩
abbrev cX7_undo : ByteArray := prog_9_method_87_code
def yX7_undo : MethodName := ⟨RX7, "undo", "()I"⟩
abbrev cX7_taken : ByteArray := prog_9_method_88_code
def yX7_taken : MethodName := ⟨RX7, "taken", "(I)I"⟩
abbrev cX7_count : ByteArray := prog_9_method_89_code
def yX7_count : MethodName := ⟨RX7, "count", "(I)I"⟩
def RL : String := "ReorderMindLaw"
abbrev cL_law : ByteArray := code
abbrev vwCl : List vw_C := [(RX0, TX0, 4), (RX1, TX1, 16), (RX2, TX2, 3), (RX3, TX3, 15), (RX4, TX4, 3), (RX5, TX5, 3), (RX6, TX6, 8), (RX7, TX7, 25)]
