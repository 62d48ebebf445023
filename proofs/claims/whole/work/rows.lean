section
-- ===== PART A: goes FIRST, ahead of the names: the tables' words, and 'selects' of the private methods out of them =====
/-- a private method of a class that the tables say can be made, by its rows of tables_1 -/
def lw_okq (q : MethodName × Nat) : Prop := (q.1.cls ≠ "java/lang/invoke/MethodHandle" ∧ q.1.cls ≠ "java/lang/invoke/VarHandle") ∧ Cond.instantiable q.1.cls q.2 ∈ tables_1 ∧ Cond.privateMethod q.1 ∈ tables_1 ∧ Cond.instanceMethod q.1 ∈ tables_1
theorem lw_p0 : lw_okq (⟨"FirstAwake$Reader", "skipBlanks", "()V"⟩, 6) := ⟨⟨by decide +kernel, by decide +kernel⟩, List.mem_of_getElem? (i := 25) (by decide +kernel), List.mem_of_getElem? (i := 337) (by decide +kernel), List.mem_of_getElem? (i := 338) (by decide +kernel)⟩
theorem lw_p1 : lw_okq (⟨"FirstAwake$Reader", "readClause", "()V"⟩, 6) := ⟨⟨by decide +kernel, by decide +kernel⟩, List.mem_of_getElem? (i := 25) (by decide +kernel), List.mem_of_getElem? (i := 341) (by decide +kernel), List.mem_of_getElem? (i := 342) (by decide +kernel)⟩
theorem lw_p2 : lw_okq (⟨"FirstAwake$Reader", "isWord", "(ILjava/lang/String;)Z"⟩, 6) := ⟨⟨by decide +kernel, by decide +kernel⟩, List.mem_of_getElem? (i := 25) (by decide +kernel), List.mem_of_getElem? (i := 346) (by decide +kernel), List.mem_of_getElem? (i := 347) (by decide +kernel)⟩
theorem lw_p3 : lw_okq (⟨"FirstAwake$Reader", "readHouse", "(I)V"⟩, 6) := ⟨⟨by decide +kernel, by decide +kernel⟩, List.mem_of_getElem? (i := 25) (by decide +kernel), List.mem_of_getElem? (i := 398) (by decide +kernel), List.mem_of_getElem? (i := 399) (by decide +kernel)⟩
theorem lw_p4 : lw_okq (⟨"FirstAwake$Reader", "note", "(II)V"⟩, 6) := ⟨⟨by decide +kernel, by decide +kernel⟩, List.mem_of_getElem? (i := 25) (by decide +kernel), List.mem_of_getElem? (i := 402) (by decide +kernel), List.mem_of_getElem? (i := 403) (by decide +kernel)⟩
theorem lw_p5 : lw_okq (⟨"FirstAwake$Reader", "readNumber", "(II)I"⟩, 6) := ⟨⟨by decide +kernel, by decide +kernel⟩, List.mem_of_getElem? (i := 25) (by decide +kernel), List.mem_of_getElem? (i := 406) (by decide +kernel), List.mem_of_getElem? (i := 407) (by decide +kernel)⟩
theorem lw_p6 : lw_okq (⟨"FirstAwake$Reader", "readEnd", "()V"⟩, 6) := ⟨⟨by decide +kernel, by decide +kernel⟩, List.mem_of_getElem? (i := 25) (by decide +kernel), List.mem_of_getElem? (i := 410) (by decide +kernel), List.mem_of_getElem? (i := 411) (by decide +kernel)⟩
theorem lw_p7 : lw_okq (⟨"FirstAwake$Reader", "readSleeper", "(I)V"⟩, 6) := ⟨⟨by decide +kernel, by decide +kernel⟩, List.mem_of_getElem? (i := 25) (by decide +kernel), List.mem_of_getElem? (i := 415) (by decide +kernel), List.mem_of_getElem? (i := 416) (by decide +kernel)⟩
theorem lw_p8 : lw_okq (⟨"FirstAwake$Night", "layOut", "(I)V"⟩, 9) := ⟨⟨by decide +kernel, by decide +kernel⟩, List.mem_of_getElem? (i := 130) (by decide +kernel), List.mem_of_getElem? (i := 441) (by decide +kernel), List.mem_of_getElem? (i := 442) (by decide +kernel)⟩
theorem lw_p9 : lw_okq (⟨"FirstAwake$Course", "draw", "(I)I"⟩, 11) := ⟨⟨by decide +kernel, by decide +kernel⟩, List.mem_of_getElem? (i := 124) (by decide +kernel), List.mem_of_getElem? (i := 522) (by decide +kernel), List.mem_of_getElem? (i := 523) (by decide +kernel)⟩
theorem lw_p10 : lw_okq (⟨"FirstAwake$Course", "whoIsAhead", "()I"⟩, 11) := ⟨⟨by decide +kernel, by decide +kernel⟩, List.mem_of_getElem? (i := 124) (by decide +kernel), List.mem_of_getElem? (i := 534) (by decide +kernel), List.mem_of_getElem? (i := 535) (by decide +kernel)⟩
theorem lw_p11 : lw_okq (⟨"FirstAwake$Course", "keepRuler", "(I)V"⟩, 11) := ⟨⟨by decide +kernel, by decide +kernel⟩, List.mem_of_getElem? (i := 124) (by decide +kernel), List.mem_of_getElem? (i := 538) (by decide +kernel), List.mem_of_getElem? (i := 539) (by decide +kernel)⟩
theorem lw_p12 : lw_okq (⟨"FirstAwake$Course", "countDayOf", "(I)V"⟩, 11) := ⟨⟨by decide +kernel, by decide +kernel⟩, List.mem_of_getElem? (i := 124) (by decide +kernel), List.mem_of_getElem? (i := 542) (by decide +kernel), List.mem_of_getElem? (i := 543) (by decide +kernel)⟩
theorem lw_p13 : lw_okq (⟨"FirstAwake$Night", "letting", "(III)I"⟩, 9) := ⟨⟨by decide +kernel, by decide +kernel⟩, List.mem_of_getElem? (i := 130) (by decide +kernel), List.mem_of_getElem? (i := 559) (by decide +kernel), List.mem_of_getElem? (i := 560) (by decide +kernel)⟩
theorem lw_p14 : lw_okq (⟨"FirstAwake$Planner", "playRound", "()Z"⟩, 7) := ⟨⟨by decide +kernel, by decide +kernel⟩, List.mem_of_getElem? (i := 237) (by decide +kernel), List.mem_of_getElem? (i := 600) (by decide +kernel), List.mem_of_getElem? (i := 601) (by decide +kernel)⟩
theorem lw_p15 : lw_okq (⟨"FirstAwake$Planner", "codeOfPlan", "()I"⟩, 7) := ⟨⟨by decide +kernel, by decide +kernel⟩, List.mem_of_getElem? (i := 237) (by decide +kernel), List.mem_of_getElem? (i := 606) (by decide +kernel), List.mem_of_getElem? (i := 607) (by decide +kernel)⟩
def lw_privs_1 : List (MethodName × Nat) := [(⟨"FirstAwake$Reader", "skipBlanks", "()V"⟩, 6), (⟨"FirstAwake$Reader", "readClause", "()V"⟩, 6), (⟨"FirstAwake$Reader", "isWord", "(ILjava/lang/String;)Z"⟩, 6), (⟨"FirstAwake$Reader", "readHouse", "(I)V"⟩, 6), (⟨"FirstAwake$Reader", "note", "(II)V"⟩, 6), (⟨"FirstAwake$Reader", "readNumber", "(II)I"⟩, 6), (⟨"FirstAwake$Reader", "readEnd", "()V"⟩, 6), (⟨"FirstAwake$Reader", "readSleeper", "(I)V"⟩, 6), (⟨"FirstAwake$Night", "layOut", "(I)V"⟩, 9), (⟨"FirstAwake$Course", "draw", "(I)I"⟩, 11), (⟨"FirstAwake$Course", "whoIsAhead", "()I"⟩, 11), (⟨"FirstAwake$Course", "keepRuler", "(I)V"⟩, 11), (⟨"FirstAwake$Course", "countDayOf", "(I)V"⟩, 11), (⟨"FirstAwake$Night", "letting", "(III)I"⟩, 9), (⟨"FirstAwake$Planner", "playRound", "()Z"⟩, 7), (⟨"FirstAwake$Planner", "codeOfPlan", "()I"⟩, 7)]
theorem lw_r1 : ∀ q ∈ lw_privs_1, lw_okq q := List.forall_mem_cons.mpr ⟨lw_p0, List.forall_mem_cons.mpr ⟨lw_p1, List.forall_mem_cons.mpr ⟨lw_p2, List.forall_mem_cons.mpr ⟨lw_p3, List.forall_mem_cons.mpr ⟨lw_p4, List.forall_mem_cons.mpr ⟨lw_p5, List.forall_mem_cons.mpr ⟨lw_p6, List.forall_mem_cons.mpr ⟨lw_p7, List.forall_mem_cons.mpr ⟨lw_p8, List.forall_mem_cons.mpr ⟨lw_p9, List.forall_mem_cons.mpr ⟨lw_p10, List.forall_mem_cons.mpr ⟨lw_p11, List.forall_mem_cons.mpr ⟨lw_p12, List.forall_mem_cons.mpr ⟨lw_p13, List.forall_mem_cons.mpr ⟨lw_p14, List.forall_mem_cons.mpr ⟨lw_p15, fun _ h => absurd h List.not_mem_nil⟩⟩⟩⟩⟩⟩⟩⟩⟩⟩⟩⟩⟩⟩⟩⟩
theorem lw_p16 : lw_okq (⟨"FirstAwake$Planner", "wasThere", "(I)Z"⟩, 7) := ⟨⟨by decide +kernel, by decide +kernel⟩, List.mem_of_getElem? (i := 237) (by decide +kernel), List.mem_of_getElem? (i := 610) (by decide +kernel), List.mem_of_getElem? (i := 611) (by decide +kernel)⟩
theorem lw_p17 : lw_okq (⟨"FirstAwake", "lookAhead", "(I)V"⟩, 9) := ⟨⟨by decide +kernel, by decide +kernel⟩, List.mem_of_getElem? (i := 17) (by decide +kernel), List.mem_of_getElem? (i := 631) (by decide +kernel), List.mem_of_getElem? (i := 632) (by decide +kernel)⟩
theorem lw_p18 : lw_okq (⟨"FirstAwake$Words", "allTrueOf", "(I)Z"⟩, 4) := ⟨⟨by decide +kernel, by decide +kernel⟩, List.mem_of_getElem? (i := 215) (by decide +kernel), List.mem_of_getElem? (i := 689) (by decide +kernel), List.mem_of_getElem? (i := 690) (by decide +kernel)⟩
theorem lw_p19 : lw_okq (⟨"FirstAwake", "imageAt", "(I)LFirstAwake$Course;"⟩, 9) := ⟨⟨by decide +kernel, by decide +kernel⟩, List.mem_of_getElem? (i := 17) (by decide +kernel), List.mem_of_getElem? (i := 701) (by decide +kernel), List.mem_of_getElem? (i := 702) (by decide +kernel)⟩
theorem lw_p20 : lw_okq (⟨"FirstAwakeModel", "here", "()I"⟩, 49) := ⟨⟨by decide +kernel, by decide +kernel⟩, List.mem_of_getElem? (i := 715) (by decide +kernel), List.mem_of_getElem? (i := 885) (by decide +kernel), List.mem_of_getElem? (i := 886) (by decide +kernel)⟩
theorem lw_p21 : lw_okq (⟨"FirstAwakeModel", "takeClause", "()I"⟩, 49) := ⟨⟨by decide +kernel, by decide +kernel⟩, List.mem_of_getElem? (i := 715) (by decide +kernel), List.mem_of_getElem? (i := 889) (by decide +kernel), List.mem_of_getElem? (i := 890) (by decide +kernel)⟩
theorem lw_p22 : lw_okq (⟨"FirstAwakeModel", "readWord", "()V"⟩, 49) := ⟨⟨by decide +kernel, by decide +kernel⟩, List.mem_of_getElem? (i := 715) (by decide +kernel), List.mem_of_getElem? (i := 893) (by decide +kernel), List.mem_of_getElem? (i := 894) (by decide +kernel)⟩
theorem lw_p23 : lw_okq (⟨"FirstAwakeModel", "fails", "(II)I"⟩, 49) := ⟨⟨by decide +kernel, by decide +kernel⟩, List.mem_of_getElem? (i := 715) (by decide +kernel), List.mem_of_getElem? (i := 909) (by decide +kernel), List.mem_of_getElem? (i := 910) (by decide +kernel)⟩
theorem lw_p24 : lw_okq (⟨"FirstAwakeModel", "takeHouse", "()I"⟩, 49) := ⟨⟨by decide +kernel, by decide +kernel⟩, List.mem_of_getElem? (i := 715) (by decide +kernel), List.mem_of_getElem? (i := 913) (by decide +kernel), List.mem_of_getElem? (i := 914) (by decide +kernel)⟩
theorem lw_p25 : lw_okq (⟨"FirstAwakeModel", "into", "([IIII)I"⟩, 49) := ⟨⟨by decide +kernel, by decide +kernel⟩, List.mem_of_getElem? (i := 715) (by decide +kernel), List.mem_of_getElem? (i := 917) (by decide +kernel), List.mem_of_getElem? (i := 918) (by decide +kernel)⟩
theorem lw_p26 : lw_okq (⟨"FirstAwakeModel", "takeNumber", "(II)I"⟩, 49) := ⟨⟨by decide +kernel, by decide +kernel⟩, List.mem_of_getElem? (i := 715) (by decide +kernel), List.mem_of_getElem? (i := 921) (by decide +kernel), List.mem_of_getElem? (i := 922) (by decide +kernel)⟩
theorem lw_p27 : lw_okq (⟨"FirstAwakeModel", "takeSleeper", "()I"⟩, 49) := ⟨⟨by decide +kernel, by decide +kernel⟩, List.mem_of_getElem? (i := 715) (by decide +kernel), List.mem_of_getElem? (i := 927) (by decide +kernel), List.mem_of_getElem? (i := 928) (by decide +kernel)⟩
theorem lw_p28 : lw_okq (⟨"FirstAwakeModel", "begin", "()V"⟩, 49) := ⟨⟨by decide +kernel, by decide +kernel⟩, List.mem_of_getElem? (i := 715) (by decide +kernel), List.mem_of_getElem? (i := 931) (by decide +kernel), List.mem_of_getElem? (i := 932) (by decide +kernel)⟩
theorem lw_p29 : lw_okq (⟨"FirstAwakeModel", "isHouse", "(I)Z"⟩, 49) := ⟨⟨by decide +kernel, by decide +kernel⟩, List.mem_of_getElem? (i := 715) (by decide +kernel), List.mem_of_getElem? (i := 947) (by decide +kernel), List.mem_of_getElem? (i := 948) (by decide +kernel)⟩
theorem lw_p30 : lw_okq (⟨"FirstAwakeModel", "sleepersOf", "(I)I"⟩, 49) := ⟨⟨by decide +kernel, by decide +kernel⟩, List.mem_of_getElem? (i := 715) (by decide +kernel), List.mem_of_getElem? (i := 952) (by decide +kernel), List.mem_of_getElem? (i := 953) (by decide +kernel)⟩
theorem lw_p31 : lw_okq (⟨"FirstAwakeModel", "isSleeper", "(I)Z"⟩, 49) := ⟨⟨by decide +kernel, by decide +kernel⟩, List.mem_of_getElem? (i := 715) (by decide +kernel), List.mem_of_getElem? (i := 960) (by decide +kernel), List.mem_of_getElem? (i := 961) (by decide +kernel)⟩
def lw_privs_2 : List (MethodName × Nat) := [(⟨"FirstAwake$Planner", "wasThere", "(I)Z"⟩, 7), (⟨"FirstAwake", "lookAhead", "(I)V"⟩, 9), (⟨"FirstAwake$Words", "allTrueOf", "(I)Z"⟩, 4), (⟨"FirstAwake", "imageAt", "(I)LFirstAwake$Course;"⟩, 9), (⟨"FirstAwakeModel", "here", "()I"⟩, 49), (⟨"FirstAwakeModel", "takeClause", "()I"⟩, 49), (⟨"FirstAwakeModel", "readWord", "()V"⟩, 49), (⟨"FirstAwakeModel", "fails", "(II)I"⟩, 49), (⟨"FirstAwakeModel", "takeHouse", "()I"⟩, 49), (⟨"FirstAwakeModel", "into", "([IIII)I"⟩, 49), (⟨"FirstAwakeModel", "takeNumber", "(II)I"⟩, 49), (⟨"FirstAwakeModel", "takeSleeper", "()I"⟩, 49), (⟨"FirstAwakeModel", "begin", "()V"⟩, 49), (⟨"FirstAwakeModel", "isHouse", "(I)Z"⟩, 49), (⟨"FirstAwakeModel", "sleepersOf", "(I)I"⟩, 49), (⟨"FirstAwakeModel", "isSleeper", "(I)Z"⟩, 49)]
theorem lw_r2 : ∀ q ∈ lw_privs_2, lw_okq q := List.forall_mem_cons.mpr ⟨lw_p16, List.forall_mem_cons.mpr ⟨lw_p17, List.forall_mem_cons.mpr ⟨lw_p18, List.forall_mem_cons.mpr ⟨lw_p19, List.forall_mem_cons.mpr ⟨lw_p20, List.forall_mem_cons.mpr ⟨lw_p21, List.forall_mem_cons.mpr ⟨lw_p22, List.forall_mem_cons.mpr ⟨lw_p23, List.forall_mem_cons.mpr ⟨lw_p24, List.forall_mem_cons.mpr ⟨lw_p25, List.forall_mem_cons.mpr ⟨lw_p26, List.forall_mem_cons.mpr ⟨lw_p27, List.forall_mem_cons.mpr ⟨lw_p28, List.forall_mem_cons.mpr ⟨lw_p29, List.forall_mem_cons.mpr ⟨lw_p30, List.forall_mem_cons.mpr ⟨lw_p31, fun _ h => absurd h List.not_mem_nil⟩⟩⟩⟩⟩⟩⟩⟩⟩⟩⟩⟩⟩⟩⟩⟩
theorem lw_p32 : lw_okq (⟨"FirstAwakeModel", "firstOf", "(I)I"⟩, 49) := ⟨⟨by decide +kernel, by decide +kernel⟩, List.mem_of_getElem? (i := 715) (by decide +kernel), List.mem_of_getElem? (i := 964) (by decide +kernel), List.mem_of_getElem? (i := 965) (by decide +kernel)⟩
theorem lw_p33 : lw_okq (⟨"FirstAwakeModel", "heard", "(II)I"⟩, 49) := ⟨⟨by decide +kernel, by decide +kernel⟩, List.mem_of_getElem? (i := 715) (by decide +kernel), List.mem_of_getElem? (i := 968) (by decide +kernel), List.mem_of_getElem? (i := 969) (by decide +kernel)⟩
theorem lw_p34 : lw_okq (⟨"FirstAwakeModel", "isStartled", "(I)Z"⟩, 49) := ⟨⟨by decide +kernel, by decide +kernel⟩, List.mem_of_getElem? (i := 715) (by decide +kernel), List.mem_of_getElem? (i := 972) (by decide +kernel), List.mem_of_getElem? (i := 973) (by decide +kernel)⟩
theorem lw_p35 : lw_okq (⟨"FirstAwakeModel", "lastOf", "(I)I"⟩, 49) := ⟨⟨by decide +kernel, by decide +kernel⟩, List.mem_of_getElem? (i := 715) (by decide +kernel), List.mem_of_getElem? (i := 976) (by decide +kernel), List.mem_of_getElem? (i := 977) (by decide +kernel)⟩
theorem lw_p36 : lw_okq (⟨"FirstAwakeModel", "setNoise", "(III)V"⟩, 49) := ⟨⟨by decide +kernel, by decide +kernel⟩, List.mem_of_getElem? (i := 715) (by decide +kernel), List.mem_of_getElem? (i := 990) (by decide +kernel), List.mem_of_getElem? (i := 991) (by decide +kernel)⟩
theorem lw_p37 : lw_okq (⟨"FirstAwakeModel", "dawnNow", "()I"⟩, 49) := ⟨⟨by decide +kernel, by decide +kernel⟩, List.mem_of_getElem? (i := 715) (by decide +kernel), List.mem_of_getElem? (i := 1009) (by decide +kernel), List.mem_of_getElem? (i := 1010) (by decide +kernel)⟩
theorem lw_p38 : lw_okq (⟨"FirstAwakeModel", "draw", "(I)I"⟩, 49) := ⟨⟨by decide +kernel, by decide +kernel⟩, List.mem_of_getElem? (i := 715) (by decide +kernel), List.mem_of_getElem? (i := 1013) (by decide +kernel), List.mem_of_getElem? (i := 1014) (by decide +kernel)⟩
theorem lw_p39 : lw_okq (⟨"FirstAwakeModel", "oddsOf", "(I)I"⟩, 49) := ⟨⟨by decide +kernel, by decide +kernel⟩, List.mem_of_getElem? (i := 715) (by decide +kernel), List.mem_of_getElem? (i := 1029) (by decide +kernel), List.mem_of_getElem? (i := 1030) (by decide +kernel)⟩
theorem lw_p40 : lw_okq (⟨"FirstAwakeModel", "lets", "(III)I"⟩, 49) := ⟨⟨by decide +kernel, by decide +kernel⟩, List.mem_of_getElem? (i := 715) (by decide +kernel), List.mem_of_getElem? (i := 1034) (by decide +kernel), List.mem_of_getElem? (i := 1035) (by decide +kernel)⟩
theorem lw_p41 : lw_okq (⟨"FirstAwakeModel", "later", "(II)I"⟩, 49) := ⟨⟨by decide +kernel, by decide +kernel⟩, List.mem_of_getElem? (i := 715) (by decide +kernel), List.mem_of_getElem? (i := 1038) (by decide +kernel), List.mem_of_getElem? (i := 1039) (by decide +kernel)⟩
theorem lw_p42 : lw_okq (⟨"FirstAwakeModel", "laterRaw", "(II)I"⟩, 49) := ⟨⟨by decide +kernel, by decide +kernel⟩, List.mem_of_getElem? (i := 715) (by decide +kernel), List.mem_of_getElem? (i := 1042) (by decide +kernel), List.mem_of_getElem? (i := 1043) (by decide +kernel)⟩
theorem lw_p43 : lw_okq (⟨"FirstAwakeModel", "oddsOfHouses", "(I)I"⟩, 49) := ⟨⟨by decide +kernel, by decide +kernel⟩, List.mem_of_getElem? (i := 715) (by decide +kernel), List.mem_of_getElem? (i := 1050) (by decide +kernel), List.mem_of_getElem? (i := 1051) (by decide +kernel)⟩
theorem lw_p44 : lw_okq (⟨"FirstAwakeModel", "bestShift", "(I)I"⟩, 49) := ⟨⟨by decide +kernel, by decide +kernel⟩, List.mem_of_getElem? (i := 715) (by decide +kernel), List.mem_of_getElem? (i := 1061) (by decide +kernel), List.mem_of_getElem? (i := 1062) (by decide +kernel)⟩
theorem lw_p45 : lw_okq (⟨"FirstAwakeModel", "shiftHouse", "(II)V"⟩, 49) := ⟨⟨by decide +kernel, by decide +kernel⟩, List.mem_of_getElem? (i := 715) (by decide +kernel), List.mem_of_getElem? (i := 1065) (by decide +kernel), List.mem_of_getElem? (i := 1066) (by decide +kernel)⟩
theorem lw_p46 : lw_okq (⟨"FirstAwakeModel", "roundChanges", "()Z"⟩, 49) := ⟨⟨by decide +kernel, by decide +kernel⟩, List.mem_of_getElem? (i := 715) (by decide +kernel), List.mem_of_getElem? (i := 1073) (by decide +kernel), List.mem_of_getElem? (i := 1074) (by decide +kernel)⟩
theorem lw_p47 : lw_okq (⟨"FirstAwakeModel", "leastOf", "(I)I"⟩, 49) := ⟨⟨by decide +kernel, by decide +kernel⟩, List.mem_of_getElem? (i := 715) (by decide +kernel), List.mem_of_getElem? (i := 1077) (by decide +kernel), List.mem_of_getElem? (i := 1078) (by decide +kernel)⟩
def lw_privs_3 : List (MethodName × Nat) := [(⟨"FirstAwakeModel", "firstOf", "(I)I"⟩, 49), (⟨"FirstAwakeModel", "heard", "(II)I"⟩, 49), (⟨"FirstAwakeModel", "isStartled", "(I)Z"⟩, 49), (⟨"FirstAwakeModel", "lastOf", "(I)I"⟩, 49), (⟨"FirstAwakeModel", "setNoise", "(III)V"⟩, 49), (⟨"FirstAwakeModel", "dawnNow", "()I"⟩, 49), (⟨"FirstAwakeModel", "draw", "(I)I"⟩, 49), (⟨"FirstAwakeModel", "oddsOf", "(I)I"⟩, 49), (⟨"FirstAwakeModel", "lets", "(III)I"⟩, 49), (⟨"FirstAwakeModel", "later", "(II)I"⟩, 49), (⟨"FirstAwakeModel", "laterRaw", "(II)I"⟩, 49), (⟨"FirstAwakeModel", "oddsOfHouses", "(I)I"⟩, 49), (⟨"FirstAwakeModel", "bestShift", "(I)I"⟩, 49), (⟨"FirstAwakeModel", "shiftHouse", "(II)V"⟩, 49), (⟨"FirstAwakeModel", "roundChanges", "()Z"⟩, 49), (⟨"FirstAwakeModel", "leastOf", "(I)I"⟩, 49)]
theorem lw_r3 : ∀ q ∈ lw_privs_3, lw_okq q := List.forall_mem_cons.mpr ⟨lw_p32, List.forall_mem_cons.mpr ⟨lw_p33, List.forall_mem_cons.mpr ⟨lw_p34, List.forall_mem_cons.mpr ⟨lw_p35, List.forall_mem_cons.mpr ⟨lw_p36, List.forall_mem_cons.mpr ⟨lw_p37, List.forall_mem_cons.mpr ⟨lw_p38, List.forall_mem_cons.mpr ⟨lw_p39, List.forall_mem_cons.mpr ⟨lw_p40, List.forall_mem_cons.mpr ⟨lw_p41, List.forall_mem_cons.mpr ⟨lw_p42, List.forall_mem_cons.mpr ⟨lw_p43, List.forall_mem_cons.mpr ⟨lw_p44, List.forall_mem_cons.mpr ⟨lw_p45, List.forall_mem_cons.mpr ⟨lw_p46, List.forall_mem_cons.mpr ⟨lw_p47, fun _ h => absurd h List.not_mem_nil⟩⟩⟩⟩⟩⟩⟩⟩⟩⟩⟩⟩⟩⟩⟩⟩
theorem lw_p48 : lw_okq (⟨"FirstAwakeModel", "startWork", "(I)V"⟩, 49) := ⟨⟨by decide +kernel, by decide +kernel⟩, List.mem_of_getElem? (i := 715) (by decide +kernel), List.mem_of_getElem? (i := 1090) (by decide +kernel), List.mem_of_getElem? (i := 1091) (by decide +kernel)⟩
theorem lw_p49 : lw_okq (⟨"FirstAwakeModel", "workDay", "(IJ)V"⟩, 49) := ⟨⟨by decide +kernel, by decide +kernel⟩, List.mem_of_getElem? (i := 715) (by decide +kernel), List.mem_of_getElem? (i := 1094) (by decide +kernel), List.mem_of_getElem? (i := 1095) (by decide +kernel)⟩
theorem lw_p50 : lw_okq (⟨"FirstAwakeModel", "isLie", "(I)Z"⟩, 49) := ⟨⟨by decide +kernel, by decide +kernel⟩, List.mem_of_getElem? (i := 715) (by decide +kernel), List.mem_of_getElem? (i := 1116) (by decide +kernel), List.mem_of_getElem? (i := 1117) (by decide +kernel)⟩
theorem lw_p51 : lw_okq (⟨"FirstAwakeModel", "isHonest", "(I)Z"⟩, 49) := ⟨⟨by decide +kernel, by decide +kernel⟩, List.mem_of_getElem? (i := 715) (by decide +kernel), List.mem_of_getElem? (i := 1124) (by decide +kernel), List.mem_of_getElem? (i := 1125) (by decide +kernel)⟩
def lw_privs_4 : List (MethodName × Nat) := [(⟨"FirstAwakeModel", "startWork", "(I)V"⟩, 49), (⟨"FirstAwakeModel", "workDay", "(IJ)V"⟩, 49), (⟨"FirstAwakeModel", "isLie", "(I)Z"⟩, 49), (⟨"FirstAwakeModel", "isHonest", "(I)Z"⟩, 49)]
theorem lw_r4 : ∀ q ∈ lw_privs_4, lw_okq q := List.forall_mem_cons.mpr ⟨lw_p48, List.forall_mem_cons.mpr ⟨lw_p49, List.forall_mem_cons.mpr ⟨lw_p50, List.forall_mem_cons.mpr ⟨lw_p51, fun _ h => absurd h List.not_mem_nil⟩⟩⟩⟩
def lw_privs : List (MethodName × Nat) := lw_privs_1 ++ (lw_privs_2 ++ (lw_privs_3 ++ (lw_privs_4)))
def lw_tbl : List Cond := k2_sels lw_privs ++ tables_1
theorem lw_privs_ok : ∀ q ∈ lw_privs, lw_okq q := by
  show ∀ q ∈ lw_privs_1 ++ (lw_privs_2 ++ (lw_privs_3 ++ (lw_privs_4))), lw_okq q
  exact List.forall_mem_append.mpr ⟨lw_r1, List.forall_mem_append.mpr ⟨lw_r2, List.forall_mem_append.mpr ⟨lw_r3, lw_r4⟩⟩⟩
end
section
def RX0 : String := "FirstAwake$Course"
def TX0 : u_T := fun k => match k with
  | 0 => ("FirstAwake$Course", "valley", "LFirstAwake$Valley;", true)
  | 1 => ("FirstAwake$Course", "night", "LFirstAwake$Night;", true)
  | 2 => ("FirstAwake$Course", "day", "I", false)
  | 3 => ("FirstAwake$Course", "onEnd", "[I", true)
  | 4 => ("FirstAwake$Course", "done", "[I", true)
  | 5 => ("FirstAwake$Course", "had", "I", false)
  | 6 => ("FirstAwake$Course", "kept", "I", false)
  | 7 => ("FirstAwake$Course", "rulers", "[I", true)
  | 8 => ("FirstAwake$Course", "minutes", "[I", true)
  | 9 => ("FirstAwake$Course", "seed", "I", false)
  | _ => ("FirstAwake$Course", "awake", "[I", true)
def tyX0 : Nat → FieldType := fun k => match k with
  | 0 => .object "FirstAwake$Valley"
  | 1 => .object "FirstAwake$Night"
  | 2 => .int
  | 3 => .array .int
  | 4 => .array .int
  | 5 => .int
  | 6 => .int
  | 7 => .array .int
  | 8 => .array .int
  | 9 => .int
  | _ => .array .int
abbrev wsX00 : List Cond := u_ws RX0 TX0 11
theorem nmX0 : ∀ a, a < 11 → ∀ b, b < 11 → a ≠ b → (TX0 a).2.1 ≠ (TX0 b).2.1 := by decide +kernel
theorem tyX0_ok : ∀ k, k < 11 → parseFieldDescriptor (TX0 k).2.2.1 = some (tyX0 k) := by decide +kernel
abbrev cX0_init : ByteArray := prog_2_method_1_code
def yX0_init : MethodName := ⟨RX0, "<init>", "(LFirstAwake$Valley;)V"⟩
abbrev cX0_beginAnew : ByteArray := prog_2_method_2_code
def yX0_beginAnew : MethodName := ⟨RX0, "beginAnew", "()V"⟩
abbrev cX0_copyFrom : ByteArray := prog_2_method_3_code
def yX0_copyFrom : MethodName := ⟨RX0, "copyFrom", "(LFirstAwake$Course;)V"⟩
abbrev cX0_liveDay : ByteArray := prog_2_method_4_code
def yX0_liveDay : MethodName := ⟨RX0, "liveDay", "()I"⟩
abbrev cX0_draw : ByteArray := prog_2_method_5_code
def yX0_draw : MethodName := ⟨RX0, "draw", "(I)I"⟩
abbrev cX0_whoIsAhead : ByteArray := prog_2_method_6_code
def yX0_whoIsAhead : MethodName := ⟨RX0, "whoIsAhead", "()I"⟩
abbrev cX0_keepRuler : ByteArray := prog_2_method_7_code
def yX0_keepRuler : MethodName := ⟨RX0, "keepRuler", "(I)V"⟩
abbrev cX0_countDayOf : ByteArray := prog_2_method_8_code
def yX0_countDayOf : MethodName := ⟨RX0, "countDayOf", "(I)V"⟩
def RX1 : String := "FirstAwake$Night"
def TX1 : u_T := fun k => match k with
  | 0 => ("FirstAwake$Night", "valley", "LFirstAwake$Valley;", true)
  | 1 => ("FirstAwake$Night", "shifted", "[I", true)
  | 2 => ("FirstAwake$Night", "noiseHouse", "I", false)
  | 3 => ("FirstAwake$Night", "noiseMinute", "I", false)
  | 4 => ("FirstAwake$Night", "loudness", "I", false)
  | 5 => ("FirstAwake$Night", "law", "I", false)
  | 6 => ("FirstAwake$Night", "first", "[I", true)
  | 7 => ("FirstAwake$Night", "last", "[I", true)
  | _ => ("FirstAwake$Night", "roof", "[I", true)
def tyX1 : Nat → FieldType := fun k => match k with
  | 0 => .object "FirstAwake$Valley"
  | 1 => .array .int
  | 2 => .int
  | 3 => .int
  | 4 => .int
  | 5 => .int
  | 6 => .array .int
  | 7 => .array .int
  | _ => .array .int
abbrev wsX10 : List Cond := u_ws RX1 TX1 9
theorem nmX1 : ∀ a, a < 9 → ∀ b, b < 9 → a ≠ b → (TX1 a).2.1 ≠ (TX1 b).2.1 := by decide +kernel
theorem tyX1_ok : ∀ k, k < 9 → parseFieldDescriptor (TX1 k).2.2.1 = some (tyX1 k) := by decide +kernel
abbrev cX1_init : ByteArray := prog_3_method_1_code
def yX1_init : MethodName := ⟨RX1, "<init>", "(LFirstAwake$Valley;)V"⟩
abbrev cX1_beginAnew : ByteArray := prog_3_method_2_code
def yX1_beginAnew : MethodName := ⟨RX1, "beginAnew", "()V"⟩
abbrev cX1_copyFrom : ByteArray := prog_3_method_3_code
def yX1_copyFrom : MethodName := ⟨RX1, "copyFrom", "(LFirstAwake$Night;)V"⟩
abbrev cX1_isNoisy : ByteArray := prog_3_method_4_code
def yX1_isNoisy : MethodName := ⟨RX1, "isNoisy", "()Z"⟩
abbrev cX1_makeNoise : ByteArray := prog_3_method_5_code
def yX1_makeNoise : MethodName := ⟨RX1, "makeNoise", "(III)V"⟩
abbrev cX1_shiftOne : ByteArray := prog_3_method_6_code
def yX1_shiftOne : MethodName := ⟨RX1, "shiftOne", "(II)V"⟩
abbrev cX1_shiftHouse : ByteArray := prog_3_method_7_code
def yX1_shiftHouse : MethodName := ⟨RX1, "shiftHouse", "(II)Z"⟩
abbrev cX1_layOut : ByteArray := prog_3_method_8_code
def yX1_layOut : MethodName := ⟨RX1, "layOut", "(I)V"⟩
abbrev cX1_heard : ByteArray := prog_3_method_9_code
def yX1_heard : MethodName := ⟨RX1, "heard", "(II)I"⟩
abbrev cX1_minuteAt : ByteArray := prog_3_method_10_code
def yX1_minuteAt : MethodName := ⟨RX1, "minuteAt", "(II)I"⟩
abbrev cX1_firstMinute : ByteArray := prog_3_method_11_code
def yX1_firstMinute : MethodName := ⟨RX1, "firstMinute", "(I)I"⟩
abbrev cX1_lastMinute : ByteArray := prog_3_method_12_code
def yX1_lastMinute : MethodName := ⟨RX1, "lastMinute", "(I)I"⟩
abbrev cX1_oddsOfHouses : ByteArray := prog_3_method_13_code
def yX1_oddsOfHouses : MethodName := ⟨RX1, "oddsOfHouses", "(I)I"⟩
abbrev cX1_oddsOf : ByteArray := prog_3_method_14_code
def yX1_oddsOf : MethodName := ⟨RX1, "oddsOf", "(I)I"⟩
abbrev cX1_letting : ByteArray := prog_3_method_15_code
def yX1_letting : MethodName := ⟨RX1, "letting", "(III)I"⟩
abbrev cX1_mayRuleAt : ByteArray := prog_3_method_16_code
def yX1_mayRuleAt : MethodName := ⟨RX1, "mayRuleAt", "(II)Z"⟩
def RX2 : String := "FirstAwake$Planner"
def TX2 : u_T := fun k => match k with
  | 0 => ("FirstAwake$Planner", "valley", "LFirstAwake$Valley;", true)
  | 1 => ("FirstAwake$Planner", "plan", "LFirstAwake$Night;", true)
  | 2 => ("FirstAwake$Planner", "trial", "LFirstAwake$Night;", true)
  | 3 => ("FirstAwake$Planner", "codes", "[I", true)
  | 4 => ("FirstAwake$Planner", "bestShift", "I", false)
  | 5 => ("FirstAwake$Planner", "bestLoudness", "I", false)
  | _ => ("FirstAwake$Planner", "bestOdds", "I", false)
def tyX2 : Nat → FieldType := fun k => match k with
  | 0 => .object "FirstAwake$Valley"
  | 1 => .object "FirstAwake$Night"
  | 2 => .object "FirstAwake$Night"
  | 3 => .array .int
  | 4 => .int
  | 5 => .int
  | _ => .int
abbrev wsX20 : List Cond := u_ws RX2 TX2 7
theorem nmX2 : ∀ a, a < 7 → ∀ b, b < 7 → a ≠ b → (TX2 a).2.1 ≠ (TX2 b).2.1 := by decide +kernel
theorem tyX2_ok : ∀ k, k < 7 → parseFieldDescriptor (TX2 k).2.2.1 = some (tyX2 k) := by decide +kernel
abbrev cX2_init : ByteArray := prog_4_method_1_code
def yX2_init : MethodName := ⟨RX2, "<init>", "(LFirstAwake$Valley;)V"⟩
abbrev cX2_seekShift : ByteArray := prog_4_method_2_code
def yX2_seekShift : MethodName := ⟨RX2, "seekShift", "(LFirstAwake$Night;I)V"⟩
abbrev cX2_seekNoise : ByteArray := prog_4_method_3_code
def yX2_seekNoise : MethodName := ⟨RX2, "seekNoise", "(LFirstAwake$Night;I)V"⟩
abbrev cX2_settle : ByteArray := prog_4_method_4_code
def yX2_settle : MethodName := ⟨RX2, "settle", "(LFirstAwake$Night;)I"⟩
abbrev cX2_playRound : ByteArray := prog_4_method_5_code
def yX2_playRound : MethodName := ⟨RX2, "playRound", "()Z"⟩
abbrev cX2_codeOfPlan : ByteArray := prog_4_method_6_code
def yX2_codeOfPlan : MethodName := ⟨RX2, "codeOfPlan", "()I"⟩
abbrev cX2_wasThere : ByteArray := prog_4_method_7_code
def yX2_wasThere : MethodName := ⟨RX2, "wasThere", "(I)Z"⟩
abbrev cX2_settledShift : ByteArray := prog_4_method_8_code
def yX2_settledShift : MethodName := ⟨RX2, "settledShift", "(I)I"⟩
def RX3 : String := "FirstAwake$Prospect"
def TX3 : u_T := fun k => match k with
  | 0 => ("FirstAwake$Prospect", "parts", "[J", true)
  | 1 => ("FirstAwake$Prospect", "need", "I", false)
  | 2 => ("FirstAwake$Prospect", "dayOdds", "J", false)
  | _ => ("FirstAwake$Prospect", "done", "J", false)
def tyX3 : Nat → FieldType := fun k => match k with
  | 0 => .array .long
  | 1 => .int
  | 2 => .long
  | _ => .long
abbrev wsX30 : List Cond := u_ws RX3 TX3 4
theorem nmX3 : ∀ a, a < 4 → ∀ b, b < 4 → a ≠ b → (TX3 a).2.1 ≠ (TX3 b).2.1 := by decide +kernel
theorem tyX3_ok : ∀ k, k < 4 → parseFieldDescriptor (TX3 k).2.2.1 = some (tyX3 k) := by decide +kernel
abbrev cX3_init : ByteArray := prog_5_method_1_code
def yX3_init : MethodName := ⟨RX3, "<init>", "()V"⟩
abbrev cX3_begin : ByteArray := prog_5_method_2_code
def yX3_begin : MethodName := ⟨RX3, "begin", "(III)V"⟩
abbrev cX3_goOnADay : ByteArray := prog_5_method_3_code
def yX3_goOnADay : MethodName := ⟨RX3, "goOnADay", "()V"⟩
def RX4 : String := "FirstAwake$Reader"
def TX4 : u_T := fun k => match k with
  | 0 => ("FirstAwake$Reader", "text", "[B", true)
  | 1 => ("FirstAwake$Reader", "length", "I", false)
  | 2 => ("FirstAwake$Reader", "draft", "LFirstAwake$Valley;", true)
  | 3 => ("FirstAwake$Reader", "at", "I", false)
  | 4 => ("FirstAwake$Reader", "faultNumber", "I", false)
  | _ => ("FirstAwake$Reader", "faultByte", "I", false)
def tyX4 : Nat → FieldType := fun k => match k with
  | 0 => .array .byte
  | 1 => .int
  | 2 => .object "FirstAwake$Valley"
  | 3 => .int
  | 4 => .int
  | _ => .int
abbrev wsX40 : List Cond := u_ws RX4 TX4 6
theorem nmX4 : ∀ a, a < 6 → ∀ b, b < 6 → a ≠ b → (TX4 a).2.1 ≠ (TX4 b).2.1 := by decide +kernel
theorem tyX4_ok : ∀ k, k < 6 → parseFieldDescriptor (TX4 k).2.2.1 = some (tyX4 k) := by decide +kernel
abbrev cX4_init : ByteArray := prog_6_method_1_code
def yX4_init : MethodName := ⟨RX4, "<init>", "()V"⟩
abbrev cX4_append : ByteArray := prog_6_method_2_code
def yX4_append : MethodName := ⟨RX4, "append", "(IJ)Z"⟩
abbrev cX4_readAll : ByteArray := prog_6_method_3_code
def yX4_readAll : MethodName := ⟨RX4, "readAll", "()I"⟩
abbrev cX4_readClause : ByteArray := prog_6_method_4_code
def yX4_readClause : MethodName := ⟨RX4, "readClause", "()V"⟩
abbrev cX4_isWord : ByteArray := prog_6_method_5_code
def yX4_isWord : MethodName := ⟨RX4, "isWord", "(ILjava/lang/String;)Z"⟩
abbrev cX4_readHouse : ByteArray := prog_6_method_6_code
def yX4_readHouse : MethodName := ⟨RX4, "readHouse", "(I)V"⟩
abbrev cX4_readSleeper : ByteArray := prog_6_method_7_code
def yX4_readSleeper : MethodName := ⟨RX4, "readSleeper", "(I)V"⟩
abbrev cX4_readNumber : ByteArray := prog_6_method_8_code
def yX4_readNumber : MethodName := ⟨RX4, "readNumber", "(II)I"⟩
abbrev cX4_readEnd : ByteArray := prog_6_method_9_code
def yX4_readEnd : MethodName := ⟨RX4, "readEnd", "()V"⟩
abbrev cX4_skipBlanks : ByteArray := prog_6_method_10_code
def yX4_skipBlanks : MethodName := ⟨RX4, "skipBlanks", "()V"⟩
abbrev cX4_note : ByteArray := prog_6_method_11_code
def yX4_note : MethodName := ⟨RX4, "note", "(II)V"⟩
def RX5 : String := "FirstAwake$Valley"
def TX5 : u_T := fun k => match k with
  | 0 => ("FirstAwake$Valley", "houses", "I", false)
  | 1 => ("FirstAwake$Valley", "need", "[I", true)
  | 2 => ("FirstAwake$Valley", "worth", "[I", true)
  | 3 => ("FirstAwake$Valley", "bed", "[I", true)
  | 4 => ("FirstAwake$Valley", "sleepers", "I", false)
  | 5 => ("FirstAwake$Valley", "home", "[I", true)
  | 6 => ("FirstAwake$Valley", "wake", "[I", true)
  | 7 => ("FirstAwake$Valley", "span", "[I", true)
  | _ => ("FirstAwake$Valley", "light", "[I", true)
def tyX5 : Nat → FieldType := fun k => match k with
  | 0 => .int
  | 1 => .array .int
  | 2 => .array .int
  | 3 => .array .int
  | 4 => .int
  | 5 => .array .int
  | 6 => .array .int
  | 7 => .array .int
  | _ => .array .int
abbrev wsX50 : List Cond := u_ws RX5 TX5 9
theorem nmX5 : ∀ a, a < 9 → ∀ b, b < 9 → a ≠ b → (TX5 a).2.1 ≠ (TX5 b).2.1 := by decide +kernel
theorem tyX5_ok : ∀ k, k < 9 → parseFieldDescriptor (TX5 k).2.2.1 = some (tyX5 k) := by decide +kernel
abbrev cX5_init : ByteArray := prog_7_method_1_code
def yX5_init : MethodName := ⟨RX5, "<init>", "()V"⟩
abbrev cX5_hasHouse : ByteArray := prog_7_method_2_code
def yX5_hasHouse : MethodName := ⟨RX5, "hasHouse", "(I)Z"⟩
abbrev cX5_hasSleeper : ByteArray := prog_7_method_3_code
def yX5_hasSleeper : MethodName := ⟨RX5, "hasSleeper", "(I)Z"⟩
abbrev cX5_sleepersOf : ByteArray := prog_7_method_4_code
def yX5_sleepersOf : MethodName := ⟨RX5, "sleepersOf", "(I)I"⟩
abbrev cX5_copyFrom : ByteArray := prog_7_method_5_code
def yX5_copyFrom : MethodName := ⟨RX5, "copyFrom", "(LFirstAwake$Valley;)V"⟩
def RX6 : String := "FirstAwake$Words"
def TX6 : u_T := fun k => match k with
  | 0 => ("FirstAwake$Words", "count", "I", false)
  | 1 => ("FirstAwake$Words", "who", "[I", true)
  | 2 => ("FirstAwake$Words", "minutes", "[I", true)
  | _ => ("FirstAwake$Words", "trial", "LFirstAwake$Night;", true)
def tyX6 : Nat → FieldType := fun k => match k with
  | 0 => .int
  | 1 => .array .int
  | 2 => .array .int
  | _ => .object "FirstAwake$Night"
abbrev wsX60 : List Cond := u_ws RX6 TX6 4
theorem nmX6 : ∀ a, a < 4 → ∀ b, b < 4 → a ≠ b → (TX6 a).2.1 ≠ (TX6 b).2.1 := by decide +kernel
theorem tyX6_ok : ∀ k, k < 4 → parseFieldDescriptor (TX6 k).2.2.1 = some (tyX6 k) := by decide +kernel
abbrev cX6_init : ByteArray := prog_8_method_1_code
def yX6_init : MethodName := ⟨RX6, "<init>", "(LFirstAwake$Valley;)V"⟩
abbrev cX6_add : ByteArray := prog_8_method_2_code
def yX6_add : MethodName := ⟨RX6, "add", "(II)Z"⟩
abbrev cX6_firstLie : ByteArray := prog_8_method_3_code
def yX6_firstLie : MethodName := ⟨RX6, "firstLie", "(LFirstAwake$Night;)I"⟩
abbrev cX6_fitting : ByteArray := prog_8_method_4_code
def yX6_fitting : MethodName := ⟨RX6, "fitting", "(LFirstAwake$Night;II)I"⟩
abbrev cX6_allTrueOf : ByteArray := prog_8_method_5_code
def yX6_allTrueOf : MethodName := ⟨RX6, "allTrueOf", "(I)Z"⟩
def RX7 : String := "FirstAwake"
def TX7 : u_T := fun k => match k with
  | 0 => ("FirstAwake", "reader", "LFirstAwake$Reader;", true)
  | 1 => ("FirstAwake", "valley", "LFirstAwake$Valley;", true)
  | 2 => ("FirstAwake", "now", "LFirstAwake$Course;", true)
  | 3 => ("FirstAwake", "firstImage", "LFirstAwake$Course;", true)
  | 4 => ("FirstAwake", "secondImage", "LFirstAwake$Course;", true)
  | 5 => ("FirstAwake", "imagesKept", "I", false)
  | 6 => ("FirstAwake", "words", "LFirstAwake$Words;", true)
  | 7 => ("FirstAwake", "planner", "LFirstAwake$Planner;", true)
  | _ => ("FirstAwake", "prospect", "LFirstAwake$Prospect;", true)
def tyX7 : Nat → FieldType := fun k => match k with
  | 0 => .object "FirstAwake$Reader"
  | 1 => .object "FirstAwake$Valley"
  | 2 => .object "FirstAwake$Course"
  | 3 => .object "FirstAwake$Course"
  | 4 => .object "FirstAwake$Course"
  | 5 => .int
  | 6 => .object "FirstAwake$Words"
  | 7 => .object "FirstAwake$Planner"
  | _ => .object "FirstAwake$Prospect"
abbrev wsX70 : List Cond := u_ws RX7 TX7 9
theorem nmX7 : ∀ a, a < 9 → ∀ b, b < 9 → a ≠ b → (TX7 a).2.1 ≠ (TX7 b).2.1 := by decide +kernel
theorem tyX7_ok : ∀ k, k < 9 → parseFieldDescriptor (TX7 k).2.2.1 = some (tyX7 k) := by decide +kernel
abbrev cX7_init : ByteArray := prog_1_method_1_code
def yX7_init : MethodName := ⟨RX7, "<init>", "()V"⟩
abbrev cX7_feed : ByteArray := prog_1_method_2_code
def yX7_feed : MethodName := ⟨RX7, "feed", "(IJ)I"⟩
abbrev cX7_valley : ByteArray := prog_1_method_3_code
def yX7_valley : MethodName := ⟨RX7, "valley", "()I"⟩
abbrev cX7_fault : ByteArray := prog_1_method_4_code
def yX7_fault : MethodName := ⟨RX7, "fault", "()I"⟩
abbrev cX7_told : ByteArray := prog_1_method_5_code
def yX7_told : MethodName := ⟨RX7, "told", "(I)I"⟩
abbrev cX7_house : ByteArray := prog_1_method_6_code
def yX7_house : MethodName := ⟨RX7, "house", "(II)I"⟩
abbrev cX7_sleeper : ByteArray := prog_1_method_7_code
def yX7_sleeper : MethodName := ⟨RX7, "sleeper", "(II)I"⟩
abbrev cX7_shift : ByteArray := prog_1_method_8_code
def yX7_shift : MethodName := ⟨RX7, "shift", "(II)I"⟩
abbrev cX7_noise : ByteArray := prog_1_method_9_code
def yX7_noise : MethodName := ⟨RX7, "noise", "(III)I"⟩
abbrev cX7_hush : ByteArray := prog_1_method_10_code
def yX7_hush : MethodName := ⟨RX7, "hush", "()I"⟩
abbrev cX7_law : ByteArray := prog_1_method_11_code
def yX7_law : MethodName := ⟨RX7, "law", "(I)I"⟩
abbrev cX7_dawn : ByteArray := prog_1_method_12_code
def yX7_dawn : MethodName := ⟨RX7, "dawn", "(I)I"⟩
abbrev cX7_ruler : ByteArray := prog_1_method_13_code
def yX7_ruler : MethodName := ⟨RX7, "ruler", "(II)I"⟩
abbrev cX7_odds : ByteArray := prog_1_method_14_code
def yX7_odds : MethodName := ⟨RX7, "odds", "(I)I"⟩
abbrev cX7_together : ByteArray := prog_1_method_15_code
def yX7_together : MethodName := ⟨RX7, "together", "(I)I"⟩
abbrev cX7_best : ByteArray := prog_1_method_16_code
def yX7_best : MethodName := ⟨RX7, "best", "(II)I"⟩
abbrev cX7_rests : ByteArray := prog_1_method_17_code
def yX7_rests : MethodName := ⟨RX7, "rests", "(I)I"⟩
abbrev cX7_loud : ByteArray := prog_1_method_18_code
def yX7_loud : MethodName := ⟨RX7, "loud", "(II)I"⟩
abbrev cX7_work : ByteArray := prog_1_method_19_code
def yX7_work : MethodName := ⟨RX7, "work", "(II)I"⟩
abbrev cX7_likely : ByteArray := prog_1_method_20_code
def yX7_likely : MethodName := ⟨RX7, "likely", "(II)I"⟩
abbrev cX7_lookAhead : ByteArray := prog_1_method_21_code
def yX7_lookAhead : MethodName := ⟨RX7, "lookAhead", "(I)V"⟩
abbrev cX7_tell : ByteArray := prog_1_method_22_code
def yX7_tell : MethodName := ⟨RX7, "tell", "(II)I"⟩
abbrev cX7_forget : ByteArray := prog_1_method_23_code
def yX7_forget : MethodName := ⟨RX7, "forget", "()I"⟩
abbrev cX7_lies : ByteArray := prog_1_method_24_code
def yX7_lies : MethodName := ⟨RX7, "lies", "()I"⟩
abbrev cX7_fits : ByteArray := prog_1_method_25_code
def yX7_fits : MethodName := ⟨RX7, "fits", "(II)I"⟩
abbrev cX7_seed : ByteArray := prog_1_method_26_code
def yX7_seed : MethodName := ⟨RX7, "seed", "(I)I"⟩
abbrev cX7_keep : ByteArray := prog_1_method_27_code
def yX7_keep : MethodName := ⟨RX7, "keep", "(I)I"⟩
abbrev cX7_goBack : ByteArray := prog_1_method_28_code
def yX7_goBack : MethodName := ⟨RX7, "goBack", "(I)I"⟩
abbrev cX7_imageAt : ByteArray := prog_1_method_29_code
def yX7_imageAt : MethodName := ⟨RX7, "imageAt", "(I)LFirstAwake$Course;"⟩
def RX8 : String := "FirstAwakeModel"
def TX8 : u_T := fun k => match k with
  | 0 => ("FirstAwakeModel", "houses", "I", false)
  | 1 => ("FirstAwakeModel", "days", "[I", true)
  | 2 => ("FirstAwakeModel", "worth", "[I", true)
  | 3 => ("FirstAwakeModel", "bed", "[I", true)
  | 4 => ("FirstAwakeModel", "sleepers", "I", false)
  | 5 => ("FirstAwakeModel", "homeOf", "[I", true)
  | 6 => ("FirstAwakeModel", "wakes", "[I", true)
  | 7 => ("FirstAwakeModel", "span", "[I", true)
  | 8 => ("FirstAwakeModel", "light", "[I", true)
  | 9 => ("FirstAwakeModel", "shifted", "[I", true)
  | 10 => ("FirstAwakeModel", "noiseAt", "I", false)
  | 11 => ("FirstAwakeModel", "noiseLoud", "I", false)
  | 12 => ("FirstAwakeModel", "noiseFrom", "I", false)
  | 13 => ("FirstAwakeModel", "law", "I", false)
  | 14 => ("FirstAwakeModel", "day", "I", false)
  | 15 => ("FirstAwakeModel", "onEnd", "[I", true)
  | 16 => ("FirstAwakeModel", "doneMany", "[I", true)
  | 17 => ("FirstAwakeModel", "had", "I", false)
  | 18 => ("FirstAwakeModel", "kept", "I", false)
  | 19 => ("FirstAwakeModel", "keptWho", "[I", true)
  | 20 => ("FirstAwakeModel", "keptWhen", "[I", true)
  | 21 => ("FirstAwakeModel", "seed", "I", false)
  | 22 => ("FirstAwakeModel", "text", "[I", true)
  | 23 => ("FirstAwakeModel", "texted", "I", false)
  | 24 => ("FirstAwakeModel", "faultPlace", "I", false)
  | 25 => ("FirstAwakeModel", "at0", "I", false)
  | 26 => ("FirstAwakeModel", "said", "J", false)
  | 27 => ("FirstAwakeModel", "wordEnd", "I", false)
  | 28 => ("FirstAwakeModel", "number", "I", false)
  | 29 => ("FirstAwakeModel", "numberAt", "I", false)
  | 30 => ("FirstAwakeModel", "readHouses", "I", false)
  | 31 => ("FirstAwakeModel", "readDays", "[I", true)
  | 32 => ("FirstAwakeModel", "readWorth", "[I", true)
  | 33 => ("FirstAwakeModel", "readBed", "[I", true)
  | 34 => ("FirstAwakeModel", "readSleepers", "I", false)
  | 35 => ("FirstAwakeModel", "readHome", "[I", true)
  | 36 => ("FirstAwakeModel", "readWakes", "[I", true)
  | 37 => ("FirstAwakeModel", "readSpan", "[I", true)
  | 38 => ("FirstAwakeModel", "readLight", "[I", true)
  | 39 => ("FirstAwakeModel", "minutes", "[I", true)
  | 40 => ("FirstAwakeModel", "wasShifted", "[I", true)
  | 41 => ("FirstAwakeModel", "bestOdds", "I", false)
  | 42 => ("FirstAwakeModel", "atFirst", "[I", true)
  | 43 => ("FirstAwakeModel", "parts", "[J", true)
  | 44 => ("FirstAwakeModel", "tolds", "I", false)
  | 45 => ("FirstAwakeModel", "toldWho", "[I", true)
  | 46 => ("FirstAwakeModel", "toldWhen", "[I", true)
  | 47 => ("FirstAwakeModel", "images", "[I", true)
  | _ => ("FirstAwakeModel", "isKept", "[Z", true)
def tyX8 : Nat → FieldType := fun k => match k with
  | 0 => .int
  | 1 => .array .int
  | 2 => .array .int
  | 3 => .array .int
  | 4 => .int
  | 5 => .array .int
  | 6 => .array .int
  | 7 => .array .int
  | 8 => .array .int
  | 9 => .array .int
  | 10 => .int
  | 11 => .int
  | 12 => .int
  | 13 => .int
  | 14 => .int
  | 15 => .array .int
  | 16 => .array .int
  | 17 => .int
  | 18 => .int
  | 19 => .array .int
  | 20 => .array .int
  | 21 => .int
  | 22 => .array .int
  | 23 => .int
  | 24 => .int
  | 25 => .int
  | 26 => .long
  | 27 => .int
  | 28 => .int
  | 29 => .int
  | 30 => .int
  | 31 => .array .int
  | 32 => .array .int
  | 33 => .array .int
  | 34 => .int
  | 35 => .array .int
  | 36 => .array .int
  | 37 => .array .int
  | 38 => .array .int
  | 39 => .array .int
  | 40 => .array .int
  | 41 => .int
  | 42 => .array .int
  | 43 => .array .long
  | 44 => .int
  | 45 => .array .int
  | 46 => .array .int
  | 47 => .array .int
  | _ => .array .boolean
abbrev wsX80 : List Cond := u_ws RX8 TX8 49
theorem nmX8 : ∀ a, a < 49 → ∀ b, b < 49 → a ≠ b → (TX8 a).2.1 ≠ (TX8 b).2.1 := by decide +kernel
theorem tyX8_ok : ∀ k, k < 49 → parseFieldDescriptor (TX8 k).2.2.1 = some (tyX8 k) := by decide +kernel
abbrev cX8_init : ByteArray := prog_10_method_1_code
def yX8_init : MethodName := ⟨RX8, "<init>", "()V"⟩
abbrev cX8_in : ByteArray := prog_10_method_3_code
def yX8_in : MethodName := ⟨RX8, "in", "(JJJ)Z"⟩
abbrev cX8_has : ByteArray := prog_10_method_4_code
def yX8_has : MethodName := ⟨RX8, "has", "(II)Z"⟩
abbrev cX8_isHouse : ByteArray := prog_10_method_5_code
def yX8_isHouse : MethodName := ⟨RX8, "isHouse", "(I)Z"⟩
abbrev cX8_isSleeper : ByteArray := prog_10_method_6_code
def yX8_isSleeper : MethodName := ⟨RX8, "isSleeper", "(I)Z"⟩
abbrev cX8_begin : ByteArray := prog_10_method_7_code
def yX8_begin : MethodName := ⟨RX8, "begin", "()V"⟩
abbrev cX8_feed : ByteArray := prog_10_method_8_code
def yX8_feed : MethodName := ⟨RX8, "feed", "(IJ)I"⟩
abbrev cX8_here : ByteArray := prog_10_method_9_code
def yX8_here : MethodName := ⟨RX8, "here", "()I"⟩
abbrev cX8_fails : ByteArray := prog_10_method_10_code
def yX8_fails : MethodName := ⟨RX8, "fails", "(II)I"⟩
abbrev cX8_readWord : ByteArray := prog_10_method_11_code
def yX8_readWord : MethodName := ⟨RX8, "readWord", "()V"⟩
abbrev cX8_code : ByteArray := prog_10_method_12_code
def yX8_code : MethodName := ⟨RX8, "code", "(III)J"⟩
abbrev cX8_longer : ByteArray := prog_10_method_13_code
def yX8_longer : MethodName := ⟨RX8, "longer", "(JII)J"⟩
abbrev cX8_takeNumber : ByteArray := prog_10_method_14_code
def yX8_takeNumber : MethodName := ⟨RX8, "takeNumber", "(II)I"⟩
abbrev cX8_into : ByteArray := prog_10_method_15_code
def yX8_into : MethodName := ⟨RX8, "into", "([IIII)I"⟩
abbrev cX8_takeHouse : ByteArray := prog_10_method_16_code
def yX8_takeHouse : MethodName := ⟨RX8, "takeHouse", "()I"⟩
abbrev cX8_takeSleeper : ByteArray := prog_10_method_17_code
def yX8_takeSleeper : MethodName := ⟨RX8, "takeSleeper", "()I"⟩
abbrev cX8_takeClause : ByteArray := prog_10_method_18_code
def yX8_takeClause : MethodName := ⟨RX8, "takeClause", "()I"⟩
abbrev cX8_valley : ByteArray := prog_10_method_19_code
def yX8_valley : MethodName := ⟨RX8, "valley", "()I"⟩
abbrev cX8_fault : ByteArray := prog_10_method_20_code
def yX8_fault : MethodName := ⟨RX8, "fault", "()I"⟩
abbrev cX8_told : ByteArray := prog_10_method_21_code
def yX8_told : MethodName := ⟨RX8, "told", "(I)I"⟩
abbrev cX8_sleepersOf : ByteArray := prog_10_method_22_code
def yX8_sleepersOf : MethodName := ⟨RX8, "sleepersOf", "(I)I"⟩
abbrev cX8_house : ByteArray := prog_10_method_23_code
def yX8_house : MethodName := ⟨RX8, "house", "(II)I"⟩
abbrev cX8_isStartled : ByteArray := prog_10_method_24_code
def yX8_isStartled : MethodName := ⟨RX8, "isStartled", "(I)Z"⟩
abbrev cX8_heard : ByteArray := prog_10_method_25_code
def yX8_heard : MethodName := ⟨RX8, "heard", "(II)I"⟩
abbrev cX8_firstOf : ByteArray := prog_10_method_26_code
def yX8_firstOf : MethodName := ⟨RX8, "firstOf", "(I)I"⟩
abbrev cX8_lastOf : ByteArray := prog_10_method_27_code
def yX8_lastOf : MethodName := ⟨RX8, "lastOf", "(I)I"⟩
abbrev cX8_sleeper : ByteArray := prog_10_method_28_code
def yX8_sleeper : MethodName := ⟨RX8, "sleeper", "(II)I"⟩
abbrev cX8_shift : ByteArray := prog_10_method_29_code
def yX8_shift : MethodName := ⟨RX8, "shift", "(II)I"⟩
abbrev cX8_setNoise : ByteArray := prog_10_method_30_code
def yX8_setNoise : MethodName := ⟨RX8, "setNoise", "(III)V"⟩
abbrev cX8_noise : ByteArray := prog_10_method_31_code
def yX8_noise : MethodName := ⟨RX8, "noise", "(III)I"⟩
abbrev cX8_hush : ByteArray := prog_10_method_32_code
def yX8_hush : MethodName := ⟨RX8, "hush", "()I"⟩
abbrev cX8_law : ByteArray := prog_10_method_33_code
def yX8_law : MethodName := ⟨RX8, "law", "(I)I"⟩
abbrev cX8_draw : ByteArray := prog_10_method_34_code
def yX8_draw : MethodName := ⟨RX8, "draw", "(I)I"⟩
abbrev cX8_dawnNow : ByteArray := prog_10_method_35_code
def yX8_dawnNow : MethodName := ⟨RX8, "dawnNow", "()I"⟩
abbrev cX8_dawn : ByteArray := prog_10_method_36_code
def yX8_dawn : MethodName := ⟨RX8, "dawn", "(I)I"⟩
abbrev cX8_ruler : ByteArray := prog_10_method_37_code
def yX8_ruler : MethodName := ⟨RX8, "ruler", "(II)I"⟩
abbrev cX8_laterRaw : ByteArray := prog_10_method_38_code
def yX8_laterRaw : MethodName := ⟨RX8, "laterRaw", "(II)I"⟩
abbrev cX8_later : ByteArray := prog_10_method_39_code
def yX8_later : MethodName := ⟨RX8, "later", "(II)I"⟩
abbrev cX8_lets : ByteArray := prog_10_method_40_code
def yX8_lets : MethodName := ⟨RX8, "lets", "(III)I"⟩
abbrev cX8_oddsOf : ByteArray := prog_10_method_41_code
def yX8_oddsOf : MethodName := ⟨RX8, "oddsOf", "(I)I"⟩
abbrev cX8_odds : ByteArray := prog_10_method_42_code
def yX8_odds : MethodName := ⟨RX8, "odds", "(I)I"⟩
abbrev cX8_oddsOfHouses : ByteArray := prog_10_method_43_code
def yX8_oddsOfHouses : MethodName := ⟨RX8, "oddsOfHouses", "(I)I"⟩
abbrev cX8_together : ByteArray := prog_10_method_44_code
def yX8_together : MethodName := ⟨RX8, "together", "(I)I"⟩
abbrev cX8_shiftHouse : ByteArray := prog_10_method_45_code
def yX8_shiftHouse : MethodName := ⟨RX8, "shiftHouse", "(II)V"⟩
abbrev cX8_bestShift : ByteArray := prog_10_method_46_code
def yX8_bestShift : MethodName := ⟨RX8, "bestShift", "(I)I"⟩
abbrev cX8_best : ByteArray := prog_10_method_47_code
def yX8_best : MethodName := ⟨RX8, "best", "(II)I"⟩
abbrev cX8_roundChanges : ByteArray := prog_10_method_48_code
def yX8_roundChanges : MethodName := ⟨RX8, "roundChanges", "()Z"⟩
abbrev cX8_leastOf : ByteArray := prog_10_method_49_code
def yX8_leastOf : MethodName := ⟨RX8, "leastOf", "(I)I"⟩
abbrev cX8_rests : ByteArray := prog_10_method_50_code
def yX8_rests : MethodName := ⟨RX8, "rests", "(I)I"⟩
abbrev cX8_loud : ByteArray := prog_10_method_51_code
def yX8_loud : MethodName := ⟨RX8, "loud", "(II)I"⟩
abbrev cX8_startWork : ByteArray := prog_10_method_52_code
def yX8_startWork : MethodName := ⟨RX8, "startWork", "(I)V"⟩
abbrev cX8_workDay : ByteArray := prog_10_method_53_code
def yX8_workDay : MethodName := ⟨RX8, "workDay", "(IJ)V"⟩
abbrev cX8_work : ByteArray := prog_10_method_54_code
def yX8_work : MethodName := ⟨RX8, "work", "(II)I"⟩
abbrev cX8_likely : ByteArray := prog_10_method_55_code
def yX8_likely : MethodName := ⟨RX8, "likely", "(II)I"⟩
abbrev cX8_tell : ByteArray := prog_10_method_56_code
def yX8_tell : MethodName := ⟨RX8, "tell", "(II)I"⟩
abbrev cX8_forget : ByteArray := prog_10_method_57_code
def yX8_forget : MethodName := ⟨RX8, "forget", "()I"⟩
abbrev cX8_isLie : ByteArray := prog_10_method_58_code
def yX8_isLie : MethodName := ⟨RX8, "isLie", "(I)Z"⟩
abbrev cX8_lies : ByteArray := prog_10_method_59_code
def yX8_lies : MethodName := ⟨RX8, "lies", "()I"⟩
abbrev cX8_isHonest : ByteArray := prog_10_method_60_code
def yX8_isHonest : MethodName := ⟨RX8, "isHonest", "(I)Z"⟩
abbrev cX8_fits : ByteArray := prog_10_method_61_code
def yX8_fits : MethodName := ⟨RX8, "fits", "(II)I"⟩
abbrev cX8_seed : ByteArray := prog_10_method_62_code
def yX8_seed : MethodName := ⟨RX8, "seed", "(I)I"⟩
abbrev cX8_keep : ByteArray := prog_10_method_63_code
def yX8_keep : MethodName := ⟨RX8, "keep", "(I)I"⟩
abbrev cX8_goBack : ByteArray := prog_10_method_64_code
def yX8_goBack : MethodName := ⟨RX8, "goBack", "(I)I"⟩
def RJx145de : String := "java/io/Serializable"
def TJx145de : u_T := fun k => match k with
  | _ => ("", "", "", false)
def tyJx145de : Nat → FieldType := fun k => match k with
  | _ => .int
abbrev wsJx145de0 : List Cond := u_ws RJx145de TJx145de 0
theorem nmJx145de : ∀ a, a < 0 → ∀ b, b < 0 → a ≠ b → (TJx145de a).2.1 ≠ (TJx145de b).2.1 := by decide +kernel
theorem tyJx145de_ok : ∀ k, k < 0 → parseFieldDescriptor (TJx145de k).2.2.1 = some (tyJx145de k) := by decide +kernel
def RJx9f9b0 : String := "java/lang/CharSequence"
def TJx9f9b0 : u_T := fun k => match k with
  | _ => ("", "", "", false)
def tyJx9f9b0 : Nat → FieldType := fun k => match k with
  | _ => .int
abbrev wsJx9f9b00 : List Cond := u_ws RJx9f9b0 TJx9f9b0 0
theorem nmJx9f9b0 : ∀ a, a < 0 → ∀ b, b < 0 → a ≠ b → (TJx9f9b0 a).2.1 ≠ (TJx9f9b0 b).2.1 := by decide +kernel
theorem tyJx9f9b0_ok : ∀ k, k < 0 → parseFieldDescriptor (TJx9f9b0 k).2.2.1 = some (tyJx9f9b0 k) := by decide +kernel
def RJxb160c : String := "java/lang/Comparable"
def TJxb160c : u_T := fun k => match k with
  | _ => ("", "", "", false)
def tyJxb160c : Nat → FieldType := fun k => match k with
  | _ => .int
abbrev wsJxb160c0 : List Cond := u_ws RJxb160c TJxb160c 0
theorem nmJxb160c : ∀ a, a < 0 → ∀ b, b < 0 → a ≠ b → (TJxb160c a).2.1 ≠ (TJxb160c b).2.1 := by decide +kernel
theorem tyJxb160c_ok : ∀ k, k < 0 → parseFieldDescriptor (TJxb160c k).2.2.1 = some (tyJxb160c k) := by decide +kernel
def RJ0 : String := "java/lang/String"
def TJ0 : u_T := fun k => match k with
  | _ => ("", "", "", false)
def tyJ0 : Nat → FieldType := fun k => match k with
  | _ => .int
abbrev wsJ00 : List Cond := u_ws RJ0 TJ0 0
theorem nmJ0 : ∀ a, a < 0 → ∀ b, b < 0 → a ≠ b → (TJ0 a).2.1 ≠ (TJ0 b).2.1 := by decide +kernel
theorem tyJ0_ok : ∀ k, k < 0 → parseFieldDescriptor (TJ0 k).2.2.1 = some (tyJ0 k) := by decide +kernel
abbrev cJ0_length_8abf5 : ByteArray := prog_11_method_54_code
def yJ0_length_8abf5 : MethodName := ⟨RJ0, "length", "()I"⟩
abbrev cJ0_charAt_5068e : ByteArray := prog_11_method_56_code
def yJ0_charAt_5068e : MethodName := ⟨RJ0, "charAt", "(I)C"⟩
abbrev cJ0_coder_7d493 : ByteArray := prog_11_method_152_code
def yJ0_coder_7d493 : MethodName := ⟨RJ0, "coder", "()B"⟩
abbrev cJ0_isLatin1_aae02 : ByteArray := prog_11_method_154_code
def yJ0_isLatin1_aae02 : MethodName := ⟨RJ0, "isLatin1", "()Z"⟩
abbrev cJ0_checkIndex_df160 : ByteArray := prog_11_method_155_code
def yJ0_checkIndex_df160 : MethodName := ⟨RJ0, "checkIndex", "(II)V"⟩
def RJ1 : String := "java/lang/StringLatin1"
def TJ1 : u_T := fun k => match k with
  | _ => ("", "", "", false)
def tyJ1 : Nat → FieldType := fun k => match k with
  | _ => .int
abbrev wsJ10 : List Cond := u_ws RJ1 TJ1 0
theorem nmJ1 : ∀ a, a < 0 → ∀ b, b < 0 → a ≠ b → (TJ1 a).2.1 ≠ (TJ1 b).2.1 := by decide +kernel
theorem tyJ1_ok : ∀ k, k < 0 → parseFieldDescriptor (TJ1 k).2.2.1 = some (tyJ1 k) := by decide +kernel
abbrev cJ1_charAt_3b067 : ByteArray := prog_12_method_2_code
def yJ1_charAt_3b067 : MethodName := ⟨RJ1, "charAt", "([BI)C"⟩
def RJ2 : String := "java/lang/StringUTF16"
def TJ2 : u_T := fun k => match k with
  | _ => ("", "", "", false)
def tyJ2 : Nat → FieldType := fun k => match k with
  | _ => .int
abbrev wsJ20 : List Cond := u_ws RJ2 TJ2 0
theorem nmJ2 : ∀ a, a < 0 → ∀ b, b < 0 → a ≠ b → (TJ2 a).2.1 ≠ (TJ2 b).2.1 := by decide +kernel
theorem tyJ2_ok : ∀ k, k < 0 → parseFieldDescriptor (TJ2 k).2.2.1 = some (tyJ2 k) := by decide +kernel
abbrev cJ2_getChar_3b067 : ByteArray := prog_13_method_5_code
def yJ2_getChar_3b067 : MethodName := ⟨RJ2, "getChar", "([BI)C"⟩
abbrev cJ2_length_9d52b : ByteArray := prog_13_method_6_code
def yJ2_length_9d52b : MethodName := ⟨RJ2, "length", "([B)I"⟩
abbrev cJ2_charAt_3b067 : ByteArray := prog_13_method_83_code
def yJ2_charAt_3b067 : MethodName := ⟨RJ2, "charAt", "([BI)C"⟩
abbrev cJ2_checkIndex_2214a : ByteArray := prog_13_method_91_code
def yJ2_checkIndex_2214a : MethodName := ⟨RJ2, "checkIndex", "(I[B)V"⟩
def RJ10 : String := "java/lang/System"
def TJ10 : u_T := fun k => match k with
  | _ => ("", "", "", false)
def tyJ10 : Nat → FieldType := fun k => match k with
  | _ => .int
abbrev wsJ100 : List Cond := u_ws RJ10 TJ10 0
theorem nmJ10 : ∀ a, a < 0 → ∀ b, b < 0 → a ≠ b → (TJ10 a).2.1 ≠ (TJ10 b).2.1 := by decide +kernel
theorem tyJ10_ok : ∀ k, k < 0 → parseFieldDescriptor (TJ10 k).2.2.1 = some (tyJ10 k) := by decide +kernel
def RJxfd54e : String := "java/lang/constant/Constable"
def TJxfd54e : u_T := fun k => match k with
  | _ => ("", "", "", false)
def tyJxfd54e : Nat → FieldType := fun k => match k with
  | _ => .int
abbrev wsJxfd54e0 : List Cond := u_ws RJxfd54e TJxfd54e 0
theorem nmJxfd54e : ∀ a, a < 0 → ∀ b, b < 0 → a ≠ b → (TJxfd54e a).2.1 ≠ (TJxfd54e b).2.1 := by decide +kernel
theorem tyJxfd54e_ok : ∀ k, k < 0 → parseFieldDescriptor (TJxfd54e k).2.2.1 = some (tyJxfd54e k) := by decide +kernel
def RJx3cf43 : String := "java/lang/constant/ConstantDesc"
def TJx3cf43 : u_T := fun k => match k with
  | _ => ("", "", "", false)
def tyJx3cf43 : Nat → FieldType := fun k => match k with
  | _ => .int
abbrev wsJx3cf430 : List Cond := u_ws RJx3cf43 TJx3cf43 0
theorem nmJx3cf43 : ∀ a, a < 0 → ∀ b, b < 0 → a ≠ b → (TJx3cf43 a).2.1 ≠ (TJx3cf43 b).2.1 := by decide +kernel
theorem tyJx3cf43_ok : ∀ k, k < 0 → parseFieldDescriptor (TJx3cf43 k).2.2.1 = some (tyJx3cf43 k) := by decide +kernel
def RJ7 : String := "java/util/Arrays"
def TJ7 : u_T := fun k => match k with
  | _ => ("", "", "", false)
def tyJ7 : Nat → FieldType := fun k => match k with
  | _ => .int
abbrev wsJ70 : List Cond := u_ws RJ7 TJ7 0
theorem nmJ7 : ∀ a, a < 0 → ∀ b, b < 0 → a ≠ b → (TJ7 a).2.1 ≠ (TJ7 b).2.1 := by decide +kernel
theorem tyJ7_ok : ∀ k, k < 0 → parseFieldDescriptor (TJ7 k).2.2.1 = some (tyJ7 k) := by decide +kernel
abbrev cJ7_fill_d0a16 : ByteArray := prog_15_method_101_code
def yJ7_fill_d0a16 : MethodName := ⟨RJ7, "fill", "([JJ)V"⟩
abbrev cJ7_fill_53178 : ByteArray := prog_15_method_103_code
def yJ7_fill_53178 : MethodName := ⟨RJ7, "fill", "([II)V"⟩
def RJ3 : String := "jdk/internal/util/Preconditions"
def TJ3 : u_T := fun k => match k with
  | _ => ("", "", "", false)
def tyJ3 : Nat → FieldType := fun k => match k with
  | _ => .int
abbrev wsJ30 : List Cond := u_ws RJ3 TJ3 0
theorem nmJ3 : ∀ a, a < 0 → ∀ b, b < 0 → a ≠ b → (TJ3 a).2.1 ≠ (TJ3 b).2.1 := by decide +kernel
theorem tyJ3_ok : ∀ k, k < 0 → parseFieldDescriptor (TJ3 k).2.2.1 = some (tyJ3 k) := by decide +kernel
abbrev cJ3_checkIndex_8e157 : ByteArray := prog_16_method_11_code
def yJ3_checkIndex_8e157 : MethodName := ⟨RJ3, "checkIndex", "(IILjava/util/function/BiFunction;)I"⟩
def RL : String := "FirstAwakeLaw"
abbrev cL_law : ByteArray := code
def yL_law : MethodName := ⟨RL, "law", "([I)Z"⟩
abbrev vwCl : List vw_C := [(RX0, TX0, 11), (RX1, TX1, 9), (RX2, TX2, 7), (RX3, TX3, 4), (RX4, TX4, 6), (RX5, TX5, 9), (RX6, TX6, 4), (RX7, TX7, 9), (RX8, TX8, 49)]
/-- the words that all methods share: the tables' own, as far as they hold at every state of a run -/
def wA : List Cond := lw_tbl.filter goodWord
theorem wA_good : ∀ w ∈ wA, goodWord w = true := fun w h => (List.mem_filter.mp h).2
theorem wA_in : ∀ w ∈ wA, w ∈ lw_tbl := fun w h => (List.mem_filter.mp h).1
theorem wm {w : Cond} (h : w ∈ lw_tbl) (g : goodWord w = true) : w ∈ wA := List.mem_filter.mpr ⟨h, g⟩
theorem tq1 {w : Cond} {i : Nat} (h : tables_1_1[i]? = some w) : w ∈ lw_tbl := List.mem_append_right _ (List.mem_append_left _ (List.mem_of_getElem? h))
theorem tq2 {w : Cond} {i : Nat} (h : tables_1_2[i]? = some w) : w ∈ lw_tbl := List.mem_append_right _ (List.mem_append_right _ (List.mem_append_left _ (List.mem_of_getElem? h)))
theorem tq3 {w : Cond} {i : Nat} (h : tables_1_3[i]? = some w) : w ∈ lw_tbl := List.mem_append_right _ (List.mem_append_right _ (List.mem_append_right _ (List.mem_append_left _ (List.mem_of_getElem? h))))
theorem tq4 {w : Cond} {i : Nat} (h : tables_1_4[i]? = some w) : w ∈ lw_tbl := List.mem_append_right _ (List.mem_append_right _ (List.mem_append_right _ (List.mem_append_right _ (List.mem_append_left _ (List.mem_of_getElem? h)))))
theorem tq5 {w : Cond} {i : Nat} (h : tables_1_5[i]? = some w) : w ∈ lw_tbl := List.mem_append_right _ (List.mem_append_right _ (List.mem_append_right _ (List.mem_append_right _ (List.mem_append_right _ (List.mem_of_getElem? h)))))
theorem tqp {y : MethodName} {i n : Nat} (h : lw_privs[i]? = some (y, n)) : Cond.selects y.cls y y ∈ lw_tbl := List.mem_append_left _ (List.mem_map.mpr ⟨(y, n), List.mem_of_getElem? h, rfl⟩)
theorem q0 : Cond.classLink RL 7 RX7 ∈ wA := wm (tq1 (i := 16) rfl) rfl
theorem q1 : Cond.instantiable RX7 9 ∈ wA := wm (tq1 (i := 17) rfl) rfl
theorem q2 : Cond.initialized RX7 ∈ wA := wm (tq1 (i := 1) rfl) rfl
theorem q3 : Cond.classLink RL 10 RX8 ∈ wA := wm (tq3 (i := 234) rfl) rfl
theorem q4 : Cond.instantiable RX8 49 ∈ wA := wm (tq3 (i := 235) rfl) rfl
theorem q5 : Cond.initialized RX8 ∈ wA := wm (tq1 (i := 9) rfl) rfl
theorem q6 : Cond.constantLong RL 13 (4294967295) ∈ wA := wm (tq5 (i := 179) rfl) rfl
theorem q7 : Cond.methodLink RL 9 yX7_init ∈ wA := wm (tq1 (i := 18) rfl) rfl
theorem q8 : Cond.instanceMethod yX7_init ∈ wA := wm (tq1 (i := 19) rfl) rfl
theorem q9 : Cond.code yX7_init cX7_init 1 none ∈ wA := wm (tq1 (i := 20) rfl) rfl
theorem q10 : Cond.methodLink RX7 1 objectInit ∈ wA := wm (tq1 (i := 21) rfl) rfl
theorem q11 : Cond.instanceMethod objectInit ∈ wA := wm (tq1 (i := 22) rfl) rfl
theorem q12 : Cond.code objectInit ⟨#[0xb1]⟩ 1 none ∈ wA := wm (tq1 (i := 23) rfl) rfl
theorem q13 : Cond.classLink RX7 7 RX4 ∈ wA := wm (tq1 (i := 24) rfl) rfl
theorem q14 : Cond.instantiable RX4 6 ∈ wA := wm (tq1 (i := 25) rfl) rfl
theorem q15 : Cond.initialized RX4 ∈ wA := wm (tq1 (i := 2) rfl) rfl
theorem q16 : Cond.fieldLink RX7 10 "FirstAwake" "reader" "LFirstAwake$Reader;" ∈ wA := wm (tq2 (i := 50) rfl) rfl
theorem q17 : Cond.classLink RX7 16 RX5 ∈ wA := wm (tq1 (i := 121) rfl) rfl
theorem q18 : Cond.instantiable RX5 9 ∈ wA := wm (tq1 (i := 31) rfl) rfl
theorem q19 : Cond.initialized RX5 ∈ wA := wm (tq1 (i := 3) rfl) rfl
theorem q20 : Cond.fieldLink RX7 19 "FirstAwake" "valley" "LFirstAwake$Valley;" ∈ wA := wm (tq2 (i := 51) rfl) rfl
theorem q21 : Cond.classLink RX7 23 RX0 ∈ wA := wm (tq1 (i := 123) rfl) rfl
theorem q22 : Cond.instantiable RX0 11 ∈ wA := wm (tq1 (i := 124) rfl) rfl
theorem q23 : Cond.initialized RX0 ∈ wA := wm (tq1 (i := 4) rfl) rfl
theorem q24 : Cond.fieldLink RX7 28 "FirstAwake" "now" "LFirstAwake$Course;" ∈ wA := wm (tq2 (i := 52) rfl) rfl
theorem q25 : Cond.fieldLink RX7 32 "FirstAwake" "firstImage" "LFirstAwake$Course;" ∈ wA := wm (tq2 (i := 53) rfl) rfl
theorem q26 : Cond.fieldLink RX7 35 "FirstAwake" "secondImage" "LFirstAwake$Course;" ∈ wA := wm (tq2 (i := 54) rfl) rfl
theorem q27 : Cond.classLink RX7 38 RX6 ∈ wA := wm (tq1 (i := 214) rfl) rfl
theorem q28 : Cond.instantiable RX6 4 ∈ wA := wm (tq1 (i := 215) rfl) rfl
theorem q29 : Cond.initialized RX6 ∈ wA := wm (tq1 (i := 6) rfl) rfl
theorem q30 : Cond.fieldLink RX7 41 "FirstAwake" "words" "LFirstAwake$Words;" ∈ wA := wm (tq2 (i := 56) rfl) rfl
theorem q31 : Cond.classLink RX7 45 RX2 ∈ wA := wm (tq1 (i := 236) rfl) rfl
theorem q32 : Cond.instantiable RX2 7 ∈ wA := wm (tq1 (i := 237) rfl) rfl
theorem q33 : Cond.initialized RX2 ∈ wA := wm (tq1 (i := 7) rfl) rfl
theorem q34 : Cond.fieldLink RX7 48 "FirstAwake" "planner" "LFirstAwake$Planner;" ∈ wA := wm (tq2 (i := 57) rfl) rfl
theorem q35 : Cond.classLink RX7 52 RX3 ∈ wA := wm (tq2 (i := 29) rfl) rfl
theorem q36 : Cond.instantiable RX3 4 ∈ wA := wm (tq2 (i := 30) rfl) rfl
theorem q37 : Cond.initialized RX3 ∈ wA := wm (tq1 (i := 8) rfl) rfl
theorem q38 : Cond.fieldLink RX7 55 "FirstAwake" "prospect" "LFirstAwake$Prospect;" ∈ wA := wm (tq2 (i := 58) rfl) rfl
theorem q39 : Cond.methodLink RX7 9 yX4_init ∈ wA := wm (tq1 (i := 26) rfl) rfl
theorem q40 : Cond.instanceMethod yX4_init ∈ wA := wm (tq1 (i := 27) rfl) rfl
theorem q41 : Cond.code yX4_init cX4_init 1 none ∈ wA := wm (tq1 (i := 28) rfl) rfl
theorem q42 : Cond.methodLink RX4 3 objectInit ∈ wA := wm (tq1 (i := 29) rfl) rfl
theorem q43 : Cond.arrayClass .byte ∈ wA := wm (tq1 (i := 97) rfl) rfl
theorem q44 : Cond.fieldLink RX4 9 "FirstAwake$Reader" "text" "[B" ∈ wA := wm (tq1 (i := 99) rfl) rfl
theorem q45 : Cond.classLink RX4 15 RX5 ∈ wA := wm (tq1 (i := 30) rfl) rfl
theorem q46 : Cond.fieldLink RX4 18 "FirstAwake$Reader" "draft" "LFirstAwake$Valley;" ∈ wA := wm (tq1 (i := 102) rfl) rfl
theorem q47 : Cond.fieldLink RX4 22 "FirstAwake$Reader" "faultByte" "I" ∈ wA := wm (tq1 (i := 106) rfl) rfl
theorem q48 : Cond.methodLink RX4 17 yX5_init ∈ wA := wm (tq1 (i := 32) rfl) rfl
theorem q49 : Cond.instanceMethod yX5_init ∈ wA := wm (tq1 (i := 33) rfl) rfl
theorem q50 : Cond.code yX5_init cX5_init 1 none ∈ wA := wm (tq1 (i := 34) rfl) rfl
theorem q51 : Cond.methodLink RX5 3 objectInit ∈ wA := wm (tq1 (i := 35) rfl) rfl
theorem q52 : Cond.arrayClass .int ∈ wA := wm (tq1 (i := 98) rfl) rfl
theorem q53 : Cond.fieldLink RX5 9 "FirstAwake$Valley" "need" "[I" ∈ wA := wm (tq1 (i := 40) rfl) rfl
theorem q54 : Cond.fieldLink RX5 15 "FirstAwake$Valley" "worth" "[I" ∈ wA := wm (tq1 (i := 44) rfl) rfl
theorem q55 : Cond.fieldLink RX5 18 "FirstAwake$Valley" "bed" "[I" ∈ wA := wm (tq1 (i := 49) rfl) rfl
theorem q56 : Cond.fieldLink RX5 21 "FirstAwake$Valley" "home" "[I" ∈ wA := wm (tq1 (i := 59) rfl) rfl
theorem q57 : Cond.fieldLink RX5 24 "FirstAwake$Valley" "wake" "[I" ∈ wA := wm (tq1 (i := 65) rfl) rfl
theorem q58 : Cond.fieldLink RX5 27 "FirstAwake$Valley" "span" "[I" ∈ wA := wm (tq1 (i := 69) rfl) rfl
theorem q59 : Cond.fieldLink RX5 30 "FirstAwake$Valley" "light" "[I" ∈ wA := wm (tq1 (i := 74) rfl) rfl
theorem q60 : Cond.methodLink RX7 18 yX5_init ∈ wA := wm (tq1 (i := 122) rfl) rfl
theorem q61 : Cond.methodLink RX7 25 yX0_init ∈ wA := wm (tq1 (i := 125) rfl) rfl
theorem q62 : Cond.instanceMethod yX0_init ∈ wA := wm (tq1 (i := 126) rfl) rfl
theorem q63 : Cond.code yX0_init cX0_init 2 none ∈ wA := wm (tq1 (i := 127) rfl) rfl
theorem q64 : Cond.methodLink RX0 3 objectInit ∈ wA := wm (tq1 (i := 128) rfl) rfl
theorem q65 : Cond.fieldLink RX0 9 "FirstAwake$Course" "valley" "LFirstAwake$Valley;" ∈ wA := wm (tq1 (i := 171) rfl) rfl
theorem q66 : Cond.classLink RX0 15 RX1 ∈ wA := wm (tq1 (i := 129) rfl) rfl
theorem q67 : Cond.instantiable RX1 9 ∈ wA := wm (tq1 (i := 130) rfl) rfl
theorem q68 : Cond.initialized RX1 ∈ wA := wm (tq1 (i := 5) rfl) rfl
theorem q69 : Cond.fieldLink RX0 20 "FirstAwake$Course" "night" "LFirstAwake$Night;" ∈ wA := wm (tq1 (i := 172) rfl) rfl
theorem q70 : Cond.fieldLink RX0 24 "FirstAwake$Course" "onEnd" "[I" ∈ wA := wm (tq1 (i := 176) rfl) rfl
theorem q71 : Cond.fieldLink RX0 28 "FirstAwake$Course" "done" "[I" ∈ wA := wm (tq1 (i := 178) rfl) rfl
theorem q72 : Cond.fieldLink RX0 31 "FirstAwake$Course" "rulers" "[I" ∈ wA := wm (tq1 (i := 184) rfl) rfl
theorem q73 : Cond.fieldLink RX0 34 "FirstAwake$Course" "minutes" "[I" ∈ wA := wm (tq1 (i := 186) rfl) rfl
theorem q74 : Cond.fieldLink RX0 37 "FirstAwake$Course" "awake" "[I" ∈ wA := wm (tq1 (i := 190) rfl) rfl
theorem q75 : Cond.methodLink RX0 17 yX1_init ∈ wA := wm (tq1 (i := 131) rfl) rfl
theorem q76 : Cond.instanceMethod yX1_init ∈ wA := wm (tq1 (i := 132) rfl) rfl
theorem q77 : Cond.code yX1_init cX1_init 2 none ∈ wA := wm (tq1 (i := 133) rfl) rfl
theorem q78 : Cond.methodLink RX1 3 objectInit ∈ wA := wm (tq1 (i := 134) rfl) rfl
theorem q79 : Cond.fieldLink RX1 9 "FirstAwake$Night" "valley" "LFirstAwake$Valley;" ∈ wA := wm (tq1 (i := 135) rfl) rfl
theorem q80 : Cond.fieldLink RX1 15 "FirstAwake$Night" "shifted" "[I" ∈ wA := wm (tq1 (i := 136) rfl) rfl
theorem q81 : Cond.fieldLink RX1 19 "FirstAwake$Night" "noiseHouse" "I" ∈ wA := wm (tq1 (i := 140) rfl) rfl
theorem q82 : Cond.fieldLink RX1 23 "FirstAwake$Night" "noiseMinute" "I" ∈ wA := wm (tq1 (i := 142) rfl) rfl
theorem q83 : Cond.fieldLink RX1 26 "FirstAwake$Night" "loudness" "I" ∈ wA := wm (tq1 (i := 144) rfl) rfl
theorem q84 : Cond.fieldLink RX1 29 "FirstAwake$Night" "first" "[I" ∈ wA := wm (tq1 (i := 149) rfl) rfl
theorem q85 : Cond.fieldLink RX1 32 "FirstAwake$Night" "last" "[I" ∈ wA := wm (tq1 (i := 150) rfl) rfl
theorem q86 : Cond.fieldLink RX1 35 "FirstAwake$Night" "roof" "[I" ∈ wA := wm (tq1 (i := 151) rfl) rfl
theorem q87 : Cond.methodLink RX7 40 yX6_init ∈ wA := wm (tq1 (i := 216) rfl) rfl
theorem q88 : Cond.instanceMethod yX6_init ∈ wA := wm (tq1 (i := 217) rfl) rfl
theorem q89 : Cond.code yX6_init cX6_init 2 none ∈ wA := wm (tq1 (i := 218) rfl) rfl
theorem q90 : Cond.methodLink RX6 3 objectInit ∈ wA := wm (tq1 (i := 219) rfl) rfl
theorem q91 : Cond.fieldLink RX6 9 "FirstAwake$Words" "who" "[I" ∈ wA := wm (tq1 (i := 224) rfl) rfl
theorem q92 : Cond.fieldLink RX6 15 "FirstAwake$Words" "minutes" "[I" ∈ wA := wm (tq1 (i := 225) rfl) rfl
theorem q93 : Cond.classLink RX6 18 RX1 ∈ wA := wm (tq1 (i := 220) rfl) rfl
theorem q94 : Cond.fieldLink RX6 23 "FirstAwake$Words" "trial" "LFirstAwake$Night;" ∈ wA := wm (tq1 (i := 226) rfl) rfl
theorem q95 : Cond.methodLink RX6 20 yX1_init ∈ wA := wm (tq1 (i := 221) rfl) rfl
theorem q96 : Cond.methodLink RX7 47 yX2_init ∈ wA := wm (tq1 (i := 238) rfl) rfl
theorem q97 : Cond.instanceMethod yX2_init ∈ wA := wm (tq1 (i := 239) rfl) rfl
theorem q98 : Cond.code yX2_init cX2_init 2 none ∈ wA := wm (tq2 (i := 0) rfl) rfl
theorem q99 : Cond.methodLink RX2 3 objectInit ∈ wA := wm (tq2 (i := 1) rfl) rfl
theorem q100 : Cond.fieldLink RX2 9 "FirstAwake$Planner" "valley" "LFirstAwake$Valley;" ∈ wA := wm (tq2 (i := 4) rfl) rfl
theorem q101 : Cond.classLink RX2 15 RX1 ∈ wA := wm (tq2 (i := 2) rfl) rfl
theorem q102 : Cond.fieldLink RX2 20 "FirstAwake$Planner" "plan" "LFirstAwake$Night;" ∈ wA := wm (tq2 (i := 5) rfl) rfl
theorem q103 : Cond.fieldLink RX2 24 "FirstAwake$Planner" "trial" "LFirstAwake$Night;" ∈ wA := wm (tq2 (i := 6) rfl) rfl
theorem q104 : Cond.fieldLink RX2 27 "FirstAwake$Planner" "codes" "[I" ∈ wA := wm (tq2 (i := 7) rfl) rfl
theorem q105 : Cond.methodLink RX2 17 yX1_init ∈ wA := wm (tq2 (i := 3) rfl) rfl
theorem q106 : Cond.methodLink RX7 54 yX3_init ∈ wA := wm (tq2 (i := 31) rfl) rfl
theorem q107 : Cond.instanceMethod yX3_init ∈ wA := wm (tq2 (i := 32) rfl) rfl
theorem q108 : Cond.code yX3_init cX3_init 1 none ∈ wA := wm (tq2 (i := 33) rfl) rfl
theorem q109 : Cond.methodLink RX3 3 objectInit ∈ wA := wm (tq2 (i := 34) rfl) rfl
theorem q110 : Cond.arrayClass .long ∈ wA := wm (tq2 (i := 49) rfl) rfl
theorem q111 : Cond.fieldLink RX3 9 "FirstAwake$Prospect" "parts" "[J" ∈ wA := wm (tq2 (i := 35) rfl) rfl
theorem q112 : Cond.methodLink RL 12 yX8_init ∈ wA := wm (tq3 (i := 236) rfl) rfl
theorem q113 : Cond.instanceMethod yX8_init ∈ wA := wm (tq3 (i := 237) rfl) rfl
theorem q114 : Cond.code yX8_init cX8_init 1 none ∈ wA := wm (tq3 (i := 238) rfl) rfl
theorem q115 : Cond.methodLink RX8 1 objectInit ∈ wA := wm (tq3 (i := 239) rfl) rfl
theorem q116 : Cond.fieldLink RX8 7 "FirstAwakeModel" "days" "[I" ∈ wA := wm (tq4 (i := 1) rfl) rfl
theorem q117 : Cond.fieldLink RX8 13 "FirstAwakeModel" "worth" "[I" ∈ wA := wm (tq4 (i := 2) rfl) rfl
theorem q118 : Cond.fieldLink RX8 16 "FirstAwakeModel" "bed" "[I" ∈ wA := wm (tq4 (i := 3) rfl) rfl
theorem q119 : Cond.fieldLink RX8 19 "FirstAwakeModel" "homeOf" "[I" ∈ wA := wm (tq4 (i := 5) rfl) rfl
theorem q120 : Cond.fieldLink RX8 22 "FirstAwakeModel" "wakes" "[I" ∈ wA := wm (tq4 (i := 6) rfl) rfl
theorem q121 : Cond.fieldLink RX8 25 "FirstAwakeModel" "span" "[I" ∈ wA := wm (tq4 (i := 7) rfl) rfl
theorem q122 : Cond.fieldLink RX8 28 "FirstAwakeModel" "light" "[I" ∈ wA := wm (tq4 (i := 8) rfl) rfl
theorem q123 : Cond.fieldLink RX8 31 "FirstAwakeModel" "shifted" "[I" ∈ wA := wm (tq4 (i := 9) rfl) rfl
theorem q124 : Cond.fieldLink RX8 34 "FirstAwakeModel" "noiseAt" "I" ∈ wA := wm (tq4 (i := 10) rfl) rfl
theorem q125 : Cond.fieldLink RX8 38 "FirstAwakeModel" "noiseLoud" "I" ∈ wA := wm (tq4 (i := 11) rfl) rfl
theorem q126 : Cond.fieldLink RX8 41 "FirstAwakeModel" "noiseFrom" "I" ∈ wA := wm (tq4 (i := 12) rfl) rfl
theorem q127 : Cond.fieldLink RX8 44 "FirstAwakeModel" "onEnd" "[I" ∈ wA := wm (tq4 (i := 15) rfl) rfl
theorem q128 : Cond.fieldLink RX8 47 "FirstAwakeModel" "doneMany" "[I" ∈ wA := wm (tq4 (i := 16) rfl) rfl
theorem q129 : Cond.fieldLink RX8 50 "FirstAwakeModel" "keptWho" "[I" ∈ wA := wm (tq4 (i := 19) rfl) rfl
theorem q130 : Cond.fieldLink RX8 53 "FirstAwakeModel" "keptWhen" "[I" ∈ wA := wm (tq4 (i := 20) rfl) rfl
theorem q131 : Cond.fieldLink RX8 56 "FirstAwakeModel" "text" "[I" ∈ wA := wm (tq4 (i := 22) rfl) rfl
theorem q132 : Cond.fieldLink RX8 59 "FirstAwakeModel" "faultPlace" "I" ∈ wA := wm (tq4 (i := 24) rfl) rfl
theorem q133 : Cond.fieldLink RX8 62 "FirstAwakeModel" "readDays" "[I" ∈ wA := wm (tq4 (i := 31) rfl) rfl
theorem q134 : Cond.fieldLink RX8 65 "FirstAwakeModel" "readWorth" "[I" ∈ wA := wm (tq4 (i := 32) rfl) rfl
theorem q135 : Cond.fieldLink RX8 68 "FirstAwakeModel" "readBed" "[I" ∈ wA := wm (tq4 (i := 33) rfl) rfl
theorem q136 : Cond.fieldLink RX8 71 "FirstAwakeModel" "readHome" "[I" ∈ wA := wm (tq4 (i := 35) rfl) rfl
theorem q137 : Cond.fieldLink RX8 74 "FirstAwakeModel" "readWakes" "[I" ∈ wA := wm (tq4 (i := 36) rfl) rfl
theorem q138 : Cond.fieldLink RX8 77 "FirstAwakeModel" "readSpan" "[I" ∈ wA := wm (tq4 (i := 37) rfl) rfl
theorem q139 : Cond.fieldLink RX8 80 "FirstAwakeModel" "readLight" "[I" ∈ wA := wm (tq4 (i := 38) rfl) rfl
theorem q140 : Cond.fieldLink RX8 83 "FirstAwakeModel" "minutes" "[I" ∈ wA := wm (tq4 (i := 39) rfl) rfl
theorem q141 : Cond.fieldLink RX8 86 "FirstAwakeModel" "wasShifted" "[I" ∈ wA := wm (tq4 (i := 40) rfl) rfl
theorem q142 : Cond.fieldLink RX8 89 "FirstAwakeModel" "atFirst" "[I" ∈ wA := wm (tq4 (i := 42) rfl) rfl
theorem q143 : Cond.fieldLink RX8 92 "FirstAwakeModel" "parts" "[J" ∈ wA := wm (tq4 (i := 43) rfl) rfl
theorem q144 : Cond.fieldLink RX8 96 "FirstAwakeModel" "toldWho" "[I" ∈ wA := wm (tq4 (i := 45) rfl) rfl
theorem q145 : Cond.fieldLink RX8 99 "FirstAwakeModel" "toldWhen" "[I" ∈ wA := wm (tq4 (i := 46) rfl) rfl
theorem q146 : Cond.fieldLink RX8 102 "FirstAwakeModel" "images" "[I" ∈ wA := wm (tq4 (i := 47) rfl) rfl
theorem q147 : Cond.arrayClass .boolean ∈ wA := wm (tq4 (i := 148) rfl) rfl
theorem q148 : Cond.fieldLink RX8 105 "FirstAwakeModel" "isKept" "[Z" ∈ wA := wm (tq4 (i := 48) rfl) rfl
theorem q149 : Cond.fieldLink RX8 109 "FirstAwakeModel" "houses" "I" ∈ wA := wm (tq4 (i := 0) rfl) rfl
theorem q150 : Cond.methodLink RL 15 yX7_feed ∈ wA := wm (tq2 (i := 78) rfl) rfl
theorem q151 : Cond.instanceMethod yX7_feed ∈ wA := wm (tq2 (i := 79) rfl) rfl
theorem q152 : Cond.selects RX7 yX7_feed yX7_feed ∈ wA := wm (tq2 (i := 80) rfl) rfl
theorem q153 : Cond.code yX7_feed cX7_feed 4 (some .int) ∈ wA := wm (tq2 (i := 81) rfl) rfl
theorem q154 : Cond.constant RX7 59 (-1000000002) ∈ wA := wm (tq2 (i := 82) rfl) rfl
theorem q155 : Cond.fieldLink RX7 64 "FirstAwake$Reader" "length" "I" ∈ wA := wm (tq1 (i := 101) rfl) rfl
theorem q156 : Cond.constant RX7 68 (-1000000004) ∈ wA := wm (tq2 (i := 87) rfl) rfl
theorem q157 : Cond.methodLink RX7 60 yX4_append ∈ wA := wm (tq2 (i := 83) rfl) rfl
theorem q158 : Cond.instanceMethod yX4_append ∈ wA := wm (tq2 (i := 84) rfl) rfl
theorem q159 : Cond.selects RX4 yX4_append yX4_append ∈ wA := wm (tq2 (i := 85) rfl) rfl
theorem q160 : Cond.code yX4_append cX4_append 5 (some .boolean) ∈ wA := wm (tq2 (i := 86) rfl) rfl
theorem q161 : Cond.fieldLink RX4 26 "FirstAwake$Reader" "length" "I" ∈ wA := wm (tq1 (i := 100) rfl) rfl
theorem q162 : Cond.methodLink RL 19 yX8_feed ∈ wA := wm (tq4 (i := 149) rfl) rfl
theorem q163 : Cond.instanceMethod yX8_feed ∈ wA := wm (tq4 (i := 150) rfl) rfl
theorem q164 : Cond.selects RX8 yX8_feed yX8_feed ∈ wA := wm (tq4 (i := 151) rfl) rfl
theorem q165 : Cond.code yX8_feed cX8_feed 5 (some .int) ∈ wA := wm (tq4 (i := 152) rfl) rfl
theorem q166 : Cond.constantLong RX8 131 (8) ∈ wA := wm (tq4 (i := 153) rfl) rfl
theorem q167 : Cond.constant RX8 133 (-1000000002) ∈ wA := wm (tq4 (i := 157) rfl) rfl
theorem q168 : Cond.fieldLink RX8 134 "FirstAwakeModel" "texted" "I" ∈ wA := wm (tq4 (i := 23) rfl) rfl
theorem q169 : Cond.constant RX8 137 (-1000000004) ∈ wA := wm (tq4 (i := 158) rfl) rfl
theorem q170 : Cond.constantLong RX8 138 (255) ∈ wA := wm (tq4 (i := 159) rfl) rfl
theorem q171 : Cond.methodLink RX8 112 yX8_in ∈ wA := wm (tq4 (i := 154) rfl) rfl
theorem q172 : Cond.static yX8_in ∈ wA := wm (tq4 (i := 155) rfl) rfl
theorem q173 : Cond.code yX8_in cX8_in 6 (some .boolean) ∈ wA := wm (tq4 (i := 156) rfl) rfl
theorem q174 : Cond.methodLink RL 20 yX7_valley ∈ wA := wm (tq2 (i := 88) rfl) rfl
theorem q175 : Cond.instanceMethod yX7_valley ∈ wA := wm (tq2 (i := 89) rfl) rfl
theorem q176 : Cond.selects RX7 yX7_valley yX7_valley ∈ wA := wm (tq2 (i := 90) rfl) rfl
theorem q177 : Cond.code yX7_valley cX7_valley 2 (some .int) ∈ wA := wm (tq2 (i := 91) rfl) rfl
theorem q178 : Cond.fieldLink RX7 73 "FirstAwake$Reader" "draft" "LFirstAwake$Valley;" ∈ wA := wm (tq1 (i := 103) rfl) rfl
theorem q179 : Cond.fieldLink RX7 82 "FirstAwake$Words" "count" "I" ∈ wA := wm (tq1 (i := 223) rfl) rfl
theorem q180 : Cond.fieldLink RX7 85 "FirstAwake" "imagesKept" "I" ∈ wA := wm (tq2 (i := 55) rfl) rfl
theorem q181 : Cond.fieldLink RX7 88 "FirstAwake$Valley" "sleepers" "I" ∈ wA := wm (tq1 (i := 55) rfl) rfl
theorem q182 : Cond.methodLink RX7 69 yX4_readAll ∈ wA := wm (tq2 (i := 92) rfl) rfl
theorem q183 : Cond.instanceMethod yX4_readAll ∈ wA := wm (tq2 (i := 93) rfl) rfl
theorem q184 : Cond.selects RX4 yX4_readAll yX4_readAll ∈ wA := wm (tq2 (i := 94) rfl) rfl
theorem q185 : Cond.code yX4_readAll cX4_readAll 2 (some .int) ∈ wA := wm (tq2 (i := 95) rfl) rfl
theorem q186 : Cond.fieldLink RX4 29 "FirstAwake$Valley" "houses" "I" ∈ wA := wm (tq1 (i := 37) rfl) rfl
theorem q187 : Cond.fieldLink RX4 32 "FirstAwake$Valley" "sleepers" "I" ∈ wA := wm (tq1 (i := 54) rfl) rfl
theorem q188 : Cond.fieldLink RX4 35 "FirstAwake$Reader" "at" "I" ∈ wA := wm (tq1 (i := 104) rfl) rfl
theorem q189 : Cond.fieldLink RX4 38 "FirstAwake$Reader" "faultNumber" "I" ∈ wA := wm (tq1 (i := 105) rfl) rfl
theorem q190 : Cond.methodLink RX4 41 yX4_skipBlanks ∈ wA := wm (tq2 (i := 96) rfl) rfl
theorem q191 : Cond.instanceMethod yX4_skipBlanks ∈ wA := wm (tq2 (i := 98) rfl) rfl
theorem q192 : Cond.selects RX4 yX4_skipBlanks yX4_skipBlanks ∈ wA := wm (tqp (i := 0) rfl) rfl
theorem q193 : Cond.code yX4_skipBlanks cX4_skipBlanks 1 none ∈ wA := wm (tq2 (i := 99) rfl) rfl
theorem q194 : Cond.methodLink RX4 44 yX4_readClause ∈ wA := wm (tq2 (i := 100) rfl) rfl
theorem q195 : Cond.instanceMethod yX4_readClause ∈ wA := wm (tq2 (i := 102) rfl) rfl
theorem q196 : Cond.selects RX4 yX4_readClause yX4_readClause ∈ wA := wm (tqp (i := 1) rfl) rfl
theorem q197 : Cond.code yX4_readClause cX4_readClause 2 none ∈ wA := wm (tq2 (i := 103) rfl) rfl
theorem q198 : Cond.methodLink RX4 49 yX4_isWord ∈ wA := wm (tq2 (i := 105) rfl) rfl
theorem q199 : Cond.instanceMethod yX4_isWord ∈ wA := wm (tq2 (i := 107) rfl) rfl
theorem q200 : Cond.selects RX4 yX4_isWord yX4_isWord ∈ wA := wm (tqp (i := 2) rfl) rfl
theorem q201 : Cond.code yX4_isWord cX4_isWord 4 (some .boolean) ∈ wA := wm (tq2 (i := 108) rfl) rfl
theorem q202 : Cond.methodLink RX4 66 yJ0_length_8abf5 ∈ wA := wm (tq2 (i := 109) rfl) rfl
theorem q203 : Cond.instanceMethod yJ0_length_8abf5 ∈ wA := wm (tq2 (i := 110) rfl) rfl
theorem q204 : Cond.selects RJ0 yJ0_length_8abf5 yJ0_length_8abf5 ∈ wA := wm (tq2 (i := 111) rfl) rfl
theorem q205 : Cond.initialized RJ0 ∈ wA := wm (tq1 (i := 10) rfl) rfl
theorem q206 : Cond.code yJ0_length_8abf5 cJ0_length_8abf5 1 (some .int) ∈ wA := wm (tq2 (i := 112) rfl) rfl
theorem q207 : Cond.fieldLink RJ0 9 "java/lang/String" "value" "[B" ∈ wA := wm (tq5 (i := 180) rfl) rfl
theorem q208 : Cond.methodLink RJ0 335 yJ0_coder_7d493 ∈ wA := wm (tq2 (i := 113) rfl) rfl
theorem q209 : Cond.instanceMethod yJ0_coder_7d493 ∈ wA := wm (tq2 (i := 114) rfl) rfl
theorem q210 : Cond.selects RJ0 yJ0_coder_7d493 yJ0_coder_7d493 ∈ wA := wm (tq2 (i := 115) rfl) rfl
theorem q211 : Cond.code yJ0_coder_7d493 cJ0_coder_7d493 1 (some .byte) ∈ wA := wm (tq2 (i := 116) rfl) rfl
theorem q212 : Cond.fieldLink RJ0 38 "java/lang/String" "COMPACT_STRINGS" "Z" ∈ wA := wm (tq2 (i := 117) rfl) rfl
theorem q213 : Cond.fieldLink RJ0 15 "java/lang/String" "coder" "B" ∈ wA := wm (tq5 (i := 181) rfl) rfl
theorem q214 : Cond.methodLink RX4 71 yJ0_charAt_5068e ∈ wA := wm (tq2 (i := 119) rfl) rfl
theorem q215 : Cond.instanceMethod yJ0_charAt_5068e ∈ wA := wm (tq2 (i := 120) rfl) rfl
theorem q216 : Cond.selects RJ0 yJ0_charAt_5068e yJ0_charAt_5068e ∈ wA := wm (tq2 (i := 121) rfl) rfl
theorem q217 : Cond.code yJ0_charAt_5068e cJ0_charAt_5068e 2 (some .char) ∈ wA := wm (tq2 (i := 122) rfl) rfl
theorem q218 : Cond.methodLink RJ0 492 yJ0_isLatin1_aae02 ∈ wA := wm (tq2 (i := 123) rfl) rfl
theorem q219 : Cond.instanceMethod yJ0_isLatin1_aae02 ∈ wA := wm (tq2 (i := 124) rfl) rfl
theorem q220 : Cond.selects RJ0 yJ0_isLatin1_aae02 yJ0_isLatin1_aae02 ∈ wA := wm (tq2 (i := 125) rfl) rfl
theorem q221 : Cond.code yJ0_isLatin1_aae02 cJ0_isLatin1_aae02 1 (some .boolean) ∈ wA := wm (tq2 (i := 126) rfl) rfl
theorem q222 : Cond.methodLink RJ0 495 yJ1_charAt_3b067 ∈ wA := wm (tq2 (i := 127) rfl) rfl
theorem q223 : Cond.static yJ1_charAt_3b067 ∈ wA := wm (tq2 (i := 128) rfl) rfl
theorem q224 : Cond.initialized RJ1 ∈ wA := wm (tq1 (i := 11) rfl) rfl
theorem q225 : Cond.code yJ1_charAt_3b067 cJ1_charAt_3b067 2 (some .char) ∈ wA := wm (tq2 (i := 129) rfl) rfl
theorem q226 : Cond.methodLink RJ1 9 yJ0_checkIndex_df160 ∈ wA := wm (tq2 (i := 130) rfl) rfl
theorem q227 : Cond.static yJ0_checkIndex_df160 ∈ wA := wm (tq2 (i := 131) rfl) rfl
theorem q228 : Cond.code yJ0_checkIndex_df160 cJ0_checkIndex_df160 2 none ∈ wA := wm (tq2 (i := 132) rfl) rfl
theorem q229 : Cond.fieldLink RJ0 1053 "jdk/internal/util/Preconditions" "SIOOBE_FORMATTER" "Ljava/util/function/BiFunction;" ∈ wA := wm (tq2 (i := 133) rfl) rfl
theorem q230 : Cond.methodLink RJ0 1059 yJ3_checkIndex_8e157 ∈ wA := wm (tq2 (i := 135) rfl) rfl
theorem q231 : Cond.static yJ3_checkIndex_8e157 ∈ wA := wm (tq2 (i := 136) rfl) rfl
theorem q232 : Cond.initialized RJ3 ∈ wA := wm (tq1 (i := 12) rfl) rfl
theorem q233 : Cond.code yJ3_checkIndex_8e157 cJ3_checkIndex_8e157 3 (some .int) ∈ wA := wm (tq2 (i := 137) rfl) rfl
theorem q234 : Cond.methodLink RJ0 498 yJ2_charAt_3b067 ∈ wA := wm (tq2 (i := 138) rfl) rfl
theorem q235 : Cond.static yJ2_charAt_3b067 ∈ wA := wm (tq2 (i := 139) rfl) rfl
theorem q236 : Cond.initialized RJ2 ∈ wA := wm (tq1 (i := 13) rfl) rfl
theorem q237 : Cond.code yJ2_charAt_3b067 cJ2_charAt_3b067 2 (some .char) ∈ wA := wm (tq2 (i := 140) rfl) rfl
theorem q238 : Cond.methodLink RJ2 67 yJ2_checkIndex_2214a ∈ wA := wm (tq2 (i := 141) rfl) rfl
theorem q239 : Cond.static yJ2_checkIndex_2214a ∈ wA := wm (tq2 (i := 142) rfl) rfl
theorem q240 : Cond.code yJ2_checkIndex_2214a cJ2_checkIndex_2214a 2 none ∈ wA := wm (tq2 (i := 143) rfl) rfl
theorem q241 : Cond.methodLink RJ2 48 yJ2_length_9d52b ∈ wA := wm (tq2 (i := 144) rfl) rfl
theorem q242 : Cond.static yJ2_length_9d52b ∈ wA := wm (tq2 (i := 145) rfl) rfl
theorem q243 : Cond.code yJ2_length_9d52b cJ2_length_9d52b 1 (some .int) ∈ wA := wm (tq2 (i := 146) rfl) rfl
theorem q244 : Cond.methodLink RJ2 414 yJ0_checkIndex_df160 ∈ wA := wm (tq2 (i := 147) rfl) rfl
theorem q245 : Cond.methodLink RJ2 71 yJ2_getChar_3b067 ∈ wA := wm (tq2 (i := 148) rfl) rfl
theorem q246 : Cond.static yJ2_getChar_3b067 ∈ wA := wm (tq2 (i := 149) rfl) rfl
theorem q247 : Cond.code yJ2_getChar_3b067 cJ2_getChar_3b067 2 (some .char) ∈ wA := wm (tq2 (i := 150) rfl) rfl
theorem q248 : Cond.fieldLink RJ2 44 "java/lang/StringUTF16" "$assertionsDisabled" "Z" ∈ wA := wm (tq2 (i := 151) rfl) rfl
theorem q249 : Cond.fieldLink RJ2 59 "java/lang/StringUTF16" "HI_BYTE_SHIFT" "I" ∈ wA := wm (tq2 (i := 153) rfl) rfl
theorem q250 : Cond.fieldLink RJ2 63 "java/lang/StringUTF16" "LO_BYTE_SHIFT" "I" ∈ wA := wm (tq2 (i := 155) rfl) rfl
theorem q251 : Cond.methodLink RX4 53 yX4_readHouse ∈ wA := wm (tq2 (i := 157) rfl) rfl
theorem q252 : Cond.instanceMethod yX4_readHouse ∈ wA := wm (tq2 (i := 159) rfl) rfl
theorem q253 : Cond.selects RX4 yX4_readHouse yX4_readHouse ∈ wA := wm (tqp (i := 3) rfl) rfl
theorem q254 : Cond.code yX4_readHouse cX4_readHouse 3 none ∈ wA := wm (tq2 (i := 160) rfl) rfl
theorem q255 : Cond.fieldLink RX4 75 "FirstAwake$Valley" "need" "[I" ∈ wA := wm (tq1 (i := 41) rfl) rfl
theorem q256 : Cond.fieldLink RX4 83 "FirstAwake$Valley" "worth" "[I" ∈ wA := wm (tq1 (i := 46) rfl) rfl
theorem q257 : Cond.fieldLink RX4 86 "FirstAwake$Valley" "bed" "[I" ∈ wA := wm (tq1 (i := 51) rfl) rfl
theorem q258 : Cond.methodLink RX4 62 yX4_note ∈ wA := wm (tq2 (i := 161) rfl) rfl
theorem q259 : Cond.instanceMethod yX4_note ∈ wA := wm (tq2 (i := 163) rfl) rfl
theorem q260 : Cond.selects RX4 yX4_note yX4_note ∈ wA := wm (tqp (i := 4) rfl) rfl
theorem q261 : Cond.code yX4_note cX4_note 3 none ∈ wA := wm (tq2 (i := 164) rfl) rfl
theorem q262 : Cond.methodLink RX4 79 yX4_readNumber ∈ wA := wm (tq2 (i := 165) rfl) rfl
theorem q263 : Cond.instanceMethod yX4_readNumber ∈ wA := wm (tq2 (i := 167) rfl) rfl
theorem q264 : Cond.selects RX4 yX4_readNumber yX4_readNumber ∈ wA := wm (tqp (i := 5) rfl) rfl
theorem q265 : Cond.code yX4_readNumber cX4_readNumber 5 (some .int) ∈ wA := wm (tq2 (i := 168) rfl) rfl
theorem q266 : Cond.methodLink RX4 89 yX4_readEnd ∈ wA := wm (tq2 (i := 169) rfl) rfl
theorem q267 : Cond.instanceMethod yX4_readEnd ∈ wA := wm (tq2 (i := 171) rfl) rfl
theorem q268 : Cond.selects RX4 yX4_readEnd yX4_readEnd ∈ wA := wm (tqp (i := 6) rfl) rfl
theorem q269 : Cond.code yX4_readEnd cX4_readEnd 1 none ∈ wA := wm (tq2 (i := 172) rfl) rfl
theorem q270 : Cond.methodLink RX4 59 yX4_readSleeper ∈ wA := wm (tq2 (i := 174) rfl) rfl
theorem q271 : Cond.instanceMethod yX4_readSleeper ∈ wA := wm (tq2 (i := 176) rfl) rfl
theorem q272 : Cond.selects RX4 yX4_readSleeper yX4_readSleeper ∈ wA := wm (tqp (i := 7) rfl) rfl
theorem q273 : Cond.code yX4_readSleeper cX4_readSleeper 3 none ∈ wA := wm (tq2 (i := 177) rfl) rfl
theorem q274 : Cond.fieldLink RX4 92 "FirstAwake$Valley" "home" "[I" ∈ wA := wm (tq1 (i := 62) rfl) rfl
theorem q275 : Cond.fieldLink RX4 95 "FirstAwake$Valley" "wake" "[I" ∈ wA := wm (tq1 (i := 66) rfl) rfl
theorem q276 : Cond.fieldLink RX4 98 "FirstAwake$Valley" "span" "[I" ∈ wA := wm (tq1 (i := 71) rfl) rfl
theorem q277 : Cond.fieldLink RX4 101 "FirstAwake$Valley" "light" "[I" ∈ wA := wm (tq1 (i := 75) rfl) rfl
theorem q278 : Cond.methodLink RX7 76 yX5_copyFrom ∈ wA := wm (tq2 (i := 178) rfl) rfl
theorem q279 : Cond.instanceMethod yX5_copyFrom ∈ wA := wm (tq2 (i := 179) rfl) rfl
theorem q280 : Cond.selects RX5 yX5_copyFrom yX5_copyFrom ∈ wA := wm (tq2 (i := 180) rfl) rfl
theorem q281 : Cond.code yX5_copyFrom cX5_copyFrom 2 none ∈ wA := wm (tq2 (i := 181) rfl) rfl
theorem q282 : Cond.fieldLink RX5 33 "FirstAwake$Valley" "houses" "I" ∈ wA := wm (tq1 (i := 36) rfl) rfl
theorem q283 : Cond.methodLink RX5 40 arraycopyName ∈ wA := wm (tq2 (i := 182) rfl) rfl
theorem q284 : Cond.native arraycopyName ∈ wA := wm (tq2 (i := 184) rfl) rfl
theorem q285 : Cond.static arraycopyName ∈ wA := wm (tq2 (i := 183) rfl) rfl
theorem q286 : Cond.initialized "java/lang/System" ∈ wA := wm (tq1 (i := 14) rfl) rfl
theorem q287 : Cond.fieldLink RX5 37 "FirstAwake$Valley" "sleepers" "I" ∈ wA := wm (tq1 (i := 53) rfl) rfl
theorem q288 : Cond.methodLink RX7 79 yX0_beginAnew ∈ wA := wm (tq2 (i := 185) rfl) rfl
theorem q289 : Cond.instanceMethod yX0_beginAnew ∈ wA := wm (tq2 (i := 186) rfl) rfl
theorem q290 : Cond.selects RX0 yX0_beginAnew yX0_beginAnew ∈ wA := wm (tq2 (i := 187) rfl) rfl
theorem q291 : Cond.code yX0_beginAnew cX0_beginAnew 1 none ∈ wA := wm (tq2 (i := 188) rfl) rfl
theorem q292 : Cond.fieldLink RX0 43 "FirstAwake$Course" "day" "I" ∈ wA := wm (tq1 (i := 174) rfl) rfl
theorem q293 : Cond.fieldLink RX0 53 "FirstAwake$Course" "had" "I" ∈ wA := wm (tq1 (i := 180) rfl) rfl
theorem q294 : Cond.fieldLink RX0 56 "FirstAwake$Course" "kept" "I" ∈ wA := wm (tq1 (i := 182) rfl) rfl
theorem q295 : Cond.methodLink RX0 40 yX1_beginAnew ∈ wA := wm (tq2 (i := 189) rfl) rfl
theorem q296 : Cond.instanceMethod yX1_beginAnew ∈ wA := wm (tq2 (i := 190) rfl) rfl
theorem q297 : Cond.selects RX1 yX1_beginAnew yX1_beginAnew ∈ wA := wm (tq2 (i := 191) rfl) rfl
theorem q298 : Cond.code yX1_beginAnew cX1_beginAnew 1 none ∈ wA := wm (tq2 (i := 192) rfl) rfl
theorem q299 : Cond.fieldLink RX1 44 "FirstAwake$Night" "law" "I" ∈ wA := wm (tq1 (i := 146) rfl) rfl
theorem q300 : Cond.methodLink RX1 38 yJ7_fill_53178 ∈ wA := wm (tq2 (i := 193) rfl) rfl
theorem q301 : Cond.static yJ7_fill_53178 ∈ wA := wm (tq2 (i := 194) rfl) rfl
theorem q302 : Cond.initialized RJ7 ∈ wA := wm (tq1 (i := 15) rfl) rfl
theorem q303 : Cond.code yJ7_fill_53178 cJ7_fill_53178 4 none ∈ wA := wm (tq2 (i := 195) rfl) rfl
theorem q304 : Cond.methodLink RX1 47 yX1_makeNoise ∈ wA := wm (tq2 (i := 196) rfl) rfl
theorem q305 : Cond.instanceMethod yX1_makeNoise ∈ wA := wm (tq2 (i := 197) rfl) rfl
theorem q306 : Cond.selects RX1 yX1_makeNoise yX1_makeNoise ∈ wA := wm (tq2 (i := 198) rfl) rfl
theorem q307 : Cond.code yX1_makeNoise cX1_makeNoise 5 none ∈ wA := wm (tq2 (i := 199) rfl) rfl
theorem q308 : Cond.fieldLink RX1 57 "FirstAwake$Valley" "sleepers" "I" ∈ wA := wm (tq1 (i := 57) rfl) rfl
theorem q309 : Cond.methodLink RX1 62 yX1_layOut ∈ wA := wm (tq2 (i := 200) rfl) rfl
theorem q310 : Cond.instanceMethod yX1_layOut ∈ wA := wm (tq2 (i := 202) rfl) rfl
theorem q311 : Cond.selects RX1 yX1_layOut yX1_layOut ∈ wA := wm (tqp (i := 8) rfl) rfl
theorem q312 : Cond.code yX1_layOut cX1_layOut 4 none ∈ wA := wm (tq2 (i := 203) rfl) rfl
theorem q313 : Cond.fieldLink RX1 73 "FirstAwake$Valley" "wake" "[I" ∈ wA := wm (tq1 (i := 68) rfl) rfl
theorem q314 : Cond.fieldLink RX1 76 "FirstAwake$Valley" "span" "[I" ∈ wA := wm (tq1 (i := 73) rfl) rfl
theorem q315 : Cond.fieldLink RX1 66 "FirstAwake$Valley" "home" "[I" ∈ wA := wm (tq1 (i := 61) rfl) rfl
theorem q316 : Cond.fieldLink RX1 79 "FirstAwake$Valley" "light" "[I" ∈ wA := wm (tq1 (i := 77) rfl) rfl
theorem q317 : Cond.constant RX1 82 (1000000) ∈ wA := wm (tq2 (i := 204) rfl) rfl
theorem q318 : Cond.methodLink RX0 47 yJ7_fill_53178 ∈ wA := wm (tq2 (i := 205) rfl) rfl
theorem q319 : Cond.methodLink RL 24 yX8_valley ∈ wA := wm (tq4 (i := 160) rfl) rfl
theorem q320 : Cond.instanceMethod yX8_valley ∈ wA := wm (tq4 (i := 161) rfl) rfl
theorem q321 : Cond.selects RX8 yX8_valley yX8_valley ∈ wA := wm (tq4 (i := 162) rfl) rfl
theorem q322 : Cond.code yX8_valley cX8_valley 3 (some .int) ∈ wA := wm (tq4 (i := 163) rfl) rfl
theorem q323 : Cond.fieldLink RX8 140 "FirstAwakeModel" "at0" "I" ∈ wA := wm (tq4 (i := 25) rfl) rfl
theorem q324 : Cond.fieldLink RX8 183 "FirstAwakeModel" "readHouses" "I" ∈ wA := wm (tq4 (i := 30) rfl) rfl
theorem q325 : Cond.fieldLink RX8 190 "FirstAwakeModel" "readSleepers" "I" ∈ wA := wm (tq4 (i := 34) rfl) rfl
theorem q326 : Cond.fieldLink RX8 116 "FirstAwakeModel" "sleepers" "I" ∈ wA := wm (tq4 (i := 4) rfl) rfl
theorem q327 : Cond.fieldLink RX8 213 "FirstAwakeModel" "tolds" "I" ∈ wA := wm (tq4 (i := 44) rfl) rfl
theorem q328 : Cond.methodLink RX8 143 yX8_here ∈ wA := wm (tq4 (i := 164) rfl) rfl
theorem q329 : Cond.instanceMethod yX8_here ∈ wA := wm (tq4 (i := 166) rfl) rfl
theorem q330 : Cond.selects RX8 yX8_here yX8_here ∈ wA := wm (tqp (i := 20) rfl) rfl
theorem q331 : Cond.code yX8_here cX8_here 1 (some .int) ∈ wA := wm (tq4 (i := 167) rfl) rfl
theorem q332 : Cond.methodLink RX8 210 yX8_takeClause ∈ wA := wm (tq4 (i := 168) rfl) rfl
theorem q333 : Cond.instanceMethod yX8_takeClause ∈ wA := wm (tq4 (i := 170) rfl) rfl
theorem q334 : Cond.selects RX8 yX8_takeClause yX8_takeClause ∈ wA := wm (tqp (i := 21) rfl) rfl
theorem q335 : Cond.code yX8_takeClause cX8_takeClause 3 (some .int) ∈ wA := wm (tq4 (i := 171) rfl) rfl
theorem q336 : Cond.fieldLink RX8 147 "FirstAwakeModel" "said" "J" ∈ wA := wm (tq4 (i := 26) rfl) rfl
theorem q337 : Cond.fieldLink RX8 151 "FirstAwakeModel" "wordEnd" "I" ∈ wA := wm (tq4 (i := 27) rfl) rfl
theorem q338 : Cond.methodLink RX8 193 yX8_readWord ∈ wA := wm (tq4 (i := 172) rfl) rfl
theorem q339 : Cond.instanceMethod yX8_readWord ∈ wA := wm (tq4 (i := 174) rfl) rfl
theorem q340 : Cond.selects RX8 yX8_readWord yX8_readWord ∈ wA := wm (tqp (i := 22) rfl) rfl
theorem q341 : Cond.code yX8_readWord cX8_readWord 2 none ∈ wA := wm (tq4 (i := 175) rfl) rfl
theorem q342 : Cond.constantLong RX8 154 (97) ∈ wA := wm (tq4 (i := 176) rfl) rfl
theorem q343 : Cond.constantLong RX8 156 (122) ∈ wA := wm (tq4 (i := 177) rfl) rfl
theorem q344 : Cond.constantLong RX8 158 (1000000000000) ∈ wA := wm (tq4 (i := 178) rfl) rfl
theorem q345 : Cond.constantLong RX8 160 (2000000000000) ∈ wA := wm (tq4 (i := 179) rfl) rfl
theorem q346 : Cond.constantLong RX8 162 (27) ∈ wA := wm (tq4 (i := 180) rfl) rfl
theorem q347 : Cond.constantLong RX8 164 (96) ∈ wA := wm (tq4 (i := 181) rfl) rfl
theorem q348 : Cond.methodLink RX8 196 yX8_code ∈ wA := wm (tq4 (i := 182) rfl) rfl
theorem q349 : Cond.static yX8_code ∈ wA := wm (tq4 (i := 183) rfl) rfl
theorem q350 : Cond.code yX8_code cX8_code 3 (some .long) ∈ wA := wm (tq4 (i := 184) rfl) rfl
theorem q351 : Cond.methodLink RX8 200 yX8_longer ∈ wA := wm (tq4 (i := 185) rfl) rfl
theorem q352 : Cond.static yX8_longer ∈ wA := wm (tq4 (i := 186) rfl) rfl
theorem q353 : Cond.code yX8_longer cX8_longer 4 (some .long) ∈ wA := wm (tq4 (i := 187) rfl) rfl
theorem q354 : Cond.methodLink RX8 170 yX8_fails ∈ wA := wm (tq4 (i := 188) rfl) rfl
theorem q355 : Cond.instanceMethod yX8_fails ∈ wA := wm (tq4 (i := 190) rfl) rfl
theorem q356 : Cond.selects RX8 yX8_fails yX8_fails ∈ wA := wm (tqp (i := 23) rfl) rfl
theorem q357 : Cond.code yX8_fails cX8_fails 3 (some .int) ∈ wA := wm (tq4 (i := 191) rfl) rfl
theorem q358 : Cond.methodLink RX8 204 yX8_takeHouse ∈ wA := wm (tq4 (i := 192) rfl) rfl
theorem q359 : Cond.instanceMethod yX8_takeHouse ∈ wA := wm (tq4 (i := 194) rfl) rfl
theorem q360 : Cond.selects RX8 yX8_takeHouse yX8_takeHouse ∈ wA := wm (tqp (i := 24) rfl) rfl
theorem q361 : Cond.code yX8_takeHouse cX8_takeHouse 3 (some .int) ∈ wA := wm (tq4 (i := 195) rfl) rfl
theorem q362 : Cond.methodLink RX8 186 yX8_into ∈ wA := wm (tq4 (i := 196) rfl) rfl
theorem q363 : Cond.instanceMethod yX8_into ∈ wA := wm (tq4 (i := 198) rfl) rfl
theorem q364 : Cond.selects RX8 yX8_into yX8_into ∈ wA := wm (tqp (i := 25) rfl) rfl
theorem q365 : Cond.code yX8_into cX8_into 6 (some .int) ∈ wA := wm (tq4 (i := 199) rfl) rfl
theorem q366 : Cond.fieldLink RX8 177 "FirstAwakeModel" "number" "I" ∈ wA := wm (tq4 (i := 28) rfl) rfl
theorem q367 : Cond.methodLink RX8 180 yX8_takeNumber ∈ wA := wm (tq4 (i := 200) rfl) rfl
theorem q368 : Cond.instanceMethod yX8_takeNumber ∈ wA := wm (tq4 (i := 202) rfl) rfl
theorem q369 : Cond.selects RX8 yX8_takeNumber yX8_takeNumber ∈ wA := wm (tqp (i := 26) rfl) rfl
theorem q370 : Cond.code yX8_takeNumber cX8_takeNumber 4 (some .int) ∈ wA := wm (tq4 (i := 203) rfl) rfl
theorem q371 : Cond.constantLong RX8 166 (48) ∈ wA := wm (tq4 (i := 204) rfl) rfl
theorem q372 : Cond.constantLong RX8 168 (57) ∈ wA := wm (tq4 (i := 205) rfl) rfl
theorem q373 : Cond.fieldLink RX8 174 "FirstAwakeModel" "numberAt" "I" ∈ wA := wm (tq4 (i := 29) rfl) rfl
theorem q374 : Cond.methodLink RX8 207 yX8_takeSleeper ∈ wA := wm (tq4 (i := 206) rfl) rfl
theorem q375 : Cond.instanceMethod yX8_takeSleeper ∈ wA := wm (tq4 (i := 208) rfl) rfl
theorem q376 : Cond.selects RX8 yX8_takeSleeper yX8_takeSleeper ∈ wA := wm (tqp (i := 27) rfl) rfl
theorem q377 : Cond.code yX8_takeSleeper cX8_takeSleeper 3 (some .int) ∈ wA := wm (tq4 (i := 209) rfl) rfl
theorem q378 : Cond.methodLink RX8 216 yX8_begin ∈ wA := wm (tq4 (i := 210) rfl) rfl
theorem q379 : Cond.instanceMethod yX8_begin ∈ wA := wm (tq4 (i := 212) rfl) rfl
theorem q380 : Cond.selects RX8 yX8_begin yX8_begin ∈ wA := wm (tqp (i := 28) rfl) rfl
theorem q381 : Cond.code yX8_begin cX8_begin 2 none ∈ wA := wm (tq4 (i := 213) rfl) rfl
theorem q382 : Cond.fieldLink RX8 119 "FirstAwakeModel" "law" "I" ∈ wA := wm (tq4 (i := 13) rfl) rfl
theorem q383 : Cond.fieldLink RX8 122 "FirstAwakeModel" "day" "I" ∈ wA := wm (tq4 (i := 14) rfl) rfl
theorem q384 : Cond.fieldLink RX8 125 "FirstAwakeModel" "had" "I" ∈ wA := wm (tq4 (i := 17) rfl) rfl
theorem q385 : Cond.fieldLink RX8 128 "FirstAwakeModel" "kept" "I" ∈ wA := wm (tq4 (i := 18) rfl) rfl
theorem q386 : Cond.methodLink RL 25 yX7_fault ∈ wA := wm (tq2 (i := 206) rfl) rfl
theorem q387 : Cond.instanceMethod yX7_fault ∈ wA := wm (tq2 (i := 207) rfl) rfl
theorem q388 : Cond.selects RX7 yX7_fault yX7_fault ∈ wA := wm (tq2 (i := 208) rfl) rfl
theorem q389 : Cond.code yX7_fault cX7_fault 1 (some .int) ∈ wA := wm (tq2 (i := 209) rfl) rfl
theorem q390 : Cond.fieldLink RX7 91 "FirstAwake$Reader" "faultByte" "I" ∈ wA := wm (tq1 (i := 107) rfl) rfl
theorem q391 : Cond.methodLink RL 28 yX8_fault ∈ wA := wm (tq4 (i := 214) rfl) rfl
theorem q392 : Cond.instanceMethod yX8_fault ∈ wA := wm (tq4 (i := 215) rfl) rfl
theorem q393 : Cond.selects RX8 yX8_fault yX8_fault ∈ wA := wm (tq4 (i := 216) rfl) rfl
theorem q394 : Cond.code yX8_fault cX8_fault 1 (some .int) ∈ wA := wm (tq4 (i := 217) rfl) rfl
theorem q395 : Cond.methodLink RL 29 yX7_told ∈ wA := wm (tq2 (i := 210) rfl) rfl
theorem q396 : Cond.instanceMethod yX7_told ∈ wA := wm (tq2 (i := 211) rfl) rfl
theorem q397 : Cond.selects RX7 yX7_told yX7_told ∈ wA := wm (tq2 (i := 212) rfl) rfl
theorem q398 : Cond.code yX7_told cX7_told 2 (some .int) ∈ wA := wm (tq2 (i := 213) rfl) rfl
theorem q399 : Cond.fieldLink RX7 94 "FirstAwake$Valley" "houses" "I" ∈ wA := wm (tq1 (i := 39) rfl) rfl
theorem q400 : Cond.fieldLink RX7 97 "FirstAwake$Course" "day" "I" ∈ wA := wm (tq1 (i := 175) rfl) rfl
theorem q401 : Cond.fieldLink RX7 100 "FirstAwake$Course" "night" "LFirstAwake$Night;" ∈ wA := wm (tq1 (i := 173) rfl) rfl
theorem q402 : Cond.fieldLink RX7 104 "FirstAwake$Night" "law" "I" ∈ wA := wm (tq1 (i := 148) rfl) rfl
theorem q403 : Cond.fieldLink RX7 109 "FirstAwake$Night" "noiseMinute" "I" ∈ wA := wm (tq1 (i := 143) rfl) rfl
theorem q404 : Cond.fieldLink RX7 112 "FirstAwake$Night" "loudness" "I" ∈ wA := wm (tq1 (i := 145) rfl) rfl
theorem q405 : Cond.fieldLink RX7 115 "FirstAwake$Night" "noiseHouse" "I" ∈ wA := wm (tq1 (i := 141) rfl) rfl
theorem q406 : Cond.fieldLink RX7 118 "FirstAwake$Course" "kept" "I" ∈ wA := wm (tq1 (i := 183) rfl) rfl
theorem q407 : Cond.fieldLink RX7 121 "FirstAwake$Course" "had" "I" ∈ wA := wm (tq1 (i := 181) rfl) rfl
theorem q408 : Cond.methodLink RL 33 yX8_told ∈ wA := wm (tq4 (i := 218) rfl) rfl
theorem q409 : Cond.instanceMethod yX8_told ∈ wA := wm (tq4 (i := 219) rfl) rfl
theorem q410 : Cond.selects RX8 yX8_told yX8_told ∈ wA := wm (tq4 (i := 220) rfl) rfl
theorem q411 : Cond.code yX8_told cX8_told 2 (some .int) ∈ wA := wm (tq4 (i := 221) rfl) rfl
theorem q412 : Cond.methodLink RL 34 yX7_house ∈ wA := wm (tq2 (i := 214) rfl) rfl
theorem q413 : Cond.instanceMethod yX7_house ∈ wA := wm (tq2 (i := 215) rfl) rfl
theorem q414 : Cond.selects RX7 yX7_house yX7_house ∈ wA := wm (tq2 (i := 216) rfl) rfl
theorem q415 : Cond.code yX7_house cX7_house 3 (some .int) ∈ wA := wm (tq2 (i := 217) rfl) rfl
theorem q416 : Cond.constant RX7 128 (-1000000001) ∈ wA := wm (tq2 (i := 222) rfl) rfl
theorem q417 : Cond.fieldLink RX7 129 "FirstAwake$Valley" "need" "[I" ∈ wA := wm (tq1 (i := 42) rfl) rfl
theorem q418 : Cond.fieldLink RX7 133 "FirstAwake$Valley" "worth" "[I" ∈ wA := wm (tq1 (i := 47) rfl) rfl
theorem q419 : Cond.fieldLink RX7 136 "FirstAwake$Valley" "bed" "[I" ∈ wA := wm (tq1 (i := 52) rfl) rfl
theorem q420 : Cond.fieldLink RX7 139 "FirstAwake$Course" "onEnd" "[I" ∈ wA := wm (tq1 (i := 177) rfl) rfl
theorem q421 : Cond.fieldLink RX7 142 "FirstAwake$Course" "done" "[I" ∈ wA := wm (tq1 (i := 179) rfl) rfl
theorem q422 : Cond.methodLink RX7 124 yX5_hasHouse ∈ wA := wm (tq2 (i := 218) rfl) rfl
theorem q423 : Cond.instanceMethod yX5_hasHouse ∈ wA := wm (tq2 (i := 219) rfl) rfl
theorem q424 : Cond.selects RX5 yX5_hasHouse yX5_hasHouse ∈ wA := wm (tq2 (i := 220) rfl) rfl
theorem q425 : Cond.code yX5_hasHouse cX5_hasHouse 2 (some .boolean) ∈ wA := wm (tq2 (i := 221) rfl) rfl
theorem q426 : Cond.methodLink RX7 145 yX5_sleepersOf ∈ wA := wm (tq2 (i := 223) rfl) rfl
theorem q427 : Cond.instanceMethod yX5_sleepersOf ∈ wA := wm (tq2 (i := 224) rfl) rfl
theorem q428 : Cond.selects RX5 yX5_sleepersOf yX5_sleepersOf ∈ wA := wm (tq2 (i := 225) rfl) rfl
theorem q429 : Cond.code yX5_sleepersOf cX5_sleepersOf 4 (some .int) ∈ wA := wm (tq2 (i := 226) rfl) rfl
theorem q430 : Cond.methodLink RL 38 yX8_house ∈ wA := wm (tq4 (i := 222) rfl) rfl
theorem q431 : Cond.instanceMethod yX8_house ∈ wA := wm (tq4 (i := 223) rfl) rfl
theorem q432 : Cond.selects RX8 yX8_house yX8_house ∈ wA := wm (tq4 (i := 224) rfl) rfl
theorem q433 : Cond.code yX8_house cX8_house 3 (some .int) ∈ wA := wm (tq4 (i := 225) rfl) rfl
theorem q434 : Cond.constant RX8 223 (-1000000001) ∈ wA := wm (tq4 (i := 230) rfl) rfl
theorem q435 : Cond.methodLink RX8 219 yX8_isHouse ∈ wA := wm (tq4 (i := 226) rfl) rfl
theorem q436 : Cond.instanceMethod yX8_isHouse ∈ wA := wm (tq4 (i := 228) rfl) rfl
theorem q437 : Cond.selects RX8 yX8_isHouse yX8_isHouse ∈ wA := wm (tqp (i := 29) rfl) rfl
theorem q438 : Cond.code yX8_isHouse cX8_isHouse 2 (some .boolean) ∈ wA := wm (tq4 (i := 229) rfl) rfl
theorem q439 : Cond.methodLink RX8 224 yX8_sleepersOf ∈ wA := wm (tq4 (i := 231) rfl) rfl
theorem q440 : Cond.instanceMethod yX8_sleepersOf ∈ wA := wm (tq4 (i := 233) rfl) rfl
theorem q441 : Cond.selects RX8 yX8_sleepersOf yX8_sleepersOf ∈ wA := wm (tqp (i := 30) rfl) rfl
theorem q442 : Cond.code yX8_sleepersOf cX8_sleepersOf 4 (some .int) ∈ wA := wm (tq4 (i := 234) rfl) rfl
theorem q443 : Cond.methodLink RL 39 yX7_sleeper ∈ wA := wm (tq2 (i := 227) rfl) rfl
theorem q444 : Cond.instanceMethod yX7_sleeper ∈ wA := wm (tq2 (i := 228) rfl) rfl
theorem q445 : Cond.selects RX7 yX7_sleeper yX7_sleeper ∈ wA := wm (tq2 (i := 229) rfl) rfl
theorem q446 : Cond.code yX7_sleeper cX7_sleeper 3 (some .int) ∈ wA := wm (tq2 (i := 230) rfl) rfl
theorem q447 : Cond.fieldLink RX7 152 "FirstAwake$Valley" "home" "[I" ∈ wA := wm (tq1 (i := 63) rfl) rfl
theorem q448 : Cond.fieldLink RX7 155 "FirstAwake$Valley" "wake" "[I" ∈ wA := wm (tq1 (i := 67) rfl) rfl
theorem q449 : Cond.fieldLink RX7 158 "FirstAwake$Valley" "span" "[I" ∈ wA := wm (tq1 (i := 72) rfl) rfl
theorem q450 : Cond.fieldLink RX7 161 "FirstAwake$Valley" "light" "[I" ∈ wA := wm (tq1 (i := 76) rfl) rfl
theorem q451 : Cond.fieldLink RX7 164 "FirstAwake$Night" "shifted" "[I" ∈ wA := wm (tq1 (i := 139) rfl) rfl
theorem q452 : Cond.methodLink RX7 149 yX5_hasSleeper ∈ wA := wm (tq2 (i := 231) rfl) rfl
theorem q453 : Cond.instanceMethod yX5_hasSleeper ∈ wA := wm (tq2 (i := 232) rfl) rfl
theorem q454 : Cond.selects RX5 yX5_hasSleeper yX5_hasSleeper ∈ wA := wm (tq2 (i := 233) rfl) rfl
theorem q455 : Cond.code yX5_hasSleeper cX5_hasSleeper 2 (some .boolean) ∈ wA := wm (tq2 (i := 234) rfl) rfl
theorem q456 : Cond.methodLink RX7 167 yX1_firstMinute ∈ wA := wm (tq2 (i := 235) rfl) rfl
theorem q457 : Cond.instanceMethod yX1_firstMinute ∈ wA := wm (tq2 (i := 236) rfl) rfl
theorem q458 : Cond.selects RX1 yX1_firstMinute yX1_firstMinute ∈ wA := wm (tq2 (i := 237) rfl) rfl
theorem q459 : Cond.code yX1_firstMinute cX1_firstMinute 2 (some .int) ∈ wA := wm (tq2 (i := 238) rfl) rfl
theorem q460 : Cond.methodLink RX1 83 yX1_heard ∈ wA := wm (tq2 (i := 239) rfl) rfl
theorem q461 : Cond.instanceMethod yX1_heard ∈ wA := wm (tq3 (i := 0) rfl) rfl
theorem q462 : Cond.selects RX1 yX1_heard yX1_heard ∈ wA := wm (tq3 (i := 1) rfl) rfl
theorem q463 : Cond.code yX1_heard cX1_heard 3 (some .int) ∈ wA := wm (tq3 (i := 2) rfl) rfl
theorem q464 : Cond.methodLink RX7 170 yX1_lastMinute ∈ wA := wm (tq3 (i := 3) rfl) rfl
theorem q465 : Cond.instanceMethod yX1_lastMinute ∈ wA := wm (tq3 (i := 4) rfl) rfl
theorem q466 : Cond.selects RX1 yX1_lastMinute yX1_lastMinute ∈ wA := wm (tq3 (i := 5) rfl) rfl
theorem q467 : Cond.code yX1_lastMinute cX1_lastMinute 2 (some .int) ∈ wA := wm (tq3 (i := 6) rfl) rfl
theorem q468 : Cond.methodLink RL 42 yX8_sleeper ∈ wA := wm (tq4 (i := 235) rfl) rfl
theorem q469 : Cond.instanceMethod yX8_sleeper ∈ wA := wm (tq4 (i := 236) rfl) rfl
theorem q470 : Cond.selects RX8 yX8_sleeper yX8_sleeper ∈ wA := wm (tq4 (i := 237) rfl) rfl
theorem q471 : Cond.code yX8_sleeper cX8_sleeper 3 (some .int) ∈ wA := wm (tq4 (i := 238) rfl) rfl
theorem q472 : Cond.methodLink RX8 231 yX8_isSleeper ∈ wA := wm (tq4 (i := 239) rfl) rfl
theorem q473 : Cond.instanceMethod yX8_isSleeper ∈ wA := wm (tq5 (i := 1) rfl) rfl
theorem q474 : Cond.selects RX8 yX8_isSleeper yX8_isSleeper ∈ wA := wm (tqp (i := 31) rfl) rfl
theorem q475 : Cond.code yX8_isSleeper cX8_isSleeper 2 (some .boolean) ∈ wA := wm (tq5 (i := 2) rfl) rfl
theorem q476 : Cond.methodLink RX8 234 yX8_firstOf ∈ wA := wm (tq5 (i := 3) rfl) rfl
theorem q477 : Cond.instanceMethod yX8_firstOf ∈ wA := wm (tq5 (i := 5) rfl) rfl
theorem q478 : Cond.selects RX8 yX8_firstOf yX8_firstOf ∈ wA := wm (tqp (i := 32) rfl) rfl
theorem q479 : Cond.code yX8_firstOf cX8_firstOf 2 (some .int) ∈ wA := wm (tq5 (i := 6) rfl) rfl
theorem q480 : Cond.methodLink RX8 237 yX8_heard ∈ wA := wm (tq5 (i := 7) rfl) rfl
theorem q481 : Cond.instanceMethod yX8_heard ∈ wA := wm (tq5 (i := 9) rfl) rfl
theorem q482 : Cond.selects RX8 yX8_heard yX8_heard ∈ wA := wm (tqp (i := 33) rfl) rfl
theorem q483 : Cond.code yX8_heard cX8_heard 3 (some .int) ∈ wA := wm (tq5 (i := 10) rfl) rfl
theorem q484 : Cond.methodLink RX8 228 yX8_isStartled ∈ wA := wm (tq5 (i := 11) rfl) rfl
theorem q485 : Cond.instanceMethod yX8_isStartled ∈ wA := wm (tq5 (i := 13) rfl) rfl
theorem q486 : Cond.selects RX8 yX8_isStartled yX8_isStartled ∈ wA := wm (tqp (i := 34) rfl) rfl
theorem q487 : Cond.code yX8_isStartled cX8_isStartled 2 (some .boolean) ∈ wA := wm (tq5 (i := 14) rfl) rfl
theorem q488 : Cond.methodLink RX8 240 yX8_lastOf ∈ wA := wm (tq5 (i := 15) rfl) rfl
theorem q489 : Cond.instanceMethod yX8_lastOf ∈ wA := wm (tq5 (i := 17) rfl) rfl
theorem q490 : Cond.selects RX8 yX8_lastOf yX8_lastOf ∈ wA := wm (tqp (i := 35) rfl) rfl
theorem q491 : Cond.code yX8_lastOf cX8_lastOf 2 (some .int) ∈ wA := wm (tq5 (i := 18) rfl) rfl
theorem q492 : Cond.methodLink RL 43 yX7_shift ∈ wA := wm (tq3 (i := 7) rfl) rfl
theorem q493 : Cond.instanceMethod yX7_shift ∈ wA := wm (tq3 (i := 8) rfl) rfl
theorem q494 : Cond.selects RX7 yX7_shift yX7_shift ∈ wA := wm (tq3 (i := 9) rfl) rfl
theorem q495 : Cond.code yX7_shift cX7_shift 4 (some .int) ∈ wA := wm (tq3 (i := 10) rfl) rfl
theorem q496 : Cond.methodLink RX7 173 yX1_shiftOne ∈ wA := wm (tq3 (i := 11) rfl) rfl
theorem q497 : Cond.instanceMethod yX1_shiftOne ∈ wA := wm (tq3 (i := 12) rfl) rfl
theorem q498 : Cond.selects RX1 yX1_shiftOne yX1_shiftOne ∈ wA := wm (tq3 (i := 13) rfl) rfl
theorem q499 : Cond.code yX1_shiftOne cX1_shiftOne 3 none ∈ wA := wm (tq3 (i := 14) rfl) rfl
theorem q500 : Cond.methodLink RL 46 yX8_shift ∈ wA := wm (tq5 (i := 19) rfl) rfl
theorem q501 : Cond.instanceMethod yX8_shift ∈ wA := wm (tq5 (i := 20) rfl) rfl
theorem q502 : Cond.selects RX8 yX8_shift yX8_shift ∈ wA := wm (tq5 (i := 21) rfl) rfl
theorem q503 : Cond.code yX8_shift cX8_shift 4 (some .int) ∈ wA := wm (tq5 (i := 22) rfl) rfl
theorem q504 : Cond.methodLink RL 47 yX7_noise ∈ wA := wm (tq3 (i := 15) rfl) rfl
theorem q505 : Cond.instanceMethod yX7_noise ∈ wA := wm (tq3 (i := 16) rfl) rfl
theorem q506 : Cond.selects RX7 yX7_noise yX7_noise ∈ wA := wm (tq3 (i := 17) rfl) rfl
theorem q507 : Cond.code yX7_noise cX7_noise 5 (some .int) ∈ wA := wm (tq3 (i := 18) rfl) rfl
theorem q508 : Cond.methodLink RX7 177 yX1_isNoisy ∈ wA := wm (tq3 (i := 19) rfl) rfl
theorem q509 : Cond.instanceMethod yX1_isNoisy ∈ wA := wm (tq3 (i := 20) rfl) rfl
theorem q510 : Cond.selects RX1 yX1_isNoisy yX1_isNoisy ∈ wA := wm (tq3 (i := 21) rfl) rfl
theorem q511 : Cond.code yX1_isNoisy cX1_isNoisy 1 (some .boolean) ∈ wA := wm (tq3 (i := 22) rfl) rfl
theorem q512 : Cond.methodLink RX7 181 yX1_makeNoise ∈ wA := wm (tq3 (i := 23) rfl) rfl
theorem q513 : Cond.methodLink RL 51 yX8_noise ∈ wA := wm (tq5 (i := 23) rfl) rfl
theorem q514 : Cond.instanceMethod yX8_noise ∈ wA := wm (tq5 (i := 24) rfl) rfl
theorem q515 : Cond.selects RX8 yX8_noise yX8_noise ∈ wA := wm (tq5 (i := 25) rfl) rfl
theorem q516 : Cond.code yX8_noise cX8_noise 5 (some .int) ∈ wA := wm (tq5 (i := 26) rfl) rfl
theorem q517 : Cond.constantLong RX8 243 (700) ∈ wA := wm (tq5 (i := 27) rfl) rfl
theorem q518 : Cond.constantLong RX8 245 (9) ∈ wA := wm (tq5 (i := 28) rfl) rfl
theorem q519 : Cond.methodLink RX8 247 yX8_setNoise ∈ wA := wm (tq5 (i := 29) rfl) rfl
theorem q520 : Cond.instanceMethod yX8_setNoise ∈ wA := wm (tq5 (i := 31) rfl) rfl
theorem q521 : Cond.selects RX8 yX8_setNoise yX8_setNoise ∈ wA := wm (tqp (i := 36) rfl) rfl
theorem q522 : Cond.code yX8_setNoise cX8_setNoise 4 none ∈ wA := wm (tq5 (i := 32) rfl) rfl
theorem q523 : Cond.methodLink RL 52 yX7_hush ∈ wA := wm (tq3 (i := 24) rfl) rfl
theorem q524 : Cond.instanceMethod yX7_hush ∈ wA := wm (tq3 (i := 25) rfl) rfl
theorem q525 : Cond.selects RX7 yX7_hush yX7_hush ∈ wA := wm (tq3 (i := 26) rfl) rfl
theorem q526 : Cond.code yX7_hush cX7_hush 2 (some .int) ∈ wA := wm (tq3 (i := 27) rfl) rfl
theorem q527 : Cond.methodLink RL 55 yX8_hush ∈ wA := wm (tq5 (i := 33) rfl) rfl
theorem q528 : Cond.instanceMethod yX8_hush ∈ wA := wm (tq5 (i := 34) rfl) rfl
theorem q529 : Cond.selects RX8 yX8_hush yX8_hush ∈ wA := wm (tq5 (i := 35) rfl) rfl
theorem q530 : Cond.code yX8_hush cX8_hush 2 (some .int) ∈ wA := wm (tq5 (i := 36) rfl) rfl
theorem q531 : Cond.methodLink RL 56 yX7_law ∈ wA := wm (tq3 (i := 28) rfl) rfl
theorem q532 : Cond.instanceMethod yX7_law ∈ wA := wm (tq3 (i := 29) rfl) rfl
theorem q533 : Cond.selects RX7 yX7_law yX7_law ∈ wA := wm (tq3 (i := 30) rfl) rfl
theorem q534 : Cond.code yX7_law cX7_law 3 (some .int) ∈ wA := wm (tq3 (i := 31) rfl) rfl
theorem q535 : Cond.methodLink RL 59 yX8_law ∈ wA := wm (tq5 (i := 37) rfl) rfl
theorem q536 : Cond.instanceMethod yX8_law ∈ wA := wm (tq5 (i := 38) rfl) rfl
theorem q537 : Cond.selects RX8 yX8_law yX8_law ∈ wA := wm (tq5 (i := 39) rfl) rfl
theorem q538 : Cond.code yX8_law cX8_law 3 (some .int) ∈ wA := wm (tq5 (i := 40) rfl) rfl
theorem q539 : Cond.constantLong RX8 251 (2) ∈ wA := wm (tq5 (i := 41) rfl) rfl
theorem q540 : Cond.methodLink RL 60 yX7_dawn ∈ wA := wm (tq3 (i := 32) rfl) rfl
theorem q541 : Cond.instanceMethod yX7_dawn ∈ wA := wm (tq3 (i := 33) rfl) rfl
theorem q542 : Cond.selects RX7 yX7_dawn yX7_dawn ∈ wA := wm (tq3 (i := 34) rfl) rfl
theorem q543 : Cond.code yX7_dawn cX7_dawn 4 (some .int) ∈ wA := wm (tq3 (i := 35) rfl) rfl
theorem q544 : Cond.constant RX7 185 (-1000000003) ∈ wA := wm (tq3 (i := 36) rfl) rfl
theorem q545 : Cond.methodLink RX7 186 yX0_liveDay ∈ wA := wm (tq3 (i := 37) rfl) rfl
theorem q546 : Cond.instanceMethod yX0_liveDay ∈ wA := wm (tq3 (i := 38) rfl) rfl
theorem q547 : Cond.selects RX0 yX0_liveDay yX0_liveDay ∈ wA := wm (tq3 (i := 39) rfl) rfl
theorem q548 : Cond.code yX0_liveDay cX0_liveDay 2 (some .int) ∈ wA := wm (tq3 (i := 40) rfl) rfl
theorem q549 : Cond.fieldLink RX0 72 "FirstAwake$Valley" "sleepers" "I" ∈ wA := wm (tq1 (i := 56) rfl) rfl
theorem q550 : Cond.fieldLink RX0 77 "FirstAwake$Valley" "span" "[I" ∈ wA := wm (tq1 (i := 70) rfl) rfl
theorem q551 : Cond.fieldLink RX0 88 "FirstAwake$Night" "law" "I" ∈ wA := wm (tq1 (i := 147) rfl) rfl
theorem q552 : Cond.fieldLink RX0 99 "FirstAwake$Valley" "home" "[I" ∈ wA := wm (tq1 (i := 60) rfl) rfl
theorem q553 : Cond.methodLink RX0 80 yX0_draw ∈ wA := wm (tq3 (i := 41) rfl) rfl
theorem q554 : Cond.instanceMethod yX0_draw ∈ wA := wm (tq3 (i := 43) rfl) rfl
theorem q555 : Cond.selects RX0 yX0_draw yX0_draw ∈ wA := wm (tqp (i := 9) rfl) rfl
theorem q556 : Cond.code yX0_draw cX0_draw 2 (some .int) ∈ wA := wm (tq3 (i := 44) rfl) rfl
theorem q557 : Cond.fieldLink RX0 69 "FirstAwake$Course" "seed" "I" ∈ wA := wm (tq1 (i := 188) rfl) rfl
theorem q558 : Cond.constantLong RX0 105 (1103515245) ∈ wA := wm (tq3 (i := 45) rfl) rfl
theorem q559 : Cond.constantLong RX0 107 (12345) ∈ wA := wm (tq3 (i := 46) rfl) rfl
theorem q560 : Cond.constantLong RX0 109 (2147483647) ∈ wA := wm (tq3 (i := 47) rfl) rfl
theorem q561 : Cond.constant RX0 111 (65536) ∈ wA := wm (tq3 (i := 48) rfl) rfl
theorem q562 : Cond.methodLink RX0 84 yX1_minuteAt ∈ wA := wm (tq3 (i := 49) rfl) rfl
theorem q563 : Cond.instanceMethod yX1_minuteAt ∈ wA := wm (tq3 (i := 50) rfl) rfl
theorem q564 : Cond.selects RX1 yX1_minuteAt yX1_minuteAt ∈ wA := wm (tq3 (i := 51) rfl) rfl
theorem q565 : Cond.code yX1_minuteAt cX1_minuteAt 3 (some .int) ∈ wA := wm (tq3 (i := 52) rfl) rfl
theorem q566 : Cond.methodLink RX0 91 yX0_whoIsAhead ∈ wA := wm (tq3 (i := 53) rfl) rfl
theorem q567 : Cond.instanceMethod yX0_whoIsAhead ∈ wA := wm (tq3 (i := 55) rfl) rfl
theorem q568 : Cond.selects RX0 yX0_whoIsAhead yX0_whoIsAhead ∈ wA := wm (tqp (i := 10) rfl) rfl
theorem q569 : Cond.code yX0_whoIsAhead cX0_whoIsAhead 4 (some .int) ∈ wA := wm (tq3 (i := 56) rfl) rfl
theorem q570 : Cond.methodLink RX0 95 yX0_keepRuler ∈ wA := wm (tq3 (i := 57) rfl) rfl
theorem q571 : Cond.instanceMethod yX0_keepRuler ∈ wA := wm (tq3 (i := 59) rfl) rfl
theorem q572 : Cond.selects RX0 yX0_keepRuler yX0_keepRuler ∈ wA := wm (tqp (i := 11) rfl) rfl
theorem q573 : Cond.code yX0_keepRuler cX0_keepRuler 2 none ∈ wA := wm (tq3 (i := 60) rfl) rfl
theorem q574 : Cond.methodLink RX0 102 yX0_countDayOf ∈ wA := wm (tq3 (i := 61) rfl) rfl
theorem q575 : Cond.instanceMethod yX0_countDayOf ∈ wA := wm (tq3 (i := 63) rfl) rfl
theorem q576 : Cond.selects RX0 yX0_countDayOf yX0_countDayOf ∈ wA := wm (tqp (i := 12) rfl) rfl
theorem q577 : Cond.code yX0_countDayOf cX0_countDayOf 3 none ∈ wA := wm (tq3 (i := 64) rfl) rfl
theorem q578 : Cond.fieldLink RX0 112 "FirstAwake$Valley" "need" "[I" ∈ wA := wm (tq1 (i := 43) rfl) rfl
theorem q579 : Cond.fieldLink RX0 115 "FirstAwake$Valley" "worth" "[I" ∈ wA := wm (tq1 (i := 48) rfl) rfl
theorem q580 : Cond.methodLink RL 63 yX8_dawn ∈ wA := wm (tq5 (i := 42) rfl) rfl
theorem q581 : Cond.instanceMethod yX8_dawn ∈ wA := wm (tq5 (i := 43) rfl) rfl
theorem q582 : Cond.selects RX8 yX8_dawn yX8_dawn ∈ wA := wm (tq5 (i := 44) rfl) rfl
theorem q583 : Cond.code yX8_dawn cX8_dawn 4 (some .int) ∈ wA := wm (tq5 (i := 45) rfl) rfl
theorem q584 : Cond.constantLong RX8 266 (99) ∈ wA := wm (tq5 (i := 46) rfl) rfl
theorem q585 : Cond.constant RX8 268 (-1000000003) ∈ wA := wm (tq5 (i := 47) rfl) rfl
theorem q586 : Cond.methodLink RX8 269 yX8_dawnNow ∈ wA := wm (tq5 (i := 48) rfl) rfl
theorem q587 : Cond.instanceMethod yX8_dawnNow ∈ wA := wm (tq5 (i := 50) rfl) rfl
theorem q588 : Cond.selects RX8 yX8_dawnNow yX8_dawnNow ∈ wA := wm (tqp (i := 37) rfl) rfl
theorem q589 : Cond.code yX8_dawnNow cX8_dawnNow 5 (some .int) ∈ wA := wm (tq5 (i := 51) rfl) rfl
theorem q590 : Cond.methodLink RX8 263 yX8_draw ∈ wA := wm (tq5 (i := 52) rfl) rfl
theorem q591 : Cond.instanceMethod yX8_draw ∈ wA := wm (tq5 (i := 54) rfl) rfl
theorem q592 : Cond.selects RX8 yX8_draw yX8_draw ∈ wA := wm (tqp (i := 38) rfl) rfl
theorem q593 : Cond.code yX8_draw cX8_draw 2 (some .int) ∈ wA := wm (tq5 (i := 55) rfl) rfl
theorem q594 : Cond.fieldLink RX8 253 "FirstAwakeModel" "seed" "I" ∈ wA := wm (tq4 (i := 21) rfl) rfl
theorem q595 : Cond.constantLong RX8 256 (1103515245) ∈ wA := wm (tq5 (i := 56) rfl) rfl
theorem q596 : Cond.constantLong RX8 258 (12345) ∈ wA := wm (tq5 (i := 57) rfl) rfl
theorem q597 : Cond.constantLong RX8 260 (2147483648) ∈ wA := wm (tq5 (i := 58) rfl) rfl
theorem q598 : Cond.constant RX8 262 (65536) ∈ wA := wm (tq5 (i := 59) rfl) rfl
theorem q599 : Cond.methodLink RL 64 yX7_ruler ∈ wA := wm (tq3 (i := 65) rfl) rfl
theorem q600 : Cond.instanceMethod yX7_ruler ∈ wA := wm (tq3 (i := 66) rfl) rfl
theorem q601 : Cond.selects RX7 yX7_ruler yX7_ruler ∈ wA := wm (tq3 (i := 67) rfl) rfl
theorem q602 : Cond.code yX7_ruler cX7_ruler 3 (some .int) ∈ wA := wm (tq3 (i := 68) rfl) rfl
theorem q603 : Cond.fieldLink RX7 189 "FirstAwake$Course" "rulers" "[I" ∈ wA := wm (tq1 (i := 185) rfl) rfl
theorem q604 : Cond.fieldLink RX7 192 "FirstAwake$Course" "minutes" "[I" ∈ wA := wm (tq1 (i := 187) rfl) rfl
theorem q605 : Cond.methodLink RL 67 yX8_ruler ∈ wA := wm (tq5 (i := 60) rfl) rfl
theorem q606 : Cond.instanceMethod yX8_ruler ∈ wA := wm (tq5 (i := 61) rfl) rfl
theorem q607 : Cond.selects RX8 yX8_ruler yX8_ruler ∈ wA := wm (tq5 (i := 62) rfl) rfl
theorem q608 : Cond.code yX8_ruler cX8_ruler 3 (some .int) ∈ wA := wm (tq5 (i := 63) rfl) rfl
theorem q609 : Cond.methodLink RL 68 yX7_odds ∈ wA := wm (tq3 (i := 69) rfl) rfl
theorem q610 : Cond.instanceMethod yX7_odds ∈ wA := wm (tq3 (i := 70) rfl) rfl
theorem q611 : Cond.selects RX7 yX7_odds yX7_odds ∈ wA := wm (tq3 (i := 71) rfl) rfl
theorem q612 : Cond.code yX7_odds cX7_odds 2 (some .int) ∈ wA := wm (tq3 (i := 72) rfl) rfl
theorem q613 : Cond.methodLink RX7 195 yX1_oddsOf ∈ wA := wm (tq3 (i := 73) rfl) rfl
theorem q614 : Cond.instanceMethod yX1_oddsOf ∈ wA := wm (tq3 (i := 74) rfl) rfl
theorem q615 : Cond.selects RX1 yX1_oddsOf yX1_oddsOf ∈ wA := wm (tq3 (i := 75) rfl) rfl
theorem q616 : Cond.code yX1_oddsOf cX1_oddsOf 8 (some .int) ∈ wA := wm (tq3 (i := 76) rfl) rfl
theorem q617 : Cond.constant RX1 91 (1000000000) ∈ wA := wm (tq3 (i := 77) rfl) rfl
theorem q618 : Cond.methodLink RX1 92 yX1_letting ∈ wA := wm (tq3 (i := 78) rfl) rfl
theorem q619 : Cond.instanceMethod yX1_letting ∈ wA := wm (tq3 (i := 80) rfl) rfl
theorem q620 : Cond.selects RX1 yX1_letting yX1_letting ∈ wA := wm (tqp (i := 13) rfl) rfl
theorem q621 : Cond.code yX1_letting cX1_letting 7 (some .int) ∈ wA := wm (tq3 (i := 81) rfl) rfl
theorem q622 : Cond.methodLink RL 71 yX8_odds ∈ wA := wm (tq5 (i := 64) rfl) rfl
theorem q623 : Cond.instanceMethod yX8_odds ∈ wA := wm (tq5 (i := 65) rfl) rfl
theorem q624 : Cond.selects RX8 yX8_odds yX8_odds ∈ wA := wm (tq5 (i := 66) rfl) rfl
theorem q625 : Cond.code yX8_odds cX8_odds 2 (some .int) ∈ wA := wm (tq5 (i := 67) rfl) rfl
theorem q626 : Cond.methodLink RX8 284 yX8_oddsOf ∈ wA := wm (tq5 (i := 68) rfl) rfl
theorem q627 : Cond.instanceMethod yX8_oddsOf ∈ wA := wm (tq5 (i := 70) rfl) rfl
theorem q628 : Cond.selects RX8 yX8_oddsOf yX8_oddsOf ∈ wA := wm (tqp (i := 39) rfl) rfl
theorem q629 : Cond.code yX8_oddsOf cX8_oddsOf 9 (some .int) ∈ wA := wm (tq5 (i := 71) rfl) rfl
theorem q630 : Cond.constantLong RX8 278 (1000000000) ∈ wA := wm (tq5 (i := 72) rfl) rfl
theorem q631 : Cond.methodLink RX8 280 yX8_lets ∈ wA := wm (tq5 (i := 73) rfl) rfl
theorem q632 : Cond.instanceMethod yX8_lets ∈ wA := wm (tq5 (i := 75) rfl) rfl
theorem q633 : Cond.selects RX8 yX8_lets yX8_lets ∈ wA := wm (tqp (i := 40) rfl) rfl
theorem q634 : Cond.code yX8_lets cX8_lets 7 (some .int) ∈ wA := wm (tq5 (i := 76) rfl) rfl
theorem q635 : Cond.methodLink RX8 275 yX8_later ∈ wA := wm (tq5 (i := 77) rfl) rfl
theorem q636 : Cond.instanceMethod yX8_later ∈ wA := wm (tq5 (i := 79) rfl) rfl
theorem q637 : Cond.selects RX8 yX8_later yX8_later ∈ wA := wm (tqp (i := 41) rfl) rfl
theorem q638 : Cond.code yX8_later cX8_later 3 (some .int) ∈ wA := wm (tq5 (i := 80) rfl) rfl
theorem q639 : Cond.methodLink RX8 272 yX8_laterRaw ∈ wA := wm (tq5 (i := 81) rfl) rfl
theorem q640 : Cond.instanceMethod yX8_laterRaw ∈ wA := wm (tq5 (i := 83) rfl) rfl
theorem q641 : Cond.selects RX8 yX8_laterRaw yX8_laterRaw ∈ wA := wm (tqp (i := 42) rfl) rfl
theorem q642 : Cond.code yX8_laterRaw cX8_laterRaw 5 (some .int) ∈ wA := wm (tq5 (i := 84) rfl) rfl
theorem q643 : Cond.methodLink RL 72 yX7_together ∈ wA := wm (tq3 (i := 82) rfl) rfl
theorem q644 : Cond.instanceMethod yX7_together ∈ wA := wm (tq3 (i := 83) rfl) rfl
theorem q645 : Cond.selects RX7 yX7_together yX7_together ∈ wA := wm (tq3 (i := 84) rfl) rfl
theorem q646 : Cond.code yX7_together cX7_together 3 (some .int) ∈ wA := wm (tq3 (i := 85) rfl) rfl
theorem q647 : Cond.methodLink RX7 198 yX1_oddsOfHouses ∈ wA := wm (tq3 (i := 86) rfl) rfl
theorem q648 : Cond.instanceMethod yX1_oddsOfHouses ∈ wA := wm (tq3 (i := 87) rfl) rfl
theorem q649 : Cond.selects RX1 yX1_oddsOfHouses yX1_oddsOfHouses ∈ wA := wm (tq3 (i := 88) rfl) rfl
theorem q650 : Cond.code yX1_oddsOfHouses cX1_oddsOfHouses 4 (some .int) ∈ wA := wm (tq3 (i := 89) rfl) rfl
theorem q651 : Cond.methodLink RX1 87 yX1_oddsOf ∈ wA := wm (tq3 (i := 90) rfl) rfl
theorem q652 : Cond.methodLink RL 75 yX8_together ∈ wA := wm (tq5 (i := 85) rfl) rfl
theorem q653 : Cond.instanceMethod yX8_together ∈ wA := wm (tq5 (i := 86) rfl) rfl
theorem q654 : Cond.selects RX8 yX8_together yX8_together ∈ wA := wm (tq5 (i := 87) rfl) rfl
theorem q655 : Cond.code yX8_together cX8_together 2 (some .int) ∈ wA := wm (tq5 (i := 88) rfl) rfl
theorem q656 : Cond.methodLink RX8 291 yX8_oddsOfHouses ∈ wA := wm (tq5 (i := 89) rfl) rfl
theorem q657 : Cond.instanceMethod yX8_oddsOfHouses ∈ wA := wm (tq5 (i := 91) rfl) rfl
theorem q658 : Cond.selects RX8 yX8_oddsOfHouses yX8_oddsOfHouses ∈ wA := wm (tqp (i := 43) rfl) rfl
theorem q659 : Cond.code yX8_oddsOfHouses cX8_oddsOfHouses 4 (some .int) ∈ wA := wm (tq5 (i := 92) rfl) rfl
theorem q660 : Cond.methodLink RX8 287 yX8_has ∈ wA := wm (tq5 (i := 93) rfl) rfl
theorem q661 : Cond.static yX8_has ∈ wA := wm (tq5 (i := 94) rfl) rfl
theorem q662 : Cond.code yX8_has cX8_has 2 (some .boolean) ∈ wA := wm (tq5 (i := 95) rfl) rfl
theorem q663 : Cond.methodLink RL 76 yX7_best ∈ wA := wm (tq3 (i := 91) rfl) rfl
theorem q664 : Cond.instanceMethod yX7_best ∈ wA := wm (tq3 (i := 92) rfl) rfl
theorem q665 : Cond.selects RX7 yX7_best yX7_best ∈ wA := wm (tq3 (i := 93) rfl) rfl
theorem q666 : Cond.code yX7_best cX7_best 3 (some .int) ∈ wA := wm (tq3 (i := 94) rfl) rfl
theorem q667 : Cond.fieldLink RX7 205 "FirstAwake$Planner" "bestShift" "I" ∈ wA := wm (tq2 (i := 9) rfl) rfl
theorem q668 : Cond.fieldLink RX7 208 "FirstAwake$Planner" "bestOdds" "I" ∈ wA := wm (tq2 (i := 13) rfl) rfl
theorem q669 : Cond.methodLink RX7 201 yX2_seekShift ∈ wA := wm (tq3 (i := 95) rfl) rfl
theorem q670 : Cond.instanceMethod yX2_seekShift ∈ wA := wm (tq3 (i := 96) rfl) rfl
theorem q671 : Cond.selects RX2 yX2_seekShift yX2_seekShift ∈ wA := wm (tq3 (i := 97) rfl) rfl
theorem q672 : Cond.code yX2_seekShift cX2_seekShift 9 none ∈ wA := wm (tq3 (i := 98) rfl) rfl
theorem q673 : Cond.fieldLink RX2 35 "FirstAwake$Valley" "bed" "[I" ∈ wA := wm (tq1 (i := 50) rfl) rfl
theorem q674 : Cond.fieldLink RX2 48 "FirstAwake$Valley" "worth" "[I" ∈ wA := wm (tq1 (i := 45) rfl) rfl
theorem q675 : Cond.constantLong RX2 51 (1000000000) ∈ wA := wm (tq3 (i := 110) rfl) rfl
theorem q676 : Cond.fieldLink RX2 53 "FirstAwake$Planner" "bestShift" "I" ∈ wA := wm (tq2 (i := 8) rfl) rfl
theorem q677 : Cond.fieldLink RX2 57 "FirstAwake$Planner" "bestOdds" "I" ∈ wA := wm (tq2 (i := 12) rfl) rfl
theorem q678 : Cond.methodLink RX2 31 yX1_copyFrom ∈ wA := wm (tq3 (i := 99) rfl) rfl
theorem q679 : Cond.instanceMethod yX1_copyFrom ∈ wA := wm (tq3 (i := 100) rfl) rfl
theorem q680 : Cond.selects RX1 yX1_copyFrom yX1_copyFrom ∈ wA := wm (tq3 (i := 101) rfl) rfl
theorem q681 : Cond.code yX1_copyFrom cX1_copyFrom 2 none ∈ wA := wm (tq3 (i := 102) rfl) rfl
theorem q682 : Cond.methodLink RX1 51 arraycopyName ∈ wA := wm (tq3 (i := 103) rfl) rfl
theorem q683 : Cond.methodLink RX2 40 yX1_shiftHouse ∈ wA := wm (tq3 (i := 104) rfl) rfl
theorem q684 : Cond.instanceMethod yX1_shiftHouse ∈ wA := wm (tq3 (i := 105) rfl) rfl
theorem q685 : Cond.selects RX1 yX1_shiftHouse yX1_shiftHouse ∈ wA := wm (tq3 (i := 106) rfl) rfl
theorem q686 : Cond.code yX1_shiftHouse cX1_shiftHouse 5 (some .boolean) ∈ wA := wm (tq3 (i := 107) rfl) rfl
theorem q687 : Cond.methodLink RX1 69 yX1_shiftOne ∈ wA := wm (tq3 (i := 108) rfl) rfl
theorem q688 : Cond.methodLink RX2 44 yX1_oddsOfHouses ∈ wA := wm (tq3 (i := 109) rfl) rfl
theorem q689 : Cond.methodLink RL 79 yX8_best ∈ wA := wm (tq5 (i := 96) rfl) rfl
theorem q690 : Cond.instanceMethod yX8_best ∈ wA := wm (tq5 (i := 97) rfl) rfl
theorem q691 : Cond.selects RX8 yX8_best yX8_best ∈ wA := wm (tq5 (i := 98) rfl) rfl
theorem q692 : Cond.code yX8_best cX8_best 4 (some .int) ∈ wA := wm (tq5 (i := 99) rfl) rfl
theorem q693 : Cond.fieldLink RX8 298 "FirstAwakeModel" "bestOdds" "I" ∈ wA := wm (tq4 (i := 41) rfl) rfl
theorem q694 : Cond.methodLink RX8 301 yX8_bestShift ∈ wA := wm (tq5 (i := 100) rfl) rfl
theorem q695 : Cond.instanceMethod yX8_bestShift ∈ wA := wm (tq5 (i := 102) rfl) rfl
theorem q696 : Cond.selects RX8 yX8_bestShift yX8_bestShift ∈ wA := wm (tqp (i := 44) rfl) rfl
theorem q697 : Cond.code yX8_bestShift cX8_bestShift 10 (some .int) ∈ wA := wm (tq5 (i := 103) rfl) rfl
theorem q698 : Cond.methodLink RX8 294 yX8_shiftHouse ∈ wA := wm (tq5 (i := 104) rfl) rfl
theorem q699 : Cond.instanceMethod yX8_shiftHouse ∈ wA := wm (tq5 (i := 106) rfl) rfl
theorem q700 : Cond.selects RX8 yX8_shiftHouse yX8_shiftHouse ∈ wA := wm (tqp (i := 45) rfl) rfl
theorem q701 : Cond.code yX8_shiftHouse cX8_shiftHouse 4 none ∈ wA := wm (tq5 (i := 107) rfl) rfl
theorem q702 : Cond.methodLink RL 80 yX7_rests ∈ wA := wm (tq3 (i := 111) rfl) rfl
theorem q703 : Cond.instanceMethod yX7_rests ∈ wA := wm (tq3 (i := 112) rfl) rfl
theorem q704 : Cond.selects RX7 yX7_rests yX7_rests ∈ wA := wm (tq3 (i := 113) rfl) rfl
theorem q705 : Cond.code yX7_rests cX7_rests 3 (some .int) ∈ wA := wm (tq3 (i := 114) rfl) rfl
theorem q706 : Cond.methodLink RX7 211 yX2_settle ∈ wA := wm (tq3 (i := 115) rfl) rfl
theorem q707 : Cond.instanceMethod yX2_settle ∈ wA := wm (tq3 (i := 116) rfl) rfl
theorem q708 : Cond.selects RX2 yX2_settle yX2_settle ∈ wA := wm (tq3 (i := 117) rfl) rfl
theorem q709 : Cond.code yX2_settle cX2_settle 3 (some .int) ∈ wA := wm (tq3 (i := 118) rfl) rfl
theorem q710 : Cond.methodLink RX2 67 yX2_playRound ∈ wA := wm (tq3 (i := 119) rfl) rfl
theorem q711 : Cond.instanceMethod yX2_playRound ∈ wA := wm (tq3 (i := 121) rfl) rfl
theorem q712 : Cond.selects RX2 yX2_playRound yX2_playRound ∈ wA := wm (tqp (i := 14) rfl) rfl
theorem q713 : Cond.code yX2_playRound cX2_playRound 3 (some .boolean) ∈ wA := wm (tq3 (i := 122) rfl) rfl
theorem q714 : Cond.fieldLink RX2 79 "FirstAwake$Valley" "houses" "I" ∈ wA := wm (tq1 (i := 38) rfl) rfl
theorem q715 : Cond.methodLink RX2 82 yX5_sleepersOf ∈ wA := wm (tq3 (i := 123) rfl) rfl
theorem q716 : Cond.methodLink RX2 85 yX2_seekShift ∈ wA := wm (tq3 (i := 124) rfl) rfl
theorem q717 : Cond.methodLink RX2 71 yX2_codeOfPlan ∈ wA := wm (tq3 (i := 125) rfl) rfl
theorem q718 : Cond.instanceMethod yX2_codeOfPlan ∈ wA := wm (tq3 (i := 127) rfl) rfl
theorem q719 : Cond.selects RX2 yX2_codeOfPlan yX2_codeOfPlan ∈ wA := wm (tqp (i := 15) rfl) rfl
theorem q720 : Cond.code yX2_codeOfPlan cX2_codeOfPlan 3 (some .int) ∈ wA := wm (tq3 (i := 128) rfl) rfl
theorem q721 : Cond.fieldLink RX2 89 "FirstAwake$Valley" "sleepers" "I" ∈ wA := wm (tq1 (i := 58) rfl) rfl
theorem q722 : Cond.fieldLink RX2 92 "FirstAwake$Night" "shifted" "[I" ∈ wA := wm (tq1 (i := 138) rfl) rfl
theorem q723 : Cond.methodLink RX2 75 yX2_wasThere ∈ wA := wm (tq3 (i := 129) rfl) rfl
theorem q724 : Cond.instanceMethod yX2_wasThere ∈ wA := wm (tq3 (i := 131) rfl) rfl
theorem q725 : Cond.selects RX2 yX2_wasThere yX2_wasThere ∈ wA := wm (tqp (i := 16) rfl) rfl
theorem q726 : Cond.code yX2_wasThere cX2_wasThere 3 (some .boolean) ∈ wA := wm (tq3 (i := 132) rfl) rfl
theorem q727 : Cond.methodLink RX7 215 yX2_settledShift ∈ wA := wm (tq3 (i := 133) rfl) rfl
theorem q728 : Cond.instanceMethod yX2_settledShift ∈ wA := wm (tq3 (i := 134) rfl) rfl
theorem q729 : Cond.selects RX2 yX2_settledShift yX2_settledShift ∈ wA := wm (tq3 (i := 135) rfl) rfl
theorem q730 : Cond.code yX2_settledShift cX2_settledShift 3 (some .int) ∈ wA := wm (tq3 (i := 136) rfl) rfl
theorem q731 : Cond.fieldLink RX2 95 "FirstAwake$Valley" "home" "[I" ∈ wA := wm (tq1 (i := 64) rfl) rfl
theorem q732 : Cond.methodLink RL 83 yX8_rests ∈ wA := wm (tq5 (i := 108) rfl) rfl
theorem q733 : Cond.instanceMethod yX8_rests ∈ wA := wm (tq5 (i := 109) rfl) rfl
theorem q734 : Cond.selects RX8 yX8_rests yX8_rests ∈ wA := wm (tq5 (i := 110) rfl) rfl
theorem q735 : Cond.code yX8_rests cX8_rests 5 (some .int) ∈ wA := wm (tq5 (i := 111) rfl) rfl
theorem q736 : Cond.methodLink RX8 304 yX8_roundChanges ∈ wA := wm (tq5 (i := 112) rfl) rfl
theorem q737 : Cond.instanceMethod yX8_roundChanges ∈ wA := wm (tq5 (i := 114) rfl) rfl
theorem q738 : Cond.selects RX8 yX8_roundChanges yX8_roundChanges ∈ wA := wm (tqp (i := 46) rfl) rfl
theorem q739 : Cond.code yX8_roundChanges cX8_roundChanges 5 (some .boolean) ∈ wA := wm (tq5 (i := 115) rfl) rfl
theorem q740 : Cond.methodLink RX8 308 yX8_leastOf ∈ wA := wm (tq5 (i := 116) rfl) rfl
theorem q741 : Cond.instanceMethod yX8_leastOf ∈ wA := wm (tq5 (i := 118) rfl) rfl
theorem q742 : Cond.selects RX8 yX8_leastOf yX8_leastOf ∈ wA := wm (tqp (i := 47) rfl) rfl
theorem q743 : Cond.code yX8_leastOf cX8_leastOf 4 (some .int) ∈ wA := wm (tq5 (i := 119) rfl) rfl
theorem q744 : Cond.methodLink RL 84 yX7_loud ∈ wA := wm (tq3 (i := 137) rfl) rfl
theorem q745 : Cond.instanceMethod yX7_loud ∈ wA := wm (tq3 (i := 138) rfl) rfl
theorem q746 : Cond.selects RX7 yX7_loud yX7_loud ∈ wA := wm (tq3 (i := 139) rfl) rfl
theorem q747 : Cond.code yX7_loud cX7_loud 3 (some .int) ∈ wA := wm (tq3 (i := 140) rfl) rfl
theorem q748 : Cond.fieldLink RX7 221 "FirstAwake$Planner" "bestLoudness" "I" ∈ wA := wm (tq2 (i := 11) rfl) rfl
theorem q749 : Cond.methodLink RX7 218 yX2_seekNoise ∈ wA := wm (tq3 (i := 141) rfl) rfl
theorem q750 : Cond.instanceMethod yX2_seekNoise ∈ wA := wm (tq3 (i := 142) rfl) rfl
theorem q751 : Cond.selects RX2 yX2_seekNoise yX2_seekNoise ∈ wA := wm (tq3 (i := 143) rfl) rfl
theorem q752 : Cond.code yX2_seekNoise cX2_seekNoise 5 none ∈ wA := wm (tq3 (i := 144) rfl) rfl
theorem q753 : Cond.fieldLink RX2 64 "FirstAwake$Planner" "bestLoudness" "I" ∈ wA := wm (tq2 (i := 10) rfl) rfl
theorem q754 : Cond.methodLink RX2 60 yX1_makeNoise ∈ wA := wm (tq3 (i := 145) rfl) rfl
theorem q755 : Cond.methodLink RL 87 yX8_loud ∈ wA := wm (tq5 (i := 120) rfl) rfl
theorem q756 : Cond.instanceMethod yX8_loud ∈ wA := wm (tq5 (i := 121) rfl) rfl
theorem q757 : Cond.selects RX8 yX8_loud yX8_loud ∈ wA := wm (tq5 (i := 122) rfl) rfl
theorem q758 : Cond.code yX8_loud cX8_loud 12 (some .int) ∈ wA := wm (tq5 (i := 123) rfl) rfl
theorem q759 : Cond.methodLink RL 88 yX7_work ∈ wA := wm (tq3 (i := 146) rfl) rfl
theorem q760 : Cond.instanceMethod yX7_work ∈ wA := wm (tq3 (i := 147) rfl) rfl
theorem q761 : Cond.selects RX7 yX7_work yX7_work ∈ wA := wm (tq3 (i := 148) rfl) rfl
theorem q762 : Cond.code yX7_work cX7_work 4 (some .int) ∈ wA := wm (tq3 (i := 149) rfl) rfl
theorem q763 : Cond.fieldLink RX7 231 "FirstAwake$Prospect" "done" "J" ∈ wA := wm (tq2 (i := 39) rfl) rfl
theorem q764 : Cond.methodLink RX7 224 yX7_lookAhead ∈ wA := wm (tq3 (i := 150) rfl) rfl
theorem q765 : Cond.instanceMethod yX7_lookAhead ∈ wA := wm (tq3 (i := 152) rfl) rfl
theorem q766 : Cond.selects RX7 yX7_lookAhead yX7_lookAhead ∈ wA := wm (tqp (i := 17) rfl) rfl
theorem q767 : Cond.code yX7_lookAhead cX7_lookAhead 2 none ∈ wA := wm (tq3 (i := 153) rfl) rfl
theorem q768 : Cond.methodLink RX7 238 yX3_begin ∈ wA := wm (tq3 (i := 154) rfl) rfl
theorem q769 : Cond.instanceMethod yX3_begin ∈ wA := wm (tq3 (i := 155) rfl) rfl
theorem q770 : Cond.selects RX3 yX3_begin yX3_begin ∈ wA := wm (tq3 (i := 156) rfl) rfl
theorem q771 : Cond.code yX3_begin cX3_begin 4 none ∈ wA := wm (tq3 (i := 157) rfl) rfl
theorem q772 : Cond.fieldLink RX3 21 "FirstAwake$Prospect" "need" "I" ∈ wA := wm (tq2 (i := 36) rfl) rfl
theorem q773 : Cond.fieldLink RX3 25 "FirstAwake$Prospect" "dayOdds" "J" ∈ wA := wm (tq2 (i := 37) rfl) rfl
theorem q774 : Cond.fieldLink RX3 29 "FirstAwake$Prospect" "done" "J" ∈ wA := wm (tq2 (i := 38) rfl) rfl
theorem q775 : Cond.constantLong RX3 32 (1000000000) ∈ wA := wm (tq3 (i := 161) rfl) rfl
theorem q776 : Cond.methodLink RX3 15 yJ7_fill_d0a16 ∈ wA := wm (tq3 (i := 158) rfl) rfl
theorem q777 : Cond.static yJ7_fill_d0a16 ∈ wA := wm (tq3 (i := 159) rfl) rfl
theorem q778 : Cond.code yJ7_fill_d0a16 cJ7_fill_d0a16 5 none ∈ wA := wm (tq3 (i := 160) rfl) rfl
theorem q779 : Cond.methodLink RX7 228 yX3_goOnADay ∈ wA := wm (tq3 (i := 162) rfl) rfl
theorem q780 : Cond.instanceMethod yX3_goOnADay ∈ wA := wm (tq3 (i := 163) rfl) rfl
theorem q781 : Cond.selects RX3 yX3_goOnADay yX3_goOnADay ∈ wA := wm (tq3 (i := 164) rfl) rfl
theorem q782 : Cond.code yX3_goOnADay cX3_goOnADay 6 none ∈ wA := wm (tq3 (i := 165) rfl) rfl
theorem q783 : Cond.methodLink RL 91 yX8_work ∈ wA := wm (tq5 (i := 124) rfl) rfl
theorem q784 : Cond.instanceMethod yX8_work ∈ wA := wm (tq5 (i := 125) rfl) rfl
theorem q785 : Cond.selects RX8 yX8_work yX8_work ∈ wA := wm (tq5 (i := 126) rfl) rfl
theorem q786 : Cond.code yX8_work cX8_work 6 (some .int) ∈ wA := wm (tq5 (i := 127) rfl) rfl
theorem q787 : Cond.constantLong RX8 311 (60) ∈ wA := wm (tq5 (i := 128) rfl) rfl
theorem q788 : Cond.methodLink RX8 313 yX8_startWork ∈ wA := wm (tq5 (i := 129) rfl) rfl
theorem q789 : Cond.instanceMethod yX8_startWork ∈ wA := wm (tq5 (i := 131) rfl) rfl
theorem q790 : Cond.selects RX8 yX8_startWork yX8_startWork ∈ wA := wm (tqp (i := 48) rfl) rfl
theorem q791 : Cond.code yX8_startWork cX8_startWork 3 none ∈ wA := wm (tq5 (i := 132) rfl) rfl
theorem q792 : Cond.methodLink RX8 317 yX8_workDay ∈ wA := wm (tq5 (i := 133) rfl) rfl
theorem q793 : Cond.instanceMethod yX8_workDay ∈ wA := wm (tq5 (i := 135) rfl) rfl
theorem q794 : Cond.selects RX8 yX8_workDay yX8_workDay ∈ wA := wm (tqp (i := 49) rfl) rfl
theorem q795 : Cond.code yX8_workDay cX8_workDay 9 none ∈ wA := wm (tq5 (i := 136) rfl) rfl
theorem q796 : Cond.methodLink RL 92 yX7_likely ∈ wA := wm (tq3 (i := 166) rfl) rfl
theorem q797 : Cond.instanceMethod yX7_likely ∈ wA := wm (tq3 (i := 167) rfl) rfl
theorem q798 : Cond.selects RX7 yX7_likely yX7_likely ∈ wA := wm (tq3 (i := 168) rfl) rfl
theorem q799 : Cond.code yX7_likely cX7_likely 4 (some .int) ∈ wA := wm (tq3 (i := 169) rfl) rfl
theorem q800 : Cond.constantLong RX7 234 (100) ∈ wA := wm (tq3 (i := 170) rfl) rfl
theorem q801 : Cond.constantLong RX7 236 (1000000000) ∈ wA := wm (tq3 (i := 171) rfl) rfl
theorem q802 : Cond.methodLink RL 95 yX8_likely ∈ wA := wm (tq5 (i := 137) rfl) rfl
theorem q803 : Cond.instanceMethod yX8_likely ∈ wA := wm (tq5 (i := 138) rfl) rfl
theorem q804 : Cond.selects RX8 yX8_likely yX8_likely ∈ wA := wm (tq5 (i := 139) rfl) rfl
theorem q805 : Cond.code yX8_likely cX8_likely 6 (some .int) ∈ wA := wm (tq5 (i := 140) rfl) rfl
theorem q806 : Cond.constantLong RX8 321 (100) ∈ wA := wm (tq5 (i := 141) rfl) rfl
theorem q807 : Cond.methodLink RL 96 yX7_tell ∈ wA := wm (tq3 (i := 172) rfl) rfl
theorem q808 : Cond.instanceMethod yX7_tell ∈ wA := wm (tq3 (i := 173) rfl) rfl
theorem q809 : Cond.selects RX7 yX7_tell yX7_tell ∈ wA := wm (tq3 (i := 174) rfl) rfl
theorem q810 : Cond.code yX7_tell cX7_tell 3 (some .int) ∈ wA := wm (tq3 (i := 175) rfl) rfl
theorem q811 : Cond.methodLink RX7 241 yX6_add ∈ wA := wm (tq3 (i := 176) rfl) rfl
theorem q812 : Cond.instanceMethod yX6_add ∈ wA := wm (tq3 (i := 177) rfl) rfl
theorem q813 : Cond.selects RX6 yX6_add yX6_add ∈ wA := wm (tq3 (i := 178) rfl) rfl
theorem q814 : Cond.code yX6_add cX6_add 3 (some .boolean) ∈ wA := wm (tq3 (i := 179) rfl) rfl
theorem q815 : Cond.fieldLink RX6 27 "FirstAwake$Words" "count" "I" ∈ wA := wm (tq1 (i := 222) rfl) rfl
theorem q816 : Cond.methodLink RL 99 yX8_tell ∈ wA := wm (tq5 (i := 142) rfl) rfl
theorem q817 : Cond.instanceMethod yX8_tell ∈ wA := wm (tq5 (i := 143) rfl) rfl
theorem q818 : Cond.selects RX8 yX8_tell yX8_tell ∈ wA := wm (tq5 (i := 144) rfl) rfl
theorem q819 : Cond.code yX8_tell cX8_tell 3 (some .int) ∈ wA := wm (tq5 (i := 145) rfl) rfl
theorem q820 : Cond.constantLong RX8 323 (999) ∈ wA := wm (tq5 (i := 146) rfl) rfl
theorem q821 : Cond.methodLink RL 100 yX7_forget ∈ wA := wm (tq3 (i := 180) rfl) rfl
theorem q822 : Cond.instanceMethod yX7_forget ∈ wA := wm (tq3 (i := 181) rfl) rfl
theorem q823 : Cond.selects RX7 yX7_forget yX7_forget ∈ wA := wm (tq3 (i := 182) rfl) rfl
theorem q824 : Cond.code yX7_forget cX7_forget 2 (some .int) ∈ wA := wm (tq3 (i := 183) rfl) rfl
theorem q825 : Cond.methodLink RL 103 yX8_forget ∈ wA := wm (tq5 (i := 147) rfl) rfl
theorem q826 : Cond.instanceMethod yX8_forget ∈ wA := wm (tq5 (i := 148) rfl) rfl
theorem q827 : Cond.selects RX8 yX8_forget yX8_forget ∈ wA := wm (tq5 (i := 149) rfl) rfl
theorem q828 : Cond.code yX8_forget cX8_forget 2 (some .int) ∈ wA := wm (tq5 (i := 150) rfl) rfl
theorem q829 : Cond.methodLink RL 104 yX7_lies ∈ wA := wm (tq3 (i := 184) rfl) rfl
theorem q830 : Cond.instanceMethod yX7_lies ∈ wA := wm (tq3 (i := 185) rfl) rfl
theorem q831 : Cond.selects RX7 yX7_lies yX7_lies ∈ wA := wm (tq3 (i := 186) rfl) rfl
theorem q832 : Cond.code yX7_lies cX7_lies 1 (some .int) ∈ wA := wm (tq3 (i := 187) rfl) rfl
theorem q833 : Cond.methodLink RX7 245 yX6_firstLie ∈ wA := wm (tq3 (i := 188) rfl) rfl
theorem q834 : Cond.instanceMethod yX6_firstLie ∈ wA := wm (tq3 (i := 189) rfl) rfl
theorem q835 : Cond.selects RX6 yX6_firstLie yX6_firstLie ∈ wA := wm (tq3 (i := 190) rfl) rfl
theorem q836 : Cond.code yX6_firstLie cX6_firstLie 3 (some .int) ∈ wA := wm (tq3 (i := 191) rfl) rfl
theorem q837 : Cond.methodLink RX6 31 yX1_mayRuleAt ∈ wA := wm (tq3 (i := 192) rfl) rfl
theorem q838 : Cond.instanceMethod yX1_mayRuleAt ∈ wA := wm (tq3 (i := 193) rfl) rfl
theorem q839 : Cond.selects RX1 yX1_mayRuleAt yX1_mayRuleAt ∈ wA := wm (tq3 (i := 194) rfl) rfl
theorem q840 : Cond.code yX1_mayRuleAt cX1_mayRuleAt 4 (some .boolean) ∈ wA := wm (tq3 (i := 195) rfl) rfl
theorem q841 : Cond.methodLink RX1 96 yX1_firstMinute ∈ wA := wm (tq3 (i := 196) rfl) rfl
theorem q842 : Cond.methodLink RX1 99 yX1_lastMinute ∈ wA := wm (tq3 (i := 197) rfl) rfl
theorem q843 : Cond.methodLink RL 107 yX8_lies ∈ wA := wm (tq5 (i := 151) rfl) rfl
theorem q844 : Cond.instanceMethod yX8_lies ∈ wA := wm (tq5 (i := 152) rfl) rfl
theorem q845 : Cond.selects RX8 yX8_lies yX8_lies ∈ wA := wm (tq5 (i := 153) rfl) rfl
theorem q846 : Cond.code yX8_lies cX8_lies 2 (some .int) ∈ wA := wm (tq5 (i := 154) rfl) rfl
theorem q847 : Cond.methodLink RX8 325 yX8_isLie ∈ wA := wm (tq5 (i := 155) rfl) rfl
theorem q848 : Cond.instanceMethod yX8_isLie ∈ wA := wm (tq5 (i := 157) rfl) rfl
theorem q849 : Cond.selects RX8 yX8_isLie yX8_isLie ∈ wA := wm (tqp (i := 50) rfl) rfl
theorem q850 : Cond.code yX8_isLie cX8_isLie 6 (some .boolean) ∈ wA := wm (tq5 (i := 158) rfl) rfl
theorem q851 : Cond.methodLink RL 108 yX7_fits ∈ wA := wm (tq3 (i := 198) rfl) rfl
theorem q852 : Cond.instanceMethod yX7_fits ∈ wA := wm (tq3 (i := 199) rfl) rfl
theorem q853 : Cond.selects RX7 yX7_fits yX7_fits ∈ wA := wm (tq3 (i := 200) rfl) rfl
theorem q854 : Cond.code yX7_fits cX7_fits 3 (some .int) ∈ wA := wm (tq3 (i := 201) rfl) rfl
theorem q855 : Cond.methodLink RX7 248 yX6_fitting ∈ wA := wm (tq3 (i := 202) rfl) rfl
theorem q856 : Cond.instanceMethod yX6_fitting ∈ wA := wm (tq3 (i := 203) rfl) rfl
theorem q857 : Cond.selects RX6 yX6_fitting yX6_fitting ∈ wA := wm (tq3 (i := 204) rfl) rfl
theorem q858 : Cond.code yX6_fitting cX6_fitting 6 (some .int) ∈ wA := wm (tq3 (i := 205) rfl) rfl
theorem q859 : Cond.fieldLink RX6 39 "FirstAwake$Night" "shifted" "[I" ∈ wA := wm (tq1 (i := 137) rfl) rfl
theorem q860 : Cond.methodLink RX6 35 yX1_copyFrom ∈ wA := wm (tq3 (i := 206) rfl) rfl
theorem q861 : Cond.methodLink RX6 42 yX1_shiftOne ∈ wA := wm (tq3 (i := 207) rfl) rfl
theorem q862 : Cond.methodLink RX6 46 yX6_allTrueOf ∈ wA := wm (tq3 (i := 208) rfl) rfl
theorem q863 : Cond.instanceMethod yX6_allTrueOf ∈ wA := wm (tq3 (i := 210) rfl) rfl
theorem q864 : Cond.selects RX6 yX6_allTrueOf yX6_allTrueOf ∈ wA := wm (tqp (i := 18) rfl) rfl
theorem q865 : Cond.code yX6_allTrueOf cX6_allTrueOf 3 (some .boolean) ∈ wA := wm (tq3 (i := 211) rfl) rfl
theorem q866 : Cond.methodLink RL 111 yX8_fits ∈ wA := wm (tq5 (i := 159) rfl) rfl
theorem q867 : Cond.instanceMethod yX8_fits ∈ wA := wm (tq5 (i := 160) rfl) rfl
theorem q868 : Cond.selects RX8 yX8_fits yX8_fits ∈ wA := wm (tq5 (i := 161) rfl) rfl
theorem q869 : Cond.code yX8_fits cX8_fits 7 (some .int) ∈ wA := wm (tq5 (i := 162) rfl) rfl
theorem q870 : Cond.methodLink RX8 328 yX8_isHonest ∈ wA := wm (tq5 (i := 163) rfl) rfl
theorem q871 : Cond.instanceMethod yX8_isHonest ∈ wA := wm (tq5 (i := 165) rfl) rfl
theorem q872 : Cond.selects RX8 yX8_isHonest yX8_isHonest ∈ wA := wm (tqp (i := 51) rfl) rfl
theorem q873 : Cond.code yX8_isHonest cX8_isHonest 4 (some .boolean) ∈ wA := wm (tq5 (i := 166) rfl) rfl
theorem q874 : Cond.methodLink RL 112 yX7_seed ∈ wA := wm (tq3 (i := 212) rfl) rfl
theorem q875 : Cond.instanceMethod yX7_seed ∈ wA := wm (tq3 (i := 213) rfl) rfl
theorem q876 : Cond.selects RX7 yX7_seed yX7_seed ∈ wA := wm (tq3 (i := 214) rfl) rfl
theorem q877 : Cond.code yX7_seed cX7_seed 3 (some .int) ∈ wA := wm (tq3 (i := 215) rfl) rfl
theorem q878 : Cond.fieldLink RX7 252 "FirstAwake$Course" "seed" "I" ∈ wA := wm (tq1 (i := 189) rfl) rfl
theorem q879 : Cond.methodLink RL 115 yX8_seed ∈ wA := wm (tq5 (i := 167) rfl) rfl
theorem q880 : Cond.instanceMethod yX8_seed ∈ wA := wm (tq5 (i := 168) rfl) rfl
theorem q881 : Cond.selects RX8 yX8_seed yX8_seed ∈ wA := wm (tq5 (i := 169) rfl) rfl
theorem q882 : Cond.code yX8_seed cX8_seed 3 (some .int) ∈ wA := wm (tq5 (i := 170) rfl) rfl
theorem q883 : Cond.methodLink RL 116 yX7_keep ∈ wA := wm (tq3 (i := 216) rfl) rfl
theorem q884 : Cond.instanceMethod yX7_keep ∈ wA := wm (tq3 (i := 217) rfl) rfl
theorem q885 : Cond.selects RX7 yX7_keep yX7_keep ∈ wA := wm (tq3 (i := 218) rfl) rfl
theorem q886 : Cond.code yX7_keep cX7_keep 2 (some .int) ∈ wA := wm (tq3 (i := 219) rfl) rfl
theorem q887 : Cond.methodLink RX7 255 yX7_imageAt ∈ wA := wm (tq3 (i := 220) rfl) rfl
theorem q888 : Cond.instanceMethod yX7_imageAt ∈ wA := wm (tq3 (i := 222) rfl) rfl
theorem q889 : Cond.selects RX7 yX7_imageAt yX7_imageAt ∈ wA := wm (tqp (i := 19) rfl) rfl
theorem q890 : Cond.code yX7_imageAt cX7_imageAt 2 (some (.object "FirstAwake$Course")) ∈ wA := wm (tq3 (i := 223) rfl) rfl
theorem q891 : Cond.methodLink RX7 259 yX0_copyFrom ∈ wA := wm (tq3 (i := 224) rfl) rfl
theorem q892 : Cond.instanceMethod yX0_copyFrom ∈ wA := wm (tq3 (i := 225) rfl) rfl
theorem q893 : Cond.selects RX0 yX0_copyFrom yX0_copyFrom ∈ wA := wm (tq3 (i := 226) rfl) rfl
theorem q894 : Cond.code yX0_copyFrom cX0_copyFrom 2 none ∈ wA := wm (tq3 (i := 227) rfl) rfl
theorem q895 : Cond.methodLink RX0 63 arraycopyName ∈ wA := wm (tq3 (i := 229) rfl) rfl
theorem q896 : Cond.methodLink RX0 59 yX1_copyFrom ∈ wA := wm (tq3 (i := 228) rfl) rfl
theorem q897 : Cond.methodLink RL 119 yX8_keep ∈ wA := wm (tq5 (i := 171) rfl) rfl
theorem q898 : Cond.instanceMethod yX8_keep ∈ wA := wm (tq5 (i := 172) rfl) rfl
theorem q899 : Cond.selects RX8 yX8_keep yX8_keep ∈ wA := wm (tq5 (i := 173) rfl) rfl
theorem q900 : Cond.code yX8_keep cX8_keep 4 (some .int) ∈ wA := wm (tq5 (i := 174) rfl) rfl
theorem q901 : Cond.methodLink RL 120 yX7_goBack ∈ wA := wm (tq3 (i := 230) rfl) rfl
theorem q902 : Cond.instanceMethod yX7_goBack ∈ wA := wm (tq3 (i := 231) rfl) rfl
theorem q903 : Cond.selects RX7 yX7_goBack yX7_goBack ∈ wA := wm (tq3 (i := 232) rfl) rfl
theorem q904 : Cond.code yX7_goBack cX7_goBack 2 (some .int) ∈ wA := wm (tq3 (i := 233) rfl) rfl
theorem q905 : Cond.methodLink RL 123 yX8_goBack ∈ wA := wm (tq5 (i := 175) rfl) rfl
theorem q906 : Cond.instanceMethod yX8_goBack ∈ wA := wm (tq5 (i := 176) rfl) rfl
theorem q907 : Cond.selects RX8 yX8_goBack yX8_goBack ∈ wA := wm (tq5 (i := 177) rfl) rfl
theorem q908 : Cond.code yX8_goBack cX8_goBack 4 (some .int) ∈ wA := wm (tq5 (i := 178) rfl) rfl
theorem inX0 : ∀ w ∈ u_ws RX0 TX0 11, w ∈ wA := by
  intro w hw
  obtain ⟨k, hk, rfl⟩ := List.mem_map.mp hw
  have hk := List.mem_range.mp hk
  match k, hk with
  | 0, _ => exact wm (tq1 (i := 191) rfl) rfl
  | 1, _ => exact wm (tq1 (i := 193) rfl) rfl
  | 2, _ => exact wm (tq1 (i := 195) rfl) rfl
  | 3, _ => exact wm (tq1 (i := 197) rfl) rfl
  | 4, _ => exact wm (tq1 (i := 199) rfl) rfl
  | 5, _ => exact wm (tq1 (i := 201) rfl) rfl
  | 6, _ => exact wm (tq1 (i := 203) rfl) rfl
  | 7, _ => exact wm (tq1 (i := 205) rfl) rfl
  | 8, _ => exact wm (tq1 (i := 207) rfl) rfl
  | 9, _ => exact wm (tq1 (i := 209) rfl) rfl
  | 10, _ => exact wm (tq1 (i := 211) rfl) rfl
  | k + 11, h => exact absurd h (by omega)
theorem inX1 : ∀ w ∈ u_ws RX1 TX1 9, w ∈ wA := by
  intro w hw
  obtain ⟨k, hk, rfl⟩ := List.mem_map.mp hw
  have hk := List.mem_range.mp hk
  match k, hk with
  | 0, _ => exact wm (tq1 (i := 152) rfl) rfl
  | 1, _ => exact wm (tq1 (i := 154) rfl) rfl
  | 2, _ => exact wm (tq1 (i := 156) rfl) rfl
  | 3, _ => exact wm (tq1 (i := 158) rfl) rfl
  | 4, _ => exact wm (tq1 (i := 160) rfl) rfl
  | 5, _ => exact wm (tq1 (i := 162) rfl) rfl
  | 6, _ => exact wm (tq1 (i := 164) rfl) rfl
  | 7, _ => exact wm (tq1 (i := 166) rfl) rfl
  | 8, _ => exact wm (tq1 (i := 168) rfl) rfl
  | k + 9, h => exact absurd h (by omega)
theorem inX2 : ∀ w ∈ u_ws RX2 TX2 7, w ∈ wA := by
  intro w hw
  obtain ⟨k, hk, rfl⟩ := List.mem_map.mp hw
  have hk := List.mem_range.mp hk
  match k, hk with
  | 0, _ => exact wm (tq2 (i := 14) rfl) rfl
  | 1, _ => exact wm (tq2 (i := 16) rfl) rfl
  | 2, _ => exact wm (tq2 (i := 18) rfl) rfl
  | 3, _ => exact wm (tq2 (i := 20) rfl) rfl
  | 4, _ => exact wm (tq2 (i := 22) rfl) rfl
  | 5, _ => exact wm (tq2 (i := 24) rfl) rfl
  | 6, _ => exact wm (tq2 (i := 26) rfl) rfl
  | k + 7, h => exact absurd h (by omega)
theorem inX3 : ∀ w ∈ u_ws RX3 TX3 4, w ∈ wA := by
  intro w hw
  obtain ⟨k, hk, rfl⟩ := List.mem_map.mp hw
  have hk := List.mem_range.mp hk
  match k, hk with
  | 0, _ => exact wm (tq2 (i := 40) rfl) rfl
  | 1, _ => exact wm (tq2 (i := 42) rfl) rfl
  | 2, _ => exact wm (tq2 (i := 44) rfl) rfl
  | 3, _ => exact wm (tq2 (i := 46) rfl) rfl
  | k + 4, h => exact absurd h (by omega)
theorem inX4 : ∀ w ∈ u_ws RX4 TX4 6, w ∈ wA := by
  intro w hw
  obtain ⟨k, hk, rfl⟩ := List.mem_map.mp hw
  have hk := List.mem_range.mp hk
  match k, hk with
  | 0, _ => exact wm (tq1 (i := 108) rfl) rfl
  | 1, _ => exact wm (tq1 (i := 110) rfl) rfl
  | 2, _ => exact wm (tq1 (i := 112) rfl) rfl
  | 3, _ => exact wm (tq1 (i := 114) rfl) rfl
  | 4, _ => exact wm (tq1 (i := 116) rfl) rfl
  | 5, _ => exact wm (tq1 (i := 118) rfl) rfl
  | k + 6, h => exact absurd h (by omega)
theorem inX5 : ∀ w ∈ u_ws RX5 TX5 9, w ∈ wA := by
  intro w hw
  obtain ⟨k, hk, rfl⟩ := List.mem_map.mp hw
  have hk := List.mem_range.mp hk
  match k, hk with
  | 0, _ => exact wm (tq1 (i := 78) rfl) rfl
  | 1, _ => exact wm (tq1 (i := 80) rfl) rfl
  | 2, _ => exact wm (tq1 (i := 82) rfl) rfl
  | 3, _ => exact wm (tq1 (i := 84) rfl) rfl
  | 4, _ => exact wm (tq1 (i := 86) rfl) rfl
  | 5, _ => exact wm (tq1 (i := 88) rfl) rfl
  | 6, _ => exact wm (tq1 (i := 90) rfl) rfl
  | 7, _ => exact wm (tq1 (i := 92) rfl) rfl
  | 8, _ => exact wm (tq1 (i := 94) rfl) rfl
  | k + 9, h => exact absurd h (by omega)
theorem inX6 : ∀ w ∈ u_ws RX6 TX6 4, w ∈ wA := by
  intro w hw
  obtain ⟨k, hk, rfl⟩ := List.mem_map.mp hw
  have hk := List.mem_range.mp hk
  match k, hk with
  | 0, _ => exact wm (tq1 (i := 227) rfl) rfl
  | 1, _ => exact wm (tq1 (i := 229) rfl) rfl
  | 2, _ => exact wm (tq1 (i := 231) rfl) rfl
  | 3, _ => exact wm (tq1 (i := 233) rfl) rfl
  | k + 4, h => exact absurd h (by omega)
theorem inX7 : ∀ w ∈ u_ws RX7 TX7 9, w ∈ wA := by
  intro w hw
  obtain ⟨k, hk, rfl⟩ := List.mem_map.mp hw
  have hk := List.mem_range.mp hk
  match k, hk with
  | 0, _ => exact wm (tq2 (i := 59) rfl) rfl
  | 1, _ => exact wm (tq2 (i := 61) rfl) rfl
  | 2, _ => exact wm (tq2 (i := 63) rfl) rfl
  | 3, _ => exact wm (tq2 (i := 65) rfl) rfl
  | 4, _ => exact wm (tq2 (i := 67) rfl) rfl
  | 5, _ => exact wm (tq2 (i := 69) rfl) rfl
  | 6, _ => exact wm (tq2 (i := 71) rfl) rfl
  | 7, _ => exact wm (tq2 (i := 73) rfl) rfl
  | 8, _ => exact wm (tq2 (i := 75) rfl) rfl
  | k + 9, h => exact absurd h (by omega)
theorem inX8 : ∀ w ∈ u_ws RX8 TX8 49, w ∈ wA := by
  intro w hw
  obtain ⟨k, hk, rfl⟩ := List.mem_map.mp hw
  have hk := List.mem_range.mp hk
  match k, hk with
  | 0, _ => exact wm (tq4 (i := 49) rfl) rfl
  | 1, _ => exact wm (tq4 (i := 51) rfl) rfl
  | 2, _ => exact wm (tq4 (i := 53) rfl) rfl
  | 3, _ => exact wm (tq4 (i := 55) rfl) rfl
  | 4, _ => exact wm (tq4 (i := 57) rfl) rfl
  | 5, _ => exact wm (tq4 (i := 59) rfl) rfl
  | 6, _ => exact wm (tq4 (i := 61) rfl) rfl
  | 7, _ => exact wm (tq4 (i := 63) rfl) rfl
  | 8, _ => exact wm (tq4 (i := 65) rfl) rfl
  | 9, _ => exact wm (tq4 (i := 67) rfl) rfl
  | 10, _ => exact wm (tq4 (i := 69) rfl) rfl
  | 11, _ => exact wm (tq4 (i := 71) rfl) rfl
  | 12, _ => exact wm (tq4 (i := 73) rfl) rfl
  | 13, _ => exact wm (tq4 (i := 75) rfl) rfl
  | 14, _ => exact wm (tq4 (i := 77) rfl) rfl
  | 15, _ => exact wm (tq4 (i := 79) rfl) rfl
  | 16, _ => exact wm (tq4 (i := 81) rfl) rfl
  | 17, _ => exact wm (tq4 (i := 83) rfl) rfl
  | 18, _ => exact wm (tq4 (i := 85) rfl) rfl
  | 19, _ => exact wm (tq4 (i := 87) rfl) rfl
  | 20, _ => exact wm (tq4 (i := 89) rfl) rfl
  | 21, _ => exact wm (tq4 (i := 91) rfl) rfl
  | 22, _ => exact wm (tq4 (i := 93) rfl) rfl
  | 23, _ => exact wm (tq4 (i := 95) rfl) rfl
  | 24, _ => exact wm (tq4 (i := 97) rfl) rfl
  | 25, _ => exact wm (tq4 (i := 99) rfl) rfl
  | 26, _ => exact wm (tq4 (i := 101) rfl) rfl
  | 27, _ => exact wm (tq4 (i := 103) rfl) rfl
  | 28, _ => exact wm (tq4 (i := 105) rfl) rfl
  | 29, _ => exact wm (tq4 (i := 107) rfl) rfl
  | 30, _ => exact wm (tq4 (i := 109) rfl) rfl
  | 31, _ => exact wm (tq4 (i := 111) rfl) rfl
  | 32, _ => exact wm (tq4 (i := 113) rfl) rfl
  | 33, _ => exact wm (tq4 (i := 115) rfl) rfl
  | 34, _ => exact wm (tq4 (i := 117) rfl) rfl
  | 35, _ => exact wm (tq4 (i := 119) rfl) rfl
  | 36, _ => exact wm (tq4 (i := 121) rfl) rfl
  | 37, _ => exact wm (tq4 (i := 123) rfl) rfl
  | 38, _ => exact wm (tq4 (i := 125) rfl) rfl
  | 39, _ => exact wm (tq4 (i := 127) rfl) rfl
  | 40, _ => exact wm (tq4 (i := 129) rfl) rfl
  | 41, _ => exact wm (tq4 (i := 131) rfl) rfl
  | 42, _ => exact wm (tq4 (i := 133) rfl) rfl
  | 43, _ => exact wm (tq4 (i := 135) rfl) rfl
  | 44, _ => exact wm (tq4 (i := 137) rfl) rfl
  | 45, _ => exact wm (tq4 (i := 139) rfl) rfl
  | 46, _ => exact wm (tq4 (i := 141) rfl) rfl
  | 47, _ => exact wm (tq4 (i := 143) rfl) rfl
  | 48, _ => exact wm (tq4 (i := 145) rfl) rfl
  | k + 49, h => exact absurd h (by omega)
end
section
theorem dX0_init_0 : decode cX0_init 0 = .ok (.aload_n 0, 1) := by decide +kernel
theorem dX0_init_1 : decode cX0_init 1 = .ok (.invokespecial 3, 3) := by decide +kernel
theorem dX0_init_4 : decode cX0_init 4 = .ok (.aload_n 0, 1) := by decide +kernel
theorem dX0_init_5 : decode cX0_init 5 = .ok (.aload_n 1, 1) := by decide +kernel
theorem dX0_init_6 : decode cX0_init 6 = .ok (.putfield 9, 3) := by decide +kernel
theorem dX0_init_9 : decode cX0_init 9 = .ok (.aload_n 0, 1) := by decide +kernel
theorem dX0_init_10 : decode cX0_init 10 = .ok (.new 15, 3) := by decide +kernel
theorem dX0_init_13 : decode cX0_init 13 = .ok (.dup, 1) := by decide +kernel
theorem dX0_init_14 : decode cX0_init 14 = .ok (.aload_n 1, 1) := by decide +kernel
theorem dX0_init_15 : decode cX0_init 15 = .ok (.invokespecial 17, 3) := by decide +kernel
theorem dX0_init_18 : decode cX0_init 18 = .ok (.putfield 20, 3) := by decide +kernel
theorem dX0_init_21 : decode cX0_init 21 = .ok (.aload_n 0, 1) := by decide +kernel
theorem dX0_init_22 : decode cX0_init 22 = .ok (.iconst 5, 1) := by decide +kernel
theorem dX0_init_23 : decode cX0_init 23 = .ok (.newarray .int, 2) := by decide +kernel
theorem dX0_init_25 : decode cX0_init 25 = .ok (.putfield 24, 3) := by decide +kernel
theorem dX0_init_28 : decode cX0_init 28 = .ok (.aload_n 0, 1) := by decide +kernel
theorem dX0_init_29 : decode cX0_init 29 = .ok (.iconst 5, 1) := by decide +kernel
theorem dX0_init_30 : decode cX0_init 30 = .ok (.newarray .int, 2) := by decide +kernel
theorem dX0_init_32 : decode cX0_init 32 = .ok (.putfield 28, 3) := by decide +kernel
theorem dX0_init_35 : decode cX0_init 35 = .ok (.aload_n 0, 1) := by decide +kernel
theorem dX0_init_36 : decode cX0_init 36 = .ok (.sipush 200, 3) := by decide +kernel
theorem dX0_init_39 : decode cX0_init 39 = .ok (.newarray .int, 2) := by decide +kernel
theorem dX0_init_41 : decode cX0_init 41 = .ok (.putfield 31, 3) := by decide +kernel
theorem dX0_init_44 : decode cX0_init 44 = .ok (.aload_n 0, 1) := by decide +kernel
theorem dX0_init_45 : decode cX0_init 45 = .ok (.sipush 200, 3) := by decide +kernel
theorem dX0_init_48 : decode cX0_init 48 = .ok (.newarray .int, 2) := by decide +kernel
theorem dX0_init_50 : decode cX0_init 50 = .ok (.putfield 34, 3) := by decide +kernel
theorem dX0_init_53 : decode cX0_init 53 = .ok (.aload_n 0, 1) := by decide +kernel
theorem dX0_init_54 : decode cX0_init 54 = .ok (.bipush 8, 2) := by decide +kernel
theorem dX0_init_56 : decode cX0_init 56 = .ok (.newarray .int, 2) := by decide +kernel
theorem dX0_init_58 : decode cX0_init 58 = .ok (.putfield 37, 3) := by decide +kernel
theorem dX0_init_61 : decode cX0_init 61 = .ok (.return_, 1) := by decide +kernel
theorem dX0_beginAnew_0 : decode cX0_beginAnew 0 = .ok (.aload_n 0, 1) := by decide +kernel
theorem dX0_beginAnew_1 : decode cX0_beginAnew 1 = .ok (.getfield 20, 3) := by decide +kernel
theorem dX0_beginAnew_4 : decode cX0_beginAnew 4 = .ok (.invokevirtual 40, 3) := by decide +kernel
theorem dX0_beginAnew_7 : decode cX0_beginAnew 7 = .ok (.aload_n 0, 1) := by decide +kernel
theorem dX0_beginAnew_8 : decode cX0_beginAnew 8 = .ok (.iconst 0, 1) := by decide +kernel
theorem dX0_beginAnew_9 : decode cX0_beginAnew 9 = .ok (.putfield 43, 3) := by decide +kernel
theorem dX0_beginAnew_12 : decode cX0_beginAnew 12 = .ok (.aload_n 0, 1) := by decide +kernel
theorem dX0_beginAnew_13 : decode cX0_beginAnew 13 = .ok (.getfield 24, 3) := by decide +kernel
theorem dX0_beginAnew_16 : decode cX0_beginAnew 16 = .ok (.iconst 0, 1) := by decide +kernel
theorem dX0_beginAnew_17 : decode cX0_beginAnew 17 = .ok (.invokestatic 47, 3) := by decide +kernel
theorem dX0_beginAnew_20 : decode cX0_beginAnew 20 = .ok (.aload_n 0, 1) := by decide +kernel
theorem dX0_beginAnew_21 : decode cX0_beginAnew 21 = .ok (.getfield 28, 3) := by decide +kernel
theorem dX0_beginAnew_24 : decode cX0_beginAnew 24 = .ok (.iconst 0, 1) := by decide +kernel
theorem dX0_beginAnew_25 : decode cX0_beginAnew 25 = .ok (.invokestatic 47, 3) := by decide +kernel
theorem dX0_beginAnew_28 : decode cX0_beginAnew 28 = .ok (.aload_n 0, 1) := by decide +kernel
theorem dX0_beginAnew_29 : decode cX0_beginAnew 29 = .ok (.iconst 0, 1) := by decide +kernel
theorem dX0_beginAnew_30 : decode cX0_beginAnew 30 = .ok (.putfield 53, 3) := by decide +kernel
theorem dX0_beginAnew_33 : decode cX0_beginAnew 33 = .ok (.aload_n 0, 1) := by decide +kernel
theorem dX0_beginAnew_34 : decode cX0_beginAnew 34 = .ok (.iconst 0, 1) := by decide +kernel
theorem dX0_beginAnew_35 : decode cX0_beginAnew 35 = .ok (.putfield 56, 3) := by decide +kernel
theorem dX0_beginAnew_38 : decode cX0_beginAnew 38 = .ok (.return_, 1) := by decide +kernel
theorem dX0_copyFrom_0 : decode cX0_copyFrom 0 = .ok (.aload_n 0, 1) := by decide +kernel
theorem dX0_copyFrom_1 : decode cX0_copyFrom 1 = .ok (.getfield 20, 3) := by decide +kernel
theorem dX0_copyFrom_4 : decode cX0_copyFrom 4 = .ok (.aload_n 1, 1) := by decide +kernel
theorem dX0_copyFrom_5 : decode cX0_copyFrom 5 = .ok (.getfield 20, 3) := by decide +kernel
theorem dX0_copyFrom_8 : decode cX0_copyFrom 8 = .ok (.invokevirtual 59, 3) := by decide +kernel
theorem dX0_copyFrom_11 : decode cX0_copyFrom 11 = .ok (.aload_n 0, 1) := by decide +kernel
theorem dX0_copyFrom_12 : decode cX0_copyFrom 12 = .ok (.aload_n 1, 1) := by decide +kernel
theorem dX0_copyFrom_13 : decode cX0_copyFrom 13 = .ok (.getfield 43, 3) := by decide +kernel
theorem dX0_copyFrom_16 : decode cX0_copyFrom 16 = .ok (.putfield 43, 3) := by decide +kernel
theorem dX0_copyFrom_19 : decode cX0_copyFrom 19 = .ok (.aload_n 1, 1) := by decide +kernel
theorem dX0_copyFrom_20 : decode cX0_copyFrom 20 = .ok (.getfield 24, 3) := by decide +kernel
theorem dX0_copyFrom_23 : decode cX0_copyFrom 23 = .ok (.iconst 0, 1) := by decide +kernel
theorem dX0_copyFrom_24 : decode cX0_copyFrom 24 = .ok (.aload_n 0, 1) := by decide +kernel
theorem dX0_copyFrom_25 : decode cX0_copyFrom 25 = .ok (.getfield 24, 3) := by decide +kernel
theorem dX0_copyFrom_28 : decode cX0_copyFrom 28 = .ok (.iconst 0, 1) := by decide +kernel
theorem dX0_copyFrom_29 : decode cX0_copyFrom 29 = .ok (.iconst 5, 1) := by decide +kernel
theorem dX0_copyFrom_30 : decode cX0_copyFrom 30 = .ok (.invokestatic 63, 3) := by decide +kernel
theorem dX0_copyFrom_33 : decode cX0_copyFrom 33 = .ok (.aload_n 1, 1) := by decide +kernel
theorem dX0_copyFrom_34 : decode cX0_copyFrom 34 = .ok (.getfield 28, 3) := by decide +kernel
theorem dX0_copyFrom_37 : decode cX0_copyFrom 37 = .ok (.iconst 0, 1) := by decide +kernel
theorem dX0_copyFrom_38 : decode cX0_copyFrom 38 = .ok (.aload_n 0, 1) := by decide +kernel
theorem dX0_copyFrom_39 : decode cX0_copyFrom 39 = .ok (.getfield 28, 3) := by decide +kernel
theorem dX0_copyFrom_42 : decode cX0_copyFrom 42 = .ok (.iconst 0, 1) := by decide +kernel
theorem dX0_copyFrom_43 : decode cX0_copyFrom 43 = .ok (.iconst 5, 1) := by decide +kernel
theorem dX0_copyFrom_44 : decode cX0_copyFrom 44 = .ok (.invokestatic 63, 3) := by decide +kernel
theorem dX0_copyFrom_47 : decode cX0_copyFrom 47 = .ok (.aload_n 0, 1) := by decide +kernel
theorem dX0_copyFrom_48 : decode cX0_copyFrom 48 = .ok (.aload_n 1, 1) := by decide +kernel
theorem dX0_copyFrom_49 : decode cX0_copyFrom 49 = .ok (.getfield 53, 3) := by decide +kernel
theorem dX0_copyFrom_52 : decode cX0_copyFrom 52 = .ok (.putfield 53, 3) := by decide +kernel
theorem dX0_copyFrom_55 : decode cX0_copyFrom 55 = .ok (.aload_n 0, 1) := by decide +kernel
theorem dX0_copyFrom_56 : decode cX0_copyFrom 56 = .ok (.aload_n 1, 1) := by decide +kernel
theorem dX0_copyFrom_57 : decode cX0_copyFrom 57 = .ok (.getfield 56, 3) := by decide +kernel
theorem dX0_copyFrom_60 : decode cX0_copyFrom 60 = .ok (.putfield 56, 3) := by decide +kernel
theorem dX0_copyFrom_63 : decode cX0_copyFrom 63 = .ok (.aload_n 1, 1) := by decide +kernel
theorem dX0_copyFrom_64 : decode cX0_copyFrom 64 = .ok (.getfield 31, 3) := by decide +kernel
theorem dX0_copyFrom_67 : decode cX0_copyFrom 67 = .ok (.iconst 0, 1) := by decide +kernel
theorem dX0_copyFrom_68 : decode cX0_copyFrom 68 = .ok (.aload_n 0, 1) := by decide +kernel
theorem dX0_copyFrom_69 : decode cX0_copyFrom 69 = .ok (.getfield 31, 3) := by decide +kernel
theorem dX0_copyFrom_72 : decode cX0_copyFrom 72 = .ok (.iconst 0, 1) := by decide +kernel
theorem dX0_copyFrom_73 : decode cX0_copyFrom 73 = .ok (.aload_n 0, 1) := by decide +kernel
theorem dX0_copyFrom_74 : decode cX0_copyFrom 74 = .ok (.getfield 56, 3) := by decide +kernel
theorem dX0_copyFrom_77 : decode cX0_copyFrom 77 = .ok (.invokestatic 63, 3) := by decide +kernel
theorem dX0_copyFrom_80 : decode cX0_copyFrom 80 = .ok (.aload_n 1, 1) := by decide +kernel
theorem dX0_copyFrom_81 : decode cX0_copyFrom 81 = .ok (.getfield 34, 3) := by decide +kernel
theorem dX0_copyFrom_84 : decode cX0_copyFrom 84 = .ok (.iconst 0, 1) := by decide +kernel
theorem dX0_copyFrom_85 : decode cX0_copyFrom 85 = .ok (.aload_n 0, 1) := by decide +kernel
theorem dX0_copyFrom_86 : decode cX0_copyFrom 86 = .ok (.getfield 34, 3) := by decide +kernel
theorem dX0_copyFrom_89 : decode cX0_copyFrom 89 = .ok (.iconst 0, 1) := by decide +kernel
theorem dX0_copyFrom_90 : decode cX0_copyFrom 90 = .ok (.aload_n 0, 1) := by decide +kernel
theorem dX0_copyFrom_91 : decode cX0_copyFrom 91 = .ok (.getfield 56, 3) := by decide +kernel
theorem dX0_copyFrom_94 : decode cX0_copyFrom 94 = .ok (.invokestatic 63, 3) := by decide +kernel
theorem dX0_copyFrom_97 : decode cX0_copyFrom 97 = .ok (.aload_n 0, 1) := by decide +kernel
theorem dX0_copyFrom_98 : decode cX0_copyFrom 98 = .ok (.aload_n 1, 1) := by decide +kernel
theorem dX0_copyFrom_99 : decode cX0_copyFrom 99 = .ok (.getfield 69, 3) := by decide +kernel
theorem dX0_copyFrom_102 : decode cX0_copyFrom 102 = .ok (.putfield 69, 3) := by decide +kernel
theorem dX0_copyFrom_105 : decode cX0_copyFrom 105 = .ok (.return_, 1) := by decide +kernel
theorem dX0_liveDay_0 : decode cX0_liveDay 0 = .ok (.iconst 0, 1) := by decide +kernel
theorem dX0_liveDay_1 : decode cX0_liveDay 1 = .ok (.istore_n 1, 1) := by decide +kernel
theorem dX0_liveDay_2 : decode cX0_liveDay 2 = .ok (.iload_n 1, 1) := by decide +kernel
theorem dX0_liveDay_3 : decode cX0_liveDay 3 = .ok (.aload_n 0, 1) := by decide +kernel
theorem dX0_liveDay_4 : decode cX0_liveDay 4 = .ok (.getfield 9, 3) := by decide +kernel
theorem dX0_liveDay_7 : decode cX0_liveDay 7 = .ok (.getfield 72, 3) := by decide +kernel
theorem dX0_liveDay_10 : decode cX0_liveDay 10 = .ok (.if_icmp .ge 40, 3) := by decide +kernel
theorem dX0_liveDay_13 : decode cX0_liveDay 13 = .ok (.aload_n 0, 1) := by decide +kernel
theorem dX0_liveDay_14 : decode cX0_liveDay 14 = .ok (.getfield 37, 3) := by decide +kernel
theorem dX0_liveDay_17 : decode cX0_liveDay 17 = .ok (.iload_n 1, 1) := by decide +kernel
theorem dX0_liveDay_18 : decode cX0_liveDay 18 = .ok (.aload_n 0, 1) := by decide +kernel
theorem dX0_liveDay_19 : decode cX0_liveDay 19 = .ok (.getfield 20, 3) := by decide +kernel
theorem dX0_liveDay_22 : decode cX0_liveDay 22 = .ok (.iload_n 1, 1) := by decide +kernel
theorem dX0_liveDay_23 : decode cX0_liveDay 23 = .ok (.aload_n 0, 1) := by decide +kernel
theorem dX0_liveDay_24 : decode cX0_liveDay 24 = .ok (.iconst 2, 1) := by decide +kernel
theorem dX0_liveDay_25 : decode cX0_liveDay 25 = .ok (.aload_n 0, 1) := by decide +kernel
theorem dX0_liveDay_26 : decode cX0_liveDay 26 = .ok (.getfield 9, 3) := by decide +kernel
theorem dX0_liveDay_29 : decode cX0_liveDay 29 = .ok (.getfield 77, 3) := by decide +kernel
theorem dX0_liveDay_32 : decode cX0_liveDay 32 = .ok (.iload_n 1, 1) := by decide +kernel
theorem dX0_liveDay_33 : decode cX0_liveDay 33 = .ok (.iaload, 1) := by decide +kernel
theorem dX0_liveDay_34 : decode cX0_liveDay 34 = .ok (.imul, 1) := by decide +kernel
theorem dX0_liveDay_35 : decode cX0_liveDay 35 = .ok (.iconst 1, 1) := by decide +kernel
theorem dX0_liveDay_36 : decode cX0_liveDay 36 = .ok (.iadd, 1) := by decide +kernel
theorem dX0_liveDay_37 : decode cX0_liveDay 37 = .ok (.invokevirtual 80, 3) := by decide +kernel
theorem dX0_liveDay_40 : decode cX0_liveDay 40 = .ok (.invokevirtual 84, 3) := by decide +kernel
theorem dX0_liveDay_43 : decode cX0_liveDay 43 = .ok (.iastore, 1) := by decide +kernel
theorem dX0_liveDay_44 : decode cX0_liveDay 44 = .ok (.iinc 1 1, 3) := by decide +kernel
theorem dX0_liveDay_47 : decode cX0_liveDay 47 = .ok (.goto (-45), 3) := by decide +kernel
theorem dX0_liveDay_50 : decode cX0_liveDay 50 = .ok (.aload_n 0, 1) := by decide +kernel
theorem dX0_liveDay_51 : decode cX0_liveDay 51 = .ok (.getfield 20, 3) := by decide +kernel
theorem dX0_liveDay_54 : decode cX0_liveDay 54 = .ok (.getfield 88, 3) := by decide +kernel
theorem dX0_liveDay_57 : decode cX0_liveDay 57 = .ok (.iconst 2, 1) := by decide +kernel
theorem dX0_liveDay_58 : decode cX0_liveDay 58 = .ok (.if_icmp .ne 17, 3) := by decide +kernel
theorem dX0_liveDay_61 : decode cX0_liveDay 61 = .ok (.aload_n 0, 1) := by decide +kernel
theorem dX0_liveDay_62 : decode cX0_liveDay 62 = .ok (.aload_n 0, 1) := by decide +kernel
theorem dX0_liveDay_63 : decode cX0_liveDay 63 = .ok (.getfield 9, 3) := by decide +kernel
theorem dX0_liveDay_66 : decode cX0_liveDay 66 = .ok (.getfield 72, 3) := by decide +kernel
theorem dX0_liveDay_69 : decode cX0_liveDay 69 = .ok (.invokevirtual 80, 3) := by decide +kernel
theorem dX0_liveDay_72 : decode cX0_liveDay 72 = .ok (.goto 7, 3) := by decide +kernel
theorem dX0_liveDay_75 : decode cX0_liveDay 75 = .ok (.aload_n 0, 1) := by decide +kernel
theorem dX0_liveDay_76 : decode cX0_liveDay 76 = .ok (.invokevirtual 91, 3) := by decide +kernel
theorem dX0_liveDay_79 : decode cX0_liveDay 79 = .ok (.istore_n 1, 1) := by decide +kernel
theorem dX0_liveDay_80 : decode cX0_liveDay 80 = .ok (.aload_n 0, 1) := by decide +kernel
theorem dX0_liveDay_81 : decode cX0_liveDay 81 = .ok (.dup, 1) := by decide +kernel
theorem dX0_liveDay_82 : decode cX0_liveDay 82 = .ok (.getfield 43, 3) := by decide +kernel
theorem dX0_liveDay_85 : decode cX0_liveDay 85 = .ok (.iconst 1, 1) := by decide +kernel
theorem dX0_liveDay_86 : decode cX0_liveDay 86 = .ok (.iadd, 1) := by decide +kernel
theorem dX0_liveDay_87 : decode cX0_liveDay 87 = .ok (.putfield 43, 3) := by decide +kernel
theorem dX0_liveDay_90 : decode cX0_liveDay 90 = .ok (.aload_n 0, 1) := by decide +kernel
theorem dX0_liveDay_91 : decode cX0_liveDay 91 = .ok (.iload_n 1, 1) := by decide +kernel
theorem dX0_liveDay_92 : decode cX0_liveDay 92 = .ok (.invokevirtual 95, 3) := by decide +kernel
theorem dX0_liveDay_95 : decode cX0_liveDay 95 = .ok (.aload_n 0, 1) := by decide +kernel
theorem dX0_liveDay_96 : decode cX0_liveDay 96 = .ok (.aload_n 0, 1) := by decide +kernel
theorem dX0_liveDay_97 : decode cX0_liveDay 97 = .ok (.getfield 9, 3) := by decide +kernel
theorem dX0_liveDay_100 : decode cX0_liveDay 100 = .ok (.getfield 99, 3) := by decide +kernel
theorem dX0_liveDay_103 : decode cX0_liveDay 103 = .ok (.iload_n 1, 1) := by decide +kernel
theorem dX0_liveDay_104 : decode cX0_liveDay 104 = .ok (.iaload, 1) := by decide +kernel
theorem dX0_liveDay_105 : decode cX0_liveDay 105 = .ok (.invokevirtual 102, 3) := by decide +kernel
theorem dX0_liveDay_108 : decode cX0_liveDay 108 = .ok (.iload_n 1, 1) := by decide +kernel
theorem dX0_liveDay_109 : decode cX0_liveDay 109 = .ok (.ireturn, 1) := by decide +kernel
theorem dX0_draw_0 : decode cX0_draw 0 = .ok (.aload_n 0, 1) := by decide +kernel
theorem dX0_draw_1 : decode cX0_draw 1 = .ok (.aload_n 0, 1) := by decide +kernel
theorem dX0_draw_2 : decode cX0_draw 2 = .ok (.getfield 69, 3) := by decide +kernel
theorem dX0_draw_5 : decode cX0_draw 5 = .ok (.i2l, 1) := by decide +kernel
theorem dX0_draw_6 : decode cX0_draw 6 = .ok (.ldc2_w 105, 3) := by decide +kernel
theorem dX0_draw_9 : decode cX0_draw 9 = .ok (.lmul, 1) := by decide +kernel
theorem dX0_draw_10 : decode cX0_draw 10 = .ok (.ldc2_w 107, 3) := by decide +kernel
theorem dX0_draw_13 : decode cX0_draw 13 = .ok (.ladd, 1) := by decide +kernel
theorem dX0_draw_14 : decode cX0_draw 14 = .ok (.ldc2_w 109, 3) := by decide +kernel
theorem dX0_draw_17 : decode cX0_draw 17 = .ok (.land, 1) := by decide +kernel
theorem dX0_draw_18 : decode cX0_draw 18 = .ok (.l2i, 1) := by decide +kernel
theorem dX0_draw_19 : decode cX0_draw 19 = .ok (.putfield 69, 3) := by decide +kernel
theorem dX0_draw_22 : decode cX0_draw 22 = .ok (.iload_n 1, 1) := by decide +kernel
theorem dX0_draw_23 : decode cX0_draw 23 = .ok (.ifCond .le 15, 3) := by decide +kernel
theorem dX0_draw_26 : decode cX0_draw 26 = .ok (.aload_n 0, 1) := by decide +kernel
theorem dX0_draw_27 : decode cX0_draw 27 = .ok (.getfield 69, 3) := by decide +kernel
theorem dX0_draw_30 : decode cX0_draw 30 = .ok (.ldc 111, 2) := by decide +kernel
theorem dX0_draw_32 : decode cX0_draw 32 = .ok (.idiv, 1) := by decide +kernel
theorem dX0_draw_33 : decode cX0_draw 33 = .ok (.iload_n 1, 1) := by decide +kernel
theorem dX0_draw_34 : decode cX0_draw 34 = .ok (.irem, 1) := by decide +kernel
theorem dX0_draw_35 : decode cX0_draw 35 = .ok (.goto 4, 3) := by decide +kernel
theorem dX0_draw_38 : decode cX0_draw 38 = .ok (.iconst 0, 1) := by decide +kernel
theorem dX0_draw_39 : decode cX0_draw 39 = .ok (.ireturn, 1) := by decide +kernel
theorem dX0_whoIsAhead_0 : decode cX0_whoIsAhead 0 = .ok (.iconst 0, 1) := by decide +kernel
theorem dX0_whoIsAhead_1 : decode cX0_whoIsAhead 1 = .ok (.istore_n 1, 1) := by decide +kernel
theorem dX0_whoIsAhead_2 : decode cX0_whoIsAhead 2 = .ok (.iconst 1, 1) := by decide +kernel
theorem dX0_whoIsAhead_3 : decode cX0_whoIsAhead 3 = .ok (.istore_n 2, 1) := by decide +kernel
theorem dX0_whoIsAhead_4 : decode cX0_whoIsAhead 4 = .ok (.iload_n 2, 1) := by decide +kernel
theorem dX0_whoIsAhead_5 : decode cX0_whoIsAhead 5 = .ok (.aload_n 0, 1) := by decide +kernel
theorem dX0_whoIsAhead_6 : decode cX0_whoIsAhead 6 = .ok (.getfield 9, 3) := by decide +kernel
theorem dX0_whoIsAhead_9 : decode cX0_whoIsAhead 9 = .ok (.getfield 72, 3) := by decide +kernel
theorem dX0_whoIsAhead_12 : decode cX0_whoIsAhead 12 = .ok (.if_icmp .ge 70, 3) := by decide +kernel
theorem dX0_whoIsAhead_15 : decode cX0_whoIsAhead 15 = .ok (.aload_n 0, 1) := by decide +kernel
theorem dX0_whoIsAhead_16 : decode cX0_whoIsAhead 16 = .ok (.getfield 20, 3) := by decide +kernel
theorem dX0_whoIsAhead_19 : decode cX0_whoIsAhead 19 = .ok (.getfield 88, 3) := by decide +kernel
theorem dX0_whoIsAhead_22 : decode cX0_whoIsAhead 22 = .ok (.iconst 1, 1) := by decide +kernel
theorem dX0_whoIsAhead_23 : decode cX0_whoIsAhead 23 = .ok (.if_icmp .ne 26, 3) := by decide +kernel
theorem dX0_whoIsAhead_26 : decode cX0_whoIsAhead 26 = .ok (.aload_n 0, 1) := by decide +kernel
theorem dX0_whoIsAhead_27 : decode cX0_whoIsAhead 27 = .ok (.getfield 37, 3) := by decide +kernel
theorem dX0_whoIsAhead_30 : decode cX0_whoIsAhead 30 = .ok (.iload_n 2, 1) := by decide +kernel
theorem dX0_whoIsAhead_31 : decode cX0_whoIsAhead 31 = .ok (.iaload, 1) := by decide +kernel
theorem dX0_whoIsAhead_32 : decode cX0_whoIsAhead 32 = .ok (.aload_n 0, 1) := by decide +kernel
theorem dX0_whoIsAhead_33 : decode cX0_whoIsAhead 33 = .ok (.getfield 37, 3) := by decide +kernel
theorem dX0_whoIsAhead_36 : decode cX0_whoIsAhead 36 = .ok (.iload_n 1, 1) := by decide +kernel
theorem dX0_whoIsAhead_37 : decode cX0_whoIsAhead 37 = .ok (.iaload, 1) := by decide +kernel
theorem dX0_whoIsAhead_38 : decode cX0_whoIsAhead 38 = .ok (.if_icmp .le 7, 3) := by decide +kernel
theorem dX0_whoIsAhead_41 : decode cX0_whoIsAhead 41 = .ok (.iconst 1, 1) := by decide +kernel
theorem dX0_whoIsAhead_42 : decode cX0_whoIsAhead 42 = .ok (.goto 27, 3) := by decide +kernel
theorem dX0_whoIsAhead_45 : decode cX0_whoIsAhead 45 = .ok (.iconst 0, 1) := by decide +kernel
theorem dX0_whoIsAhead_46 : decode cX0_whoIsAhead 46 = .ok (.goto 23, 3) := by decide +kernel
theorem dX0_whoIsAhead_49 : decode cX0_whoIsAhead 49 = .ok (.aload_n 0, 1) := by decide +kernel
theorem dX0_whoIsAhead_50 : decode cX0_whoIsAhead 50 = .ok (.getfield 37, 3) := by decide +kernel
theorem dX0_whoIsAhead_53 : decode cX0_whoIsAhead 53 = .ok (.iload_n 2, 1) := by decide +kernel
theorem dX0_whoIsAhead_54 : decode cX0_whoIsAhead 54 = .ok (.iaload, 1) := by decide +kernel
theorem dX0_whoIsAhead_55 : decode cX0_whoIsAhead 55 = .ok (.aload_n 0, 1) := by decide +kernel
theorem dX0_whoIsAhead_56 : decode cX0_whoIsAhead 56 = .ok (.getfield 37, 3) := by decide +kernel
theorem dX0_whoIsAhead_59 : decode cX0_whoIsAhead 59 = .ok (.iload_n 1, 1) := by decide +kernel
theorem dX0_whoIsAhead_60 : decode cX0_whoIsAhead 60 = .ok (.iaload, 1) := by decide +kernel
theorem dX0_whoIsAhead_61 : decode cX0_whoIsAhead 61 = .ok (.if_icmp .ge 7, 3) := by decide +kernel
theorem dX0_whoIsAhead_64 : decode cX0_whoIsAhead 64 = .ok (.iconst 1, 1) := by decide +kernel
theorem dX0_whoIsAhead_65 : decode cX0_whoIsAhead 65 = .ok (.goto 4, 3) := by decide +kernel
theorem dX0_whoIsAhead_68 : decode cX0_whoIsAhead 68 = .ok (.iconst 0, 1) := by decide +kernel
theorem dX0_whoIsAhead_69 : decode cX0_whoIsAhead 69 = .ok (.istore_n 3, 1) := by decide +kernel
theorem dX0_whoIsAhead_70 : decode cX0_whoIsAhead 70 = .ok (.iload_n 3, 1) := by decide +kernel
theorem dX0_whoIsAhead_71 : decode cX0_whoIsAhead 71 = .ok (.ifCond .eq 5, 3) := by decide +kernel
theorem dX0_whoIsAhead_74 : decode cX0_whoIsAhead 74 = .ok (.iload_n 2, 1) := by decide +kernel
theorem dX0_whoIsAhead_75 : decode cX0_whoIsAhead 75 = .ok (.istore_n 1, 1) := by decide +kernel
theorem dX0_whoIsAhead_76 : decode cX0_whoIsAhead 76 = .ok (.iinc 2 1, 3) := by decide +kernel
theorem dX0_whoIsAhead_79 : decode cX0_whoIsAhead 79 = .ok (.goto (-75), 3) := by decide +kernel
theorem dX0_whoIsAhead_82 : decode cX0_whoIsAhead 82 = .ok (.iload_n 1, 1) := by decide +kernel
theorem dX0_whoIsAhead_83 : decode cX0_whoIsAhead 83 = .ok (.ireturn, 1) := by decide +kernel
theorem dX0_keepRuler_0 : decode cX0_keepRuler 0 = .ok (.aload_n 0, 1) := by decide +kernel
theorem dX0_keepRuler_1 : decode cX0_keepRuler 1 = .ok (.getfield 56, 3) := by decide +kernel
theorem dX0_keepRuler_4 : decode cX0_keepRuler 4 = .ok (.sipush 200, 3) := by decide +kernel
theorem dX0_keepRuler_7 : decode cX0_keepRuler 7 = .ok (.if_icmp .ge 38, 3) := by decide +kernel
theorem dX0_keepRuler_10 : decode cX0_keepRuler 10 = .ok (.aload_n 0, 1) := by decide +kernel
theorem dX0_keepRuler_11 : decode cX0_keepRuler 11 = .ok (.getfield 31, 3) := by decide +kernel
theorem dX0_keepRuler_14 : decode cX0_keepRuler 14 = .ok (.aload_n 0, 1) := by decide +kernel
theorem dX0_keepRuler_15 : decode cX0_keepRuler 15 = .ok (.getfield 56, 3) := by decide +kernel
theorem dX0_keepRuler_18 : decode cX0_keepRuler 18 = .ok (.iload_n 1, 1) := by decide +kernel
theorem dX0_keepRuler_19 : decode cX0_keepRuler 19 = .ok (.iastore, 1) := by decide +kernel
theorem dX0_keepRuler_20 : decode cX0_keepRuler 20 = .ok (.aload_n 0, 1) := by decide +kernel
theorem dX0_keepRuler_21 : decode cX0_keepRuler 21 = .ok (.getfield 34, 3) := by decide +kernel
theorem dX0_keepRuler_24 : decode cX0_keepRuler 24 = .ok (.aload_n 0, 1) := by decide +kernel
theorem dX0_keepRuler_25 : decode cX0_keepRuler 25 = .ok (.getfield 56, 3) := by decide +kernel
theorem dX0_keepRuler_28 : decode cX0_keepRuler 28 = .ok (.aload_n 0, 1) := by decide +kernel
theorem dX0_keepRuler_29 : decode cX0_keepRuler 29 = .ok (.getfield 37, 3) := by decide +kernel
theorem dX0_keepRuler_32 : decode cX0_keepRuler 32 = .ok (.iload_n 1, 1) := by decide +kernel
theorem dX0_keepRuler_33 : decode cX0_keepRuler 33 = .ok (.iaload, 1) := by decide +kernel
theorem dX0_keepRuler_34 : decode cX0_keepRuler 34 = .ok (.iastore, 1) := by decide +kernel
theorem dX0_keepRuler_35 : decode cX0_keepRuler 35 = .ok (.aload_n 0, 1) := by decide +kernel
theorem dX0_keepRuler_36 : decode cX0_keepRuler 36 = .ok (.dup, 1) := by decide +kernel
theorem dX0_keepRuler_37 : decode cX0_keepRuler 37 = .ok (.getfield 56, 3) := by decide +kernel
theorem dX0_keepRuler_40 : decode cX0_keepRuler 40 = .ok (.iconst 1, 1) := by decide +kernel
theorem dX0_keepRuler_41 : decode cX0_keepRuler 41 = .ok (.iadd, 1) := by decide +kernel
theorem dX0_keepRuler_42 : decode cX0_keepRuler 42 = .ok (.putfield 56, 3) := by decide +kernel
theorem dX0_keepRuler_45 : decode cX0_keepRuler 45 = .ok (.return_, 1) := by decide +kernel
theorem dX0_countDayOf_0 : decode cX0_countDayOf 0 = .ok (.aload_n 0, 1) := by decide +kernel
theorem dX0_countDayOf_1 : decode cX0_countDayOf 1 = .ok (.getfield 24, 3) := by decide +kernel
theorem dX0_countDayOf_4 : decode cX0_countDayOf 4 = .ok (.iload_n 1, 1) := by decide +kernel
theorem dX0_countDayOf_5 : decode cX0_countDayOf 5 = .ok (.iaload, 1) := by decide +kernel
theorem dX0_countDayOf_6 : decode cX0_countDayOf 6 = .ok (.iconst 1, 1) := by decide +kernel
theorem dX0_countDayOf_7 : decode cX0_countDayOf 7 = .ok (.iadd, 1) := by decide +kernel
theorem dX0_countDayOf_8 : decode cX0_countDayOf 8 = .ok (.istore_n 2, 1) := by decide +kernel
theorem dX0_countDayOf_9 : decode cX0_countDayOf 9 = .ok (.aload_n 0, 1) := by decide +kernel
theorem dX0_countDayOf_10 : decode cX0_countDayOf 10 = .ok (.getfield 24, 3) := by decide +kernel
theorem dX0_countDayOf_13 : decode cX0_countDayOf 13 = .ok (.iconst 0, 1) := by decide +kernel
theorem dX0_countDayOf_14 : decode cX0_countDayOf 14 = .ok (.invokestatic 47, 3) := by decide +kernel
theorem dX0_countDayOf_17 : decode cX0_countDayOf 17 = .ok (.iload_n 2, 1) := by decide +kernel
theorem dX0_countDayOf_18 : decode cX0_countDayOf 18 = .ok (.aload_n 0, 1) := by decide +kernel
theorem dX0_countDayOf_19 : decode cX0_countDayOf 19 = .ok (.getfield 9, 3) := by decide +kernel
theorem dX0_countDayOf_22 : decode cX0_countDayOf 22 = .ok (.getfield 112, 3) := by decide +kernel
theorem dX0_countDayOf_25 : decode cX0_countDayOf 25 = .ok (.iload_n 1, 1) := by decide +kernel
theorem dX0_countDayOf_26 : decode cX0_countDayOf 26 = .ok (.iaload, 1) := by decide +kernel
theorem dX0_countDayOf_27 : decode cX0_countDayOf 27 = .ok (.if_icmp .lt 34, 3) := by decide +kernel
theorem dX0_countDayOf_30 : decode cX0_countDayOf 30 = .ok (.aload_n 0, 1) := by decide +kernel
theorem dX0_countDayOf_31 : decode cX0_countDayOf 31 = .ok (.getfield 28, 3) := by decide +kernel
theorem dX0_countDayOf_34 : decode cX0_countDayOf 34 = .ok (.iload_n 1, 1) := by decide +kernel
theorem dX0_countDayOf_35 : decode cX0_countDayOf 35 = .ok (.dup2, 1) := by decide +kernel
theorem dX0_countDayOf_36 : decode cX0_countDayOf 36 = .ok (.iaload, 1) := by decide +kernel
theorem dX0_countDayOf_37 : decode cX0_countDayOf 37 = .ok (.iconst 1, 1) := by decide +kernel
theorem dX0_countDayOf_38 : decode cX0_countDayOf 38 = .ok (.iadd, 1) := by decide +kernel
theorem dX0_countDayOf_39 : decode cX0_countDayOf 39 = .ok (.iastore, 1) := by decide +kernel
theorem dX0_countDayOf_40 : decode cX0_countDayOf 40 = .ok (.aload_n 0, 1) := by decide +kernel
theorem dX0_countDayOf_41 : decode cX0_countDayOf 41 = .ok (.dup, 1) := by decide +kernel
theorem dX0_countDayOf_42 : decode cX0_countDayOf 42 = .ok (.getfield 53, 3) := by decide +kernel
theorem dX0_countDayOf_45 : decode cX0_countDayOf 45 = .ok (.aload_n 0, 1) := by decide +kernel
theorem dX0_countDayOf_46 : decode cX0_countDayOf 46 = .ok (.getfield 9, 3) := by decide +kernel
theorem dX0_countDayOf_49 : decode cX0_countDayOf 49 = .ok (.getfield 115, 3) := by decide +kernel
theorem dX0_countDayOf_52 : decode cX0_countDayOf 52 = .ok (.iload_n 1, 1) := by decide +kernel
theorem dX0_countDayOf_53 : decode cX0_countDayOf 53 = .ok (.iaload, 1) := by decide +kernel
theorem dX0_countDayOf_54 : decode cX0_countDayOf 54 = .ok (.iadd, 1) := by decide +kernel
theorem dX0_countDayOf_55 : decode cX0_countDayOf 55 = .ok (.putfield 53, 3) := by decide +kernel
theorem dX0_countDayOf_58 : decode cX0_countDayOf 58 = .ok (.goto 10, 3) := by decide +kernel
theorem dX0_countDayOf_61 : decode cX0_countDayOf 61 = .ok (.aload_n 0, 1) := by decide +kernel
theorem dX0_countDayOf_62 : decode cX0_countDayOf 62 = .ok (.getfield 24, 3) := by decide +kernel
theorem dX0_countDayOf_65 : decode cX0_countDayOf 65 = .ok (.iload_n 1, 1) := by decide +kernel
theorem dX0_countDayOf_66 : decode cX0_countDayOf 66 = .ok (.iload_n 2, 1) := by decide +kernel
theorem dX0_countDayOf_67 : decode cX0_countDayOf 67 = .ok (.iastore, 1) := by decide +kernel
theorem dX0_countDayOf_68 : decode cX0_countDayOf 68 = .ok (.return_, 1) := by decide +kernel
theorem dX1_init_0 : decode cX1_init 0 = .ok (.aload_n 0, 1) := by decide +kernel
theorem dX1_init_1 : decode cX1_init 1 = .ok (.invokespecial 3, 3) := by decide +kernel
theorem dX1_init_4 : decode cX1_init 4 = .ok (.aload_n 0, 1) := by decide +kernel
theorem dX1_init_5 : decode cX1_init 5 = .ok (.aload_n 1, 1) := by decide +kernel
theorem dX1_init_6 : decode cX1_init 6 = .ok (.putfield 9, 3) := by decide +kernel
theorem dX1_init_9 : decode cX1_init 9 = .ok (.aload_n 0, 1) := by decide +kernel
theorem dX1_init_10 : decode cX1_init 10 = .ok (.bipush 8, 2) := by decide +kernel
theorem dX1_init_12 : decode cX1_init 12 = .ok (.newarray .int, 2) := by decide +kernel
theorem dX1_init_14 : decode cX1_init 14 = .ok (.putfield 15, 3) := by decide +kernel
theorem dX1_init_17 : decode cX1_init 17 = .ok (.aload_n 0, 1) := by decide +kernel
theorem dX1_init_18 : decode cX1_init 18 = .ok (.iconst (-1), 1) := by decide +kernel
theorem dX1_init_19 : decode cX1_init 19 = .ok (.putfield 19, 3) := by decide +kernel
theorem dX1_init_22 : decode cX1_init 22 = .ok (.aload_n 0, 1) := by decide +kernel
theorem dX1_init_23 : decode cX1_init 23 = .ok (.iconst (-1), 1) := by decide +kernel
theorem dX1_init_24 : decode cX1_init 24 = .ok (.putfield 23, 3) := by decide +kernel
theorem dX1_init_27 : decode cX1_init 27 = .ok (.aload_n 0, 1) := by decide +kernel
theorem dX1_init_28 : decode cX1_init 28 = .ok (.iconst (-1), 1) := by decide +kernel
theorem dX1_init_29 : decode cX1_init 29 = .ok (.putfield 26, 3) := by decide +kernel
theorem dX1_init_32 : decode cX1_init 32 = .ok (.aload_n 0, 1) := by decide +kernel
theorem dX1_init_33 : decode cX1_init 33 = .ok (.bipush 8, 2) := by decide +kernel
theorem dX1_init_35 : decode cX1_init 35 = .ok (.newarray .int, 2) := by decide +kernel
theorem dX1_init_37 : decode cX1_init 37 = .ok (.putfield 29, 3) := by decide +kernel
theorem dX1_init_40 : decode cX1_init 40 = .ok (.aload_n 0, 1) := by decide +kernel
theorem dX1_init_41 : decode cX1_init 41 = .ok (.bipush 8, 2) := by decide +kernel
theorem dX1_init_43 : decode cX1_init 43 = .ok (.newarray .int, 2) := by decide +kernel
theorem dX1_init_45 : decode cX1_init 45 = .ok (.putfield 32, 3) := by decide +kernel
theorem dX1_init_48 : decode cX1_init 48 = .ok (.aload_n 0, 1) := by decide +kernel
theorem dX1_init_49 : decode cX1_init 49 = .ok (.bipush 8, 2) := by decide +kernel
theorem dX1_init_51 : decode cX1_init 51 = .ok (.newarray .int, 2) := by decide +kernel
theorem dX1_init_53 : decode cX1_init 53 = .ok (.putfield 35, 3) := by decide +kernel
theorem dX1_init_56 : decode cX1_init 56 = .ok (.return_, 1) := by decide +kernel
theorem dX1_beginAnew_0 : decode cX1_beginAnew 0 = .ok (.aload_n 0, 1) := by decide +kernel
theorem dX1_beginAnew_1 : decode cX1_beginAnew 1 = .ok (.getfield 15, 3) := by decide +kernel
theorem dX1_beginAnew_4 : decode cX1_beginAnew 4 = .ok (.iconst 0, 1) := by decide +kernel
theorem dX1_beginAnew_5 : decode cX1_beginAnew 5 = .ok (.invokestatic 38, 3) := by decide +kernel
theorem dX1_beginAnew_8 : decode cX1_beginAnew 8 = .ok (.aload_n 0, 1) := by decide +kernel
theorem dX1_beginAnew_9 : decode cX1_beginAnew 9 = .ok (.iconst 0, 1) := by decide +kernel
theorem dX1_beginAnew_10 : decode cX1_beginAnew 10 = .ok (.putfield 44, 3) := by decide +kernel
theorem dX1_beginAnew_13 : decode cX1_beginAnew 13 = .ok (.aload_n 0, 1) := by decide +kernel
theorem dX1_beginAnew_14 : decode cX1_beginAnew 14 = .ok (.iconst (-1), 1) := by decide +kernel
theorem dX1_beginAnew_15 : decode cX1_beginAnew 15 = .ok (.iconst (-1), 1) := by decide +kernel
theorem dX1_beginAnew_16 : decode cX1_beginAnew 16 = .ok (.iconst (-1), 1) := by decide +kernel
theorem dX1_beginAnew_17 : decode cX1_beginAnew 17 = .ok (.invokevirtual 47, 3) := by decide +kernel
theorem dX1_beginAnew_20 : decode cX1_beginAnew 20 = .ok (.return_, 1) := by decide +kernel
theorem dX1_copyFrom_0 : decode cX1_copyFrom 0 = .ok (.aload_n 1, 1) := by decide +kernel
theorem dX1_copyFrom_1 : decode cX1_copyFrom 1 = .ok (.getfield 15, 3) := by decide +kernel
theorem dX1_copyFrom_4 : decode cX1_copyFrom 4 = .ok (.iconst 0, 1) := by decide +kernel
theorem dX1_copyFrom_5 : decode cX1_copyFrom 5 = .ok (.aload_n 0, 1) := by decide +kernel
theorem dX1_copyFrom_6 : decode cX1_copyFrom 6 = .ok (.getfield 15, 3) := by decide +kernel
theorem dX1_copyFrom_9 : decode cX1_copyFrom 9 = .ok (.iconst 0, 1) := by decide +kernel
theorem dX1_copyFrom_10 : decode cX1_copyFrom 10 = .ok (.bipush 8, 2) := by decide +kernel
theorem dX1_copyFrom_12 : decode cX1_copyFrom 12 = .ok (.invokestatic 51, 3) := by decide +kernel
theorem dX1_copyFrom_15 : decode cX1_copyFrom 15 = .ok (.aload_n 0, 1) := by decide +kernel
theorem dX1_copyFrom_16 : decode cX1_copyFrom 16 = .ok (.aload_n 1, 1) := by decide +kernel
theorem dX1_copyFrom_17 : decode cX1_copyFrom 17 = .ok (.getfield 44, 3) := by decide +kernel
theorem dX1_copyFrom_20 : decode cX1_copyFrom 20 = .ok (.putfield 44, 3) := by decide +kernel
theorem dX1_copyFrom_23 : decode cX1_copyFrom 23 = .ok (.aload_n 0, 1) := by decide +kernel
theorem dX1_copyFrom_24 : decode cX1_copyFrom 24 = .ok (.aload_n 1, 1) := by decide +kernel
theorem dX1_copyFrom_25 : decode cX1_copyFrom 25 = .ok (.getfield 19, 3) := by decide +kernel
theorem dX1_copyFrom_28 : decode cX1_copyFrom 28 = .ok (.aload_n 1, 1) := by decide +kernel
theorem dX1_copyFrom_29 : decode cX1_copyFrom 29 = .ok (.getfield 23, 3) := by decide +kernel
theorem dX1_copyFrom_32 : decode cX1_copyFrom 32 = .ok (.aload_n 1, 1) := by decide +kernel
theorem dX1_copyFrom_33 : decode cX1_copyFrom 33 = .ok (.getfield 26, 3) := by decide +kernel
theorem dX1_copyFrom_36 : decode cX1_copyFrom 36 = .ok (.invokevirtual 47, 3) := by decide +kernel
theorem dX1_copyFrom_39 : decode cX1_copyFrom 39 = .ok (.return_, 1) := by decide +kernel
theorem dX1_isNoisy_0 : decode cX1_isNoisy 0 = .ok (.aload_n 0, 1) := by decide +kernel
theorem dX1_isNoisy_1 : decode cX1_isNoisy 1 = .ok (.getfield 19, 3) := by decide +kernel
theorem dX1_isNoisy_4 : decode cX1_isNoisy 4 = .ok (.iconst (-1), 1) := by decide +kernel
theorem dX1_isNoisy_5 : decode cX1_isNoisy 5 = .ok (.if_icmp .eq 7, 3) := by decide +kernel
theorem dX1_isNoisy_8 : decode cX1_isNoisy 8 = .ok (.iconst 1, 1) := by decide +kernel
theorem dX1_isNoisy_9 : decode cX1_isNoisy 9 = .ok (.goto 4, 3) := by decide +kernel
theorem dX1_isNoisy_12 : decode cX1_isNoisy 12 = .ok (.iconst 0, 1) := by decide +kernel
theorem dX1_isNoisy_13 : decode cX1_isNoisy 13 = .ok (.ireturn, 1) := by decide +kernel
theorem dX1_makeNoise_0 : decode cX1_makeNoise 0 = .ok (.aload_n 0, 1) := by decide +kernel
theorem dX1_makeNoise_1 : decode cX1_makeNoise 1 = .ok (.iload_n 1, 1) := by decide +kernel
theorem dX1_makeNoise_2 : decode cX1_makeNoise 2 = .ok (.putfield 19, 3) := by decide +kernel
theorem dX1_makeNoise_5 : decode cX1_makeNoise 5 = .ok (.aload_n 0, 1) := by decide +kernel
theorem dX1_makeNoise_6 : decode cX1_makeNoise 6 = .ok (.iload_n 2, 1) := by decide +kernel
theorem dX1_makeNoise_7 : decode cX1_makeNoise 7 = .ok (.putfield 23, 3) := by decide +kernel
theorem dX1_makeNoise_10 : decode cX1_makeNoise 10 = .ok (.aload_n 0, 1) := by decide +kernel
theorem dX1_makeNoise_11 : decode cX1_makeNoise 11 = .ok (.iload_n 3, 1) := by decide +kernel
theorem dX1_makeNoise_12 : decode cX1_makeNoise 12 = .ok (.putfield 26, 3) := by decide +kernel
theorem dX1_makeNoise_15 : decode cX1_makeNoise 15 = .ok (.iconst 0, 1) := by decide +kernel
theorem dX1_makeNoise_16 : decode cX1_makeNoise 16 = .ok (.istore 4, 2) := by decide +kernel
theorem dX1_makeNoise_18 : decode cX1_makeNoise 18 = .ok (.iload 4, 2) := by decide +kernel
theorem dX1_makeNoise_20 : decode cX1_makeNoise 20 = .ok (.aload_n 0, 1) := by decide +kernel
theorem dX1_makeNoise_21 : decode cX1_makeNoise 21 = .ok (.getfield 9, 3) := by decide +kernel
theorem dX1_makeNoise_24 : decode cX1_makeNoise 24 = .ok (.getfield 57, 3) := by decide +kernel
theorem dX1_makeNoise_27 : decode cX1_makeNoise 27 = .ok (.if_icmp .ge 15, 3) := by decide +kernel
theorem dX1_makeNoise_30 : decode cX1_makeNoise 30 = .ok (.aload_n 0, 1) := by decide +kernel
theorem dX1_makeNoise_31 : decode cX1_makeNoise 31 = .ok (.iload 4, 2) := by decide +kernel
theorem dX1_makeNoise_33 : decode cX1_makeNoise 33 = .ok (.invokevirtual 62, 3) := by decide +kernel
theorem dX1_makeNoise_36 : decode cX1_makeNoise 36 = .ok (.iinc 4 1, 3) := by decide +kernel
theorem dX1_makeNoise_39 : decode cX1_makeNoise 39 = .ok (.goto (-21), 3) := by decide +kernel
theorem dX1_makeNoise_42 : decode cX1_makeNoise 42 = .ok (.return_, 1) := by decide +kernel
theorem dX1_shiftOne_0 : decode cX1_shiftOne 0 = .ok (.aload_n 0, 1) := by decide +kernel
theorem dX1_shiftOne_1 : decode cX1_shiftOne 1 = .ok (.getfield 15, 3) := by decide +kernel
theorem dX1_shiftOne_4 : decode cX1_shiftOne 4 = .ok (.iload_n 1, 1) := by decide +kernel
theorem dX1_shiftOne_5 : decode cX1_shiftOne 5 = .ok (.iload_n 2, 1) := by decide +kernel
theorem dX1_shiftOne_6 : decode cX1_shiftOne 6 = .ok (.iastore, 1) := by decide +kernel
theorem dX1_shiftOne_7 : decode cX1_shiftOne 7 = .ok (.aload_n 0, 1) := by decide +kernel
theorem dX1_shiftOne_8 : decode cX1_shiftOne 8 = .ok (.iload_n 1, 1) := by decide +kernel
theorem dX1_shiftOne_9 : decode cX1_shiftOne 9 = .ok (.invokevirtual 62, 3) := by decide +kernel
theorem dX1_shiftOne_12 : decode cX1_shiftOne 12 = .ok (.return_, 1) := by decide +kernel
theorem dX1_shiftHouse_0 : decode cX1_shiftHouse 0 = .ok (.iconst 0, 1) := by decide +kernel
theorem dX1_shiftHouse_1 : decode cX1_shiftHouse 1 = .ok (.istore_n 3, 1) := by decide +kernel
theorem dX1_shiftHouse_2 : decode cX1_shiftHouse 2 = .ok (.iconst 0, 1) := by decide +kernel
theorem dX1_shiftHouse_3 : decode cX1_shiftHouse 3 = .ok (.istore 4, 2) := by decide +kernel
theorem dX1_shiftHouse_5 : decode cX1_shiftHouse 5 = .ok (.iload 4, 2) := by decide +kernel
theorem dX1_shiftHouse_7 : decode cX1_shiftHouse 7 = .ok (.aload_n 0, 1) := by decide +kernel
theorem dX1_shiftHouse_8 : decode cX1_shiftHouse 8 = .ok (.getfield 9, 3) := by decide +kernel
theorem dX1_shiftHouse_11 : decode cX1_shiftHouse 11 = .ok (.getfield 57, 3) := by decide +kernel
theorem dX1_shiftHouse_14 : decode cX1_shiftHouse 14 = .ok (.if_icmp .ge 43, 3) := by decide +kernel
theorem dX1_shiftHouse_17 : decode cX1_shiftHouse 17 = .ok (.aload_n 0, 1) := by decide +kernel
theorem dX1_shiftHouse_18 : decode cX1_shiftHouse 18 = .ok (.getfield 9, 3) := by decide +kernel
theorem dX1_shiftHouse_21 : decode cX1_shiftHouse 21 = .ok (.getfield 66, 3) := by decide +kernel
theorem dX1_shiftHouse_24 : decode cX1_shiftHouse 24 = .ok (.iload 4, 2) := by decide +kernel
theorem dX1_shiftHouse_26 : decode cX1_shiftHouse 26 = .ok (.iaload, 1) := by decide +kernel
theorem dX1_shiftHouse_27 : decode cX1_shiftHouse 27 = .ok (.iload_n 1, 1) := by decide +kernel
theorem dX1_shiftHouse_28 : decode cX1_shiftHouse 28 = .ok (.if_icmp .ne 23, 3) := by decide +kernel
theorem dX1_shiftHouse_31 : decode cX1_shiftHouse 31 = .ok (.aload_n 0, 1) := by decide +kernel
theorem dX1_shiftHouse_32 : decode cX1_shiftHouse 32 = .ok (.getfield 15, 3) := by decide +kernel
theorem dX1_shiftHouse_35 : decode cX1_shiftHouse 35 = .ok (.iload 4, 2) := by decide +kernel
theorem dX1_shiftHouse_37 : decode cX1_shiftHouse 37 = .ok (.iaload, 1) := by decide +kernel
theorem dX1_shiftHouse_38 : decode cX1_shiftHouse 38 = .ok (.iload_n 2, 1) := by decide +kernel
theorem dX1_shiftHouse_39 : decode cX1_shiftHouse 39 = .ok (.if_icmp .eq 12, 3) := by decide +kernel
theorem dX1_shiftHouse_42 : decode cX1_shiftHouse 42 = .ok (.aload_n 0, 1) := by decide +kernel
theorem dX1_shiftHouse_43 : decode cX1_shiftHouse 43 = .ok (.iload 4, 2) := by decide +kernel
theorem dX1_shiftHouse_45 : decode cX1_shiftHouse 45 = .ok (.iload_n 2, 1) := by decide +kernel
theorem dX1_shiftHouse_46 : decode cX1_shiftHouse 46 = .ok (.invokevirtual 69, 3) := by decide +kernel
theorem dX1_shiftHouse_49 : decode cX1_shiftHouse 49 = .ok (.iconst 1, 1) := by decide +kernel
theorem dX1_shiftHouse_50 : decode cX1_shiftHouse 50 = .ok (.istore_n 3, 1) := by decide +kernel
theorem dX1_shiftHouse_51 : decode cX1_shiftHouse 51 = .ok (.iinc 4 1, 3) := by decide +kernel
theorem dX1_shiftHouse_54 : decode cX1_shiftHouse 54 = .ok (.goto (-49), 3) := by decide +kernel
theorem dX1_shiftHouse_57 : decode cX1_shiftHouse 57 = .ok (.iload_n 3, 1) := by decide +kernel
theorem dX1_shiftHouse_58 : decode cX1_shiftHouse 58 = .ok (.ireturn, 1) := by decide +kernel
theorem dX1_layOut_0 : decode cX1_layOut 0 = .ok (.aload_n 0, 1) := by decide +kernel
theorem dX1_layOut_1 : decode cX1_layOut 1 = .ok (.getfield 9, 3) := by decide +kernel
theorem dX1_layOut_4 : decode cX1_layOut 4 = .ok (.getfield 73, 3) := by decide +kernel
theorem dX1_layOut_7 : decode cX1_layOut 7 = .ok (.iload_n 1, 1) := by decide +kernel
theorem dX1_layOut_8 : decode cX1_layOut 8 = .ok (.iaload, 1) := by decide +kernel
theorem dX1_layOut_9 : decode cX1_layOut 9 = .ok (.aload_n 0, 1) := by decide +kernel
theorem dX1_layOut_10 : decode cX1_layOut 10 = .ok (.getfield 15, 3) := by decide +kernel
theorem dX1_layOut_13 : decode cX1_layOut 13 = .ok (.iload_n 1, 1) := by decide +kernel
theorem dX1_layOut_14 : decode cX1_layOut 14 = .ok (.iaload, 1) := by decide +kernel
theorem dX1_layOut_15 : decode cX1_layOut 15 = .ok (.isub, 1) := by decide +kernel
theorem dX1_layOut_16 : decode cX1_layOut 16 = .ok (.istore_n 2, 1) := by decide +kernel
theorem dX1_layOut_17 : decode cX1_layOut 17 = .ok (.aload_n 0, 1) := by decide +kernel
theorem dX1_layOut_18 : decode cX1_layOut 18 = .ok (.getfield 29, 3) := by decide +kernel
theorem dX1_layOut_21 : decode cX1_layOut 21 = .ok (.iload_n 1, 1) := by decide +kernel
theorem dX1_layOut_22 : decode cX1_layOut 22 = .ok (.iload_n 2, 1) := by decide +kernel
theorem dX1_layOut_23 : decode cX1_layOut 23 = .ok (.aload_n 0, 1) := by decide +kernel
theorem dX1_layOut_24 : decode cX1_layOut 24 = .ok (.getfield 9, 3) := by decide +kernel
theorem dX1_layOut_27 : decode cX1_layOut 27 = .ok (.getfield 76, 3) := by decide +kernel
theorem dX1_layOut_30 : decode cX1_layOut 30 = .ok (.iload_n 1, 1) := by decide +kernel
theorem dX1_layOut_31 : decode cX1_layOut 31 = .ok (.iaload, 1) := by decide +kernel
theorem dX1_layOut_32 : decode cX1_layOut 32 = .ok (.isub, 1) := by decide +kernel
theorem dX1_layOut_33 : decode cX1_layOut 33 = .ok (.iastore, 1) := by decide +kernel
theorem dX1_layOut_34 : decode cX1_layOut 34 = .ok (.aload_n 0, 1) := by decide +kernel
theorem dX1_layOut_35 : decode cX1_layOut 35 = .ok (.getfield 32, 3) := by decide +kernel
theorem dX1_layOut_38 : decode cX1_layOut 38 = .ok (.iload_n 1, 1) := by decide +kernel
theorem dX1_layOut_39 : decode cX1_layOut 39 = .ok (.iload_n 2, 1) := by decide +kernel
theorem dX1_layOut_40 : decode cX1_layOut 40 = .ok (.aload_n 0, 1) := by decide +kernel
theorem dX1_layOut_41 : decode cX1_layOut 41 = .ok (.getfield 9, 3) := by decide +kernel
theorem dX1_layOut_44 : decode cX1_layOut 44 = .ok (.getfield 76, 3) := by decide +kernel
theorem dX1_layOut_47 : decode cX1_layOut 47 = .ok (.iload_n 1, 1) := by decide +kernel
theorem dX1_layOut_48 : decode cX1_layOut 48 = .ok (.iaload, 1) := by decide +kernel
theorem dX1_layOut_49 : decode cX1_layOut 49 = .ok (.iadd, 1) := by decide +kernel
theorem dX1_layOut_50 : decode cX1_layOut 50 = .ok (.iastore, 1) := by decide +kernel
theorem dX1_layOut_51 : decode cX1_layOut 51 = .ok (.aload_n 0, 1) := by decide +kernel
theorem dX1_layOut_52 : decode cX1_layOut 52 = .ok (.getfield 19, 3) := by decide +kernel
theorem dX1_layOut_55 : decode cX1_layOut 55 = .ok (.iconst (-1), 1) := by decide +kernel
theorem dX1_layOut_56 : decode cX1_layOut 56 = .ok (.if_icmp .eq 39, 3) := by decide +kernel
theorem dX1_layOut_59 : decode cX1_layOut 59 = .ok (.aload_n 0, 1) := by decide +kernel
theorem dX1_layOut_60 : decode cX1_layOut 60 = .ok (.getfield 9, 3) := by decide +kernel
theorem dX1_layOut_63 : decode cX1_layOut 63 = .ok (.getfield 66, 3) := by decide +kernel
theorem dX1_layOut_66 : decode cX1_layOut 66 = .ok (.iload_n 1, 1) := by decide +kernel
theorem dX1_layOut_67 : decode cX1_layOut 67 = .ok (.iaload, 1) := by decide +kernel
theorem dX1_layOut_68 : decode cX1_layOut 68 = .ok (.aload_n 0, 1) := by decide +kernel
theorem dX1_layOut_69 : decode cX1_layOut 69 = .ok (.getfield 19, 3) := by decide +kernel
theorem dX1_layOut_72 : decode cX1_layOut 72 = .ok (.if_icmp .eq 23, 3) := by decide +kernel
theorem dX1_layOut_75 : decode cX1_layOut 75 = .ok (.aload_n 0, 1) := by decide +kernel
theorem dX1_layOut_76 : decode cX1_layOut 76 = .ok (.getfield 9, 3) := by decide +kernel
theorem dX1_layOut_79 : decode cX1_layOut 79 = .ok (.getfield 79, 3) := by decide +kernel
theorem dX1_layOut_82 : decode cX1_layOut 82 = .ok (.iload_n 1, 1) := by decide +kernel
theorem dX1_layOut_83 : decode cX1_layOut 83 = .ok (.iaload, 1) := by decide +kernel
theorem dX1_layOut_84 : decode cX1_layOut 84 = .ok (.aload_n 0, 1) := by decide +kernel
theorem dX1_layOut_85 : decode cX1_layOut 85 = .ok (.getfield 26, 3) := by decide +kernel
theorem dX1_layOut_88 : decode cX1_layOut 88 = .ok (.if_icmp .ge 7, 3) := by decide +kernel
theorem dX1_layOut_91 : decode cX1_layOut 91 = .ok (.iconst 1, 1) := by decide +kernel
theorem dX1_layOut_92 : decode cX1_layOut 92 = .ok (.goto 4, 3) := by decide +kernel
theorem dX1_layOut_95 : decode cX1_layOut 95 = .ok (.iconst 0, 1) := by decide +kernel
theorem dX1_layOut_96 : decode cX1_layOut 96 = .ok (.istore_n 3, 1) := by decide +kernel
theorem dX1_layOut_97 : decode cX1_layOut 97 = .ok (.aload_n 0, 1) := by decide +kernel
theorem dX1_layOut_98 : decode cX1_layOut 98 = .ok (.getfield 35, 3) := by decide +kernel
theorem dX1_layOut_101 : decode cX1_layOut 101 = .ok (.iload_n 1, 1) := by decide +kernel
theorem dX1_layOut_102 : decode cX1_layOut 102 = .ok (.iload_n 3, 1) := by decide +kernel
theorem dX1_layOut_103 : decode cX1_layOut 103 = .ok (.ifCond .eq 10, 3) := by decide +kernel
theorem dX1_layOut_106 : decode cX1_layOut 106 = .ok (.aload_n 0, 1) := by decide +kernel
theorem dX1_layOut_107 : decode cX1_layOut 107 = .ok (.getfield 23, 3) := by decide +kernel
theorem dX1_layOut_110 : decode cX1_layOut 110 = .ok (.goto 5, 3) := by decide +kernel
theorem dX1_layOut_113 : decode cX1_layOut 113 = .ok (.ldc 82, 2) := by decide +kernel
theorem dX1_layOut_115 : decode cX1_layOut 115 = .ok (.iastore, 1) := by decide +kernel
theorem dX1_layOut_116 : decode cX1_layOut 116 = .ok (.return_, 1) := by decide +kernel
theorem dX1_heard_0 : decode cX1_heard 0 = .ok (.iload_n 2, 1) := by decide +kernel
theorem dX1_heard_1 : decode cX1_heard 1 = .ok (.aload_n 0, 1) := by decide +kernel
theorem dX1_heard_2 : decode cX1_heard 2 = .ok (.getfield 35, 3) := by decide +kernel
theorem dX1_heard_5 : decode cX1_heard 5 = .ok (.iload_n 1, 1) := by decide +kernel
theorem dX1_heard_6 : decode cX1_heard 6 = .ok (.iaload, 1) := by decide +kernel
theorem dX1_heard_7 : decode cX1_heard 7 = .ok (.if_icmp .ge 7, 3) := by decide +kernel
theorem dX1_heard_10 : decode cX1_heard 10 = .ok (.iload_n 2, 1) := by decide +kernel
theorem dX1_heard_11 : decode cX1_heard 11 = .ok (.goto 9, 3) := by decide +kernel
theorem dX1_heard_14 : decode cX1_heard 14 = .ok (.aload_n 0, 1) := by decide +kernel
theorem dX1_heard_15 : decode cX1_heard 15 = .ok (.getfield 35, 3) := by decide +kernel
theorem dX1_heard_18 : decode cX1_heard 18 = .ok (.iload_n 1, 1) := by decide +kernel
theorem dX1_heard_19 : decode cX1_heard 19 = .ok (.iaload, 1) := by decide +kernel
theorem dX1_heard_20 : decode cX1_heard 20 = .ok (.ireturn, 1) := by decide +kernel
theorem dX1_minuteAt_0 : decode cX1_minuteAt 0 = .ok (.aload_n 0, 1) := by decide +kernel
theorem dX1_minuteAt_1 : decode cX1_minuteAt 1 = .ok (.iload_n 1, 1) := by decide +kernel
theorem dX1_minuteAt_2 : decode cX1_minuteAt 2 = .ok (.aload_n 0, 1) := by decide +kernel
theorem dX1_minuteAt_3 : decode cX1_minuteAt 3 = .ok (.getfield 29, 3) := by decide +kernel
theorem dX1_minuteAt_6 : decode cX1_minuteAt 6 = .ok (.iload_n 1, 1) := by decide +kernel
theorem dX1_minuteAt_7 : decode cX1_minuteAt 7 = .ok (.iaload, 1) := by decide +kernel
theorem dX1_minuteAt_8 : decode cX1_minuteAt 8 = .ok (.iload_n 2, 1) := by decide +kernel
theorem dX1_minuteAt_9 : decode cX1_minuteAt 9 = .ok (.iadd, 1) := by decide +kernel
theorem dX1_minuteAt_10 : decode cX1_minuteAt 10 = .ok (.invokevirtual 83, 3) := by decide +kernel
theorem dX1_minuteAt_13 : decode cX1_minuteAt 13 = .ok (.ireturn, 1) := by decide +kernel
theorem dX1_firstMinute_0 : decode cX1_firstMinute 0 = .ok (.aload_n 0, 1) := by decide +kernel
theorem dX1_firstMinute_1 : decode cX1_firstMinute 1 = .ok (.iload_n 1, 1) := by decide +kernel
theorem dX1_firstMinute_2 : decode cX1_firstMinute 2 = .ok (.aload_n 0, 1) := by decide +kernel
theorem dX1_firstMinute_3 : decode cX1_firstMinute 3 = .ok (.getfield 29, 3) := by decide +kernel
theorem dX1_firstMinute_6 : decode cX1_firstMinute 6 = .ok (.iload_n 1, 1) := by decide +kernel
theorem dX1_firstMinute_7 : decode cX1_firstMinute 7 = .ok (.iaload, 1) := by decide +kernel
theorem dX1_firstMinute_8 : decode cX1_firstMinute 8 = .ok (.invokevirtual 83, 3) := by decide +kernel
theorem dX1_firstMinute_11 : decode cX1_firstMinute 11 = .ok (.ireturn, 1) := by decide +kernel
theorem dX1_lastMinute_0 : decode cX1_lastMinute 0 = .ok (.aload_n 0, 1) := by decide +kernel
theorem dX1_lastMinute_1 : decode cX1_lastMinute 1 = .ok (.iload_n 1, 1) := by decide +kernel
theorem dX1_lastMinute_2 : decode cX1_lastMinute 2 = .ok (.aload_n 0, 1) := by decide +kernel
theorem dX1_lastMinute_3 : decode cX1_lastMinute 3 = .ok (.getfield 32, 3) := by decide +kernel
theorem dX1_lastMinute_6 : decode cX1_lastMinute 6 = .ok (.iload_n 1, 1) := by decide +kernel
theorem dX1_lastMinute_7 : decode cX1_lastMinute 7 = .ok (.iaload, 1) := by decide +kernel
theorem dX1_lastMinute_8 : decode cX1_lastMinute 8 = .ok (.invokevirtual 83, 3) := by decide +kernel
theorem dX1_lastMinute_11 : decode cX1_lastMinute 11 = .ok (.ireturn, 1) := by decide +kernel
theorem dX1_oddsOfHouses_0 : decode cX1_oddsOfHouses 0 = .ok (.iconst 0, 1) := by decide +kernel
theorem dX1_oddsOfHouses_1 : decode cX1_oddsOfHouses 1 = .ok (.istore_n 2, 1) := by decide +kernel
theorem dX1_oddsOfHouses_2 : decode cX1_oddsOfHouses 2 = .ok (.iconst 0, 1) := by decide +kernel
theorem dX1_oddsOfHouses_3 : decode cX1_oddsOfHouses 3 = .ok (.istore_n 3, 1) := by decide +kernel
theorem dX1_oddsOfHouses_4 : decode cX1_oddsOfHouses 4 = .ok (.iload_n 3, 1) := by decide +kernel
theorem dX1_oddsOfHouses_5 : decode cX1_oddsOfHouses 5 = .ok (.aload_n 0, 1) := by decide +kernel
theorem dX1_oddsOfHouses_6 : decode cX1_oddsOfHouses 6 = .ok (.getfield 9, 3) := by decide +kernel
theorem dX1_oddsOfHouses_9 : decode cX1_oddsOfHouses 9 = .ok (.getfield 57, 3) := by decide +kernel
theorem dX1_oddsOfHouses_12 : decode cX1_oddsOfHouses 12 = .ok (.if_icmp .ge 33, 3) := by decide +kernel
theorem dX1_oddsOfHouses_15 : decode cX1_oddsOfHouses 15 = .ok (.iload_n 1, 1) := by decide +kernel
theorem dX1_oddsOfHouses_16 : decode cX1_oddsOfHouses 16 = .ok (.aload_n 0, 1) := by decide +kernel
theorem dX1_oddsOfHouses_17 : decode cX1_oddsOfHouses 17 = .ok (.getfield 9, 3) := by decide +kernel
theorem dX1_oddsOfHouses_20 : decode cX1_oddsOfHouses 20 = .ok (.getfield 66, 3) := by decide +kernel
theorem dX1_oddsOfHouses_23 : decode cX1_oddsOfHouses 23 = .ok (.iload_n 3, 1) := by decide +kernel
theorem dX1_oddsOfHouses_24 : decode cX1_oddsOfHouses 24 = .ok (.iaload, 1) := by decide +kernel
theorem dX1_oddsOfHouses_25 : decode cX1_oddsOfHouses 25 = .ok (.ishr, 1) := by decide +kernel
theorem dX1_oddsOfHouses_26 : decode cX1_oddsOfHouses 26 = .ok (.iconst 1, 1) := by decide +kernel
theorem dX1_oddsOfHouses_27 : decode cX1_oddsOfHouses 27 = .ok (.iand, 1) := by decide +kernel
theorem dX1_oddsOfHouses_28 : decode cX1_oddsOfHouses 28 = .ok (.ifCond .eq 11, 3) := by decide +kernel
theorem dX1_oddsOfHouses_31 : decode cX1_oddsOfHouses 31 = .ok (.iload_n 2, 1) := by decide +kernel
theorem dX1_oddsOfHouses_32 : decode cX1_oddsOfHouses 32 = .ok (.aload_n 0, 1) := by decide +kernel
theorem dX1_oddsOfHouses_33 : decode cX1_oddsOfHouses 33 = .ok (.iload_n 3, 1) := by decide +kernel
theorem dX1_oddsOfHouses_34 : decode cX1_oddsOfHouses 34 = .ok (.invokevirtual 87, 3) := by decide +kernel
theorem dX1_oddsOfHouses_37 : decode cX1_oddsOfHouses 37 = .ok (.iadd, 1) := by decide +kernel
theorem dX1_oddsOfHouses_38 : decode cX1_oddsOfHouses 38 = .ok (.istore_n 2, 1) := by decide +kernel
theorem dX1_oddsOfHouses_39 : decode cX1_oddsOfHouses 39 = .ok (.iinc 3 1, 3) := by decide +kernel
theorem dX1_oddsOfHouses_42 : decode cX1_oddsOfHouses 42 = .ok (.goto (-38), 3) := by decide +kernel
theorem dX1_oddsOfHouses_45 : decode cX1_oddsOfHouses 45 = .ok (.iload_n 2, 1) := by decide +kernel
theorem dX1_oddsOfHouses_46 : decode cX1_oddsOfHouses 46 = .ok (.ireturn, 1) := by decide +kernel
theorem dX1_oddsOf_0 : decode cX1_oddsOf 0 = .ok (.aload_n 0, 1) := by decide +kernel
theorem dX1_oddsOf_1 : decode cX1_oddsOf 1 = .ok (.getfield 44, 3) := by decide +kernel
theorem dX1_oddsOf_4 : decode cX1_oddsOf 4 = .ok (.iconst 2, 1) := by decide +kernel
theorem dX1_oddsOf_5 : decode cX1_oddsOf 5 = .ok (.if_icmp .ne 28, 3) := by decide +kernel
theorem dX1_oddsOf_8 : decode cX1_oddsOf 8 = .ok (.aload_n 0, 1) := by decide +kernel
theorem dX1_oddsOf_9 : decode cX1_oddsOf 9 = .ok (.getfield 9, 3) := by decide +kernel
theorem dX1_oddsOf_12 : decode cX1_oddsOf 12 = .ok (.getfield 57, 3) := by decide +kernel
theorem dX1_oddsOf_15 : decode cX1_oddsOf 15 = .ok (.ifCond .le 16, 3) := by decide +kernel
theorem dX1_oddsOf_18 : decode cX1_oddsOf 18 = .ok (.ldc 91, 2) := by decide +kernel
theorem dX1_oddsOf_20 : decode cX1_oddsOf 20 = .ok (.aload_n 0, 1) := by decide +kernel
theorem dX1_oddsOf_21 : decode cX1_oddsOf 21 = .ok (.getfield 9, 3) := by decide +kernel
theorem dX1_oddsOf_24 : decode cX1_oddsOf 24 = .ok (.getfield 57, 3) := by decide +kernel
theorem dX1_oddsOf_27 : decode cX1_oddsOf 27 = .ok (.idiv, 1) := by decide +kernel
theorem dX1_oddsOf_28 : decode cX1_oddsOf 28 = .ok (.goto 4, 3) := by decide +kernel
theorem dX1_oddsOf_31 : decode cX1_oddsOf 31 = .ok (.iconst 0, 1) := by decide +kernel
theorem dX1_oddsOf_32 : decode cX1_oddsOf 32 = .ok (.ireturn, 1) := by decide +kernel
theorem dX1_oddsOf_33 : decode cX1_oddsOf 33 = .ok (.iconst 0, 1) := by decide +kernel
theorem dX1_oddsOf_34 : decode cX1_oddsOf 34 = .ok (.istore_n 2, 1) := by decide +kernel
theorem dX1_oddsOf_35 : decode cX1_oddsOf 35 = .ok (.aload_n 0, 1) := by decide +kernel
theorem dX1_oddsOf_36 : decode cX1_oddsOf 36 = .ok (.getfield 29, 3) := by decide +kernel
theorem dX1_oddsOf_39 : decode cX1_oddsOf 39 = .ok (.iload_n 1, 1) := by decide +kernel
theorem dX1_oddsOf_40 : decode cX1_oddsOf 40 = .ok (.iaload, 1) := by decide +kernel
theorem dX1_oddsOf_41 : decode cX1_oddsOf 41 = .ok (.istore_n 3, 1) := by decide +kernel
theorem dX1_oddsOf_42 : decode cX1_oddsOf 42 = .ok (.iload_n 3, 1) := by decide +kernel
theorem dX1_oddsOf_43 : decode cX1_oddsOf 43 = .ok (.aload_n 0, 1) := by decide +kernel
theorem dX1_oddsOf_44 : decode cX1_oddsOf 44 = .ok (.getfield 32, 3) := by decide +kernel
theorem dX1_oddsOf_47 : decode cX1_oddsOf 47 = .ok (.iload_n 1, 1) := by decide +kernel
theorem dX1_oddsOf_48 : decode cX1_oddsOf 48 = .ok (.iaload, 1) := by decide +kernel
theorem dX1_oddsOf_49 : decode cX1_oddsOf 49 = .ok (.if_icmp .gt 124, 3) := by decide +kernel
theorem dX1_oddsOf_52 : decode cX1_oddsOf 52 = .ok (.ldc 91, 2) := by decide +kernel
theorem dX1_oddsOf_54 : decode cX1_oddsOf 54 = .ok (.iconst 2, 1) := by decide +kernel
theorem dX1_oddsOf_55 : decode cX1_oddsOf 55 = .ok (.aload_n 0, 1) := by decide +kernel
theorem dX1_oddsOf_56 : decode cX1_oddsOf 56 = .ok (.getfield 9, 3) := by decide +kernel
theorem dX1_oddsOf_59 : decode cX1_oddsOf 59 = .ok (.getfield 76, 3) := by decide +kernel
theorem dX1_oddsOf_62 : decode cX1_oddsOf 62 = .ok (.iload_n 1, 1) := by decide +kernel
theorem dX1_oddsOf_63 : decode cX1_oddsOf 63 = .ok (.iaload, 1) := by decide +kernel
theorem dX1_oddsOf_64 : decode cX1_oddsOf 64 = .ok (.imul, 1) := by decide +kernel
theorem dX1_oddsOf_65 : decode cX1_oddsOf 65 = .ok (.iconst 1, 1) := by decide +kernel
theorem dX1_oddsOf_66 : decode cX1_oddsOf 66 = .ok (.iadd, 1) := by decide +kernel
theorem dX1_oddsOf_67 : decode cX1_oddsOf 67 = .ok (.idiv, 1) := by decide +kernel
theorem dX1_oddsOf_68 : decode cX1_oddsOf 68 = .ok (.i2l, 1) := by decide +kernel
theorem dX1_oddsOf_69 : decode cX1_oddsOf 69 = .ok (.lstore 4, 2) := by decide +kernel
theorem dX1_oddsOf_71 : decode cX1_oddsOf 71 = .ok (.aload_n 0, 1) := by decide +kernel
theorem dX1_oddsOf_72 : decode cX1_oddsOf 72 = .ok (.iload_n 1, 1) := by decide +kernel
theorem dX1_oddsOf_73 : decode cX1_oddsOf 73 = .ok (.iload_n 3, 1) := by decide +kernel
theorem dX1_oddsOf_74 : decode cX1_oddsOf 74 = .ok (.invokevirtual 83, 3) := by decide +kernel
theorem dX1_oddsOf_77 : decode cX1_oddsOf 77 = .ok (.istore 6, 2) := by decide +kernel
theorem dX1_oddsOf_79 : decode cX1_oddsOf 79 = .ok (.iconst 0, 1) := by decide +kernel
theorem dX1_oddsOf_80 : decode cX1_oddsOf 80 = .ok (.istore 7, 2) := by decide +kernel
theorem dX1_oddsOf_82 : decode cX1_oddsOf 82 = .ok (.iload 7, 2) := by decide +kernel
theorem dX1_oddsOf_84 : decode cX1_oddsOf 84 = .ok (.aload_n 0, 1) := by decide +kernel
theorem dX1_oddsOf_85 : decode cX1_oddsOf 85 = .ok (.getfield 9, 3) := by decide +kernel
theorem dX1_oddsOf_88 : decode cX1_oddsOf 88 = .ok (.getfield 57, 3) := by decide +kernel
theorem dX1_oddsOf_91 : decode cX1_oddsOf 91 = .ok (.if_icmp .ge 53, 3) := by decide +kernel
theorem dX1_oddsOf_94 : decode cX1_oddsOf 94 = .ok (.lload 4, 2) := by decide +kernel
theorem dX1_oddsOf_96 : decode cX1_oddsOf 96 = .ok (.lconst 0, 1) := by decide +kernel
theorem dX1_oddsOf_97 : decode cX1_oddsOf 97 = .ok (.lcmp, 1) := by decide +kernel
theorem dX1_oddsOf_98 : decode cX1_oddsOf 98 = .ok (.ifCond .eq 46, 3) := by decide +kernel
theorem dX1_oddsOf_101 : decode cX1_oddsOf 101 = .ok (.iload 7, 2) := by decide +kernel
theorem dX1_oddsOf_103 : decode cX1_oddsOf 103 = .ok (.iload_n 1, 1) := by decide +kernel
theorem dX1_oddsOf_104 : decode cX1_oddsOf 104 = .ok (.if_icmp .eq 34, 3) := by decide +kernel
theorem dX1_oddsOf_107 : decode cX1_oddsOf 107 = .ok (.lload 4, 2) := by decide +kernel
theorem dX1_oddsOf_109 : decode cX1_oddsOf 109 = .ok (.aload_n 0, 1) := by decide +kernel
theorem dX1_oddsOf_110 : decode cX1_oddsOf 110 = .ok (.iload 7, 2) := by decide +kernel
theorem dX1_oddsOf_112 : decode cX1_oddsOf 112 = .ok (.iload_n 1, 1) := by decide +kernel
theorem dX1_oddsOf_113 : decode cX1_oddsOf 113 = .ok (.iload 6, 2) := by decide +kernel
theorem dX1_oddsOf_115 : decode cX1_oddsOf 115 = .ok (.invokevirtual 92, 3) := by decide +kernel
theorem dX1_oddsOf_118 : decode cX1_oddsOf 118 = .ok (.i2l, 1) := by decide +kernel
theorem dX1_oddsOf_119 : decode cX1_oddsOf 119 = .ok (.lmul, 1) := by decide +kernel
theorem dX1_oddsOf_120 : decode cX1_oddsOf 120 = .ok (.iconst 2, 1) := by decide +kernel
theorem dX1_oddsOf_121 : decode cX1_oddsOf 121 = .ok (.aload_n 0, 1) := by decide +kernel
theorem dX1_oddsOf_122 : decode cX1_oddsOf 122 = .ok (.getfield 9, 3) := by decide +kernel
theorem dX1_oddsOf_125 : decode cX1_oddsOf 125 = .ok (.getfield 76, 3) := by decide +kernel
theorem dX1_oddsOf_128 : decode cX1_oddsOf 128 = .ok (.iload 7, 2) := by decide +kernel
theorem dX1_oddsOf_130 : decode cX1_oddsOf 130 = .ok (.iaload, 1) := by decide +kernel
theorem dX1_oddsOf_131 : decode cX1_oddsOf 131 = .ok (.imul, 1) := by decide +kernel
theorem dX1_oddsOf_132 : decode cX1_oddsOf 132 = .ok (.iconst 1, 1) := by decide +kernel
theorem dX1_oddsOf_133 : decode cX1_oddsOf 133 = .ok (.iadd, 1) := by decide +kernel
theorem dX1_oddsOf_134 : decode cX1_oddsOf 134 = .ok (.i2l, 1) := by decide +kernel
theorem dX1_oddsOf_135 : decode cX1_oddsOf 135 = .ok (.ldiv, 1) := by decide +kernel
theorem dX1_oddsOf_136 : decode cX1_oddsOf 136 = .ok (.lstore 4, 2) := by decide +kernel
theorem dX1_oddsOf_138 : decode cX1_oddsOf 138 = .ok (.iinc 7 1, 3) := by decide +kernel
theorem dX1_oddsOf_141 : decode cX1_oddsOf 141 = .ok (.goto (-59), 3) := by decide +kernel
theorem dX1_oddsOf_144 : decode cX1_oddsOf 144 = .ok (.iload_n 2, 1) := by decide +kernel
theorem dX1_oddsOf_145 : decode cX1_oddsOf 145 = .ok (.lload 4, 2) := by decide +kernel
theorem dX1_oddsOf_147 : decode cX1_oddsOf 147 = .ok (.l2i, 1) := by decide +kernel
theorem dX1_oddsOf_148 : decode cX1_oddsOf 148 = .ok (.iadd, 1) := by decide +kernel
theorem dX1_oddsOf_149 : decode cX1_oddsOf 149 = .ok (.istore_n 2, 1) := by decide +kernel
theorem dX1_oddsOf_150 : decode cX1_oddsOf 150 = .ok (.lload 4, 2) := by decide +kernel
theorem dX1_oddsOf_152 : decode cX1_oddsOf 152 = .ok (.lconst 0, 1) := by decide +kernel
theorem dX1_oddsOf_153 : decode cX1_oddsOf 153 = .ok (.lcmp, 1) := by decide +kernel
theorem dX1_oddsOf_154 : decode cX1_oddsOf 154 = .ok (.ifCond .ne 13, 3) := by decide +kernel
theorem dX1_oddsOf_157 : decode cX1_oddsOf 157 = .ok (.aload_n 0, 1) := by decide +kernel
theorem dX1_oddsOf_158 : decode cX1_oddsOf 158 = .ok (.getfield 44, 3) := by decide +kernel
theorem dX1_oddsOf_161 : decode cX1_oddsOf 161 = .ok (.ifCond .ne 6, 3) := by decide +kernel
theorem dX1_oddsOf_164 : decode cX1_oddsOf 164 = .ok (.goto 9, 3) := by decide +kernel
theorem dX1_oddsOf_167 : decode cX1_oddsOf 167 = .ok (.iinc 3 1, 3) := by decide +kernel
theorem dX1_oddsOf_170 : decode cX1_oddsOf 170 = .ok (.goto (-128), 3) := by decide +kernel
theorem dX1_oddsOf_173 : decode cX1_oddsOf 173 = .ok (.iload_n 2, 1) := by decide +kernel
theorem dX1_oddsOf_174 : decode cX1_oddsOf 174 = .ok (.ireturn, 1) := by decide +kernel
theorem dX1_letting_0 : decode cX1_letting 0 = .ok (.aload_n 0, 1) := by decide +kernel
theorem dX1_letting_1 : decode cX1_letting 1 = .ok (.getfield 29, 3) := by decide +kernel
theorem dX1_letting_4 : decode cX1_letting 4 = .ok (.iload_n 1, 1) := by decide +kernel
theorem dX1_letting_5 : decode cX1_letting 5 = .ok (.iaload, 1) := by decide +kernel
theorem dX1_letting_6 : decode cX1_letting 6 = .ok (.istore 4, 2) := by decide +kernel
theorem dX1_letting_8 : decode cX1_letting 8 = .ok (.aload_n 0, 1) := by decide +kernel
theorem dX1_letting_9 : decode cX1_letting 9 = .ok (.getfield 32, 3) := by decide +kernel
theorem dX1_letting_12 : decode cX1_letting 12 = .ok (.iload_n 1, 1) := by decide +kernel
theorem dX1_letting_13 : decode cX1_letting 13 = .ok (.iaload, 1) := by decide +kernel
theorem dX1_letting_14 : decode cX1_letting 14 = .ok (.istore 5, 2) := by decide +kernel
theorem dX1_letting_16 : decode cX1_letting 16 = .ok (.aload_n 0, 1) := by decide +kernel
theorem dX1_letting_17 : decode cX1_letting 17 = .ok (.getfield 44, 3) := by decide +kernel
theorem dX1_letting_20 : decode cX1_letting 20 = .ok (.ifCond .ne 62, 3) := by decide +kernel
theorem dX1_letting_23 : decode cX1_letting 23 = .ok (.iload_n 1, 1) := by decide +kernel
theorem dX1_letting_24 : decode cX1_letting 24 = .ok (.iload_n 2, 1) := by decide +kernel
theorem dX1_letting_25 : decode cX1_letting 25 = .ok (.if_icmp .le 7, 3) := by decide +kernel
theorem dX1_letting_28 : decode cX1_letting 28 = .ok (.iload_n 3, 1) := by decide +kernel
theorem dX1_letting_29 : decode cX1_letting 29 = .ok (.goto 6, 3) := by decide +kernel
theorem dX1_letting_32 : decode cX1_letting 32 = .ok (.iload_n 3, 1) := by decide +kernel
theorem dX1_letting_33 : decode cX1_letting 33 = .ok (.iconst 1, 1) := by decide +kernel
theorem dX1_letting_34 : decode cX1_letting 34 = .ok (.iadd, 1) := by decide +kernel
theorem dX1_letting_35 : decode cX1_letting 35 = .ok (.istore 6, 2) := by decide +kernel
theorem dX1_letting_37 : decode cX1_letting 37 = .ok (.iload 6, 2) := by decide +kernel
theorem dX1_letting_39 : decode cX1_letting 39 = .ok (.aload_n 0, 1) := by decide +kernel
theorem dX1_letting_40 : decode cX1_letting 40 = .ok (.getfield 35, 3) := by decide +kernel
theorem dX1_letting_43 : decode cX1_letting 43 = .ok (.iload_n 1, 1) := by decide +kernel
theorem dX1_letting_44 : decode cX1_letting 44 = .ok (.iaload, 1) := by decide +kernel
theorem dX1_letting_45 : decode cX1_letting 45 = .ok (.if_icmp .gt 10, 3) := by decide +kernel
theorem dX1_letting_48 : decode cX1_letting 48 = .ok (.iload 6, 2) := by decide +kernel
theorem dX1_letting_50 : decode cX1_letting 50 = .ok (.iload 5, 2) := by decide +kernel
theorem dX1_letting_52 : decode cX1_letting 52 = .ok (.if_icmp .le 5, 3) := by decide +kernel
theorem dX1_letting_55 : decode cX1_letting 55 = .ok (.iconst 0, 1) := by decide +kernel
theorem dX1_letting_56 : decode cX1_letting 56 = .ok (.ireturn, 1) := by decide +kernel
theorem dX1_letting_57 : decode cX1_letting 57 = .ok (.iload 6, 2) := by decide +kernel
theorem dX1_letting_59 : decode cX1_letting 59 = .ok (.iload 4, 2) := by decide +kernel
theorem dX1_letting_61 : decode cX1_letting 61 = .ok (.if_icmp .le 13, 3) := by decide +kernel
theorem dX1_letting_64 : decode cX1_letting 64 = .ok (.iload 5, 2) := by decide +kernel
theorem dX1_letting_66 : decode cX1_letting 66 = .ok (.iload 6, 2) := by decide +kernel
theorem dX1_letting_68 : decode cX1_letting 68 = .ok (.isub, 1) := by decide +kernel
theorem dX1_letting_69 : decode cX1_letting 69 = .ok (.iconst 1, 1) := by decide +kernel
theorem dX1_letting_70 : decode cX1_letting 70 = .ok (.iadd, 1) := by decide +kernel
theorem dX1_letting_71 : decode cX1_letting 71 = .ok (.goto 10, 3) := by decide +kernel
theorem dX1_letting_74 : decode cX1_letting 74 = .ok (.iload 5, 2) := by decide +kernel
theorem dX1_letting_76 : decode cX1_letting 76 = .ok (.iload 4, 2) := by decide +kernel
theorem dX1_letting_78 : decode cX1_letting 78 = .ok (.isub, 1) := by decide +kernel
theorem dX1_letting_79 : decode cX1_letting 79 = .ok (.iconst 1, 1) := by decide +kernel
theorem dX1_letting_80 : decode cX1_letting 80 = .ok (.iadd, 1) := by decide +kernel
theorem dX1_letting_81 : decode cX1_letting 81 = .ok (.ireturn, 1) := by decide +kernel
theorem dX1_letting_82 : decode cX1_letting 82 = .ok (.iload_n 1, 1) := by decide +kernel
theorem dX1_letting_83 : decode cX1_letting 83 = .ok (.iload_n 2, 1) := by decide +kernel
theorem dX1_letting_84 : decode cX1_letting 84 = .ok (.if_icmp .le 7, 3) := by decide +kernel
theorem dX1_letting_87 : decode cX1_letting 87 = .ok (.iload_n 3, 1) := by decide +kernel
theorem dX1_letting_88 : decode cX1_letting 88 = .ok (.goto 6, 3) := by decide +kernel
theorem dX1_letting_91 : decode cX1_letting 91 = .ok (.iload_n 3, 1) := by decide +kernel
theorem dX1_letting_92 : decode cX1_letting 92 = .ok (.iconst 1, 1) := by decide +kernel
theorem dX1_letting_93 : decode cX1_letting 93 = .ok (.isub, 1) := by decide +kernel
theorem dX1_letting_94 : decode cX1_letting 94 = .ok (.istore 6, 2) := by decide +kernel
theorem dX1_letting_96 : decode cX1_letting 96 = .ok (.iload 6, 2) := by decide +kernel
theorem dX1_letting_98 : decode cX1_letting 98 = .ok (.aload_n 0, 1) := by decide +kernel
theorem dX1_letting_99 : decode cX1_letting 99 = .ok (.getfield 35, 3) := by decide +kernel
theorem dX1_letting_102 : decode cX1_letting 102 = .ok (.iload_n 1, 1) := by decide +kernel
theorem dX1_letting_103 : decode cX1_letting 103 = .ok (.iaload, 1) := by decide +kernel
theorem dX1_letting_104 : decode cX1_letting 104 = .ok (.if_icmp .ge 10, 3) := by decide +kernel
theorem dX1_letting_107 : decode cX1_letting 107 = .ok (.iload 6, 2) := by decide +kernel
theorem dX1_letting_109 : decode cX1_letting 109 = .ok (.iload 5, 2) := by decide +kernel
theorem dX1_letting_111 : decode cX1_letting 111 = .ok (.if_icmp .lt 11, 3) := by decide +kernel
theorem dX1_letting_114 : decode cX1_letting 114 = .ok (.iload 5, 2) := by decide +kernel
theorem dX1_letting_116 : decode cX1_letting 116 = .ok (.iload 4, 2) := by decide +kernel
theorem dX1_letting_118 : decode cX1_letting 118 = .ok (.isub, 1) := by decide +kernel
theorem dX1_letting_119 : decode cX1_letting 119 = .ok (.iconst 1, 1) := by decide +kernel
theorem dX1_letting_120 : decode cX1_letting 120 = .ok (.iadd, 1) := by decide +kernel
theorem dX1_letting_121 : decode cX1_letting 121 = .ok (.ireturn, 1) := by decide +kernel
theorem dX1_letting_122 : decode cX1_letting 122 = .ok (.iload 6, 2) := by decide +kernel
theorem dX1_letting_124 : decode cX1_letting 124 = .ok (.iload 4, 2) := by decide +kernel
theorem dX1_letting_126 : decode cX1_letting 126 = .ok (.if_icmp .ge 7, 3) := by decide +kernel
theorem dX1_letting_129 : decode cX1_letting 129 = .ok (.iconst 0, 1) := by decide +kernel
theorem dX1_letting_130 : decode cX1_letting 130 = .ok (.goto 10, 3) := by decide +kernel
theorem dX1_letting_133 : decode cX1_letting 133 = .ok (.iload 6, 2) := by decide +kernel
theorem dX1_letting_135 : decode cX1_letting 135 = .ok (.iload 4, 2) := by decide +kernel
theorem dX1_letting_137 : decode cX1_letting 137 = .ok (.isub, 1) := by decide +kernel
theorem dX1_letting_138 : decode cX1_letting 138 = .ok (.iconst 1, 1) := by decide +kernel
theorem dX1_letting_139 : decode cX1_letting 139 = .ok (.iadd, 1) := by decide +kernel
theorem dX1_letting_140 : decode cX1_letting 140 = .ok (.ireturn, 1) := by decide +kernel
theorem dX1_mayRuleAt_0 : decode cX1_mayRuleAt 0 = .ok (.iload_n 2, 1) := by decide +kernel
theorem dX1_mayRuleAt_1 : decode cX1_mayRuleAt 1 = .ok (.aload_n 0, 1) := by decide +kernel
theorem dX1_mayRuleAt_2 : decode cX1_mayRuleAt 2 = .ok (.iload_n 1, 1) := by decide +kernel
theorem dX1_mayRuleAt_3 : decode cX1_mayRuleAt 3 = .ok (.invokevirtual 96, 3) := by decide +kernel
theorem dX1_mayRuleAt_6 : decode cX1_mayRuleAt 6 = .ok (.if_icmp .lt 12, 3) := by decide +kernel
theorem dX1_mayRuleAt_9 : decode cX1_mayRuleAt 9 = .ok (.iload_n 2, 1) := by decide +kernel
theorem dX1_mayRuleAt_10 : decode cX1_mayRuleAt 10 = .ok (.aload_n 0, 1) := by decide +kernel
theorem dX1_mayRuleAt_11 : decode cX1_mayRuleAt 11 = .ok (.iload_n 1, 1) := by decide +kernel
theorem dX1_mayRuleAt_12 : decode cX1_mayRuleAt 12 = .ok (.invokevirtual 99, 3) := by decide +kernel
theorem dX1_mayRuleAt_15 : decode cX1_mayRuleAt 15 = .ok (.if_icmp .le 5, 3) := by decide +kernel
theorem dX1_mayRuleAt_18 : decode cX1_mayRuleAt 18 = .ok (.iconst 0, 1) := by decide +kernel
theorem dX1_mayRuleAt_19 : decode cX1_mayRuleAt 19 = .ok (.ireturn, 1) := by decide +kernel
theorem dX1_mayRuleAt_20 : decode cX1_mayRuleAt 20 = .ok (.iconst 0, 1) := by decide +kernel
theorem dX1_mayRuleAt_21 : decode cX1_mayRuleAt 21 = .ok (.istore_n 3, 1) := by decide +kernel
theorem dX1_mayRuleAt_22 : decode cX1_mayRuleAt 22 = .ok (.iload_n 3, 1) := by decide +kernel
theorem dX1_mayRuleAt_23 : decode cX1_mayRuleAt 23 = .ok (.aload_n 0, 1) := by decide +kernel
theorem dX1_mayRuleAt_24 : decode cX1_mayRuleAt 24 = .ok (.getfield 9, 3) := by decide +kernel
theorem dX1_mayRuleAt_27 : decode cX1_mayRuleAt 27 = .ok (.getfield 57, 3) := by decide +kernel
theorem dX1_mayRuleAt_30 : decode cX1_mayRuleAt 30 = .ok (.if_icmp .ge 26, 3) := by decide +kernel
theorem dX1_mayRuleAt_33 : decode cX1_mayRuleAt 33 = .ok (.iload_n 3, 1) := by decide +kernel
theorem dX1_mayRuleAt_34 : decode cX1_mayRuleAt 34 = .ok (.iload_n 1, 1) := by decide +kernel
theorem dX1_mayRuleAt_35 : decode cX1_mayRuleAt 35 = .ok (.if_icmp .eq 15, 3) := by decide +kernel
theorem dX1_mayRuleAt_38 : decode cX1_mayRuleAt 38 = .ok (.aload_n 0, 1) := by decide +kernel
theorem dX1_mayRuleAt_39 : decode cX1_mayRuleAt 39 = .ok (.iload_n 3, 1) := by decide +kernel
theorem dX1_mayRuleAt_40 : decode cX1_mayRuleAt 40 = .ok (.iload_n 1, 1) := by decide +kernel
theorem dX1_mayRuleAt_41 : decode cX1_mayRuleAt 41 = .ok (.iload_n 2, 1) := by decide +kernel
theorem dX1_mayRuleAt_42 : decode cX1_mayRuleAt 42 = .ok (.invokevirtual 92, 3) := by decide +kernel
theorem dX1_mayRuleAt_45 : decode cX1_mayRuleAt 45 = .ok (.ifCond .ne 5, 3) := by decide +kernel
theorem dX1_mayRuleAt_48 : decode cX1_mayRuleAt 48 = .ok (.iconst 0, 1) := by decide +kernel
theorem dX1_mayRuleAt_49 : decode cX1_mayRuleAt 49 = .ok (.ireturn, 1) := by decide +kernel
theorem dX1_mayRuleAt_50 : decode cX1_mayRuleAt 50 = .ok (.iinc 3 1, 3) := by decide +kernel
theorem dX1_mayRuleAt_53 : decode cX1_mayRuleAt 53 = .ok (.goto (-31), 3) := by decide +kernel
theorem dX1_mayRuleAt_56 : decode cX1_mayRuleAt 56 = .ok (.iconst 1, 1) := by decide +kernel
theorem dX1_mayRuleAt_57 : decode cX1_mayRuleAt 57 = .ok (.ireturn, 1) := by decide +kernel
theorem dX2_init_0 : decode cX2_init 0 = .ok (.aload_n 0, 1) := by decide +kernel
theorem dX2_init_1 : decode cX2_init 1 = .ok (.invokespecial 3, 3) := by decide +kernel
theorem dX2_init_4 : decode cX2_init 4 = .ok (.aload_n 0, 1) := by decide +kernel
theorem dX2_init_5 : decode cX2_init 5 = .ok (.aload_n 1, 1) := by decide +kernel
theorem dX2_init_6 : decode cX2_init 6 = .ok (.putfield 9, 3) := by decide +kernel
theorem dX2_init_9 : decode cX2_init 9 = .ok (.aload_n 0, 1) := by decide +kernel
theorem dX2_init_10 : decode cX2_init 10 = .ok (.new 15, 3) := by decide +kernel
theorem dX2_init_13 : decode cX2_init 13 = .ok (.dup, 1) := by decide +kernel
theorem dX2_init_14 : decode cX2_init 14 = .ok (.aload_n 1, 1) := by decide +kernel
theorem dX2_init_15 : decode cX2_init 15 = .ok (.invokespecial 17, 3) := by decide +kernel
theorem dX2_init_18 : decode cX2_init 18 = .ok (.putfield 20, 3) := by decide +kernel
theorem dX2_init_21 : decode cX2_init 21 = .ok (.aload_n 0, 1) := by decide +kernel
theorem dX2_init_22 : decode cX2_init 22 = .ok (.new 15, 3) := by decide +kernel
theorem dX2_init_25 : decode cX2_init 25 = .ok (.dup, 1) := by decide +kernel
theorem dX2_init_26 : decode cX2_init 26 = .ok (.aload_n 1, 1) := by decide +kernel
theorem dX2_init_27 : decode cX2_init 27 = .ok (.invokespecial 17, 3) := by decide +kernel
theorem dX2_init_30 : decode cX2_init 30 = .ok (.putfield 24, 3) := by decide +kernel
theorem dX2_init_33 : decode cX2_init 33 = .ok (.aload_n 0, 1) := by decide +kernel
theorem dX2_init_34 : decode cX2_init 34 = .ok (.bipush 20, 2) := by decide +kernel
theorem dX2_init_36 : decode cX2_init 36 = .ok (.newarray .int, 2) := by decide +kernel
theorem dX2_init_38 : decode cX2_init 38 = .ok (.putfield 27, 3) := by decide +kernel
theorem dX2_init_41 : decode cX2_init 41 = .ok (.return_, 1) := by decide +kernel
theorem dX2_seekShift_0 : decode cX2_seekShift 0 = .ok (.aload_n 0, 1) := by decide +kernel
theorem dX2_seekShift_1 : decode cX2_seekShift 1 = .ok (.getfield 24, 3) := by decide +kernel
theorem dX2_seekShift_4 : decode cX2_seekShift 4 = .ok (.aload_n 1, 1) := by decide +kernel
theorem dX2_seekShift_5 : decode cX2_seekShift 5 = .ok (.invokevirtual 31, 3) := by decide +kernel
theorem dX2_seekShift_8 : decode cX2_seekShift 8 = .ok (.lconst 0, 1) := by decide +kernel
theorem dX2_seekShift_9 : decode cX2_seekShift 9 = .ok (.lstore_n 3, 1) := by decide +kernel
theorem dX2_seekShift_10 : decode cX2_seekShift 10 = .ok (.iconst 0, 1) := by decide +kernel
theorem dX2_seekShift_11 : decode cX2_seekShift 11 = .ok (.istore 5, 2) := by decide +kernel
theorem dX2_seekShift_13 : decode cX2_seekShift 13 = .ok (.iload 5, 2) := by decide +kernel
theorem dX2_seekShift_15 : decode cX2_seekShift 15 = .ok (.aload_n 0, 1) := by decide +kernel
theorem dX2_seekShift_16 : decode cX2_seekShift 16 = .ok (.getfield 9, 3) := by decide +kernel
theorem dX2_seekShift_19 : decode cX2_seekShift 19 = .ok (.getfield 35, 3) := by decide +kernel
theorem dX2_seekShift_22 : decode cX2_seekShift 22 = .ok (.iload_n 2, 1) := by decide +kernel
theorem dX2_seekShift_23 : decode cX2_seekShift 23 = .ok (.iaload, 1) := by decide +kernel
theorem dX2_seekShift_24 : decode cX2_seekShift 24 = .ok (.if_icmp .gt 83, 3) := by decide +kernel
theorem dX2_seekShift_27 : decode cX2_seekShift 27 = .ok (.aload_n 0, 1) := by decide +kernel
theorem dX2_seekShift_28 : decode cX2_seekShift 28 = .ok (.getfield 24, 3) := by decide +kernel
theorem dX2_seekShift_31 : decode cX2_seekShift 31 = .ok (.iload_n 2, 1) := by decide +kernel
theorem dX2_seekShift_32 : decode cX2_seekShift 32 = .ok (.iload 5, 2) := by decide +kernel
theorem dX2_seekShift_34 : decode cX2_seekShift 34 = .ok (.invokevirtual 40, 3) := by decide +kernel
theorem dX2_seekShift_37 : decode cX2_seekShift 37 = .ok (.pop, 1) := by decide +kernel
theorem dX2_seekShift_38 : decode cX2_seekShift 38 = .ok (.aload_n 0, 1) := by decide +kernel
theorem dX2_seekShift_39 : decode cX2_seekShift 39 = .ok (.getfield 24, 3) := by decide +kernel
theorem dX2_seekShift_42 : decode cX2_seekShift 42 = .ok (.iconst 1, 1) := by decide +kernel
theorem dX2_seekShift_43 : decode cX2_seekShift 43 = .ok (.iload_n 2, 1) := by decide +kernel
theorem dX2_seekShift_44 : decode cX2_seekShift 44 = .ok (.ishl, 1) := by decide +kernel
theorem dX2_seekShift_45 : decode cX2_seekShift 45 = .ok (.invokevirtual 44, 3) := by decide +kernel
theorem dX2_seekShift_48 : decode cX2_seekShift 48 = .ok (.istore 6, 2) := by decide +kernel
theorem dX2_seekShift_50 : decode cX2_seekShift 50 = .ok (.iload 6, 2) := by decide +kernel
theorem dX2_seekShift_52 : decode cX2_seekShift 52 = .ok (.i2l, 1) := by decide +kernel
theorem dX2_seekShift_53 : decode cX2_seekShift 53 = .ok (.aload_n 0, 1) := by decide +kernel
theorem dX2_seekShift_54 : decode cX2_seekShift 54 = .ok (.getfield 9, 3) := by decide +kernel
theorem dX2_seekShift_57 : decode cX2_seekShift 57 = .ok (.getfield 48, 3) := by decide +kernel
theorem dX2_seekShift_60 : decode cX2_seekShift 60 = .ok (.iload_n 2, 1) := by decide +kernel
theorem dX2_seekShift_61 : decode cX2_seekShift 61 = .ok (.iaload, 1) := by decide +kernel
theorem dX2_seekShift_62 : decode cX2_seekShift 62 = .ok (.i2l, 1) := by decide +kernel
theorem dX2_seekShift_63 : decode cX2_seekShift 63 = .ok (.lmul, 1) := by decide +kernel
theorem dX2_seekShift_64 : decode cX2_seekShift 64 = .ok (.ldc2_w 51, 3) := by decide +kernel
theorem dX2_seekShift_67 : decode cX2_seekShift 67 = .ok (.ldiv, 1) := by decide +kernel
theorem dX2_seekShift_68 : decode cX2_seekShift 68 = .ok (.iload 5, 2) := by decide +kernel
theorem dX2_seekShift_70 : decode cX2_seekShift 70 = .ok (.i2l, 1) := by decide +kernel
theorem dX2_seekShift_71 : decode cX2_seekShift 71 = .ok (.lsub, 1) := by decide +kernel
theorem dX2_seekShift_72 : decode cX2_seekShift 72 = .ok (.lstore 7, 2) := by decide +kernel
theorem dX2_seekShift_74 : decode cX2_seekShift 74 = .ok (.iload 5, 2) := by decide +kernel
theorem dX2_seekShift_76 : decode cX2_seekShift 76 = .ok (.ifCond .eq 10, 3) := by decide +kernel
theorem dX2_seekShift_79 : decode cX2_seekShift 79 = .ok (.lload 7, 2) := by decide +kernel
theorem dX2_seekShift_81 : decode cX2_seekShift 81 = .ok (.lload_n 3, 1) := by decide +kernel
theorem dX2_seekShift_82 : decode cX2_seekShift 82 = .ok (.lcmp, 1) := by decide +kernel
theorem dX2_seekShift_83 : decode cX2_seekShift 83 = .ok (.ifCond .le 18, 3) := by decide +kernel
theorem dX2_seekShift_86 : decode cX2_seekShift 86 = .ok (.lload 7, 2) := by decide +kernel
theorem dX2_seekShift_88 : decode cX2_seekShift 88 = .ok (.lstore_n 3, 1) := by decide +kernel
theorem dX2_seekShift_89 : decode cX2_seekShift 89 = .ok (.aload_n 0, 1) := by decide +kernel
theorem dX2_seekShift_90 : decode cX2_seekShift 90 = .ok (.iload 5, 2) := by decide +kernel
theorem dX2_seekShift_92 : decode cX2_seekShift 92 = .ok (.putfield 53, 3) := by decide +kernel
theorem dX2_seekShift_95 : decode cX2_seekShift 95 = .ok (.aload_n 0, 1) := by decide +kernel
theorem dX2_seekShift_96 : decode cX2_seekShift 96 = .ok (.iload 6, 2) := by decide +kernel
theorem dX2_seekShift_98 : decode cX2_seekShift 98 = .ok (.putfield 57, 3) := by decide +kernel
theorem dX2_seekShift_101 : decode cX2_seekShift 101 = .ok (.iinc 5 10, 3) := by decide +kernel
theorem dX2_seekShift_104 : decode cX2_seekShift 104 = .ok (.goto (-91), 3) := by decide +kernel
theorem dX2_seekShift_107 : decode cX2_seekShift 107 = .ok (.return_, 1) := by decide +kernel
theorem dX2_seekNoise_0 : decode cX2_seekNoise 0 = .ok (.aload_n 0, 1) := by decide +kernel
theorem dX2_seekNoise_1 : decode cX2_seekNoise 1 = .ok (.getfield 24, 3) := by decide +kernel
theorem dX2_seekNoise_4 : decode cX2_seekNoise 4 = .ok (.aload_n 1, 1) := by decide +kernel
theorem dX2_seekNoise_5 : decode cX2_seekNoise 5 = .ok (.invokevirtual 31, 3) := by decide +kernel
theorem dX2_seekNoise_8 : decode cX2_seekNoise 8 = .ok (.iconst 0, 1) := by decide +kernel
theorem dX2_seekNoise_9 : decode cX2_seekNoise 9 = .ok (.istore_n 3, 1) := by decide +kernel
theorem dX2_seekNoise_10 : decode cX2_seekNoise 10 = .ok (.iload_n 3, 1) := by decide +kernel
theorem dX2_seekNoise_11 : decode cX2_seekNoise 11 = .ok (.bipush 9, 2) := by decide +kernel
theorem dX2_seekNoise_13 : decode cX2_seekNoise 13 = .ok (.if_icmp .gt 56, 3) := by decide +kernel
theorem dX2_seekNoise_16 : decode cX2_seekNoise 16 = .ok (.aload_n 0, 1) := by decide +kernel
theorem dX2_seekNoise_17 : decode cX2_seekNoise 17 = .ok (.getfield 24, 3) := by decide +kernel
theorem dX2_seekNoise_20 : decode cX2_seekNoise 20 = .ok (.iload_n 2, 1) := by decide +kernel
theorem dX2_seekNoise_21 : decode cX2_seekNoise 21 = .ok (.bipush 60, 2) := by decide +kernel
theorem dX2_seekNoise_23 : decode cX2_seekNoise 23 = .ok (.iload_n 3, 1) := by decide +kernel
theorem dX2_seekNoise_24 : decode cX2_seekNoise 24 = .ok (.invokevirtual 60, 3) := by decide +kernel
theorem dX2_seekNoise_27 : decode cX2_seekNoise 27 = .ok (.aload_n 0, 1) := by decide +kernel
theorem dX2_seekNoise_28 : decode cX2_seekNoise 28 = .ok (.getfield 24, 3) := by decide +kernel
theorem dX2_seekNoise_31 : decode cX2_seekNoise 31 = .ok (.iconst 1, 1) := by decide +kernel
theorem dX2_seekNoise_32 : decode cX2_seekNoise 32 = .ok (.iload_n 2, 1) := by decide +kernel
theorem dX2_seekNoise_33 : decode cX2_seekNoise 33 = .ok (.ishl, 1) := by decide +kernel
theorem dX2_seekNoise_34 : decode cX2_seekNoise 34 = .ok (.invokevirtual 44, 3) := by decide +kernel
theorem dX2_seekNoise_37 : decode cX2_seekNoise 37 = .ok (.istore 4, 2) := by decide +kernel
theorem dX2_seekNoise_39 : decode cX2_seekNoise 39 = .ok (.iload_n 3, 1) := by decide +kernel
theorem dX2_seekNoise_40 : decode cX2_seekNoise 40 = .ok (.ifCond .eq 12, 3) := by decide +kernel
theorem dX2_seekNoise_43 : decode cX2_seekNoise 43 = .ok (.iload 4, 2) := by decide +kernel
theorem dX2_seekNoise_45 : decode cX2_seekNoise 45 = .ok (.aload_n 0, 1) := by decide +kernel
theorem dX2_seekNoise_46 : decode cX2_seekNoise 46 = .ok (.getfield 57, 3) := by decide +kernel
theorem dX2_seekNoise_49 : decode cX2_seekNoise 49 = .ok (.if_icmp .le 14, 3) := by decide +kernel
theorem dX2_seekNoise_52 : decode cX2_seekNoise 52 = .ok (.aload_n 0, 1) := by decide +kernel
theorem dX2_seekNoise_53 : decode cX2_seekNoise 53 = .ok (.iload_n 3, 1) := by decide +kernel
theorem dX2_seekNoise_54 : decode cX2_seekNoise 54 = .ok (.putfield 64, 3) := by decide +kernel
theorem dX2_seekNoise_57 : decode cX2_seekNoise 57 = .ok (.aload_n 0, 1) := by decide +kernel
theorem dX2_seekNoise_58 : decode cX2_seekNoise 58 = .ok (.iload 4, 2) := by decide +kernel
theorem dX2_seekNoise_60 : decode cX2_seekNoise 60 = .ok (.putfield 57, 3) := by decide +kernel
theorem dX2_seekNoise_63 : decode cX2_seekNoise 63 = .ok (.iinc 3 1, 3) := by decide +kernel
theorem dX2_seekNoise_66 : decode cX2_seekNoise 66 = .ok (.goto (-56), 3) := by decide +kernel
theorem dX2_seekNoise_69 : decode cX2_seekNoise 69 = .ok (.return_, 1) := by decide +kernel
theorem dX2_settle_0 : decode cX2_settle 0 = .ok (.aload_n 0, 1) := by decide +kernel
theorem dX2_settle_1 : decode cX2_settle 1 = .ok (.getfield 20, 3) := by decide +kernel
theorem dX2_settle_4 : decode cX2_settle 4 = .ok (.aload_n 1, 1) := by decide +kernel
theorem dX2_settle_5 : decode cX2_settle 5 = .ok (.invokevirtual 31, 3) := by decide +kernel
theorem dX2_settle_8 : decode cX2_settle 8 = .ok (.iconst 0, 1) := by decide +kernel
theorem dX2_settle_9 : decode cX2_settle 9 = .ok (.istore_n 2, 1) := by decide +kernel
theorem dX2_settle_10 : decode cX2_settle 10 = .ok (.iload_n 2, 1) := by decide +kernel
theorem dX2_settle_11 : decode cX2_settle 11 = .ok (.bipush 20, 2) := by decide +kernel
theorem dX2_settle_13 : decode cX2_settle 13 = .ok (.if_icmp .ge 38, 3) := by decide +kernel
theorem dX2_settle_16 : decode cX2_settle 16 = .ok (.aload_n 0, 1) := by decide +kernel
theorem dX2_settle_17 : decode cX2_settle 17 = .ok (.invokevirtual 67, 3) := by decide +kernel
theorem dX2_settle_20 : decode cX2_settle 20 = .ok (.ifCond .ne 5, 3) := by decide +kernel
theorem dX2_settle_23 : decode cX2_settle 23 = .ok (.iload_n 2, 1) := by decide +kernel
theorem dX2_settle_24 : decode cX2_settle 24 = .ok (.ireturn, 1) := by decide +kernel
theorem dX2_settle_25 : decode cX2_settle 25 = .ok (.aload_n 0, 1) := by decide +kernel
theorem dX2_settle_26 : decode cX2_settle 26 = .ok (.getfield 27, 3) := by decide +kernel
theorem dX2_settle_29 : decode cX2_settle 29 = .ok (.iload_n 2, 1) := by decide +kernel
theorem dX2_settle_30 : decode cX2_settle 30 = .ok (.aload_n 0, 1) := by decide +kernel
theorem dX2_settle_31 : decode cX2_settle 31 = .ok (.invokevirtual 71, 3) := by decide +kernel
theorem dX2_settle_34 : decode cX2_settle 34 = .ok (.iastore, 1) := by decide +kernel
theorem dX2_settle_35 : decode cX2_settle 35 = .ok (.aload_n 0, 1) := by decide +kernel
theorem dX2_settle_36 : decode cX2_settle 36 = .ok (.iload_n 2, 1) := by decide +kernel
theorem dX2_settle_37 : decode cX2_settle 37 = .ok (.invokevirtual 75, 3) := by decide +kernel
theorem dX2_settle_40 : decode cX2_settle 40 = .ok (.ifCond .eq 5, 3) := by decide +kernel
theorem dX2_settle_43 : decode cX2_settle 43 = .ok (.iconst (-1), 1) := by decide +kernel
theorem dX2_settle_44 : decode cX2_settle 44 = .ok (.ireturn, 1) := by decide +kernel
theorem dX2_settle_45 : decode cX2_settle 45 = .ok (.iinc 2 1, 3) := by decide +kernel
theorem dX2_settle_48 : decode cX2_settle 48 = .ok (.goto (-38), 3) := by decide +kernel
theorem dX2_settle_51 : decode cX2_settle 51 = .ok (.iconst (-1), 1) := by decide +kernel
theorem dX2_settle_52 : decode cX2_settle 52 = .ok (.ireturn, 1) := by decide +kernel
theorem dX2_playRound_0 : decode cX2_playRound 0 = .ok (.iconst 0, 1) := by decide +kernel
theorem dX2_playRound_1 : decode cX2_playRound 1 = .ok (.istore_n 1, 1) := by decide +kernel
theorem dX2_playRound_2 : decode cX2_playRound 2 = .ok (.iconst 0, 1) := by decide +kernel
theorem dX2_playRound_3 : decode cX2_playRound 3 = .ok (.istore_n 2, 1) := by decide +kernel
theorem dX2_playRound_4 : decode cX2_playRound 4 = .ok (.iload_n 2, 1) := by decide +kernel
theorem dX2_playRound_5 : decode cX2_playRound 5 = .ok (.aload_n 0, 1) := by decide +kernel
theorem dX2_playRound_6 : decode cX2_playRound 6 = .ok (.getfield 9, 3) := by decide +kernel
theorem dX2_playRound_9 : decode cX2_playRound 9 = .ok (.getfield 79, 3) := by decide +kernel
theorem dX2_playRound_12 : decode cX2_playRound 12 = .ok (.if_icmp .ge 44, 3) := by decide +kernel
theorem dX2_playRound_15 : decode cX2_playRound 15 = .ok (.aload_n 0, 1) := by decide +kernel
theorem dX2_playRound_16 : decode cX2_playRound 16 = .ok (.getfield 9, 3) := by decide +kernel
theorem dX2_playRound_19 : decode cX2_playRound 19 = .ok (.iload_n 2, 1) := by decide +kernel
theorem dX2_playRound_20 : decode cX2_playRound 20 = .ok (.invokevirtual 82, 3) := by decide +kernel
theorem dX2_playRound_23 : decode cX2_playRound 23 = .ok (.ifCond .eq 27, 3) := by decide +kernel
theorem dX2_playRound_26 : decode cX2_playRound 26 = .ok (.aload_n 0, 1) := by decide +kernel
theorem dX2_playRound_27 : decode cX2_playRound 27 = .ok (.aload_n 0, 1) := by decide +kernel
theorem dX2_playRound_28 : decode cX2_playRound 28 = .ok (.getfield 20, 3) := by decide +kernel
theorem dX2_playRound_31 : decode cX2_playRound 31 = .ok (.iload_n 2, 1) := by decide +kernel
theorem dX2_playRound_32 : decode cX2_playRound 32 = .ok (.invokevirtual 85, 3) := by decide +kernel
theorem dX2_playRound_35 : decode cX2_playRound 35 = .ok (.iload_n 1, 1) := by decide +kernel
theorem dX2_playRound_36 : decode cX2_playRound 36 = .ok (.aload_n 0, 1) := by decide +kernel
theorem dX2_playRound_37 : decode cX2_playRound 37 = .ok (.getfield 20, 3) := by decide +kernel
theorem dX2_playRound_40 : decode cX2_playRound 40 = .ok (.iload_n 2, 1) := by decide +kernel
theorem dX2_playRound_41 : decode cX2_playRound 41 = .ok (.aload_n 0, 1) := by decide +kernel
theorem dX2_playRound_42 : decode cX2_playRound 42 = .ok (.getfield 53, 3) := by decide +kernel
theorem dX2_playRound_45 : decode cX2_playRound 45 = .ok (.invokevirtual 40, 3) := by decide +kernel
theorem dX2_playRound_48 : decode cX2_playRound 48 = .ok (.ior, 1) := by decide +kernel
theorem dX2_playRound_49 : decode cX2_playRound 49 = .ok (.istore_n 1, 1) := by decide +kernel
theorem dX2_playRound_50 : decode cX2_playRound 50 = .ok (.iinc 2 1, 3) := by decide +kernel
theorem dX2_playRound_53 : decode cX2_playRound 53 = .ok (.goto (-49), 3) := by decide +kernel
theorem dX2_playRound_56 : decode cX2_playRound 56 = .ok (.iload_n 1, 1) := by decide +kernel
theorem dX2_playRound_57 : decode cX2_playRound 57 = .ok (.ireturn, 1) := by decide +kernel
theorem dX2_codeOfPlan_0 : decode cX2_codeOfPlan 0 = .ok (.iconst 0, 1) := by decide +kernel
theorem dX2_codeOfPlan_1 : decode cX2_codeOfPlan 1 = .ok (.istore_n 1, 1) := by decide +kernel
theorem dX2_codeOfPlan_2 : decode cX2_codeOfPlan 2 = .ok (.iconst 0, 1) := by decide +kernel
theorem dX2_codeOfPlan_3 : decode cX2_codeOfPlan 3 = .ok (.istore_n 2, 1) := by decide +kernel
theorem dX2_codeOfPlan_4 : decode cX2_codeOfPlan 4 = .ok (.iload_n 2, 1) := by decide +kernel
theorem dX2_codeOfPlan_5 : decode cX2_codeOfPlan 5 = .ok (.aload_n 0, 1) := by decide +kernel
theorem dX2_codeOfPlan_6 : decode cX2_codeOfPlan 6 = .ok (.getfield 9, 3) := by decide +kernel
theorem dX2_codeOfPlan_9 : decode cX2_codeOfPlan 9 = .ok (.getfield 89, 3) := by decide +kernel
theorem dX2_codeOfPlan_12 : decode cX2_codeOfPlan 12 = .ok (.if_icmp .ge 27, 3) := by decide +kernel
theorem dX2_codeOfPlan_15 : decode cX2_codeOfPlan 15 = .ok (.iload_n 1, 1) := by decide +kernel
theorem dX2_codeOfPlan_16 : decode cX2_codeOfPlan 16 = .ok (.bipush 7, 2) := by decide +kernel
theorem dX2_codeOfPlan_18 : decode cX2_codeOfPlan 18 = .ok (.imul, 1) := by decide +kernel
theorem dX2_codeOfPlan_19 : decode cX2_codeOfPlan 19 = .ok (.aload_n 0, 1) := by decide +kernel
theorem dX2_codeOfPlan_20 : decode cX2_codeOfPlan 20 = .ok (.getfield 20, 3) := by decide +kernel
theorem dX2_codeOfPlan_23 : decode cX2_codeOfPlan 23 = .ok (.getfield 92, 3) := by decide +kernel
theorem dX2_codeOfPlan_26 : decode cX2_codeOfPlan 26 = .ok (.iload_n 2, 1) := by decide +kernel
theorem dX2_codeOfPlan_27 : decode cX2_codeOfPlan 27 = .ok (.iaload, 1) := by decide +kernel
theorem dX2_codeOfPlan_28 : decode cX2_codeOfPlan 28 = .ok (.bipush 10, 2) := by decide +kernel
theorem dX2_codeOfPlan_30 : decode cX2_codeOfPlan 30 = .ok (.idiv, 1) := by decide +kernel
theorem dX2_codeOfPlan_31 : decode cX2_codeOfPlan 31 = .ok (.iadd, 1) := by decide +kernel
theorem dX2_codeOfPlan_32 : decode cX2_codeOfPlan 32 = .ok (.istore_n 1, 1) := by decide +kernel
theorem dX2_codeOfPlan_33 : decode cX2_codeOfPlan 33 = .ok (.iinc 2 1, 3) := by decide +kernel
theorem dX2_codeOfPlan_36 : decode cX2_codeOfPlan 36 = .ok (.goto (-32), 3) := by decide +kernel
theorem dX2_codeOfPlan_39 : decode cX2_codeOfPlan 39 = .ok (.iload_n 1, 1) := by decide +kernel
theorem dX2_codeOfPlan_40 : decode cX2_codeOfPlan 40 = .ok (.ireturn, 1) := by decide +kernel
theorem dX2_wasThere_0 : decode cX2_wasThere 0 = .ok (.iconst 0, 1) := by decide +kernel
theorem dX2_wasThere_1 : decode cX2_wasThere 1 = .ok (.istore_n 2, 1) := by decide +kernel
theorem dX2_wasThere_2 : decode cX2_wasThere 2 = .ok (.iload_n 2, 1) := by decide +kernel
theorem dX2_wasThere_3 : decode cX2_wasThere 3 = .ok (.iload_n 1, 1) := by decide +kernel
theorem dX2_wasThere_4 : decode cX2_wasThere 4 = .ok (.if_icmp .ge 26, 3) := by decide +kernel
theorem dX2_wasThere_7 : decode cX2_wasThere 7 = .ok (.aload_n 0, 1) := by decide +kernel
theorem dX2_wasThere_8 : decode cX2_wasThere 8 = .ok (.getfield 27, 3) := by decide +kernel
theorem dX2_wasThere_11 : decode cX2_wasThere 11 = .ok (.iload_n 2, 1) := by decide +kernel
theorem dX2_wasThere_12 : decode cX2_wasThere 12 = .ok (.iaload, 1) := by decide +kernel
theorem dX2_wasThere_13 : decode cX2_wasThere 13 = .ok (.aload_n 0, 1) := by decide +kernel
theorem dX2_wasThere_14 : decode cX2_wasThere 14 = .ok (.getfield 27, 3) := by decide +kernel
theorem dX2_wasThere_17 : decode cX2_wasThere 17 = .ok (.iload_n 1, 1) := by decide +kernel
theorem dX2_wasThere_18 : decode cX2_wasThere 18 = .ok (.iaload, 1) := by decide +kernel
theorem dX2_wasThere_19 : decode cX2_wasThere 19 = .ok (.if_icmp .ne 5, 3) := by decide +kernel
theorem dX2_wasThere_22 : decode cX2_wasThere 22 = .ok (.iconst 1, 1) := by decide +kernel
theorem dX2_wasThere_23 : decode cX2_wasThere 23 = .ok (.ireturn, 1) := by decide +kernel
theorem dX2_wasThere_24 : decode cX2_wasThere 24 = .ok (.iinc 2 1, 3) := by decide +kernel
theorem dX2_wasThere_27 : decode cX2_wasThere 27 = .ok (.goto (-25), 3) := by decide +kernel
theorem dX2_wasThere_30 : decode cX2_wasThere 30 = .ok (.iconst 0, 1) := by decide +kernel
theorem dX2_wasThere_31 : decode cX2_wasThere 31 = .ok (.ireturn, 1) := by decide +kernel
theorem dX2_settledShift_0 : decode cX2_settledShift 0 = .ok (.iconst 0, 1) := by decide +kernel
theorem dX2_settledShift_1 : decode cX2_settledShift 1 = .ok (.istore_n 2, 1) := by decide +kernel
theorem dX2_settledShift_2 : decode cX2_settledShift 2 = .ok (.iload_n 2, 1) := by decide +kernel
theorem dX2_settledShift_3 : decode cX2_settledShift 3 = .ok (.aload_n 0, 1) := by decide +kernel
theorem dX2_settledShift_4 : decode cX2_settledShift 4 = .ok (.getfield 9, 3) := by decide +kernel
theorem dX2_settledShift_7 : decode cX2_settledShift 7 = .ok (.getfield 89, 3) := by decide +kernel
theorem dX2_settledShift_10 : decode cX2_settledShift 10 = .ok (.if_icmp .ge 32, 3) := by decide +kernel
theorem dX2_settledShift_13 : decode cX2_settledShift 13 = .ok (.aload_n 0, 1) := by decide +kernel
theorem dX2_settledShift_14 : decode cX2_settledShift 14 = .ok (.getfield 9, 3) := by decide +kernel
theorem dX2_settledShift_17 : decode cX2_settledShift 17 = .ok (.getfield 95, 3) := by decide +kernel
theorem dX2_settledShift_20 : decode cX2_settledShift 20 = .ok (.iload_n 2, 1) := by decide +kernel
theorem dX2_settledShift_21 : decode cX2_settledShift 21 = .ok (.iaload, 1) := by decide +kernel
theorem dX2_settledShift_22 : decode cX2_settledShift 22 = .ok (.iload_n 1, 1) := by decide +kernel
theorem dX2_settledShift_23 : decode cX2_settledShift 23 = .ok (.if_icmp .ne 13, 3) := by decide +kernel
theorem dX2_settledShift_26 : decode cX2_settledShift 26 = .ok (.aload_n 0, 1) := by decide +kernel
theorem dX2_settledShift_27 : decode cX2_settledShift 27 = .ok (.getfield 20, 3) := by decide +kernel
theorem dX2_settledShift_30 : decode cX2_settledShift 30 = .ok (.getfield 92, 3) := by decide +kernel
theorem dX2_settledShift_33 : decode cX2_settledShift 33 = .ok (.iload_n 2, 1) := by decide +kernel
theorem dX2_settledShift_34 : decode cX2_settledShift 34 = .ok (.iaload, 1) := by decide +kernel
theorem dX2_settledShift_35 : decode cX2_settledShift 35 = .ok (.ireturn, 1) := by decide +kernel
theorem dX2_settledShift_36 : decode cX2_settledShift 36 = .ok (.iinc 2 1, 3) := by decide +kernel
theorem dX2_settledShift_39 : decode cX2_settledShift 39 = .ok (.goto (-37), 3) := by decide +kernel
theorem dX2_settledShift_42 : decode cX2_settledShift 42 = .ok (.iconst 0, 1) := by decide +kernel
theorem dX2_settledShift_43 : decode cX2_settledShift 43 = .ok (.ireturn, 1) := by decide +kernel
theorem dX3_init_0 : decode cX3_init 0 = .ok (.aload_n 0, 1) := by decide +kernel
theorem dX3_init_1 : decode cX3_init 1 = .ok (.invokespecial 3, 3) := by decide +kernel
theorem dX3_init_4 : decode cX3_init 4 = .ok (.aload_n 0, 1) := by decide +kernel
theorem dX3_init_5 : decode cX3_init 5 = .ok (.bipush 7, 2) := by decide +kernel
theorem dX3_init_7 : decode cX3_init 7 = .ok (.newarray .long, 2) := by decide +kernel
theorem dX3_init_9 : decode cX3_init 9 = .ok (.putfield 9, 3) := by decide +kernel
theorem dX3_init_12 : decode cX3_init 12 = .ok (.return_, 1) := by decide +kernel
theorem dX3_begin_0 : decode cX3_begin 0 = .ok (.aload_n 0, 1) := by decide +kernel
theorem dX3_begin_1 : decode cX3_begin 1 = .ok (.getfield 9, 3) := by decide +kernel
theorem dX3_begin_4 : decode cX3_begin 4 = .ok (.lconst 0, 1) := by decide +kernel
theorem dX3_begin_5 : decode cX3_begin 5 = .ok (.invokestatic 15, 3) := by decide +kernel
theorem dX3_begin_8 : decode cX3_begin 8 = .ok (.aload_n 0, 1) := by decide +kernel
theorem dX3_begin_9 : decode cX3_begin 9 = .ok (.iload_n 1, 1) := by decide +kernel
theorem dX3_begin_10 : decode cX3_begin 10 = .ok (.putfield 21, 3) := by decide +kernel
theorem dX3_begin_13 : decode cX3_begin 13 = .ok (.aload_n 0, 1) := by decide +kernel
theorem dX3_begin_14 : decode cX3_begin 14 = .ok (.iload_n 3, 1) := by decide +kernel
theorem dX3_begin_15 : decode cX3_begin 15 = .ok (.i2l, 1) := by decide +kernel
theorem dX3_begin_16 : decode cX3_begin 16 = .ok (.putfield 25, 3) := by decide +kernel
theorem dX3_begin_19 : decode cX3_begin 19 = .ok (.aload_n 0, 1) := by decide +kernel
theorem dX3_begin_20 : decode cX3_begin 20 = .ok (.lconst 0, 1) := by decide +kernel
theorem dX3_begin_21 : decode cX3_begin 21 = .ok (.putfield 29, 3) := by decide +kernel
theorem dX3_begin_24 : decode cX3_begin 24 = .ok (.iload_n 2, 1) := by decide +kernel
theorem dX3_begin_25 : decode cX3_begin 25 = .ok (.ifCond .lt 18, 3) := by decide +kernel
theorem dX3_begin_28 : decode cX3_begin 28 = .ok (.iload_n 2, 1) := by decide +kernel
theorem dX3_begin_29 : decode cX3_begin 29 = .ok (.bipush 7, 2) := by decide +kernel
theorem dX3_begin_31 : decode cX3_begin 31 = .ok (.if_icmp .ge 12, 3) := by decide +kernel
theorem dX3_begin_34 : decode cX3_begin 34 = .ok (.aload_n 0, 1) := by decide +kernel
theorem dX3_begin_35 : decode cX3_begin 35 = .ok (.getfield 9, 3) := by decide +kernel
theorem dX3_begin_38 : decode cX3_begin 38 = .ok (.iload_n 2, 1) := by decide +kernel
theorem dX3_begin_39 : decode cX3_begin 39 = .ok (.ldc2_w 32, 3) := by decide +kernel
theorem dX3_begin_42 : decode cX3_begin 42 = .ok (.lastore, 1) := by decide +kernel
theorem dX3_begin_43 : decode cX3_begin 43 = .ok (.return_, 1) := by decide +kernel
theorem dX3_goOnADay_0 : decode cX3_goOnADay 0 = .ok (.lconst 0, 1) := by decide +kernel
theorem dX3_goOnADay_1 : decode cX3_goOnADay 1 = .ok (.lstore_n 1, 1) := by decide +kernel
theorem dX3_goOnADay_2 : decode cX3_goOnADay 2 = .ok (.aload_n 0, 1) := by decide +kernel
theorem dX3_goOnADay_3 : decode cX3_goOnADay 3 = .ok (.getfield 21, 3) := by decide +kernel
theorem dX3_goOnADay_6 : decode cX3_goOnADay 6 = .ok (.iconst 1, 1) := by decide +kernel
theorem dX3_goOnADay_7 : decode cX3_goOnADay 7 = .ok (.isub, 1) := by decide +kernel
theorem dX3_goOnADay_8 : decode cX3_goOnADay 8 = .ok (.istore_n 3, 1) := by decide +kernel
theorem dX3_goOnADay_9 : decode cX3_goOnADay 9 = .ok (.iload_n 3, 1) := by decide +kernel
theorem dX3_goOnADay_10 : decode cX3_goOnADay 10 = .ok (.ifCond .lt 72, 3) := by decide +kernel
theorem dX3_goOnADay_13 : decode cX3_goOnADay 13 = .ok (.aload_n 0, 1) := by decide +kernel
theorem dX3_goOnADay_14 : decode cX3_goOnADay 14 = .ok (.getfield 9, 3) := by decide +kernel
theorem dX3_goOnADay_17 : decode cX3_goOnADay 17 = .ok (.iload_n 3, 1) := by decide +kernel
theorem dX3_goOnADay_18 : decode cX3_goOnADay 18 = .ok (.laload, 1) := by decide +kernel
theorem dX3_goOnADay_19 : decode cX3_goOnADay 19 = .ok (.aload_n 0, 1) := by decide +kernel
theorem dX3_goOnADay_20 : decode cX3_goOnADay 20 = .ok (.getfield 25, 3) := by decide +kernel
theorem dX3_goOnADay_23 : decode cX3_goOnADay 23 = .ok (.lmul, 1) := by decide +kernel
theorem dX3_goOnADay_24 : decode cX3_goOnADay 24 = .ok (.ldc2_w 32, 3) := by decide +kernel
theorem dX3_goOnADay_27 : decode cX3_goOnADay 27 = .ok (.ldiv, 1) := by decide +kernel
theorem dX3_goOnADay_28 : decode cX3_goOnADay 28 = .ok (.lstore 4, 2) := by decide +kernel
theorem dX3_goOnADay_30 : decode cX3_goOnADay 30 = .ok (.lload_n 1, 1) := by decide +kernel
theorem dX3_goOnADay_31 : decode cX3_goOnADay 31 = .ok (.aload_n 0, 1) := by decide +kernel
theorem dX3_goOnADay_32 : decode cX3_goOnADay 32 = .ok (.getfield 9, 3) := by decide +kernel
theorem dX3_goOnADay_35 : decode cX3_goOnADay 35 = .ok (.iload_n 3, 1) := by decide +kernel
theorem dX3_goOnADay_36 : decode cX3_goOnADay 36 = .ok (.laload, 1) := by decide +kernel
theorem dX3_goOnADay_37 : decode cX3_goOnADay 37 = .ok (.lload 4, 2) := by decide +kernel
theorem dX3_goOnADay_39 : decode cX3_goOnADay 39 = .ok (.lsub, 1) := by decide +kernel
theorem dX3_goOnADay_40 : decode cX3_goOnADay 40 = .ok (.ladd, 1) := by decide +kernel
theorem dX3_goOnADay_41 : decode cX3_goOnADay 41 = .ok (.lstore_n 1, 1) := by decide +kernel
theorem dX3_goOnADay_42 : decode cX3_goOnADay 42 = .ok (.iload_n 3, 1) := by decide +kernel
theorem dX3_goOnADay_43 : decode cX3_goOnADay 43 = .ok (.aload_n 0, 1) := by decide +kernel
theorem dX3_goOnADay_44 : decode cX3_goOnADay 44 = .ok (.getfield 21, 3) := by decide +kernel
theorem dX3_goOnADay_47 : decode cX3_goOnADay 47 = .ok (.iconst 1, 1) := by decide +kernel
theorem dX3_goOnADay_48 : decode cX3_goOnADay 48 = .ok (.isub, 1) := by decide +kernel
theorem dX3_goOnADay_49 : decode cX3_goOnADay 49 = .ok (.if_icmp .ne 17, 3) := by decide +kernel
theorem dX3_goOnADay_52 : decode cX3_goOnADay 52 = .ok (.aload_n 0, 1) := by decide +kernel
theorem dX3_goOnADay_53 : decode cX3_goOnADay 53 = .ok (.dup, 1) := by decide +kernel
theorem dX3_goOnADay_54 : decode cX3_goOnADay 54 = .ok (.getfield 29, 3) := by decide +kernel
theorem dX3_goOnADay_57 : decode cX3_goOnADay 57 = .ok (.lload 4, 2) := by decide +kernel
theorem dX3_goOnADay_59 : decode cX3_goOnADay 59 = .ok (.ladd, 1) := by decide +kernel
theorem dX3_goOnADay_60 : decode cX3_goOnADay 60 = .ok (.putfield 29, 3) := by decide +kernel
theorem dX3_goOnADay_63 : decode cX3_goOnADay 63 = .ok (.goto 13, 3) := by decide +kernel
theorem dX3_goOnADay_66 : decode cX3_goOnADay 66 = .ok (.aload_n 0, 1) := by decide +kernel
theorem dX3_goOnADay_67 : decode cX3_goOnADay 67 = .ok (.getfield 9, 3) := by decide +kernel
theorem dX3_goOnADay_70 : decode cX3_goOnADay 70 = .ok (.iload_n 3, 1) := by decide +kernel
theorem dX3_goOnADay_71 : decode cX3_goOnADay 71 = .ok (.iconst 1, 1) := by decide +kernel
theorem dX3_goOnADay_72 : decode cX3_goOnADay 72 = .ok (.iadd, 1) := by decide +kernel
theorem dX3_goOnADay_73 : decode cX3_goOnADay 73 = .ok (.lload 4, 2) := by decide +kernel
theorem dX3_goOnADay_75 : decode cX3_goOnADay 75 = .ok (.lastore, 1) := by decide +kernel
theorem dX3_goOnADay_76 : decode cX3_goOnADay 76 = .ok (.iinc 3 (-1), 3) := by decide +kernel
theorem dX3_goOnADay_79 : decode cX3_goOnADay 79 = .ok (.goto (-70), 3) := by decide +kernel
theorem dX3_goOnADay_82 : decode cX3_goOnADay 82 = .ok (.aload_n 0, 1) := by decide +kernel
theorem dX3_goOnADay_83 : decode cX3_goOnADay 83 = .ok (.getfield 9, 3) := by decide +kernel
theorem dX3_goOnADay_86 : decode cX3_goOnADay 86 = .ok (.iconst 0, 1) := by decide +kernel
theorem dX3_goOnADay_87 : decode cX3_goOnADay 87 = .ok (.lload_n 1, 1) := by decide +kernel
theorem dX3_goOnADay_88 : decode cX3_goOnADay 88 = .ok (.lastore, 1) := by decide +kernel
theorem dX3_goOnADay_89 : decode cX3_goOnADay 89 = .ok (.return_, 1) := by decide +kernel
theorem dX4_init_0 : decode cX4_init 0 = .ok (.aload_n 0, 1) := by decide +kernel
theorem dX4_init_1 : decode cX4_init 1 = .ok (.invokespecial 3, 3) := by decide +kernel
theorem dX4_init_4 : decode cX4_init 4 = .ok (.aload_n 0, 1) := by decide +kernel
theorem dX4_init_5 : decode cX4_init 5 = .ok (.sipush 400, 3) := by decide +kernel
theorem dX4_init_8 : decode cX4_init 8 = .ok (.newarray .byte, 2) := by decide +kernel
theorem dX4_init_10 : decode cX4_init 10 = .ok (.putfield 9, 3) := by decide +kernel
theorem dX4_init_13 : decode cX4_init 13 = .ok (.aload_n 0, 1) := by decide +kernel
theorem dX4_init_14 : decode cX4_init 14 = .ok (.new 15, 3) := by decide +kernel
theorem dX4_init_17 : decode cX4_init 17 = .ok (.dup, 1) := by decide +kernel
theorem dX4_init_18 : decode cX4_init 18 = .ok (.invokespecial 17, 3) := by decide +kernel
theorem dX4_init_21 : decode cX4_init 21 = .ok (.putfield 18, 3) := by decide +kernel
theorem dX4_init_24 : decode cX4_init 24 = .ok (.aload_n 0, 1) := by decide +kernel
theorem dX4_init_25 : decode cX4_init 25 = .ok (.iconst (-1), 1) := by decide +kernel
theorem dX4_init_26 : decode cX4_init 26 = .ok (.putfield 22, 3) := by decide +kernel
theorem dX4_init_29 : decode cX4_init 29 = .ok (.return_, 1) := by decide +kernel
theorem dX4_append_0 : decode cX4_append 0 = .ok (.iload_n 1, 1) := by decide +kernel
theorem dX4_append_1 : decode cX4_append 1 = .ok (.sipush 400, 3) := by decide +kernel
theorem dX4_append_4 : decode cX4_append 4 = .ok (.aload_n 0, 1) := by decide +kernel
theorem dX4_append_5 : decode cX4_append 5 = .ok (.getfield 26, 3) := by decide +kernel
theorem dX4_append_8 : decode cX4_append 8 = .ok (.isub, 1) := by decide +kernel
theorem dX4_append_9 : decode cX4_append 9 = .ok (.if_icmp .le 5, 3) := by decide +kernel
theorem dX4_append_12 : decode cX4_append 12 = .ok (.iconst 0, 1) := by decide +kernel
theorem dX4_append_13 : decode cX4_append 13 = .ok (.ireturn, 1) := by decide +kernel
theorem dX4_append_14 : decode cX4_append 14 = .ok (.iload_n 1, 1) := by decide +kernel
theorem dX4_append_15 : decode cX4_append 15 = .ok (.iconst 1, 1) := by decide +kernel
theorem dX4_append_16 : decode cX4_append 16 = .ok (.isub, 1) := by decide +kernel
theorem dX4_append_17 : decode cX4_append 17 = .ok (.istore 4, 2) := by decide +kernel
theorem dX4_append_19 : decode cX4_append 19 = .ok (.iload 4, 2) := by decide +kernel
theorem dX4_append_21 : decode cX4_append 21 = .ok (.ifCond .lt 37, 3) := by decide +kernel
theorem dX4_append_24 : decode cX4_append 24 = .ok (.aload_n 0, 1) := by decide +kernel
theorem dX4_append_25 : decode cX4_append 25 = .ok (.getfield 9, 3) := by decide +kernel
theorem dX4_append_28 : decode cX4_append 28 = .ok (.aload_n 0, 1) := by decide +kernel
theorem dX4_append_29 : decode cX4_append 29 = .ok (.getfield 26, 3) := by decide +kernel
theorem dX4_append_32 : decode cX4_append 32 = .ok (.lload_n 2, 1) := by decide +kernel
theorem dX4_append_33 : decode cX4_append 33 = .ok (.bipush 8, 2) := by decide +kernel
theorem dX4_append_35 : decode cX4_append 35 = .ok (.iload 4, 2) := by decide +kernel
theorem dX4_append_37 : decode cX4_append 37 = .ok (.imul, 1) := by decide +kernel
theorem dX4_append_38 : decode cX4_append 38 = .ok (.lushr, 1) := by decide +kernel
theorem dX4_append_39 : decode cX4_append 39 = .ok (.l2i, 1) := by decide +kernel
theorem dX4_append_40 : decode cX4_append 40 = .ok (.i2b, 1) := by decide +kernel
theorem dX4_append_41 : decode cX4_append 41 = .ok (.bastore, 1) := by decide +kernel
theorem dX4_append_42 : decode cX4_append 42 = .ok (.aload_n 0, 1) := by decide +kernel
theorem dX4_append_43 : decode cX4_append 43 = .ok (.dup, 1) := by decide +kernel
theorem dX4_append_44 : decode cX4_append 44 = .ok (.getfield 26, 3) := by decide +kernel
theorem dX4_append_47 : decode cX4_append 47 = .ok (.iconst 1, 1) := by decide +kernel
theorem dX4_append_48 : decode cX4_append 48 = .ok (.iadd, 1) := by decide +kernel
theorem dX4_append_49 : decode cX4_append 49 = .ok (.putfield 26, 3) := by decide +kernel
theorem dX4_append_52 : decode cX4_append 52 = .ok (.iinc 4 (-1), 3) := by decide +kernel
theorem dX4_append_55 : decode cX4_append 55 = .ok (.goto (-36), 3) := by decide +kernel
theorem dX4_append_58 : decode cX4_append 58 = .ok (.iconst 1, 1) := by decide +kernel
theorem dX4_append_59 : decode cX4_append 59 = .ok (.ireturn, 1) := by decide +kernel
theorem dX4_readAll_0 : decode cX4_readAll 0 = .ok (.aload_n 0, 1) := by decide +kernel
theorem dX4_readAll_1 : decode cX4_readAll 1 = .ok (.getfield 18, 3) := by decide +kernel
theorem dX4_readAll_4 : decode cX4_readAll 4 = .ok (.iconst 0, 1) := by decide +kernel
theorem dX4_readAll_5 : decode cX4_readAll 5 = .ok (.putfield 29, 3) := by decide +kernel
theorem dX4_readAll_8 : decode cX4_readAll 8 = .ok (.aload_n 0, 1) := by decide +kernel
theorem dX4_readAll_9 : decode cX4_readAll 9 = .ok (.getfield 18, 3) := by decide +kernel
theorem dX4_readAll_12 : decode cX4_readAll 12 = .ok (.iconst 0, 1) := by decide +kernel
theorem dX4_readAll_13 : decode cX4_readAll 13 = .ok (.putfield 32, 3) := by decide +kernel
theorem dX4_readAll_16 : decode cX4_readAll 16 = .ok (.aload_n 0, 1) := by decide +kernel
theorem dX4_readAll_17 : decode cX4_readAll 17 = .ok (.iconst 0, 1) := by decide +kernel
theorem dX4_readAll_18 : decode cX4_readAll 18 = .ok (.putfield 35, 3) := by decide +kernel
theorem dX4_readAll_21 : decode cX4_readAll 21 = .ok (.aload_n 0, 1) := by decide +kernel
theorem dX4_readAll_22 : decode cX4_readAll 22 = .ok (.iconst 0, 1) := by decide +kernel
theorem dX4_readAll_23 : decode cX4_readAll 23 = .ok (.putfield 38, 3) := by decide +kernel
theorem dX4_readAll_26 : decode cX4_readAll 26 = .ok (.aload_n 0, 1) := by decide +kernel
theorem dX4_readAll_27 : decode cX4_readAll 27 = .ok (.iconst (-1), 1) := by decide +kernel
theorem dX4_readAll_28 : decode cX4_readAll 28 = .ok (.putfield 22, 3) := by decide +kernel
theorem dX4_readAll_31 : decode cX4_readAll 31 = .ok (.aload_n 0, 1) := by decide +kernel
theorem dX4_readAll_32 : decode cX4_readAll 32 = .ok (.invokevirtual 41, 3) := by decide +kernel
theorem dX4_readAll_35 : decode cX4_readAll 35 = .ok (.iconst 0, 1) := by decide +kernel
theorem dX4_readAll_36 : decode cX4_readAll 36 = .ok (.istore_n 1, 1) := by decide +kernel
theorem dX4_readAll_37 : decode cX4_readAll 37 = .ok (.iload_n 1, 1) := by decide +kernel
theorem dX4_readAll_38 : decode cX4_readAll 38 = .ok (.sipush 400, 3) := by decide +kernel
theorem dX4_readAll_41 : decode cX4_readAll 41 = .ok (.if_icmp .ge 35, 3) := by decide +kernel
theorem dX4_readAll_44 : decode cX4_readAll 44 = .ok (.aload_n 0, 1) := by decide +kernel
theorem dX4_readAll_45 : decode cX4_readAll 45 = .ok (.getfield 35, 3) := by decide +kernel
theorem dX4_readAll_48 : decode cX4_readAll 48 = .ok (.aload_n 0, 1) := by decide +kernel
theorem dX4_readAll_49 : decode cX4_readAll 49 = .ok (.getfield 26, 3) := by decide +kernel
theorem dX4_readAll_52 : decode cX4_readAll 52 = .ok (.if_icmp .ge 24, 3) := by decide +kernel
theorem dX4_readAll_55 : decode cX4_readAll 55 = .ok (.aload_n 0, 1) := by decide +kernel
theorem dX4_readAll_56 : decode cX4_readAll 56 = .ok (.getfield 38, 3) := by decide +kernel
theorem dX4_readAll_59 : decode cX4_readAll 59 = .ok (.ifCond .ne 17, 3) := by decide +kernel
theorem dX4_readAll_62 : decode cX4_readAll 62 = .ok (.aload_n 0, 1) := by decide +kernel
theorem dX4_readAll_63 : decode cX4_readAll 63 = .ok (.invokevirtual 44, 3) := by decide +kernel
theorem dX4_readAll_66 : decode cX4_readAll 66 = .ok (.aload_n 0, 1) := by decide +kernel
theorem dX4_readAll_67 : decode cX4_readAll 67 = .ok (.invokevirtual 41, 3) := by decide +kernel
theorem dX4_readAll_70 : decode cX4_readAll 70 = .ok (.iinc 1 1, 3) := by decide +kernel
theorem dX4_readAll_73 : decode cX4_readAll 73 = .ok (.goto (-36), 3) := by decide +kernel
theorem dX4_readAll_76 : decode cX4_readAll 76 = .ok (.aload_n 0, 1) := by decide +kernel
theorem dX4_readAll_77 : decode cX4_readAll 77 = .ok (.iconst 0, 1) := by decide +kernel
theorem dX4_readAll_78 : decode cX4_readAll 78 = .ok (.putfield 26, 3) := by decide +kernel
theorem dX4_readAll_81 : decode cX4_readAll 81 = .ok (.aload_n 0, 1) := by decide +kernel
theorem dX4_readAll_82 : decode cX4_readAll 82 = .ok (.getfield 38, 3) := by decide +kernel
theorem dX4_readAll_85 : decode cX4_readAll 85 = .ok (.ireturn, 1) := by decide +kernel
theorem dX4_readClause_0 : decode cX4_readClause 0 = .ok (.aload_n 0, 1) := by decide +kernel
theorem dX4_readClause_1 : decode cX4_readClause 1 = .ok (.getfield 35, 3) := by decide +kernel
theorem dX4_readClause_4 : decode cX4_readClause 4 = .ok (.istore_n 1, 1) := by decide +kernel
theorem dX4_readClause_5 : decode cX4_readClause 5 = .ok (.aload_n 0, 1) := by decide +kernel
theorem dX4_readClause_6 : decode cX4_readClause 6 = .ok (.getfield 35, 3) := by decide +kernel
theorem dX4_readClause_9 : decode cX4_readClause 9 = .ok (.aload_n 0, 1) := by decide +kernel
theorem dX4_readClause_10 : decode cX4_readClause 10 = .ok (.getfield 26, 3) := by decide +kernel
theorem dX4_readClause_13 : decode cX4_readClause 13 = .ok (.if_icmp .ge 44, 3) := by decide +kernel
theorem dX4_readClause_16 : decode cX4_readClause 16 = .ok (.aload_n 0, 1) := by decide +kernel
theorem dX4_readClause_17 : decode cX4_readClause 17 = .ok (.getfield 9, 3) := by decide +kernel
theorem dX4_readClause_20 : decode cX4_readClause 20 = .ok (.aload_n 0, 1) := by decide +kernel
theorem dX4_readClause_21 : decode cX4_readClause 21 = .ok (.getfield 35, 3) := by decide +kernel
theorem dX4_readClause_24 : decode cX4_readClause 24 = .ok (.baload, 1) := by decide +kernel
theorem dX4_readClause_25 : decode cX4_readClause 25 = .ok (.bipush 97, 2) := by decide +kernel
theorem dX4_readClause_27 : decode cX4_readClause 27 = .ok (.if_icmp .lt 30, 3) := by decide +kernel
theorem dX4_readClause_30 : decode cX4_readClause 30 = .ok (.aload_n 0, 1) := by decide +kernel
theorem dX4_readClause_31 : decode cX4_readClause 31 = .ok (.getfield 9, 3) := by decide +kernel
theorem dX4_readClause_34 : decode cX4_readClause 34 = .ok (.aload_n 0, 1) := by decide +kernel
theorem dX4_readClause_35 : decode cX4_readClause 35 = .ok (.getfield 35, 3) := by decide +kernel
theorem dX4_readClause_38 : decode cX4_readClause 38 = .ok (.baload, 1) := by decide +kernel
theorem dX4_readClause_39 : decode cX4_readClause 39 = .ok (.bipush 122, 2) := by decide +kernel
theorem dX4_readClause_41 : decode cX4_readClause 41 = .ok (.if_icmp .gt 16, 3) := by decide +kernel
theorem dX4_readClause_44 : decode cX4_readClause 44 = .ok (.aload_n 0, 1) := by decide +kernel
theorem dX4_readClause_45 : decode cX4_readClause 45 = .ok (.dup, 1) := by decide +kernel
theorem dX4_readClause_46 : decode cX4_readClause 46 = .ok (.getfield 35, 3) := by decide +kernel
theorem dX4_readClause_49 : decode cX4_readClause 49 = .ok (.iconst 1, 1) := by decide +kernel
theorem dX4_readClause_50 : decode cX4_readClause 50 = .ok (.iadd, 1) := by decide +kernel
theorem dX4_readClause_51 : decode cX4_readClause 51 = .ok (.putfield 35, 3) := by decide +kernel
theorem dX4_readClause_54 : decode cX4_readClause 54 = .ok (.goto (-49), 3) := by decide +kernel
theorem dX4_readClause_57 : decode cX4_readClause 57 = .ok (.aload_n 0, 1) := by decide +kernel
theorem dX4_readClause_58 : decode cX4_readClause 58 = .ok (.iload_n 1, 1) := by decide +kernel
theorem dX4_readClause_59 : decode cX4_readClause 59 = .ok (.ldc 47, 2) := by decide +kernel
theorem dX4_readClause_61 : decode cX4_readClause 61 = .ok (.invokevirtual 49, 3) := by decide +kernel
theorem dX4_readClause_64 : decode cX4_readClause 64 = .ok (.ifCond .eq 11, 3) := by decide +kernel
theorem dX4_readClause_67 : decode cX4_readClause 67 = .ok (.aload_n 0, 1) := by decide +kernel
theorem dX4_readClause_68 : decode cX4_readClause 68 = .ok (.iload_n 1, 1) := by decide +kernel
theorem dX4_readClause_69 : decode cX4_readClause 69 = .ok (.invokevirtual 53, 3) := by decide +kernel
theorem dX4_readClause_72 : decode cX4_readClause 72 = .ok (.goto 27, 3) := by decide +kernel
theorem dX4_readClause_75 : decode cX4_readClause 75 = .ok (.aload_n 0, 1) := by decide +kernel
theorem dX4_readClause_76 : decode cX4_readClause 76 = .ok (.iload_n 1, 1) := by decide +kernel
theorem dX4_readClause_77 : decode cX4_readClause 77 = .ok (.ldc 57, 2) := by decide +kernel
theorem dX4_readClause_79 : decode cX4_readClause 79 = .ok (.invokevirtual 49, 3) := by decide +kernel
theorem dX4_readClause_82 : decode cX4_readClause 82 = .ok (.ifCond .eq 11, 3) := by decide +kernel
theorem dX4_readClause_85 : decode cX4_readClause 85 = .ok (.aload_n 0, 1) := by decide +kernel
theorem dX4_readClause_86 : decode cX4_readClause 86 = .ok (.iload_n 1, 1) := by decide +kernel
theorem dX4_readClause_87 : decode cX4_readClause 87 = .ok (.invokevirtual 59, 3) := by decide +kernel
theorem dX4_readClause_90 : decode cX4_readClause 90 = .ok (.goto 9, 3) := by decide +kernel
theorem dX4_readClause_93 : decode cX4_readClause 93 = .ok (.aload_n 0, 1) := by decide +kernel
theorem dX4_readClause_94 : decode cX4_readClause 94 = .ok (.iconst 1, 1) := by decide +kernel
theorem dX4_readClause_95 : decode cX4_readClause 95 = .ok (.iload_n 1, 1) := by decide +kernel
theorem dX4_readClause_96 : decode cX4_readClause 96 = .ok (.invokevirtual 62, 3) := by decide +kernel
theorem dX4_readClause_99 : decode cX4_readClause 99 = .ok (.return_, 1) := by decide +kernel
theorem dX4_isWord_0 : decode cX4_isWord 0 = .ok (.aload_n 0, 1) := by decide +kernel
theorem dX4_isWord_1 : decode cX4_isWord 1 = .ok (.getfield 35, 3) := by decide +kernel
theorem dX4_isWord_4 : decode cX4_isWord 4 = .ok (.iload_n 1, 1) := by decide +kernel
theorem dX4_isWord_5 : decode cX4_isWord 5 = .ok (.isub, 1) := by decide +kernel
theorem dX4_isWord_6 : decode cX4_isWord 6 = .ok (.aload_n 2, 1) := by decide +kernel
theorem dX4_isWord_7 : decode cX4_isWord 7 = .ok (.invokevirtual 66, 3) := by decide +kernel
theorem dX4_isWord_10 : decode cX4_isWord 10 = .ok (.if_icmp .eq 5, 3) := by decide +kernel
theorem dX4_isWord_13 : decode cX4_isWord 13 = .ok (.iconst 0, 1) := by decide +kernel
theorem dX4_isWord_14 : decode cX4_isWord 14 = .ok (.ireturn, 1) := by decide +kernel
theorem dX4_isWord_15 : decode cX4_isWord 15 = .ok (.iconst 0, 1) := by decide +kernel
theorem dX4_isWord_16 : decode cX4_isWord 16 = .ok (.istore_n 3, 1) := by decide +kernel
theorem dX4_isWord_17 : decode cX4_isWord 17 = .ok (.iload_n 3, 1) := by decide +kernel
theorem dX4_isWord_18 : decode cX4_isWord 18 = .ok (.aload_n 2, 1) := by decide +kernel
theorem dX4_isWord_19 : decode cX4_isWord 19 = .ok (.invokevirtual 66, 3) := by decide +kernel
theorem dX4_isWord_22 : decode cX4_isWord 22 = .ok (.if_icmp .ge 27, 3) := by decide +kernel
theorem dX4_isWord_25 : decode cX4_isWord 25 = .ok (.aload_n 0, 1) := by decide +kernel
theorem dX4_isWord_26 : decode cX4_isWord 26 = .ok (.getfield 9, 3) := by decide +kernel
theorem dX4_isWord_29 : decode cX4_isWord 29 = .ok (.iload_n 1, 1) := by decide +kernel
theorem dX4_isWord_30 : decode cX4_isWord 30 = .ok (.iload_n 3, 1) := by decide +kernel
theorem dX4_isWord_31 : decode cX4_isWord 31 = .ok (.iadd, 1) := by decide +kernel
theorem dX4_isWord_32 : decode cX4_isWord 32 = .ok (.baload, 1) := by decide +kernel
theorem dX4_isWord_33 : decode cX4_isWord 33 = .ok (.aload_n 2, 1) := by decide +kernel
theorem dX4_isWord_34 : decode cX4_isWord 34 = .ok (.iload_n 3, 1) := by decide +kernel
theorem dX4_isWord_35 : decode cX4_isWord 35 = .ok (.invokevirtual 71, 3) := by decide +kernel
theorem dX4_isWord_38 : decode cX4_isWord 38 = .ok (.if_icmp .eq 5, 3) := by decide +kernel
theorem dX4_isWord_41 : decode cX4_isWord 41 = .ok (.iconst 0, 1) := by decide +kernel
theorem dX4_isWord_42 : decode cX4_isWord 42 = .ok (.ireturn, 1) := by decide +kernel
theorem dX4_isWord_43 : decode cX4_isWord 43 = .ok (.iinc 3 1, 3) := by decide +kernel
theorem dX4_isWord_46 : decode cX4_isWord 46 = .ok (.goto (-29), 3) := by decide +kernel
theorem dX4_isWord_49 : decode cX4_isWord 49 = .ok (.iconst 1, 1) := by decide +kernel
theorem dX4_isWord_50 : decode cX4_isWord 50 = .ok (.ireturn, 1) := by decide +kernel
theorem dX4_readHouse_0 : decode cX4_readHouse 0 = .ok (.aload_n 0, 1) := by decide +kernel
theorem dX4_readHouse_1 : decode cX4_readHouse 1 = .ok (.getfield 18, 3) := by decide +kernel
theorem dX4_readHouse_4 : decode cX4_readHouse 4 = .ok (.getfield 29, 3) := by decide +kernel
theorem dX4_readHouse_7 : decode cX4_readHouse 7 = .ok (.istore_n 2, 1) := by decide +kernel
theorem dX4_readHouse_8 : decode cX4_readHouse 8 = .ok (.iload_n 2, 1) := by decide +kernel
theorem dX4_readHouse_9 : decode cX4_readHouse 9 = .ok (.iconst 5, 1) := by decide +kernel
theorem dX4_readHouse_10 : decode cX4_readHouse 10 = .ok (.if_icmp .lt 10, 3) := by decide +kernel
theorem dX4_readHouse_13 : decode cX4_readHouse 13 = .ok (.aload_n 0, 1) := by decide +kernel
theorem dX4_readHouse_14 : decode cX4_readHouse 14 = .ok (.iconst 3, 1) := by decide +kernel
theorem dX4_readHouse_15 : decode cX4_readHouse 15 = .ok (.iload_n 1, 1) := by decide +kernel
theorem dX4_readHouse_16 : decode cX4_readHouse 16 = .ok (.invokevirtual 62, 3) := by decide +kernel
theorem dX4_readHouse_19 : decode cX4_readHouse 19 = .ok (.return_, 1) := by decide +kernel
theorem dX4_readHouse_20 : decode cX4_readHouse 20 = .ok (.aload_n 0, 1) := by decide +kernel
theorem dX4_readHouse_21 : decode cX4_readHouse 21 = .ok (.getfield 18, 3) := by decide +kernel
theorem dX4_readHouse_24 : decode cX4_readHouse 24 = .ok (.getfield 75, 3) := by decide +kernel
theorem dX4_readHouse_27 : decode cX4_readHouse 27 = .ok (.iload_n 2, 1) := by decide +kernel
theorem dX4_readHouse_28 : decode cX4_readHouse 28 = .ok (.aload_n 0, 1) := by decide +kernel
theorem dX4_readHouse_29 : decode cX4_readHouse 29 = .ok (.iconst 1, 1) := by decide +kernel
theorem dX4_readHouse_30 : decode cX4_readHouse 30 = .ok (.bipush 7, 2) := by decide +kernel
theorem dX4_readHouse_32 : decode cX4_readHouse 32 = .ok (.invokevirtual 79, 3) := by decide +kernel
theorem dX4_readHouse_35 : decode cX4_readHouse 35 = .ok (.iastore, 1) := by decide +kernel
theorem dX4_readHouse_36 : decode cX4_readHouse 36 = .ok (.aload_n 0, 1) := by decide +kernel
theorem dX4_readHouse_37 : decode cX4_readHouse 37 = .ok (.getfield 18, 3) := by decide +kernel
theorem dX4_readHouse_40 : decode cX4_readHouse 40 = .ok (.getfield 83, 3) := by decide +kernel
theorem dX4_readHouse_43 : decode cX4_readHouse 43 = .ok (.iload_n 2, 1) := by decide +kernel
theorem dX4_readHouse_44 : decode cX4_readHouse 44 = .ok (.aload_n 0, 1) := by decide +kernel
theorem dX4_readHouse_45 : decode cX4_readHouse 45 = .ok (.iconst 0, 1) := by decide +kernel
theorem dX4_readHouse_46 : decode cX4_readHouse 46 = .ok (.sipush 999, 3) := by decide +kernel
theorem dX4_readHouse_49 : decode cX4_readHouse 49 = .ok (.invokevirtual 79, 3) := by decide +kernel
theorem dX4_readHouse_52 : decode cX4_readHouse 52 = .ok (.iastore, 1) := by decide +kernel
theorem dX4_readHouse_53 : decode cX4_readHouse 53 = .ok (.aload_n 0, 1) := by decide +kernel
theorem dX4_readHouse_54 : decode cX4_readHouse 54 = .ok (.getfield 18, 3) := by decide +kernel
theorem dX4_readHouse_57 : decode cX4_readHouse 57 = .ok (.getfield 86, 3) := by decide +kernel
theorem dX4_readHouse_60 : decode cX4_readHouse 60 = .ok (.iload_n 2, 1) := by decide +kernel
theorem dX4_readHouse_61 : decode cX4_readHouse 61 = .ok (.aload_n 0, 1) := by decide +kernel
theorem dX4_readHouse_62 : decode cX4_readHouse 62 = .ok (.iconst 0, 1) := by decide +kernel
theorem dX4_readHouse_63 : decode cX4_readHouse 63 = .ok (.bipush 60, 2) := by decide +kernel
theorem dX4_readHouse_65 : decode cX4_readHouse 65 = .ok (.invokevirtual 79, 3) := by decide +kernel
theorem dX4_readHouse_68 : decode cX4_readHouse 68 = .ok (.iastore, 1) := by decide +kernel
theorem dX4_readHouse_69 : decode cX4_readHouse 69 = .ok (.aload_n 0, 1) := by decide +kernel
theorem dX4_readHouse_70 : decode cX4_readHouse 70 = .ok (.invokevirtual 89, 3) := by decide +kernel
theorem dX4_readHouse_73 : decode cX4_readHouse 73 = .ok (.aload_n 0, 1) := by decide +kernel
theorem dX4_readHouse_74 : decode cX4_readHouse 74 = .ok (.getfield 18, 3) := by decide +kernel
theorem dX4_readHouse_77 : decode cX4_readHouse 77 = .ok (.iload_n 2, 1) := by decide +kernel
theorem dX4_readHouse_78 : decode cX4_readHouse 78 = .ok (.iconst 1, 1) := by decide +kernel
theorem dX4_readHouse_79 : decode cX4_readHouse 79 = .ok (.iadd, 1) := by decide +kernel
theorem dX4_readHouse_80 : decode cX4_readHouse 80 = .ok (.putfield 29, 3) := by decide +kernel
theorem dX4_readHouse_83 : decode cX4_readHouse 83 = .ok (.return_, 1) := by decide +kernel
theorem dX4_readSleeper_0 : decode cX4_readSleeper 0 = .ok (.aload_n 0, 1) := by decide +kernel
theorem dX4_readSleeper_1 : decode cX4_readSleeper 1 = .ok (.getfield 18, 3) := by decide +kernel
theorem dX4_readSleeper_4 : decode cX4_readSleeper 4 = .ok (.getfield 32, 3) := by decide +kernel
theorem dX4_readSleeper_7 : decode cX4_readSleeper 7 = .ok (.istore_n 2, 1) := by decide +kernel
theorem dX4_readSleeper_8 : decode cX4_readSleeper 8 = .ok (.iload_n 2, 1) := by decide +kernel
theorem dX4_readSleeper_9 : decode cX4_readSleeper 9 = .ok (.bipush 8, 2) := by decide +kernel
theorem dX4_readSleeper_11 : decode cX4_readSleeper 11 = .ok (.if_icmp .lt 10, 3) := by decide +kernel
theorem dX4_readSleeper_14 : decode cX4_readSleeper 14 = .ok (.aload_n 0, 1) := by decide +kernel
theorem dX4_readSleeper_15 : decode cX4_readSleeper 15 = .ok (.iconst 3, 1) := by decide +kernel
theorem dX4_readSleeper_16 : decode cX4_readSleeper 16 = .ok (.iload_n 1, 1) := by decide +kernel
theorem dX4_readSleeper_17 : decode cX4_readSleeper 17 = .ok (.invokevirtual 62, 3) := by decide +kernel
theorem dX4_readSleeper_20 : decode cX4_readSleeper 20 = .ok (.return_, 1) := by decide +kernel
theorem dX4_readSleeper_21 : decode cX4_readSleeper 21 = .ok (.aload_n 0, 1) := by decide +kernel
theorem dX4_readSleeper_22 : decode cX4_readSleeper 22 = .ok (.getfield 18, 3) := by decide +kernel
theorem dX4_readSleeper_25 : decode cX4_readSleeper 25 = .ok (.getfield 92, 3) := by decide +kernel
theorem dX4_readSleeper_28 : decode cX4_readSleeper 28 = .ok (.iload_n 2, 1) := by decide +kernel
theorem dX4_readSleeper_29 : decode cX4_readSleeper 29 = .ok (.aload_n 0, 1) := by decide +kernel
theorem dX4_readSleeper_30 : decode cX4_readSleeper 30 = .ok (.iconst 0, 1) := by decide +kernel
theorem dX4_readSleeper_31 : decode cX4_readSleeper 31 = .ok (.aload_n 0, 1) := by decide +kernel
theorem dX4_readSleeper_32 : decode cX4_readSleeper 32 = .ok (.getfield 18, 3) := by decide +kernel
theorem dX4_readSleeper_35 : decode cX4_readSleeper 35 = .ok (.getfield 29, 3) := by decide +kernel
theorem dX4_readSleeper_38 : decode cX4_readSleeper 38 = .ok (.iconst 1, 1) := by decide +kernel
theorem dX4_readSleeper_39 : decode cX4_readSleeper 39 = .ok (.isub, 1) := by decide +kernel
theorem dX4_readSleeper_40 : decode cX4_readSleeper 40 = .ok (.invokevirtual 79, 3) := by decide +kernel
theorem dX4_readSleeper_43 : decode cX4_readSleeper 43 = .ok (.iastore, 1) := by decide +kernel
theorem dX4_readSleeper_44 : decode cX4_readSleeper 44 = .ok (.aload_n 0, 1) := by decide +kernel
theorem dX4_readSleeper_45 : decode cX4_readSleeper 45 = .ok (.getfield 18, 3) := by decide +kernel
theorem dX4_readSleeper_48 : decode cX4_readSleeper 48 = .ok (.getfield 95, 3) := by decide +kernel
theorem dX4_readSleeper_51 : decode cX4_readSleeper 51 = .ok (.iload_n 2, 1) := by decide +kernel
theorem dX4_readSleeper_52 : decode cX4_readSleeper 52 = .ok (.aload_n 0, 1) := by decide +kernel
theorem dX4_readSleeper_53 : decode cX4_readSleeper 53 = .ok (.bipush 60, 2) := by decide +kernel
theorem dX4_readSleeper_55 : decode cX4_readSleeper 55 = .ok (.sipush 600, 3) := by decide +kernel
theorem dX4_readSleeper_58 : decode cX4_readSleeper 58 = .ok (.invokevirtual 79, 3) := by decide +kernel
theorem dX4_readSleeper_61 : decode cX4_readSleeper 61 = .ok (.iastore, 1) := by decide +kernel
theorem dX4_readSleeper_62 : decode cX4_readSleeper 62 = .ok (.aload_n 0, 1) := by decide +kernel
theorem dX4_readSleeper_63 : decode cX4_readSleeper 63 = .ok (.getfield 18, 3) := by decide +kernel
theorem dX4_readSleeper_66 : decode cX4_readSleeper 66 = .ok (.getfield 98, 3) := by decide +kernel
theorem dX4_readSleeper_69 : decode cX4_readSleeper 69 = .ok (.iload_n 2, 1) := by decide +kernel
theorem dX4_readSleeper_70 : decode cX4_readSleeper 70 = .ok (.aload_n 0, 1) := by decide +kernel
theorem dX4_readSleeper_71 : decode cX4_readSleeper 71 = .ok (.iconst 0, 1) := by decide +kernel
theorem dX4_readSleeper_72 : decode cX4_readSleeper 72 = .ok (.bipush 59, 2) := by decide +kernel
theorem dX4_readSleeper_74 : decode cX4_readSleeper 74 = .ok (.invokevirtual 79, 3) := by decide +kernel
theorem dX4_readSleeper_77 : decode cX4_readSleeper 77 = .ok (.iastore, 1) := by decide +kernel
theorem dX4_readSleeper_78 : decode cX4_readSleeper 78 = .ok (.aload_n 0, 1) := by decide +kernel
theorem dX4_readSleeper_79 : decode cX4_readSleeper 79 = .ok (.getfield 18, 3) := by decide +kernel
theorem dX4_readSleeper_82 : decode cX4_readSleeper 82 = .ok (.getfield 101, 3) := by decide +kernel
theorem dX4_readSleeper_85 : decode cX4_readSleeper 85 = .ok (.iload_n 2, 1) := by decide +kernel
theorem dX4_readSleeper_86 : decode cX4_readSleeper 86 = .ok (.aload_n 0, 1) := by decide +kernel
theorem dX4_readSleeper_87 : decode cX4_readSleeper 87 = .ok (.iconst 0, 1) := by decide +kernel
theorem dX4_readSleeper_88 : decode cX4_readSleeper 88 = .ok (.bipush 9, 2) := by decide +kernel
theorem dX4_readSleeper_90 : decode cX4_readSleeper 90 = .ok (.invokevirtual 79, 3) := by decide +kernel
theorem dX4_readSleeper_93 : decode cX4_readSleeper 93 = .ok (.iastore, 1) := by decide +kernel
theorem dX4_readSleeper_94 : decode cX4_readSleeper 94 = .ok (.aload_n 0, 1) := by decide +kernel
theorem dX4_readSleeper_95 : decode cX4_readSleeper 95 = .ok (.invokevirtual 89, 3) := by decide +kernel
theorem dX4_readSleeper_98 : decode cX4_readSleeper 98 = .ok (.aload_n 0, 1) := by decide +kernel
theorem dX4_readSleeper_99 : decode cX4_readSleeper 99 = .ok (.getfield 18, 3) := by decide +kernel
theorem dX4_readSleeper_102 : decode cX4_readSleeper 102 = .ok (.iload_n 2, 1) := by decide +kernel
theorem dX4_readSleeper_103 : decode cX4_readSleeper 103 = .ok (.iconst 1, 1) := by decide +kernel
theorem dX4_readSleeper_104 : decode cX4_readSleeper 104 = .ok (.iadd, 1) := by decide +kernel
theorem dX4_readSleeper_105 : decode cX4_readSleeper 105 = .ok (.putfield 32, 3) := by decide +kernel
theorem dX4_readSleeper_108 : decode cX4_readSleeper 108 = .ok (.return_, 1) := by decide +kernel
theorem dX4_readNumber_0 : decode cX4_readNumber 0 = .ok (.aload_n 0, 1) := by decide +kernel
theorem dX4_readNumber_1 : decode cX4_readNumber 1 = .ok (.getfield 38, 3) := by decide +kernel
theorem dX4_readNumber_4 : decode cX4_readNumber 4 = .ok (.ifCond .eq 5, 3) := by decide +kernel
theorem dX4_readNumber_7 : decode cX4_readNumber 7 = .ok (.iconst 0, 1) := by decide +kernel
theorem dX4_readNumber_8 : decode cX4_readNumber 8 = .ok (.ireturn, 1) := by decide +kernel
theorem dX4_readNumber_9 : decode cX4_readNumber 9 = .ok (.aload_n 0, 1) := by decide +kernel
theorem dX4_readNumber_10 : decode cX4_readNumber 10 = .ok (.invokevirtual 41, 3) := by decide +kernel
theorem dX4_readNumber_13 : decode cX4_readNumber 13 = .ok (.aload_n 0, 1) := by decide +kernel
theorem dX4_readNumber_14 : decode cX4_readNumber 14 = .ok (.getfield 35, 3) := by decide +kernel
theorem dX4_readNumber_17 : decode cX4_readNumber 17 = .ok (.istore_n 3, 1) := by decide +kernel
theorem dX4_readNumber_18 : decode cX4_readNumber 18 = .ok (.iconst 0, 1) := by decide +kernel
theorem dX4_readNumber_19 : decode cX4_readNumber 19 = .ok (.istore 4, 2) := by decide +kernel
theorem dX4_readNumber_21 : decode cX4_readNumber 21 = .ok (.aload_n 0, 1) := by decide +kernel
theorem dX4_readNumber_22 : decode cX4_readNumber 22 = .ok (.getfield 35, 3) := by decide +kernel
theorem dX4_readNumber_25 : decode cX4_readNumber 25 = .ok (.aload_n 0, 1) := by decide +kernel
theorem dX4_readNumber_26 : decode cX4_readNumber 26 = .ok (.getfield 26, 3) := by decide +kernel
theorem dX4_readNumber_29 : decode cX4_readNumber 29 = .ok (.if_icmp .ge 74, 3) := by decide +kernel
theorem dX4_readNumber_32 : decode cX4_readNumber 32 = .ok (.aload_n 0, 1) := by decide +kernel
theorem dX4_readNumber_33 : decode cX4_readNumber 33 = .ok (.getfield 9, 3) := by decide +kernel
theorem dX4_readNumber_36 : decode cX4_readNumber 36 = .ok (.aload_n 0, 1) := by decide +kernel
theorem dX4_readNumber_37 : decode cX4_readNumber 37 = .ok (.getfield 35, 3) := by decide +kernel
theorem dX4_readNumber_40 : decode cX4_readNumber 40 = .ok (.baload, 1) := by decide +kernel
theorem dX4_readNumber_41 : decode cX4_readNumber 41 = .ok (.bipush 48, 2) := by decide +kernel
theorem dX4_readNumber_43 : decode cX4_readNumber 43 = .ok (.if_icmp .lt 60, 3) := by decide +kernel
theorem dX4_readNumber_46 : decode cX4_readNumber 46 = .ok (.aload_n 0, 1) := by decide +kernel
theorem dX4_readNumber_47 : decode cX4_readNumber 47 = .ok (.getfield 9, 3) := by decide +kernel
theorem dX4_readNumber_50 : decode cX4_readNumber 50 = .ok (.aload_n 0, 1) := by decide +kernel
theorem dX4_readNumber_51 : decode cX4_readNumber 51 = .ok (.getfield 35, 3) := by decide +kernel
theorem dX4_readNumber_54 : decode cX4_readNumber 54 = .ok (.baload, 1) := by decide +kernel
theorem dX4_readNumber_55 : decode cX4_readNumber 55 = .ok (.bipush 57, 2) := by decide +kernel
theorem dX4_readNumber_57 : decode cX4_readNumber 57 = .ok (.if_icmp .gt 46, 3) := by decide +kernel
theorem dX4_readNumber_60 : decode cX4_readNumber 60 = .ok (.aload_n 0, 1) := by decide +kernel
theorem dX4_readNumber_61 : decode cX4_readNumber 61 = .ok (.getfield 35, 3) := by decide +kernel
theorem dX4_readNumber_64 : decode cX4_readNumber 64 = .ok (.iload_n 3, 1) := by decide +kernel
theorem dX4_readNumber_65 : decode cX4_readNumber 65 = .ok (.isub, 1) := by decide +kernel
theorem dX4_readNumber_66 : decode cX4_readNumber 66 = .ok (.iconst 3, 1) := by decide +kernel
theorem dX4_readNumber_67 : decode cX4_readNumber 67 = .ok (.if_icmp .ge 23, 3) := by decide +kernel
theorem dX4_readNumber_70 : decode cX4_readNumber 70 = .ok (.iload 4, 2) := by decide +kernel
theorem dX4_readNumber_72 : decode cX4_readNumber 72 = .ok (.bipush 10, 2) := by decide +kernel
theorem dX4_readNumber_74 : decode cX4_readNumber 74 = .ok (.imul, 1) := by decide +kernel
theorem dX4_readNumber_75 : decode cX4_readNumber 75 = .ok (.aload_n 0, 1) := by decide +kernel
theorem dX4_readNumber_76 : decode cX4_readNumber 76 = .ok (.getfield 9, 3) := by decide +kernel
theorem dX4_readNumber_79 : decode cX4_readNumber 79 = .ok (.aload_n 0, 1) := by decide +kernel
theorem dX4_readNumber_80 : decode cX4_readNumber 80 = .ok (.getfield 35, 3) := by decide +kernel
theorem dX4_readNumber_83 : decode cX4_readNumber 83 = .ok (.baload, 1) := by decide +kernel
theorem dX4_readNumber_84 : decode cX4_readNumber 84 = .ok (.bipush 48, 2) := by decide +kernel
theorem dX4_readNumber_86 : decode cX4_readNumber 86 = .ok (.isub, 1) := by decide +kernel
theorem dX4_readNumber_87 : decode cX4_readNumber 87 = .ok (.iadd, 1) := by decide +kernel
theorem dX4_readNumber_88 : decode cX4_readNumber 88 = .ok (.istore 4, 2) := by decide +kernel
theorem dX4_readNumber_90 : decode cX4_readNumber 90 = .ok (.aload_n 0, 1) := by decide +kernel
theorem dX4_readNumber_91 : decode cX4_readNumber 91 = .ok (.dup, 1) := by decide +kernel
theorem dX4_readNumber_92 : decode cX4_readNumber 92 = .ok (.getfield 35, 3) := by decide +kernel
theorem dX4_readNumber_95 : decode cX4_readNumber 95 = .ok (.iconst 1, 1) := by decide +kernel
theorem dX4_readNumber_96 : decode cX4_readNumber 96 = .ok (.iadd, 1) := by decide +kernel
theorem dX4_readNumber_97 : decode cX4_readNumber 97 = .ok (.putfield 35, 3) := by decide +kernel
theorem dX4_readNumber_100 : decode cX4_readNumber 100 = .ok (.goto (-79), 3) := by decide +kernel
theorem dX4_readNumber_103 : decode cX4_readNumber 103 = .ok (.aload_n 0, 1) := by decide +kernel
theorem dX4_readNumber_104 : decode cX4_readNumber 104 = .ok (.getfield 35, 3) := by decide +kernel
theorem dX4_readNumber_107 : decode cX4_readNumber 107 = .ok (.iload_n 3, 1) := by decide +kernel
theorem dX4_readNumber_108 : decode cX4_readNumber 108 = .ok (.if_icmp .ne 12, 3) := by decide +kernel
theorem dX4_readNumber_111 : decode cX4_readNumber 111 = .ok (.aload_n 0, 1) := by decide +kernel
theorem dX4_readNumber_112 : decode cX4_readNumber 112 = .ok (.iconst 1, 1) := by decide +kernel
theorem dX4_readNumber_113 : decode cX4_readNumber 113 = .ok (.iload_n 3, 1) := by decide +kernel
theorem dX4_readNumber_114 : decode cX4_readNumber 114 = .ok (.invokevirtual 62, 3) := by decide +kernel
theorem dX4_readNumber_117 : decode cX4_readNumber 117 = .ok (.goto 31, 3) := by decide +kernel
theorem dX4_readNumber_120 : decode cX4_readNumber 120 = .ok (.aload_n 0, 1) := by decide +kernel
theorem dX4_readNumber_121 : decode cX4_readNumber 121 = .ok (.getfield 35, 3) := by decide +kernel
theorem dX4_readNumber_124 : decode cX4_readNumber 124 = .ok (.iload_n 3, 1) := by decide +kernel
theorem dX4_readNumber_125 : decode cX4_readNumber 125 = .ok (.isub, 1) := by decide +kernel
theorem dX4_readNumber_126 : decode cX4_readNumber 126 = .ok (.iconst 3, 1) := by decide +kernel
theorem dX4_readNumber_127 : decode cX4_readNumber 127 = .ok (.if_icmp .gt 15, 3) := by decide +kernel
theorem dX4_readNumber_130 : decode cX4_readNumber 130 = .ok (.iload 4, 2) := by decide +kernel
theorem dX4_readNumber_132 : decode cX4_readNumber 132 = .ok (.iload_n 1, 1) := by decide +kernel
theorem dX4_readNumber_133 : decode cX4_readNumber 133 = .ok (.if_icmp .lt 9, 3) := by decide +kernel
theorem dX4_readNumber_136 : decode cX4_readNumber 136 = .ok (.iload 4, 2) := by decide +kernel
theorem dX4_readNumber_138 : decode cX4_readNumber 138 = .ok (.iload_n 2, 1) := by decide +kernel
theorem dX4_readNumber_139 : decode cX4_readNumber 139 = .ok (.if_icmp .le 9, 3) := by decide +kernel
theorem dX4_readNumber_142 : decode cX4_readNumber 142 = .ok (.aload_n 0, 1) := by decide +kernel
theorem dX4_readNumber_143 : decode cX4_readNumber 143 = .ok (.iconst 2, 1) := by decide +kernel
theorem dX4_readNumber_144 : decode cX4_readNumber 144 = .ok (.iload_n 3, 1) := by decide +kernel
theorem dX4_readNumber_145 : decode cX4_readNumber 145 = .ok (.invokevirtual 62, 3) := by decide +kernel
theorem dX4_readNumber_148 : decode cX4_readNumber 148 = .ok (.iload 4, 2) := by decide +kernel
theorem dX4_readNumber_150 : decode cX4_readNumber 150 = .ok (.ireturn, 1) := by decide +kernel
theorem dX4_readEnd_0 : decode cX4_readEnd 0 = .ok (.aload_n 0, 1) := by decide +kernel
theorem dX4_readEnd_1 : decode cX4_readEnd 1 = .ok (.getfield 38, 3) := by decide +kernel
theorem dX4_readEnd_4 : decode cX4_readEnd 4 = .ok (.ifCond .eq 4, 3) := by decide +kernel
theorem dX4_readEnd_7 : decode cX4_readEnd 7 = .ok (.return_, 1) := by decide +kernel
theorem dX4_readEnd_8 : decode cX4_readEnd 8 = .ok (.aload_n 0, 1) := by decide +kernel
theorem dX4_readEnd_9 : decode cX4_readEnd 9 = .ok (.invokevirtual 41, 3) := by decide +kernel
theorem dX4_readEnd_12 : decode cX4_readEnd 12 = .ok (.aload_n 0, 1) := by decide +kernel
theorem dX4_readEnd_13 : decode cX4_readEnd 13 = .ok (.getfield 35, 3) := by decide +kernel
theorem dX4_readEnd_16 : decode cX4_readEnd 16 = .ok (.aload_n 0, 1) := by decide +kernel
theorem dX4_readEnd_17 : decode cX4_readEnd 17 = .ok (.getfield 26, 3) := by decide +kernel
theorem dX4_readEnd_20 : decode cX4_readEnd 20 = .ok (.if_icmp .ge 30, 3) := by decide +kernel
theorem dX4_readEnd_23 : decode cX4_readEnd 23 = .ok (.aload_n 0, 1) := by decide +kernel
theorem dX4_readEnd_24 : decode cX4_readEnd 24 = .ok (.getfield 9, 3) := by decide +kernel
theorem dX4_readEnd_27 : decode cX4_readEnd 27 = .ok (.aload_n 0, 1) := by decide +kernel
theorem dX4_readEnd_28 : decode cX4_readEnd 28 = .ok (.getfield 35, 3) := by decide +kernel
theorem dX4_readEnd_31 : decode cX4_readEnd 31 = .ok (.baload, 1) := by decide +kernel
theorem dX4_readEnd_32 : decode cX4_readEnd 32 = .ok (.bipush 59, 2) := by decide +kernel
theorem dX4_readEnd_34 : decode cX4_readEnd 34 = .ok (.if_icmp .ne 16, 3) := by decide +kernel
theorem dX4_readEnd_37 : decode cX4_readEnd 37 = .ok (.aload_n 0, 1) := by decide +kernel
theorem dX4_readEnd_38 : decode cX4_readEnd 38 = .ok (.dup, 1) := by decide +kernel
theorem dX4_readEnd_39 : decode cX4_readEnd 39 = .ok (.getfield 35, 3) := by decide +kernel
theorem dX4_readEnd_42 : decode cX4_readEnd 42 = .ok (.iconst 1, 1) := by decide +kernel
theorem dX4_readEnd_43 : decode cX4_readEnd 43 = .ok (.iadd, 1) := by decide +kernel
theorem dX4_readEnd_44 : decode cX4_readEnd 44 = .ok (.putfield 35, 3) := by decide +kernel
theorem dX4_readEnd_47 : decode cX4_readEnd 47 = .ok (.goto 12, 3) := by decide +kernel
theorem dX4_readEnd_50 : decode cX4_readEnd 50 = .ok (.aload_n 0, 1) := by decide +kernel
theorem dX4_readEnd_51 : decode cX4_readEnd 51 = .ok (.iconst 1, 1) := by decide +kernel
theorem dX4_readEnd_52 : decode cX4_readEnd 52 = .ok (.aload_n 0, 1) := by decide +kernel
theorem dX4_readEnd_53 : decode cX4_readEnd 53 = .ok (.getfield 35, 3) := by decide +kernel
theorem dX4_readEnd_56 : decode cX4_readEnd 56 = .ok (.invokevirtual 62, 3) := by decide +kernel
theorem dX4_readEnd_59 : decode cX4_readEnd 59 = .ok (.return_, 1) := by decide +kernel
theorem dX4_skipBlanks_0 : decode cX4_skipBlanks 0 = .ok (.aload_n 0, 1) := by decide +kernel
theorem dX4_skipBlanks_1 : decode cX4_skipBlanks 1 = .ok (.getfield 35, 3) := by decide +kernel
theorem dX4_skipBlanks_4 : decode cX4_skipBlanks 4 = .ok (.aload_n 0, 1) := by decide +kernel
theorem dX4_skipBlanks_5 : decode cX4_skipBlanks 5 = .ok (.getfield 26, 3) := by decide +kernel
theorem dX4_skipBlanks_8 : decode cX4_skipBlanks 8 = .ok (.if_icmp .ge 30, 3) := by decide +kernel
theorem dX4_skipBlanks_11 : decode cX4_skipBlanks 11 = .ok (.aload_n 0, 1) := by decide +kernel
theorem dX4_skipBlanks_12 : decode cX4_skipBlanks 12 = .ok (.getfield 9, 3) := by decide +kernel
theorem dX4_skipBlanks_15 : decode cX4_skipBlanks 15 = .ok (.aload_n 0, 1) := by decide +kernel
theorem dX4_skipBlanks_16 : decode cX4_skipBlanks 16 = .ok (.getfield 35, 3) := by decide +kernel
theorem dX4_skipBlanks_19 : decode cX4_skipBlanks 19 = .ok (.baload, 1) := by decide +kernel
theorem dX4_skipBlanks_20 : decode cX4_skipBlanks 20 = .ok (.bipush 32, 2) := by decide +kernel
theorem dX4_skipBlanks_22 : decode cX4_skipBlanks 22 = .ok (.if_icmp .ne 16, 3) := by decide +kernel
theorem dX4_skipBlanks_25 : decode cX4_skipBlanks 25 = .ok (.aload_n 0, 1) := by decide +kernel
theorem dX4_skipBlanks_26 : decode cX4_skipBlanks 26 = .ok (.dup, 1) := by decide +kernel
theorem dX4_skipBlanks_27 : decode cX4_skipBlanks 27 = .ok (.getfield 35, 3) := by decide +kernel
theorem dX4_skipBlanks_30 : decode cX4_skipBlanks 30 = .ok (.iconst 1, 1) := by decide +kernel
theorem dX4_skipBlanks_31 : decode cX4_skipBlanks 31 = .ok (.iadd, 1) := by decide +kernel
theorem dX4_skipBlanks_32 : decode cX4_skipBlanks 32 = .ok (.putfield 35, 3) := by decide +kernel
theorem dX4_skipBlanks_35 : decode cX4_skipBlanks 35 = .ok (.goto (-35), 3) := by decide +kernel
theorem dX4_skipBlanks_38 : decode cX4_skipBlanks 38 = .ok (.return_, 1) := by decide +kernel
theorem dX4_note_0 : decode cX4_note 0 = .ok (.aload_n 0, 1) := by decide +kernel
theorem dX4_note_1 : decode cX4_note 1 = .ok (.iload_n 1, 1) := by decide +kernel
theorem dX4_note_2 : decode cX4_note 2 = .ok (.putfield 38, 3) := by decide +kernel
theorem dX4_note_5 : decode cX4_note 5 = .ok (.aload_n 0, 1) := by decide +kernel
theorem dX4_note_6 : decode cX4_note 6 = .ok (.iload_n 2, 1) := by decide +kernel
theorem dX4_note_7 : decode cX4_note 7 = .ok (.putfield 22, 3) := by decide +kernel
theorem dX4_note_10 : decode cX4_note 10 = .ok (.return_, 1) := by decide +kernel
theorem dX5_init_0 : decode cX5_init 0 = .ok (.aload_n 0, 1) := by decide +kernel
theorem dX5_init_1 : decode cX5_init 1 = .ok (.invokespecial 3, 3) := by decide +kernel
theorem dX5_init_4 : decode cX5_init 4 = .ok (.aload_n 0, 1) := by decide +kernel
theorem dX5_init_5 : decode cX5_init 5 = .ok (.iconst 5, 1) := by decide +kernel
theorem dX5_init_6 : decode cX5_init 6 = .ok (.newarray .int, 2) := by decide +kernel
theorem dX5_init_8 : decode cX5_init 8 = .ok (.putfield 9, 3) := by decide +kernel
theorem dX5_init_11 : decode cX5_init 11 = .ok (.aload_n 0, 1) := by decide +kernel
theorem dX5_init_12 : decode cX5_init 12 = .ok (.iconst 5, 1) := by decide +kernel
theorem dX5_init_13 : decode cX5_init 13 = .ok (.newarray .int, 2) := by decide +kernel
theorem dX5_init_15 : decode cX5_init 15 = .ok (.putfield 15, 3) := by decide +kernel
theorem dX5_init_18 : decode cX5_init 18 = .ok (.aload_n 0, 1) := by decide +kernel
theorem dX5_init_19 : decode cX5_init 19 = .ok (.iconst 5, 1) := by decide +kernel
theorem dX5_init_20 : decode cX5_init 20 = .ok (.newarray .int, 2) := by decide +kernel
theorem dX5_init_22 : decode cX5_init 22 = .ok (.putfield 18, 3) := by decide +kernel
theorem dX5_init_25 : decode cX5_init 25 = .ok (.aload_n 0, 1) := by decide +kernel
theorem dX5_init_26 : decode cX5_init 26 = .ok (.bipush 8, 2) := by decide +kernel
theorem dX5_init_28 : decode cX5_init 28 = .ok (.newarray .int, 2) := by decide +kernel
theorem dX5_init_30 : decode cX5_init 30 = .ok (.putfield 21, 3) := by decide +kernel
theorem dX5_init_33 : decode cX5_init 33 = .ok (.aload_n 0, 1) := by decide +kernel
theorem dX5_init_34 : decode cX5_init 34 = .ok (.bipush 8, 2) := by decide +kernel
theorem dX5_init_36 : decode cX5_init 36 = .ok (.newarray .int, 2) := by decide +kernel
theorem dX5_init_38 : decode cX5_init 38 = .ok (.putfield 24, 3) := by decide +kernel
theorem dX5_init_41 : decode cX5_init 41 = .ok (.aload_n 0, 1) := by decide +kernel
theorem dX5_init_42 : decode cX5_init 42 = .ok (.bipush 8, 2) := by decide +kernel
theorem dX5_init_44 : decode cX5_init 44 = .ok (.newarray .int, 2) := by decide +kernel
theorem dX5_init_46 : decode cX5_init 46 = .ok (.putfield 27, 3) := by decide +kernel
theorem dX5_init_49 : decode cX5_init 49 = .ok (.aload_n 0, 1) := by decide +kernel
theorem dX5_init_50 : decode cX5_init 50 = .ok (.bipush 8, 2) := by decide +kernel
theorem dX5_init_52 : decode cX5_init 52 = .ok (.newarray .int, 2) := by decide +kernel
theorem dX5_init_54 : decode cX5_init 54 = .ok (.putfield 30, 3) := by decide +kernel
theorem dX5_init_57 : decode cX5_init 57 = .ok (.return_, 1) := by decide +kernel
theorem dX5_hasHouse_0 : decode cX5_hasHouse 0 = .ok (.iload_n 1, 1) := by decide +kernel
theorem dX5_hasHouse_1 : decode cX5_hasHouse 1 = .ok (.ifCond .lt 15, 3) := by decide +kernel
theorem dX5_hasHouse_4 : decode cX5_hasHouse 4 = .ok (.iload_n 1, 1) := by decide +kernel
theorem dX5_hasHouse_5 : decode cX5_hasHouse 5 = .ok (.aload_n 0, 1) := by decide +kernel
theorem dX5_hasHouse_6 : decode cX5_hasHouse 6 = .ok (.getfield 33, 3) := by decide +kernel
end
section
theorem dX5_hasHouse_9 : decode cX5_hasHouse 9 = .ok (.if_icmp .ge 7, 3) := by decide +kernel
theorem dX5_hasHouse_12 : decode cX5_hasHouse 12 = .ok (.iconst 1, 1) := by decide +kernel
theorem dX5_hasHouse_13 : decode cX5_hasHouse 13 = .ok (.goto 4, 3) := by decide +kernel
theorem dX5_hasHouse_16 : decode cX5_hasHouse 16 = .ok (.iconst 0, 1) := by decide +kernel
theorem dX5_hasHouse_17 : decode cX5_hasHouse 17 = .ok (.ireturn, 1) := by decide +kernel
theorem dX5_hasSleeper_0 : decode cX5_hasSleeper 0 = .ok (.iload_n 1, 1) := by decide +kernel
theorem dX5_hasSleeper_1 : decode cX5_hasSleeper 1 = .ok (.ifCond .lt 15, 3) := by decide +kernel
theorem dX5_hasSleeper_4 : decode cX5_hasSleeper 4 = .ok (.iload_n 1, 1) := by decide +kernel
theorem dX5_hasSleeper_5 : decode cX5_hasSleeper 5 = .ok (.aload_n 0, 1) := by decide +kernel
theorem dX5_hasSleeper_6 : decode cX5_hasSleeper 6 = .ok (.getfield 37, 3) := by decide +kernel
theorem dX5_hasSleeper_9 : decode cX5_hasSleeper 9 = .ok (.if_icmp .ge 7, 3) := by decide +kernel
theorem dX5_hasSleeper_12 : decode cX5_hasSleeper 12 = .ok (.iconst 1, 1) := by decide +kernel
theorem dX5_hasSleeper_13 : decode cX5_hasSleeper 13 = .ok (.goto 4, 3) := by decide +kernel
theorem dX5_hasSleeper_16 : decode cX5_hasSleeper 16 = .ok (.iconst 0, 1) := by decide +kernel
theorem dX5_hasSleeper_17 : decode cX5_hasSleeper 17 = .ok (.ireturn, 1) := by decide +kernel
theorem dX5_sleepersOf_0 : decode cX5_sleepersOf 0 = .ok (.iconst 0, 1) := by decide +kernel
theorem dX5_sleepersOf_1 : decode cX5_sleepersOf 1 = .ok (.istore_n 2, 1) := by decide +kernel
theorem dX5_sleepersOf_2 : decode cX5_sleepersOf 2 = .ok (.iconst 0, 1) := by decide +kernel
theorem dX5_sleepersOf_3 : decode cX5_sleepersOf 3 = .ok (.istore_n 3, 1) := by decide +kernel
theorem dX5_sleepersOf_4 : decode cX5_sleepersOf 4 = .ok (.iload_n 3, 1) := by decide +kernel
theorem dX5_sleepersOf_5 : decode cX5_sleepersOf 5 = .ok (.aload_n 0, 1) := by decide +kernel
theorem dX5_sleepersOf_6 : decode cX5_sleepersOf 6 = .ok (.getfield 37, 3) := by decide +kernel
theorem dX5_sleepersOf_9 : decode cX5_sleepersOf 9 = .ok (.if_icmp .ge 25, 3) := by decide +kernel
theorem dX5_sleepersOf_12 : decode cX5_sleepersOf 12 = .ok (.aload_n 0, 1) := by decide +kernel
theorem dX5_sleepersOf_13 : decode cX5_sleepersOf 13 = .ok (.getfield 21, 3) := by decide +kernel
theorem dX5_sleepersOf_16 : decode cX5_sleepersOf 16 = .ok (.iload_n 3, 1) := by decide +kernel
theorem dX5_sleepersOf_17 : decode cX5_sleepersOf 17 = .ok (.iaload, 1) := by decide +kernel
theorem dX5_sleepersOf_18 : decode cX5_sleepersOf 18 = .ok (.iload_n 1, 1) := by decide +kernel
theorem dX5_sleepersOf_19 : decode cX5_sleepersOf 19 = .ok (.if_icmp .ne 9, 3) := by decide +kernel
theorem dX5_sleepersOf_22 : decode cX5_sleepersOf 22 = .ok (.iload_n 2, 1) := by decide +kernel
theorem dX5_sleepersOf_23 : decode cX5_sleepersOf 23 = .ok (.iconst 1, 1) := by decide +kernel
theorem dX5_sleepersOf_24 : decode cX5_sleepersOf 24 = .ok (.iload_n 3, 1) := by decide +kernel
theorem dX5_sleepersOf_25 : decode cX5_sleepersOf 25 = .ok (.ishl, 1) := by decide +kernel
theorem dX5_sleepersOf_26 : decode cX5_sleepersOf 26 = .ok (.ior, 1) := by decide +kernel
theorem dX5_sleepersOf_27 : decode cX5_sleepersOf 27 = .ok (.istore_n 2, 1) := by decide +kernel
theorem dX5_sleepersOf_28 : decode cX5_sleepersOf 28 = .ok (.iinc 3 1, 3) := by decide +kernel
theorem dX5_sleepersOf_31 : decode cX5_sleepersOf 31 = .ok (.goto (-27), 3) := by decide +kernel
theorem dX5_sleepersOf_34 : decode cX5_sleepersOf 34 = .ok (.iload_n 2, 1) := by decide +kernel
theorem dX5_sleepersOf_35 : decode cX5_sleepersOf 35 = .ok (.ireturn, 1) := by decide +kernel
theorem dX5_copyFrom_0 : decode cX5_copyFrom 0 = .ok (.aload_n 0, 1) := by decide +kernel
theorem dX5_copyFrom_1 : decode cX5_copyFrom 1 = .ok (.aload_n 1, 1) := by decide +kernel
theorem dX5_copyFrom_2 : decode cX5_copyFrom 2 = .ok (.getfield 33, 3) := by decide +kernel
theorem dX5_copyFrom_5 : decode cX5_copyFrom 5 = .ok (.putfield 33, 3) := by decide +kernel
theorem dX5_copyFrom_8 : decode cX5_copyFrom 8 = .ok (.aload_n 1, 1) := by decide +kernel
theorem dX5_copyFrom_9 : decode cX5_copyFrom 9 = .ok (.getfield 9, 3) := by decide +kernel
theorem dX5_copyFrom_12 : decode cX5_copyFrom 12 = .ok (.iconst 0, 1) := by decide +kernel
theorem dX5_copyFrom_13 : decode cX5_copyFrom 13 = .ok (.aload_n 0, 1) := by decide +kernel
theorem dX5_copyFrom_14 : decode cX5_copyFrom 14 = .ok (.getfield 9, 3) := by decide +kernel
theorem dX5_copyFrom_17 : decode cX5_copyFrom 17 = .ok (.iconst 0, 1) := by decide +kernel
theorem dX5_copyFrom_18 : decode cX5_copyFrom 18 = .ok (.iconst 5, 1) := by decide +kernel
theorem dX5_copyFrom_19 : decode cX5_copyFrom 19 = .ok (.invokestatic 40, 3) := by decide +kernel
theorem dX5_copyFrom_22 : decode cX5_copyFrom 22 = .ok (.aload_n 1, 1) := by decide +kernel
theorem dX5_copyFrom_23 : decode cX5_copyFrom 23 = .ok (.getfield 15, 3) := by decide +kernel
theorem dX5_copyFrom_26 : decode cX5_copyFrom 26 = .ok (.iconst 0, 1) := by decide +kernel
theorem dX5_copyFrom_27 : decode cX5_copyFrom 27 = .ok (.aload_n 0, 1) := by decide +kernel
theorem dX5_copyFrom_28 : decode cX5_copyFrom 28 = .ok (.getfield 15, 3) := by decide +kernel
theorem dX5_copyFrom_31 : decode cX5_copyFrom 31 = .ok (.iconst 0, 1) := by decide +kernel
theorem dX5_copyFrom_32 : decode cX5_copyFrom 32 = .ok (.iconst 5, 1) := by decide +kernel
theorem dX5_copyFrom_33 : decode cX5_copyFrom 33 = .ok (.invokestatic 40, 3) := by decide +kernel
theorem dX5_copyFrom_36 : decode cX5_copyFrom 36 = .ok (.aload_n 1, 1) := by decide +kernel
theorem dX5_copyFrom_37 : decode cX5_copyFrom 37 = .ok (.getfield 18, 3) := by decide +kernel
theorem dX5_copyFrom_40 : decode cX5_copyFrom 40 = .ok (.iconst 0, 1) := by decide +kernel
theorem dX5_copyFrom_41 : decode cX5_copyFrom 41 = .ok (.aload_n 0, 1) := by decide +kernel
theorem dX5_copyFrom_42 : decode cX5_copyFrom 42 = .ok (.getfield 18, 3) := by decide +kernel
theorem dX5_copyFrom_45 : decode cX5_copyFrom 45 = .ok (.iconst 0, 1) := by decide +kernel
theorem dX5_copyFrom_46 : decode cX5_copyFrom 46 = .ok (.iconst 5, 1) := by decide +kernel
theorem dX5_copyFrom_47 : decode cX5_copyFrom 47 = .ok (.invokestatic 40, 3) := by decide +kernel
theorem dX5_copyFrom_50 : decode cX5_copyFrom 50 = .ok (.aload_n 0, 1) := by decide +kernel
theorem dX5_copyFrom_51 : decode cX5_copyFrom 51 = .ok (.aload_n 1, 1) := by decide +kernel
theorem dX5_copyFrom_52 : decode cX5_copyFrom 52 = .ok (.getfield 37, 3) := by decide +kernel
theorem dX5_copyFrom_55 : decode cX5_copyFrom 55 = .ok (.putfield 37, 3) := by decide +kernel
theorem dX5_copyFrom_58 : decode cX5_copyFrom 58 = .ok (.aload_n 1, 1) := by decide +kernel
theorem dX5_copyFrom_59 : decode cX5_copyFrom 59 = .ok (.getfield 21, 3) := by decide +kernel
theorem dX5_copyFrom_62 : decode cX5_copyFrom 62 = .ok (.iconst 0, 1) := by decide +kernel
theorem dX5_copyFrom_63 : decode cX5_copyFrom 63 = .ok (.aload_n 0, 1) := by decide +kernel
theorem dX5_copyFrom_64 : decode cX5_copyFrom 64 = .ok (.getfield 21, 3) := by decide +kernel
theorem dX5_copyFrom_67 : decode cX5_copyFrom 67 = .ok (.iconst 0, 1) := by decide +kernel
theorem dX5_copyFrom_68 : decode cX5_copyFrom 68 = .ok (.bipush 8, 2) := by decide +kernel
theorem dX5_copyFrom_70 : decode cX5_copyFrom 70 = .ok (.invokestatic 40, 3) := by decide +kernel
theorem dX5_copyFrom_73 : decode cX5_copyFrom 73 = .ok (.aload_n 1, 1) := by decide +kernel
theorem dX5_copyFrom_74 : decode cX5_copyFrom 74 = .ok (.getfield 24, 3) := by decide +kernel
theorem dX5_copyFrom_77 : decode cX5_copyFrom 77 = .ok (.iconst 0, 1) := by decide +kernel
theorem dX5_copyFrom_78 : decode cX5_copyFrom 78 = .ok (.aload_n 0, 1) := by decide +kernel
theorem dX5_copyFrom_79 : decode cX5_copyFrom 79 = .ok (.getfield 24, 3) := by decide +kernel
theorem dX5_copyFrom_82 : decode cX5_copyFrom 82 = .ok (.iconst 0, 1) := by decide +kernel
theorem dX5_copyFrom_83 : decode cX5_copyFrom 83 = .ok (.bipush 8, 2) := by decide +kernel
theorem dX5_copyFrom_85 : decode cX5_copyFrom 85 = .ok (.invokestatic 40, 3) := by decide +kernel
theorem dX5_copyFrom_88 : decode cX5_copyFrom 88 = .ok (.aload_n 1, 1) := by decide +kernel
theorem dX5_copyFrom_89 : decode cX5_copyFrom 89 = .ok (.getfield 27, 3) := by decide +kernel
theorem dX5_copyFrom_92 : decode cX5_copyFrom 92 = .ok (.iconst 0, 1) := by decide +kernel
theorem dX5_copyFrom_93 : decode cX5_copyFrom 93 = .ok (.aload_n 0, 1) := by decide +kernel
theorem dX5_copyFrom_94 : decode cX5_copyFrom 94 = .ok (.getfield 27, 3) := by decide +kernel
theorem dX5_copyFrom_97 : decode cX5_copyFrom 97 = .ok (.iconst 0, 1) := by decide +kernel
theorem dX5_copyFrom_98 : decode cX5_copyFrom 98 = .ok (.bipush 8, 2) := by decide +kernel
theorem dX5_copyFrom_100 : decode cX5_copyFrom 100 = .ok (.invokestatic 40, 3) := by decide +kernel
theorem dX5_copyFrom_103 : decode cX5_copyFrom 103 = .ok (.aload_n 1, 1) := by decide +kernel
theorem dX5_copyFrom_104 : decode cX5_copyFrom 104 = .ok (.getfield 30, 3) := by decide +kernel
theorem dX5_copyFrom_107 : decode cX5_copyFrom 107 = .ok (.iconst 0, 1) := by decide +kernel
theorem dX5_copyFrom_108 : decode cX5_copyFrom 108 = .ok (.aload_n 0, 1) := by decide +kernel
theorem dX5_copyFrom_109 : decode cX5_copyFrom 109 = .ok (.getfield 30, 3) := by decide +kernel
theorem dX5_copyFrom_112 : decode cX5_copyFrom 112 = .ok (.iconst 0, 1) := by decide +kernel
theorem dX5_copyFrom_113 : decode cX5_copyFrom 113 = .ok (.bipush 8, 2) := by decide +kernel
theorem dX5_copyFrom_115 : decode cX5_copyFrom 115 = .ok (.invokestatic 40, 3) := by decide +kernel
theorem dX5_copyFrom_118 : decode cX5_copyFrom 118 = .ok (.return_, 1) := by decide +kernel
theorem dX6_init_0 : decode cX6_init 0 = .ok (.aload_n 0, 1) := by decide +kernel
theorem dX6_init_1 : decode cX6_init 1 = .ok (.invokespecial 3, 3) := by decide +kernel
theorem dX6_init_4 : decode cX6_init 4 = .ok (.aload_n 0, 1) := by decide +kernel
theorem dX6_init_5 : decode cX6_init 5 = .ok (.bipush 40, 2) := by decide +kernel
theorem dX6_init_7 : decode cX6_init 7 = .ok (.newarray .int, 2) := by decide +kernel
theorem dX6_init_9 : decode cX6_init 9 = .ok (.putfield 9, 3) := by decide +kernel
theorem dX6_init_12 : decode cX6_init 12 = .ok (.aload_n 0, 1) := by decide +kernel
theorem dX6_init_13 : decode cX6_init 13 = .ok (.bipush 40, 2) := by decide +kernel
theorem dX6_init_15 : decode cX6_init 15 = .ok (.newarray .int, 2) := by decide +kernel
theorem dX6_init_17 : decode cX6_init 17 = .ok (.putfield 15, 3) := by decide +kernel
theorem dX6_init_20 : decode cX6_init 20 = .ok (.aload_n 0, 1) := by decide +kernel
theorem dX6_init_21 : decode cX6_init 21 = .ok (.new 18, 3) := by decide +kernel
theorem dX6_init_24 : decode cX6_init 24 = .ok (.dup, 1) := by decide +kernel
theorem dX6_init_25 : decode cX6_init 25 = .ok (.aload_n 1, 1) := by decide +kernel
theorem dX6_init_26 : decode cX6_init 26 = .ok (.invokespecial 20, 3) := by decide +kernel
theorem dX6_init_29 : decode cX6_init 29 = .ok (.putfield 23, 3) := by decide +kernel
theorem dX6_init_32 : decode cX6_init 32 = .ok (.return_, 1) := by decide +kernel
theorem dX6_add_0 : decode cX6_add 0 = .ok (.aload_n 0, 1) := by decide +kernel
theorem dX6_add_1 : decode cX6_add 1 = .ok (.getfield 27, 3) := by decide +kernel
theorem dX6_add_4 : decode cX6_add 4 = .ok (.bipush 40, 2) := by decide +kernel
theorem dX6_add_6 : decode cX6_add 6 = .ok (.if_icmp .lt 5, 3) := by decide +kernel
theorem dX6_add_9 : decode cX6_add 9 = .ok (.iconst 0, 1) := by decide +kernel
theorem dX6_add_10 : decode cX6_add 10 = .ok (.ireturn, 1) := by decide +kernel
theorem dX6_add_11 : decode cX6_add 11 = .ok (.aload_n 0, 1) := by decide +kernel
theorem dX6_add_12 : decode cX6_add 12 = .ok (.getfield 9, 3) := by decide +kernel
theorem dX6_add_15 : decode cX6_add 15 = .ok (.aload_n 0, 1) := by decide +kernel
theorem dX6_add_16 : decode cX6_add 16 = .ok (.getfield 27, 3) := by decide +kernel
theorem dX6_add_19 : decode cX6_add 19 = .ok (.iload_n 1, 1) := by decide +kernel
theorem dX6_add_20 : decode cX6_add 20 = .ok (.iastore, 1) := by decide +kernel
theorem dX6_add_21 : decode cX6_add 21 = .ok (.aload_n 0, 1) := by decide +kernel
theorem dX6_add_22 : decode cX6_add 22 = .ok (.getfield 15, 3) := by decide +kernel
theorem dX6_add_25 : decode cX6_add 25 = .ok (.aload_n 0, 1) := by decide +kernel
theorem dX6_add_26 : decode cX6_add 26 = .ok (.getfield 27, 3) := by decide +kernel
theorem dX6_add_29 : decode cX6_add 29 = .ok (.iload_n 2, 1) := by decide +kernel
theorem dX6_add_30 : decode cX6_add 30 = .ok (.iastore, 1) := by decide +kernel
theorem dX6_add_31 : decode cX6_add 31 = .ok (.aload_n 0, 1) := by decide +kernel
theorem dX6_add_32 : decode cX6_add 32 = .ok (.dup, 1) := by decide +kernel
theorem dX6_add_33 : decode cX6_add 33 = .ok (.getfield 27, 3) := by decide +kernel
theorem dX6_add_36 : decode cX6_add 36 = .ok (.iconst 1, 1) := by decide +kernel
theorem dX6_add_37 : decode cX6_add 37 = .ok (.iadd, 1) := by decide +kernel
theorem dX6_add_38 : decode cX6_add 38 = .ok (.putfield 27, 3) := by decide +kernel
theorem dX6_add_41 : decode cX6_add 41 = .ok (.iconst 1, 1) := by decide +kernel
theorem dX6_add_42 : decode cX6_add 42 = .ok (.ireturn, 1) := by decide +kernel
theorem dX6_firstLie_0 : decode cX6_firstLie 0 = .ok (.iconst 0, 1) := by decide +kernel
theorem dX6_firstLie_1 : decode cX6_firstLie 1 = .ok (.istore_n 2, 1) := by decide +kernel
theorem dX6_firstLie_2 : decode cX6_firstLie 2 = .ok (.iload_n 2, 1) := by decide +kernel
theorem dX6_firstLie_3 : decode cX6_firstLie 3 = .ok (.aload_n 0, 1) := by decide +kernel
theorem dX6_firstLie_4 : decode cX6_firstLie 4 = .ok (.getfield 27, 3) := by decide +kernel
theorem dX6_firstLie_7 : decode cX6_firstLie 7 = .ok (.if_icmp .ge 30, 3) := by decide +kernel
theorem dX6_firstLie_10 : decode cX6_firstLie 10 = .ok (.aload_n 1, 1) := by decide +kernel
theorem dX6_firstLie_11 : decode cX6_firstLie 11 = .ok (.aload_n 0, 1) := by decide +kernel
theorem dX6_firstLie_12 : decode cX6_firstLie 12 = .ok (.getfield 9, 3) := by decide +kernel
theorem dX6_firstLie_15 : decode cX6_firstLie 15 = .ok (.iload_n 2, 1) := by decide +kernel
theorem dX6_firstLie_16 : decode cX6_firstLie 16 = .ok (.iaload, 1) := by decide +kernel
theorem dX6_firstLie_17 : decode cX6_firstLie 17 = .ok (.aload_n 0, 1) := by decide +kernel
theorem dX6_firstLie_18 : decode cX6_firstLie 18 = .ok (.getfield 15, 3) := by decide +kernel
theorem dX6_firstLie_21 : decode cX6_firstLie 21 = .ok (.iload_n 2, 1) := by decide +kernel
theorem dX6_firstLie_22 : decode cX6_firstLie 22 = .ok (.iaload, 1) := by decide +kernel
theorem dX6_firstLie_23 : decode cX6_firstLie 23 = .ok (.invokevirtual 31, 3) := by decide +kernel
theorem dX6_firstLie_26 : decode cX6_firstLie 26 = .ok (.ifCond .ne 5, 3) := by decide +kernel
theorem dX6_firstLie_29 : decode cX6_firstLie 29 = .ok (.iload_n 2, 1) := by decide +kernel
theorem dX6_firstLie_30 : decode cX6_firstLie 30 = .ok (.ireturn, 1) := by decide +kernel
theorem dX6_firstLie_31 : decode cX6_firstLie 31 = .ok (.iinc 2 1, 3) := by decide +kernel
theorem dX6_firstLie_34 : decode cX6_firstLie 34 = .ok (.goto (-32), 3) := by decide +kernel
theorem dX6_firstLie_37 : decode cX6_firstLie 37 = .ok (.iconst (-1), 1) := by decide +kernel
theorem dX6_firstLie_38 : decode cX6_firstLie 38 = .ok (.ireturn, 1) := by decide +kernel
theorem dX6_fitting_0 : decode cX6_fitting 0 = .ok (.aload_n 0, 1) := by decide +kernel
theorem dX6_fitting_1 : decode cX6_fitting 1 = .ok (.getfield 23, 3) := by decide +kernel
theorem dX6_fitting_4 : decode cX6_fitting 4 = .ok (.aload_n 1, 1) := by decide +kernel
theorem dX6_fitting_5 : decode cX6_fitting 5 = .ok (.invokevirtual 35, 3) := by decide +kernel
theorem dX6_fitting_8 : decode cX6_fitting 8 = .ok (.iconst 0, 1) := by decide +kernel
theorem dX6_fitting_9 : decode cX6_fitting 9 = .ok (.istore 4, 2) := by decide +kernel
theorem dX6_fitting_11 : decode cX6_fitting 11 = .ok (.iconst 0, 1) := by decide +kernel
theorem dX6_fitting_12 : decode cX6_fitting 12 = .ok (.istore 5, 2) := by decide +kernel
theorem dX6_fitting_14 : decode cX6_fitting 14 = .ok (.iload 5, 2) := by decide +kernel
theorem dX6_fitting_16 : decode cX6_fitting 16 = .ok (.bipush 60, 2) := by decide +kernel
theorem dX6_fitting_18 : decode cX6_fitting 18 = .ok (.if_icmp .gt 53, 3) := by decide +kernel
theorem dX6_fitting_21 : decode cX6_fitting 21 = .ok (.iload 5, 2) := by decide +kernel
theorem dX6_fitting_23 : decode cX6_fitting 23 = .ok (.aload_n 1, 1) := by decide +kernel
theorem dX6_fitting_24 : decode cX6_fitting 24 = .ok (.getfield 39, 3) := by decide +kernel
theorem dX6_fitting_27 : decode cX6_fitting 27 = .ok (.iload_n 2, 1) := by decide +kernel
theorem dX6_fitting_28 : decode cX6_fitting 28 = .ok (.iaload, 1) := by decide +kernel
theorem dX6_fitting_29 : decode cX6_fitting 29 = .ok (.if_icmp .ne 6, 3) := by decide +kernel
theorem dX6_fitting_32 : decode cX6_fitting 32 = .ok (.goto 33, 3) := by decide +kernel
theorem dX6_fitting_35 : decode cX6_fitting 35 = .ok (.aload_n 0, 1) := by decide +kernel
theorem dX6_fitting_36 : decode cX6_fitting 36 = .ok (.getfield 23, 3) := by decide +kernel
theorem dX6_fitting_39 : decode cX6_fitting 39 = .ok (.iload_n 2, 1) := by decide +kernel
theorem dX6_fitting_40 : decode cX6_fitting 40 = .ok (.iload 5, 2) := by decide +kernel
theorem dX6_fitting_42 : decode cX6_fitting 42 = .ok (.invokevirtual 42, 3) := by decide +kernel
theorem dX6_fitting_45 : decode cX6_fitting 45 = .ok (.aload_n 0, 1) := by decide +kernel
theorem dX6_fitting_46 : decode cX6_fitting 46 = .ok (.iload_n 2, 1) := by decide +kernel
theorem dX6_fitting_47 : decode cX6_fitting 47 = .ok (.invokevirtual 46, 3) := by decide +kernel
theorem dX6_fitting_50 : decode cX6_fitting 50 = .ok (.ifCond .eq 15, 3) := by decide +kernel
theorem dX6_fitting_53 : decode cX6_fitting 53 = .ok (.iload 4, 2) := by decide +kernel
theorem dX6_fitting_55 : decode cX6_fitting 55 = .ok (.iload_n 3, 1) := by decide +kernel
theorem dX6_fitting_56 : decode cX6_fitting 56 = .ok (.if_icmp .ne 6, 3) := by decide +kernel
theorem dX6_fitting_59 : decode cX6_fitting 59 = .ok (.iload 5, 2) := by decide +kernel
theorem dX6_fitting_61 : decode cX6_fitting 61 = .ok (.ireturn, 1) := by decide +kernel
theorem dX6_fitting_62 : decode cX6_fitting 62 = .ok (.iinc 4 1, 3) := by decide +kernel
theorem dX6_fitting_65 : decode cX6_fitting 65 = .ok (.iinc 5 1, 3) := by decide +kernel
theorem dX6_fitting_68 : decode cX6_fitting 68 = .ok (.goto (-54), 3) := by decide +kernel
theorem dX6_fitting_71 : decode cX6_fitting 71 = .ok (.iload_n 3, 1) := by decide +kernel
theorem dX6_fitting_72 : decode cX6_fitting 72 = .ok (.iconst (-1), 1) := by decide +kernel
theorem dX6_fitting_73 : decode cX6_fitting 73 = .ok (.if_icmp .ne 8, 3) := by decide +kernel
theorem dX6_fitting_76 : decode cX6_fitting 76 = .ok (.iload 4, 2) := by decide +kernel
theorem dX6_fitting_78 : decode cX6_fitting 78 = .ok (.goto 4, 3) := by decide +kernel
theorem dX6_fitting_81 : decode cX6_fitting 81 = .ok (.iconst (-1), 1) := by decide +kernel
theorem dX6_fitting_82 : decode cX6_fitting 82 = .ok (.ireturn, 1) := by decide +kernel
theorem dX6_allTrueOf_0 : decode cX6_allTrueOf 0 = .ok (.iconst 0, 1) := by decide +kernel
theorem dX6_allTrueOf_1 : decode cX6_allTrueOf 1 = .ok (.istore_n 2, 1) := by decide +kernel
theorem dX6_allTrueOf_2 : decode cX6_allTrueOf 2 = .ok (.iload_n 2, 1) := by decide +kernel
theorem dX6_allTrueOf_3 : decode cX6_allTrueOf 3 = .ok (.aload_n 0, 1) := by decide +kernel
theorem dX6_allTrueOf_4 : decode cX6_allTrueOf 4 = .ok (.getfield 27, 3) := by decide +kernel
theorem dX6_allTrueOf_7 : decode cX6_allTrueOf 7 = .ok (.if_icmp .ge 38, 3) := by decide +kernel
theorem dX6_allTrueOf_10 : decode cX6_allTrueOf 10 = .ok (.aload_n 0, 1) := by decide +kernel
theorem dX6_allTrueOf_11 : decode cX6_allTrueOf 11 = .ok (.getfield 9, 3) := by decide +kernel
theorem dX6_allTrueOf_14 : decode cX6_allTrueOf 14 = .ok (.iload_n 2, 1) := by decide +kernel
theorem dX6_allTrueOf_15 : decode cX6_allTrueOf 15 = .ok (.iaload, 1) := by decide +kernel
theorem dX6_allTrueOf_16 : decode cX6_allTrueOf 16 = .ok (.iload_n 1, 1) := by decide +kernel
theorem dX6_allTrueOf_17 : decode cX6_allTrueOf 17 = .ok (.if_icmp .ne 22, 3) := by decide +kernel
theorem dX6_allTrueOf_20 : decode cX6_allTrueOf 20 = .ok (.aload_n 0, 1) := by decide +kernel
theorem dX6_allTrueOf_21 : decode cX6_allTrueOf 21 = .ok (.getfield 23, 3) := by decide +kernel
theorem dX6_allTrueOf_24 : decode cX6_allTrueOf 24 = .ok (.iload_n 1, 1) := by decide +kernel
theorem dX6_allTrueOf_25 : decode cX6_allTrueOf 25 = .ok (.aload_n 0, 1) := by decide +kernel
theorem dX6_allTrueOf_26 : decode cX6_allTrueOf 26 = .ok (.getfield 15, 3) := by decide +kernel
theorem dX6_allTrueOf_29 : decode cX6_allTrueOf 29 = .ok (.iload_n 2, 1) := by decide +kernel
theorem dX6_allTrueOf_30 : decode cX6_allTrueOf 30 = .ok (.iaload, 1) := by decide +kernel
theorem dX6_allTrueOf_31 : decode cX6_allTrueOf 31 = .ok (.invokevirtual 31, 3) := by decide +kernel
theorem dX6_allTrueOf_34 : decode cX6_allTrueOf 34 = .ok (.ifCond .ne 5, 3) := by decide +kernel
theorem dX6_allTrueOf_37 : decode cX6_allTrueOf 37 = .ok (.iconst 0, 1) := by decide +kernel
theorem dX6_allTrueOf_38 : decode cX6_allTrueOf 38 = .ok (.ireturn, 1) := by decide +kernel
theorem dX6_allTrueOf_39 : decode cX6_allTrueOf 39 = .ok (.iinc 2 1, 3) := by decide +kernel
theorem dX6_allTrueOf_42 : decode cX6_allTrueOf 42 = .ok (.goto (-40), 3) := by decide +kernel
theorem dX6_allTrueOf_45 : decode cX6_allTrueOf 45 = .ok (.iconst 1, 1) := by decide +kernel
theorem dX6_allTrueOf_46 : decode cX6_allTrueOf 46 = .ok (.ireturn, 1) := by decide +kernel
theorem dX7_init_0 : decode cX7_init 0 = .ok (.aload_n 0, 1) := by decide +kernel
theorem dX7_init_1 : decode cX7_init 1 = .ok (.invokespecial 1, 3) := by decide +kernel
theorem dX7_init_4 : decode cX7_init 4 = .ok (.aload_n 0, 1) := by decide +kernel
theorem dX7_init_5 : decode cX7_init 5 = .ok (.new 7, 3) := by decide +kernel
theorem dX7_init_8 : decode cX7_init 8 = .ok (.dup, 1) := by decide +kernel
theorem dX7_init_9 : decode cX7_init 9 = .ok (.invokespecial 9, 3) := by decide +kernel
theorem dX7_init_12 : decode cX7_init 12 = .ok (.putfield 10, 3) := by decide +kernel
theorem dX7_init_15 : decode cX7_init 15 = .ok (.aload_n 0, 1) := by decide +kernel
theorem dX7_init_16 : decode cX7_init 16 = .ok (.new 16, 3) := by decide +kernel
theorem dX7_init_19 : decode cX7_init 19 = .ok (.dup, 1) := by decide +kernel
theorem dX7_init_20 : decode cX7_init 20 = .ok (.invokespecial 18, 3) := by decide +kernel
theorem dX7_init_23 : decode cX7_init 23 = .ok (.putfield 19, 3) := by decide +kernel
theorem dX7_init_26 : decode cX7_init 26 = .ok (.aload_n 0, 1) := by decide +kernel
theorem dX7_init_27 : decode cX7_init 27 = .ok (.new 23, 3) := by decide +kernel
theorem dX7_init_30 : decode cX7_init 30 = .ok (.dup, 1) := by decide +kernel
theorem dX7_init_31 : decode cX7_init 31 = .ok (.aload_n 0, 1) := by decide +kernel
theorem dX7_init_32 : decode cX7_init 32 = .ok (.getfield 19, 3) := by decide +kernel
theorem dX7_init_35 : decode cX7_init 35 = .ok (.invokespecial 25, 3) := by decide +kernel
theorem dX7_init_38 : decode cX7_init 38 = .ok (.putfield 28, 3) := by decide +kernel
theorem dX7_init_41 : decode cX7_init 41 = .ok (.aload_n 0, 1) := by decide +kernel
theorem dX7_init_42 : decode cX7_init 42 = .ok (.new 23, 3) := by decide +kernel
theorem dX7_init_45 : decode cX7_init 45 = .ok (.dup, 1) := by decide +kernel
theorem dX7_init_46 : decode cX7_init 46 = .ok (.aload_n 0, 1) := by decide +kernel
theorem dX7_init_47 : decode cX7_init 47 = .ok (.getfield 19, 3) := by decide +kernel
theorem dX7_init_50 : decode cX7_init 50 = .ok (.invokespecial 25, 3) := by decide +kernel
theorem dX7_init_53 : decode cX7_init 53 = .ok (.putfield 32, 3) := by decide +kernel
theorem dX7_init_56 : decode cX7_init 56 = .ok (.aload_n 0, 1) := by decide +kernel
theorem dX7_init_57 : decode cX7_init 57 = .ok (.new 23, 3) := by decide +kernel
theorem dX7_init_60 : decode cX7_init 60 = .ok (.dup, 1) := by decide +kernel
theorem dX7_init_61 : decode cX7_init 61 = .ok (.aload_n 0, 1) := by decide +kernel
theorem dX7_init_62 : decode cX7_init 62 = .ok (.getfield 19, 3) := by decide +kernel
theorem dX7_init_65 : decode cX7_init 65 = .ok (.invokespecial 25, 3) := by decide +kernel
theorem dX7_init_68 : decode cX7_init 68 = .ok (.putfield 35, 3) := by decide +kernel
theorem dX7_init_71 : decode cX7_init 71 = .ok (.aload_n 0, 1) := by decide +kernel
theorem dX7_init_72 : decode cX7_init 72 = .ok (.new 38, 3) := by decide +kernel
theorem dX7_init_75 : decode cX7_init 75 = .ok (.dup, 1) := by decide +kernel
theorem dX7_init_76 : decode cX7_init 76 = .ok (.aload_n 0, 1) := by decide +kernel
theorem dX7_init_77 : decode cX7_init 77 = .ok (.getfield 19, 3) := by decide +kernel
theorem dX7_init_80 : decode cX7_init 80 = .ok (.invokespecial 40, 3) := by decide +kernel
theorem dX7_init_83 : decode cX7_init 83 = .ok (.putfield 41, 3) := by decide +kernel
theorem dX7_init_86 : decode cX7_init 86 = .ok (.aload_n 0, 1) := by decide +kernel
theorem dX7_init_87 : decode cX7_init 87 = .ok (.new 45, 3) := by decide +kernel
theorem dX7_init_90 : decode cX7_init 90 = .ok (.dup, 1) := by decide +kernel
theorem dX7_init_91 : decode cX7_init 91 = .ok (.aload_n 0, 1) := by decide +kernel
theorem dX7_init_92 : decode cX7_init 92 = .ok (.getfield 19, 3) := by decide +kernel
theorem dX7_init_95 : decode cX7_init 95 = .ok (.invokespecial 47, 3) := by decide +kernel
theorem dX7_init_98 : decode cX7_init 98 = .ok (.putfield 48, 3) := by decide +kernel
theorem dX7_init_101 : decode cX7_init 101 = .ok (.aload_n 0, 1) := by decide +kernel
theorem dX7_init_102 : decode cX7_init 102 = .ok (.new 52, 3) := by decide +kernel
theorem dX7_init_105 : decode cX7_init 105 = .ok (.dup, 1) := by decide +kernel
theorem dX7_init_106 : decode cX7_init 106 = .ok (.invokespecial 54, 3) := by decide +kernel
theorem dX7_init_109 : decode cX7_init 109 = .ok (.putfield 55, 3) := by decide +kernel
theorem dX7_init_112 : decode cX7_init 112 = .ok (.return_, 1) := by decide +kernel
theorem dX7_feed_0 : decode cX7_feed 0 = .ok (.iload_n 1, 1) := by decide +kernel
theorem dX7_feed_1 : decode cX7_feed 1 = .ok (.iconst 1, 1) := by decide +kernel
theorem dX7_feed_2 : decode cX7_feed 2 = .ok (.if_icmp .lt 9, 3) := by decide +kernel
theorem dX7_feed_5 : decode cX7_feed 5 = .ok (.iload_n 1, 1) := by decide +kernel
theorem dX7_feed_6 : decode cX7_feed 6 = .ok (.bipush 8, 2) := by decide +kernel
theorem dX7_feed_8 : decode cX7_feed 8 = .ok (.if_icmp .le 6, 3) := by decide +kernel
theorem dX7_feed_11 : decode cX7_feed 11 = .ok (.ldc 59, 2) := by decide +kernel
theorem dX7_feed_13 : decode cX7_feed 13 = .ok (.ireturn, 1) := by decide +kernel
theorem dX7_feed_14 : decode cX7_feed 14 = .ok (.aload_n 0, 1) := by decide +kernel
theorem dX7_feed_15 : decode cX7_feed 15 = .ok (.getfield 10, 3) := by decide +kernel
theorem dX7_feed_18 : decode cX7_feed 18 = .ok (.iload_n 1, 1) := by decide +kernel
theorem dX7_feed_19 : decode cX7_feed 19 = .ok (.lload_n 2, 1) := by decide +kernel
theorem dX7_feed_20 : decode cX7_feed 20 = .ok (.invokevirtual 60, 3) := by decide +kernel
theorem dX7_feed_23 : decode cX7_feed 23 = .ok (.ifCond .eq 13, 3) := by decide +kernel
theorem dX7_feed_26 : decode cX7_feed 26 = .ok (.aload_n 0, 1) := by decide +kernel
theorem dX7_feed_27 : decode cX7_feed 27 = .ok (.getfield 10, 3) := by decide +kernel
theorem dX7_feed_30 : decode cX7_feed 30 = .ok (.getfield 64, 3) := by decide +kernel
theorem dX7_feed_33 : decode cX7_feed 33 = .ok (.goto 5, 3) := by decide +kernel
theorem dX7_feed_36 : decode cX7_feed 36 = .ok (.ldc 68, 2) := by decide +kernel
theorem dX7_feed_38 : decode cX7_feed 38 = .ok (.ireturn, 1) := by decide +kernel
theorem dX7_valley_0 : decode cX7_valley 0 = .ok (.aload_n 0, 1) := by decide +kernel
theorem dX7_valley_1 : decode cX7_valley 1 = .ok (.getfield 10, 3) := by decide +kernel
theorem dX7_valley_4 : decode cX7_valley 4 = .ok (.invokevirtual 69, 3) := by decide +kernel
theorem dX7_valley_7 : decode cX7_valley 7 = .ok (.istore_n 1, 1) := by decide +kernel
theorem dX7_valley_8 : decode cX7_valley 8 = .ok (.iload_n 1, 1) := by decide +kernel
theorem dX7_valley_9 : decode cX7_valley 9 = .ok (.ifCond .eq 8, 3) := by decide +kernel
theorem dX7_valley_12 : decode cX7_valley 12 = .ok (.bipush (-10), 2) := by decide +kernel
theorem dX7_valley_14 : decode cX7_valley 14 = .ok (.iload_n 1, 1) := by decide +kernel
theorem dX7_valley_15 : decode cX7_valley 15 = .ok (.isub, 1) := by decide +kernel
theorem dX7_valley_16 : decode cX7_valley 16 = .ok (.ireturn, 1) := by decide +kernel
theorem dX7_valley_17 : decode cX7_valley 17 = .ok (.aload_n 0, 1) := by decide +kernel
theorem dX7_valley_18 : decode cX7_valley 18 = .ok (.getfield 19, 3) := by decide +kernel
theorem dX7_valley_21 : decode cX7_valley 21 = .ok (.aload_n 0, 1) := by decide +kernel
theorem dX7_valley_22 : decode cX7_valley 22 = .ok (.getfield 10, 3) := by decide +kernel
theorem dX7_valley_25 : decode cX7_valley 25 = .ok (.getfield 73, 3) := by decide +kernel
theorem dX7_valley_28 : decode cX7_valley 28 = .ok (.invokevirtual 76, 3) := by decide +kernel
theorem dX7_valley_31 : decode cX7_valley 31 = .ok (.aload_n 0, 1) := by decide +kernel
theorem dX7_valley_32 : decode cX7_valley 32 = .ok (.getfield 28, 3) := by decide +kernel
theorem dX7_valley_35 : decode cX7_valley 35 = .ok (.invokevirtual 79, 3) := by decide +kernel
theorem dX7_valley_38 : decode cX7_valley 38 = .ok (.aload_n 0, 1) := by decide +kernel
theorem dX7_valley_39 : decode cX7_valley 39 = .ok (.getfield 41, 3) := by decide +kernel
theorem dX7_valley_42 : decode cX7_valley 42 = .ok (.iconst 0, 1) := by decide +kernel
theorem dX7_valley_43 : decode cX7_valley 43 = .ok (.putfield 82, 3) := by decide +kernel
theorem dX7_valley_46 : decode cX7_valley 46 = .ok (.aload_n 0, 1) := by decide +kernel
theorem dX7_valley_47 : decode cX7_valley 47 = .ok (.iconst 0, 1) := by decide +kernel
theorem dX7_valley_48 : decode cX7_valley 48 = .ok (.putfield 85, 3) := by decide +kernel
theorem dX7_valley_51 : decode cX7_valley 51 = .ok (.aload_n 0, 1) := by decide +kernel
theorem dX7_valley_52 : decode cX7_valley 52 = .ok (.getfield 19, 3) := by decide +kernel
theorem dX7_valley_55 : decode cX7_valley 55 = .ok (.getfield 88, 3) := by decide +kernel
theorem dX7_valley_58 : decode cX7_valley 58 = .ok (.ireturn, 1) := by decide +kernel
theorem dX7_fault_0 : decode cX7_fault 0 = .ok (.aload_n 0, 1) := by decide +kernel
theorem dX7_fault_1 : decode cX7_fault 1 = .ok (.getfield 10, 3) := by decide +kernel
theorem dX7_fault_4 : decode cX7_fault 4 = .ok (.getfield 91, 3) := by decide +kernel
theorem dX7_fault_7 : decode cX7_fault 7 = .ok (.ireturn, 1) := by decide +kernel
theorem dX7_told_0 : decode cX7_told 0 = .ok (.iload_n 1, 1) := by decide +kernel
theorem dX7_told_1 : decode cX7_told 1 = .ok (.tableswitch 159 0 10 #[59, 67, 75, 83, 91, 102, 113, 124, 135, 143, 151], 59) := by decide +kernel
theorem dX7_told_60 : decode cX7_told 60 = .ok (.aload_n 0, 1) := by decide +kernel
theorem dX7_told_61 : decode cX7_told 61 = .ok (.getfield 19, 3) := by decide +kernel
theorem dX7_told_64 : decode cX7_told 64 = .ok (.getfield 94, 3) := by decide +kernel
theorem dX7_told_67 : decode cX7_told 67 = .ok (.ireturn, 1) := by decide +kernel
theorem dX7_told_68 : decode cX7_told 68 = .ok (.aload_n 0, 1) := by decide +kernel
theorem dX7_told_69 : decode cX7_told 69 = .ok (.getfield 19, 3) := by decide +kernel
theorem dX7_told_72 : decode cX7_told 72 = .ok (.getfield 88, 3) := by decide +kernel
theorem dX7_told_75 : decode cX7_told 75 = .ok (.ireturn, 1) := by decide +kernel
theorem dX7_told_76 : decode cX7_told 76 = .ok (.aload_n 0, 1) := by decide +kernel
theorem dX7_told_77 : decode cX7_told 77 = .ok (.getfield 10, 3) := by decide +kernel
theorem dX7_told_80 : decode cX7_told 80 = .ok (.getfield 64, 3) := by decide +kernel
theorem dX7_told_83 : decode cX7_told 83 = .ok (.ireturn, 1) := by decide +kernel
theorem dX7_told_84 : decode cX7_told 84 = .ok (.aload_n 0, 1) := by decide +kernel
theorem dX7_told_85 : decode cX7_told 85 = .ok (.getfield 28, 3) := by decide +kernel
theorem dX7_told_88 : decode cX7_told 88 = .ok (.getfield 97, 3) := by decide +kernel
theorem dX7_told_91 : decode cX7_told 91 = .ok (.ireturn, 1) := by decide +kernel
theorem dX7_told_92 : decode cX7_told 92 = .ok (.aload_n 0, 1) := by decide +kernel
theorem dX7_told_93 : decode cX7_told 93 = .ok (.getfield 28, 3) := by decide +kernel
theorem dX7_told_96 : decode cX7_told 96 = .ok (.getfield 100, 3) := by decide +kernel
theorem dX7_told_99 : decode cX7_told 99 = .ok (.getfield 104, 3) := by decide +kernel
theorem dX7_told_102 : decode cX7_told 102 = .ok (.ireturn, 1) := by decide +kernel
theorem dX7_told_103 : decode cX7_told 103 = .ok (.aload_n 0, 1) := by decide +kernel
theorem dX7_told_104 : decode cX7_told 104 = .ok (.getfield 28, 3) := by decide +kernel
theorem dX7_told_107 : decode cX7_told 107 = .ok (.getfield 100, 3) := by decide +kernel
theorem dX7_told_110 : decode cX7_told 110 = .ok (.getfield 109, 3) := by decide +kernel
theorem dX7_told_113 : decode cX7_told 113 = .ok (.ireturn, 1) := by decide +kernel
theorem dX7_told_114 : decode cX7_told 114 = .ok (.aload_n 0, 1) := by decide +kernel
theorem dX7_told_115 : decode cX7_told 115 = .ok (.getfield 28, 3) := by decide +kernel
theorem dX7_told_118 : decode cX7_told 118 = .ok (.getfield 100, 3) := by decide +kernel
theorem dX7_told_121 : decode cX7_told 121 = .ok (.getfield 112, 3) := by decide +kernel
theorem dX7_told_124 : decode cX7_told 124 = .ok (.ireturn, 1) := by decide +kernel
theorem dX7_told_125 : decode cX7_told 125 = .ok (.aload_n 0, 1) := by decide +kernel
theorem dX7_told_126 : decode cX7_told 126 = .ok (.getfield 28, 3) := by decide +kernel
theorem dX7_told_129 : decode cX7_told 129 = .ok (.getfield 100, 3) := by decide +kernel
theorem dX7_told_132 : decode cX7_told 132 = .ok (.getfield 115, 3) := by decide +kernel
theorem dX7_told_135 : decode cX7_told 135 = .ok (.ireturn, 1) := by decide +kernel
theorem dX7_told_136 : decode cX7_told 136 = .ok (.aload_n 0, 1) := by decide +kernel
theorem dX7_told_137 : decode cX7_told 137 = .ok (.getfield 28, 3) := by decide +kernel
theorem dX7_told_140 : decode cX7_told 140 = .ok (.getfield 118, 3) := by decide +kernel
theorem dX7_told_143 : decode cX7_told 143 = .ok (.ireturn, 1) := by decide +kernel
theorem dX7_told_144 : decode cX7_told 144 = .ok (.aload_n 0, 1) := by decide +kernel
theorem dX7_told_145 : decode cX7_told 145 = .ok (.getfield 28, 3) := by decide +kernel
theorem dX7_told_148 : decode cX7_told 148 = .ok (.getfield 121, 3) := by decide +kernel
theorem dX7_told_151 : decode cX7_told 151 = .ok (.ireturn, 1) := by decide +kernel
theorem dX7_told_152 : decode cX7_told 152 = .ok (.aload_n 0, 1) := by decide +kernel
theorem dX7_told_153 : decode cX7_told 153 = .ok (.getfield 41, 3) := by decide +kernel
theorem dX7_told_156 : decode cX7_told 156 = .ok (.getfield 82, 3) := by decide +kernel
theorem dX7_told_159 : decode cX7_told 159 = .ok (.ireturn, 1) := by decide +kernel
theorem dX7_told_160 : decode cX7_told 160 = .ok (.ldc 59, 2) := by decide +kernel
theorem dX7_told_162 : decode cX7_told 162 = .ok (.ireturn, 1) := by decide +kernel
theorem dX7_house_0 : decode cX7_house 0 = .ok (.aload_n 0, 1) := by decide +kernel
theorem dX7_house_1 : decode cX7_house 1 = .ok (.getfield 19, 3) := by decide +kernel
theorem dX7_house_4 : decode cX7_house 4 = .ok (.iload_n 1, 1) := by decide +kernel
theorem dX7_house_5 : decode cX7_house 5 = .ok (.invokevirtual 124, 3) := by decide +kernel
theorem dX7_house_8 : decode cX7_house 8 = .ok (.ifCond .ne 6, 3) := by decide +kernel
theorem dX7_house_11 : decode cX7_house 11 = .ok (.ldc 128, 2) := by decide +kernel
theorem dX7_house_13 : decode cX7_house 13 = .ok (.ireturn, 1) := by decide +kernel
theorem dX7_house_14 : decode cX7_house 14 = .ok (.iload_n 2, 1) := by decide +kernel
theorem dX7_house_15 : decode cX7_house 15 = .ok (.tableswitch 96 0 5 #[37, 47, 57, 67, 77, 87], 37) := by decide +kernel
theorem dX7_house_52 : decode cX7_house 52 = .ok (.aload_n 0, 1) := by decide +kernel
theorem dX7_house_53 : decode cX7_house 53 = .ok (.getfield 19, 3) := by decide +kernel
theorem dX7_house_56 : decode cX7_house 56 = .ok (.getfield 129, 3) := by decide +kernel
theorem dX7_house_59 : decode cX7_house 59 = .ok (.iload_n 1, 1) := by decide +kernel
theorem dX7_house_60 : decode cX7_house 60 = .ok (.iaload, 1) := by decide +kernel
theorem dX7_house_61 : decode cX7_house 61 = .ok (.ireturn, 1) := by decide +kernel
theorem dX7_house_62 : decode cX7_house 62 = .ok (.aload_n 0, 1) := by decide +kernel
theorem dX7_house_63 : decode cX7_house 63 = .ok (.getfield 19, 3) := by decide +kernel
theorem dX7_house_66 : decode cX7_house 66 = .ok (.getfield 133, 3) := by decide +kernel
theorem dX7_house_69 : decode cX7_house 69 = .ok (.iload_n 1, 1) := by decide +kernel
theorem dX7_house_70 : decode cX7_house 70 = .ok (.iaload, 1) := by decide +kernel
theorem dX7_house_71 : decode cX7_house 71 = .ok (.ireturn, 1) := by decide +kernel
theorem dX7_house_72 : decode cX7_house 72 = .ok (.aload_n 0, 1) := by decide +kernel
theorem dX7_house_73 : decode cX7_house 73 = .ok (.getfield 19, 3) := by decide +kernel
theorem dX7_house_76 : decode cX7_house 76 = .ok (.getfield 136, 3) := by decide +kernel
theorem dX7_house_79 : decode cX7_house 79 = .ok (.iload_n 1, 1) := by decide +kernel
theorem dX7_house_80 : decode cX7_house 80 = .ok (.iaload, 1) := by decide +kernel
theorem dX7_house_81 : decode cX7_house 81 = .ok (.ireturn, 1) := by decide +kernel
theorem dX7_house_82 : decode cX7_house 82 = .ok (.aload_n 0, 1) := by decide +kernel
theorem dX7_house_83 : decode cX7_house 83 = .ok (.getfield 28, 3) := by decide +kernel
theorem dX7_house_86 : decode cX7_house 86 = .ok (.getfield 139, 3) := by decide +kernel
theorem dX7_house_89 : decode cX7_house 89 = .ok (.iload_n 1, 1) := by decide +kernel
theorem dX7_house_90 : decode cX7_house 90 = .ok (.iaload, 1) := by decide +kernel
theorem dX7_house_91 : decode cX7_house 91 = .ok (.ireturn, 1) := by decide +kernel
theorem dX7_house_92 : decode cX7_house 92 = .ok (.aload_n 0, 1) := by decide +kernel
theorem dX7_house_93 : decode cX7_house 93 = .ok (.getfield 28, 3) := by decide +kernel
theorem dX7_house_96 : decode cX7_house 96 = .ok (.getfield 142, 3) := by decide +kernel
theorem dX7_house_99 : decode cX7_house 99 = .ok (.iload_n 1, 1) := by decide +kernel
theorem dX7_house_100 : decode cX7_house 100 = .ok (.iaload, 1) := by decide +kernel
theorem dX7_house_101 : decode cX7_house 101 = .ok (.ireturn, 1) := by decide +kernel
theorem dX7_house_102 : decode cX7_house 102 = .ok (.aload_n 0, 1) := by decide +kernel
theorem dX7_house_103 : decode cX7_house 103 = .ok (.getfield 19, 3) := by decide +kernel
theorem dX7_house_106 : decode cX7_house 106 = .ok (.iload_n 1, 1) := by decide +kernel
theorem dX7_house_107 : decode cX7_house 107 = .ok (.invokevirtual 145, 3) := by decide +kernel
theorem dX7_house_110 : decode cX7_house 110 = .ok (.ireturn, 1) := by decide +kernel
theorem dX7_house_111 : decode cX7_house 111 = .ok (.ldc 59, 2) := by decide +kernel
theorem dX7_house_113 : decode cX7_house 113 = .ok (.ireturn, 1) := by decide +kernel
theorem dX7_sleeper_0 : decode cX7_sleeper 0 = .ok (.aload_n 0, 1) := by decide +kernel
theorem dX7_sleeper_1 : decode cX7_sleeper 1 = .ok (.getfield 19, 3) := by decide +kernel
theorem dX7_sleeper_4 : decode cX7_sleeper 4 = .ok (.iload_n 1, 1) := by decide +kernel
theorem dX7_sleeper_5 : decode cX7_sleeper 5 = .ok (.invokevirtual 149, 3) := by decide +kernel
theorem dX7_sleeper_8 : decode cX7_sleeper 8 = .ok (.ifCond .ne 6, 3) := by decide +kernel
theorem dX7_sleeper_11 : decode cX7_sleeper 11 = .ok (.ldc 128, 2) := by decide +kernel
theorem dX7_sleeper_13 : decode cX7_sleeper 13 = .ok (.ireturn, 1) := by decide +kernel
theorem dX7_sleeper_14 : decode cX7_sleeper 14 = .ok (.iload_n 2, 1) := by decide +kernel
theorem dX7_sleeper_15 : decode cX7_sleeper 15 = .ok (.tableswitch 118 0 6 #[41, 51, 61, 71, 81, 94, 106], 41) := by decide +kernel
theorem dX7_sleeper_56 : decode cX7_sleeper 56 = .ok (.aload_n 0, 1) := by decide +kernel
theorem dX7_sleeper_57 : decode cX7_sleeper 57 = .ok (.getfield 19, 3) := by decide +kernel
theorem dX7_sleeper_60 : decode cX7_sleeper 60 = .ok (.getfield 152, 3) := by decide +kernel
theorem dX7_sleeper_63 : decode cX7_sleeper 63 = .ok (.iload_n 1, 1) := by decide +kernel
theorem dX7_sleeper_64 : decode cX7_sleeper 64 = .ok (.iaload, 1) := by decide +kernel
theorem dX7_sleeper_65 : decode cX7_sleeper 65 = .ok (.ireturn, 1) := by decide +kernel
theorem dX7_sleeper_66 : decode cX7_sleeper 66 = .ok (.aload_n 0, 1) := by decide +kernel
theorem dX7_sleeper_67 : decode cX7_sleeper 67 = .ok (.getfield 19, 3) := by decide +kernel
theorem dX7_sleeper_70 : decode cX7_sleeper 70 = .ok (.getfield 155, 3) := by decide +kernel
theorem dX7_sleeper_73 : decode cX7_sleeper 73 = .ok (.iload_n 1, 1) := by decide +kernel
theorem dX7_sleeper_74 : decode cX7_sleeper 74 = .ok (.iaload, 1) := by decide +kernel
theorem dX7_sleeper_75 : decode cX7_sleeper 75 = .ok (.ireturn, 1) := by decide +kernel
theorem dX7_sleeper_76 : decode cX7_sleeper 76 = .ok (.aload_n 0, 1) := by decide +kernel
theorem dX7_sleeper_77 : decode cX7_sleeper 77 = .ok (.getfield 19, 3) := by decide +kernel
theorem dX7_sleeper_80 : decode cX7_sleeper 80 = .ok (.getfield 158, 3) := by decide +kernel
theorem dX7_sleeper_83 : decode cX7_sleeper 83 = .ok (.iload_n 1, 1) := by decide +kernel
theorem dX7_sleeper_84 : decode cX7_sleeper 84 = .ok (.iaload, 1) := by decide +kernel
theorem dX7_sleeper_85 : decode cX7_sleeper 85 = .ok (.ireturn, 1) := by decide +kernel
theorem dX7_sleeper_86 : decode cX7_sleeper 86 = .ok (.aload_n 0, 1) := by decide +kernel
theorem dX7_sleeper_87 : decode cX7_sleeper 87 = .ok (.getfield 19, 3) := by decide +kernel
theorem dX7_sleeper_90 : decode cX7_sleeper 90 = .ok (.getfield 161, 3) := by decide +kernel
theorem dX7_sleeper_93 : decode cX7_sleeper 93 = .ok (.iload_n 1, 1) := by decide +kernel
theorem dX7_sleeper_94 : decode cX7_sleeper 94 = .ok (.iaload, 1) := by decide +kernel
theorem dX7_sleeper_95 : decode cX7_sleeper 95 = .ok (.ireturn, 1) := by decide +kernel
theorem dX7_sleeper_96 : decode cX7_sleeper 96 = .ok (.aload_n 0, 1) := by decide +kernel
theorem dX7_sleeper_97 : decode cX7_sleeper 97 = .ok (.getfield 28, 3) := by decide +kernel
theorem dX7_sleeper_100 : decode cX7_sleeper 100 = .ok (.getfield 100, 3) := by decide +kernel
theorem dX7_sleeper_103 : decode cX7_sleeper 103 = .ok (.getfield 164, 3) := by decide +kernel
theorem dX7_sleeper_106 : decode cX7_sleeper 106 = .ok (.iload_n 1, 1) := by decide +kernel
theorem dX7_sleeper_107 : decode cX7_sleeper 107 = .ok (.iaload, 1) := by decide +kernel
theorem dX7_sleeper_108 : decode cX7_sleeper 108 = .ok (.ireturn, 1) := by decide +kernel
theorem dX7_sleeper_109 : decode cX7_sleeper 109 = .ok (.aload_n 0, 1) := by decide +kernel
theorem dX7_sleeper_110 : decode cX7_sleeper 110 = .ok (.getfield 28, 3) := by decide +kernel
theorem dX7_sleeper_113 : decode cX7_sleeper 113 = .ok (.getfield 100, 3) := by decide +kernel
theorem dX7_sleeper_116 : decode cX7_sleeper 116 = .ok (.iload_n 1, 1) := by decide +kernel
theorem dX7_sleeper_117 : decode cX7_sleeper 117 = .ok (.invokevirtual 167, 3) := by decide +kernel
theorem dX7_sleeper_120 : decode cX7_sleeper 120 = .ok (.ireturn, 1) := by decide +kernel
theorem dX7_sleeper_121 : decode cX7_sleeper 121 = .ok (.aload_n 0, 1) := by decide +kernel
theorem dX7_sleeper_122 : decode cX7_sleeper 122 = .ok (.getfield 28, 3) := by decide +kernel
theorem dX7_sleeper_125 : decode cX7_sleeper 125 = .ok (.getfield 100, 3) := by decide +kernel
theorem dX7_sleeper_128 : decode cX7_sleeper 128 = .ok (.iload_n 1, 1) := by decide +kernel
theorem dX7_sleeper_129 : decode cX7_sleeper 129 = .ok (.invokevirtual 170, 3) := by decide +kernel
theorem dX7_sleeper_132 : decode cX7_sleeper 132 = .ok (.ireturn, 1) := by decide +kernel
theorem dX7_sleeper_133 : decode cX7_sleeper 133 = .ok (.ldc 59, 2) := by decide +kernel
theorem dX7_sleeper_135 : decode cX7_sleeper 135 = .ok (.ireturn, 1) := by decide +kernel
theorem dX7_shift_0 : decode cX7_shift 0 = .ok (.aload_n 0, 1) := by decide +kernel
theorem dX7_shift_1 : decode cX7_shift 1 = .ok (.getfield 19, 3) := by decide +kernel
theorem dX7_shift_4 : decode cX7_shift 4 = .ok (.iload_n 1, 1) := by decide +kernel
theorem dX7_shift_5 : decode cX7_shift 5 = .ok (.invokevirtual 149, 3) := by decide +kernel
theorem dX7_shift_8 : decode cX7_shift 8 = .ok (.ifCond .ne 6, 3) := by decide +kernel
theorem dX7_shift_11 : decode cX7_shift 11 = .ok (.ldc 128, 2) := by decide +kernel
theorem dX7_shift_13 : decode cX7_shift 13 = .ok (.ireturn, 1) := by decide +kernel
theorem dX7_shift_14 : decode cX7_shift 14 = .ok (.iload_n 2, 1) := by decide +kernel
theorem dX7_shift_15 : decode cX7_shift 15 = .ok (.ifCond .lt 24, 3) := by decide +kernel
theorem dX7_shift_18 : decode cX7_shift 18 = .ok (.iload_n 2, 1) := by decide +kernel
theorem dX7_shift_19 : decode cX7_shift 19 = .ok (.aload_n 0, 1) := by decide +kernel
theorem dX7_shift_20 : decode cX7_shift 20 = .ok (.getfield 19, 3) := by decide +kernel
theorem dX7_shift_23 : decode cX7_shift 23 = .ok (.getfield 136, 3) := by decide +kernel
theorem dX7_shift_26 : decode cX7_shift 26 = .ok (.aload_n 0, 1) := by decide +kernel
theorem dX7_shift_27 : decode cX7_shift 27 = .ok (.getfield 19, 3) := by decide +kernel
theorem dX7_shift_30 : decode cX7_shift 30 = .ok (.getfield 152, 3) := by decide +kernel
theorem dX7_shift_33 : decode cX7_shift 33 = .ok (.iload_n 1, 1) := by decide +kernel
theorem dX7_shift_34 : decode cX7_shift 34 = .ok (.iaload, 1) := by decide +kernel
theorem dX7_shift_35 : decode cX7_shift 35 = .ok (.iaload, 1) := by decide +kernel
theorem dX7_shift_36 : decode cX7_shift 36 = .ok (.if_icmp .le 6, 3) := by decide +kernel
theorem dX7_shift_39 : decode cX7_shift 39 = .ok (.ldc 59, 2) := by decide +kernel
theorem dX7_shift_41 : decode cX7_shift 41 = .ok (.ireturn, 1) := by decide +kernel
theorem dX7_shift_42 : decode cX7_shift 42 = .ok (.aload_n 0, 1) := by decide +kernel
theorem dX7_shift_43 : decode cX7_shift 43 = .ok (.getfield 28, 3) := by decide +kernel
theorem dX7_shift_46 : decode cX7_shift 46 = .ok (.getfield 100, 3) := by decide +kernel
theorem dX7_shift_49 : decode cX7_shift 49 = .ok (.getfield 164, 3) := by decide +kernel
theorem dX7_shift_52 : decode cX7_shift 52 = .ok (.iload_n 1, 1) := by decide +kernel
theorem dX7_shift_53 : decode cX7_shift 53 = .ok (.iaload, 1) := by decide +kernel
theorem dX7_shift_54 : decode cX7_shift 54 = .ok (.istore_n 3, 1) := by decide +kernel
theorem dX7_shift_55 : decode cX7_shift 55 = .ok (.aload_n 0, 1) := by decide +kernel
theorem dX7_shift_56 : decode cX7_shift 56 = .ok (.getfield 28, 3) := by decide +kernel
theorem dX7_shift_59 : decode cX7_shift 59 = .ok (.getfield 100, 3) := by decide +kernel
theorem dX7_shift_62 : decode cX7_shift 62 = .ok (.iload_n 1, 1) := by decide +kernel
theorem dX7_shift_63 : decode cX7_shift 63 = .ok (.iload_n 2, 1) := by decide +kernel
theorem dX7_shift_64 : decode cX7_shift 64 = .ok (.invokevirtual 173, 3) := by decide +kernel
theorem dX7_shift_67 : decode cX7_shift 67 = .ok (.iload_n 3, 1) := by decide +kernel
theorem dX7_shift_68 : decode cX7_shift 68 = .ok (.ireturn, 1) := by decide +kernel
theorem dX7_noise_0 : decode cX7_noise 0 = .ok (.aload_n 0, 1) := by decide +kernel
theorem dX7_noise_1 : decode cX7_noise 1 = .ok (.getfield 19, 3) := by decide +kernel
theorem dX7_noise_4 : decode cX7_noise 4 = .ok (.iload_n 1, 1) := by decide +kernel
theorem dX7_noise_5 : decode cX7_noise 5 = .ok (.invokevirtual 124, 3) := by decide +kernel
theorem dX7_noise_8 : decode cX7_noise 8 = .ok (.ifCond .ne 6, 3) := by decide +kernel
theorem dX7_noise_11 : decode cX7_noise 11 = .ok (.ldc 128, 2) := by decide +kernel
theorem dX7_noise_13 : decode cX7_noise 13 = .ok (.ireturn, 1) := by decide +kernel
theorem dX7_noise_14 : decode cX7_noise 14 = .ok (.iload_n 2, 1) := by decide +kernel
theorem dX7_noise_15 : decode cX7_noise 15 = .ok (.ifCond .lt 20, 3) := by decide +kernel
theorem dX7_noise_18 : decode cX7_noise 18 = .ok (.iload_n 2, 1) := by decide +kernel
theorem dX7_noise_19 : decode cX7_noise 19 = .ok (.sipush 700, 3) := by decide +kernel
theorem dX7_noise_22 : decode cX7_noise 22 = .ok (.if_icmp .gt 13, 3) := by decide +kernel
theorem dX7_noise_25 : decode cX7_noise 25 = .ok (.iload_n 3, 1) := by decide +kernel
theorem dX7_noise_26 : decode cX7_noise 26 = .ok (.ifCond .lt 9, 3) := by decide +kernel
theorem dX7_noise_29 : decode cX7_noise 29 = .ok (.iload_n 3, 1) := by decide +kernel
theorem dX7_noise_30 : decode cX7_noise 30 = .ok (.bipush 9, 2) := by decide +kernel
theorem dX7_noise_32 : decode cX7_noise 32 = .ok (.if_icmp .le 6, 3) := by decide +kernel
theorem dX7_noise_35 : decode cX7_noise 35 = .ok (.ldc 59, 2) := by decide +kernel
theorem dX7_noise_37 : decode cX7_noise 37 = .ok (.ireturn, 1) := by decide +kernel
theorem dX7_noise_38 : decode cX7_noise 38 = .ok (.aload_n 0, 1) := by decide +kernel
theorem dX7_noise_39 : decode cX7_noise 39 = .ok (.getfield 28, 3) := by decide +kernel
theorem dX7_noise_42 : decode cX7_noise 42 = .ok (.getfield 100, 3) := by decide +kernel
theorem dX7_noise_45 : decode cX7_noise 45 = .ok (.invokevirtual 177, 3) := by decide +kernel
theorem dX7_noise_48 : decode cX7_noise 48 = .ok (.ifCond .eq 7, 3) := by decide +kernel
theorem dX7_noise_51 : decode cX7_noise 51 = .ok (.iconst 1, 1) := by decide +kernel
theorem dX7_noise_52 : decode cX7_noise 52 = .ok (.goto 4, 3) := by decide +kernel
theorem dX7_noise_55 : decode cX7_noise 55 = .ok (.iconst 0, 1) := by decide +kernel
theorem dX7_noise_56 : decode cX7_noise 56 = .ok (.istore 4, 2) := by decide +kernel
theorem dX7_noise_58 : decode cX7_noise 58 = .ok (.aload_n 0, 1) := by decide +kernel
theorem dX7_noise_59 : decode cX7_noise 59 = .ok (.getfield 28, 3) := by decide +kernel
theorem dX7_noise_62 : decode cX7_noise 62 = .ok (.getfield 100, 3) := by decide +kernel
theorem dX7_noise_65 : decode cX7_noise 65 = .ok (.iload_n 1, 1) := by decide +kernel
theorem dX7_noise_66 : decode cX7_noise 66 = .ok (.iload_n 2, 1) := by decide +kernel
theorem dX7_noise_67 : decode cX7_noise 67 = .ok (.iload_n 3, 1) := by decide +kernel
theorem dX7_noise_68 : decode cX7_noise 68 = .ok (.invokevirtual 181, 3) := by decide +kernel
theorem dX7_noise_71 : decode cX7_noise 71 = .ok (.iload 4, 2) := by decide +kernel
theorem dX7_noise_73 : decode cX7_noise 73 = .ok (.ireturn, 1) := by decide +kernel
theorem dX7_hush_0 : decode cX7_hush 0 = .ok (.aload_n 0, 1) := by decide +kernel
theorem dX7_hush_1 : decode cX7_hush 1 = .ok (.getfield 28, 3) := by decide +kernel
theorem dX7_hush_4 : decode cX7_hush 4 = .ok (.getfield 100, 3) := by decide +kernel
theorem dX7_hush_7 : decode cX7_hush 7 = .ok (.invokevirtual 177, 3) := by decide +kernel
theorem dX7_hush_10 : decode cX7_hush 10 = .ok (.ifCond .eq 7, 3) := by decide +kernel
theorem dX7_hush_13 : decode cX7_hush 13 = .ok (.iconst 1, 1) := by decide +kernel
theorem dX7_hush_14 : decode cX7_hush 14 = .ok (.goto 4, 3) := by decide +kernel
theorem dX7_hush_17 : decode cX7_hush 17 = .ok (.iconst 0, 1) := by decide +kernel
theorem dX7_hush_18 : decode cX7_hush 18 = .ok (.istore_n 1, 1) := by decide +kernel
theorem dX7_hush_19 : decode cX7_hush 19 = .ok (.aload_n 0, 1) := by decide +kernel
theorem dX7_hush_20 : decode cX7_hush 20 = .ok (.getfield 28, 3) := by decide +kernel
theorem dX7_hush_23 : decode cX7_hush 23 = .ok (.getfield 100, 3) := by decide +kernel
theorem dX7_hush_26 : decode cX7_hush 26 = .ok (.iconst (-1), 1) := by decide +kernel
theorem dX7_hush_27 : decode cX7_hush 27 = .ok (.iconst (-1), 1) := by decide +kernel
theorem dX7_hush_28 : decode cX7_hush 28 = .ok (.iconst (-1), 1) := by decide +kernel
theorem dX7_hush_29 : decode cX7_hush 29 = .ok (.invokevirtual 181, 3) := by decide +kernel
theorem dX7_hush_32 : decode cX7_hush 32 = .ok (.iload_n 1, 1) := by decide +kernel
theorem dX7_hush_33 : decode cX7_hush 33 = .ok (.ireturn, 1) := by decide +kernel
theorem dX7_law_0 : decode cX7_law 0 = .ok (.iload_n 1, 1) := by decide +kernel
theorem dX7_law_1 : decode cX7_law 1 = .ok (.ifCond .lt 8, 3) := by decide +kernel
theorem dX7_law_4 : decode cX7_law 4 = .ok (.iload_n 1, 1) := by decide +kernel
theorem dX7_law_5 : decode cX7_law 5 = .ok (.iconst 2, 1) := by decide +kernel
theorem dX7_law_6 : decode cX7_law 6 = .ok (.if_icmp .le 6, 3) := by decide +kernel
theorem dX7_law_9 : decode cX7_law 9 = .ok (.ldc 59, 2) := by decide +kernel
theorem dX7_law_11 : decode cX7_law 11 = .ok (.ireturn, 1) := by decide +kernel
theorem dX7_law_12 : decode cX7_law 12 = .ok (.aload_n 0, 1) := by decide +kernel
theorem dX7_law_13 : decode cX7_law 13 = .ok (.getfield 28, 3) := by decide +kernel
theorem dX7_law_16 : decode cX7_law 16 = .ok (.getfield 100, 3) := by decide +kernel
theorem dX7_law_19 : decode cX7_law 19 = .ok (.getfield 104, 3) := by decide +kernel
theorem dX7_law_22 : decode cX7_law 22 = .ok (.istore_n 2, 1) := by decide +kernel
theorem dX7_law_23 : decode cX7_law 23 = .ok (.aload_n 0, 1) := by decide +kernel
theorem dX7_law_24 : decode cX7_law 24 = .ok (.getfield 28, 3) := by decide +kernel
theorem dX7_law_27 : decode cX7_law 27 = .ok (.getfield 100, 3) := by decide +kernel
theorem dX7_law_30 : decode cX7_law 30 = .ok (.iload_n 1, 1) := by decide +kernel
theorem dX7_law_31 : decode cX7_law 31 = .ok (.putfield 104, 3) := by decide +kernel
theorem dX7_law_34 : decode cX7_law 34 = .ok (.iload_n 2, 1) := by decide +kernel
theorem dX7_law_35 : decode cX7_law 35 = .ok (.ireturn, 1) := by decide +kernel
theorem dX7_dawn_0 : decode cX7_dawn 0 = .ok (.iload_n 1, 1) := by decide +kernel
theorem dX7_dawn_1 : decode cX7_dawn 1 = .ok (.iconst 1, 1) := by decide +kernel
theorem dX7_dawn_2 : decode cX7_dawn 2 = .ok (.if_icmp .lt 9, 3) := by decide +kernel
theorem dX7_dawn_5 : decode cX7_dawn 5 = .ok (.iload_n 1, 1) := by decide +kernel
theorem dX7_dawn_6 : decode cX7_dawn 6 = .ok (.bipush 99, 2) := by decide +kernel
theorem dX7_dawn_8 : decode cX7_dawn 8 = .ok (.if_icmp .le 6, 3) := by decide +kernel
theorem dX7_dawn_11 : decode cX7_dawn 11 = .ok (.ldc 59, 2) := by decide +kernel
theorem dX7_dawn_13 : decode cX7_dawn 13 = .ok (.ireturn, 1) := by decide +kernel
theorem dX7_dawn_14 : decode cX7_dawn 14 = .ok (.aload_n 0, 1) := by decide +kernel
theorem dX7_dawn_15 : decode cX7_dawn 15 = .ok (.getfield 19, 3) := by decide +kernel
theorem dX7_dawn_18 : decode cX7_dawn 18 = .ok (.getfield 88, 3) := by decide +kernel
theorem dX7_dawn_21 : decode cX7_dawn 21 = .ok (.ifCond .ne 6, 3) := by decide +kernel
theorem dX7_dawn_24 : decode cX7_dawn 24 = .ok (.ldc 185, 2) := by decide +kernel
theorem dX7_dawn_26 : decode cX7_dawn 26 = .ok (.ireturn, 1) := by decide +kernel
theorem dX7_dawn_27 : decode cX7_dawn 27 = .ok (.iconst (-1), 1) := by decide +kernel
theorem dX7_dawn_28 : decode cX7_dawn 28 = .ok (.istore_n 2, 1) := by decide +kernel
theorem dX7_dawn_29 : decode cX7_dawn 29 = .ok (.iconst 0, 1) := by decide +kernel
theorem dX7_dawn_30 : decode cX7_dawn 30 = .ok (.istore_n 3, 1) := by decide +kernel
theorem dX7_dawn_31 : decode cX7_dawn 31 = .ok (.iload_n 3, 1) := by decide +kernel
theorem dX7_dawn_32 : decode cX7_dawn 32 = .ok (.iload_n 1, 1) := by decide +kernel
theorem dX7_dawn_33 : decode cX7_dawn 33 = .ok (.if_icmp .ge 17, 3) := by decide +kernel
theorem dX7_dawn_36 : decode cX7_dawn 36 = .ok (.aload_n 0, 1) := by decide +kernel
theorem dX7_dawn_37 : decode cX7_dawn 37 = .ok (.getfield 28, 3) := by decide +kernel
theorem dX7_dawn_40 : decode cX7_dawn 40 = .ok (.invokevirtual 186, 3) := by decide +kernel
theorem dX7_dawn_43 : decode cX7_dawn 43 = .ok (.istore_n 2, 1) := by decide +kernel
theorem dX7_dawn_44 : decode cX7_dawn 44 = .ok (.iinc 3 1, 3) := by decide +kernel
theorem dX7_dawn_47 : decode cX7_dawn 47 = .ok (.goto (-16), 3) := by decide +kernel
theorem dX7_dawn_50 : decode cX7_dawn 50 = .ok (.iload_n 2, 1) := by decide +kernel
theorem dX7_dawn_51 : decode cX7_dawn 51 = .ok (.ireturn, 1) := by decide +kernel
theorem dX7_ruler_0 : decode cX7_ruler 0 = .ok (.iload_n 2, 1) := by decide +kernel
theorem dX7_ruler_1 : decode cX7_ruler 1 = .ok (.ifCond .lt 8, 3) := by decide +kernel
theorem dX7_ruler_4 : decode cX7_ruler 4 = .ok (.iload_n 2, 1) := by decide +kernel
theorem dX7_ruler_5 : decode cX7_ruler 5 = .ok (.iconst 1, 1) := by decide +kernel
theorem dX7_ruler_6 : decode cX7_ruler 6 = .ok (.if_icmp .le 6, 3) := by decide +kernel
theorem dX7_ruler_9 : decode cX7_ruler 9 = .ok (.ldc 59, 2) := by decide +kernel
theorem dX7_ruler_11 : decode cX7_ruler 11 = .ok (.ireturn, 1) := by decide +kernel
theorem dX7_ruler_12 : decode cX7_ruler 12 = .ok (.iload_n 1, 1) := by decide +kernel
theorem dX7_ruler_13 : decode cX7_ruler 13 = .ok (.ifCond .lt 14, 3) := by decide +kernel
theorem dX7_ruler_16 : decode cX7_ruler 16 = .ok (.iload_n 1, 1) := by decide +kernel
theorem dX7_ruler_17 : decode cX7_ruler 17 = .ok (.aload_n 0, 1) := by decide +kernel
theorem dX7_ruler_18 : decode cX7_ruler 18 = .ok (.getfield 28, 3) := by decide +kernel
theorem dX7_ruler_21 : decode cX7_ruler 21 = .ok (.getfield 118, 3) := by decide +kernel
theorem dX7_ruler_24 : decode cX7_ruler 24 = .ok (.if_icmp .lt 5, 3) := by decide +kernel
theorem dX7_ruler_27 : decode cX7_ruler 27 = .ok (.iconst (-1), 1) := by decide +kernel
theorem dX7_ruler_28 : decode cX7_ruler 28 = .ok (.ireturn, 1) := by decide +kernel
theorem dX7_ruler_29 : decode cX7_ruler 29 = .ok (.iload_n 2, 1) := by decide +kernel
theorem dX7_ruler_30 : decode cX7_ruler 30 = .ok (.ifCond .ne 15, 3) := by decide +kernel
theorem dX7_ruler_33 : decode cX7_ruler 33 = .ok (.aload_n 0, 1) := by decide +kernel
theorem dX7_ruler_34 : decode cX7_ruler 34 = .ok (.getfield 28, 3) := by decide +kernel
theorem dX7_ruler_37 : decode cX7_ruler 37 = .ok (.getfield 189, 3) := by decide +kernel
theorem dX7_ruler_40 : decode cX7_ruler 40 = .ok (.iload_n 1, 1) := by decide +kernel
theorem dX7_ruler_41 : decode cX7_ruler 41 = .ok (.iaload, 1) := by decide +kernel
theorem dX7_ruler_42 : decode cX7_ruler 42 = .ok (.goto 12, 3) := by decide +kernel
theorem dX7_ruler_45 : decode cX7_ruler 45 = .ok (.aload_n 0, 1) := by decide +kernel
theorem dX7_ruler_46 : decode cX7_ruler 46 = .ok (.getfield 28, 3) := by decide +kernel
theorem dX7_ruler_49 : decode cX7_ruler 49 = .ok (.getfield 192, 3) := by decide +kernel
theorem dX7_ruler_52 : decode cX7_ruler 52 = .ok (.iload_n 1, 1) := by decide +kernel
theorem dX7_ruler_53 : decode cX7_ruler 53 = .ok (.iaload, 1) := by decide +kernel
theorem dX7_ruler_54 : decode cX7_ruler 54 = .ok (.ireturn, 1) := by decide +kernel
theorem dX7_odds_0 : decode cX7_odds 0 = .ok (.aload_n 0, 1) := by decide +kernel
theorem dX7_odds_1 : decode cX7_odds 1 = .ok (.getfield 19, 3) := by decide +kernel
theorem dX7_odds_4 : decode cX7_odds 4 = .ok (.iload_n 1, 1) := by decide +kernel
theorem dX7_odds_5 : decode cX7_odds 5 = .ok (.invokevirtual 149, 3) := by decide +kernel
theorem dX7_odds_8 : decode cX7_odds 8 = .ok (.ifCond .eq 17, 3) := by decide +kernel
theorem dX7_odds_11 : decode cX7_odds 11 = .ok (.aload_n 0, 1) := by decide +kernel
theorem dX7_odds_12 : decode cX7_odds 12 = .ok (.getfield 28, 3) := by decide +kernel
theorem dX7_odds_15 : decode cX7_odds 15 = .ok (.getfield 100, 3) := by decide +kernel
theorem dX7_odds_18 : decode cX7_odds 18 = .ok (.iload_n 1, 1) := by decide +kernel
theorem dX7_odds_19 : decode cX7_odds 19 = .ok (.invokevirtual 195, 3) := by decide +kernel
theorem dX7_odds_22 : decode cX7_odds 22 = .ok (.goto 5, 3) := by decide +kernel
theorem dX7_odds_25 : decode cX7_odds 25 = .ok (.ldc 128, 2) := by decide +kernel
theorem dX7_odds_27 : decode cX7_odds 27 = .ok (.ireturn, 1) := by decide +kernel
theorem dX7_together_0 : decode cX7_together 0 = .ok (.iload_n 1, 1) := by decide +kernel
theorem dX7_together_1 : decode cX7_together 1 = .ok (.ifCond .lt 20, 3) := by decide +kernel
theorem dX7_together_4 : decode cX7_together 4 = .ok (.iload_n 1, 1) := by decide +kernel
theorem dX7_together_5 : decode cX7_together 5 = .ok (.iconst 1, 1) := by decide +kernel
theorem dX7_together_6 : decode cX7_together 6 = .ok (.aload_n 0, 1) := by decide +kernel
theorem dX7_together_7 : decode cX7_together 7 = .ok (.getfield 19, 3) := by decide +kernel
theorem dX7_together_10 : decode cX7_together 10 = .ok (.getfield 94, 3) := by decide +kernel
theorem dX7_together_13 : decode cX7_together 13 = .ok (.ishl, 1) := by decide +kernel
theorem dX7_together_14 : decode cX7_together 14 = .ok (.if_icmp .ge 7, 3) := by decide +kernel
theorem dX7_together_17 : decode cX7_together 17 = .ok (.iconst 1, 1) := by decide +kernel
theorem dX7_together_18 : decode cX7_together 18 = .ok (.goto 4, 3) := by decide +kernel
theorem dX7_together_21 : decode cX7_together 21 = .ok (.iconst 0, 1) := by decide +kernel
theorem dX7_together_22 : decode cX7_together 22 = .ok (.istore_n 2, 1) := by decide +kernel
theorem dX7_together_23 : decode cX7_together 23 = .ok (.iload_n 2, 1) := by decide +kernel
theorem dX7_together_24 : decode cX7_together 24 = .ok (.ifCond .eq 17, 3) := by decide +kernel
theorem dX7_together_27 : decode cX7_together 27 = .ok (.aload_n 0, 1) := by decide +kernel
theorem dX7_together_28 : decode cX7_together 28 = .ok (.getfield 28, 3) := by decide +kernel
theorem dX7_together_31 : decode cX7_together 31 = .ok (.getfield 100, 3) := by decide +kernel
theorem dX7_together_34 : decode cX7_together 34 = .ok (.iload_n 1, 1) := by decide +kernel
theorem dX7_together_35 : decode cX7_together 35 = .ok (.invokevirtual 198, 3) := by decide +kernel
theorem dX7_together_38 : decode cX7_together 38 = .ok (.goto 5, 3) := by decide +kernel
theorem dX7_together_41 : decode cX7_together 41 = .ok (.ldc 128, 2) := by decide +kernel
theorem dX7_together_43 : decode cX7_together 43 = .ok (.ireturn, 1) := by decide +kernel
theorem dX7_best_0 : decode cX7_best 0 = .ok (.aload_n 0, 1) := by decide +kernel
theorem dX7_best_1 : decode cX7_best 1 = .ok (.getfield 19, 3) := by decide +kernel
theorem dX7_best_4 : decode cX7_best 4 = .ok (.iload_n 1, 1) := by decide +kernel
theorem dX7_best_5 : decode cX7_best 5 = .ok (.invokevirtual 124, 3) := by decide +kernel
theorem dX7_best_8 : decode cX7_best 8 = .ok (.ifCond .ne 6, 3) := by decide +kernel
theorem dX7_best_11 : decode cX7_best 11 = .ok (.ldc 128, 2) := by decide +kernel
theorem dX7_best_13 : decode cX7_best 13 = .ok (.ireturn, 1) := by decide +kernel
theorem dX7_best_14 : decode cX7_best 14 = .ok (.iload_n 2, 1) := by decide +kernel
theorem dX7_best_15 : decode cX7_best 15 = .ok (.ifCond .lt 8, 3) := by decide +kernel
theorem dX7_best_18 : decode cX7_best 18 = .ok (.iload_n 2, 1) := by decide +kernel
theorem dX7_best_19 : decode cX7_best 19 = .ok (.iconst 1, 1) := by decide +kernel
theorem dX7_best_20 : decode cX7_best 20 = .ok (.if_icmp .le 6, 3) := by decide +kernel
theorem dX7_best_23 : decode cX7_best 23 = .ok (.ldc 59, 2) := by decide +kernel
theorem dX7_best_25 : decode cX7_best 25 = .ok (.ireturn, 1) := by decide +kernel
theorem dX7_best_26 : decode cX7_best 26 = .ok (.aload_n 0, 1) := by decide +kernel
theorem dX7_best_27 : decode cX7_best 27 = .ok (.getfield 19, 3) := by decide +kernel
theorem dX7_best_30 : decode cX7_best 30 = .ok (.iload_n 1, 1) := by decide +kernel
theorem dX7_best_31 : decode cX7_best 31 = .ok (.invokevirtual 145, 3) := by decide +kernel
theorem dX7_best_34 : decode cX7_best 34 = .ok (.ifCond .ne 6, 3) := by decide +kernel
theorem dX7_best_37 : decode cX7_best 37 = .ok (.ldc 185, 2) := by decide +kernel
theorem dX7_best_39 : decode cX7_best 39 = .ok (.ireturn, 1) := by decide +kernel
theorem dX7_best_40 : decode cX7_best 40 = .ok (.aload_n 0, 1) := by decide +kernel
theorem dX7_best_41 : decode cX7_best 41 = .ok (.getfield 48, 3) := by decide +kernel
theorem dX7_best_44 : decode cX7_best 44 = .ok (.aload_n 0, 1) := by decide +kernel
theorem dX7_best_45 : decode cX7_best 45 = .ok (.getfield 28, 3) := by decide +kernel
theorem dX7_best_48 : decode cX7_best 48 = .ok (.getfield 100, 3) := by decide +kernel
theorem dX7_best_51 : decode cX7_best 51 = .ok (.iload_n 1, 1) := by decide +kernel
theorem dX7_best_52 : decode cX7_best 52 = .ok (.invokevirtual 201, 3) := by decide +kernel
theorem dX7_best_55 : decode cX7_best 55 = .ok (.iload_n 2, 1) := by decide +kernel
theorem dX7_best_56 : decode cX7_best 56 = .ok (.ifCond .ne 13, 3) := by decide +kernel
theorem dX7_best_59 : decode cX7_best 59 = .ok (.aload_n 0, 1) := by decide +kernel
theorem dX7_best_60 : decode cX7_best 60 = .ok (.getfield 48, 3) := by decide +kernel
theorem dX7_best_63 : decode cX7_best 63 = .ok (.getfield 205, 3) := by decide +kernel
theorem dX7_best_66 : decode cX7_best 66 = .ok (.goto 10, 3) := by decide +kernel
theorem dX7_best_69 : decode cX7_best 69 = .ok (.aload_n 0, 1) := by decide +kernel
theorem dX7_best_70 : decode cX7_best 70 = .ok (.getfield 48, 3) := by decide +kernel
theorem dX7_best_73 : decode cX7_best 73 = .ok (.getfield 208, 3) := by decide +kernel
theorem dX7_best_76 : decode cX7_best 76 = .ok (.ireturn, 1) := by decide +kernel
theorem dX7_rests_0 : decode cX7_rests 0 = .ok (.iload_n 1, 1) := by decide +kernel
theorem dX7_rests_1 : decode cX7_rests 1 = .ok (.iconst (-1), 1) := by decide +kernel
theorem dX7_rests_2 : decode cX7_rests 2 = .ok (.if_icmp .eq 17, 3) := by decide +kernel
theorem dX7_rests_5 : decode cX7_rests 5 = .ok (.aload_n 0, 1) := by decide +kernel
theorem dX7_rests_6 : decode cX7_rests 6 = .ok (.getfield 19, 3) := by decide +kernel
theorem dX7_rests_9 : decode cX7_rests 9 = .ok (.iload_n 1, 1) := by decide +kernel
theorem dX7_rests_10 : decode cX7_rests 10 = .ok (.invokevirtual 124, 3) := by decide +kernel
theorem dX7_rests_13 : decode cX7_rests 13 = .ok (.ifCond .ne 6, 3) := by decide +kernel
theorem dX7_rests_16 : decode cX7_rests 16 = .ok (.ldc 128, 2) := by decide +kernel
theorem dX7_rests_18 : decode cX7_rests 18 = .ok (.ireturn, 1) := by decide +kernel
theorem dX7_rests_19 : decode cX7_rests 19 = .ok (.aload_n 0, 1) := by decide +kernel
theorem dX7_rests_20 : decode cX7_rests 20 = .ok (.getfield 48, 3) := by decide +kernel
theorem dX7_rests_23 : decode cX7_rests 23 = .ok (.aload_n 0, 1) := by decide +kernel
theorem dX7_rests_24 : decode cX7_rests 24 = .ok (.getfield 28, 3) := by decide +kernel
theorem dX7_rests_27 : decode cX7_rests 27 = .ok (.getfield 100, 3) := by decide +kernel
theorem dX7_rests_30 : decode cX7_rests 30 = .ok (.invokevirtual 211, 3) := by decide +kernel
theorem dX7_rests_33 : decode cX7_rests 33 = .ok (.istore_n 2, 1) := by decide +kernel
theorem dX7_rests_34 : decode cX7_rests 34 = .ok (.iload_n 1, 1) := by decide +kernel
theorem dX7_rests_35 : decode cX7_rests 35 = .ok (.iconst (-1), 1) := by decide +kernel
theorem dX7_rests_36 : decode cX7_rests 36 = .ok (.if_icmp .eq 8, 3) := by decide +kernel
theorem dX7_rests_39 : decode cX7_rests 39 = .ok (.iload_n 2, 1) := by decide +kernel
theorem dX7_rests_40 : decode cX7_rests 40 = .ok (.iconst (-1), 1) := by decide +kernel
theorem dX7_rests_41 : decode cX7_rests 41 = .ok (.if_icmp .ne 5, 3) := by decide +kernel
theorem dX7_rests_44 : decode cX7_rests 44 = .ok (.iload_n 2, 1) := by decide +kernel
theorem dX7_rests_45 : decode cX7_rests 45 = .ok (.ireturn, 1) := by decide +kernel
theorem dX7_rests_46 : decode cX7_rests 46 = .ok (.aload_n 0, 1) := by decide +kernel
theorem dX7_rests_47 : decode cX7_rests 47 = .ok (.getfield 48, 3) := by decide +kernel
theorem dX7_rests_50 : decode cX7_rests 50 = .ok (.iload_n 1, 1) := by decide +kernel
theorem dX7_rests_51 : decode cX7_rests 51 = .ok (.invokevirtual 215, 3) := by decide +kernel
theorem dX7_rests_54 : decode cX7_rests 54 = .ok (.ireturn, 1) := by decide +kernel
theorem dX7_loud_0 : decode cX7_loud 0 = .ok (.aload_n 0, 1) := by decide +kernel
theorem dX7_loud_1 : decode cX7_loud 1 = .ok (.getfield 19, 3) := by decide +kernel
theorem dX7_loud_4 : decode cX7_loud 4 = .ok (.iload_n 1, 1) := by decide +kernel
theorem dX7_loud_5 : decode cX7_loud 5 = .ok (.invokevirtual 124, 3) := by decide +kernel
theorem dX7_loud_8 : decode cX7_loud 8 = .ok (.ifCond .ne 6, 3) := by decide +kernel
theorem dX7_loud_11 : decode cX7_loud 11 = .ok (.ldc 128, 2) := by decide +kernel
theorem dX7_loud_13 : decode cX7_loud 13 = .ok (.ireturn, 1) := by decide +kernel
theorem dX7_loud_14 : decode cX7_loud 14 = .ok (.iload_n 2, 1) := by decide +kernel
theorem dX7_loud_15 : decode cX7_loud 15 = .ok (.ifCond .lt 8, 3) := by decide +kernel
theorem dX7_loud_18 : decode cX7_loud 18 = .ok (.iload_n 2, 1) := by decide +kernel
theorem dX7_loud_19 : decode cX7_loud 19 = .ok (.iconst 2, 1) := by decide +kernel
theorem dX7_loud_20 : decode cX7_loud 20 = .ok (.if_icmp .le 6, 3) := by decide +kernel
theorem dX7_loud_23 : decode cX7_loud 23 = .ok (.ldc 59, 2) := by decide +kernel
theorem dX7_loud_25 : decode cX7_loud 25 = .ok (.ireturn, 1) := by decide +kernel
theorem dX7_loud_26 : decode cX7_loud 26 = .ok (.iload_n 2, 1) := by decide +kernel
theorem dX7_loud_27 : decode cX7_loud 27 = .ok (.ifCond .ne 6, 3) := by decide +kernel
theorem dX7_loud_30 : decode cX7_loud 30 = .ok (.bipush 60, 2) := by decide +kernel
theorem dX7_loud_32 : decode cX7_loud 32 = .ok (.ireturn, 1) := by decide +kernel
theorem dX7_loud_33 : decode cX7_loud 33 = .ok (.aload_n 0, 1) := by decide +kernel
theorem dX7_loud_34 : decode cX7_loud 34 = .ok (.getfield 48, 3) := by decide +kernel
theorem dX7_loud_37 : decode cX7_loud 37 = .ok (.aload_n 0, 1) := by decide +kernel
theorem dX7_loud_38 : decode cX7_loud 38 = .ok (.getfield 28, 3) := by decide +kernel
theorem dX7_loud_41 : decode cX7_loud 41 = .ok (.getfield 100, 3) := by decide +kernel
theorem dX7_loud_44 : decode cX7_loud 44 = .ok (.iload_n 1, 1) := by decide +kernel
theorem dX7_loud_45 : decode cX7_loud 45 = .ok (.invokevirtual 218, 3) := by decide +kernel
theorem dX7_loud_48 : decode cX7_loud 48 = .ok (.iload_n 2, 1) := by decide +kernel
theorem dX7_loud_49 : decode cX7_loud 49 = .ok (.iconst 1, 1) := by decide +kernel
theorem dX7_loud_50 : decode cX7_loud 50 = .ok (.if_icmp .ne 13, 3) := by decide +kernel
theorem dX7_loud_53 : decode cX7_loud 53 = .ok (.aload_n 0, 1) := by decide +kernel
theorem dX7_loud_54 : decode cX7_loud 54 = .ok (.getfield 48, 3) := by decide +kernel
theorem dX7_loud_57 : decode cX7_loud 57 = .ok (.getfield 221, 3) := by decide +kernel
theorem dX7_loud_60 : decode cX7_loud 60 = .ok (.goto 10, 3) := by decide +kernel
theorem dX7_loud_63 : decode cX7_loud 63 = .ok (.aload_n 0, 1) := by decide +kernel
theorem dX7_loud_64 : decode cX7_loud 64 = .ok (.getfield 48, 3) := by decide +kernel
theorem dX7_loud_67 : decode cX7_loud 67 = .ok (.getfield 208, 3) := by decide +kernel
theorem dX7_loud_70 : decode cX7_loud 70 = .ok (.ireturn, 1) := by decide +kernel
theorem dX7_work_0 : decode cX7_work 0 = .ok (.aload_n 0, 1) := by decide +kernel
theorem dX7_work_1 : decode cX7_work 1 = .ok (.getfield 19, 3) := by decide +kernel
theorem dX7_work_4 : decode cX7_work 4 = .ok (.iload_n 1, 1) := by decide +kernel
theorem dX7_work_5 : decode cX7_work 5 = .ok (.invokevirtual 124, 3) := by decide +kernel
theorem dX7_work_8 : decode cX7_work 8 = .ok (.ifCond .ne 6, 3) := by decide +kernel
theorem dX7_work_11 : decode cX7_work 11 = .ok (.ldc 128, 2) := by decide +kernel
theorem dX7_work_13 : decode cX7_work 13 = .ok (.ireturn, 1) := by decide +kernel
theorem dX7_work_14 : decode cX7_work 14 = .ok (.iload_n 2, 1) := by decide +kernel
theorem dX7_work_15 : decode cX7_work 15 = .ok (.iconst 1, 1) := by decide +kernel
theorem dX7_work_16 : decode cX7_work 16 = .ok (.if_icmp .lt 9, 3) := by decide +kernel
theorem dX7_work_19 : decode cX7_work 19 = .ok (.iload_n 2, 1) := by decide +kernel
theorem dX7_work_20 : decode cX7_work 20 = .ok (.bipush 60, 2) := by decide +kernel
theorem dX7_work_22 : decode cX7_work 22 = .ok (.if_icmp .le 6, 3) := by decide +kernel
theorem dX7_work_25 : decode cX7_work 25 = .ok (.ldc 59, 2) := by decide +kernel
theorem dX7_work_27 : decode cX7_work 27 = .ok (.ireturn, 1) := by decide +kernel
theorem dX7_work_28 : decode cX7_work 28 = .ok (.aload_n 0, 1) := by decide +kernel
theorem dX7_work_29 : decode cX7_work 29 = .ok (.iload_n 1, 1) := by decide +kernel
theorem dX7_work_30 : decode cX7_work 30 = .ok (.invokevirtual 224, 3) := by decide +kernel
theorem dX7_work_33 : decode cX7_work 33 = .ok (.iconst 0, 1) := by decide +kernel
theorem dX7_work_34 : decode cX7_work 34 = .ok (.istore_n 3, 1) := by decide +kernel
theorem dX7_work_35 : decode cX7_work 35 = .ok (.iload_n 3, 1) := by decide +kernel
theorem dX7_work_36 : decode cX7_work 36 = .ok (.iload_n 2, 1) := by decide +kernel
theorem dX7_work_37 : decode cX7_work 37 = .ok (.if_icmp .ge 16, 3) := by decide +kernel
theorem dX7_work_40 : decode cX7_work 40 = .ok (.aload_n 0, 1) := by decide +kernel
theorem dX7_work_41 : decode cX7_work 41 = .ok (.getfield 55, 3) := by decide +kernel
theorem dX7_work_44 : decode cX7_work 44 = .ok (.invokevirtual 228, 3) := by decide +kernel
theorem dX7_work_47 : decode cX7_work 47 = .ok (.iinc 3 1, 3) := by decide +kernel
theorem dX7_work_50 : decode cX7_work 50 = .ok (.goto (-15), 3) := by decide +kernel
theorem dX7_work_53 : decode cX7_work 53 = .ok (.aload_n 0, 1) := by decide +kernel
theorem dX7_work_54 : decode cX7_work 54 = .ok (.getfield 55, 3) := by decide +kernel
theorem dX7_work_57 : decode cX7_work 57 = .ok (.getfield 231, 3) := by decide +kernel
theorem dX7_work_60 : decode cX7_work 60 = .ok (.l2i, 1) := by decide +kernel
theorem dX7_work_61 : decode cX7_work 61 = .ok (.ireturn, 1) := by decide +kernel
theorem dX7_likely_0 : decode cX7_likely 0 = .ok (.aload_n 0, 1) := by decide +kernel
theorem dX7_likely_1 : decode cX7_likely 1 = .ok (.getfield 19, 3) := by decide +kernel
theorem dX7_likely_4 : decode cX7_likely 4 = .ok (.iload_n 1, 1) := by decide +kernel
theorem dX7_likely_5 : decode cX7_likely 5 = .ok (.invokevirtual 124, 3) := by decide +kernel
theorem dX7_likely_8 : decode cX7_likely 8 = .ok (.ifCond .ne 6, 3) := by decide +kernel
theorem dX7_likely_11 : decode cX7_likely 11 = .ok (.ldc 128, 2) := by decide +kernel
theorem dX7_likely_13 : decode cX7_likely 13 = .ok (.ireturn, 1) := by decide +kernel
theorem dX7_likely_14 : decode cX7_likely 14 = .ok (.iload_n 2, 1) := by decide +kernel
theorem dX7_likely_15 : decode cX7_likely 15 = .ok (.iconst 1, 1) := by decide +kernel
theorem dX7_likely_16 : decode cX7_likely 16 = .ok (.if_icmp .lt 9, 3) := by decide +kernel
theorem dX7_likely_19 : decode cX7_likely 19 = .ok (.iload_n 2, 1) := by decide +kernel
theorem dX7_likely_20 : decode cX7_likely 20 = .ok (.bipush 100, 2) := by decide +kernel
theorem dX7_likely_22 : decode cX7_likely 22 = .ok (.if_icmp .le 6, 3) := by decide +kernel
theorem dX7_likely_25 : decode cX7_likely 25 = .ok (.ldc 59, 2) := by decide +kernel
theorem dX7_likely_27 : decode cX7_likely 27 = .ok (.ireturn, 1) := by decide +kernel
theorem dX7_likely_28 : decode cX7_likely 28 = .ok (.aload_n 0, 1) := by decide +kernel
theorem dX7_likely_29 : decode cX7_likely 29 = .ok (.iload_n 1, 1) := by decide +kernel
theorem dX7_likely_30 : decode cX7_likely 30 = .ok (.invokevirtual 224, 3) := by decide +kernel
theorem dX7_likely_33 : decode cX7_likely 33 = .ok (.iconst 1, 1) := by decide +kernel
theorem dX7_likely_34 : decode cX7_likely 34 = .ok (.istore_n 3, 1) := by decide +kernel
theorem dX7_likely_35 : decode cX7_likely 35 = .ok (.iload_n 3, 1) := by decide +kernel
theorem dX7_likely_36 : decode cX7_likely 36 = .ok (.bipush 60, 2) := by decide +kernel
theorem dX7_likely_38 : decode cX7_likely 38 = .ok (.if_icmp .gt 39, 3) := by decide +kernel
theorem dX7_likely_41 : decode cX7_likely 41 = .ok (.aload_n 0, 1) := by decide +kernel
theorem dX7_likely_42 : decode cX7_likely 42 = .ok (.getfield 55, 3) := by decide +kernel
theorem dX7_likely_45 : decode cX7_likely 45 = .ok (.invokevirtual 228, 3) := by decide +kernel
theorem dX7_likely_48 : decode cX7_likely 48 = .ok (.aload_n 0, 1) := by decide +kernel
theorem dX7_likely_49 : decode cX7_likely 49 = .ok (.getfield 55, 3) := by decide +kernel
theorem dX7_likely_52 : decode cX7_likely 52 = .ok (.getfield 231, 3) := by decide +kernel
theorem dX7_likely_55 : decode cX7_likely 55 = .ok (.ldc2_w 234, 3) := by decide +kernel
theorem dX7_likely_58 : decode cX7_likely 58 = .ok (.lmul, 1) := by decide +kernel
theorem dX7_likely_59 : decode cX7_likely 59 = .ok (.iload_n 2, 1) := by decide +kernel
theorem dX7_likely_60 : decode cX7_likely 60 = .ok (.i2l, 1) := by decide +kernel
theorem dX7_likely_61 : decode cX7_likely 61 = .ok (.ldc2_w 236, 3) := by decide +kernel
theorem dX7_likely_64 : decode cX7_likely 64 = .ok (.lmul, 1) := by decide +kernel
theorem dX7_likely_65 : decode cX7_likely 65 = .ok (.lcmp, 1) := by decide +kernel
theorem dX7_likely_66 : decode cX7_likely 66 = .ok (.ifCond .lt 5, 3) := by decide +kernel
theorem dX7_likely_69 : decode cX7_likely 69 = .ok (.iload_n 3, 1) := by decide +kernel
theorem dX7_likely_70 : decode cX7_likely 70 = .ok (.ireturn, 1) := by decide +kernel
theorem dX7_likely_71 : decode cX7_likely 71 = .ok (.iinc 3 1, 3) := by decide +kernel
theorem dX7_likely_74 : decode cX7_likely 74 = .ok (.goto (-39), 3) := by decide +kernel
theorem dX7_likely_77 : decode cX7_likely 77 = .ok (.iconst (-1), 1) := by decide +kernel
theorem dX7_likely_78 : decode cX7_likely 78 = .ok (.ireturn, 1) := by decide +kernel
theorem dX7_lookAhead_0 : decode cX7_lookAhead 0 = .ok (.aload_n 0, 1) := by decide +kernel
theorem dX7_lookAhead_1 : decode cX7_lookAhead 1 = .ok (.getfield 55, 3) := by decide +kernel
theorem dX7_lookAhead_4 : decode cX7_lookAhead 4 = .ok (.aload_n 0, 1) := by decide +kernel
theorem dX7_lookAhead_5 : decode cX7_lookAhead 5 = .ok (.getfield 19, 3) := by decide +kernel
theorem dX7_lookAhead_8 : decode cX7_lookAhead 8 = .ok (.getfield 129, 3) := by decide +kernel
theorem dX7_lookAhead_11 : decode cX7_lookAhead 11 = .ok (.iload_n 1, 1) := by decide +kernel
theorem dX7_lookAhead_12 : decode cX7_lookAhead 12 = .ok (.iaload, 1) := by decide +kernel
theorem dX7_lookAhead_13 : decode cX7_lookAhead 13 = .ok (.aload_n 0, 1) := by decide +kernel
theorem dX7_lookAhead_14 : decode cX7_lookAhead 14 = .ok (.getfield 28, 3) := by decide +kernel
theorem dX7_lookAhead_17 : decode cX7_lookAhead 17 = .ok (.getfield 139, 3) := by decide +kernel
theorem dX7_lookAhead_20 : decode cX7_lookAhead 20 = .ok (.iload_n 1, 1) := by decide +kernel
theorem dX7_lookAhead_21 : decode cX7_lookAhead 21 = .ok (.iaload, 1) := by decide +kernel
theorem dX7_lookAhead_22 : decode cX7_lookAhead 22 = .ok (.aload_n 0, 1) := by decide +kernel
theorem dX7_lookAhead_23 : decode cX7_lookAhead 23 = .ok (.getfield 28, 3) := by decide +kernel
theorem dX7_lookAhead_26 : decode cX7_lookAhead 26 = .ok (.getfield 100, 3) := by decide +kernel
theorem dX7_lookAhead_29 : decode cX7_lookAhead 29 = .ok (.iconst 1, 1) := by decide +kernel
theorem dX7_lookAhead_30 : decode cX7_lookAhead 30 = .ok (.iload_n 1, 1) := by decide +kernel
theorem dX7_lookAhead_31 : decode cX7_lookAhead 31 = .ok (.ishl, 1) := by decide +kernel
theorem dX7_lookAhead_32 : decode cX7_lookAhead 32 = .ok (.invokevirtual 198, 3) := by decide +kernel
theorem dX7_lookAhead_35 : decode cX7_lookAhead 35 = .ok (.invokevirtual 238, 3) := by decide +kernel
theorem dX7_lookAhead_38 : decode cX7_lookAhead 38 = .ok (.return_, 1) := by decide +kernel
theorem dX7_tell_0 : decode cX7_tell 0 = .ok (.aload_n 0, 1) := by decide +kernel
theorem dX7_tell_1 : decode cX7_tell 1 = .ok (.getfield 19, 3) := by decide +kernel
theorem dX7_tell_4 : decode cX7_tell 4 = .ok (.iload_n 1, 1) := by decide +kernel
theorem dX7_tell_5 : decode cX7_tell 5 = .ok (.invokevirtual 149, 3) := by decide +kernel
theorem dX7_tell_8 : decode cX7_tell 8 = .ok (.ifCond .ne 6, 3) := by decide +kernel
theorem dX7_tell_11 : decode cX7_tell 11 = .ok (.ldc 128, 2) := by decide +kernel
theorem dX7_tell_13 : decode cX7_tell 13 = .ok (.ireturn, 1) := by decide +kernel
theorem dX7_tell_14 : decode cX7_tell 14 = .ok (.iload_n 2, 1) := by decide +kernel
theorem dX7_tell_15 : decode cX7_tell 15 = .ok (.ifCond .lt 10, 3) := by decide +kernel
theorem dX7_tell_18 : decode cX7_tell 18 = .ok (.iload_n 2, 1) := by decide +kernel
theorem dX7_tell_19 : decode cX7_tell 19 = .ok (.sipush 999, 3) := by decide +kernel
theorem dX7_tell_22 : decode cX7_tell 22 = .ok (.if_icmp .le 6, 3) := by decide +kernel
theorem dX7_tell_25 : decode cX7_tell 25 = .ok (.ldc 59, 2) := by decide +kernel
theorem dX7_tell_27 : decode cX7_tell 27 = .ok (.ireturn, 1) := by decide +kernel
theorem dX7_tell_28 : decode cX7_tell 28 = .ok (.aload_n 0, 1) := by decide +kernel
theorem dX7_tell_29 : decode cX7_tell 29 = .ok (.getfield 41, 3) := by decide +kernel
theorem dX7_tell_32 : decode cX7_tell 32 = .ok (.iload_n 1, 1) := by decide +kernel
theorem dX7_tell_33 : decode cX7_tell 33 = .ok (.iload_n 2, 1) := by decide +kernel
theorem dX7_tell_34 : decode cX7_tell 34 = .ok (.invokevirtual 241, 3) := by decide +kernel
theorem dX7_tell_37 : decode cX7_tell 37 = .ok (.ifCond .eq 13, 3) := by decide +kernel
theorem dX7_tell_40 : decode cX7_tell 40 = .ok (.aload_n 0, 1) := by decide +kernel
theorem dX7_tell_41 : decode cX7_tell 41 = .ok (.getfield 41, 3) := by decide +kernel
theorem dX7_tell_44 : decode cX7_tell 44 = .ok (.getfield 82, 3) := by decide +kernel
theorem dX7_tell_47 : decode cX7_tell 47 = .ok (.goto 5, 3) := by decide +kernel
theorem dX7_tell_50 : decode cX7_tell 50 = .ok (.ldc 68, 2) := by decide +kernel
theorem dX7_tell_52 : decode cX7_tell 52 = .ok (.ireturn, 1) := by decide +kernel
theorem dX7_forget_0 : decode cX7_forget 0 = .ok (.aload_n 0, 1) := by decide +kernel
theorem dX7_forget_1 : decode cX7_forget 1 = .ok (.getfield 41, 3) := by decide +kernel
theorem dX7_forget_4 : decode cX7_forget 4 = .ok (.getfield 82, 3) := by decide +kernel
theorem dX7_forget_7 : decode cX7_forget 7 = .ok (.istore_n 1, 1) := by decide +kernel
theorem dX7_forget_8 : decode cX7_forget 8 = .ok (.aload_n 0, 1) := by decide +kernel
theorem dX7_forget_9 : decode cX7_forget 9 = .ok (.getfield 41, 3) := by decide +kernel
theorem dX7_forget_12 : decode cX7_forget 12 = .ok (.iconst 0, 1) := by decide +kernel
theorem dX7_forget_13 : decode cX7_forget 13 = .ok (.putfield 82, 3) := by decide +kernel
theorem dX7_forget_16 : decode cX7_forget 16 = .ok (.iload_n 1, 1) := by decide +kernel
theorem dX7_forget_17 : decode cX7_forget 17 = .ok (.ireturn, 1) := by decide +kernel
theorem dX7_lies_0 : decode cX7_lies 0 = .ok (.aload_n 0, 1) := by decide +kernel
theorem dX7_lies_1 : decode cX7_lies 1 = .ok (.getfield 28, 3) := by decide +kernel
theorem dX7_lies_4 : decode cX7_lies 4 = .ok (.getfield 100, 3) := by decide +kernel
theorem dX7_lies_7 : decode cX7_lies 7 = .ok (.getfield 104, 3) := by decide +kernel
theorem dX7_lies_10 : decode cX7_lies 10 = .ok (.iconst 2, 1) := by decide +kernel
theorem dX7_lies_11 : decode cX7_lies 11 = .ok (.if_icmp .ne 8, 3) := by decide +kernel
theorem dX7_lies_14 : decode cX7_lies 14 = .ok (.ldc 185, 2) := by decide +kernel
theorem dX7_lies_16 : decode cX7_lies 16 = .ok (.goto 17, 3) := by decide +kernel
theorem dX7_lies_19 : decode cX7_lies 19 = .ok (.aload_n 0, 1) := by decide +kernel
theorem dX7_lies_20 : decode cX7_lies 20 = .ok (.getfield 41, 3) := by decide +kernel
theorem dX7_lies_23 : decode cX7_lies 23 = .ok (.aload_n 0, 1) := by decide +kernel
theorem dX7_lies_24 : decode cX7_lies 24 = .ok (.getfield 28, 3) := by decide +kernel
theorem dX7_lies_27 : decode cX7_lies 27 = .ok (.getfield 100, 3) := by decide +kernel
theorem dX7_lies_30 : decode cX7_lies 30 = .ok (.invokevirtual 245, 3) := by decide +kernel
theorem dX7_lies_33 : decode cX7_lies 33 = .ok (.ireturn, 1) := by decide +kernel
theorem dX7_fits_0 : decode cX7_fits 0 = .ok (.aload_n 0, 1) := by decide +kernel
theorem dX7_fits_1 : decode cX7_fits 1 = .ok (.getfield 19, 3) := by decide +kernel
theorem dX7_fits_4 : decode cX7_fits 4 = .ok (.iload_n 1, 1) := by decide +kernel
theorem dX7_fits_5 : decode cX7_fits 5 = .ok (.invokevirtual 149, 3) := by decide +kernel
theorem dX7_fits_8 : decode cX7_fits 8 = .ok (.ifCond .ne 6, 3) := by decide +kernel
theorem dX7_fits_11 : decode cX7_fits 11 = .ok (.ldc 128, 2) := by decide +kernel
theorem dX7_fits_13 : decode cX7_fits 13 = .ok (.ireturn, 1) := by decide +kernel
theorem dX7_fits_14 : decode cX7_fits 14 = .ok (.aload_n 0, 1) := by decide +kernel
theorem dX7_fits_15 : decode cX7_fits 15 = .ok (.getfield 28, 3) := by decide +kernel
theorem dX7_fits_18 : decode cX7_fits 18 = .ok (.getfield 100, 3) := by decide +kernel
theorem dX7_fits_21 : decode cX7_fits 21 = .ok (.getfield 104, 3) := by decide +kernel
theorem dX7_fits_24 : decode cX7_fits 24 = .ok (.iconst 2, 1) := by decide +kernel
theorem dX7_fits_25 : decode cX7_fits 25 = .ok (.if_icmp .ne 8, 3) := by decide +kernel
theorem dX7_fits_28 : decode cX7_fits 28 = .ok (.ldc 185, 2) := by decide +kernel
theorem dX7_fits_30 : decode cX7_fits 30 = .ok (.goto 19, 3) := by decide +kernel
theorem dX7_fits_33 : decode cX7_fits 33 = .ok (.aload_n 0, 1) := by decide +kernel
theorem dX7_fits_34 : decode cX7_fits 34 = .ok (.getfield 41, 3) := by decide +kernel
theorem dX7_fits_37 : decode cX7_fits 37 = .ok (.aload_n 0, 1) := by decide +kernel
theorem dX7_fits_38 : decode cX7_fits 38 = .ok (.getfield 28, 3) := by decide +kernel
theorem dX7_fits_41 : decode cX7_fits 41 = .ok (.getfield 100, 3) := by decide +kernel
theorem dX7_fits_44 : decode cX7_fits 44 = .ok (.iload_n 1, 1) := by decide +kernel
theorem dX7_fits_45 : decode cX7_fits 45 = .ok (.iload_n 2, 1) := by decide +kernel
theorem dX7_fits_46 : decode cX7_fits 46 = .ok (.invokevirtual 248, 3) := by decide +kernel
theorem dX7_fits_49 : decode cX7_fits 49 = .ok (.ireturn, 1) := by decide +kernel
theorem dX7_seed_0 : decode cX7_seed 0 = .ok (.iload_n 1, 1) := by decide +kernel
theorem dX7_seed_1 : decode cX7_seed 1 = .ok (.ifCond .ge 6, 3) := by decide +kernel
theorem dX7_seed_4 : decode cX7_seed 4 = .ok (.ldc 59, 2) := by decide +kernel
theorem dX7_seed_6 : decode cX7_seed 6 = .ok (.ireturn, 1) := by decide +kernel
theorem dX7_seed_7 : decode cX7_seed 7 = .ok (.aload_n 0, 1) := by decide +kernel
theorem dX7_seed_8 : decode cX7_seed 8 = .ok (.getfield 28, 3) := by decide +kernel
theorem dX7_seed_11 : decode cX7_seed 11 = .ok (.getfield 252, 3) := by decide +kernel
theorem dX7_seed_14 : decode cX7_seed 14 = .ok (.istore_n 2, 1) := by decide +kernel
theorem dX7_seed_15 : decode cX7_seed 15 = .ok (.aload_n 0, 1) := by decide +kernel
theorem dX7_seed_16 : decode cX7_seed 16 = .ok (.getfield 28, 3) := by decide +kernel
theorem dX7_seed_19 : decode cX7_seed 19 = .ok (.iload_n 1, 1) := by decide +kernel
theorem dX7_seed_20 : decode cX7_seed 20 = .ok (.putfield 252, 3) := by decide +kernel
theorem dX7_seed_23 : decode cX7_seed 23 = .ok (.iload_n 2, 1) := by decide +kernel
theorem dX7_seed_24 : decode cX7_seed 24 = .ok (.ireturn, 1) := by decide +kernel
theorem dX7_keep_0 : decode cX7_keep 0 = .ok (.iload_n 1, 1) := by decide +kernel
theorem dX7_keep_1 : decode cX7_keep 1 = .ok (.ifCond .lt 8, 3) := by decide +kernel
theorem dX7_keep_4 : decode cX7_keep 4 = .ok (.iload_n 1, 1) := by decide +kernel
theorem dX7_keep_5 : decode cX7_keep 5 = .ok (.iconst 2, 1) := by decide +kernel
theorem dX7_keep_6 : decode cX7_keep 6 = .ok (.if_icmp .lt 6, 3) := by decide +kernel
theorem dX7_keep_9 : decode cX7_keep 9 = .ok (.ldc 128, 2) := by decide +kernel
theorem dX7_keep_11 : decode cX7_keep 11 = .ok (.ireturn, 1) := by decide +kernel
theorem dX7_keep_12 : decode cX7_keep 12 = .ok (.aload_n 0, 1) := by decide +kernel
theorem dX7_keep_13 : decode cX7_keep 13 = .ok (.iload_n 1, 1) := by decide +kernel
theorem dX7_keep_14 : decode cX7_keep 14 = .ok (.invokevirtual 255, 3) := by decide +kernel
theorem dX7_keep_17 : decode cX7_keep 17 = .ok (.aload_n 0, 1) := by decide +kernel
theorem dX7_keep_18 : decode cX7_keep 18 = .ok (.getfield 28, 3) := by decide +kernel
theorem dX7_keep_21 : decode cX7_keep 21 = .ok (.invokevirtual 259, 3) := by decide +kernel
theorem dX7_keep_24 : decode cX7_keep 24 = .ok (.aload_n 0, 1) := by decide +kernel
theorem dX7_keep_25 : decode cX7_keep 25 = .ok (.dup, 1) := by decide +kernel
theorem dX7_keep_26 : decode cX7_keep 26 = .ok (.getfield 85, 3) := by decide +kernel
theorem dX7_keep_29 : decode cX7_keep 29 = .ok (.iconst 1, 1) := by decide +kernel
theorem dX7_keep_30 : decode cX7_keep 30 = .ok (.iload_n 1, 1) := by decide +kernel
theorem dX7_keep_31 : decode cX7_keep 31 = .ok (.ishl, 1) := by decide +kernel
theorem dX7_keep_32 : decode cX7_keep 32 = .ok (.ior, 1) := by decide +kernel
theorem dX7_keep_33 : decode cX7_keep 33 = .ok (.putfield 85, 3) := by decide +kernel
theorem dX7_keep_36 : decode cX7_keep 36 = .ok (.iconst 1, 1) := by decide +kernel
theorem dX7_keep_37 : decode cX7_keep 37 = .ok (.ireturn, 1) := by decide +kernel
theorem dX7_goBack_0 : decode cX7_goBack 0 = .ok (.iload_n 1, 1) := by decide +kernel
theorem dX7_goBack_1 : decode cX7_goBack 1 = .ok (.ifCond .lt 8, 3) := by decide +kernel
theorem dX7_goBack_4 : decode cX7_goBack 4 = .ok (.iload_n 1, 1) := by decide +kernel
theorem dX7_goBack_5 : decode cX7_goBack 5 = .ok (.iconst 2, 1) := by decide +kernel
theorem dX7_goBack_6 : decode cX7_goBack 6 = .ok (.if_icmp .lt 6, 3) := by decide +kernel
theorem dX7_goBack_9 : decode cX7_goBack 9 = .ok (.ldc 128, 2) := by decide +kernel
theorem dX7_goBack_11 : decode cX7_goBack 11 = .ok (.ireturn, 1) := by decide +kernel
theorem dX7_goBack_12 : decode cX7_goBack 12 = .ok (.aload_n 0, 1) := by decide +kernel
theorem dX7_goBack_13 : decode cX7_goBack 13 = .ok (.getfield 85, 3) := by decide +kernel
theorem dX7_goBack_16 : decode cX7_goBack 16 = .ok (.iload_n 1, 1) := by decide +kernel
theorem dX7_goBack_17 : decode cX7_goBack 17 = .ok (.ishr, 1) := by decide +kernel
theorem dX7_goBack_18 : decode cX7_goBack 18 = .ok (.iconst 1, 1) := by decide +kernel
theorem dX7_goBack_19 : decode cX7_goBack 19 = .ok (.iand, 1) := by decide +kernel
theorem dX7_goBack_20 : decode cX7_goBack 20 = .ok (.ifCond .ne 6, 3) := by decide +kernel
theorem dX7_goBack_23 : decode cX7_goBack 23 = .ok (.ldc 185, 2) := by decide +kernel
theorem dX7_goBack_25 : decode cX7_goBack 25 = .ok (.ireturn, 1) := by decide +kernel
theorem dX7_goBack_26 : decode cX7_goBack 26 = .ok (.aload_n 0, 1) := by decide +kernel
theorem dX7_goBack_27 : decode cX7_goBack 27 = .ok (.getfield 28, 3) := by decide +kernel
theorem dX7_goBack_30 : decode cX7_goBack 30 = .ok (.aload_n 0, 1) := by decide +kernel
theorem dX7_goBack_31 : decode cX7_goBack 31 = .ok (.iload_n 1, 1) := by decide +kernel
theorem dX7_goBack_32 : decode cX7_goBack 32 = .ok (.invokevirtual 255, 3) := by decide +kernel
theorem dX7_goBack_35 : decode cX7_goBack 35 = .ok (.invokevirtual 259, 3) := by decide +kernel
theorem dX7_goBack_38 : decode cX7_goBack 38 = .ok (.iconst 1, 1) := by decide +kernel
theorem dX7_goBack_39 : decode cX7_goBack 39 = .ok (.ireturn, 1) := by decide +kernel
theorem dX7_imageAt_0 : decode cX7_imageAt 0 = .ok (.iload_n 1, 1) := by decide +kernel
theorem dX7_imageAt_1 : decode cX7_imageAt 1 = .ok (.ifCond .ne 10, 3) := by decide +kernel
theorem dX7_imageAt_4 : decode cX7_imageAt 4 = .ok (.aload_n 0, 1) := by decide +kernel
theorem dX7_imageAt_5 : decode cX7_imageAt 5 = .ok (.getfield 32, 3) := by decide +kernel
theorem dX7_imageAt_8 : decode cX7_imageAt 8 = .ok (.goto 7, 3) := by decide +kernel
theorem dX7_imageAt_11 : decode cX7_imageAt 11 = .ok (.aload_n 0, 1) := by decide +kernel
theorem dX7_imageAt_12 : decode cX7_imageAt 12 = .ok (.getfield 35, 3) := by decide +kernel
theorem dX7_imageAt_15 : decode cX7_imageAt 15 = .ok (.areturn, 1) := by decide +kernel
theorem dX8_init_0 : decode cX8_init 0 = .ok (.aload_n 0, 1) := by decide +kernel
theorem dX8_init_1 : decode cX8_init 1 = .ok (.invokespecial 1, 3) := by decide +kernel
theorem dX8_init_4 : decode cX8_init 4 = .ok (.aload_n 0, 1) := by decide +kernel
theorem dX8_init_5 : decode cX8_init 5 = .ok (.iconst 5, 1) := by decide +kernel
theorem dX8_init_6 : decode cX8_init 6 = .ok (.newarray .int, 2) := by decide +kernel
theorem dX8_init_8 : decode cX8_init 8 = .ok (.putfield 7, 3) := by decide +kernel
theorem dX8_init_11 : decode cX8_init 11 = .ok (.aload_n 0, 1) := by decide +kernel
theorem dX8_init_12 : decode cX8_init 12 = .ok (.iconst 5, 1) := by decide +kernel
theorem dX8_init_13 : decode cX8_init 13 = .ok (.newarray .int, 2) := by decide +kernel
theorem dX8_init_15 : decode cX8_init 15 = .ok (.putfield 13, 3) := by decide +kernel
theorem dX8_init_18 : decode cX8_init 18 = .ok (.aload_n 0, 1) := by decide +kernel
theorem dX8_init_19 : decode cX8_init 19 = .ok (.iconst 5, 1) := by decide +kernel
theorem dX8_init_20 : decode cX8_init 20 = .ok (.newarray .int, 2) := by decide +kernel
theorem dX8_init_22 : decode cX8_init 22 = .ok (.putfield 16, 3) := by decide +kernel
theorem dX8_init_25 : decode cX8_init 25 = .ok (.aload_n 0, 1) := by decide +kernel
theorem dX8_init_26 : decode cX8_init 26 = .ok (.bipush 8, 2) := by decide +kernel
theorem dX8_init_28 : decode cX8_init 28 = .ok (.newarray .int, 2) := by decide +kernel
theorem dX8_init_30 : decode cX8_init 30 = .ok (.putfield 19, 3) := by decide +kernel
theorem dX8_init_33 : decode cX8_init 33 = .ok (.aload_n 0, 1) := by decide +kernel
theorem dX8_init_34 : decode cX8_init 34 = .ok (.bipush 8, 2) := by decide +kernel
theorem dX8_init_36 : decode cX8_init 36 = .ok (.newarray .int, 2) := by decide +kernel
theorem dX8_init_38 : decode cX8_init 38 = .ok (.putfield 22, 3) := by decide +kernel
theorem dX8_init_41 : decode cX8_init 41 = .ok (.aload_n 0, 1) := by decide +kernel
theorem dX8_init_42 : decode cX8_init 42 = .ok (.bipush 8, 2) := by decide +kernel
theorem dX8_init_44 : decode cX8_init 44 = .ok (.newarray .int, 2) := by decide +kernel
theorem dX8_init_46 : decode cX8_init 46 = .ok (.putfield 25, 3) := by decide +kernel
theorem dX8_init_49 : decode cX8_init 49 = .ok (.aload_n 0, 1) := by decide +kernel
theorem dX8_init_50 : decode cX8_init 50 = .ok (.bipush 8, 2) := by decide +kernel
theorem dX8_init_52 : decode cX8_init 52 = .ok (.newarray .int, 2) := by decide +kernel
theorem dX8_init_54 : decode cX8_init 54 = .ok (.putfield 28, 3) := by decide +kernel
theorem dX8_init_57 : decode cX8_init 57 = .ok (.aload_n 0, 1) := by decide +kernel
theorem dX8_init_58 : decode cX8_init 58 = .ok (.bipush 8, 2) := by decide +kernel
theorem dX8_init_60 : decode cX8_init 60 = .ok (.newarray .int, 2) := by decide +kernel
theorem dX8_init_62 : decode cX8_init 62 = .ok (.putfield 31, 3) := by decide +kernel
theorem dX8_init_65 : decode cX8_init 65 = .ok (.aload_n 0, 1) := by decide +kernel
theorem dX8_init_66 : decode cX8_init 66 = .ok (.iconst (-1), 1) := by decide +kernel
theorem dX8_init_67 : decode cX8_init 67 = .ok (.putfield 34, 3) := by decide +kernel
theorem dX8_init_70 : decode cX8_init 70 = .ok (.aload_n 0, 1) := by decide +kernel
theorem dX8_init_71 : decode cX8_init 71 = .ok (.iconst (-1), 1) := by decide +kernel
theorem dX8_init_72 : decode cX8_init 72 = .ok (.putfield 38, 3) := by decide +kernel
theorem dX8_init_75 : decode cX8_init 75 = .ok (.aload_n 0, 1) := by decide +kernel
theorem dX8_init_76 : decode cX8_init 76 = .ok (.iconst (-1), 1) := by decide +kernel
theorem dX8_init_77 : decode cX8_init 77 = .ok (.putfield 41, 3) := by decide +kernel
theorem dX8_init_80 : decode cX8_init 80 = .ok (.aload_n 0, 1) := by decide +kernel
theorem dX8_init_81 : decode cX8_init 81 = .ok (.iconst 5, 1) := by decide +kernel
theorem dX8_init_82 : decode cX8_init 82 = .ok (.newarray .int, 2) := by decide +kernel
theorem dX8_init_84 : decode cX8_init 84 = .ok (.putfield 44, 3) := by decide +kernel
theorem dX8_init_87 : decode cX8_init 87 = .ok (.aload_n 0, 1) := by decide +kernel
theorem dX8_init_88 : decode cX8_init 88 = .ok (.iconst 5, 1) := by decide +kernel
theorem dX8_init_89 : decode cX8_init 89 = .ok (.newarray .int, 2) := by decide +kernel
theorem dX8_init_91 : decode cX8_init 91 = .ok (.putfield 47, 3) := by decide +kernel
theorem dX8_init_94 : decode cX8_init 94 = .ok (.aload_n 0, 1) := by decide +kernel
theorem dX8_init_95 : decode cX8_init 95 = .ok (.sipush 200, 3) := by decide +kernel
theorem dX8_init_98 : decode cX8_init 98 = .ok (.newarray .int, 2) := by decide +kernel
theorem dX8_init_100 : decode cX8_init 100 = .ok (.putfield 50, 3) := by decide +kernel
theorem dX8_init_103 : decode cX8_init 103 = .ok (.aload_n 0, 1) := by decide +kernel
theorem dX8_init_104 : decode cX8_init 104 = .ok (.sipush 200, 3) := by decide +kernel
theorem dX8_init_107 : decode cX8_init 107 = .ok (.newarray .int, 2) := by decide +kernel
theorem dX8_init_109 : decode cX8_init 109 = .ok (.putfield 53, 3) := by decide +kernel
theorem dX8_init_112 : decode cX8_init 112 = .ok (.aload_n 0, 1) := by decide +kernel
theorem dX8_init_113 : decode cX8_init 113 = .ok (.sipush 400, 3) := by decide +kernel
theorem dX8_init_116 : decode cX8_init 116 = .ok (.newarray .int, 2) := by decide +kernel
theorem dX8_init_118 : decode cX8_init 118 = .ok (.putfield 56, 3) := by decide +kernel
theorem dX8_init_121 : decode cX8_init 121 = .ok (.aload_n 0, 1) := by decide +kernel
theorem dX8_init_122 : decode cX8_init 122 = .ok (.iconst (-1), 1) := by decide +kernel
theorem dX8_init_123 : decode cX8_init 123 = .ok (.putfield 59, 3) := by decide +kernel
theorem dX8_init_126 : decode cX8_init 126 = .ok (.aload_n 0, 1) := by decide +kernel
theorem dX8_init_127 : decode cX8_init 127 = .ok (.iconst 5, 1) := by decide +kernel
theorem dX8_init_128 : decode cX8_init 128 = .ok (.newarray .int, 2) := by decide +kernel
theorem dX8_init_130 : decode cX8_init 130 = .ok (.putfield 62, 3) := by decide +kernel
theorem dX8_init_133 : decode cX8_init 133 = .ok (.aload_n 0, 1) := by decide +kernel
theorem dX8_init_134 : decode cX8_init 134 = .ok (.iconst 5, 1) := by decide +kernel
theorem dX8_init_135 : decode cX8_init 135 = .ok (.newarray .int, 2) := by decide +kernel
theorem dX8_init_137 : decode cX8_init 137 = .ok (.putfield 65, 3) := by decide +kernel
theorem dX8_init_140 : decode cX8_init 140 = .ok (.aload_n 0, 1) := by decide +kernel
theorem dX8_init_141 : decode cX8_init 141 = .ok (.iconst 5, 1) := by decide +kernel
theorem dX8_init_142 : decode cX8_init 142 = .ok (.newarray .int, 2) := by decide +kernel
theorem dX8_init_144 : decode cX8_init 144 = .ok (.putfield 68, 3) := by decide +kernel
theorem dX8_init_147 : decode cX8_init 147 = .ok (.aload_n 0, 1) := by decide +kernel
theorem dX8_init_148 : decode cX8_init 148 = .ok (.bipush 8, 2) := by decide +kernel
theorem dX8_init_150 : decode cX8_init 150 = .ok (.newarray .int, 2) := by decide +kernel
theorem dX8_init_152 : decode cX8_init 152 = .ok (.putfield 71, 3) := by decide +kernel
theorem dX8_init_155 : decode cX8_init 155 = .ok (.aload_n 0, 1) := by decide +kernel
theorem dX8_init_156 : decode cX8_init 156 = .ok (.bipush 8, 2) := by decide +kernel
theorem dX8_init_158 : decode cX8_init 158 = .ok (.newarray .int, 2) := by decide +kernel
theorem dX8_init_160 : decode cX8_init 160 = .ok (.putfield 74, 3) := by decide +kernel
theorem dX8_init_163 : decode cX8_init 163 = .ok (.aload_n 0, 1) := by decide +kernel
theorem dX8_init_164 : decode cX8_init 164 = .ok (.bipush 8, 2) := by decide +kernel
theorem dX8_init_166 : decode cX8_init 166 = .ok (.newarray .int, 2) := by decide +kernel
theorem dX8_init_168 : decode cX8_init 168 = .ok (.putfield 77, 3) := by decide +kernel
theorem dX8_init_171 : decode cX8_init 171 = .ok (.aload_n 0, 1) := by decide +kernel
theorem dX8_init_172 : decode cX8_init 172 = .ok (.bipush 8, 2) := by decide +kernel
theorem dX8_init_174 : decode cX8_init 174 = .ok (.newarray .int, 2) := by decide +kernel
theorem dX8_init_176 : decode cX8_init 176 = .ok (.putfield 80, 3) := by decide +kernel
theorem dX8_init_179 : decode cX8_init 179 = .ok (.aload_n 0, 1) := by decide +kernel
theorem dX8_init_180 : decode cX8_init 180 = .ok (.bipush 8, 2) := by decide +kernel
theorem dX8_init_182 : decode cX8_init 182 = .ok (.newarray .int, 2) := by decide +kernel
theorem dX8_init_184 : decode cX8_init 184 = .ok (.putfield 83, 3) := by decide +kernel
theorem dX8_init_187 : decode cX8_init 187 = .ok (.aload_n 0, 1) := by decide +kernel
theorem dX8_init_188 : decode cX8_init 188 = .ok (.bipush 8, 2) := by decide +kernel
theorem dX8_init_190 : decode cX8_init 190 = .ok (.newarray .int, 2) := by decide +kernel
theorem dX8_init_192 : decode cX8_init 192 = .ok (.putfield 86, 3) := by decide +kernel
theorem dX8_init_195 : decode cX8_init 195 = .ok (.aload_n 0, 1) := by decide +kernel
theorem dX8_init_196 : decode cX8_init 196 = .ok (.bipush 8, 2) := by decide +kernel
theorem dX8_init_198 : decode cX8_init 198 = .ok (.newarray .int, 2) := by decide +kernel
theorem dX8_init_200 : decode cX8_init 200 = .ok (.putfield 89, 3) := by decide +kernel
theorem dX8_init_203 : decode cX8_init 203 = .ok (.aload_n 0, 1) := by decide +kernel
theorem dX8_init_204 : decode cX8_init 204 = .ok (.bipush 8, 2) := by decide +kernel
theorem dX8_init_206 : decode cX8_init 206 = .ok (.newarray .long, 2) := by decide +kernel
theorem dX8_init_208 : decode cX8_init 208 = .ok (.putfield 92, 3) := by decide +kernel
theorem dX8_init_211 : decode cX8_init 211 = .ok (.aload_n 0, 1) := by decide +kernel
theorem dX8_init_212 : decode cX8_init 212 = .ok (.bipush 40, 2) := by decide +kernel
theorem dX8_init_214 : decode cX8_init 214 = .ok (.newarray .int, 2) := by decide +kernel
theorem dX8_init_216 : decode cX8_init 216 = .ok (.putfield 96, 3) := by decide +kernel
theorem dX8_init_219 : decode cX8_init 219 = .ok (.aload_n 0, 1) := by decide +kernel
theorem dX8_init_220 : decode cX8_init 220 = .ok (.bipush 40, 2) := by decide +kernel
theorem dX8_init_222 : decode cX8_init 222 = .ok (.newarray .int, 2) := by decide +kernel
theorem dX8_init_224 : decode cX8_init 224 = .ok (.putfield 99, 3) := by decide +kernel
theorem dX8_init_227 : decode cX8_init 227 = .ok (.aload_n 0, 1) := by decide +kernel
theorem dX8_init_228 : decode cX8_init 228 = .ok (.sipush 860, 3) := by decide +kernel
theorem dX8_init_231 : decode cX8_init 231 = .ok (.newarray .int, 2) := by decide +kernel
theorem dX8_init_233 : decode cX8_init 233 = .ok (.putfield 102, 3) := by decide +kernel
theorem dX8_init_236 : decode cX8_init 236 = .ok (.aload_n 0, 1) := by decide +kernel
theorem dX8_init_237 : decode cX8_init 237 = .ok (.iconst 2, 1) := by decide +kernel
theorem dX8_init_238 : decode cX8_init 238 = .ok (.newarray .boolean, 2) := by decide +kernel
theorem dX8_init_240 : decode cX8_init 240 = .ok (.putfield 105, 3) := by decide +kernel
theorem dX8_init_243 : decode cX8_init 243 = .ok (.aload_n 0, 1) := by decide +kernel
theorem dX8_init_244 : decode cX8_init 244 = .ok (.iconst 0, 1) := by decide +kernel
theorem dX8_init_245 : decode cX8_init 245 = .ok (.putfield 109, 3) := by decide +kernel
theorem dX8_init_248 : decode cX8_init 248 = .ok (.return_, 1) := by decide +kernel
theorem dX8_in_0 : decode cX8_in 0 = .ok (.lload_n 0, 1) := by decide +kernel
theorem dX8_in_1 : decode cX8_in 1 = .ok (.lload_n 2, 1) := by decide +kernel
theorem dX8_in_2 : decode cX8_in 2 = .ok (.lcmp, 1) := by decide +kernel
theorem dX8_in_3 : decode cX8_in 3 = .ok (.ifCond .lt 14, 3) := by decide +kernel
theorem dX8_in_6 : decode cX8_in 6 = .ok (.lload_n 0, 1) := by decide +kernel
theorem dX8_in_7 : decode cX8_in 7 = .ok (.lload 4, 2) := by decide +kernel
theorem dX8_in_9 : decode cX8_in 9 = .ok (.lcmp, 1) := by decide +kernel
theorem dX8_in_10 : decode cX8_in 10 = .ok (.ifCond .gt 7, 3) := by decide +kernel
theorem dX8_in_13 : decode cX8_in 13 = .ok (.iconst 1, 1) := by decide +kernel
theorem dX8_in_14 : decode cX8_in 14 = .ok (.goto 4, 3) := by decide +kernel
theorem dX8_in_17 : decode cX8_in 17 = .ok (.iconst 0, 1) := by decide +kernel
theorem dX8_in_18 : decode cX8_in 18 = .ok (.ireturn, 1) := by decide +kernel
theorem dX8_has_0 : decode cX8_has 0 = .ok (.iload_n 0, 1) := by decide +kernel
theorem dX8_has_1 : decode cX8_has 1 = .ok (.iload_n 1, 1) := by decide +kernel
theorem dX8_has_2 : decode cX8_has 2 = .ok (.ishr, 1) := by decide +kernel
theorem dX8_has_3 : decode cX8_has 3 = .ok (.iconst 1, 1) := by decide +kernel
theorem dX8_has_4 : decode cX8_has 4 = .ok (.iand, 1) := by decide +kernel
theorem dX8_has_5 : decode cX8_has 5 = .ok (.iconst 1, 1) := by decide +kernel
theorem dX8_has_6 : decode cX8_has 6 = .ok (.if_icmp .ne 7, 3) := by decide +kernel
theorem dX8_has_9 : decode cX8_has 9 = .ok (.iconst 1, 1) := by decide +kernel
theorem dX8_has_10 : decode cX8_has 10 = .ok (.goto 4, 3) := by decide +kernel
theorem dX8_has_13 : decode cX8_has 13 = .ok (.iconst 0, 1) := by decide +kernel
theorem dX8_has_14 : decode cX8_has 14 = .ok (.ireturn, 1) := by decide +kernel
theorem dX8_isHouse_0 : decode cX8_isHouse 0 = .ok (.iload_n 1, 1) := by decide +kernel
theorem dX8_isHouse_1 : decode cX8_isHouse 1 = .ok (.i2l, 1) := by decide +kernel
theorem dX8_isHouse_2 : decode cX8_isHouse 2 = .ok (.lconst 0, 1) := by decide +kernel
theorem dX8_isHouse_3 : decode cX8_isHouse 3 = .ok (.aload_n 0, 1) := by decide +kernel
theorem dX8_isHouse_4 : decode cX8_isHouse 4 = .ok (.getfield 109, 3) := by decide +kernel
theorem dX8_isHouse_7 : decode cX8_isHouse 7 = .ok (.iconst 1, 1) := by decide +kernel
theorem dX8_isHouse_8 : decode cX8_isHouse 8 = .ok (.isub, 1) := by decide +kernel
theorem dX8_isHouse_9 : decode cX8_isHouse 9 = .ok (.i2l, 1) := by decide +kernel
theorem dX8_isHouse_10 : decode cX8_isHouse 10 = .ok (.invokestatic 112, 3) := by decide +kernel
theorem dX8_isHouse_13 : decode cX8_isHouse 13 = .ok (.ireturn, 1) := by decide +kernel
theorem dX8_isSleeper_0 : decode cX8_isSleeper 0 = .ok (.iload_n 1, 1) := by decide +kernel
theorem dX8_isSleeper_1 : decode cX8_isSleeper 1 = .ok (.i2l, 1) := by decide +kernel
theorem dX8_isSleeper_2 : decode cX8_isSleeper 2 = .ok (.lconst 0, 1) := by decide +kernel
theorem dX8_isSleeper_3 : decode cX8_isSleeper 3 = .ok (.aload_n 0, 1) := by decide +kernel
theorem dX8_isSleeper_4 : decode cX8_isSleeper 4 = .ok (.getfield 116, 3) := by decide +kernel
theorem dX8_isSleeper_7 : decode cX8_isSleeper 7 = .ok (.iconst 1, 1) := by decide +kernel
theorem dX8_isSleeper_8 : decode cX8_isSleeper 8 = .ok (.isub, 1) := by decide +kernel
theorem dX8_isSleeper_9 : decode cX8_isSleeper 9 = .ok (.i2l, 1) := by decide +kernel
theorem dX8_isSleeper_10 : decode cX8_isSleeper 10 = .ok (.invokestatic 112, 3) := by decide +kernel
theorem dX8_isSleeper_13 : decode cX8_isSleeper 13 = .ok (.ireturn, 1) := by decide +kernel
theorem dX8_begin_0 : decode cX8_begin 0 = .ok (.iconst 0, 1) := by decide +kernel
theorem dX8_begin_1 : decode cX8_begin 1 = .ok (.istore_n 1, 1) := by decide +kernel
theorem dX8_begin_2 : decode cX8_begin 2 = .ok (.iload_n 1, 1) := by decide +kernel
theorem dX8_begin_3 : decode cX8_begin 3 = .ok (.bipush 8, 2) := by decide +kernel
theorem dX8_begin_5 : decode cX8_begin 5 = .ok (.if_icmp .ge 16, 3) := by decide +kernel
theorem dX8_begin_8 : decode cX8_begin 8 = .ok (.aload_n 0, 1) := by decide +kernel
theorem dX8_begin_9 : decode cX8_begin 9 = .ok (.getfield 31, 3) := by decide +kernel
theorem dX8_begin_12 : decode cX8_begin 12 = .ok (.iload_n 1, 1) := by decide +kernel
theorem dX8_begin_13 : decode cX8_begin 13 = .ok (.iconst 0, 1) := by decide +kernel
theorem dX8_begin_14 : decode cX8_begin 14 = .ok (.iastore, 1) := by decide +kernel
theorem dX8_begin_15 : decode cX8_begin 15 = .ok (.iinc 1 1, 3) := by decide +kernel
theorem dX8_begin_18 : decode cX8_begin 18 = .ok (.goto (-16), 3) := by decide +kernel
theorem dX8_begin_21 : decode cX8_begin 21 = .ok (.aload_n 0, 1) := by decide +kernel
theorem dX8_begin_22 : decode cX8_begin 22 = .ok (.iconst (-1), 1) := by decide +kernel
theorem dX8_begin_23 : decode cX8_begin 23 = .ok (.putfield 34, 3) := by decide +kernel
theorem dX8_begin_26 : decode cX8_begin 26 = .ok (.aload_n 0, 1) := by decide +kernel
theorem dX8_begin_27 : decode cX8_begin 27 = .ok (.iconst (-1), 1) := by decide +kernel
theorem dX8_begin_28 : decode cX8_begin 28 = .ok (.putfield 38, 3) := by decide +kernel
theorem dX8_begin_31 : decode cX8_begin 31 = .ok (.aload_n 0, 1) := by decide +kernel
theorem dX8_begin_32 : decode cX8_begin 32 = .ok (.iconst (-1), 1) := by decide +kernel
theorem dX8_begin_33 : decode cX8_begin 33 = .ok (.putfield 41, 3) := by decide +kernel
theorem dX8_begin_36 : decode cX8_begin 36 = .ok (.aload_n 0, 1) := by decide +kernel
theorem dX8_begin_37 : decode cX8_begin 37 = .ok (.iconst 0, 1) := by decide +kernel
theorem dX8_begin_38 : decode cX8_begin 38 = .ok (.putfield 119, 3) := by decide +kernel
theorem dX8_begin_41 : decode cX8_begin 41 = .ok (.aload_n 0, 1) := by decide +kernel
theorem dX8_begin_42 : decode cX8_begin 42 = .ok (.iconst 0, 1) := by decide +kernel
theorem dX8_begin_43 : decode cX8_begin 43 = .ok (.putfield 122, 3) := by decide +kernel
theorem dX8_begin_46 : decode cX8_begin 46 = .ok (.iconst 0, 1) := by decide +kernel
theorem dX8_begin_47 : decode cX8_begin 47 = .ok (.istore_n 1, 1) := by decide +kernel
theorem dX8_begin_48 : decode cX8_begin 48 = .ok (.iload_n 1, 1) := by decide +kernel
theorem dX8_begin_49 : decode cX8_begin 49 = .ok (.iconst 5, 1) := by decide +kernel
theorem dX8_begin_50 : decode cX8_begin 50 = .ok (.if_icmp .ge 23, 3) := by decide +kernel
theorem dX8_begin_53 : decode cX8_begin 53 = .ok (.aload_n 0, 1) := by decide +kernel
theorem dX8_begin_54 : decode cX8_begin 54 = .ok (.getfield 44, 3) := by decide +kernel
theorem dX8_begin_57 : decode cX8_begin 57 = .ok (.iload_n 1, 1) := by decide +kernel
theorem dX8_begin_58 : decode cX8_begin 58 = .ok (.iconst 0, 1) := by decide +kernel
theorem dX8_begin_59 : decode cX8_begin 59 = .ok (.iastore, 1) := by decide +kernel
theorem dX8_begin_60 : decode cX8_begin 60 = .ok (.aload_n 0, 1) := by decide +kernel
theorem dX8_begin_61 : decode cX8_begin 61 = .ok (.getfield 47, 3) := by decide +kernel
theorem dX8_begin_64 : decode cX8_begin 64 = .ok (.iload_n 1, 1) := by decide +kernel
theorem dX8_begin_65 : decode cX8_begin 65 = .ok (.iconst 0, 1) := by decide +kernel
theorem dX8_begin_66 : decode cX8_begin 66 = .ok (.iastore, 1) := by decide +kernel
theorem dX8_begin_67 : decode cX8_begin 67 = .ok (.iinc 1 1, 3) := by decide +kernel
theorem dX8_begin_70 : decode cX8_begin 70 = .ok (.goto (-22), 3) := by decide +kernel
theorem dX8_begin_73 : decode cX8_begin 73 = .ok (.aload_n 0, 1) := by decide +kernel
theorem dX8_begin_74 : decode cX8_begin 74 = .ok (.iconst 0, 1) := by decide +kernel
theorem dX8_begin_75 : decode cX8_begin 75 = .ok (.putfield 125, 3) := by decide +kernel
theorem dX8_begin_78 : decode cX8_begin 78 = .ok (.aload_n 0, 1) := by decide +kernel
theorem dX8_begin_79 : decode cX8_begin 79 = .ok (.iconst 0, 1) := by decide +kernel
theorem dX8_begin_80 : decode cX8_begin 80 = .ok (.putfield 128, 3) := by decide +kernel
theorem dX8_begin_83 : decode cX8_begin 83 = .ok (.return_, 1) := by decide +kernel
theorem dX8_feed_0 : decode cX8_feed 0 = .ok (.iload_n 1, 1) := by decide +kernel
theorem dX8_feed_1 : decode cX8_feed 1 = .ok (.i2l, 1) := by decide +kernel
theorem dX8_feed_2 : decode cX8_feed 2 = .ok (.lconst 1, 1) := by decide +kernel
theorem dX8_feed_3 : decode cX8_feed 3 = .ok (.ldc2_w 131, 3) := by decide +kernel
theorem dX8_feed_6 : decode cX8_feed 6 = .ok (.invokestatic 112, 3) := by decide +kernel
theorem dX8_feed_9 : decode cX8_feed 9 = .ok (.ifCond .ne 6, 3) := by decide +kernel
theorem dX8_feed_12 : decode cX8_feed 12 = .ok (.ldc 133, 2) := by decide +kernel
theorem dX8_feed_14 : decode cX8_feed 14 = .ok (.ireturn, 1) := by decide +kernel
theorem dX8_feed_15 : decode cX8_feed 15 = .ok (.aload_n 0, 1) := by decide +kernel
theorem dX8_feed_16 : decode cX8_feed 16 = .ok (.getfield 134, 3) := by decide +kernel
theorem dX8_feed_19 : decode cX8_feed 19 = .ok (.iload_n 1, 1) := by decide +kernel
theorem dX8_feed_20 : decode cX8_feed 20 = .ok (.iadd, 1) := by decide +kernel
theorem dX8_feed_21 : decode cX8_feed 21 = .ok (.sipush 400, 3) := by decide +kernel
theorem dX8_feed_24 : decode cX8_feed 24 = .ok (.if_icmp .le 6, 3) := by decide +kernel
theorem dX8_feed_27 : decode cX8_feed 27 = .ok (.ldc 137, 2) := by decide +kernel
theorem dX8_feed_29 : decode cX8_feed 29 = .ok (.ireturn, 1) := by decide +kernel
theorem dX8_feed_30 : decode cX8_feed 30 = .ok (.iload_n 1, 1) := by decide +kernel
theorem dX8_feed_31 : decode cX8_feed 31 = .ok (.iconst 1, 1) := by decide +kernel
theorem dX8_feed_32 : decode cX8_feed 32 = .ok (.isub, 1) := by decide +kernel
theorem dX8_feed_33 : decode cX8_feed 33 = .ok (.istore 4, 2) := by decide +kernel
theorem dX8_feed_35 : decode cX8_feed 35 = .ok (.iload 4, 2) := by decide +kernel
theorem dX8_feed_37 : decode cX8_feed 37 = .ok (.ifCond .lt 40, 3) := by decide +kernel
theorem dX8_feed_40 : decode cX8_feed 40 = .ok (.aload_n 0, 1) := by decide +kernel
theorem dX8_feed_41 : decode cX8_feed 41 = .ok (.getfield 56, 3) := by decide +kernel
theorem dX8_feed_44 : decode cX8_feed 44 = .ok (.aload_n 0, 1) := by decide +kernel
theorem dX8_feed_45 : decode cX8_feed 45 = .ok (.getfield 134, 3) := by decide +kernel
theorem dX8_feed_48 : decode cX8_feed 48 = .ok (.lload_n 2, 1) := by decide +kernel
theorem dX8_feed_49 : decode cX8_feed 49 = .ok (.bipush 8, 2) := by decide +kernel
theorem dX8_feed_51 : decode cX8_feed 51 = .ok (.iload 4, 2) := by decide +kernel
theorem dX8_feed_53 : decode cX8_feed 53 = .ok (.imul, 1) := by decide +kernel
theorem dX8_feed_54 : decode cX8_feed 54 = .ok (.lshr, 1) := by decide +kernel
theorem dX8_feed_55 : decode cX8_feed 55 = .ok (.ldc2_w 138, 3) := by decide +kernel
theorem dX8_feed_58 : decode cX8_feed 58 = .ok (.land, 1) := by decide +kernel
theorem dX8_feed_59 : decode cX8_feed 59 = .ok (.l2i, 1) := by decide +kernel
theorem dX8_feed_60 : decode cX8_feed 60 = .ok (.iastore, 1) := by decide +kernel
theorem dX8_feed_61 : decode cX8_feed 61 = .ok (.aload_n 0, 1) := by decide +kernel
theorem dX8_feed_62 : decode cX8_feed 62 = .ok (.dup, 1) := by decide +kernel
theorem dX8_feed_63 : decode cX8_feed 63 = .ok (.getfield 134, 3) := by decide +kernel
theorem dX8_feed_66 : decode cX8_feed 66 = .ok (.iconst 1, 1) := by decide +kernel
theorem dX8_feed_67 : decode cX8_feed 67 = .ok (.iadd, 1) := by decide +kernel
theorem dX8_feed_68 : decode cX8_feed 68 = .ok (.putfield 134, 3) := by decide +kernel
theorem dX8_feed_71 : decode cX8_feed 71 = .ok (.iinc 4 (-1), 3) := by decide +kernel
theorem dX8_feed_74 : decode cX8_feed 74 = .ok (.goto (-39), 3) := by decide +kernel
theorem dX8_feed_77 : decode cX8_feed 77 = .ok (.aload_n 0, 1) := by decide +kernel
theorem dX8_feed_78 : decode cX8_feed 78 = .ok (.getfield 134, 3) := by decide +kernel
theorem dX8_feed_81 : decode cX8_feed 81 = .ok (.ireturn, 1) := by decide +kernel
theorem dX8_here_0 : decode cX8_here 0 = .ok (.aload_n 0, 1) := by decide +kernel
theorem dX8_here_1 : decode cX8_here 1 = .ok (.getfield 140, 3) := by decide +kernel
theorem dX8_here_4 : decode cX8_here 4 = .ok (.aload_n 0, 1) := by decide +kernel
theorem dX8_here_5 : decode cX8_here 5 = .ok (.getfield 134, 3) := by decide +kernel
theorem dX8_here_8 : decode cX8_here 8 = .ok (.if_icmp .ge 30, 3) := by decide +kernel
theorem dX8_here_11 : decode cX8_here 11 = .ok (.aload_n 0, 1) := by decide +kernel
theorem dX8_here_12 : decode cX8_here 12 = .ok (.getfield 56, 3) := by decide +kernel
theorem dX8_here_15 : decode cX8_here 15 = .ok (.aload_n 0, 1) := by decide +kernel
theorem dX8_here_16 : decode cX8_here 16 = .ok (.getfield 140, 3) := by decide +kernel
theorem dX8_here_19 : decode cX8_here 19 = .ok (.iaload, 1) := by decide +kernel
theorem dX8_here_20 : decode cX8_here 20 = .ok (.bipush 32, 2) := by decide +kernel
theorem dX8_here_22 : decode cX8_here 22 = .ok (.if_icmp .ne 16, 3) := by decide +kernel
theorem dX8_here_25 : decode cX8_here 25 = .ok (.aload_n 0, 1) := by decide +kernel
theorem dX8_here_26 : decode cX8_here 26 = .ok (.dup, 1) := by decide +kernel
theorem dX8_here_27 : decode cX8_here 27 = .ok (.getfield 140, 3) := by decide +kernel
theorem dX8_here_30 : decode cX8_here 30 = .ok (.iconst 1, 1) := by decide +kernel
theorem dX8_here_31 : decode cX8_here 31 = .ok (.iadd, 1) := by decide +kernel
theorem dX8_here_32 : decode cX8_here 32 = .ok (.putfield 140, 3) := by decide +kernel
theorem dX8_here_35 : decode cX8_here 35 = .ok (.goto (-35), 3) := by decide +kernel
theorem dX8_here_38 : decode cX8_here 38 = .ok (.aload_n 0, 1) := by decide +kernel
theorem dX8_here_39 : decode cX8_here 39 = .ok (.getfield 140, 3) := by decide +kernel
theorem dX8_here_42 : decode cX8_here 42 = .ok (.aload_n 0, 1) := by decide +kernel
theorem dX8_here_43 : decode cX8_here 43 = .ok (.getfield 134, 3) := by decide +kernel
theorem dX8_here_46 : decode cX8_here 46 = .ok (.if_icmp .ge 15, 3) := by decide +kernel
theorem dX8_here_49 : decode cX8_here 49 = .ok (.aload_n 0, 1) := by decide +kernel
theorem dX8_here_50 : decode cX8_here 50 = .ok (.getfield 56, 3) := by decide +kernel
theorem dX8_here_53 : decode cX8_here 53 = .ok (.aload_n 0, 1) := by decide +kernel
theorem dX8_here_54 : decode cX8_here 54 = .ok (.getfield 140, 3) := by decide +kernel
theorem dX8_here_57 : decode cX8_here 57 = .ok (.iaload, 1) := by decide +kernel
theorem dX8_here_58 : decode cX8_here 58 = .ok (.goto 4, 3) := by decide +kernel
theorem dX8_here_61 : decode cX8_here 61 = .ok (.iconst (-1), 1) := by decide +kernel
theorem dX8_here_62 : decode cX8_here 62 = .ok (.ireturn, 1) := by decide +kernel
theorem dX8_fails_0 : decode cX8_fails 0 = .ok (.aload_n 0, 1) := by decide +kernel
theorem dX8_fails_1 : decode cX8_fails 1 = .ok (.iload_n 2, 1) := by decide +kernel
theorem dX8_fails_2 : decode cX8_fails 2 = .ok (.putfield 59, 3) := by decide +kernel
theorem dX8_fails_5 : decode cX8_fails 5 = .ok (.iload_n 1, 1) := by decide +kernel
theorem dX8_fails_6 : decode cX8_fails 6 = .ok (.ireturn, 1) := by decide +kernel
theorem dX8_readWord_0 : decode cX8_readWord 0 = .ok (.aload_n 0, 1) := by decide +kernel
theorem dX8_readWord_1 : decode cX8_readWord 1 = .ok (.invokevirtual 143, 3) := by decide +kernel
theorem dX8_readWord_4 : decode cX8_readWord 4 = .ok (.istore_n 1, 1) := by decide +kernel
theorem dX8_readWord_5 : decode cX8_readWord 5 = .ok (.aload_n 0, 1) := by decide +kernel
theorem dX8_readWord_6 : decode cX8_readWord 6 = .ok (.lconst 0, 1) := by decide +kernel
theorem dX8_readWord_7 : decode cX8_readWord 7 = .ok (.putfield 147, 3) := by decide +kernel
theorem dX8_readWord_10 : decode cX8_readWord 10 = .ok (.aload_n 0, 1) := by decide +kernel
theorem dX8_readWord_11 : decode cX8_readWord 11 = .ok (.aload_n 0, 1) := by decide +kernel
theorem dX8_readWord_12 : decode cX8_readWord 12 = .ok (.getfield 140, 3) := by decide +kernel
theorem dX8_readWord_15 : decode cX8_readWord 15 = .ok (.putfield 151, 3) := by decide +kernel
theorem dX8_readWord_18 : decode cX8_readWord 18 = .ok (.aload_n 0, 1) := by decide +kernel
theorem dX8_readWord_19 : decode cX8_readWord 19 = .ok (.getfield 151, 3) := by decide +kernel
theorem dX8_readWord_22 : decode cX8_readWord 22 = .ok (.aload_n 0, 1) := by decide +kernel
theorem dX8_readWord_23 : decode cX8_readWord 23 = .ok (.getfield 134, 3) := by decide +kernel
theorem dX8_readWord_26 : decode cX8_readWord 26 = .ok (.if_icmp .ge 82, 3) := by decide +kernel
theorem dX8_readWord_29 : decode cX8_readWord 29 = .ok (.aload_n 0, 1) := by decide +kernel
theorem dX8_readWord_30 : decode cX8_readWord 30 = .ok (.getfield 56, 3) := by decide +kernel
theorem dX8_readWord_33 : decode cX8_readWord 33 = .ok (.aload_n 0, 1) := by decide +kernel
theorem dX8_readWord_34 : decode cX8_readWord 34 = .ok (.getfield 151, 3) := by decide +kernel
theorem dX8_readWord_37 : decode cX8_readWord 37 = .ok (.iaload, 1) := by decide +kernel
theorem dX8_readWord_38 : decode cX8_readWord 38 = .ok (.i2l, 1) := by decide +kernel
theorem dX8_readWord_39 : decode cX8_readWord 39 = .ok (.ldc2_w 154, 3) := by decide +kernel
theorem dX8_readWord_42 : decode cX8_readWord 42 = .ok (.ldc2_w 156, 3) := by decide +kernel
theorem dX8_readWord_45 : decode cX8_readWord 45 = .ok (.invokestatic 112, 3) := by decide +kernel
theorem dX8_readWord_48 : decode cX8_readWord 48 = .ok (.ifCond .eq 60, 3) := by decide +kernel
theorem dX8_readWord_51 : decode cX8_readWord 51 = .ok (.aload_n 0, 1) := by decide +kernel
theorem dX8_readWord_52 : decode cX8_readWord 52 = .ok (.aload_n 0, 1) := by decide +kernel
theorem dX8_readWord_53 : decode cX8_readWord 53 = .ok (.getfield 147, 3) := by decide +kernel
theorem dX8_readWord_56 : decode cX8_readWord 56 = .ok (.ldc2_w 158, 3) := by decide +kernel
theorem dX8_readWord_59 : decode cX8_readWord 59 = .ok (.lcmp, 1) := by decide +kernel
theorem dX8_readWord_60 : decode cX8_readWord 60 = .ok (.ifCond .le 9, 3) := by decide +kernel
theorem dX8_readWord_63 : decode cX8_readWord 63 = .ok (.ldc2_w 160, 3) := by decide +kernel
theorem dX8_readWord_66 : decode cX8_readWord 66 = .ok (.goto 26, 3) := by decide +kernel
theorem dX8_readWord_69 : decode cX8_readWord 69 = .ok (.ldc2_w 162, 3) := by decide +kernel
theorem dX8_readWord_72 : decode cX8_readWord 72 = .ok (.aload_n 0, 1) := by decide +kernel
theorem dX8_readWord_73 : decode cX8_readWord 73 = .ok (.getfield 147, 3) := by decide +kernel
theorem dX8_readWord_76 : decode cX8_readWord 76 = .ok (.lmul, 1) := by decide +kernel
theorem dX8_readWord_77 : decode cX8_readWord 77 = .ok (.aload_n 0, 1) := by decide +kernel
theorem dX8_readWord_78 : decode cX8_readWord 78 = .ok (.getfield 56, 3) := by decide +kernel
theorem dX8_readWord_81 : decode cX8_readWord 81 = .ok (.aload_n 0, 1) := by decide +kernel
theorem dX8_readWord_82 : decode cX8_readWord 82 = .ok (.getfield 151, 3) := by decide +kernel
theorem dX8_readWord_85 : decode cX8_readWord 85 = .ok (.iaload, 1) := by decide +kernel
theorem dX8_readWord_86 : decode cX8_readWord 86 = .ok (.i2l, 1) := by decide +kernel
theorem dX8_readWord_87 : decode cX8_readWord 87 = .ok (.ladd, 1) := by decide +kernel
theorem dX8_readWord_88 : decode cX8_readWord 88 = .ok (.ldc2_w 164, 3) := by decide +kernel
theorem dX8_readWord_91 : decode cX8_readWord 91 = .ok (.lsub, 1) := by decide +kernel
theorem dX8_readWord_92 : decode cX8_readWord 92 = .ok (.putfield 147, 3) := by decide +kernel
theorem dX8_readWord_95 : decode cX8_readWord 95 = .ok (.aload_n 0, 1) := by decide +kernel
theorem dX8_readWord_96 : decode cX8_readWord 96 = .ok (.dup, 1) := by decide +kernel
theorem dX8_readWord_97 : decode cX8_readWord 97 = .ok (.getfield 151, 3) := by decide +kernel
theorem dX8_readWord_100 : decode cX8_readWord 100 = .ok (.iconst 1, 1) := by decide +kernel
theorem dX8_readWord_101 : decode cX8_readWord 101 = .ok (.iadd, 1) := by decide +kernel
theorem dX8_readWord_102 : decode cX8_readWord 102 = .ok (.putfield 151, 3) := by decide +kernel
theorem dX8_readWord_105 : decode cX8_readWord 105 = .ok (.goto (-87), 3) := by decide +kernel
theorem dX8_readWord_108 : decode cX8_readWord 108 = .ok (.return_, 1) := by decide +kernel
theorem dX8_code_0 : decode cX8_code 0 = .ok (.ldc2_w 162, 3) := by decide +kernel
theorem dX8_code_3 : decode cX8_code 3 = .ok (.ldc2_w 162, 3) := by decide +kernel
theorem dX8_code_6 : decode cX8_code 6 = .ok (.iload_n 0, 1) := by decide +kernel
theorem dX8_code_7 : decode cX8_code 7 = .ok (.i2l, 1) := by decide +kernel
theorem dX8_code_8 : decode cX8_code 8 = .ok (.ldc2_w 164, 3) := by decide +kernel
theorem dX8_code_11 : decode cX8_code 11 = .ok (.lsub, 1) := by decide +kernel
theorem dX8_code_12 : decode cX8_code 12 = .ok (.lmul, 1) := by decide +kernel
theorem dX8_code_13 : decode cX8_code 13 = .ok (.iload_n 1, 1) := by decide +kernel
theorem dX8_code_14 : decode cX8_code 14 = .ok (.i2l, 1) := by decide +kernel
theorem dX8_code_15 : decode cX8_code 15 = .ok (.ladd, 1) := by decide +kernel
theorem dX8_code_16 : decode cX8_code 16 = .ok (.ldc2_w 164, 3) := by decide +kernel
theorem dX8_code_19 : decode cX8_code 19 = .ok (.lsub, 1) := by decide +kernel
theorem dX8_code_20 : decode cX8_code 20 = .ok (.lmul, 1) := by decide +kernel
theorem dX8_code_21 : decode cX8_code 21 = .ok (.iload_n 2, 1) := by decide +kernel
theorem dX8_code_22 : decode cX8_code 22 = .ok (.i2l, 1) := by decide +kernel
theorem dX8_code_23 : decode cX8_code 23 = .ok (.ladd, 1) := by decide +kernel
theorem dX8_code_24 : decode cX8_code 24 = .ok (.ldc2_w 164, 3) := by decide +kernel
theorem dX8_code_27 : decode cX8_code 27 = .ok (.lsub, 1) := by decide +kernel
theorem dX8_code_28 : decode cX8_code 28 = .ok (.lreturn, 1) := by decide +kernel
theorem dX8_longer_0 : decode cX8_longer 0 = .ok (.ldc2_w 162, 3) := by decide +kernel
theorem dX8_longer_3 : decode cX8_longer 3 = .ok (.ldc2_w 162, 3) := by decide +kernel
theorem dX8_longer_6 : decode cX8_longer 6 = .ok (.lload_n 0, 1) := by decide +kernel
theorem dX8_longer_7 : decode cX8_longer 7 = .ok (.lmul, 1) := by decide +kernel
theorem dX8_longer_8 : decode cX8_longer 8 = .ok (.iload_n 2, 1) := by decide +kernel
theorem dX8_longer_9 : decode cX8_longer 9 = .ok (.i2l, 1) := by decide +kernel
theorem dX8_longer_10 : decode cX8_longer 10 = .ok (.ladd, 1) := by decide +kernel
theorem dX8_longer_11 : decode cX8_longer 11 = .ok (.ldc2_w 164, 3) := by decide +kernel
theorem dX8_longer_14 : decode cX8_longer 14 = .ok (.lsub, 1) := by decide +kernel
theorem dX8_longer_15 : decode cX8_longer 15 = .ok (.lmul, 1) := by decide +kernel
theorem dX8_longer_16 : decode cX8_longer 16 = .ok (.iload_n 3, 1) := by decide +kernel
theorem dX8_longer_17 : decode cX8_longer 17 = .ok (.i2l, 1) := by decide +kernel
theorem dX8_longer_18 : decode cX8_longer 18 = .ok (.ladd, 1) := by decide +kernel
theorem dX8_longer_19 : decode cX8_longer 19 = .ok (.ldc2_w 164, 3) := by decide +kernel
theorem dX8_longer_22 : decode cX8_longer 22 = .ok (.lsub, 1) := by decide +kernel
theorem dX8_longer_23 : decode cX8_longer 23 = .ok (.lreturn, 1) := by decide +kernel
theorem dX8_takeNumber_0 : decode cX8_takeNumber 0 = .ok (.aload_n 0, 1) := by decide +kernel
theorem dX8_takeNumber_1 : decode cX8_takeNumber 1 = .ok (.invokevirtual 143, 3) := by decide +kernel
theorem dX8_takeNumber_4 : decode cX8_takeNumber 4 = .ok (.istore_n 3, 1) := by decide +kernel
theorem dX8_takeNumber_5 : decode cX8_takeNumber 5 = .ok (.iload_n 3, 1) := by decide +kernel
theorem dX8_takeNumber_6 : decode cX8_takeNumber 6 = .ok (.i2l, 1) := by decide +kernel
theorem dX8_takeNumber_7 : decode cX8_takeNumber 7 = .ok (.ldc2_w 166, 3) := by decide +kernel
theorem dX8_takeNumber_10 : decode cX8_takeNumber 10 = .ok (.ldc2_w 168, 3) := by decide +kernel
theorem dX8_takeNumber_13 : decode cX8_takeNumber 13 = .ok (.invokestatic 112, 3) := by decide +kernel
theorem dX8_takeNumber_16 : decode cX8_takeNumber 16 = .ok (.ifCond .ne 13, 3) := by decide +kernel
theorem dX8_takeNumber_19 : decode cX8_takeNumber 19 = .ok (.aload_n 0, 1) := by decide +kernel
theorem dX8_takeNumber_20 : decode cX8_takeNumber 20 = .ok (.iconst 1, 1) := by decide +kernel
theorem dX8_takeNumber_21 : decode cX8_takeNumber 21 = .ok (.aload_n 0, 1) := by decide +kernel
theorem dX8_takeNumber_22 : decode cX8_takeNumber 22 = .ok (.getfield 140, 3) := by decide +kernel
theorem dX8_takeNumber_25 : decode cX8_takeNumber 25 = .ok (.invokevirtual 170, 3) := by decide +kernel
theorem dX8_takeNumber_28 : decode cX8_takeNumber 28 = .ok (.ireturn, 1) := by decide +kernel
theorem dX8_takeNumber_29 : decode cX8_takeNumber 29 = .ok (.aload_n 0, 1) := by decide +kernel
theorem dX8_takeNumber_30 : decode cX8_takeNumber 30 = .ok (.aload_n 0, 1) := by decide +kernel
theorem dX8_takeNumber_31 : decode cX8_takeNumber 31 = .ok (.getfield 140, 3) := by decide +kernel
theorem dX8_takeNumber_34 : decode cX8_takeNumber 34 = .ok (.putfield 174, 3) := by decide +kernel
theorem dX8_takeNumber_37 : decode cX8_takeNumber 37 = .ok (.aload_n 0, 1) := by decide +kernel
theorem dX8_takeNumber_38 : decode cX8_takeNumber 38 = .ok (.iconst 0, 1) := by decide +kernel
theorem dX8_takeNumber_39 : decode cX8_takeNumber 39 = .ok (.putfield 177, 3) := by decide +kernel
theorem dX8_takeNumber_42 : decode cX8_takeNumber 42 = .ok (.aload_n 0, 1) := by decide +kernel
theorem dX8_takeNumber_43 : decode cX8_takeNumber 43 = .ok (.getfield 140, 3) := by decide +kernel
theorem dX8_takeNumber_46 : decode cX8_takeNumber 46 = .ok (.aload_n 0, 1) := by decide +kernel
theorem dX8_takeNumber_47 : decode cX8_takeNumber 47 = .ok (.getfield 134, 3) := by decide +kernel
theorem dX8_takeNumber_50 : decode cX8_takeNumber 50 = .ok (.if_icmp .ge 79, 3) := by decide +kernel
theorem dX8_takeNumber_53 : decode cX8_takeNumber 53 = .ok (.aload_n 0, 1) := by decide +kernel
theorem dX8_takeNumber_54 : decode cX8_takeNumber 54 = .ok (.getfield 56, 3) := by decide +kernel
theorem dX8_takeNumber_57 : decode cX8_takeNumber 57 = .ok (.aload_n 0, 1) := by decide +kernel
theorem dX8_takeNumber_58 : decode cX8_takeNumber 58 = .ok (.getfield 140, 3) := by decide +kernel
theorem dX8_takeNumber_61 : decode cX8_takeNumber 61 = .ok (.iaload, 1) := by decide +kernel
theorem dX8_takeNumber_62 : decode cX8_takeNumber 62 = .ok (.i2l, 1) := by decide +kernel
theorem dX8_takeNumber_63 : decode cX8_takeNumber 63 = .ok (.ldc2_w 166, 3) := by decide +kernel
theorem dX8_takeNumber_66 : decode cX8_takeNumber 66 = .ok (.ldc2_w 168, 3) := by decide +kernel
theorem dX8_takeNumber_69 : decode cX8_takeNumber 69 = .ok (.invokestatic 112, 3) := by decide +kernel
theorem dX8_takeNumber_72 : decode cX8_takeNumber 72 = .ok (.ifCond .eq 57, 3) := by decide +kernel
theorem dX8_takeNumber_75 : decode cX8_takeNumber 75 = .ok (.aload_n 0, 1) := by decide +kernel
theorem dX8_takeNumber_76 : decode cX8_takeNumber 76 = .ok (.aload_n 0, 1) := by decide +kernel
theorem dX8_takeNumber_77 : decode cX8_takeNumber 77 = .ok (.getfield 177, 3) := by decide +kernel
theorem dX8_takeNumber_80 : decode cX8_takeNumber 80 = .ok (.sipush 10000, 3) := by decide +kernel
theorem dX8_takeNumber_83 : decode cX8_takeNumber 83 = .ok (.if_icmp .le 10, 3) := by decide +kernel
theorem dX8_takeNumber_86 : decode cX8_takeNumber 86 = .ok (.aload_n 0, 1) := by decide +kernel
theorem dX8_takeNumber_87 : decode cX8_takeNumber 87 = .ok (.getfield 177, 3) := by decide +kernel
theorem dX8_takeNumber_90 : decode cX8_takeNumber 90 = .ok (.goto 23, 3) := by decide +kernel
theorem dX8_takeNumber_93 : decode cX8_takeNumber 93 = .ok (.bipush 10, 2) := by decide +kernel
theorem dX8_takeNumber_95 : decode cX8_takeNumber 95 = .ok (.aload_n 0, 1) := by decide +kernel
theorem dX8_takeNumber_96 : decode cX8_takeNumber 96 = .ok (.getfield 177, 3) := by decide +kernel
theorem dX8_takeNumber_99 : decode cX8_takeNumber 99 = .ok (.imul, 1) := by decide +kernel
theorem dX8_takeNumber_100 : decode cX8_takeNumber 100 = .ok (.aload_n 0, 1) := by decide +kernel
theorem dX8_takeNumber_101 : decode cX8_takeNumber 101 = .ok (.getfield 56, 3) := by decide +kernel
theorem dX8_takeNumber_104 : decode cX8_takeNumber 104 = .ok (.aload_n 0, 1) := by decide +kernel
theorem dX8_takeNumber_105 : decode cX8_takeNumber 105 = .ok (.getfield 140, 3) := by decide +kernel
theorem dX8_takeNumber_108 : decode cX8_takeNumber 108 = .ok (.iaload, 1) := by decide +kernel
theorem dX8_takeNumber_109 : decode cX8_takeNumber 109 = .ok (.iadd, 1) := by decide +kernel
theorem dX8_takeNumber_110 : decode cX8_takeNumber 110 = .ok (.bipush 48, 2) := by decide +kernel
theorem dX8_takeNumber_112 : decode cX8_takeNumber 112 = .ok (.isub, 1) := by decide +kernel
theorem dX8_takeNumber_113 : decode cX8_takeNumber 113 = .ok (.putfield 177, 3) := by decide +kernel
theorem dX8_takeNumber_116 : decode cX8_takeNumber 116 = .ok (.aload_n 0, 1) := by decide +kernel
theorem dX8_takeNumber_117 : decode cX8_takeNumber 117 = .ok (.dup, 1) := by decide +kernel
theorem dX8_takeNumber_118 : decode cX8_takeNumber 118 = .ok (.getfield 140, 3) := by decide +kernel
theorem dX8_takeNumber_121 : decode cX8_takeNumber 121 = .ok (.iconst 1, 1) := by decide +kernel
theorem dX8_takeNumber_122 : decode cX8_takeNumber 122 = .ok (.iadd, 1) := by decide +kernel
theorem dX8_takeNumber_123 : decode cX8_takeNumber 123 = .ok (.putfield 140, 3) := by decide +kernel
theorem dX8_takeNumber_126 : decode cX8_takeNumber 126 = .ok (.goto (-84), 3) := by decide +kernel
theorem dX8_takeNumber_129 : decode cX8_takeNumber 129 = .ok (.aload_n 0, 1) := by decide +kernel
theorem dX8_takeNumber_130 : decode cX8_takeNumber 130 = .ok (.getfield 140, 3) := by decide +kernel
theorem dX8_takeNumber_133 : decode cX8_takeNumber 133 = .ok (.aload_n 0, 1) := by decide +kernel
theorem dX8_takeNumber_134 : decode cX8_takeNumber 134 = .ok (.getfield 174, 3) := by decide +kernel
theorem dX8_takeNumber_137 : decode cX8_takeNumber 137 = .ok (.isub, 1) := by decide +kernel
theorem dX8_takeNumber_138 : decode cX8_takeNumber 138 = .ok (.iconst 3, 1) := by decide +kernel
theorem dX8_takeNumber_139 : decode cX8_takeNumber 139 = .ok (.if_icmp .gt 18, 3) := by decide +kernel
theorem dX8_takeNumber_142 : decode cX8_takeNumber 142 = .ok (.aload_n 0, 1) := by decide +kernel
theorem dX8_takeNumber_143 : decode cX8_takeNumber 143 = .ok (.getfield 177, 3) := by decide +kernel
theorem dX8_takeNumber_146 : decode cX8_takeNumber 146 = .ok (.i2l, 1) := by decide +kernel
theorem dX8_takeNumber_147 : decode cX8_takeNumber 147 = .ok (.iload_n 1, 1) := by decide +kernel
theorem dX8_takeNumber_148 : decode cX8_takeNumber 148 = .ok (.i2l, 1) := by decide +kernel
theorem dX8_takeNumber_149 : decode cX8_takeNumber 149 = .ok (.iload_n 2, 1) := by decide +kernel
theorem dX8_takeNumber_150 : decode cX8_takeNumber 150 = .ok (.i2l, 1) := by decide +kernel
theorem dX8_takeNumber_151 : decode cX8_takeNumber 151 = .ok (.invokestatic 112, 3) := by decide +kernel
theorem dX8_takeNumber_154 : decode cX8_takeNumber 154 = .ok (.ifCond .ne 15, 3) := by decide +kernel
theorem dX8_takeNumber_157 : decode cX8_takeNumber 157 = .ok (.aload_n 0, 1) := by decide +kernel
theorem dX8_takeNumber_158 : decode cX8_takeNumber 158 = .ok (.iconst 2, 1) := by decide +kernel
theorem dX8_takeNumber_159 : decode cX8_takeNumber 159 = .ok (.aload_n 0, 1) := by decide +kernel
theorem dX8_takeNumber_160 : decode cX8_takeNumber 160 = .ok (.getfield 174, 3) := by decide +kernel
theorem dX8_takeNumber_163 : decode cX8_takeNumber 163 = .ok (.invokevirtual 170, 3) := by decide +kernel
theorem dX8_takeNumber_166 : decode cX8_takeNumber 166 = .ok (.goto 4, 3) := by decide +kernel
theorem dX8_takeNumber_169 : decode cX8_takeNumber 169 = .ok (.iconst 0, 1) := by decide +kernel
theorem dX8_takeNumber_170 : decode cX8_takeNumber 170 = .ok (.ireturn, 1) := by decide +kernel
theorem dX8_into_0 : decode cX8_into 0 = .ok (.aload_n 0, 1) := by decide +kernel
theorem dX8_into_1 : decode cX8_into 1 = .ok (.iload_n 3, 1) := by decide +kernel
theorem dX8_into_2 : decode cX8_into 2 = .ok (.iload 4, 2) := by decide +kernel
theorem dX8_into_4 : decode cX8_into 4 = .ok (.invokevirtual 180, 3) := by decide +kernel
theorem dX8_into_7 : decode cX8_into 7 = .ok (.istore 5, 2) := by decide +kernel
theorem dX8_into_9 : decode cX8_into 9 = .ok (.aload_n 1, 1) := by decide +kernel
theorem dX8_into_10 : decode cX8_into 10 = .ok (.iload_n 2, 1) := by decide +kernel
theorem dX8_into_11 : decode cX8_into 11 = .ok (.aload_n 0, 1) := by decide +kernel
theorem dX8_into_12 : decode cX8_into 12 = .ok (.getfield 177, 3) := by decide +kernel
theorem dX8_into_15 : decode cX8_into 15 = .ok (.iastore, 1) := by decide +kernel
theorem dX8_into_16 : decode cX8_into 16 = .ok (.iload 5, 2) := by decide +kernel
theorem dX8_into_18 : decode cX8_into 18 = .ok (.ireturn, 1) := by decide +kernel
theorem dX8_takeHouse_0 : decode cX8_takeHouse 0 = .ok (.aload_n 0, 1) := by decide +kernel
theorem dX8_takeHouse_1 : decode cX8_takeHouse 1 = .ok (.getfield 183, 3) := by decide +kernel
theorem dX8_takeHouse_4 : decode cX8_takeHouse 4 = .ok (.istore_n 1, 1) := by decide +kernel
theorem dX8_takeHouse_5 : decode cX8_takeHouse 5 = .ok (.aload_n 0, 1) := by decide +kernel
theorem dX8_takeHouse_6 : decode cX8_takeHouse 6 = .ok (.dup, 1) := by decide +kernel
theorem dX8_takeHouse_7 : decode cX8_takeHouse 7 = .ok (.getfield 183, 3) := by decide +kernel
theorem dX8_takeHouse_10 : decode cX8_takeHouse 10 = .ok (.iconst 1, 1) := by decide +kernel
theorem dX8_takeHouse_11 : decode cX8_takeHouse 11 = .ok (.iadd, 1) := by decide +kernel
theorem dX8_takeHouse_12 : decode cX8_takeHouse 12 = .ok (.putfield 183, 3) := by decide +kernel
theorem dX8_takeHouse_15 : decode cX8_takeHouse 15 = .ok (.aload_n 0, 1) := by decide +kernel
theorem dX8_takeHouse_16 : decode cX8_takeHouse 16 = .ok (.aload_n 0, 1) := by decide +kernel
theorem dX8_takeHouse_17 : decode cX8_takeHouse 17 = .ok (.getfield 62, 3) := by decide +kernel
theorem dX8_takeHouse_20 : decode cX8_takeHouse 20 = .ok (.iload_n 1, 1) := by decide +kernel
theorem dX8_takeHouse_21 : decode cX8_takeHouse 21 = .ok (.iconst 1, 1) := by decide +kernel
theorem dX8_takeHouse_22 : decode cX8_takeHouse 22 = .ok (.bipush 7, 2) := by decide +kernel
theorem dX8_takeHouse_24 : decode cX8_takeHouse 24 = .ok (.invokevirtual 186, 3) := by decide +kernel
theorem dX8_takeHouse_27 : decode cX8_takeHouse 27 = .ok (.istore_n 2, 1) := by decide +kernel
theorem dX8_takeHouse_28 : decode cX8_takeHouse 28 = .ok (.iload_n 2, 1) := by decide +kernel
theorem dX8_takeHouse_29 : decode cX8_takeHouse 29 = .ok (.ifCond .le 7, 3) := by decide +kernel
theorem dX8_takeHouse_32 : decode cX8_takeHouse 32 = .ok (.iload_n 2, 1) := by decide +kernel
theorem dX8_takeHouse_33 : decode cX8_takeHouse 33 = .ok (.goto 16, 3) := by decide +kernel
theorem dX8_takeHouse_36 : decode cX8_takeHouse 36 = .ok (.aload_n 0, 1) := by decide +kernel
theorem dX8_takeHouse_37 : decode cX8_takeHouse 37 = .ok (.aload_n 0, 1) := by decide +kernel
theorem dX8_takeHouse_38 : decode cX8_takeHouse 38 = .ok (.getfield 65, 3) := by decide +kernel
theorem dX8_takeHouse_41 : decode cX8_takeHouse 41 = .ok (.iload_n 1, 1) := by decide +kernel
theorem dX8_takeHouse_42 : decode cX8_takeHouse 42 = .ok (.iconst 0, 1) := by decide +kernel
theorem dX8_takeHouse_43 : decode cX8_takeHouse 43 = .ok (.sipush 999, 3) := by decide +kernel
theorem dX8_takeHouse_46 : decode cX8_takeHouse 46 = .ok (.invokevirtual 186, 3) := by decide +kernel
theorem dX8_takeHouse_49 : decode cX8_takeHouse 49 = .ok (.istore_n 2, 1) := by decide +kernel
theorem dX8_takeHouse_50 : decode cX8_takeHouse 50 = .ok (.iload_n 2, 1) := by decide +kernel
theorem dX8_takeHouse_51 : decode cX8_takeHouse 51 = .ok (.ifCond .le 7, 3) := by decide +kernel
theorem dX8_takeHouse_54 : decode cX8_takeHouse 54 = .ok (.iload_n 2, 1) := by decide +kernel
theorem dX8_takeHouse_55 : decode cX8_takeHouse 55 = .ok (.goto 15, 3) := by decide +kernel
theorem dX8_takeHouse_58 : decode cX8_takeHouse 58 = .ok (.aload_n 0, 1) := by decide +kernel
theorem dX8_takeHouse_59 : decode cX8_takeHouse 59 = .ok (.aload_n 0, 1) := by decide +kernel
theorem dX8_takeHouse_60 : decode cX8_takeHouse 60 = .ok (.getfield 68, 3) := by decide +kernel
theorem dX8_takeHouse_63 : decode cX8_takeHouse 63 = .ok (.iload_n 1, 1) := by decide +kernel
theorem dX8_takeHouse_64 : decode cX8_takeHouse 64 = .ok (.iconst 0, 1) := by decide +kernel
theorem dX8_takeHouse_65 : decode cX8_takeHouse 65 = .ok (.bipush 60, 2) := by decide +kernel
theorem dX8_takeHouse_67 : decode cX8_takeHouse 67 = .ok (.invokevirtual 186, 3) := by decide +kernel
theorem dX8_takeHouse_70 : decode cX8_takeHouse 70 = .ok (.ireturn, 1) := by decide +kernel
theorem dX8_takeSleeper_0 : decode cX8_takeSleeper 0 = .ok (.aload_n 0, 1) := by decide +kernel
theorem dX8_takeSleeper_1 : decode cX8_takeSleeper 1 = .ok (.getfield 190, 3) := by decide +kernel
theorem dX8_takeSleeper_4 : decode cX8_takeSleeper 4 = .ok (.istore_n 1, 1) := by decide +kernel
theorem dX8_takeSleeper_5 : decode cX8_takeSleeper 5 = .ok (.aload_n 0, 1) := by decide +kernel
theorem dX8_takeSleeper_6 : decode cX8_takeSleeper 6 = .ok (.dup, 1) := by decide +kernel
theorem dX8_takeSleeper_7 : decode cX8_takeSleeper 7 = .ok (.getfield 190, 3) := by decide +kernel
theorem dX8_takeSleeper_10 : decode cX8_takeSleeper 10 = .ok (.iconst 1, 1) := by decide +kernel
theorem dX8_takeSleeper_11 : decode cX8_takeSleeper 11 = .ok (.iadd, 1) := by decide +kernel
theorem dX8_takeSleeper_12 : decode cX8_takeSleeper 12 = .ok (.putfield 190, 3) := by decide +kernel
theorem dX8_takeSleeper_15 : decode cX8_takeSleeper 15 = .ok (.aload_n 0, 1) := by decide +kernel
theorem dX8_takeSleeper_16 : decode cX8_takeSleeper 16 = .ok (.aload_n 0, 1) := by decide +kernel
theorem dX8_takeSleeper_17 : decode cX8_takeSleeper 17 = .ok (.getfield 71, 3) := by decide +kernel
end
section
theorem dX8_takeSleeper_20 : decode cX8_takeSleeper 20 = .ok (.iload_n 1, 1) := by decide +kernel
theorem dX8_takeSleeper_21 : decode cX8_takeSleeper 21 = .ok (.iconst 0, 1) := by decide +kernel
theorem dX8_takeSleeper_22 : decode cX8_takeSleeper 22 = .ok (.aload_n 0, 1) := by decide +kernel
theorem dX8_takeSleeper_23 : decode cX8_takeSleeper 23 = .ok (.getfield 183, 3) := by decide +kernel
theorem dX8_takeSleeper_26 : decode cX8_takeSleeper 26 = .ok (.iconst 1, 1) := by decide +kernel
theorem dX8_takeSleeper_27 : decode cX8_takeSleeper 27 = .ok (.isub, 1) := by decide +kernel
theorem dX8_takeSleeper_28 : decode cX8_takeSleeper 28 = .ok (.invokevirtual 186, 3) := by decide +kernel
theorem dX8_takeSleeper_31 : decode cX8_takeSleeper 31 = .ok (.istore_n 2, 1) := by decide +kernel
theorem dX8_takeSleeper_32 : decode cX8_takeSleeper 32 = .ok (.iload_n 2, 1) := by decide +kernel
theorem dX8_takeSleeper_33 : decode cX8_takeSleeper 33 = .ok (.ifCond .le 7, 3) := by decide +kernel
theorem dX8_takeSleeper_36 : decode cX8_takeSleeper 36 = .ok (.iload_n 2, 1) := by decide +kernel
theorem dX8_takeSleeper_37 : decode cX8_takeSleeper 37 = .ok (.goto 17, 3) := by decide +kernel
theorem dX8_takeSleeper_40 : decode cX8_takeSleeper 40 = .ok (.aload_n 0, 1) := by decide +kernel
theorem dX8_takeSleeper_41 : decode cX8_takeSleeper 41 = .ok (.aload_n 0, 1) := by decide +kernel
theorem dX8_takeSleeper_42 : decode cX8_takeSleeper 42 = .ok (.getfield 74, 3) := by decide +kernel
theorem dX8_takeSleeper_45 : decode cX8_takeSleeper 45 = .ok (.iload_n 1, 1) := by decide +kernel
theorem dX8_takeSleeper_46 : decode cX8_takeSleeper 46 = .ok (.bipush 60, 2) := by decide +kernel
theorem dX8_takeSleeper_48 : decode cX8_takeSleeper 48 = .ok (.sipush 600, 3) := by decide +kernel
theorem dX8_takeSleeper_51 : decode cX8_takeSleeper 51 = .ok (.invokevirtual 186, 3) := by decide +kernel
theorem dX8_takeSleeper_54 : decode cX8_takeSleeper 54 = .ok (.istore_n 2, 1) := by decide +kernel
theorem dX8_takeSleeper_55 : decode cX8_takeSleeper 55 = .ok (.iload_n 2, 1) := by decide +kernel
theorem dX8_takeSleeper_56 : decode cX8_takeSleeper 56 = .ok (.ifCond .le 7, 3) := by decide +kernel
theorem dX8_takeSleeper_59 : decode cX8_takeSleeper 59 = .ok (.iload_n 2, 1) := by decide +kernel
theorem dX8_takeSleeper_60 : decode cX8_takeSleeper 60 = .ok (.goto 15, 3) := by decide +kernel
theorem dX8_takeSleeper_63 : decode cX8_takeSleeper 63 = .ok (.aload_n 0, 1) := by decide +kernel
theorem dX8_takeSleeper_64 : decode cX8_takeSleeper 64 = .ok (.aload_n 0, 1) := by decide +kernel
theorem dX8_takeSleeper_65 : decode cX8_takeSleeper 65 = .ok (.getfield 77, 3) := by decide +kernel
theorem dX8_takeSleeper_68 : decode cX8_takeSleeper 68 = .ok (.iload_n 1, 1) := by decide +kernel
theorem dX8_takeSleeper_69 : decode cX8_takeSleeper 69 = .ok (.iconst 0, 1) := by decide +kernel
theorem dX8_takeSleeper_70 : decode cX8_takeSleeper 70 = .ok (.bipush 59, 2) := by decide +kernel
theorem dX8_takeSleeper_72 : decode cX8_takeSleeper 72 = .ok (.invokevirtual 186, 3) := by decide +kernel
theorem dX8_takeSleeper_75 : decode cX8_takeSleeper 75 = .ok (.istore_n 2, 1) := by decide +kernel
theorem dX8_takeSleeper_76 : decode cX8_takeSleeper 76 = .ok (.iload_n 2, 1) := by decide +kernel
theorem dX8_takeSleeper_77 : decode cX8_takeSleeper 77 = .ok (.ifCond .le 7, 3) := by decide +kernel
theorem dX8_takeSleeper_80 : decode cX8_takeSleeper 80 = .ok (.iload_n 2, 1) := by decide +kernel
theorem dX8_takeSleeper_81 : decode cX8_takeSleeper 81 = .ok (.goto 15, 3) := by decide +kernel
theorem dX8_takeSleeper_84 : decode cX8_takeSleeper 84 = .ok (.aload_n 0, 1) := by decide +kernel
theorem dX8_takeSleeper_85 : decode cX8_takeSleeper 85 = .ok (.aload_n 0, 1) := by decide +kernel
theorem dX8_takeSleeper_86 : decode cX8_takeSleeper 86 = .ok (.getfield 80, 3) := by decide +kernel
theorem dX8_takeSleeper_89 : decode cX8_takeSleeper 89 = .ok (.iload_n 1, 1) := by decide +kernel
theorem dX8_takeSleeper_90 : decode cX8_takeSleeper 90 = .ok (.iconst 0, 1) := by decide +kernel
theorem dX8_takeSleeper_91 : decode cX8_takeSleeper 91 = .ok (.bipush 9, 2) := by decide +kernel
theorem dX8_takeSleeper_93 : decode cX8_takeSleeper 93 = .ok (.invokevirtual 186, 3) := by decide +kernel
theorem dX8_takeSleeper_96 : decode cX8_takeSleeper 96 = .ok (.ireturn, 1) := by decide +kernel
theorem dX8_takeClause_0 : decode cX8_takeClause 0 = .ok (.aload_n 0, 1) := by decide +kernel
theorem dX8_takeClause_1 : decode cX8_takeClause 1 = .ok (.invokevirtual 193, 3) := by decide +kernel
theorem dX8_takeClause_4 : decode cX8_takeClause 4 = .ok (.aload_n 0, 1) := by decide +kernel
theorem dX8_takeClause_5 : decode cX8_takeClause 5 = .ok (.getfield 147, 3) := by decide +kernel
theorem dX8_takeClause_8 : decode cX8_takeClause 8 = .ok (.bipush 104, 2) := by decide +kernel
theorem dX8_takeClause_10 : decode cX8_takeClause 10 = .ok (.bipush 111, 2) := by decide +kernel
theorem dX8_takeClause_12 : decode cX8_takeClause 12 = .ok (.bipush 117, 2) := by decide +kernel
theorem dX8_takeClause_14 : decode cX8_takeClause 14 = .ok (.invokestatic 196, 3) := by decide +kernel
theorem dX8_takeClause_17 : decode cX8_takeClause 17 = .ok (.bipush 115, 2) := by decide +kernel
theorem dX8_takeClause_19 : decode cX8_takeClause 19 = .ok (.bipush 101, 2) := by decide +kernel
theorem dX8_takeClause_21 : decode cX8_takeClause 21 = .ok (.invokestatic 200, 3) := by decide +kernel
theorem dX8_takeClause_24 : decode cX8_takeClause 24 = .ok (.lcmp, 1) := by decide +kernel
theorem dX8_takeClause_25 : decode cX8_takeClause 25 = .ok (.ifCond .ne 7, 3) := by decide +kernel
theorem dX8_takeClause_28 : decode cX8_takeClause 28 = .ok (.iconst 1, 1) := by decide +kernel
theorem dX8_takeClause_29 : decode cX8_takeClause 29 = .ok (.goto 4, 3) := by decide +kernel
theorem dX8_takeClause_32 : decode cX8_takeClause 32 = .ok (.iconst 0, 1) := by decide +kernel
theorem dX8_takeClause_33 : decode cX8_takeClause 33 = .ok (.istore_n 1, 1) := by decide +kernel
theorem dX8_takeClause_34 : decode cX8_takeClause 34 = .ok (.iload_n 1, 1) := by decide +kernel
theorem dX8_takeClause_35 : decode cX8_takeClause 35 = .ok (.ifCond .ne 44, 3) := by decide +kernel
theorem dX8_takeClause_38 : decode cX8_takeClause 38 = .ok (.aload_n 0, 1) := by decide +kernel
theorem dX8_takeClause_39 : decode cX8_takeClause 39 = .ok (.getfield 147, 3) := by decide +kernel
theorem dX8_takeClause_42 : decode cX8_takeClause 42 = .ok (.bipush 115, 2) := by decide +kernel
theorem dX8_takeClause_44 : decode cX8_takeClause 44 = .ok (.bipush 108, 2) := by decide +kernel
theorem dX8_takeClause_46 : decode cX8_takeClause 46 = .ok (.bipush 101, 2) := by decide +kernel
theorem dX8_takeClause_48 : decode cX8_takeClause 48 = .ok (.invokestatic 196, 3) := by decide +kernel
theorem dX8_takeClause_51 : decode cX8_takeClause 51 = .ok (.bipush 101, 2) := by decide +kernel
theorem dX8_takeClause_53 : decode cX8_takeClause 53 = .ok (.bipush 112, 2) := by decide +kernel
theorem dX8_takeClause_55 : decode cX8_takeClause 55 = .ok (.invokestatic 200, 3) := by decide +kernel
theorem dX8_takeClause_58 : decode cX8_takeClause 58 = .ok (.bipush 101, 2) := by decide +kernel
theorem dX8_takeClause_60 : decode cX8_takeClause 60 = .ok (.bipush 114, 2) := by decide +kernel
theorem dX8_takeClause_62 : decode cX8_takeClause 62 = .ok (.invokestatic 200, 3) := by decide +kernel
theorem dX8_takeClause_65 : decode cX8_takeClause 65 = .ok (.lcmp, 1) := by decide +kernel
theorem dX8_takeClause_66 : decode cX8_takeClause 66 = .ok (.ifCond .eq 13, 3) := by decide +kernel
theorem dX8_takeClause_69 : decode cX8_takeClause 69 = .ok (.aload_n 0, 1) := by decide +kernel
theorem dX8_takeClause_70 : decode cX8_takeClause 70 = .ok (.iconst 1, 1) := by decide +kernel
theorem dX8_takeClause_71 : decode cX8_takeClause 71 = .ok (.aload_n 0, 1) := by decide +kernel
theorem dX8_takeClause_72 : decode cX8_takeClause 72 = .ok (.getfield 140, 3) := by decide +kernel
theorem dX8_takeClause_75 : decode cX8_takeClause 75 = .ok (.invokevirtual 170, 3) := by decide +kernel
theorem dX8_takeClause_78 : decode cX8_takeClause 78 = .ok (.ireturn, 1) := by decide +kernel
theorem dX8_takeClause_79 : decode cX8_takeClause 79 = .ok (.iload_n 1, 1) := by decide +kernel
theorem dX8_takeClause_80 : decode cX8_takeClause 80 = .ok (.ifCond .eq 14, 3) := by decide +kernel
theorem dX8_takeClause_83 : decode cX8_takeClause 83 = .ok (.aload_n 0, 1) := by decide +kernel
theorem dX8_takeClause_84 : decode cX8_takeClause 84 = .ok (.getfield 183, 3) := by decide +kernel
theorem dX8_takeClause_87 : decode cX8_takeClause 87 = .ok (.iconst 5, 1) := by decide +kernel
theorem dX8_takeClause_88 : decode cX8_takeClause 88 = .ok (.if_icmp .ne 25, 3) := by decide +kernel
theorem dX8_takeClause_91 : decode cX8_takeClause 91 = .ok (.goto 12, 3) := by decide +kernel
theorem dX8_takeClause_94 : decode cX8_takeClause 94 = .ok (.aload_n 0, 1) := by decide +kernel
theorem dX8_takeClause_95 : decode cX8_takeClause 95 = .ok (.getfield 190, 3) := by decide +kernel
theorem dX8_takeClause_98 : decode cX8_takeClause 98 = .ok (.bipush 8, 2) := by decide +kernel
theorem dX8_takeClause_100 : decode cX8_takeClause 100 = .ok (.if_icmp .ne 13, 3) := by decide +kernel
theorem dX8_takeClause_103 : decode cX8_takeClause 103 = .ok (.aload_n 0, 1) := by decide +kernel
theorem dX8_takeClause_104 : decode cX8_takeClause 104 = .ok (.iconst 3, 1) := by decide +kernel
theorem dX8_takeClause_105 : decode cX8_takeClause 105 = .ok (.aload_n 0, 1) := by decide +kernel
theorem dX8_takeClause_106 : decode cX8_takeClause 106 = .ok (.getfield 140, 3) := by decide +kernel
theorem dX8_takeClause_109 : decode cX8_takeClause 109 = .ok (.invokevirtual 170, 3) := by decide +kernel
theorem dX8_takeClause_112 : decode cX8_takeClause 112 = .ok (.ireturn, 1) := by decide +kernel
theorem dX8_takeClause_113 : decode cX8_takeClause 113 = .ok (.aload_n 0, 1) := by decide +kernel
theorem dX8_takeClause_114 : decode cX8_takeClause 114 = .ok (.aload_n 0, 1) := by decide +kernel
theorem dX8_takeClause_115 : decode cX8_takeClause 115 = .ok (.getfield 151, 3) := by decide +kernel
theorem dX8_takeClause_118 : decode cX8_takeClause 118 = .ok (.putfield 140, 3) := by decide +kernel
theorem dX8_takeClause_121 : decode cX8_takeClause 121 = .ok (.iload_n 1, 1) := by decide +kernel
theorem dX8_takeClause_122 : decode cX8_takeClause 122 = .ok (.ifCond .eq 10, 3) := by decide +kernel
theorem dX8_takeClause_125 : decode cX8_takeClause 125 = .ok (.aload_n 0, 1) := by decide +kernel
theorem dX8_takeClause_126 : decode cX8_takeClause 126 = .ok (.invokevirtual 204, 3) := by decide +kernel
theorem dX8_takeClause_129 : decode cX8_takeClause 129 = .ok (.goto 7, 3) := by decide +kernel
theorem dX8_takeClause_132 : decode cX8_takeClause 132 = .ok (.aload_n 0, 1) := by decide +kernel
theorem dX8_takeClause_133 : decode cX8_takeClause 133 = .ok (.invokevirtual 207, 3) := by decide +kernel
theorem dX8_takeClause_136 : decode cX8_takeClause 136 = .ok (.istore_n 2, 1) := by decide +kernel
theorem dX8_takeClause_137 : decode cX8_takeClause 137 = .ok (.iload_n 2, 1) := by decide +kernel
theorem dX8_takeClause_138 : decode cX8_takeClause 138 = .ok (.ifCond .ne 22, 3) := by decide +kernel
theorem dX8_takeClause_141 : decode cX8_takeClause 141 = .ok (.aload_n 0, 1) := by decide +kernel
theorem dX8_takeClause_142 : decode cX8_takeClause 142 = .ok (.invokevirtual 143, 3) := by decide +kernel
theorem dX8_takeClause_145 : decode cX8_takeClause 145 = .ok (.bipush 59, 2) := by decide +kernel
theorem dX8_takeClause_147 : decode cX8_takeClause 147 = .ok (.if_icmp .eq 13, 3) := by decide +kernel
theorem dX8_takeClause_150 : decode cX8_takeClause 150 = .ok (.aload_n 0, 1) := by decide +kernel
theorem dX8_takeClause_151 : decode cX8_takeClause 151 = .ok (.iconst 1, 1) := by decide +kernel
theorem dX8_takeClause_152 : decode cX8_takeClause 152 = .ok (.aload_n 0, 1) := by decide +kernel
theorem dX8_takeClause_153 : decode cX8_takeClause 153 = .ok (.getfield 140, 3) := by decide +kernel
theorem dX8_takeClause_156 : decode cX8_takeClause 156 = .ok (.invokevirtual 170, 3) := by decide +kernel
theorem dX8_takeClause_159 : decode cX8_takeClause 159 = .ok (.ireturn, 1) := by decide +kernel
theorem dX8_takeClause_160 : decode cX8_takeClause 160 = .ok (.aload_n 0, 1) := by decide +kernel
theorem dX8_takeClause_161 : decode cX8_takeClause 161 = .ok (.dup, 1) := by decide +kernel
theorem dX8_takeClause_162 : decode cX8_takeClause 162 = .ok (.getfield 140, 3) := by decide +kernel
theorem dX8_takeClause_165 : decode cX8_takeClause 165 = .ok (.iconst 1, 1) := by decide +kernel
theorem dX8_takeClause_166 : decode cX8_takeClause 166 = .ok (.iadd, 1) := by decide +kernel
theorem dX8_takeClause_167 : decode cX8_takeClause 167 = .ok (.putfield 140, 3) := by decide +kernel
theorem dX8_takeClause_170 : decode cX8_takeClause 170 = .ok (.iload_n 2, 1) := by decide +kernel
theorem dX8_takeClause_171 : decode cX8_takeClause 171 = .ok (.ireturn, 1) := by decide +kernel
theorem dX8_valley_0 : decode cX8_valley 0 = .ok (.aload_n 0, 1) := by decide +kernel
theorem dX8_valley_1 : decode cX8_valley 1 = .ok (.iconst (-1), 1) := by decide +kernel
theorem dX8_valley_2 : decode cX8_valley 2 = .ok (.putfield 59, 3) := by decide +kernel
theorem dX8_valley_5 : decode cX8_valley 5 = .ok (.aload_n 0, 1) := by decide +kernel
theorem dX8_valley_6 : decode cX8_valley 6 = .ok (.iconst 0, 1) := by decide +kernel
theorem dX8_valley_7 : decode cX8_valley 7 = .ok (.putfield 140, 3) := by decide +kernel
theorem dX8_valley_10 : decode cX8_valley 10 = .ok (.aload_n 0, 1) := by decide +kernel
theorem dX8_valley_11 : decode cX8_valley 11 = .ok (.iconst 0, 1) := by decide +kernel
theorem dX8_valley_12 : decode cX8_valley 12 = .ok (.putfield 183, 3) := by decide +kernel
theorem dX8_valley_15 : decode cX8_valley 15 = .ok (.aload_n 0, 1) := by decide +kernel
theorem dX8_valley_16 : decode cX8_valley 16 = .ok (.iconst 0, 1) := by decide +kernel
theorem dX8_valley_17 : decode cX8_valley 17 = .ok (.putfield 190, 3) := by decide +kernel
theorem dX8_valley_20 : decode cX8_valley 20 = .ok (.iconst 0, 1) := by decide +kernel
theorem dX8_valley_21 : decode cX8_valley 21 = .ok (.istore_n 1, 1) := by decide +kernel
theorem dX8_valley_22 : decode cX8_valley 22 = .ok (.iload_n 1, 1) := by decide +kernel
theorem dX8_valley_23 : decode cX8_valley 23 = .ok (.ifCond .ne 18, 3) := by decide +kernel
theorem dX8_valley_26 : decode cX8_valley 26 = .ok (.aload_n 0, 1) := by decide +kernel
theorem dX8_valley_27 : decode cX8_valley 27 = .ok (.invokevirtual 143, 3) := by decide +kernel
theorem dX8_valley_30 : decode cX8_valley 30 = .ok (.ifCond .lt 11, 3) := by decide +kernel
theorem dX8_valley_33 : decode cX8_valley 33 = .ok (.aload_n 0, 1) := by decide +kernel
theorem dX8_valley_34 : decode cX8_valley 34 = .ok (.invokevirtual 210, 3) := by decide +kernel
theorem dX8_valley_37 : decode cX8_valley 37 = .ok (.istore_n 1, 1) := by decide +kernel
theorem dX8_valley_38 : decode cX8_valley 38 = .ok (.goto (-16), 3) := by decide +kernel
theorem dX8_valley_41 : decode cX8_valley 41 = .ok (.aload_n 0, 1) := by decide +kernel
theorem dX8_valley_42 : decode cX8_valley 42 = .ok (.iconst 0, 1) := by decide +kernel
theorem dX8_valley_43 : decode cX8_valley 43 = .ok (.putfield 134, 3) := by decide +kernel
theorem dX8_valley_46 : decode cX8_valley 46 = .ok (.iload_n 1, 1) := by decide +kernel
theorem dX8_valley_47 : decode cX8_valley 47 = .ok (.ifCond .le 8, 3) := by decide +kernel
theorem dX8_valley_50 : decode cX8_valley 50 = .ok (.bipush (-10), 2) := by decide +kernel
theorem dX8_valley_52 : decode cX8_valley 52 = .ok (.iload_n 1, 1) := by decide +kernel
theorem dX8_valley_53 : decode cX8_valley 53 = .ok (.isub, 1) := by decide +kernel
theorem dX8_valley_54 : decode cX8_valley 54 = .ok (.ireturn, 1) := by decide +kernel
theorem dX8_valley_55 : decode cX8_valley 55 = .ok (.aload_n 0, 1) := by decide +kernel
theorem dX8_valley_56 : decode cX8_valley 56 = .ok (.aload_n 0, 1) := by decide +kernel
theorem dX8_valley_57 : decode cX8_valley 57 = .ok (.getfield 183, 3) := by decide +kernel
theorem dX8_valley_60 : decode cX8_valley 60 = .ok (.putfield 109, 3) := by decide +kernel
theorem dX8_valley_63 : decode cX8_valley 63 = .ok (.aload_n 0, 1) := by decide +kernel
theorem dX8_valley_64 : decode cX8_valley 64 = .ok (.aload_n 0, 1) := by decide +kernel
theorem dX8_valley_65 : decode cX8_valley 65 = .ok (.getfield 190, 3) := by decide +kernel
theorem dX8_valley_68 : decode cX8_valley 68 = .ok (.putfield 116, 3) := by decide +kernel
theorem dX8_valley_71 : decode cX8_valley 71 = .ok (.iconst 0, 1) := by decide +kernel
theorem dX8_valley_72 : decode cX8_valley 72 = .ok (.istore_n 2, 1) := by decide +kernel
theorem dX8_valley_73 : decode cX8_valley 73 = .ok (.iload_n 2, 1) := by decide +kernel
theorem dX8_valley_74 : decode cX8_valley 74 = .ok (.iconst 5, 1) := by decide +kernel
theorem dX8_valley_75 : decode cX8_valley 75 = .ok (.if_icmp .ge 45, 3) := by decide +kernel
theorem dX8_valley_78 : decode cX8_valley 78 = .ok (.aload_n 0, 1) := by decide +kernel
theorem dX8_valley_79 : decode cX8_valley 79 = .ok (.getfield 7, 3) := by decide +kernel
theorem dX8_valley_82 : decode cX8_valley 82 = .ok (.iload_n 2, 1) := by decide +kernel
theorem dX8_valley_83 : decode cX8_valley 83 = .ok (.aload_n 0, 1) := by decide +kernel
theorem dX8_valley_84 : decode cX8_valley 84 = .ok (.getfield 62, 3) := by decide +kernel
theorem dX8_valley_87 : decode cX8_valley 87 = .ok (.iload_n 2, 1) := by decide +kernel
theorem dX8_valley_88 : decode cX8_valley 88 = .ok (.iaload, 1) := by decide +kernel
theorem dX8_valley_89 : decode cX8_valley 89 = .ok (.iastore, 1) := by decide +kernel
theorem dX8_valley_90 : decode cX8_valley 90 = .ok (.aload_n 0, 1) := by decide +kernel
theorem dX8_valley_91 : decode cX8_valley 91 = .ok (.getfield 13, 3) := by decide +kernel
theorem dX8_valley_94 : decode cX8_valley 94 = .ok (.iload_n 2, 1) := by decide +kernel
theorem dX8_valley_95 : decode cX8_valley 95 = .ok (.aload_n 0, 1) := by decide +kernel
theorem dX8_valley_96 : decode cX8_valley 96 = .ok (.getfield 65, 3) := by decide +kernel
theorem dX8_valley_99 : decode cX8_valley 99 = .ok (.iload_n 2, 1) := by decide +kernel
theorem dX8_valley_100 : decode cX8_valley 100 = .ok (.iaload, 1) := by decide +kernel
theorem dX8_valley_101 : decode cX8_valley 101 = .ok (.iastore, 1) := by decide +kernel
theorem dX8_valley_102 : decode cX8_valley 102 = .ok (.aload_n 0, 1) := by decide +kernel
theorem dX8_valley_103 : decode cX8_valley 103 = .ok (.getfield 16, 3) := by decide +kernel
theorem dX8_valley_106 : decode cX8_valley 106 = .ok (.iload_n 2, 1) := by decide +kernel
theorem dX8_valley_107 : decode cX8_valley 107 = .ok (.aload_n 0, 1) := by decide +kernel
theorem dX8_valley_108 : decode cX8_valley 108 = .ok (.getfield 68, 3) := by decide +kernel
theorem dX8_valley_111 : decode cX8_valley 111 = .ok (.iload_n 2, 1) := by decide +kernel
theorem dX8_valley_112 : decode cX8_valley 112 = .ok (.iaload, 1) := by decide +kernel
theorem dX8_valley_113 : decode cX8_valley 113 = .ok (.iastore, 1) := by decide +kernel
theorem dX8_valley_114 : decode cX8_valley 114 = .ok (.iinc 2 1, 3) := by decide +kernel
theorem dX8_valley_117 : decode cX8_valley 117 = .ok (.goto (-44), 3) := by decide +kernel
theorem dX8_valley_120 : decode cX8_valley 120 = .ok (.iconst 0, 1) := by decide +kernel
theorem dX8_valley_121 : decode cX8_valley 121 = .ok (.istore_n 2, 1) := by decide +kernel
theorem dX8_valley_122 : decode cX8_valley 122 = .ok (.iload_n 2, 1) := by decide +kernel
theorem dX8_valley_123 : decode cX8_valley 123 = .ok (.bipush 8, 2) := by decide +kernel
theorem dX8_valley_125 : decode cX8_valley 125 = .ok (.if_icmp .ge 57, 3) := by decide +kernel
theorem dX8_valley_128 : decode cX8_valley 128 = .ok (.aload_n 0, 1) := by decide +kernel
theorem dX8_valley_129 : decode cX8_valley 129 = .ok (.getfield 19, 3) := by decide +kernel
theorem dX8_valley_132 : decode cX8_valley 132 = .ok (.iload_n 2, 1) := by decide +kernel
theorem dX8_valley_133 : decode cX8_valley 133 = .ok (.aload_n 0, 1) := by decide +kernel
theorem dX8_valley_134 : decode cX8_valley 134 = .ok (.getfield 71, 3) := by decide +kernel
theorem dX8_valley_137 : decode cX8_valley 137 = .ok (.iload_n 2, 1) := by decide +kernel
theorem dX8_valley_138 : decode cX8_valley 138 = .ok (.iaload, 1) := by decide +kernel
theorem dX8_valley_139 : decode cX8_valley 139 = .ok (.iastore, 1) := by decide +kernel
theorem dX8_valley_140 : decode cX8_valley 140 = .ok (.aload_n 0, 1) := by decide +kernel
theorem dX8_valley_141 : decode cX8_valley 141 = .ok (.getfield 22, 3) := by decide +kernel
theorem dX8_valley_144 : decode cX8_valley 144 = .ok (.iload_n 2, 1) := by decide +kernel
theorem dX8_valley_145 : decode cX8_valley 145 = .ok (.aload_n 0, 1) := by decide +kernel
theorem dX8_valley_146 : decode cX8_valley 146 = .ok (.getfield 74, 3) := by decide +kernel
theorem dX8_valley_149 : decode cX8_valley 149 = .ok (.iload_n 2, 1) := by decide +kernel
theorem dX8_valley_150 : decode cX8_valley 150 = .ok (.iaload, 1) := by decide +kernel
theorem dX8_valley_151 : decode cX8_valley 151 = .ok (.iastore, 1) := by decide +kernel
theorem dX8_valley_152 : decode cX8_valley 152 = .ok (.aload_n 0, 1) := by decide +kernel
theorem dX8_valley_153 : decode cX8_valley 153 = .ok (.getfield 25, 3) := by decide +kernel
theorem dX8_valley_156 : decode cX8_valley 156 = .ok (.iload_n 2, 1) := by decide +kernel
theorem dX8_valley_157 : decode cX8_valley 157 = .ok (.aload_n 0, 1) := by decide +kernel
theorem dX8_valley_158 : decode cX8_valley 158 = .ok (.getfield 77, 3) := by decide +kernel
theorem dX8_valley_161 : decode cX8_valley 161 = .ok (.iload_n 2, 1) := by decide +kernel
theorem dX8_valley_162 : decode cX8_valley 162 = .ok (.iaload, 1) := by decide +kernel
theorem dX8_valley_163 : decode cX8_valley 163 = .ok (.iastore, 1) := by decide +kernel
theorem dX8_valley_164 : decode cX8_valley 164 = .ok (.aload_n 0, 1) := by decide +kernel
theorem dX8_valley_165 : decode cX8_valley 165 = .ok (.getfield 28, 3) := by decide +kernel
theorem dX8_valley_168 : decode cX8_valley 168 = .ok (.iload_n 2, 1) := by decide +kernel
theorem dX8_valley_169 : decode cX8_valley 169 = .ok (.aload_n 0, 1) := by decide +kernel
theorem dX8_valley_170 : decode cX8_valley 170 = .ok (.getfield 80, 3) := by decide +kernel
theorem dX8_valley_173 : decode cX8_valley 173 = .ok (.iload_n 2, 1) := by decide +kernel
theorem dX8_valley_174 : decode cX8_valley 174 = .ok (.iaload, 1) := by decide +kernel
theorem dX8_valley_175 : decode cX8_valley 175 = .ok (.iastore, 1) := by decide +kernel
theorem dX8_valley_176 : decode cX8_valley 176 = .ok (.iinc 2 1, 3) := by decide +kernel
theorem dX8_valley_179 : decode cX8_valley 179 = .ok (.goto (-57), 3) := by decide +kernel
theorem dX8_valley_182 : decode cX8_valley 182 = .ok (.aload_n 0, 1) := by decide +kernel
theorem dX8_valley_183 : decode cX8_valley 183 = .ok (.iconst 0, 1) := by decide +kernel
theorem dX8_valley_184 : decode cX8_valley 184 = .ok (.putfield 213, 3) := by decide +kernel
theorem dX8_valley_187 : decode cX8_valley 187 = .ok (.aload_n 0, 1) := by decide +kernel
theorem dX8_valley_188 : decode cX8_valley 188 = .ok (.getfield 105, 3) := by decide +kernel
theorem dX8_valley_191 : decode cX8_valley 191 = .ok (.iconst 0, 1) := by decide +kernel
theorem dX8_valley_192 : decode cX8_valley 192 = .ok (.iconst 0, 1) := by decide +kernel
theorem dX8_valley_193 : decode cX8_valley 193 = .ok (.bastore, 1) := by decide +kernel
theorem dX8_valley_194 : decode cX8_valley 194 = .ok (.aload_n 0, 1) := by decide +kernel
theorem dX8_valley_195 : decode cX8_valley 195 = .ok (.getfield 105, 3) := by decide +kernel
theorem dX8_valley_198 : decode cX8_valley 198 = .ok (.iconst 1, 1) := by decide +kernel
theorem dX8_valley_199 : decode cX8_valley 199 = .ok (.iconst 0, 1) := by decide +kernel
theorem dX8_valley_200 : decode cX8_valley 200 = .ok (.bastore, 1) := by decide +kernel
theorem dX8_valley_201 : decode cX8_valley 201 = .ok (.aload_n 0, 1) := by decide +kernel
theorem dX8_valley_202 : decode cX8_valley 202 = .ok (.invokevirtual 216, 3) := by decide +kernel
theorem dX8_valley_205 : decode cX8_valley 205 = .ok (.aload_n 0, 1) := by decide +kernel
theorem dX8_valley_206 : decode cX8_valley 206 = .ok (.getfield 116, 3) := by decide +kernel
theorem dX8_valley_209 : decode cX8_valley 209 = .ok (.ireturn, 1) := by decide +kernel
theorem dX8_fault_0 : decode cX8_fault 0 = .ok (.aload_n 0, 1) := by decide +kernel
theorem dX8_fault_1 : decode cX8_fault 1 = .ok (.getfield 59, 3) := by decide +kernel
theorem dX8_fault_4 : decode cX8_fault 4 = .ok (.ireturn, 1) := by decide +kernel
theorem dX8_told_0 : decode cX8_told 0 = .ok (.iload_n 1, 1) := by decide +kernel
theorem dX8_told_1 : decode cX8_told 1 = .ok (.tableswitch 114 0 10 #[59, 64, 69, 74, 79, 84, 89, 94, 99, 104, 109], 59) := by decide +kernel
theorem dX8_told_60 : decode cX8_told 60 = .ok (.aload_n 0, 1) := by decide +kernel
theorem dX8_told_61 : decode cX8_told 61 = .ok (.getfield 109, 3) := by decide +kernel
theorem dX8_told_64 : decode cX8_told 64 = .ok (.ireturn, 1) := by decide +kernel
theorem dX8_told_65 : decode cX8_told 65 = .ok (.aload_n 0, 1) := by decide +kernel
theorem dX8_told_66 : decode cX8_told 66 = .ok (.getfield 116, 3) := by decide +kernel
theorem dX8_told_69 : decode cX8_told 69 = .ok (.ireturn, 1) := by decide +kernel
theorem dX8_told_70 : decode cX8_told 70 = .ok (.aload_n 0, 1) := by decide +kernel
theorem dX8_told_71 : decode cX8_told 71 = .ok (.getfield 134, 3) := by decide +kernel
theorem dX8_told_74 : decode cX8_told 74 = .ok (.ireturn, 1) := by decide +kernel
theorem dX8_told_75 : decode cX8_told 75 = .ok (.aload_n 0, 1) := by decide +kernel
theorem dX8_told_76 : decode cX8_told 76 = .ok (.getfield 122, 3) := by decide +kernel
theorem dX8_told_79 : decode cX8_told 79 = .ok (.ireturn, 1) := by decide +kernel
theorem dX8_told_80 : decode cX8_told 80 = .ok (.aload_n 0, 1) := by decide +kernel
theorem dX8_told_81 : decode cX8_told 81 = .ok (.getfield 119, 3) := by decide +kernel
theorem dX8_told_84 : decode cX8_told 84 = .ok (.ireturn, 1) := by decide +kernel
theorem dX8_told_85 : decode cX8_told 85 = .ok (.aload_n 0, 1) := by decide +kernel
theorem dX8_told_86 : decode cX8_told 86 = .ok (.getfield 34, 3) := by decide +kernel
theorem dX8_told_89 : decode cX8_told 89 = .ok (.ireturn, 1) := by decide +kernel
theorem dX8_told_90 : decode cX8_told 90 = .ok (.aload_n 0, 1) := by decide +kernel
theorem dX8_told_91 : decode cX8_told 91 = .ok (.getfield 38, 3) := by decide +kernel
theorem dX8_told_94 : decode cX8_told 94 = .ok (.ireturn, 1) := by decide +kernel
theorem dX8_told_95 : decode cX8_told 95 = .ok (.aload_n 0, 1) := by decide +kernel
theorem dX8_told_96 : decode cX8_told 96 = .ok (.getfield 41, 3) := by decide +kernel
theorem dX8_told_99 : decode cX8_told 99 = .ok (.ireturn, 1) := by decide +kernel
theorem dX8_told_100 : decode cX8_told 100 = .ok (.aload_n 0, 1) := by decide +kernel
theorem dX8_told_101 : decode cX8_told 101 = .ok (.getfield 128, 3) := by decide +kernel
theorem dX8_told_104 : decode cX8_told 104 = .ok (.ireturn, 1) := by decide +kernel
theorem dX8_told_105 : decode cX8_told 105 = .ok (.aload_n 0, 1) := by decide +kernel
theorem dX8_told_106 : decode cX8_told 106 = .ok (.getfield 125, 3) := by decide +kernel
theorem dX8_told_109 : decode cX8_told 109 = .ok (.ireturn, 1) := by decide +kernel
theorem dX8_told_110 : decode cX8_told 110 = .ok (.aload_n 0, 1) := by decide +kernel
theorem dX8_told_111 : decode cX8_told 111 = .ok (.getfield 213, 3) := by decide +kernel
theorem dX8_told_114 : decode cX8_told 114 = .ok (.ireturn, 1) := by decide +kernel
theorem dX8_told_115 : decode cX8_told 115 = .ok (.ldc 133, 2) := by decide +kernel
theorem dX8_told_117 : decode cX8_told 117 = .ok (.ireturn, 1) := by decide +kernel
theorem dX8_sleepersOf_0 : decode cX8_sleepersOf 0 = .ok (.iconst 0, 1) := by decide +kernel
theorem dX8_sleepersOf_1 : decode cX8_sleepersOf 1 = .ok (.istore_n 2, 1) := by decide +kernel
theorem dX8_sleepersOf_2 : decode cX8_sleepersOf 2 = .ok (.iconst 0, 1) := by decide +kernel
theorem dX8_sleepersOf_3 : decode cX8_sleepersOf 3 = .ok (.istore_n 3, 1) := by decide +kernel
theorem dX8_sleepersOf_4 : decode cX8_sleepersOf 4 = .ok (.iload_n 3, 1) := by decide +kernel
theorem dX8_sleepersOf_5 : decode cX8_sleepersOf 5 = .ok (.aload_n 0, 1) := by decide +kernel
theorem dX8_sleepersOf_6 : decode cX8_sleepersOf 6 = .ok (.getfield 116, 3) := by decide +kernel
theorem dX8_sleepersOf_9 : decode cX8_sleepersOf 9 = .ok (.if_icmp .ge 29, 3) := by decide +kernel
theorem dX8_sleepersOf_12 : decode cX8_sleepersOf 12 = .ok (.iload_n 2, 1) := by decide +kernel
theorem dX8_sleepersOf_13 : decode cX8_sleepersOf 13 = .ok (.aload_n 0, 1) := by decide +kernel
theorem dX8_sleepersOf_14 : decode cX8_sleepersOf 14 = .ok (.getfield 19, 3) := by decide +kernel
theorem dX8_sleepersOf_17 : decode cX8_sleepersOf 17 = .ok (.iload_n 3, 1) := by decide +kernel
theorem dX8_sleepersOf_18 : decode cX8_sleepersOf 18 = .ok (.iaload, 1) := by decide +kernel
theorem dX8_sleepersOf_19 : decode cX8_sleepersOf 19 = .ok (.iload_n 1, 1) := by decide +kernel
theorem dX8_sleepersOf_20 : decode cX8_sleepersOf 20 = .ok (.if_icmp .ne 9, 3) := by decide +kernel
theorem dX8_sleepersOf_23 : decode cX8_sleepersOf 23 = .ok (.iconst 1, 1) := by decide +kernel
theorem dX8_sleepersOf_24 : decode cX8_sleepersOf 24 = .ok (.iload_n 3, 1) := by decide +kernel
theorem dX8_sleepersOf_25 : decode cX8_sleepersOf 25 = .ok (.ishl, 1) := by decide +kernel
theorem dX8_sleepersOf_26 : decode cX8_sleepersOf 26 = .ok (.goto 4, 3) := by decide +kernel
theorem dX8_sleepersOf_29 : decode cX8_sleepersOf 29 = .ok (.iconst 0, 1) := by decide +kernel
theorem dX8_sleepersOf_30 : decode cX8_sleepersOf 30 = .ok (.ior, 1) := by decide +kernel
theorem dX8_sleepersOf_31 : decode cX8_sleepersOf 31 = .ok (.istore_n 2, 1) := by decide +kernel
theorem dX8_sleepersOf_32 : decode cX8_sleepersOf 32 = .ok (.iinc 3 1, 3) := by decide +kernel
theorem dX8_sleepersOf_35 : decode cX8_sleepersOf 35 = .ok (.goto (-31), 3) := by decide +kernel
theorem dX8_sleepersOf_38 : decode cX8_sleepersOf 38 = .ok (.iload_n 2, 1) := by decide +kernel
theorem dX8_sleepersOf_39 : decode cX8_sleepersOf 39 = .ok (.ireturn, 1) := by decide +kernel
theorem dX8_house_0 : decode cX8_house 0 = .ok (.aload_n 0, 1) := by decide +kernel
theorem dX8_house_1 : decode cX8_house 1 = .ok (.iload_n 1, 1) := by decide +kernel
theorem dX8_house_2 : decode cX8_house 2 = .ok (.invokevirtual 219, 3) := by decide +kernel
theorem dX8_house_5 : decode cX8_house 5 = .ok (.ifCond .ne 6, 3) := by decide +kernel
theorem dX8_house_8 : decode cX8_house 8 = .ok (.ldc 223, 2) := by decide +kernel
theorem dX8_house_10 : decode cX8_house 10 = .ok (.ireturn, 1) := by decide +kernel
theorem dX8_house_11 : decode cX8_house 11 = .ok (.iload_n 2, 1) := by decide +kernel
theorem dX8_house_12 : decode cX8_house 12 = .ok (.tableswitch 81 0 5 #[40, 47, 54, 61, 68, 75], 40) := by decide +kernel
theorem dX8_house_52 : decode cX8_house 52 = .ok (.aload_n 0, 1) := by decide +kernel
theorem dX8_house_53 : decode cX8_house 53 = .ok (.getfield 7, 3) := by decide +kernel
theorem dX8_house_56 : decode cX8_house 56 = .ok (.iload_n 1, 1) := by decide +kernel
theorem dX8_house_57 : decode cX8_house 57 = .ok (.iaload, 1) := by decide +kernel
theorem dX8_house_58 : decode cX8_house 58 = .ok (.ireturn, 1) := by decide +kernel
theorem dX8_house_59 : decode cX8_house 59 = .ok (.aload_n 0, 1) := by decide +kernel
theorem dX8_house_60 : decode cX8_house 60 = .ok (.getfield 13, 3) := by decide +kernel
theorem dX8_house_63 : decode cX8_house 63 = .ok (.iload_n 1, 1) := by decide +kernel
theorem dX8_house_64 : decode cX8_house 64 = .ok (.iaload, 1) := by decide +kernel
theorem dX8_house_65 : decode cX8_house 65 = .ok (.ireturn, 1) := by decide +kernel
theorem dX8_house_66 : decode cX8_house 66 = .ok (.aload_n 0, 1) := by decide +kernel
theorem dX8_house_67 : decode cX8_house 67 = .ok (.getfield 16, 3) := by decide +kernel
theorem dX8_house_70 : decode cX8_house 70 = .ok (.iload_n 1, 1) := by decide +kernel
theorem dX8_house_71 : decode cX8_house 71 = .ok (.iaload, 1) := by decide +kernel
theorem dX8_house_72 : decode cX8_house 72 = .ok (.ireturn, 1) := by decide +kernel
theorem dX8_house_73 : decode cX8_house 73 = .ok (.aload_n 0, 1) := by decide +kernel
theorem dX8_house_74 : decode cX8_house 74 = .ok (.getfield 44, 3) := by decide +kernel
theorem dX8_house_77 : decode cX8_house 77 = .ok (.iload_n 1, 1) := by decide +kernel
theorem dX8_house_78 : decode cX8_house 78 = .ok (.iaload, 1) := by decide +kernel
theorem dX8_house_79 : decode cX8_house 79 = .ok (.ireturn, 1) := by decide +kernel
theorem dX8_house_80 : decode cX8_house 80 = .ok (.aload_n 0, 1) := by decide +kernel
theorem dX8_house_81 : decode cX8_house 81 = .ok (.getfield 47, 3) := by decide +kernel
theorem dX8_house_84 : decode cX8_house 84 = .ok (.iload_n 1, 1) := by decide +kernel
theorem dX8_house_85 : decode cX8_house 85 = .ok (.iaload, 1) := by decide +kernel
theorem dX8_house_86 : decode cX8_house 86 = .ok (.ireturn, 1) := by decide +kernel
theorem dX8_house_87 : decode cX8_house 87 = .ok (.aload_n 0, 1) := by decide +kernel
theorem dX8_house_88 : decode cX8_house 88 = .ok (.iload_n 1, 1) := by decide +kernel
theorem dX8_house_89 : decode cX8_house 89 = .ok (.invokevirtual 224, 3) := by decide +kernel
theorem dX8_house_92 : decode cX8_house 92 = .ok (.ireturn, 1) := by decide +kernel
theorem dX8_house_93 : decode cX8_house 93 = .ok (.ldc 133, 2) := by decide +kernel
theorem dX8_house_95 : decode cX8_house 95 = .ok (.ireturn, 1) := by decide +kernel
theorem dX8_isStartled_0 : decode cX8_isStartled 0 = .ok (.aload_n 0, 1) := by decide +kernel
theorem dX8_isStartled_1 : decode cX8_isStartled 1 = .ok (.getfield 34, 3) := by decide +kernel
theorem dX8_isStartled_4 : decode cX8_isStartled 4 = .ok (.ifCond .lt 33, 3) := by decide +kernel
theorem dX8_isStartled_7 : decode cX8_isStartled 7 = .ok (.aload_n 0, 1) := by decide +kernel
theorem dX8_isStartled_8 : decode cX8_isStartled 8 = .ok (.getfield 28, 3) := by decide +kernel
theorem dX8_isStartled_11 : decode cX8_isStartled 11 = .ok (.iload_n 1, 1) := by decide +kernel
theorem dX8_isStartled_12 : decode cX8_isStartled 12 = .ok (.iaload, 1) := by decide +kernel
theorem dX8_isStartled_13 : decode cX8_isStartled 13 = .ok (.aload_n 0, 1) := by decide +kernel
theorem dX8_isStartled_14 : decode cX8_isStartled 14 = .ok (.getfield 38, 3) := by decide +kernel
theorem dX8_isStartled_17 : decode cX8_isStartled 17 = .ok (.if_icmp .ge 20, 3) := by decide +kernel
theorem dX8_isStartled_20 : decode cX8_isStartled 20 = .ok (.aload_n 0, 1) := by decide +kernel
theorem dX8_isStartled_21 : decode cX8_isStartled 21 = .ok (.getfield 19, 3) := by decide +kernel
theorem dX8_isStartled_24 : decode cX8_isStartled 24 = .ok (.iload_n 1, 1) := by decide +kernel
theorem dX8_isStartled_25 : decode cX8_isStartled 25 = .ok (.iaload, 1) := by decide +kernel
theorem dX8_isStartled_26 : decode cX8_isStartled 26 = .ok (.aload_n 0, 1) := by decide +kernel
theorem dX8_isStartled_27 : decode cX8_isStartled 27 = .ok (.getfield 41, 3) := by decide +kernel
theorem dX8_isStartled_30 : decode cX8_isStartled 30 = .ok (.if_icmp .eq 7, 3) := by decide +kernel
theorem dX8_isStartled_33 : decode cX8_isStartled 33 = .ok (.iconst 1, 1) := by decide +kernel
theorem dX8_isStartled_34 : decode cX8_isStartled 34 = .ok (.goto 4, 3) := by decide +kernel
theorem dX8_isStartled_37 : decode cX8_isStartled 37 = .ok (.iconst 0, 1) := by decide +kernel
theorem dX8_isStartled_38 : decode cX8_isStartled 38 = .ok (.ireturn, 1) := by decide +kernel
theorem dX8_heard_0 : decode cX8_heard 0 = .ok (.aload_n 0, 1) := by decide +kernel
theorem dX8_heard_1 : decode cX8_heard 1 = .ok (.iload_n 1, 1) := by decide +kernel
theorem dX8_heard_2 : decode cX8_heard 2 = .ok (.invokevirtual 228, 3) := by decide +kernel
theorem dX8_heard_5 : decode cX8_heard 5 = .ok (.ifCond .eq 18, 3) := by decide +kernel
theorem dX8_heard_8 : decode cX8_heard 8 = .ok (.iload_n 2, 1) := by decide +kernel
theorem dX8_heard_9 : decode cX8_heard 9 = .ok (.aload_n 0, 1) := by decide +kernel
theorem dX8_heard_10 : decode cX8_heard 10 = .ok (.getfield 34, 3) := by decide +kernel
theorem dX8_heard_13 : decode cX8_heard 13 = .ok (.if_icmp .le 10, 3) := by decide +kernel
theorem dX8_heard_16 : decode cX8_heard 16 = .ok (.aload_n 0, 1) := by decide +kernel
theorem dX8_heard_17 : decode cX8_heard 17 = .ok (.getfield 34, 3) := by decide +kernel
theorem dX8_heard_20 : decode cX8_heard 20 = .ok (.goto 4, 3) := by decide +kernel
theorem dX8_heard_23 : decode cX8_heard 23 = .ok (.iload_n 2, 1) := by decide +kernel
theorem dX8_heard_24 : decode cX8_heard 24 = .ok (.ireturn, 1) := by decide +kernel
theorem dX8_firstOf_0 : decode cX8_firstOf 0 = .ok (.aload_n 0, 1) := by decide +kernel
theorem dX8_firstOf_1 : decode cX8_firstOf 1 = .ok (.getfield 22, 3) := by decide +kernel
theorem dX8_firstOf_4 : decode cX8_firstOf 4 = .ok (.iload_n 1, 1) := by decide +kernel
theorem dX8_firstOf_5 : decode cX8_firstOf 5 = .ok (.iaload, 1) := by decide +kernel
theorem dX8_firstOf_6 : decode cX8_firstOf 6 = .ok (.aload_n 0, 1) := by decide +kernel
theorem dX8_firstOf_7 : decode cX8_firstOf 7 = .ok (.getfield 31, 3) := by decide +kernel
theorem dX8_firstOf_10 : decode cX8_firstOf 10 = .ok (.iload_n 1, 1) := by decide +kernel
theorem dX8_firstOf_11 : decode cX8_firstOf 11 = .ok (.iaload, 1) := by decide +kernel
theorem dX8_firstOf_12 : decode cX8_firstOf 12 = .ok (.isub, 1) := by decide +kernel
theorem dX8_firstOf_13 : decode cX8_firstOf 13 = .ok (.aload_n 0, 1) := by decide +kernel
theorem dX8_firstOf_14 : decode cX8_firstOf 14 = .ok (.getfield 25, 3) := by decide +kernel
theorem dX8_firstOf_17 : decode cX8_firstOf 17 = .ok (.iload_n 1, 1) := by decide +kernel
theorem dX8_firstOf_18 : decode cX8_firstOf 18 = .ok (.iaload, 1) := by decide +kernel
theorem dX8_firstOf_19 : decode cX8_firstOf 19 = .ok (.isub, 1) := by decide +kernel
theorem dX8_firstOf_20 : decode cX8_firstOf 20 = .ok (.ireturn, 1) := by decide +kernel
theorem dX8_lastOf_0 : decode cX8_lastOf 0 = .ok (.aload_n 0, 1) := by decide +kernel
theorem dX8_lastOf_1 : decode cX8_lastOf 1 = .ok (.getfield 22, 3) := by decide +kernel
theorem dX8_lastOf_4 : decode cX8_lastOf 4 = .ok (.iload_n 1, 1) := by decide +kernel
theorem dX8_lastOf_5 : decode cX8_lastOf 5 = .ok (.iaload, 1) := by decide +kernel
theorem dX8_lastOf_6 : decode cX8_lastOf 6 = .ok (.aload_n 0, 1) := by decide +kernel
theorem dX8_lastOf_7 : decode cX8_lastOf 7 = .ok (.getfield 31, 3) := by decide +kernel
theorem dX8_lastOf_10 : decode cX8_lastOf 10 = .ok (.iload_n 1, 1) := by decide +kernel
theorem dX8_lastOf_11 : decode cX8_lastOf 11 = .ok (.iaload, 1) := by decide +kernel
theorem dX8_lastOf_12 : decode cX8_lastOf 12 = .ok (.isub, 1) := by decide +kernel
theorem dX8_lastOf_13 : decode cX8_lastOf 13 = .ok (.aload_n 0, 1) := by decide +kernel
theorem dX8_lastOf_14 : decode cX8_lastOf 14 = .ok (.getfield 25, 3) := by decide +kernel
theorem dX8_lastOf_17 : decode cX8_lastOf 17 = .ok (.iload_n 1, 1) := by decide +kernel
theorem dX8_lastOf_18 : decode cX8_lastOf 18 = .ok (.iaload, 1) := by decide +kernel
theorem dX8_lastOf_19 : decode cX8_lastOf 19 = .ok (.iadd, 1) := by decide +kernel
theorem dX8_lastOf_20 : decode cX8_lastOf 20 = .ok (.ireturn, 1) := by decide +kernel
theorem dX8_sleeper_0 : decode cX8_sleeper 0 = .ok (.aload_n 0, 1) := by decide +kernel
theorem dX8_sleeper_1 : decode cX8_sleeper 1 = .ok (.iload_n 1, 1) := by decide +kernel
theorem dX8_sleeper_2 : decode cX8_sleeper 2 = .ok (.invokevirtual 231, 3) := by decide +kernel
theorem dX8_sleeper_5 : decode cX8_sleeper 5 = .ok (.ifCond .ne 6, 3) := by decide +kernel
theorem dX8_sleeper_8 : decode cX8_sleeper 8 = .ok (.ldc 223, 2) := by decide +kernel
theorem dX8_sleeper_10 : decode cX8_sleeper 10 = .ok (.ireturn, 1) := by decide +kernel
theorem dX8_sleeper_11 : decode cX8_sleeper 11 = .ok (.iload_n 2, 1) := by decide +kernel
theorem dX8_sleeper_12 : decode cX8_sleeper 12 = .ok (.tableswitch 101 0 6 #[44, 51, 58, 65, 72, 79, 90], 44) := by decide +kernel
theorem dX8_sleeper_56 : decode cX8_sleeper 56 = .ok (.aload_n 0, 1) := by decide +kernel
theorem dX8_sleeper_57 : decode cX8_sleeper 57 = .ok (.getfield 19, 3) := by decide +kernel
theorem dX8_sleeper_60 : decode cX8_sleeper 60 = .ok (.iload_n 1, 1) := by decide +kernel
theorem dX8_sleeper_61 : decode cX8_sleeper 61 = .ok (.iaload, 1) := by decide +kernel
theorem dX8_sleeper_62 : decode cX8_sleeper 62 = .ok (.ireturn, 1) := by decide +kernel
theorem dX8_sleeper_63 : decode cX8_sleeper 63 = .ok (.aload_n 0, 1) := by decide +kernel
theorem dX8_sleeper_64 : decode cX8_sleeper 64 = .ok (.getfield 22, 3) := by decide +kernel
theorem dX8_sleeper_67 : decode cX8_sleeper 67 = .ok (.iload_n 1, 1) := by decide +kernel
theorem dX8_sleeper_68 : decode cX8_sleeper 68 = .ok (.iaload, 1) := by decide +kernel
theorem dX8_sleeper_69 : decode cX8_sleeper 69 = .ok (.ireturn, 1) := by decide +kernel
theorem dX8_sleeper_70 : decode cX8_sleeper 70 = .ok (.aload_n 0, 1) := by decide +kernel
theorem dX8_sleeper_71 : decode cX8_sleeper 71 = .ok (.getfield 25, 3) := by decide +kernel
theorem dX8_sleeper_74 : decode cX8_sleeper 74 = .ok (.iload_n 1, 1) := by decide +kernel
theorem dX8_sleeper_75 : decode cX8_sleeper 75 = .ok (.iaload, 1) := by decide +kernel
theorem dX8_sleeper_76 : decode cX8_sleeper 76 = .ok (.ireturn, 1) := by decide +kernel
theorem dX8_sleeper_77 : decode cX8_sleeper 77 = .ok (.aload_n 0, 1) := by decide +kernel
theorem dX8_sleeper_78 : decode cX8_sleeper 78 = .ok (.getfield 28, 3) := by decide +kernel
theorem dX8_sleeper_81 : decode cX8_sleeper 81 = .ok (.iload_n 1, 1) := by decide +kernel
theorem dX8_sleeper_82 : decode cX8_sleeper 82 = .ok (.iaload, 1) := by decide +kernel
theorem dX8_sleeper_83 : decode cX8_sleeper 83 = .ok (.ireturn, 1) := by decide +kernel
theorem dX8_sleeper_84 : decode cX8_sleeper 84 = .ok (.aload_n 0, 1) := by decide +kernel
theorem dX8_sleeper_85 : decode cX8_sleeper 85 = .ok (.getfield 31, 3) := by decide +kernel
theorem dX8_sleeper_88 : decode cX8_sleeper 88 = .ok (.iload_n 1, 1) := by decide +kernel
theorem dX8_sleeper_89 : decode cX8_sleeper 89 = .ok (.iaload, 1) := by decide +kernel
theorem dX8_sleeper_90 : decode cX8_sleeper 90 = .ok (.ireturn, 1) := by decide +kernel
theorem dX8_sleeper_91 : decode cX8_sleeper 91 = .ok (.aload_n 0, 1) := by decide +kernel
theorem dX8_sleeper_92 : decode cX8_sleeper 92 = .ok (.iload_n 1, 1) := by decide +kernel
theorem dX8_sleeper_93 : decode cX8_sleeper 93 = .ok (.aload_n 0, 1) := by decide +kernel
theorem dX8_sleeper_94 : decode cX8_sleeper 94 = .ok (.iload_n 1, 1) := by decide +kernel
theorem dX8_sleeper_95 : decode cX8_sleeper 95 = .ok (.invokevirtual 234, 3) := by decide +kernel
theorem dX8_sleeper_98 : decode cX8_sleeper 98 = .ok (.invokevirtual 237, 3) := by decide +kernel
theorem dX8_sleeper_101 : decode cX8_sleeper 101 = .ok (.ireturn, 1) := by decide +kernel
theorem dX8_sleeper_102 : decode cX8_sleeper 102 = .ok (.aload_n 0, 1) := by decide +kernel
theorem dX8_sleeper_103 : decode cX8_sleeper 103 = .ok (.iload_n 1, 1) := by decide +kernel
theorem dX8_sleeper_104 : decode cX8_sleeper 104 = .ok (.aload_n 0, 1) := by decide +kernel
theorem dX8_sleeper_105 : decode cX8_sleeper 105 = .ok (.iload_n 1, 1) := by decide +kernel
theorem dX8_sleeper_106 : decode cX8_sleeper 106 = .ok (.invokevirtual 240, 3) := by decide +kernel
theorem dX8_sleeper_109 : decode cX8_sleeper 109 = .ok (.invokevirtual 237, 3) := by decide +kernel
theorem dX8_sleeper_112 : decode cX8_sleeper 112 = .ok (.ireturn, 1) := by decide +kernel
theorem dX8_sleeper_113 : decode cX8_sleeper 113 = .ok (.ldc 133, 2) := by decide +kernel
theorem dX8_sleeper_115 : decode cX8_sleeper 115 = .ok (.ireturn, 1) := by decide +kernel
theorem dX8_shift_0 : decode cX8_shift 0 = .ok (.aload_n 0, 1) := by decide +kernel
theorem dX8_shift_1 : decode cX8_shift 1 = .ok (.iload_n 1, 1) := by decide +kernel
theorem dX8_shift_2 : decode cX8_shift 2 = .ok (.invokevirtual 231, 3) := by decide +kernel
theorem dX8_shift_5 : decode cX8_shift 5 = .ok (.ifCond .ne 6, 3) := by decide +kernel
theorem dX8_shift_8 : decode cX8_shift 8 = .ok (.ldc 223, 2) := by decide +kernel
theorem dX8_shift_10 : decode cX8_shift 10 = .ok (.ireturn, 1) := by decide +kernel
theorem dX8_shift_11 : decode cX8_shift 11 = .ok (.iload_n 2, 1) := by decide +kernel
theorem dX8_shift_12 : decode cX8_shift 12 = .ok (.i2l, 1) := by decide +kernel
theorem dX8_shift_13 : decode cX8_shift 13 = .ok (.lconst 0, 1) := by decide +kernel
theorem dX8_shift_14 : decode cX8_shift 14 = .ok (.aload_n 0, 1) := by decide +kernel
theorem dX8_shift_15 : decode cX8_shift 15 = .ok (.getfield 16, 3) := by decide +kernel
theorem dX8_shift_18 : decode cX8_shift 18 = .ok (.aload_n 0, 1) := by decide +kernel
theorem dX8_shift_19 : decode cX8_shift 19 = .ok (.getfield 19, 3) := by decide +kernel
theorem dX8_shift_22 : decode cX8_shift 22 = .ok (.iload_n 1, 1) := by decide +kernel
theorem dX8_shift_23 : decode cX8_shift 23 = .ok (.iaload, 1) := by decide +kernel
theorem dX8_shift_24 : decode cX8_shift 24 = .ok (.iaload, 1) := by decide +kernel
theorem dX8_shift_25 : decode cX8_shift 25 = .ok (.i2l, 1) := by decide +kernel
theorem dX8_shift_26 : decode cX8_shift 26 = .ok (.invokestatic 112, 3) := by decide +kernel
theorem dX8_shift_29 : decode cX8_shift 29 = .ok (.ifCond .ne 6, 3) := by decide +kernel
theorem dX8_shift_32 : decode cX8_shift 32 = .ok (.ldc 133, 2) := by decide +kernel
theorem dX8_shift_34 : decode cX8_shift 34 = .ok (.ireturn, 1) := by decide +kernel
theorem dX8_shift_35 : decode cX8_shift 35 = .ok (.aload_n 0, 1) := by decide +kernel
theorem dX8_shift_36 : decode cX8_shift 36 = .ok (.getfield 31, 3) := by decide +kernel
theorem dX8_shift_39 : decode cX8_shift 39 = .ok (.iload_n 1, 1) := by decide +kernel
theorem dX8_shift_40 : decode cX8_shift 40 = .ok (.iaload, 1) := by decide +kernel
theorem dX8_shift_41 : decode cX8_shift 41 = .ok (.istore_n 3, 1) := by decide +kernel
theorem dX8_shift_42 : decode cX8_shift 42 = .ok (.aload_n 0, 1) := by decide +kernel
theorem dX8_shift_43 : decode cX8_shift 43 = .ok (.getfield 31, 3) := by decide +kernel
theorem dX8_shift_46 : decode cX8_shift 46 = .ok (.iload_n 1, 1) := by decide +kernel
theorem dX8_shift_47 : decode cX8_shift 47 = .ok (.iload_n 2, 1) := by decide +kernel
theorem dX8_shift_48 : decode cX8_shift 48 = .ok (.iastore, 1) := by decide +kernel
theorem dX8_shift_49 : decode cX8_shift 49 = .ok (.iload_n 3, 1) := by decide +kernel
theorem dX8_shift_50 : decode cX8_shift 50 = .ok (.ireturn, 1) := by decide +kernel
theorem dX8_setNoise_0 : decode cX8_setNoise 0 = .ok (.aload_n 0, 1) := by decide +kernel
theorem dX8_setNoise_1 : decode cX8_setNoise 1 = .ok (.iload_n 1, 1) := by decide +kernel
theorem dX8_setNoise_2 : decode cX8_setNoise 2 = .ok (.putfield 41, 3) := by decide +kernel
theorem dX8_setNoise_5 : decode cX8_setNoise 5 = .ok (.aload_n 0, 1) := by decide +kernel
theorem dX8_setNoise_6 : decode cX8_setNoise 6 = .ok (.iload_n 2, 1) := by decide +kernel
theorem dX8_setNoise_7 : decode cX8_setNoise 7 = .ok (.putfield 34, 3) := by decide +kernel
theorem dX8_setNoise_10 : decode cX8_setNoise 10 = .ok (.aload_n 0, 1) := by decide +kernel
theorem dX8_setNoise_11 : decode cX8_setNoise 11 = .ok (.iload_n 3, 1) := by decide +kernel
theorem dX8_setNoise_12 : decode cX8_setNoise 12 = .ok (.putfield 38, 3) := by decide +kernel
theorem dX8_setNoise_15 : decode cX8_setNoise 15 = .ok (.return_, 1) := by decide +kernel
theorem dX8_noise_0 : decode cX8_noise 0 = .ok (.aload_n 0, 1) := by decide +kernel
theorem dX8_noise_1 : decode cX8_noise 1 = .ok (.iload_n 1, 1) := by decide +kernel
theorem dX8_noise_2 : decode cX8_noise 2 = .ok (.invokevirtual 219, 3) := by decide +kernel
theorem dX8_noise_5 : decode cX8_noise 5 = .ok (.ifCond .ne 6, 3) := by decide +kernel
theorem dX8_noise_8 : decode cX8_noise 8 = .ok (.ldc 223, 2) := by decide +kernel
theorem dX8_noise_10 : decode cX8_noise 10 = .ok (.ireturn, 1) := by decide +kernel
theorem dX8_noise_11 : decode cX8_noise 11 = .ok (.iload_n 2, 1) := by decide +kernel
theorem dX8_noise_12 : decode cX8_noise 12 = .ok (.i2l, 1) := by decide +kernel
theorem dX8_noise_13 : decode cX8_noise 13 = .ok (.lconst 0, 1) := by decide +kernel
theorem dX8_noise_14 : decode cX8_noise 14 = .ok (.ldc2_w 243, 3) := by decide +kernel
theorem dX8_noise_17 : decode cX8_noise 17 = .ok (.invokestatic 112, 3) := by decide +kernel
theorem dX8_noise_20 : decode cX8_noise 20 = .ok (.ifCond .eq 15, 3) := by decide +kernel
theorem dX8_noise_23 : decode cX8_noise 23 = .ok (.iload_n 3, 1) := by decide +kernel
theorem dX8_noise_24 : decode cX8_noise 24 = .ok (.i2l, 1) := by decide +kernel
theorem dX8_noise_25 : decode cX8_noise 25 = .ok (.lconst 0, 1) := by decide +kernel
theorem dX8_noise_26 : decode cX8_noise 26 = .ok (.ldc2_w 245, 3) := by decide +kernel
theorem dX8_noise_29 : decode cX8_noise 29 = .ok (.invokestatic 112, 3) := by decide +kernel
theorem dX8_noise_32 : decode cX8_noise 32 = .ok (.ifCond .ne 6, 3) := by decide +kernel
theorem dX8_noise_35 : decode cX8_noise 35 = .ok (.ldc 133, 2) := by decide +kernel
theorem dX8_noise_37 : decode cX8_noise 37 = .ok (.ireturn, 1) := by decide +kernel
theorem dX8_noise_38 : decode cX8_noise 38 = .ok (.aload_n 0, 1) := by decide +kernel
theorem dX8_noise_39 : decode cX8_noise 39 = .ok (.getfield 34, 3) := by decide +kernel
theorem dX8_noise_42 : decode cX8_noise 42 = .ok (.ifCond .ge 7, 3) := by decide +kernel
theorem dX8_noise_45 : decode cX8_noise 45 = .ok (.iconst 0, 1) := by decide +kernel
theorem dX8_noise_46 : decode cX8_noise 46 = .ok (.goto 4, 3) := by decide +kernel
theorem dX8_noise_49 : decode cX8_noise 49 = .ok (.iconst 1, 1) := by decide +kernel
theorem dX8_noise_50 : decode cX8_noise 50 = .ok (.istore 4, 2) := by decide +kernel
theorem dX8_noise_52 : decode cX8_noise 52 = .ok (.aload_n 0, 1) := by decide +kernel
theorem dX8_noise_53 : decode cX8_noise 53 = .ok (.iload_n 1, 1) := by decide +kernel
theorem dX8_noise_54 : decode cX8_noise 54 = .ok (.iload_n 2, 1) := by decide +kernel
theorem dX8_noise_55 : decode cX8_noise 55 = .ok (.iload_n 3, 1) := by decide +kernel
theorem dX8_noise_56 : decode cX8_noise 56 = .ok (.invokevirtual 247, 3) := by decide +kernel
theorem dX8_noise_59 : decode cX8_noise 59 = .ok (.iload 4, 2) := by decide +kernel
theorem dX8_noise_61 : decode cX8_noise 61 = .ok (.ireturn, 1) := by decide +kernel
theorem dX8_hush_0 : decode cX8_hush 0 = .ok (.aload_n 0, 1) := by decide +kernel
theorem dX8_hush_1 : decode cX8_hush 1 = .ok (.getfield 34, 3) := by decide +kernel
theorem dX8_hush_4 : decode cX8_hush 4 = .ok (.ifCond .ge 7, 3) := by decide +kernel
theorem dX8_hush_7 : decode cX8_hush 7 = .ok (.iconst 0, 1) := by decide +kernel
theorem dX8_hush_8 : decode cX8_hush 8 = .ok (.goto 4, 3) := by decide +kernel
theorem dX8_hush_11 : decode cX8_hush 11 = .ok (.iconst 1, 1) := by decide +kernel
theorem dX8_hush_12 : decode cX8_hush 12 = .ok (.istore_n 1, 1) := by decide +kernel
theorem dX8_hush_13 : decode cX8_hush 13 = .ok (.aload_n 0, 1) := by decide +kernel
theorem dX8_hush_14 : decode cX8_hush 14 = .ok (.iconst (-1), 1) := by decide +kernel
theorem dX8_hush_15 : decode cX8_hush 15 = .ok (.iconst (-1), 1) := by decide +kernel
theorem dX8_hush_16 : decode cX8_hush 16 = .ok (.iconst (-1), 1) := by decide +kernel
theorem dX8_hush_17 : decode cX8_hush 17 = .ok (.invokevirtual 247, 3) := by decide +kernel
theorem dX8_hush_20 : decode cX8_hush 20 = .ok (.iload_n 1, 1) := by decide +kernel
theorem dX8_hush_21 : decode cX8_hush 21 = .ok (.ireturn, 1) := by decide +kernel
theorem dX8_law_0 : decode cX8_law 0 = .ok (.iload_n 1, 1) := by decide +kernel
theorem dX8_law_1 : decode cX8_law 1 = .ok (.i2l, 1) := by decide +kernel
theorem dX8_law_2 : decode cX8_law 2 = .ok (.lconst 0, 1) := by decide +kernel
theorem dX8_law_3 : decode cX8_law 3 = .ok (.ldc2_w 251, 3) := by decide +kernel
theorem dX8_law_6 : decode cX8_law 6 = .ok (.invokestatic 112, 3) := by decide +kernel
theorem dX8_law_9 : decode cX8_law 9 = .ok (.ifCond .ne 6, 3) := by decide +kernel
theorem dX8_law_12 : decode cX8_law 12 = .ok (.ldc 133, 2) := by decide +kernel
theorem dX8_law_14 : decode cX8_law 14 = .ok (.ireturn, 1) := by decide +kernel
theorem dX8_law_15 : decode cX8_law 15 = .ok (.aload_n 0, 1) := by decide +kernel
theorem dX8_law_16 : decode cX8_law 16 = .ok (.getfield 119, 3) := by decide +kernel
theorem dX8_law_19 : decode cX8_law 19 = .ok (.istore_n 2, 1) := by decide +kernel
theorem dX8_law_20 : decode cX8_law 20 = .ok (.aload_n 0, 1) := by decide +kernel
theorem dX8_law_21 : decode cX8_law 21 = .ok (.iload_n 1, 1) := by decide +kernel
theorem dX8_law_22 : decode cX8_law 22 = .ok (.putfield 119, 3) := by decide +kernel
theorem dX8_law_25 : decode cX8_law 25 = .ok (.iload_n 2, 1) := by decide +kernel
theorem dX8_law_26 : decode cX8_law 26 = .ok (.ireturn, 1) := by decide +kernel
theorem dX8_draw_0 : decode cX8_draw 0 = .ok (.aload_n 0, 1) := by decide +kernel
theorem dX8_draw_1 : decode cX8_draw 1 = .ok (.aload_n 0, 1) := by decide +kernel
theorem dX8_draw_2 : decode cX8_draw 2 = .ok (.getfield 253, 3) := by decide +kernel
theorem dX8_draw_5 : decode cX8_draw 5 = .ok (.i2l, 1) := by decide +kernel
theorem dX8_draw_6 : decode cX8_draw 6 = .ok (.ldc2_w 256, 3) := by decide +kernel
theorem dX8_draw_9 : decode cX8_draw 9 = .ok (.lmul, 1) := by decide +kernel
theorem dX8_draw_10 : decode cX8_draw 10 = .ok (.ldc2_w 258, 3) := by decide +kernel
theorem dX8_draw_13 : decode cX8_draw 13 = .ok (.ladd, 1) := by decide +kernel
theorem dX8_draw_14 : decode cX8_draw 14 = .ok (.ldc2_w 260, 3) := by decide +kernel
theorem dX8_draw_17 : decode cX8_draw 17 = .ok (.lrem, 1) := by decide +kernel
theorem dX8_draw_18 : decode cX8_draw 18 = .ok (.l2i, 1) := by decide +kernel
theorem dX8_draw_19 : decode cX8_draw 19 = .ok (.putfield 253, 3) := by decide +kernel
theorem dX8_draw_22 : decode cX8_draw 22 = .ok (.aload_n 0, 1) := by decide +kernel
theorem dX8_draw_23 : decode cX8_draw 23 = .ok (.getfield 253, 3) := by decide +kernel
theorem dX8_draw_26 : decode cX8_draw 26 = .ok (.ldc_w 262, 3) := by decide +kernel
theorem dX8_draw_29 : decode cX8_draw 29 = .ok (.idiv, 1) := by decide +kernel
theorem dX8_draw_30 : decode cX8_draw 30 = .ok (.iload_n 1, 1) := by decide +kernel
theorem dX8_draw_31 : decode cX8_draw 31 = .ok (.irem, 1) := by decide +kernel
theorem dX8_draw_32 : decode cX8_draw 32 = .ok (.ireturn, 1) := by decide +kernel
theorem dX8_dawnNow_0 : decode cX8_dawnNow 0 = .ok (.iconst 0, 1) := by decide +kernel
theorem dX8_dawnNow_1 : decode cX8_dawnNow 1 = .ok (.istore_n 1, 1) := by decide +kernel
theorem dX8_dawnNow_2 : decode cX8_dawnNow 2 = .ok (.iconst 0, 1) := by decide +kernel
theorem dX8_dawnNow_3 : decode cX8_dawnNow 3 = .ok (.istore_n 2, 1) := by decide +kernel
theorem dX8_dawnNow_4 : decode cX8_dawnNow 4 = .ok (.iload_n 2, 1) := by decide +kernel
theorem dX8_dawnNow_5 : decode cX8_dawnNow 5 = .ok (.aload_n 0, 1) := by decide +kernel
theorem dX8_dawnNow_6 : decode cX8_dawnNow 6 = .ok (.getfield 116, 3) := by decide +kernel
theorem dX8_dawnNow_9 : decode cX8_dawnNow 9 = .ok (.if_icmp .ge 105, 3) := by decide +kernel
theorem dX8_dawnNow_12 : decode cX8_dawnNow 12 = .ok (.aload_n 0, 1) := by decide +kernel
theorem dX8_dawnNow_13 : decode cX8_dawnNow 13 = .ok (.iconst 2, 1) := by decide +kernel
theorem dX8_dawnNow_14 : decode cX8_dawnNow 14 = .ok (.aload_n 0, 1) := by decide +kernel
theorem dX8_dawnNow_15 : decode cX8_dawnNow 15 = .ok (.getfield 25, 3) := by decide +kernel
theorem dX8_dawnNow_18 : decode cX8_dawnNow 18 = .ok (.iload_n 2, 1) := by decide +kernel
theorem dX8_dawnNow_19 : decode cX8_dawnNow 19 = .ok (.iaload, 1) := by decide +kernel
theorem dX8_dawnNow_20 : decode cX8_dawnNow 20 = .ok (.imul, 1) := by decide +kernel
theorem dX8_dawnNow_21 : decode cX8_dawnNow 21 = .ok (.iconst 1, 1) := by decide +kernel
theorem dX8_dawnNow_22 : decode cX8_dawnNow 22 = .ok (.iadd, 1) := by decide +kernel
theorem dX8_dawnNow_23 : decode cX8_dawnNow 23 = .ok (.invokevirtual 263, 3) := by decide +kernel
theorem dX8_dawnNow_26 : decode cX8_dawnNow 26 = .ok (.istore_n 3, 1) := by decide +kernel
theorem dX8_dawnNow_27 : decode cX8_dawnNow 27 = .ok (.aload_n 0, 1) := by decide +kernel
theorem dX8_dawnNow_28 : decode cX8_dawnNow 28 = .ok (.getfield 83, 3) := by decide +kernel
theorem dX8_dawnNow_31 : decode cX8_dawnNow 31 = .ok (.iload_n 2, 1) := by decide +kernel
theorem dX8_dawnNow_32 : decode cX8_dawnNow 32 = .ok (.aload_n 0, 1) := by decide +kernel
theorem dX8_dawnNow_33 : decode cX8_dawnNow 33 = .ok (.iload_n 2, 1) := by decide +kernel
theorem dX8_dawnNow_34 : decode cX8_dawnNow 34 = .ok (.aload_n 0, 1) := by decide +kernel
theorem dX8_dawnNow_35 : decode cX8_dawnNow 35 = .ok (.iload_n 2, 1) := by decide +kernel
theorem dX8_dawnNow_36 : decode cX8_dawnNow 36 = .ok (.invokevirtual 234, 3) := by decide +kernel
theorem dX8_dawnNow_39 : decode cX8_dawnNow 39 = .ok (.iload_n 3, 1) := by decide +kernel
theorem dX8_dawnNow_40 : decode cX8_dawnNow 40 = .ok (.iadd, 1) := by decide +kernel
theorem dX8_dawnNow_41 : decode cX8_dawnNow 41 = .ok (.invokevirtual 237, 3) := by decide +kernel
theorem dX8_dawnNow_44 : decode cX8_dawnNow 44 = .ok (.iastore, 1) := by decide +kernel
theorem dX8_dawnNow_45 : decode cX8_dawnNow 45 = .ok (.aload_n 0, 1) := by decide +kernel
theorem dX8_dawnNow_46 : decode cX8_dawnNow 46 = .ok (.getfield 119, 3) := by decide +kernel
theorem dX8_dawnNow_49 : decode cX8_dawnNow 49 = .ok (.ifCond .ne 26, 3) := by decide +kernel
theorem dX8_dawnNow_52 : decode cX8_dawnNow 52 = .ok (.aload_n 0, 1) := by decide +kernel
theorem dX8_dawnNow_53 : decode cX8_dawnNow 53 = .ok (.getfield 83, 3) := by decide +kernel
theorem dX8_dawnNow_56 : decode cX8_dawnNow 56 = .ok (.iload_n 2, 1) := by decide +kernel
theorem dX8_dawnNow_57 : decode cX8_dawnNow 57 = .ok (.iaload, 1) := by decide +kernel
theorem dX8_dawnNow_58 : decode cX8_dawnNow 58 = .ok (.aload_n 0, 1) := by decide +kernel
theorem dX8_dawnNow_59 : decode cX8_dawnNow 59 = .ok (.getfield 83, 3) := by decide +kernel
theorem dX8_dawnNow_62 : decode cX8_dawnNow 62 = .ok (.iload_n 1, 1) := by decide +kernel
theorem dX8_dawnNow_63 : decode cX8_dawnNow 63 = .ok (.iaload, 1) := by decide +kernel
theorem dX8_dawnNow_64 : decode cX8_dawnNow 64 = .ok (.if_icmp .ge 7, 3) := by decide +kernel
theorem dX8_dawnNow_67 : decode cX8_dawnNow 67 = .ok (.iconst 1, 1) := by decide +kernel
theorem dX8_dawnNow_68 : decode cX8_dawnNow 68 = .ok (.goto 27, 3) := by decide +kernel
theorem dX8_dawnNow_71 : decode cX8_dawnNow 71 = .ok (.iconst 0, 1) := by decide +kernel
theorem dX8_dawnNow_72 : decode cX8_dawnNow 72 = .ok (.goto 23, 3) := by decide +kernel
theorem dX8_dawnNow_75 : decode cX8_dawnNow 75 = .ok (.aload_n 0, 1) := by decide +kernel
theorem dX8_dawnNow_76 : decode cX8_dawnNow 76 = .ok (.getfield 83, 3) := by decide +kernel
theorem dX8_dawnNow_79 : decode cX8_dawnNow 79 = .ok (.iload_n 2, 1) := by decide +kernel
theorem dX8_dawnNow_80 : decode cX8_dawnNow 80 = .ok (.iaload, 1) := by decide +kernel
theorem dX8_dawnNow_81 : decode cX8_dawnNow 81 = .ok (.aload_n 0, 1) := by decide +kernel
theorem dX8_dawnNow_82 : decode cX8_dawnNow 82 = .ok (.getfield 83, 3) := by decide +kernel
theorem dX8_dawnNow_85 : decode cX8_dawnNow 85 = .ok (.iload_n 1, 1) := by decide +kernel
theorem dX8_dawnNow_86 : decode cX8_dawnNow 86 = .ok (.iaload, 1) := by decide +kernel
theorem dX8_dawnNow_87 : decode cX8_dawnNow 87 = .ok (.if_icmp .le 7, 3) := by decide +kernel
theorem dX8_dawnNow_90 : decode cX8_dawnNow 90 = .ok (.iconst 1, 1) := by decide +kernel
theorem dX8_dawnNow_91 : decode cX8_dawnNow 91 = .ok (.goto 4, 3) := by decide +kernel
theorem dX8_dawnNow_94 : decode cX8_dawnNow 94 = .ok (.iconst 0, 1) := by decide +kernel
theorem dX8_dawnNow_95 : decode cX8_dawnNow 95 = .ok (.istore 4, 2) := by decide +kernel
theorem dX8_dawnNow_97 : decode cX8_dawnNow 97 = .ok (.iload 4, 2) := by decide +kernel
theorem dX8_dawnNow_99 : decode cX8_dawnNow 99 = .ok (.ifCond .eq 7, 3) := by decide +kernel
theorem dX8_dawnNow_102 : decode cX8_dawnNow 102 = .ok (.iload_n 2, 1) := by decide +kernel
theorem dX8_dawnNow_103 : decode cX8_dawnNow 103 = .ok (.goto 4, 3) := by decide +kernel
theorem dX8_dawnNow_106 : decode cX8_dawnNow 106 = .ok (.iload_n 1, 1) := by decide +kernel
theorem dX8_dawnNow_107 : decode cX8_dawnNow 107 = .ok (.istore_n 1, 1) := by decide +kernel
theorem dX8_dawnNow_108 : decode cX8_dawnNow 108 = .ok (.iinc 2 1, 3) := by decide +kernel
theorem dX8_dawnNow_111 : decode cX8_dawnNow 111 = .ok (.goto (-107), 3) := by decide +kernel
theorem dX8_dawnNow_114 : decode cX8_dawnNow 114 = .ok (.aload_n 0, 1) := by decide +kernel
theorem dX8_dawnNow_115 : decode cX8_dawnNow 115 = .ok (.getfield 119, 3) := by decide +kernel
theorem dX8_dawnNow_118 : decode cX8_dawnNow 118 = .ok (.iconst 2, 1) := by decide +kernel
theorem dX8_dawnNow_119 : decode cX8_dawnNow 119 = .ok (.if_icmp .ne 14, 3) := by decide +kernel
theorem dX8_dawnNow_122 : decode cX8_dawnNow 122 = .ok (.aload_n 0, 1) := by decide +kernel
theorem dX8_dawnNow_123 : decode cX8_dawnNow 123 = .ok (.aload_n 0, 1) := by decide +kernel
theorem dX8_dawnNow_124 : decode cX8_dawnNow 124 = .ok (.getfield 116, 3) := by decide +kernel
theorem dX8_dawnNow_127 : decode cX8_dawnNow 127 = .ok (.invokevirtual 263, 3) := by decide +kernel
theorem dX8_dawnNow_130 : decode cX8_dawnNow 130 = .ok (.goto 4, 3) := by decide +kernel
theorem dX8_dawnNow_133 : decode cX8_dawnNow 133 = .ok (.iload_n 1, 1) := by decide +kernel
theorem dX8_dawnNow_134 : decode cX8_dawnNow 134 = .ok (.istore_n 1, 1) := by decide +kernel
theorem dX8_dawnNow_135 : decode cX8_dawnNow 135 = .ok (.aload_n 0, 1) := by decide +kernel
theorem dX8_dawnNow_136 : decode cX8_dawnNow 136 = .ok (.getfield 128, 3) := by decide +kernel
theorem dX8_dawnNow_139 : decode cX8_dawnNow 139 = .ok (.sipush 200, 3) := by decide +kernel
theorem dX8_dawnNow_142 : decode cX8_dawnNow 142 = .ok (.if_icmp .ge 38, 3) := by decide +kernel
theorem dX8_dawnNow_145 : decode cX8_dawnNow 145 = .ok (.aload_n 0, 1) := by decide +kernel
theorem dX8_dawnNow_146 : decode cX8_dawnNow 146 = .ok (.getfield 50, 3) := by decide +kernel
theorem dX8_dawnNow_149 : decode cX8_dawnNow 149 = .ok (.aload_n 0, 1) := by decide +kernel
theorem dX8_dawnNow_150 : decode cX8_dawnNow 150 = .ok (.getfield 128, 3) := by decide +kernel
theorem dX8_dawnNow_153 : decode cX8_dawnNow 153 = .ok (.iload_n 1, 1) := by decide +kernel
theorem dX8_dawnNow_154 : decode cX8_dawnNow 154 = .ok (.iastore, 1) := by decide +kernel
theorem dX8_dawnNow_155 : decode cX8_dawnNow 155 = .ok (.aload_n 0, 1) := by decide +kernel
theorem dX8_dawnNow_156 : decode cX8_dawnNow 156 = .ok (.getfield 53, 3) := by decide +kernel
theorem dX8_dawnNow_159 : decode cX8_dawnNow 159 = .ok (.aload_n 0, 1) := by decide +kernel
theorem dX8_dawnNow_160 : decode cX8_dawnNow 160 = .ok (.getfield 128, 3) := by decide +kernel
theorem dX8_dawnNow_163 : decode cX8_dawnNow 163 = .ok (.aload_n 0, 1) := by decide +kernel
theorem dX8_dawnNow_164 : decode cX8_dawnNow 164 = .ok (.getfield 83, 3) := by decide +kernel
theorem dX8_dawnNow_167 : decode cX8_dawnNow 167 = .ok (.iload_n 1, 1) := by decide +kernel
theorem dX8_dawnNow_168 : decode cX8_dawnNow 168 = .ok (.iaload, 1) := by decide +kernel
theorem dX8_dawnNow_169 : decode cX8_dawnNow 169 = .ok (.iastore, 1) := by decide +kernel
theorem dX8_dawnNow_170 : decode cX8_dawnNow 170 = .ok (.aload_n 0, 1) := by decide +kernel
theorem dX8_dawnNow_171 : decode cX8_dawnNow 171 = .ok (.dup, 1) := by decide +kernel
theorem dX8_dawnNow_172 : decode cX8_dawnNow 172 = .ok (.getfield 128, 3) := by decide +kernel
theorem dX8_dawnNow_175 : decode cX8_dawnNow 175 = .ok (.iconst 1, 1) := by decide +kernel
theorem dX8_dawnNow_176 : decode cX8_dawnNow 176 = .ok (.iadd, 1) := by decide +kernel
theorem dX8_dawnNow_177 : decode cX8_dawnNow 177 = .ok (.putfield 128, 3) := by decide +kernel
theorem dX8_dawnNow_180 : decode cX8_dawnNow 180 = .ok (.aload_n 0, 1) := by decide +kernel
theorem dX8_dawnNow_181 : decode cX8_dawnNow 181 = .ok (.dup, 1) := by decide +kernel
theorem dX8_dawnNow_182 : decode cX8_dawnNow 182 = .ok (.getfield 122, 3) := by decide +kernel
theorem dX8_dawnNow_185 : decode cX8_dawnNow 185 = .ok (.iconst 1, 1) := by decide +kernel
theorem dX8_dawnNow_186 : decode cX8_dawnNow 186 = .ok (.iadd, 1) := by decide +kernel
theorem dX8_dawnNow_187 : decode cX8_dawnNow 187 = .ok (.putfield 122, 3) := by decide +kernel
theorem dX8_dawnNow_190 : decode cX8_dawnNow 190 = .ok (.aload_n 0, 1) := by decide +kernel
theorem dX8_dawnNow_191 : decode cX8_dawnNow 191 = .ok (.getfield 19, 3) := by decide +kernel
theorem dX8_dawnNow_194 : decode cX8_dawnNow 194 = .ok (.iload_n 1, 1) := by decide +kernel
theorem dX8_dawnNow_195 : decode cX8_dawnNow 195 = .ok (.iaload, 1) := by decide +kernel
theorem dX8_dawnNow_196 : decode cX8_dawnNow 196 = .ok (.istore_n 2, 1) := by decide +kernel
theorem dX8_dawnNow_197 : decode cX8_dawnNow 197 = .ok (.iconst 0, 1) := by decide +kernel
theorem dX8_dawnNow_198 : decode cX8_dawnNow 198 = .ok (.istore_n 3, 1) := by decide +kernel
theorem dX8_dawnNow_199 : decode cX8_dawnNow 199 = .ok (.iload_n 3, 1) := by decide +kernel
theorem dX8_dawnNow_200 : decode cX8_dawnNow 200 = .ok (.aload_n 0, 1) := by decide +kernel
theorem dX8_dawnNow_201 : decode cX8_dawnNow 201 = .ok (.getfield 109, 3) := by decide +kernel
theorem dX8_dawnNow_204 : decode cX8_dawnNow 204 = .ok (.if_icmp .ge 32, 3) := by decide +kernel
theorem dX8_dawnNow_207 : decode cX8_dawnNow 207 = .ok (.aload_n 0, 1) := by decide +kernel
theorem dX8_dawnNow_208 : decode cX8_dawnNow 208 = .ok (.getfield 44, 3) := by decide +kernel
theorem dX8_dawnNow_211 : decode cX8_dawnNow 211 = .ok (.iload_n 3, 1) := by decide +kernel
theorem dX8_dawnNow_212 : decode cX8_dawnNow 212 = .ok (.iload_n 3, 1) := by decide +kernel
theorem dX8_dawnNow_213 : decode cX8_dawnNow 213 = .ok (.iload_n 2, 1) := by decide +kernel
theorem dX8_dawnNow_214 : decode cX8_dawnNow 214 = .ok (.if_icmp .ne 14, 3) := by decide +kernel
theorem dX8_dawnNow_217 : decode cX8_dawnNow 217 = .ok (.aload_n 0, 1) := by decide +kernel
theorem dX8_dawnNow_218 : decode cX8_dawnNow 218 = .ok (.getfield 44, 3) := by decide +kernel
theorem dX8_dawnNow_221 : decode cX8_dawnNow 221 = .ok (.iload_n 3, 1) := by decide +kernel
theorem dX8_dawnNow_222 : decode cX8_dawnNow 222 = .ok (.iaload, 1) := by decide +kernel
theorem dX8_dawnNow_223 : decode cX8_dawnNow 223 = .ok (.iconst 1, 1) := by decide +kernel
theorem dX8_dawnNow_224 : decode cX8_dawnNow 224 = .ok (.iadd, 1) := by decide +kernel
theorem dX8_dawnNow_225 : decode cX8_dawnNow 225 = .ok (.goto 4, 3) := by decide +kernel
theorem dX8_dawnNow_228 : decode cX8_dawnNow 228 = .ok (.iconst 0, 1) := by decide +kernel
theorem dX8_dawnNow_229 : decode cX8_dawnNow 229 = .ok (.iastore, 1) := by decide +kernel
theorem dX8_dawnNow_230 : decode cX8_dawnNow 230 = .ok (.iinc 3 1, 3) := by decide +kernel
theorem dX8_dawnNow_233 : decode cX8_dawnNow 233 = .ok (.goto (-34), 3) := by decide +kernel
theorem dX8_dawnNow_236 : decode cX8_dawnNow 236 = .ok (.aload_n 0, 1) := by decide +kernel
theorem dX8_dawnNow_237 : decode cX8_dawnNow 237 = .ok (.getfield 44, 3) := by decide +kernel
theorem dX8_dawnNow_240 : decode cX8_dawnNow 240 = .ok (.iload_n 2, 1) := by decide +kernel
theorem dX8_dawnNow_241 : decode cX8_dawnNow 241 = .ok (.iaload, 1) := by decide +kernel
theorem dX8_dawnNow_242 : decode cX8_dawnNow 242 = .ok (.aload_n 0, 1) := by decide +kernel
theorem dX8_dawnNow_243 : decode cX8_dawnNow 243 = .ok (.getfield 7, 3) := by decide +kernel
theorem dX8_dawnNow_246 : decode cX8_dawnNow 246 = .ok (.iload_n 2, 1) := by decide +kernel
theorem dX8_dawnNow_247 : decode cX8_dawnNow 247 = .ok (.iaload, 1) := by decide +kernel
theorem dX8_dawnNow_248 : decode cX8_dawnNow 248 = .ok (.if_icmp .lt 35, 3) := by decide +kernel
theorem dX8_dawnNow_251 : decode cX8_dawnNow 251 = .ok (.aload_n 0, 1) := by decide +kernel
theorem dX8_dawnNow_252 : decode cX8_dawnNow 252 = .ok (.getfield 44, 3) := by decide +kernel
theorem dX8_dawnNow_255 : decode cX8_dawnNow 255 = .ok (.iload_n 2, 1) := by decide +kernel
theorem dX8_dawnNow_256 : decode cX8_dawnNow 256 = .ok (.iconst 0, 1) := by decide +kernel
theorem dX8_dawnNow_257 : decode cX8_dawnNow 257 = .ok (.iastore, 1) := by decide +kernel
theorem dX8_dawnNow_258 : decode cX8_dawnNow 258 = .ok (.aload_n 0, 1) := by decide +kernel
theorem dX8_dawnNow_259 : decode cX8_dawnNow 259 = .ok (.getfield 47, 3) := by decide +kernel
theorem dX8_dawnNow_262 : decode cX8_dawnNow 262 = .ok (.iload_n 2, 1) := by decide +kernel
theorem dX8_dawnNow_263 : decode cX8_dawnNow 263 = .ok (.dup2, 1) := by decide +kernel
theorem dX8_dawnNow_264 : decode cX8_dawnNow 264 = .ok (.iaload, 1) := by decide +kernel
theorem dX8_dawnNow_265 : decode cX8_dawnNow 265 = .ok (.iconst 1, 1) := by decide +kernel
theorem dX8_dawnNow_266 : decode cX8_dawnNow 266 = .ok (.iadd, 1) := by decide +kernel
theorem dX8_dawnNow_267 : decode cX8_dawnNow 267 = .ok (.iastore, 1) := by decide +kernel
theorem dX8_dawnNow_268 : decode cX8_dawnNow 268 = .ok (.aload_n 0, 1) := by decide +kernel
theorem dX8_dawnNow_269 : decode cX8_dawnNow 269 = .ok (.dup, 1) := by decide +kernel
theorem dX8_dawnNow_270 : decode cX8_dawnNow 270 = .ok (.getfield 125, 3) := by decide +kernel
theorem dX8_dawnNow_273 : decode cX8_dawnNow 273 = .ok (.aload_n 0, 1) := by decide +kernel
theorem dX8_dawnNow_274 : decode cX8_dawnNow 274 = .ok (.getfield 13, 3) := by decide +kernel
theorem dX8_dawnNow_277 : decode cX8_dawnNow 277 = .ok (.iload_n 2, 1) := by decide +kernel
theorem dX8_dawnNow_278 : decode cX8_dawnNow 278 = .ok (.iaload, 1) := by decide +kernel
theorem dX8_dawnNow_279 : decode cX8_dawnNow 279 = .ok (.iadd, 1) := by decide +kernel
theorem dX8_dawnNow_280 : decode cX8_dawnNow 280 = .ok (.putfield 125, 3) := by decide +kernel
theorem dX8_dawnNow_283 : decode cX8_dawnNow 283 = .ok (.iload_n 1, 1) := by decide +kernel
theorem dX8_dawnNow_284 : decode cX8_dawnNow 284 = .ok (.ireturn, 1) := by decide +kernel
theorem dX8_dawn_0 : decode cX8_dawn 0 = .ok (.iload_n 1, 1) := by decide +kernel
theorem dX8_dawn_1 : decode cX8_dawn 1 = .ok (.i2l, 1) := by decide +kernel
theorem dX8_dawn_2 : decode cX8_dawn 2 = .ok (.lconst 1, 1) := by decide +kernel
theorem dX8_dawn_3 : decode cX8_dawn 3 = .ok (.ldc2_w 266, 3) := by decide +kernel
theorem dX8_dawn_6 : decode cX8_dawn 6 = .ok (.invokestatic 112, 3) := by decide +kernel
theorem dX8_dawn_9 : decode cX8_dawn 9 = .ok (.ifCond .ne 6, 3) := by decide +kernel
theorem dX8_dawn_12 : decode cX8_dawn 12 = .ok (.ldc 133, 2) := by decide +kernel
theorem dX8_dawn_14 : decode cX8_dawn 14 = .ok (.ireturn, 1) := by decide +kernel
theorem dX8_dawn_15 : decode cX8_dawn 15 = .ok (.aload_n 0, 1) := by decide +kernel
theorem dX8_dawn_16 : decode cX8_dawn 16 = .ok (.getfield 116, 3) := by decide +kernel
theorem dX8_dawn_19 : decode cX8_dawn 19 = .ok (.ifCond .ne 7, 3) := by decide +kernel
theorem dX8_dawn_22 : decode cX8_dawn 22 = .ok (.ldc_w 268, 3) := by decide +kernel
theorem dX8_dawn_25 : decode cX8_dawn 25 = .ok (.ireturn, 1) := by decide +kernel
theorem dX8_dawn_26 : decode cX8_dawn 26 = .ok (.iconst (-1), 1) := by decide +kernel
theorem dX8_dawn_27 : decode cX8_dawn 27 = .ok (.istore_n 2, 1) := by decide +kernel
theorem dX8_dawn_28 : decode cX8_dawn 28 = .ok (.iconst 0, 1) := by decide +kernel
theorem dX8_dawn_29 : decode cX8_dawn 29 = .ok (.istore_n 3, 1) := by decide +kernel
theorem dX8_dawn_30 : decode cX8_dawn 30 = .ok (.iload_n 3, 1) := by decide +kernel
theorem dX8_dawn_31 : decode cX8_dawn 31 = .ok (.iload_n 1, 1) := by decide +kernel
theorem dX8_dawn_32 : decode cX8_dawn 32 = .ok (.if_icmp .ge 14, 3) := by decide +kernel
theorem dX8_dawn_35 : decode cX8_dawn 35 = .ok (.aload_n 0, 1) := by decide +kernel
theorem dX8_dawn_36 : decode cX8_dawn 36 = .ok (.invokevirtual 269, 3) := by decide +kernel
theorem dX8_dawn_39 : decode cX8_dawn 39 = .ok (.istore_n 2, 1) := by decide +kernel
theorem dX8_dawn_40 : decode cX8_dawn 40 = .ok (.iinc 3 1, 3) := by decide +kernel
theorem dX8_dawn_43 : decode cX8_dawn 43 = .ok (.goto (-13), 3) := by decide +kernel
theorem dX8_dawn_46 : decode cX8_dawn 46 = .ok (.iload_n 2, 1) := by decide +kernel
theorem dX8_dawn_47 : decode cX8_dawn 47 = .ok (.ireturn, 1) := by decide +kernel
theorem dX8_ruler_0 : decode cX8_ruler 0 = .ok (.iload_n 2, 1) := by decide +kernel
theorem dX8_ruler_1 : decode cX8_ruler 1 = .ok (.i2l, 1) := by decide +kernel
theorem dX8_ruler_2 : decode cX8_ruler 2 = .ok (.lconst 0, 1) := by decide +kernel
theorem dX8_ruler_3 : decode cX8_ruler 3 = .ok (.lconst 1, 1) := by decide +kernel
theorem dX8_ruler_4 : decode cX8_ruler 4 = .ok (.invokestatic 112, 3) := by decide +kernel
theorem dX8_ruler_7 : decode cX8_ruler 7 = .ok (.ifCond .ne 6, 3) := by decide +kernel
theorem dX8_ruler_10 : decode cX8_ruler 10 = .ok (.ldc 133, 2) := by decide +kernel
theorem dX8_ruler_12 : decode cX8_ruler 12 = .ok (.ireturn, 1) := by decide +kernel
theorem dX8_ruler_13 : decode cX8_ruler 13 = .ok (.iload_n 1, 1) := by decide +kernel
theorem dX8_ruler_14 : decode cX8_ruler 14 = .ok (.i2l, 1) := by decide +kernel
theorem dX8_ruler_15 : decode cX8_ruler 15 = .ok (.lconst 0, 1) := by decide +kernel
theorem dX8_ruler_16 : decode cX8_ruler 16 = .ok (.aload_n 0, 1) := by decide +kernel
theorem dX8_ruler_17 : decode cX8_ruler 17 = .ok (.getfield 128, 3) := by decide +kernel
theorem dX8_ruler_20 : decode cX8_ruler 20 = .ok (.iconst 1, 1) := by decide +kernel
theorem dX8_ruler_21 : decode cX8_ruler 21 = .ok (.isub, 1) := by decide +kernel
theorem dX8_ruler_22 : decode cX8_ruler 22 = .ok (.i2l, 1) := by decide +kernel
theorem dX8_ruler_23 : decode cX8_ruler 23 = .ok (.invokestatic 112, 3) := by decide +kernel
theorem dX8_ruler_26 : decode cX8_ruler 26 = .ok (.ifCond .ne 7, 3) := by decide +kernel
theorem dX8_ruler_29 : decode cX8_ruler 29 = .ok (.iconst (-1), 1) := by decide +kernel
theorem dX8_ruler_30 : decode cX8_ruler 30 = .ok (.goto 22, 3) := by decide +kernel
theorem dX8_ruler_33 : decode cX8_ruler 33 = .ok (.iload_n 2, 1) := by decide +kernel
theorem dX8_ruler_34 : decode cX8_ruler 34 = .ok (.ifCond .ne 12, 3) := by decide +kernel
theorem dX8_ruler_37 : decode cX8_ruler 37 = .ok (.aload_n 0, 1) := by decide +kernel
theorem dX8_ruler_38 : decode cX8_ruler 38 = .ok (.getfield 50, 3) := by decide +kernel
theorem dX8_ruler_41 : decode cX8_ruler 41 = .ok (.iload_n 1, 1) := by decide +kernel
theorem dX8_ruler_42 : decode cX8_ruler 42 = .ok (.iaload, 1) := by decide +kernel
theorem dX8_ruler_43 : decode cX8_ruler 43 = .ok (.goto 9, 3) := by decide +kernel
theorem dX8_ruler_46 : decode cX8_ruler 46 = .ok (.aload_n 0, 1) := by decide +kernel
theorem dX8_ruler_47 : decode cX8_ruler 47 = .ok (.getfield 53, 3) := by decide +kernel
theorem dX8_ruler_50 : decode cX8_ruler 50 = .ok (.iload_n 1, 1) := by decide +kernel
theorem dX8_ruler_51 : decode cX8_ruler 51 = .ok (.iaload, 1) := by decide +kernel
theorem dX8_ruler_52 : decode cX8_ruler 52 = .ok (.ireturn, 1) := by decide +kernel
theorem dX8_laterRaw_0 : decode cX8_laterRaw 0 = .ok (.aload_n 0, 1) := by decide +kernel
theorem dX8_laterRaw_1 : decode cX8_laterRaw 1 = .ok (.iload_n 1, 1) := by decide +kernel
theorem dX8_laterRaw_2 : decode cX8_laterRaw 2 = .ok (.invokevirtual 240, 3) := by decide +kernel
theorem dX8_laterRaw_5 : decode cX8_laterRaw 5 = .ok (.iload_n 2, 1) := by decide +kernel
theorem dX8_laterRaw_6 : decode cX8_laterRaw 6 = .ok (.isub, 1) := by decide +kernel
theorem dX8_laterRaw_7 : decode cX8_laterRaw 7 = .ok (.istore_n 3, 1) := by decide +kernel
theorem dX8_laterRaw_8 : decode cX8_laterRaw 8 = .ok (.iconst 2, 1) := by decide +kernel
theorem dX8_laterRaw_9 : decode cX8_laterRaw 9 = .ok (.aload_n 0, 1) := by decide +kernel
theorem dX8_laterRaw_10 : decode cX8_laterRaw 10 = .ok (.getfield 25, 3) := by decide +kernel
theorem dX8_laterRaw_13 : decode cX8_laterRaw 13 = .ok (.iload_n 1, 1) := by decide +kernel
theorem dX8_laterRaw_14 : decode cX8_laterRaw 14 = .ok (.iaload, 1) := by decide +kernel
theorem dX8_laterRaw_15 : decode cX8_laterRaw 15 = .ok (.imul, 1) := by decide +kernel
theorem dX8_laterRaw_16 : decode cX8_laterRaw 16 = .ok (.iconst 1, 1) := by decide +kernel
theorem dX8_laterRaw_17 : decode cX8_laterRaw 17 = .ok (.iadd, 1) := by decide +kernel
theorem dX8_laterRaw_18 : decode cX8_laterRaw 18 = .ok (.istore 4, 2) := by decide +kernel
theorem dX8_laterRaw_20 : decode cX8_laterRaw 20 = .ok (.iload_n 3, 1) := by decide +kernel
theorem dX8_laterRaw_21 : decode cX8_laterRaw 21 = .ok (.ifCond .ge 7, 3) := by decide +kernel
theorem dX8_laterRaw_24 : decode cX8_laterRaw 24 = .ok (.iconst 0, 1) := by decide +kernel
theorem dX8_laterRaw_25 : decode cX8_laterRaw 25 = .ok (.goto 15, 3) := by decide +kernel
theorem dX8_laterRaw_28 : decode cX8_laterRaw 28 = .ok (.iload_n 3, 1) := by decide +kernel
theorem dX8_laterRaw_29 : decode cX8_laterRaw 29 = .ok (.iload 4, 2) := by decide +kernel
theorem dX8_laterRaw_31 : decode cX8_laterRaw 31 = .ok (.if_icmp .le 8, 3) := by decide +kernel
theorem dX8_laterRaw_34 : decode cX8_laterRaw 34 = .ok (.iload 4, 2) := by decide +kernel
theorem dX8_laterRaw_36 : decode cX8_laterRaw 36 = .ok (.goto 4, 3) := by decide +kernel
theorem dX8_laterRaw_39 : decode cX8_laterRaw 39 = .ok (.iload_n 3, 1) := by decide +kernel
theorem dX8_laterRaw_40 : decode cX8_laterRaw 40 = .ok (.ireturn, 1) := by decide +kernel
theorem dX8_later_0 : decode cX8_later 0 = .ok (.aload_n 0, 1) := by decide +kernel
theorem dX8_later_1 : decode cX8_later 1 = .ok (.iload_n 1, 1) := by decide +kernel
theorem dX8_later_2 : decode cX8_later 2 = .ok (.invokevirtual 228, 3) := by decide +kernel
theorem dX8_later_5 : decode cX8_later 5 = .ok (.ifCond .eq 15, 3) := by decide +kernel
theorem dX8_later_8 : decode cX8_later 8 = .ok (.iload_n 2, 1) := by decide +kernel
theorem dX8_later_9 : decode cX8_later 9 = .ok (.aload_n 0, 1) := by decide +kernel
theorem dX8_later_10 : decode cX8_later 10 = .ok (.getfield 34, 3) := by decide +kernel
theorem dX8_later_13 : decode cX8_later 13 = .ok (.if_icmp .lt 7, 3) := by decide +kernel
theorem dX8_later_16 : decode cX8_later 16 = .ok (.iconst 0, 1) := by decide +kernel
theorem dX8_later_17 : decode cX8_later 17 = .ok (.goto 9, 3) := by decide +kernel
theorem dX8_later_20 : decode cX8_later 20 = .ok (.aload_n 0, 1) := by decide +kernel
theorem dX8_later_21 : decode cX8_later 21 = .ok (.iload_n 1, 1) := by decide +kernel
theorem dX8_later_22 : decode cX8_later 22 = .ok (.iload_n 2, 1) := by decide +kernel
theorem dX8_later_23 : decode cX8_later 23 = .ok (.invokevirtual 272, 3) := by decide +kernel
theorem dX8_later_26 : decode cX8_later 26 = .ok (.ireturn, 1) := by decide +kernel
theorem dX8_lets_0 : decode cX8_lets 0 = .ok (.aload_n 0, 1) := by decide +kernel
theorem dX8_lets_1 : decode cX8_lets 1 = .ok (.iload_n 1, 1) := by decide +kernel
theorem dX8_lets_2 : decode cX8_lets 2 = .ok (.iload_n 3, 1) := by decide +kernel
theorem dX8_lets_3 : decode cX8_lets 3 = .ok (.invokevirtual 275, 3) := by decide +kernel
theorem dX8_lets_6 : decode cX8_lets 6 = .ok (.istore 4, 2) := by decide +kernel
theorem dX8_lets_8 : decode cX8_lets 8 = .ok (.aload_n 0, 1) := by decide +kernel
theorem dX8_lets_9 : decode cX8_lets 9 = .ok (.iload_n 1, 1) := by decide +kernel
theorem dX8_lets_10 : decode cX8_lets 10 = .ok (.iload_n 3, 1) := by decide +kernel
theorem dX8_lets_11 : decode cX8_lets 11 = .ok (.iconst 1, 1) := by decide +kernel
theorem dX8_lets_12 : decode cX8_lets 12 = .ok (.isub, 1) := by decide +kernel
theorem dX8_lets_13 : decode cX8_lets 13 = .ok (.invokevirtual 275, 3) := by decide +kernel
theorem dX8_lets_16 : decode cX8_lets 16 = .ok (.istore 5, 2) := by decide +kernel
theorem dX8_lets_18 : decode cX8_lets 18 = .ok (.aload_n 0, 1) := by decide +kernel
theorem dX8_lets_19 : decode cX8_lets 19 = .ok (.getfield 119, 3) := by decide +kernel
theorem dX8_lets_22 : decode cX8_lets 22 = .ok (.ifCond .ne 16, 3) := by decide +kernel
theorem dX8_lets_25 : decode cX8_lets 25 = .ok (.iload_n 1, 1) := by decide +kernel
theorem dX8_lets_26 : decode cX8_lets 26 = .ok (.iload_n 2, 1) := by decide +kernel
theorem dX8_lets_27 : decode cX8_lets 27 = .ok (.if_icmp .le 8, 3) := by decide +kernel
theorem dX8_lets_30 : decode cX8_lets 30 = .ok (.iload 5, 2) := by decide +kernel
theorem dX8_lets_32 : decode cX8_lets 32 = .ok (.goto 5, 3) := by decide +kernel
theorem dX8_lets_35 : decode cX8_lets 35 = .ok (.iload 4, 2) := by decide +kernel
theorem dX8_lets_37 : decode cX8_lets 37 = .ok (.ireturn, 1) := by decide +kernel
theorem dX8_lets_38 : decode cX8_lets 38 = .ok (.iconst 2, 1) := by decide +kernel
theorem dX8_lets_39 : decode cX8_lets 39 = .ok (.aload_n 0, 1) := by decide +kernel
theorem dX8_lets_40 : decode cX8_lets 40 = .ok (.getfield 25, 3) := by decide +kernel
theorem dX8_lets_43 : decode cX8_lets 43 = .ok (.iload_n 1, 1) := by decide +kernel
theorem dX8_lets_44 : decode cX8_lets 44 = .ok (.iaload, 1) := by decide +kernel
theorem dX8_lets_45 : decode cX8_lets 45 = .ok (.imul, 1) := by decide +kernel
theorem dX8_lets_46 : decode cX8_lets 46 = .ok (.iconst 1, 1) := by decide +kernel
theorem dX8_lets_47 : decode cX8_lets 47 = .ok (.iadd, 1) := by decide +kernel
theorem dX8_lets_48 : decode cX8_lets 48 = .ok (.istore 6, 2) := by decide +kernel
theorem dX8_lets_50 : decode cX8_lets 50 = .ok (.iload_n 1, 1) := by decide +kernel
theorem dX8_lets_51 : decode cX8_lets 51 = .ok (.iload_n 2, 1) := by decide +kernel
theorem dX8_lets_52 : decode cX8_lets 52 = .ok (.if_icmp .le 11, 3) := by decide +kernel
theorem dX8_lets_55 : decode cX8_lets 55 = .ok (.iload 6, 2) := by decide +kernel
theorem dX8_lets_57 : decode cX8_lets 57 = .ok (.iload 4, 2) := by decide +kernel
theorem dX8_lets_59 : decode cX8_lets 59 = .ok (.isub, 1) := by decide +kernel
theorem dX8_lets_60 : decode cX8_lets 60 = .ok (.goto 8, 3) := by decide +kernel
theorem dX8_lets_63 : decode cX8_lets 63 = .ok (.iload 6, 2) := by decide +kernel
theorem dX8_lets_65 : decode cX8_lets 65 = .ok (.iload 5, 2) := by decide +kernel
theorem dX8_lets_67 : decode cX8_lets 67 = .ok (.isub, 1) := by decide +kernel
theorem dX8_lets_68 : decode cX8_lets 68 = .ok (.ireturn, 1) := by decide +kernel
theorem dX8_oddsOf_0 : decode cX8_oddsOf 0 = .ok (.aload_n 0, 1) := by decide +kernel
theorem dX8_oddsOf_1 : decode cX8_oddsOf 1 = .ok (.getfield 119, 3) := by decide +kernel
theorem dX8_oddsOf_4 : decode cX8_oddsOf 4 = .ok (.iconst 2, 1) := by decide +kernel
theorem dX8_oddsOf_5 : decode cX8_oddsOf 5 = .ok (.if_icmp .ne 14, 3) := by decide +kernel
theorem dX8_oddsOf_8 : decode cX8_oddsOf 8 = .ok (.ldc2_w 278, 3) := by decide +kernel
theorem dX8_oddsOf_11 : decode cX8_oddsOf 11 = .ok (.aload_n 0, 1) := by decide +kernel
theorem dX8_oddsOf_12 : decode cX8_oddsOf 12 = .ok (.getfield 116, 3) := by decide +kernel
theorem dX8_oddsOf_15 : decode cX8_oddsOf 15 = .ok (.i2l, 1) := by decide +kernel
theorem dX8_oddsOf_16 : decode cX8_oddsOf 16 = .ok (.ldiv, 1) := by decide +kernel
theorem dX8_oddsOf_17 : decode cX8_oddsOf 17 = .ok (.l2i, 1) := by decide +kernel
theorem dX8_oddsOf_18 : decode cX8_oddsOf 18 = .ok (.ireturn, 1) := by decide +kernel
theorem dX8_oddsOf_19 : decode cX8_oddsOf 19 = .ok (.lconst 0, 1) := by decide +kernel
theorem dX8_oddsOf_20 : decode cX8_oddsOf 20 = .ok (.lstore_n 2, 1) := by decide +kernel
theorem dX8_oddsOf_21 : decode cX8_oddsOf 21 = .ok (.aload_n 0, 1) := by decide +kernel
theorem dX8_oddsOf_22 : decode cX8_oddsOf 22 = .ok (.iload_n 1, 1) := by decide +kernel
theorem dX8_oddsOf_23 : decode cX8_oddsOf 23 = .ok (.invokevirtual 234, 3) := by decide +kernel
theorem dX8_oddsOf_26 : decode cX8_oddsOf 26 = .ok (.istore 4, 2) := by decide +kernel
theorem dX8_oddsOf_28 : decode cX8_oddsOf 28 = .ok (.iload 4, 2) := by decide +kernel
theorem dX8_oddsOf_30 : decode cX8_oddsOf 30 = .ok (.aload_n 0, 1) := by decide +kernel
theorem dX8_oddsOf_31 : decode cX8_oddsOf 31 = .ok (.iload_n 1, 1) := by decide +kernel
theorem dX8_oddsOf_32 : decode cX8_oddsOf 32 = .ok (.invokevirtual 240, 3) := by decide +kernel
theorem dX8_oddsOf_35 : decode cX8_oddsOf 35 = .ok (.if_icmp .gt 97, 3) := by decide +kernel
theorem dX8_oddsOf_38 : decode cX8_oddsOf 38 = .ok (.aload_n 0, 1) := by decide +kernel
theorem dX8_oddsOf_39 : decode cX8_oddsOf 39 = .ok (.iload_n 1, 1) := by decide +kernel
theorem dX8_oddsOf_40 : decode cX8_oddsOf 40 = .ok (.iload 4, 2) := by decide +kernel
theorem dX8_oddsOf_42 : decode cX8_oddsOf 42 = .ok (.invokevirtual 237, 3) := by decide +kernel
theorem dX8_oddsOf_45 : decode cX8_oddsOf 45 = .ok (.istore 5, 2) := by decide +kernel
theorem dX8_oddsOf_47 : decode cX8_oddsOf 47 = .ok (.ldc2_w 278, 3) := by decide +kernel
theorem dX8_oddsOf_50 : decode cX8_oddsOf 50 = .ok (.iconst 2, 1) := by decide +kernel
theorem dX8_oddsOf_51 : decode cX8_oddsOf 51 = .ok (.aload_n 0, 1) := by decide +kernel
theorem dX8_oddsOf_52 : decode cX8_oddsOf 52 = .ok (.getfield 25, 3) := by decide +kernel
theorem dX8_oddsOf_55 : decode cX8_oddsOf 55 = .ok (.iload_n 1, 1) := by decide +kernel
theorem dX8_oddsOf_56 : decode cX8_oddsOf 56 = .ok (.iaload, 1) := by decide +kernel
theorem dX8_oddsOf_57 : decode cX8_oddsOf 57 = .ok (.imul, 1) := by decide +kernel
theorem dX8_oddsOf_58 : decode cX8_oddsOf 58 = .ok (.iconst 1, 1) := by decide +kernel
theorem dX8_oddsOf_59 : decode cX8_oddsOf 59 = .ok (.iadd, 1) := by decide +kernel
theorem dX8_oddsOf_60 : decode cX8_oddsOf 60 = .ok (.i2l, 1) := by decide +kernel
theorem dX8_oddsOf_61 : decode cX8_oddsOf 61 = .ok (.ldiv, 1) := by decide +kernel
theorem dX8_oddsOf_62 : decode cX8_oddsOf 62 = .ok (.lstore 6, 2) := by decide +kernel
theorem dX8_oddsOf_64 : decode cX8_oddsOf 64 = .ok (.iconst 0, 1) := by decide +kernel
theorem dX8_oddsOf_65 : decode cX8_oddsOf 65 = .ok (.istore 8, 2) := by decide +kernel
theorem dX8_oddsOf_67 : decode cX8_oddsOf 67 = .ok (.iload 8, 2) := by decide +kernel
theorem dX8_oddsOf_69 : decode cX8_oddsOf 69 = .ok (.aload_n 0, 1) := by decide +kernel
theorem dX8_oddsOf_70 : decode cX8_oddsOf 70 = .ok (.getfield 116, 3) := by decide +kernel
theorem dX8_oddsOf_73 : decode cX8_oddsOf 73 = .ok (.if_icmp .ge 48, 3) := by decide +kernel
theorem dX8_oddsOf_76 : decode cX8_oddsOf 76 = .ok (.iload 8, 2) := by decide +kernel
theorem dX8_oddsOf_78 : decode cX8_oddsOf 78 = .ok (.iload_n 1, 1) := by decide +kernel
theorem dX8_oddsOf_79 : decode cX8_oddsOf 79 = .ok (.if_icmp .ne 8, 3) := by decide +kernel
theorem dX8_oddsOf_82 : decode cX8_oddsOf 82 = .ok (.lload 6, 2) := by decide +kernel
theorem dX8_oddsOf_84 : decode cX8_oddsOf 84 = .ok (.goto 29, 3) := by decide +kernel
theorem dX8_oddsOf_87 : decode cX8_oddsOf 87 = .ok (.lload 6, 2) := by decide +kernel
theorem dX8_oddsOf_89 : decode cX8_oddsOf 89 = .ok (.aload_n 0, 1) := by decide +kernel
theorem dX8_oddsOf_90 : decode cX8_oddsOf 90 = .ok (.iload 8, 2) := by decide +kernel
theorem dX8_oddsOf_92 : decode cX8_oddsOf 92 = .ok (.iload_n 1, 1) := by decide +kernel
theorem dX8_oddsOf_93 : decode cX8_oddsOf 93 = .ok (.iload 5, 2) := by decide +kernel
theorem dX8_oddsOf_95 : decode cX8_oddsOf 95 = .ok (.invokevirtual 280, 3) := by decide +kernel
theorem dX8_oddsOf_98 : decode cX8_oddsOf 98 = .ok (.i2l, 1) := by decide +kernel
theorem dX8_oddsOf_99 : decode cX8_oddsOf 99 = .ok (.lmul, 1) := by decide +kernel
theorem dX8_oddsOf_100 : decode cX8_oddsOf 100 = .ok (.iconst 2, 1) := by decide +kernel
theorem dX8_oddsOf_101 : decode cX8_oddsOf 101 = .ok (.aload_n 0, 1) := by decide +kernel
theorem dX8_oddsOf_102 : decode cX8_oddsOf 102 = .ok (.getfield 25, 3) := by decide +kernel
theorem dX8_oddsOf_105 : decode cX8_oddsOf 105 = .ok (.iload 8, 2) := by decide +kernel
theorem dX8_oddsOf_107 : decode cX8_oddsOf 107 = .ok (.iaload, 1) := by decide +kernel
theorem dX8_oddsOf_108 : decode cX8_oddsOf 108 = .ok (.imul, 1) := by decide +kernel
theorem dX8_oddsOf_109 : decode cX8_oddsOf 109 = .ok (.iconst 1, 1) := by decide +kernel
theorem dX8_oddsOf_110 : decode cX8_oddsOf 110 = .ok (.iadd, 1) := by decide +kernel
theorem dX8_oddsOf_111 : decode cX8_oddsOf 111 = .ok (.i2l, 1) := by decide +kernel
theorem dX8_oddsOf_112 : decode cX8_oddsOf 112 = .ok (.ldiv, 1) := by decide +kernel
theorem dX8_oddsOf_113 : decode cX8_oddsOf 113 = .ok (.lstore 6, 2) := by decide +kernel
theorem dX8_oddsOf_115 : decode cX8_oddsOf 115 = .ok (.iinc 8 1, 3) := by decide +kernel
theorem dX8_oddsOf_118 : decode cX8_oddsOf 118 = .ok (.goto (-51), 3) := by decide +kernel
theorem dX8_oddsOf_121 : decode cX8_oddsOf 121 = .ok (.lload_n 2, 1) := by decide +kernel
theorem dX8_oddsOf_122 : decode cX8_oddsOf 122 = .ok (.lload 6, 2) := by decide +kernel
theorem dX8_oddsOf_124 : decode cX8_oddsOf 124 = .ok (.ladd, 1) := by decide +kernel
theorem dX8_oddsOf_125 : decode cX8_oddsOf 125 = .ok (.lstore_n 2, 1) := by decide +kernel
theorem dX8_oddsOf_126 : decode cX8_oddsOf 126 = .ok (.iinc 4 1, 3) := by decide +kernel
theorem dX8_oddsOf_129 : decode cX8_oddsOf 129 = .ok (.goto (-101), 3) := by decide +kernel
theorem dX8_oddsOf_132 : decode cX8_oddsOf 132 = .ok (.lload_n 2, 1) := by decide +kernel
theorem dX8_oddsOf_133 : decode cX8_oddsOf 133 = .ok (.l2i, 1) := by decide +kernel
theorem dX8_oddsOf_134 : decode cX8_oddsOf 134 = .ok (.ireturn, 1) := by decide +kernel
theorem dX8_odds_0 : decode cX8_odds 0 = .ok (.aload_n 0, 1) := by decide +kernel
theorem dX8_odds_1 : decode cX8_odds 1 = .ok (.iload_n 1, 1) := by decide +kernel
theorem dX8_odds_2 : decode cX8_odds 2 = .ok (.invokevirtual 231, 3) := by decide +kernel
theorem dX8_odds_5 : decode cX8_odds 5 = .ok (.ifCond .eq 11, 3) := by decide +kernel
theorem dX8_odds_8 : decode cX8_odds 8 = .ok (.aload_n 0, 1) := by decide +kernel
theorem dX8_odds_9 : decode cX8_odds 9 = .ok (.iload_n 1, 1) := by decide +kernel
theorem dX8_odds_10 : decode cX8_odds 10 = .ok (.invokevirtual 284, 3) := by decide +kernel
theorem dX8_odds_13 : decode cX8_odds 13 = .ok (.goto 5, 3) := by decide +kernel
theorem dX8_odds_16 : decode cX8_odds 16 = .ok (.ldc 223, 2) := by decide +kernel
theorem dX8_odds_18 : decode cX8_odds 18 = .ok (.ireturn, 1) := by decide +kernel
theorem dX8_oddsOfHouses_0 : decode cX8_oddsOfHouses 0 = .ok (.iconst 0, 1) := by decide +kernel
theorem dX8_oddsOfHouses_1 : decode cX8_oddsOfHouses 1 = .ok (.istore_n 2, 1) := by decide +kernel
theorem dX8_oddsOfHouses_2 : decode cX8_oddsOfHouses 2 = .ok (.iconst 0, 1) := by decide +kernel
theorem dX8_oddsOfHouses_3 : decode cX8_oddsOfHouses 3 = .ok (.istore_n 3, 1) := by decide +kernel
theorem dX8_oddsOfHouses_4 : decode cX8_oddsOfHouses 4 = .ok (.iload_n 3, 1) := by decide +kernel
theorem dX8_oddsOfHouses_5 : decode cX8_oddsOfHouses 5 = .ok (.aload_n 0, 1) := by decide +kernel
theorem dX8_oddsOfHouses_6 : decode cX8_oddsOfHouses 6 = .ok (.getfield 116, 3) := by decide +kernel
theorem dX8_oddsOfHouses_9 : decode cX8_oddsOfHouses 9 = .ok (.if_icmp .ge 34, 3) := by decide +kernel
theorem dX8_oddsOfHouses_12 : decode cX8_oddsOfHouses 12 = .ok (.iload_n 2, 1) := by decide +kernel
theorem dX8_oddsOfHouses_13 : decode cX8_oddsOfHouses 13 = .ok (.iload_n 1, 1) := by decide +kernel
theorem dX8_oddsOfHouses_14 : decode cX8_oddsOfHouses 14 = .ok (.aload_n 0, 1) := by decide +kernel
theorem dX8_oddsOfHouses_15 : decode cX8_oddsOfHouses 15 = .ok (.getfield 19, 3) := by decide +kernel
theorem dX8_oddsOfHouses_18 : decode cX8_oddsOfHouses 18 = .ok (.iload_n 3, 1) := by decide +kernel
theorem dX8_oddsOfHouses_19 : decode cX8_oddsOfHouses 19 = .ok (.iaload, 1) := by decide +kernel
theorem dX8_oddsOfHouses_20 : decode cX8_oddsOfHouses 20 = .ok (.invokestatic 287, 3) := by decide +kernel
theorem dX8_oddsOfHouses_23 : decode cX8_oddsOfHouses 23 = .ok (.ifCond .eq 11, 3) := by decide +kernel
theorem dX8_oddsOfHouses_26 : decode cX8_oddsOfHouses 26 = .ok (.aload_n 0, 1) := by decide +kernel
theorem dX8_oddsOfHouses_27 : decode cX8_oddsOfHouses 27 = .ok (.iload_n 3, 1) := by decide +kernel
theorem dX8_oddsOfHouses_28 : decode cX8_oddsOfHouses 28 = .ok (.invokevirtual 284, 3) := by decide +kernel
theorem dX8_oddsOfHouses_31 : decode cX8_oddsOfHouses 31 = .ok (.goto 4, 3) := by decide +kernel
theorem dX8_oddsOfHouses_34 : decode cX8_oddsOfHouses 34 = .ok (.iconst 0, 1) := by decide +kernel
theorem dX8_oddsOfHouses_35 : decode cX8_oddsOfHouses 35 = .ok (.iadd, 1) := by decide +kernel
theorem dX8_oddsOfHouses_36 : decode cX8_oddsOfHouses 36 = .ok (.istore_n 2, 1) := by decide +kernel
theorem dX8_oddsOfHouses_37 : decode cX8_oddsOfHouses 37 = .ok (.iinc 3 1, 3) := by decide +kernel
theorem dX8_oddsOfHouses_40 : decode cX8_oddsOfHouses 40 = .ok (.goto (-36), 3) := by decide +kernel
theorem dX8_oddsOfHouses_43 : decode cX8_oddsOfHouses 43 = .ok (.iload_n 2, 1) := by decide +kernel
theorem dX8_oddsOfHouses_44 : decode cX8_oddsOfHouses 44 = .ok (.ireturn, 1) := by decide +kernel
theorem dX8_together_0 : decode cX8_together 0 = .ok (.iload_n 1, 1) := by decide +kernel
theorem dX8_together_1 : decode cX8_together 1 = .ok (.i2l, 1) := by decide +kernel
theorem dX8_together_2 : decode cX8_together 2 = .ok (.lconst 0, 1) := by decide +kernel
theorem dX8_together_3 : decode cX8_together 3 = .ok (.iconst 1, 1) := by decide +kernel
theorem dX8_together_4 : decode cX8_together 4 = .ok (.aload_n 0, 1) := by decide +kernel
theorem dX8_together_5 : decode cX8_together 5 = .ok (.getfield 109, 3) := by decide +kernel
theorem dX8_together_8 : decode cX8_together 8 = .ok (.ishl, 1) := by decide +kernel
theorem dX8_together_9 : decode cX8_together 9 = .ok (.iconst 1, 1) := by decide +kernel
theorem dX8_together_10 : decode cX8_together 10 = .ok (.isub, 1) := by decide +kernel
theorem dX8_together_11 : decode cX8_together 11 = .ok (.i2l, 1) := by decide +kernel
theorem dX8_together_12 : decode cX8_together 12 = .ok (.invokestatic 112, 3) := by decide +kernel
theorem dX8_together_15 : decode cX8_together 15 = .ok (.ifCond .eq 11, 3) := by decide +kernel
theorem dX8_together_18 : decode cX8_together 18 = .ok (.aload_n 0, 1) := by decide +kernel
theorem dX8_together_19 : decode cX8_together 19 = .ok (.iload_n 1, 1) := by decide +kernel
theorem dX8_together_20 : decode cX8_together 20 = .ok (.invokevirtual 291, 3) := by decide +kernel
theorem dX8_together_23 : decode cX8_together 23 = .ok (.goto 5, 3) := by decide +kernel
theorem dX8_together_26 : decode cX8_together 26 = .ok (.ldc 223, 2) := by decide +kernel
theorem dX8_together_28 : decode cX8_together 28 = .ok (.ireturn, 1) := by decide +kernel
theorem dX8_shiftHouse_0 : decode cX8_shiftHouse 0 = .ok (.iconst 0, 1) := by decide +kernel
theorem dX8_shiftHouse_1 : decode cX8_shiftHouse 1 = .ok (.istore_n 3, 1) := by decide +kernel
theorem dX8_shiftHouse_2 : decode cX8_shiftHouse 2 = .ok (.iload_n 3, 1) := by decide +kernel
theorem dX8_shiftHouse_3 : decode cX8_shiftHouse 3 = .ok (.aload_n 0, 1) := by decide +kernel
theorem dX8_shiftHouse_4 : decode cX8_shiftHouse 4 = .ok (.getfield 116, 3) := by decide +kernel
theorem dX8_shiftHouse_7 : decode cX8_shiftHouse 7 = .ok (.if_icmp .ge 35, 3) := by decide +kernel
theorem dX8_shiftHouse_10 : decode cX8_shiftHouse 10 = .ok (.aload_n 0, 1) := by decide +kernel
theorem dX8_shiftHouse_11 : decode cX8_shiftHouse 11 = .ok (.getfield 31, 3) := by decide +kernel
theorem dX8_shiftHouse_14 : decode cX8_shiftHouse 14 = .ok (.iload_n 3, 1) := by decide +kernel
theorem dX8_shiftHouse_15 : decode cX8_shiftHouse 15 = .ok (.aload_n 0, 1) := by decide +kernel
theorem dX8_shiftHouse_16 : decode cX8_shiftHouse 16 = .ok (.getfield 19, 3) := by decide +kernel
theorem dX8_shiftHouse_19 : decode cX8_shiftHouse 19 = .ok (.iload_n 3, 1) := by decide +kernel
theorem dX8_shiftHouse_20 : decode cX8_shiftHouse 20 = .ok (.iaload, 1) := by decide +kernel
theorem dX8_shiftHouse_21 : decode cX8_shiftHouse 21 = .ok (.iload_n 1, 1) := by decide +kernel
theorem dX8_shiftHouse_22 : decode cX8_shiftHouse 22 = .ok (.if_icmp .ne 7, 3) := by decide +kernel
theorem dX8_shiftHouse_25 : decode cX8_shiftHouse 25 = .ok (.iload_n 2, 1) := by decide +kernel
theorem dX8_shiftHouse_26 : decode cX8_shiftHouse 26 = .ok (.goto 9, 3) := by decide +kernel
theorem dX8_shiftHouse_29 : decode cX8_shiftHouse 29 = .ok (.aload_n 0, 1) := by decide +kernel
theorem dX8_shiftHouse_30 : decode cX8_shiftHouse 30 = .ok (.getfield 31, 3) := by decide +kernel
theorem dX8_shiftHouse_33 : decode cX8_shiftHouse 33 = .ok (.iload_n 3, 1) := by decide +kernel
theorem dX8_shiftHouse_34 : decode cX8_shiftHouse 34 = .ok (.iaload, 1) := by decide +kernel
theorem dX8_shiftHouse_35 : decode cX8_shiftHouse 35 = .ok (.iastore, 1) := by decide +kernel
theorem dX8_shiftHouse_36 : decode cX8_shiftHouse 36 = .ok (.iinc 3 1, 3) := by decide +kernel
theorem dX8_shiftHouse_39 : decode cX8_shiftHouse 39 = .ok (.goto (-37), 3) := by decide +kernel
theorem dX8_shiftHouse_42 : decode cX8_shiftHouse 42 = .ok (.return_, 1) := by decide +kernel
theorem dX8_bestShift_0 : decode cX8_bestShift 0 = .ok (.iconst (-1), 1) := by decide +kernel
theorem dX8_bestShift_1 : decode cX8_bestShift 1 = .ok (.istore_n 2, 1) := by decide +kernel
theorem dX8_bestShift_2 : decode cX8_bestShift 2 = .ok (.lconst 0, 1) := by decide +kernel
theorem dX8_bestShift_3 : decode cX8_bestShift 3 = .ok (.lstore_n 3, 1) := by decide +kernel
theorem dX8_bestShift_4 : decode cX8_bestShift 4 = .ok (.iconst 0, 1) := by decide +kernel
theorem dX8_bestShift_5 : decode cX8_bestShift 5 = .ok (.istore 5, 2) := by decide +kernel
theorem dX8_bestShift_7 : decode cX8_bestShift 7 = .ok (.iload 5, 2) := by decide +kernel
theorem dX8_bestShift_9 : decode cX8_bestShift 9 = .ok (.aload_n 0, 1) := by decide +kernel
theorem dX8_bestShift_10 : decode cX8_bestShift 10 = .ok (.getfield 116, 3) := by decide +kernel
theorem dX8_bestShift_13 : decode cX8_bestShift 13 = .ok (.if_icmp .ge 23, 3) := by decide +kernel
theorem dX8_bestShift_16 : decode cX8_bestShift 16 = .ok (.aload_n 0, 1) := by decide +kernel
theorem dX8_bestShift_17 : decode cX8_bestShift 17 = .ok (.getfield 86, 3) := by decide +kernel
theorem dX8_bestShift_20 : decode cX8_bestShift 20 = .ok (.iload 5, 2) := by decide +kernel
theorem dX8_bestShift_22 : decode cX8_bestShift 22 = .ok (.aload_n 0, 1) := by decide +kernel
theorem dX8_bestShift_23 : decode cX8_bestShift 23 = .ok (.getfield 31, 3) := by decide +kernel
theorem dX8_bestShift_26 : decode cX8_bestShift 26 = .ok (.iload 5, 2) := by decide +kernel
theorem dX8_bestShift_28 : decode cX8_bestShift 28 = .ok (.iaload, 1) := by decide +kernel
theorem dX8_bestShift_29 : decode cX8_bestShift 29 = .ok (.iastore, 1) := by decide +kernel
theorem dX8_bestShift_30 : decode cX8_bestShift 30 = .ok (.iinc 5 1, 3) := by decide +kernel
theorem dX8_bestShift_33 : decode cX8_bestShift 33 = .ok (.goto (-26), 3) := by decide +kernel
theorem dX8_bestShift_36 : decode cX8_bestShift 36 = .ok (.iconst 0, 1) := by decide +kernel
theorem dX8_bestShift_37 : decode cX8_bestShift 37 = .ok (.istore 5, 2) := by decide +kernel
theorem dX8_bestShift_39 : decode cX8_bestShift 39 = .ok (.iload 5, 2) := by decide +kernel
theorem dX8_bestShift_41 : decode cX8_bestShift 41 = .ok (.aload_n 0, 1) := by decide +kernel
theorem dX8_bestShift_42 : decode cX8_bestShift 42 = .ok (.getfield 16, 3) := by decide +kernel
theorem dX8_bestShift_45 : decode cX8_bestShift 45 = .ok (.iload_n 1, 1) := by decide +kernel
theorem dX8_bestShift_46 : decode cX8_bestShift 46 = .ok (.iaload, 1) := by decide +kernel
theorem dX8_bestShift_47 : decode cX8_bestShift 47 = .ok (.if_icmp .gt 106, 3) := by decide +kernel
theorem dX8_bestShift_50 : decode cX8_bestShift 50 = .ok (.aload_n 0, 1) := by decide +kernel
theorem dX8_bestShift_51 : decode cX8_bestShift 51 = .ok (.iload_n 1, 1) := by decide +kernel
theorem dX8_bestShift_52 : decode cX8_bestShift 52 = .ok (.iload 5, 2) := by decide +kernel
theorem dX8_bestShift_54 : decode cX8_bestShift 54 = .ok (.invokevirtual 294, 3) := by decide +kernel
theorem dX8_bestShift_57 : decode cX8_bestShift 57 = .ok (.aload_n 0, 1) := by decide +kernel
theorem dX8_bestShift_58 : decode cX8_bestShift 58 = .ok (.iconst 1, 1) := by decide +kernel
theorem dX8_bestShift_59 : decode cX8_bestShift 59 = .ok (.iload_n 1, 1) := by decide +kernel
theorem dX8_bestShift_60 : decode cX8_bestShift 60 = .ok (.ishl, 1) := by decide +kernel
theorem dX8_bestShift_61 : decode cX8_bestShift 61 = .ok (.invokevirtual 291, 3) := by decide +kernel
theorem dX8_bestShift_64 : decode cX8_bestShift 64 = .ok (.istore 6, 2) := by decide +kernel
theorem dX8_bestShift_66 : decode cX8_bestShift 66 = .ok (.iload 6, 2) := by decide +kernel
theorem dX8_bestShift_68 : decode cX8_bestShift 68 = .ok (.i2l, 1) := by decide +kernel
theorem dX8_bestShift_69 : decode cX8_bestShift 69 = .ok (.aload_n 0, 1) := by decide +kernel
theorem dX8_bestShift_70 : decode cX8_bestShift 70 = .ok (.getfield 13, 3) := by decide +kernel
theorem dX8_bestShift_73 : decode cX8_bestShift 73 = .ok (.iload_n 1, 1) := by decide +kernel
theorem dX8_bestShift_74 : decode cX8_bestShift 74 = .ok (.iaload, 1) := by decide +kernel
theorem dX8_bestShift_75 : decode cX8_bestShift 75 = .ok (.i2l, 1) := by decide +kernel
theorem dX8_bestShift_76 : decode cX8_bestShift 76 = .ok (.lmul, 1) := by decide +kernel
theorem dX8_bestShift_77 : decode cX8_bestShift 77 = .ok (.ldc2_w 278, 3) := by decide +kernel
theorem dX8_bestShift_80 : decode cX8_bestShift 80 = .ok (.ldiv, 1) := by decide +kernel
theorem dX8_bestShift_81 : decode cX8_bestShift 81 = .ok (.iload 5, 2) := by decide +kernel
theorem dX8_bestShift_83 : decode cX8_bestShift 83 = .ok (.i2l, 1) := by decide +kernel
theorem dX8_bestShift_84 : decode cX8_bestShift 84 = .ok (.lsub, 1) := by decide +kernel
theorem dX8_bestShift_85 : decode cX8_bestShift 85 = .ok (.lstore 7, 2) := by decide +kernel
theorem dX8_bestShift_87 : decode cX8_bestShift 87 = .ok (.iload_n 2, 1) := by decide +kernel
theorem dX8_bestShift_88 : decode cX8_bestShift 88 = .ok (.ifCond .lt 10, 3) := by decide +kernel
theorem dX8_bestShift_91 : decode cX8_bestShift 91 = .ok (.lload 7, 2) := by decide +kernel
theorem dX8_bestShift_93 : decode cX8_bestShift 93 = .ok (.lload_n 3, 1) := by decide +kernel
theorem dX8_bestShift_94 : decode cX8_bestShift 94 = .ok (.lcmp, 1) := by decide +kernel
theorem dX8_bestShift_95 : decode cX8_bestShift 95 = .ok (.ifCond .le 7, 3) := by decide +kernel
theorem dX8_bestShift_98 : decode cX8_bestShift 98 = .ok (.iconst 1, 1) := by decide +kernel
theorem dX8_bestShift_99 : decode cX8_bestShift 99 = .ok (.goto 4, 3) := by decide +kernel
theorem dX8_bestShift_102 : decode cX8_bestShift 102 = .ok (.iconst 0, 1) := by decide +kernel
theorem dX8_bestShift_103 : decode cX8_bestShift 103 = .ok (.istore 9, 2) := by decide +kernel
theorem dX8_bestShift_105 : decode cX8_bestShift 105 = .ok (.iload 9, 2) := by decide +kernel
theorem dX8_bestShift_107 : decode cX8_bestShift 107 = .ok (.ifCond .eq 8, 3) := by decide +kernel
theorem dX8_bestShift_110 : decode cX8_bestShift 110 = .ok (.iload 5, 2) := by decide +kernel
theorem dX8_bestShift_112 : decode cX8_bestShift 112 = .ok (.goto 4, 3) := by decide +kernel
theorem dX8_bestShift_115 : decode cX8_bestShift 115 = .ok (.iload_n 2, 1) := by decide +kernel
theorem dX8_bestShift_116 : decode cX8_bestShift 116 = .ok (.istore_n 2, 1) := by decide +kernel
theorem dX8_bestShift_117 : decode cX8_bestShift 117 = .ok (.aload_n 0, 1) := by decide +kernel
theorem dX8_bestShift_118 : decode cX8_bestShift 118 = .ok (.iload 9, 2) := by decide +kernel
theorem dX8_bestShift_120 : decode cX8_bestShift 120 = .ok (.ifCond .eq 8, 3) := by decide +kernel
theorem dX8_bestShift_123 : decode cX8_bestShift 123 = .ok (.iload 6, 2) := by decide +kernel
theorem dX8_bestShift_125 : decode cX8_bestShift 125 = .ok (.goto 7, 3) := by decide +kernel
theorem dX8_bestShift_128 : decode cX8_bestShift 128 = .ok (.aload_n 0, 1) := by decide +kernel
theorem dX8_bestShift_129 : decode cX8_bestShift 129 = .ok (.getfield 298, 3) := by decide +kernel
theorem dX8_bestShift_132 : decode cX8_bestShift 132 = .ok (.putfield 298, 3) := by decide +kernel
theorem dX8_bestShift_135 : decode cX8_bestShift 135 = .ok (.iload 9, 2) := by decide +kernel
theorem dX8_bestShift_137 : decode cX8_bestShift 137 = .ok (.ifCond .eq 8, 3) := by decide +kernel
theorem dX8_bestShift_140 : decode cX8_bestShift 140 = .ok (.lload 7, 2) := by decide +kernel
theorem dX8_bestShift_142 : decode cX8_bestShift 142 = .ok (.goto 4, 3) := by decide +kernel
theorem dX8_bestShift_145 : decode cX8_bestShift 145 = .ok (.lload_n 3, 1) := by decide +kernel
theorem dX8_bestShift_146 : decode cX8_bestShift 146 = .ok (.lstore_n 3, 1) := by decide +kernel
theorem dX8_bestShift_147 : decode cX8_bestShift 147 = .ok (.iinc 5 10, 3) := by decide +kernel
theorem dX8_bestShift_150 : decode cX8_bestShift 150 = .ok (.goto (-111), 3) := by decide +kernel
theorem dX8_bestShift_153 : decode cX8_bestShift 153 = .ok (.iconst 0, 1) := by decide +kernel
theorem dX8_bestShift_154 : decode cX8_bestShift 154 = .ok (.istore 5, 2) := by decide +kernel
theorem dX8_bestShift_156 : decode cX8_bestShift 156 = .ok (.iload 5, 2) := by decide +kernel
theorem dX8_bestShift_158 : decode cX8_bestShift 158 = .ok (.aload_n 0, 1) := by decide +kernel
theorem dX8_bestShift_159 : decode cX8_bestShift 159 = .ok (.getfield 116, 3) := by decide +kernel
theorem dX8_bestShift_162 : decode cX8_bestShift 162 = .ok (.if_icmp .ge 23, 3) := by decide +kernel
theorem dX8_bestShift_165 : decode cX8_bestShift 165 = .ok (.aload_n 0, 1) := by decide +kernel
theorem dX8_bestShift_166 : decode cX8_bestShift 166 = .ok (.getfield 31, 3) := by decide +kernel
theorem dX8_bestShift_169 : decode cX8_bestShift 169 = .ok (.iload 5, 2) := by decide +kernel
theorem dX8_bestShift_171 : decode cX8_bestShift 171 = .ok (.aload_n 0, 1) := by decide +kernel
theorem dX8_bestShift_172 : decode cX8_bestShift 172 = .ok (.getfield 86, 3) := by decide +kernel
theorem dX8_bestShift_175 : decode cX8_bestShift 175 = .ok (.iload 5, 2) := by decide +kernel
theorem dX8_bestShift_177 : decode cX8_bestShift 177 = .ok (.iaload, 1) := by decide +kernel
theorem dX8_bestShift_178 : decode cX8_bestShift 178 = .ok (.iastore, 1) := by decide +kernel
theorem dX8_bestShift_179 : decode cX8_bestShift 179 = .ok (.iinc 5 1, 3) := by decide +kernel
theorem dX8_bestShift_182 : decode cX8_bestShift 182 = .ok (.goto (-26), 3) := by decide +kernel
theorem dX8_bestShift_185 : decode cX8_bestShift 185 = .ok (.iload_n 2, 1) := by decide +kernel
theorem dX8_bestShift_186 : decode cX8_bestShift 186 = .ok (.ireturn, 1) := by decide +kernel
theorem dX8_best_0 : decode cX8_best 0 = .ok (.aload_n 0, 1) := by decide +kernel
theorem dX8_best_1 : decode cX8_best 1 = .ok (.iload_n 1, 1) := by decide +kernel
theorem dX8_best_2 : decode cX8_best 2 = .ok (.invokevirtual 219, 3) := by decide +kernel
theorem dX8_best_5 : decode cX8_best 5 = .ok (.ifCond .ne 6, 3) := by decide +kernel
theorem dX8_best_8 : decode cX8_best 8 = .ok (.ldc 223, 2) := by decide +kernel
theorem dX8_best_10 : decode cX8_best 10 = .ok (.ireturn, 1) := by decide +kernel
theorem dX8_best_11 : decode cX8_best 11 = .ok (.iload_n 2, 1) := by decide +kernel
theorem dX8_best_12 : decode cX8_best 12 = .ok (.i2l, 1) := by decide +kernel
theorem dX8_best_13 : decode cX8_best 13 = .ok (.lconst 0, 1) := by decide +kernel
theorem dX8_best_14 : decode cX8_best 14 = .ok (.lconst 1, 1) := by decide +kernel
theorem dX8_best_15 : decode cX8_best 15 = .ok (.invokestatic 112, 3) := by decide +kernel
theorem dX8_best_18 : decode cX8_best 18 = .ok (.ifCond .ne 6, 3) := by decide +kernel
theorem dX8_best_21 : decode cX8_best 21 = .ok (.ldc 133, 2) := by decide +kernel
theorem dX8_best_23 : decode cX8_best 23 = .ok (.ireturn, 1) := by decide +kernel
theorem dX8_best_24 : decode cX8_best 24 = .ok (.aload_n 0, 1) := by decide +kernel
theorem dX8_best_25 : decode cX8_best 25 = .ok (.iload_n 1, 1) := by decide +kernel
theorem dX8_best_26 : decode cX8_best 26 = .ok (.invokevirtual 224, 3) := by decide +kernel
theorem dX8_best_29 : decode cX8_best 29 = .ok (.ifCond .ne 7, 3) := by decide +kernel
theorem dX8_best_32 : decode cX8_best 32 = .ok (.ldc_w 268, 3) := by decide +kernel
theorem dX8_best_35 : decode cX8_best 35 = .ok (.ireturn, 1) := by decide +kernel
theorem dX8_best_36 : decode cX8_best 36 = .ok (.aload_n 0, 1) := by decide +kernel
theorem dX8_best_37 : decode cX8_best 37 = .ok (.iload_n 1, 1) := by decide +kernel
theorem dX8_best_38 : decode cX8_best 38 = .ok (.invokevirtual 301, 3) := by decide +kernel
theorem dX8_best_41 : decode cX8_best 41 = .ok (.istore_n 3, 1) := by decide +kernel
theorem dX8_best_42 : decode cX8_best 42 = .ok (.iload_n 2, 1) := by decide +kernel
theorem dX8_best_43 : decode cX8_best 43 = .ok (.ifCond .ne 7, 3) := by decide +kernel
theorem dX8_best_46 : decode cX8_best 46 = .ok (.iload_n 3, 1) := by decide +kernel
theorem dX8_best_47 : decode cX8_best 47 = .ok (.goto 7, 3) := by decide +kernel
theorem dX8_best_50 : decode cX8_best 50 = .ok (.aload_n 0, 1) := by decide +kernel
theorem dX8_best_51 : decode cX8_best 51 = .ok (.getfield 298, 3) := by decide +kernel
theorem dX8_best_54 : decode cX8_best 54 = .ok (.ireturn, 1) := by decide +kernel
theorem dX8_roundChanges_0 : decode cX8_roundChanges 0 = .ok (.iconst 0, 1) := by decide +kernel
theorem dX8_roundChanges_1 : decode cX8_roundChanges 1 = .ok (.istore_n 1, 1) := by decide +kernel
theorem dX8_roundChanges_2 : decode cX8_roundChanges 2 = .ok (.iconst 0, 1) := by decide +kernel
theorem dX8_roundChanges_3 : decode cX8_roundChanges 3 = .ok (.istore_n 2, 1) := by decide +kernel
theorem dX8_roundChanges_4 : decode cX8_roundChanges 4 = .ok (.iload_n 2, 1) := by decide +kernel
theorem dX8_roundChanges_5 : decode cX8_roundChanges 5 = .ok (.aload_n 0, 1) := by decide +kernel
theorem dX8_roundChanges_6 : decode cX8_roundChanges 6 = .ok (.getfield 109, 3) := by decide +kernel
theorem dX8_roundChanges_9 : decode cX8_roundChanges 9 = .ok (.if_icmp .ge 79, 3) := by decide +kernel
theorem dX8_roundChanges_12 : decode cX8_roundChanges 12 = .ok (.aload_n 0, 1) := by decide +kernel
theorem dX8_roundChanges_13 : decode cX8_roundChanges 13 = .ok (.iload_n 2, 1) := by decide +kernel
theorem dX8_roundChanges_14 : decode cX8_roundChanges 14 = .ok (.invokevirtual 224, 3) := by decide +kernel
theorem dX8_roundChanges_17 : decode cX8_roundChanges 17 = .ok (.ifCond .eq 65, 3) := by decide +kernel
theorem dX8_roundChanges_20 : decode cX8_roundChanges 20 = .ok (.aload_n 0, 1) := by decide +kernel
theorem dX8_roundChanges_21 : decode cX8_roundChanges 21 = .ok (.iload_n 2, 1) := by decide +kernel
theorem dX8_roundChanges_22 : decode cX8_roundChanges 22 = .ok (.invokevirtual 301, 3) := by decide +kernel
theorem dX8_roundChanges_25 : decode cX8_roundChanges 25 = .ok (.istore_n 3, 1) := by decide +kernel
theorem dX8_roundChanges_26 : decode cX8_roundChanges 26 = .ok (.iconst 0, 1) := by decide +kernel
theorem dX8_roundChanges_27 : decode cX8_roundChanges 27 = .ok (.istore 4, 2) := by decide +kernel
theorem dX8_roundChanges_29 : decode cX8_roundChanges 29 = .ok (.iload 4, 2) := by decide +kernel
theorem dX8_roundChanges_31 : decode cX8_roundChanges 31 = .ok (.aload_n 0, 1) := by decide +kernel
theorem dX8_roundChanges_32 : decode cX8_roundChanges 32 = .ok (.getfield 116, 3) := by decide +kernel
theorem dX8_roundChanges_35 : decode cX8_roundChanges 35 = .ok (.if_icmp .ge 41, 3) := by decide +kernel
theorem dX8_roundChanges_38 : decode cX8_roundChanges 38 = .ok (.iload_n 1, 1) := by decide +kernel
theorem dX8_roundChanges_39 : decode cX8_roundChanges 39 = .ok (.ifCond .ne 25, 3) := by decide +kernel
theorem dX8_roundChanges_42 : decode cX8_roundChanges 42 = .ok (.aload_n 0, 1) := by decide +kernel
theorem dX8_roundChanges_43 : decode cX8_roundChanges 43 = .ok (.getfield 19, 3) := by decide +kernel
theorem dX8_roundChanges_46 : decode cX8_roundChanges 46 = .ok (.iload 4, 2) := by decide +kernel
theorem dX8_roundChanges_48 : decode cX8_roundChanges 48 = .ok (.iaload, 1) := by decide +kernel
theorem dX8_roundChanges_49 : decode cX8_roundChanges 49 = .ok (.iload_n 2, 1) := by decide +kernel
theorem dX8_roundChanges_50 : decode cX8_roundChanges 50 = .ok (.if_icmp .ne 18, 3) := by decide +kernel
theorem dX8_roundChanges_53 : decode cX8_roundChanges 53 = .ok (.aload_n 0, 1) := by decide +kernel
theorem dX8_roundChanges_54 : decode cX8_roundChanges 54 = .ok (.getfield 31, 3) := by decide +kernel
theorem dX8_roundChanges_57 : decode cX8_roundChanges 57 = .ok (.iload 4, 2) := by decide +kernel
theorem dX8_roundChanges_59 : decode cX8_roundChanges 59 = .ok (.iaload, 1) := by decide +kernel
theorem dX8_roundChanges_60 : decode cX8_roundChanges 60 = .ok (.iload_n 3, 1) := by decide +kernel
theorem dX8_roundChanges_61 : decode cX8_roundChanges 61 = .ok (.if_icmp .eq 7, 3) := by decide +kernel
theorem dX8_roundChanges_64 : decode cX8_roundChanges 64 = .ok (.iconst 1, 1) := by decide +kernel
theorem dX8_roundChanges_65 : decode cX8_roundChanges 65 = .ok (.goto 4, 3) := by decide +kernel
theorem dX8_roundChanges_68 : decode cX8_roundChanges 68 = .ok (.iconst 0, 1) := by decide +kernel
theorem dX8_roundChanges_69 : decode cX8_roundChanges 69 = .ok (.istore_n 1, 1) := by decide +kernel
theorem dX8_roundChanges_70 : decode cX8_roundChanges 70 = .ok (.iinc 4 1, 3) := by decide +kernel
theorem dX8_roundChanges_73 : decode cX8_roundChanges 73 = .ok (.goto (-44), 3) := by decide +kernel
theorem dX8_roundChanges_76 : decode cX8_roundChanges 76 = .ok (.aload_n 0, 1) := by decide +kernel
theorem dX8_roundChanges_77 : decode cX8_roundChanges 77 = .ok (.iload_n 2, 1) := by decide +kernel
theorem dX8_roundChanges_78 : decode cX8_roundChanges 78 = .ok (.iload_n 3, 1) := by decide +kernel
theorem dX8_roundChanges_79 : decode cX8_roundChanges 79 = .ok (.invokevirtual 294, 3) := by decide +kernel
theorem dX8_roundChanges_82 : decode cX8_roundChanges 82 = .ok (.iinc 2 1, 3) := by decide +kernel
theorem dX8_roundChanges_85 : decode cX8_roundChanges 85 = .ok (.goto (-81), 3) := by decide +kernel
theorem dX8_roundChanges_88 : decode cX8_roundChanges 88 = .ok (.iload_n 1, 1) := by decide +kernel
theorem dX8_roundChanges_89 : decode cX8_roundChanges 89 = .ok (.ireturn, 1) := by decide +kernel
theorem dX8_leastOf_0 : decode cX8_leastOf 0 = .ok (.iconst 0, 1) := by decide +kernel
theorem dX8_leastOf_1 : decode cX8_leastOf 1 = .ok (.istore_n 2, 1) := by decide +kernel
theorem dX8_leastOf_2 : decode cX8_leastOf 2 = .ok (.aload_n 0, 1) := by decide +kernel
theorem dX8_leastOf_3 : decode cX8_leastOf 3 = .ok (.getfield 116, 3) := by decide +kernel
theorem dX8_leastOf_6 : decode cX8_leastOf 6 = .ok (.iconst 1, 1) := by decide +kernel
theorem dX8_leastOf_7 : decode cX8_leastOf 7 = .ok (.isub, 1) := by decide +kernel
theorem dX8_leastOf_8 : decode cX8_leastOf 8 = .ok (.istore_n 3, 1) := by decide +kernel
theorem dX8_leastOf_9 : decode cX8_leastOf 9 = .ok (.iload_n 3, 1) := by decide +kernel
theorem dX8_leastOf_10 : decode cX8_leastOf 10 = .ok (.ifCond .lt 30, 3) := by decide +kernel
theorem dX8_leastOf_13 : decode cX8_leastOf 13 = .ok (.aload_n 0, 1) := by decide +kernel
theorem dX8_leastOf_14 : decode cX8_leastOf 14 = .ok (.getfield 19, 3) := by decide +kernel
theorem dX8_leastOf_17 : decode cX8_leastOf 17 = .ok (.iload_n 3, 1) := by decide +kernel
theorem dX8_leastOf_18 : decode cX8_leastOf 18 = .ok (.iaload, 1) := by decide +kernel
theorem dX8_leastOf_19 : decode cX8_leastOf 19 = .ok (.iload_n 1, 1) := by decide +kernel
theorem dX8_leastOf_20 : decode cX8_leastOf 20 = .ok (.if_icmp .ne 12, 3) := by decide +kernel
theorem dX8_leastOf_23 : decode cX8_leastOf 23 = .ok (.aload_n 0, 1) := by decide +kernel
theorem dX8_leastOf_24 : decode cX8_leastOf 24 = .ok (.getfield 31, 3) := by decide +kernel
theorem dX8_leastOf_27 : decode cX8_leastOf 27 = .ok (.iload_n 3, 1) := by decide +kernel
theorem dX8_leastOf_28 : decode cX8_leastOf 28 = .ok (.iaload, 1) := by decide +kernel
theorem dX8_leastOf_29 : decode cX8_leastOf 29 = .ok (.goto 4, 3) := by decide +kernel
theorem dX8_leastOf_32 : decode cX8_leastOf 32 = .ok (.iload_n 2, 1) := by decide +kernel
theorem dX8_leastOf_33 : decode cX8_leastOf 33 = .ok (.istore_n 2, 1) := by decide +kernel
theorem dX8_leastOf_34 : decode cX8_leastOf 34 = .ok (.iinc 3 (-1), 3) := by decide +kernel
theorem dX8_leastOf_37 : decode cX8_leastOf 37 = .ok (.goto (-28), 3) := by decide +kernel
theorem dX8_leastOf_40 : decode cX8_leastOf 40 = .ok (.iload_n 2, 1) := by decide +kernel
theorem dX8_leastOf_41 : decode cX8_leastOf 41 = .ok (.ireturn, 1) := by decide +kernel
theorem dX8_rests_0 : decode cX8_rests 0 = .ok (.iload_n 1, 1) := by decide +kernel
theorem dX8_rests_1 : decode cX8_rests 1 = .ok (.iconst (-1), 1) := by decide +kernel
theorem dX8_rests_2 : decode cX8_rests 2 = .ok (.if_icmp .eq 14, 3) := by decide +kernel
theorem dX8_rests_5 : decode cX8_rests 5 = .ok (.aload_n 0, 1) := by decide +kernel
theorem dX8_rests_6 : decode cX8_rests 6 = .ok (.iload_n 1, 1) := by decide +kernel
theorem dX8_rests_7 : decode cX8_rests 7 = .ok (.invokevirtual 219, 3) := by decide +kernel
theorem dX8_rests_10 : decode cX8_rests 10 = .ok (.ifCond .ne 6, 3) := by decide +kernel
theorem dX8_rests_13 : decode cX8_rests 13 = .ok (.ldc 223, 2) := by decide +kernel
theorem dX8_rests_15 : decode cX8_rests 15 = .ok (.ireturn, 1) := by decide +kernel
theorem dX8_rests_16 : decode cX8_rests 16 = .ok (.iconst 0, 1) := by decide +kernel
theorem dX8_rests_17 : decode cX8_rests 17 = .ok (.istore_n 2, 1) := by decide +kernel
theorem dX8_rests_18 : decode cX8_rests 18 = .ok (.iload_n 2, 1) := by decide +kernel
theorem dX8_rests_19 : decode cX8_rests 19 = .ok (.aload_n 0, 1) := by decide +kernel
theorem dX8_rests_20 : decode cX8_rests 20 = .ok (.getfield 116, 3) := by decide +kernel
theorem dX8_rests_23 : decode cX8_rests 23 = .ok (.if_icmp .ge 21, 3) := by decide +kernel
theorem dX8_rests_26 : decode cX8_rests 26 = .ok (.aload_n 0, 1) := by decide +kernel
theorem dX8_rests_27 : decode cX8_rests 27 = .ok (.getfield 89, 3) := by decide +kernel
theorem dX8_rests_30 : decode cX8_rests 30 = .ok (.iload_n 2, 1) := by decide +kernel
theorem dX8_rests_31 : decode cX8_rests 31 = .ok (.aload_n 0, 1) := by decide +kernel
theorem dX8_rests_32 : decode cX8_rests 32 = .ok (.getfield 31, 3) := by decide +kernel
theorem dX8_rests_35 : decode cX8_rests 35 = .ok (.iload_n 2, 1) := by decide +kernel
theorem dX8_rests_36 : decode cX8_rests 36 = .ok (.iaload, 1) := by decide +kernel
theorem dX8_rests_37 : decode cX8_rests 37 = .ok (.iastore, 1) := by decide +kernel
theorem dX8_rests_38 : decode cX8_rests 38 = .ok (.iinc 2 1, 3) := by decide +kernel
theorem dX8_rests_41 : decode cX8_rests 41 = .ok (.goto (-23), 3) := by decide +kernel
theorem dX8_rests_44 : decode cX8_rests 44 = .ok (.iconst 0, 1) := by decide +kernel
theorem dX8_rests_45 : decode cX8_rests 45 = .ok (.istore_n 2, 1) := by decide +kernel
theorem dX8_rests_46 : decode cX8_rests 46 = .ok (.iload_n 2, 1) := by decide +kernel
theorem dX8_rests_47 : decode cX8_rests 47 = .ok (.bipush 20, 2) := by decide +kernel
theorem dX8_rests_49 : decode cX8_rests 49 = .ok (.if_icmp .ge 16, 3) := by decide +kernel
theorem dX8_rests_52 : decode cX8_rests 52 = .ok (.aload_n 0, 1) := by decide +kernel
theorem dX8_rests_53 : decode cX8_rests 53 = .ok (.invokevirtual 304, 3) := by decide +kernel
theorem dX8_rests_56 : decode cX8_rests 56 = .ok (.ifCond .eq 9, 3) := by decide +kernel
theorem dX8_rests_59 : decode cX8_rests 59 = .ok (.iinc 2 1, 3) := by decide +kernel
theorem dX8_rests_62 : decode cX8_rests 62 = .ok (.goto (-16), 3) := by decide +kernel
theorem dX8_rests_65 : decode cX8_rests 65 = .ok (.iload_n 1, 1) := by decide +kernel
theorem dX8_rests_66 : decode cX8_rests 66 = .ok (.iconst (-1), 1) := by decide +kernel
theorem dX8_rests_67 : decode cX8_rests 67 = .ok (.if_icmp .ne 7, 3) := by decide +kernel
theorem dX8_rests_70 : decode cX8_rests 70 = .ok (.iload_n 2, 1) := by decide +kernel
theorem dX8_rests_71 : decode cX8_rests 71 = .ok (.goto 8, 3) := by decide +kernel
theorem dX8_rests_74 : decode cX8_rests 74 = .ok (.aload_n 0, 1) := by decide +kernel
theorem dX8_rests_75 : decode cX8_rests 75 = .ok (.iload_n 1, 1) := by decide +kernel
theorem dX8_rests_76 : decode cX8_rests 76 = .ok (.invokevirtual 308, 3) := by decide +kernel
theorem dX8_rests_79 : decode cX8_rests 79 = .ok (.istore_n 3, 1) := by decide +kernel
theorem dX8_rests_80 : decode cX8_rests 80 = .ok (.iconst 0, 1) := by decide +kernel
theorem dX8_rests_81 : decode cX8_rests 81 = .ok (.istore 4, 2) := by decide +kernel
theorem dX8_rests_83 : decode cX8_rests 83 = .ok (.iload 4, 2) := by decide +kernel
theorem dX8_rests_85 : decode cX8_rests 85 = .ok (.aload_n 0, 1) := by decide +kernel
theorem dX8_rests_86 : decode cX8_rests 86 = .ok (.getfield 116, 3) := by decide +kernel
theorem dX8_rests_89 : decode cX8_rests 89 = .ok (.if_icmp .ge 23, 3) := by decide +kernel
theorem dX8_rests_92 : decode cX8_rests 92 = .ok (.aload_n 0, 1) := by decide +kernel
theorem dX8_rests_93 : decode cX8_rests 93 = .ok (.getfield 31, 3) := by decide +kernel
theorem dX8_rests_96 : decode cX8_rests 96 = .ok (.iload 4, 2) := by decide +kernel
theorem dX8_rests_98 : decode cX8_rests 98 = .ok (.aload_n 0, 1) := by decide +kernel
theorem dX8_rests_99 : decode cX8_rests 99 = .ok (.getfield 89, 3) := by decide +kernel
theorem dX8_rests_102 : decode cX8_rests 102 = .ok (.iload 4, 2) := by decide +kernel
theorem dX8_rests_104 : decode cX8_rests 104 = .ok (.iaload, 1) := by decide +kernel
theorem dX8_rests_105 : decode cX8_rests 105 = .ok (.iastore, 1) := by decide +kernel
theorem dX8_rests_106 : decode cX8_rests 106 = .ok (.iinc 4 1, 3) := by decide +kernel
theorem dX8_rests_109 : decode cX8_rests 109 = .ok (.goto (-26), 3) := by decide +kernel
theorem dX8_rests_112 : decode cX8_rests 112 = .ok (.iload_n 2, 1) := by decide +kernel
theorem dX8_rests_113 : decode cX8_rests 113 = .ok (.bipush 20, 2) := by decide +kernel
theorem dX8_rests_115 : decode cX8_rests 115 = .ok (.if_icmp .ne 7, 3) := by decide +kernel
theorem dX8_rests_118 : decode cX8_rests 118 = .ok (.iconst (-1), 1) := by decide +kernel
theorem dX8_rests_119 : decode cX8_rests 119 = .ok (.goto 4, 3) := by decide +kernel
theorem dX8_rests_122 : decode cX8_rests 122 = .ok (.iload_n 3, 1) := by decide +kernel
theorem dX8_rests_123 : decode cX8_rests 123 = .ok (.ireturn, 1) := by decide +kernel
theorem dX8_loud_0 : decode cX8_loud 0 = .ok (.aload_n 0, 1) := by decide +kernel
theorem dX8_loud_1 : decode cX8_loud 1 = .ok (.iload_n 1, 1) := by decide +kernel
theorem dX8_loud_2 : decode cX8_loud 2 = .ok (.invokevirtual 219, 3) := by decide +kernel
theorem dX8_loud_5 : decode cX8_loud 5 = .ok (.ifCond .ne 6, 3) := by decide +kernel
theorem dX8_loud_8 : decode cX8_loud 8 = .ok (.ldc 223, 2) := by decide +kernel
theorem dX8_loud_10 : decode cX8_loud 10 = .ok (.ireturn, 1) := by decide +kernel
theorem dX8_loud_11 : decode cX8_loud 11 = .ok (.iload_n 2, 1) := by decide +kernel
theorem dX8_loud_12 : decode cX8_loud 12 = .ok (.i2l, 1) := by decide +kernel
theorem dX8_loud_13 : decode cX8_loud 13 = .ok (.lconst 0, 1) := by decide +kernel
theorem dX8_loud_14 : decode cX8_loud 14 = .ok (.ldc2_w 251, 3) := by decide +kernel
theorem dX8_loud_17 : decode cX8_loud 17 = .ok (.invokestatic 112, 3) := by decide +kernel
theorem dX8_loud_20 : decode cX8_loud 20 = .ok (.ifCond .ne 6, 3) := by decide +kernel
theorem dX8_loud_23 : decode cX8_loud 23 = .ok (.ldc 133, 2) := by decide +kernel
theorem dX8_loud_25 : decode cX8_loud 25 = .ok (.ireturn, 1) := by decide +kernel
theorem dX8_loud_26 : decode cX8_loud 26 = .ok (.aload_n 0, 1) := by decide +kernel
theorem dX8_loud_27 : decode cX8_loud 27 = .ok (.getfield 41, 3) := by decide +kernel
theorem dX8_loud_30 : decode cX8_loud 30 = .ok (.istore_n 3, 1) := by decide +kernel
theorem dX8_loud_31 : decode cX8_loud 31 = .ok (.aload_n 0, 1) := by decide +kernel
theorem dX8_loud_32 : decode cX8_loud 32 = .ok (.getfield 34, 3) := by decide +kernel
theorem dX8_loud_35 : decode cX8_loud 35 = .ok (.istore 4, 2) := by decide +kernel
theorem dX8_loud_37 : decode cX8_loud 37 = .ok (.aload_n 0, 1) := by decide +kernel
theorem dX8_loud_38 : decode cX8_loud 38 = .ok (.getfield 38, 3) := by decide +kernel
theorem dX8_loud_41 : decode cX8_loud 41 = .ok (.istore 5, 2) := by decide +kernel
theorem dX8_loud_43 : decode cX8_loud 43 = .ok (.iconst (-1), 1) := by decide +kernel
theorem dX8_loud_44 : decode cX8_loud 44 = .ok (.istore 6, 2) := by decide +kernel
theorem dX8_loud_46 : decode cX8_loud 46 = .ok (.iconst 0, 1) := by decide +kernel
theorem dX8_loud_47 : decode cX8_loud 47 = .ok (.istore 7, 2) := by decide +kernel
theorem dX8_loud_49 : decode cX8_loud 49 = .ok (.bipush 60, 2) := by decide +kernel
theorem dX8_loud_51 : decode cX8_loud 51 = .ok (.istore 8, 2) := by decide +kernel
theorem dX8_loud_53 : decode cX8_loud 53 = .ok (.iload 8, 2) := by decide +kernel
theorem dX8_loud_55 : decode cX8_loud 55 = .ok (.sipush 600, 3) := by decide +kernel
theorem dX8_loud_58 : decode cX8_loud 58 = .ok (.if_icmp .gt 96, 3) := by decide +kernel
theorem dX8_loud_61 : decode cX8_loud 61 = .ok (.iconst 0, 1) := by decide +kernel
theorem dX8_loud_62 : decode cX8_loud 62 = .ok (.istore 9, 2) := by decide +kernel
theorem dX8_loud_64 : decode cX8_loud 64 = .ok (.iload 9, 2) := by decide +kernel
theorem dX8_loud_66 : decode cX8_loud 66 = .ok (.bipush 10, 2) := by decide +kernel
theorem dX8_loud_68 : decode cX8_loud 68 = .ok (.if_icmp .ge 80, 3) := by decide +kernel
theorem dX8_loud_71 : decode cX8_loud 71 = .ok (.aload_n 0, 1) := by decide +kernel
theorem dX8_loud_72 : decode cX8_loud 72 = .ok (.iload_n 1, 1) := by decide +kernel
theorem dX8_loud_73 : decode cX8_loud 73 = .ok (.iload 8, 2) := by decide +kernel
theorem dX8_loud_75 : decode cX8_loud 75 = .ok (.iload 9, 2) := by decide +kernel
theorem dX8_loud_77 : decode cX8_loud 77 = .ok (.invokevirtual 247, 3) := by decide +kernel
theorem dX8_loud_80 : decode cX8_loud 80 = .ok (.aload_n 0, 1) := by decide +kernel
theorem dX8_loud_81 : decode cX8_loud 81 = .ok (.iconst 1, 1) := by decide +kernel
theorem dX8_loud_82 : decode cX8_loud 82 = .ok (.iload_n 1, 1) := by decide +kernel
theorem dX8_loud_83 : decode cX8_loud 83 = .ok (.ishl, 1) := by decide +kernel
theorem dX8_loud_84 : decode cX8_loud 84 = .ok (.invokevirtual 291, 3) := by decide +kernel
theorem dX8_loud_87 : decode cX8_loud 87 = .ok (.istore 10, 2) := by decide +kernel
theorem dX8_loud_89 : decode cX8_loud 89 = .ok (.iload 6, 2) := by decide +kernel
theorem dX8_loud_91 : decode cX8_loud 91 = .ok (.ifCond .lt 10, 3) := by decide +kernel
theorem dX8_loud_94 : decode cX8_loud 94 = .ok (.iload 10, 2) := by decide +kernel
theorem dX8_loud_96 : decode cX8_loud 96 = .ok (.iload 7, 2) := by decide +kernel
theorem dX8_loud_98 : decode cX8_loud 98 = .ok (.if_icmp .le 7, 3) := by decide +kernel
theorem dX8_loud_101 : decode cX8_loud 101 = .ok (.iconst 1, 1) := by decide +kernel
theorem dX8_loud_102 : decode cX8_loud 102 = .ok (.goto 4, 3) := by decide +kernel
theorem dX8_loud_105 : decode cX8_loud 105 = .ok (.iconst 0, 1) := by decide +kernel
theorem dX8_loud_106 : decode cX8_loud 106 = .ok (.istore 11, 2) := by decide +kernel
theorem dX8_loud_108 : decode cX8_loud 108 = .ok (.iload 11, 2) := by decide +kernel
theorem dX8_loud_110 : decode cX8_loud 110 = .ok (.ifCond .eq 14, 3) := by decide +kernel
theorem dX8_loud_113 : decode cX8_loud 113 = .ok (.bipush 10, 2) := by decide +kernel
theorem dX8_loud_115 : decode cX8_loud 115 = .ok (.iload 8, 2) := by decide +kernel
theorem dX8_loud_117 : decode cX8_loud 117 = .ok (.imul, 1) := by decide +kernel
theorem dX8_loud_118 : decode cX8_loud 118 = .ok (.iload 9, 2) := by decide +kernel
theorem dX8_loud_120 : decode cX8_loud 120 = .ok (.iadd, 1) := by decide +kernel
theorem dX8_loud_121 : decode cX8_loud 121 = .ok (.goto 5, 3) := by decide +kernel
theorem dX8_loud_124 : decode cX8_loud 124 = .ok (.iload 6, 2) := by decide +kernel
theorem dX8_loud_126 : decode cX8_loud 126 = .ok (.istore 6, 2) := by decide +kernel
theorem dX8_loud_128 : decode cX8_loud 128 = .ok (.iload 11, 2) := by decide +kernel
theorem dX8_loud_130 : decode cX8_loud 130 = .ok (.ifCond .eq 8, 3) := by decide +kernel
theorem dX8_loud_133 : decode cX8_loud 133 = .ok (.iload 10, 2) := by decide +kernel
theorem dX8_loud_135 : decode cX8_loud 135 = .ok (.goto 5, 3) := by decide +kernel
theorem dX8_loud_138 : decode cX8_loud 138 = .ok (.iload 7, 2) := by decide +kernel
theorem dX8_loud_140 : decode cX8_loud 140 = .ok (.istore 7, 2) := by decide +kernel
theorem dX8_loud_142 : decode cX8_loud 142 = .ok (.iinc 9 1, 3) := by decide +kernel
theorem dX8_loud_145 : decode cX8_loud 145 = .ok (.goto (-81), 3) := by decide +kernel
theorem dX8_loud_148 : decode cX8_loud 148 = .ok (.iinc 8 10, 3) := by decide +kernel
theorem dX8_loud_151 : decode cX8_loud 151 = .ok (.goto (-98), 3) := by decide +kernel
theorem dX8_loud_154 : decode cX8_loud 154 = .ok (.aload_n 0, 1) := by decide +kernel
theorem dX8_loud_155 : decode cX8_loud 155 = .ok (.iload_n 3, 1) := by decide +kernel
theorem dX8_loud_156 : decode cX8_loud 156 = .ok (.iload 4, 2) := by decide +kernel
theorem dX8_loud_158 : decode cX8_loud 158 = .ok (.iload 5, 2) := by decide +kernel
theorem dX8_loud_160 : decode cX8_loud 160 = .ok (.invokevirtual 247, 3) := by decide +kernel
theorem dX8_loud_163 : decode cX8_loud 163 = .ok (.iload_n 2, 1) := by decide +kernel
theorem dX8_loud_164 : decode cX8_loud 164 = .ok (.ifCond .ne 11, 3) := by decide +kernel
theorem dX8_loud_167 : decode cX8_loud 167 = .ok (.iload 6, 2) := by decide +kernel
theorem dX8_loud_169 : decode cX8_loud 169 = .ok (.bipush 10, 2) := by decide +kernel
theorem dX8_loud_171 : decode cX8_loud 171 = .ok (.idiv, 1) := by decide +kernel
theorem dX8_loud_172 : decode cX8_loud 172 = .ok (.goto 18, 3) := by decide +kernel
theorem dX8_loud_175 : decode cX8_loud 175 = .ok (.iload_n 2, 1) := by decide +kernel
theorem dX8_loud_176 : decode cX8_loud 176 = .ok (.iconst 1, 1) := by decide +kernel
theorem dX8_loud_177 : decode cX8_loud 177 = .ok (.if_icmp .ne 11, 3) := by decide +kernel
theorem dX8_loud_180 : decode cX8_loud 180 = .ok (.iload 6, 2) := by decide +kernel
theorem dX8_loud_182 : decode cX8_loud 182 = .ok (.bipush 10, 2) := by decide +kernel
theorem dX8_loud_184 : decode cX8_loud 184 = .ok (.irem, 1) := by decide +kernel
theorem dX8_loud_185 : decode cX8_loud 185 = .ok (.goto 5, 3) := by decide +kernel
theorem dX8_loud_188 : decode cX8_loud 188 = .ok (.iload 7, 2) := by decide +kernel
theorem dX8_loud_190 : decode cX8_loud 190 = .ok (.ireturn, 1) := by decide +kernel
theorem dX8_startWork_0 : decode cX8_startWork 0 = .ok (.iconst 0, 1) := by decide +kernel
theorem dX8_startWork_1 : decode cX8_startWork 1 = .ok (.istore_n 2, 1) := by decide +kernel
theorem dX8_startWork_2 : decode cX8_startWork 2 = .ok (.iload_n 2, 1) := by decide +kernel
theorem dX8_startWork_3 : decode cX8_startWork 3 = .ok (.bipush 8, 2) := by decide +kernel
theorem dX8_startWork_5 : decode cX8_startWork 5 = .ok (.if_icmp .ge 32, 3) := by decide +kernel
theorem dX8_startWork_8 : decode cX8_startWork 8 = .ok (.aload_n 0, 1) := by decide +kernel
theorem dX8_startWork_9 : decode cX8_startWork 9 = .ok (.getfield 92, 3) := by decide +kernel
theorem dX8_startWork_12 : decode cX8_startWork 12 = .ok (.iload_n 2, 1) := by decide +kernel
theorem dX8_startWork_13 : decode cX8_startWork 13 = .ok (.iload_n 2, 1) := by decide +kernel
theorem dX8_startWork_14 : decode cX8_startWork 14 = .ok (.aload_n 0, 1) := by decide +kernel
theorem dX8_startWork_15 : decode cX8_startWork 15 = .ok (.getfield 44, 3) := by decide +kernel
theorem dX8_startWork_18 : decode cX8_startWork 18 = .ok (.iload_n 1, 1) := by decide +kernel
theorem dX8_startWork_19 : decode cX8_startWork 19 = .ok (.iaload, 1) := by decide +kernel
theorem dX8_startWork_20 : decode cX8_startWork 20 = .ok (.if_icmp .ne 9, 3) := by decide +kernel
theorem dX8_startWork_23 : decode cX8_startWork 23 = .ok (.ldc2_w 278, 3) := by decide +kernel
theorem dX8_startWork_26 : decode cX8_startWork 26 = .ok (.goto 4, 3) := by decide +kernel
theorem dX8_startWork_29 : decode cX8_startWork 29 = .ok (.lconst 0, 1) := by decide +kernel
theorem dX8_startWork_30 : decode cX8_startWork 30 = .ok (.lastore, 1) := by decide +kernel
theorem dX8_startWork_31 : decode cX8_startWork 31 = .ok (.iinc 2 1, 3) := by decide +kernel
theorem dX8_startWork_34 : decode cX8_startWork 34 = .ok (.goto (-32), 3) := by decide +kernel
theorem dX8_startWork_37 : decode cX8_startWork 37 = .ok (.return_, 1) := by decide +kernel
theorem dX8_workDay_0 : decode cX8_workDay 0 = .ok (.lconst 0, 1) := by decide +kernel
theorem dX8_workDay_1 : decode cX8_workDay 1 = .ok (.lstore 4, 2) := by decide +kernel
theorem dX8_workDay_3 : decode cX8_workDay 3 = .ok (.aload_n 0, 1) := by decide +kernel
theorem dX8_workDay_4 : decode cX8_workDay 4 = .ok (.getfield 7, 3) := by decide +kernel
theorem dX8_workDay_7 : decode cX8_workDay 7 = .ok (.iload_n 1, 1) := by decide +kernel
theorem dX8_workDay_8 : decode cX8_workDay 8 = .ok (.iaload, 1) := by decide +kernel
theorem dX8_workDay_9 : decode cX8_workDay 9 = .ok (.iconst 1, 1) := by decide +kernel
theorem dX8_workDay_10 : decode cX8_workDay 10 = .ok (.isub, 1) := by decide +kernel
theorem dX8_workDay_11 : decode cX8_workDay 11 = .ok (.istore 6, 2) := by decide +kernel
theorem dX8_workDay_13 : decode cX8_workDay 13 = .ok (.iload 6, 2) := by decide +kernel
theorem dX8_workDay_15 : decode cX8_workDay 15 = .ok (.ifCond .lt 78, 3) := by decide +kernel
theorem dX8_workDay_18 : decode cX8_workDay 18 = .ok (.aload_n 0, 1) := by decide +kernel
theorem dX8_workDay_19 : decode cX8_workDay 19 = .ok (.getfield 92, 3) := by decide +kernel
theorem dX8_workDay_22 : decode cX8_workDay 22 = .ok (.iload 6, 2) := by decide +kernel
theorem dX8_workDay_24 : decode cX8_workDay 24 = .ok (.laload, 1) := by decide +kernel
theorem dX8_workDay_25 : decode cX8_workDay 25 = .ok (.lload_n 2, 1) := by decide +kernel
theorem dX8_workDay_26 : decode cX8_workDay 26 = .ok (.lmul, 1) := by decide +kernel
theorem dX8_workDay_27 : decode cX8_workDay 27 = .ok (.ldc2_w 278, 3) := by decide +kernel
theorem dX8_workDay_30 : decode cX8_workDay 30 = .ok (.ldiv, 1) := by decide +kernel
theorem dX8_workDay_31 : decode cX8_workDay 31 = .ok (.lstore 7, 2) := by decide +kernel
theorem dX8_workDay_33 : decode cX8_workDay 33 = .ok (.lload 4, 2) := by decide +kernel
theorem dX8_workDay_35 : decode cX8_workDay 35 = .ok (.aload_n 0, 1) := by decide +kernel
theorem dX8_workDay_36 : decode cX8_workDay 36 = .ok (.getfield 92, 3) := by decide +kernel
theorem dX8_workDay_39 : decode cX8_workDay 39 = .ok (.iload 6, 2) := by decide +kernel
theorem dX8_workDay_41 : decode cX8_workDay 41 = .ok (.laload, 1) := by decide +kernel
theorem dX8_workDay_42 : decode cX8_workDay 42 = .ok (.lload 7, 2) := by decide +kernel
theorem dX8_workDay_44 : decode cX8_workDay 44 = .ok (.lsub, 1) := by decide +kernel
theorem dX8_workDay_45 : decode cX8_workDay 45 = .ok (.ladd, 1) := by decide +kernel
theorem dX8_workDay_46 : decode cX8_workDay 46 = .ok (.lstore 4, 2) := by decide +kernel
theorem dX8_workDay_48 : decode cX8_workDay 48 = .ok (.aload_n 0, 1) := by decide +kernel
theorem dX8_workDay_49 : decode cX8_workDay 49 = .ok (.getfield 92, 3) := by decide +kernel
theorem dX8_workDay_52 : decode cX8_workDay 52 = .ok (.iload 6, 2) := by decide +kernel
theorem dX8_workDay_54 : decode cX8_workDay 54 = .ok (.iconst 1, 1) := by decide +kernel
theorem dX8_workDay_55 : decode cX8_workDay 55 = .ok (.iadd, 1) := by decide +kernel
theorem dX8_workDay_56 : decode cX8_workDay 56 = .ok (.iload 6, 2) := by decide +kernel
theorem dX8_workDay_58 : decode cX8_workDay 58 = .ok (.iconst 1, 1) := by decide +kernel
theorem dX8_workDay_59 : decode cX8_workDay 59 = .ok (.iadd, 1) := by decide +kernel
theorem dX8_workDay_60 : decode cX8_workDay 60 = .ok (.aload_n 0, 1) := by decide +kernel
theorem dX8_workDay_61 : decode cX8_workDay 61 = .ok (.getfield 7, 3) := by decide +kernel
theorem dX8_workDay_64 : decode cX8_workDay 64 = .ok (.iload_n 1, 1) := by decide +kernel
theorem dX8_workDay_65 : decode cX8_workDay 65 = .ok (.iaload, 1) := by decide +kernel
theorem dX8_workDay_66 : decode cX8_workDay 66 = .ok (.if_icmp .ne 18, 3) := by decide +kernel
theorem dX8_workDay_69 : decode cX8_workDay 69 = .ok (.aload_n 0, 1) := by decide +kernel
theorem dX8_workDay_70 : decode cX8_workDay 70 = .ok (.getfield 92, 3) := by decide +kernel
theorem dX8_workDay_73 : decode cX8_workDay 73 = .ok (.iload 6, 2) := by decide +kernel
theorem dX8_workDay_75 : decode cX8_workDay 75 = .ok (.iconst 1, 1) := by decide +kernel
theorem dX8_workDay_76 : decode cX8_workDay 76 = .ok (.iadd, 1) := by decide +kernel
theorem dX8_workDay_77 : decode cX8_workDay 77 = .ok (.laload, 1) := by decide +kernel
theorem dX8_workDay_78 : decode cX8_workDay 78 = .ok (.lload 7, 2) := by decide +kernel
theorem dX8_workDay_80 : decode cX8_workDay 80 = .ok (.ladd, 1) := by decide +kernel
theorem dX8_workDay_81 : decode cX8_workDay 81 = .ok (.goto 5, 3) := by decide +kernel
theorem dX8_workDay_84 : decode cX8_workDay 84 = .ok (.lload 7, 2) := by decide +kernel
theorem dX8_workDay_86 : decode cX8_workDay 86 = .ok (.lastore, 1) := by decide +kernel
theorem dX8_workDay_87 : decode cX8_workDay 87 = .ok (.iinc 6 (-1), 3) := by decide +kernel
theorem dX8_workDay_90 : decode cX8_workDay 90 = .ok (.goto (-77), 3) := by decide +kernel
theorem dX8_workDay_93 : decode cX8_workDay 93 = .ok (.aload_n 0, 1) := by decide +kernel
theorem dX8_workDay_94 : decode cX8_workDay 94 = .ok (.getfield 92, 3) := by decide +kernel
theorem dX8_workDay_97 : decode cX8_workDay 97 = .ok (.iconst 0, 1) := by decide +kernel
theorem dX8_workDay_98 : decode cX8_workDay 98 = .ok (.lload 4, 2) := by decide +kernel
theorem dX8_workDay_100 : decode cX8_workDay 100 = .ok (.lastore, 1) := by decide +kernel
theorem dX8_workDay_101 : decode cX8_workDay 101 = .ok (.return_, 1) := by decide +kernel
theorem dX8_work_0 : decode cX8_work 0 = .ok (.aload_n 0, 1) := by decide +kernel
theorem dX8_work_1 : decode cX8_work 1 = .ok (.iload_n 1, 1) := by decide +kernel
theorem dX8_work_2 : decode cX8_work 2 = .ok (.invokevirtual 219, 3) := by decide +kernel
theorem dX8_work_5 : decode cX8_work 5 = .ok (.ifCond .ne 6, 3) := by decide +kernel
theorem dX8_work_8 : decode cX8_work 8 = .ok (.ldc 223, 2) := by decide +kernel
theorem dX8_work_10 : decode cX8_work 10 = .ok (.ireturn, 1) := by decide +kernel
theorem dX8_work_11 : decode cX8_work 11 = .ok (.iload_n 2, 1) := by decide +kernel
theorem dX8_work_12 : decode cX8_work 12 = .ok (.i2l, 1) := by decide +kernel
theorem dX8_work_13 : decode cX8_work 13 = .ok (.lconst 1, 1) := by decide +kernel
theorem dX8_work_14 : decode cX8_work 14 = .ok (.ldc2_w 311, 3) := by decide +kernel
theorem dX8_work_17 : decode cX8_work 17 = .ok (.invokestatic 112, 3) := by decide +kernel
theorem dX8_work_20 : decode cX8_work 20 = .ok (.ifCond .ne 6, 3) := by decide +kernel
theorem dX8_work_23 : decode cX8_work 23 = .ok (.ldc 133, 2) := by decide +kernel
theorem dX8_work_25 : decode cX8_work 25 = .ok (.ireturn, 1) := by decide +kernel
theorem dX8_work_26 : decode cX8_work 26 = .ok (.aload_n 0, 1) := by decide +kernel
theorem dX8_work_27 : decode cX8_work 27 = .ok (.iconst 1, 1) := by decide +kernel
theorem dX8_work_28 : decode cX8_work 28 = .ok (.iload_n 1, 1) := by decide +kernel
theorem dX8_work_29 : decode cX8_work 29 = .ok (.ishl, 1) := by decide +kernel
theorem dX8_work_30 : decode cX8_work 30 = .ok (.invokevirtual 291, 3) := by decide +kernel
theorem dX8_work_33 : decode cX8_work 33 = .ok (.i2l, 1) := by decide +kernel
theorem dX8_work_34 : decode cX8_work 34 = .ok (.lstore_n 3, 1) := by decide +kernel
theorem dX8_work_35 : decode cX8_work 35 = .ok (.aload_n 0, 1) := by decide +kernel
theorem dX8_work_36 : decode cX8_work 36 = .ok (.iload_n 1, 1) := by decide +kernel
theorem dX8_work_37 : decode cX8_work 37 = .ok (.invokevirtual 313, 3) := by decide +kernel
theorem dX8_work_40 : decode cX8_work 40 = .ok (.iconst 0, 1) := by decide +kernel
theorem dX8_work_41 : decode cX8_work 41 = .ok (.istore 5, 2) := by decide +kernel
theorem dX8_work_43 : decode cX8_work 43 = .ok (.iload 5, 2) := by decide +kernel
theorem dX8_work_45 : decode cX8_work 45 = .ok (.iload_n 2, 1) := by decide +kernel
theorem dX8_work_46 : decode cX8_work 46 = .ok (.if_icmp .ge 15, 3) := by decide +kernel
theorem dX8_work_49 : decode cX8_work 49 = .ok (.aload_n 0, 1) := by decide +kernel
theorem dX8_work_50 : decode cX8_work 50 = .ok (.iload_n 1, 1) := by decide +kernel
theorem dX8_work_51 : decode cX8_work 51 = .ok (.lload_n 3, 1) := by decide +kernel
theorem dX8_work_52 : decode cX8_work 52 = .ok (.invokevirtual 317, 3) := by decide +kernel
theorem dX8_work_55 : decode cX8_work 55 = .ok (.iinc 5 1, 3) := by decide +kernel
theorem dX8_work_58 : decode cX8_work 58 = .ok (.goto (-15), 3) := by decide +kernel
theorem dX8_work_61 : decode cX8_work 61 = .ok (.aload_n 0, 1) := by decide +kernel
theorem dX8_work_62 : decode cX8_work 62 = .ok (.getfield 92, 3) := by decide +kernel
theorem dX8_work_65 : decode cX8_work 65 = .ok (.aload_n 0, 1) := by decide +kernel
theorem dX8_work_66 : decode cX8_work 66 = .ok (.getfield 7, 3) := by decide +kernel
theorem dX8_work_69 : decode cX8_work 69 = .ok (.iload_n 1, 1) := by decide +kernel
theorem dX8_work_70 : decode cX8_work 70 = .ok (.iaload, 1) := by decide +kernel
theorem dX8_work_71 : decode cX8_work 71 = .ok (.laload, 1) := by decide +kernel
theorem dX8_work_72 : decode cX8_work 72 = .ok (.l2i, 1) := by decide +kernel
theorem dX8_work_73 : decode cX8_work 73 = .ok (.ireturn, 1) := by decide +kernel
theorem dX8_likely_0 : decode cX8_likely 0 = .ok (.aload_n 0, 1) := by decide +kernel
theorem dX8_likely_1 : decode cX8_likely 1 = .ok (.iload_n 1, 1) := by decide +kernel
theorem dX8_likely_2 : decode cX8_likely 2 = .ok (.invokevirtual 219, 3) := by decide +kernel
theorem dX8_likely_5 : decode cX8_likely 5 = .ok (.ifCond .ne 6, 3) := by decide +kernel
theorem dX8_likely_8 : decode cX8_likely 8 = .ok (.ldc 223, 2) := by decide +kernel
theorem dX8_likely_10 : decode cX8_likely 10 = .ok (.ireturn, 1) := by decide +kernel
theorem dX8_likely_11 : decode cX8_likely 11 = .ok (.iload_n 2, 1) := by decide +kernel
theorem dX8_likely_12 : decode cX8_likely 12 = .ok (.i2l, 1) := by decide +kernel
theorem dX8_likely_13 : decode cX8_likely 13 = .ok (.lconst 1, 1) := by decide +kernel
theorem dX8_likely_14 : decode cX8_likely 14 = .ok (.ldc2_w 321, 3) := by decide +kernel
theorem dX8_likely_17 : decode cX8_likely 17 = .ok (.invokestatic 112, 3) := by decide +kernel
theorem dX8_likely_20 : decode cX8_likely 20 = .ok (.ifCond .ne 6, 3) := by decide +kernel
theorem dX8_likely_23 : decode cX8_likely 23 = .ok (.ldc 133, 2) := by decide +kernel
theorem dX8_likely_25 : decode cX8_likely 25 = .ok (.ireturn, 1) := by decide +kernel
theorem dX8_likely_26 : decode cX8_likely 26 = .ok (.aload_n 0, 1) := by decide +kernel
theorem dX8_likely_27 : decode cX8_likely 27 = .ok (.iconst 1, 1) := by decide +kernel
theorem dX8_likely_28 : decode cX8_likely 28 = .ok (.iload_n 1, 1) := by decide +kernel
theorem dX8_likely_29 : decode cX8_likely 29 = .ok (.ishl, 1) := by decide +kernel
theorem dX8_likely_30 : decode cX8_likely 30 = .ok (.invokevirtual 291, 3) := by decide +kernel
theorem dX8_likely_33 : decode cX8_likely 33 = .ok (.i2l, 1) := by decide +kernel
theorem dX8_likely_34 : decode cX8_likely 34 = .ok (.lstore_n 3, 1) := by decide +kernel
theorem dX8_likely_35 : decode cX8_likely 35 = .ok (.aload_n 0, 1) := by decide +kernel
theorem dX8_likely_36 : decode cX8_likely 36 = .ok (.iload_n 1, 1) := by decide +kernel
theorem dX8_likely_37 : decode cX8_likely 37 = .ok (.invokevirtual 313, 3) := by decide +kernel
end
section
theorem dX8_likely_40 : decode cX8_likely 40 = .ok (.iconst 1, 1) := by decide +kernel
theorem dX8_likely_41 : decode cX8_likely 41 = .ok (.istore 5, 2) := by decide +kernel
theorem dX8_likely_43 : decode cX8_likely 43 = .ok (.iload 5, 2) := by decide +kernel
theorem dX8_likely_45 : decode cX8_likely 45 = .ok (.bipush 60, 2) := by decide +kernel
theorem dX8_likely_47 : decode cX8_likely 47 = .ok (.if_icmp .gt 43, 3) := by decide +kernel
theorem dX8_likely_50 : decode cX8_likely 50 = .ok (.aload_n 0, 1) := by decide +kernel
theorem dX8_likely_51 : decode cX8_likely 51 = .ok (.iload_n 1, 1) := by decide +kernel
theorem dX8_likely_52 : decode cX8_likely 52 = .ok (.lload_n 3, 1) := by decide +kernel
theorem dX8_likely_53 : decode cX8_likely 53 = .ok (.invokevirtual 317, 3) := by decide +kernel
theorem dX8_likely_56 : decode cX8_likely 56 = .ok (.aload_n 0, 1) := by decide +kernel
theorem dX8_likely_57 : decode cX8_likely 57 = .ok (.getfield 92, 3) := by decide +kernel
theorem dX8_likely_60 : decode cX8_likely 60 = .ok (.aload_n 0, 1) := by decide +kernel
theorem dX8_likely_61 : decode cX8_likely 61 = .ok (.getfield 7, 3) := by decide +kernel
theorem dX8_likely_64 : decode cX8_likely 64 = .ok (.iload_n 1, 1) := by decide +kernel
theorem dX8_likely_65 : decode cX8_likely 65 = .ok (.iaload, 1) := by decide +kernel
theorem dX8_likely_66 : decode cX8_likely 66 = .ok (.laload, 1) := by decide +kernel
theorem dX8_likely_67 : decode cX8_likely 67 = .ok (.ldc2_w 321, 3) := by decide +kernel
theorem dX8_likely_70 : decode cX8_likely 70 = .ok (.lmul, 1) := by decide +kernel
theorem dX8_likely_71 : decode cX8_likely 71 = .ok (.iload_n 2, 1) := by decide +kernel
theorem dX8_likely_72 : decode cX8_likely 72 = .ok (.i2l, 1) := by decide +kernel
theorem dX8_likely_73 : decode cX8_likely 73 = .ok (.ldc2_w 278, 3) := by decide +kernel
theorem dX8_likely_76 : decode cX8_likely 76 = .ok (.lmul, 1) := by decide +kernel
theorem dX8_likely_77 : decode cX8_likely 77 = .ok (.lcmp, 1) := by decide +kernel
theorem dX8_likely_78 : decode cX8_likely 78 = .ok (.ifCond .lt 6, 3) := by decide +kernel
theorem dX8_likely_81 : decode cX8_likely 81 = .ok (.iload 5, 2) := by decide +kernel
theorem dX8_likely_83 : decode cX8_likely 83 = .ok (.ireturn, 1) := by decide +kernel
theorem dX8_likely_84 : decode cX8_likely 84 = .ok (.iinc 5 1, 3) := by decide +kernel
theorem dX8_likely_87 : decode cX8_likely 87 = .ok (.goto (-44), 3) := by decide +kernel
theorem dX8_likely_90 : decode cX8_likely 90 = .ok (.iconst (-1), 1) := by decide +kernel
theorem dX8_likely_91 : decode cX8_likely 91 = .ok (.ireturn, 1) := by decide +kernel
theorem dX8_tell_0 : decode cX8_tell 0 = .ok (.aload_n 0, 1) := by decide +kernel
theorem dX8_tell_1 : decode cX8_tell 1 = .ok (.iload_n 1, 1) := by decide +kernel
theorem dX8_tell_2 : decode cX8_tell 2 = .ok (.invokevirtual 231, 3) := by decide +kernel
theorem dX8_tell_5 : decode cX8_tell 5 = .ok (.ifCond .ne 6, 3) := by decide +kernel
theorem dX8_tell_8 : decode cX8_tell 8 = .ok (.ldc 223, 2) := by decide +kernel
theorem dX8_tell_10 : decode cX8_tell 10 = .ok (.ireturn, 1) := by decide +kernel
theorem dX8_tell_11 : decode cX8_tell 11 = .ok (.iload_n 2, 1) := by decide +kernel
theorem dX8_tell_12 : decode cX8_tell 12 = .ok (.i2l, 1) := by decide +kernel
theorem dX8_tell_13 : decode cX8_tell 13 = .ok (.lconst 0, 1) := by decide +kernel
theorem dX8_tell_14 : decode cX8_tell 14 = .ok (.ldc2_w 323, 3) := by decide +kernel
theorem dX8_tell_17 : decode cX8_tell 17 = .ok (.invokestatic 112, 3) := by decide +kernel
theorem dX8_tell_20 : decode cX8_tell 20 = .ok (.ifCond .ne 6, 3) := by decide +kernel
theorem dX8_tell_23 : decode cX8_tell 23 = .ok (.ldc 133, 2) := by decide +kernel
theorem dX8_tell_25 : decode cX8_tell 25 = .ok (.ireturn, 1) := by decide +kernel
theorem dX8_tell_26 : decode cX8_tell 26 = .ok (.aload_n 0, 1) := by decide +kernel
theorem dX8_tell_27 : decode cX8_tell 27 = .ok (.getfield 213, 3) := by decide +kernel
theorem dX8_tell_30 : decode cX8_tell 30 = .ok (.bipush 40, 2) := by decide +kernel
theorem dX8_tell_32 : decode cX8_tell 32 = .ok (.if_icmp .ne 6, 3) := by decide +kernel
theorem dX8_tell_35 : decode cX8_tell 35 = .ok (.ldc 137, 2) := by decide +kernel
theorem dX8_tell_37 : decode cX8_tell 37 = .ok (.ireturn, 1) := by decide +kernel
theorem dX8_tell_38 : decode cX8_tell 38 = .ok (.aload_n 0, 1) := by decide +kernel
theorem dX8_tell_39 : decode cX8_tell 39 = .ok (.getfield 96, 3) := by decide +kernel
theorem dX8_tell_42 : decode cX8_tell 42 = .ok (.aload_n 0, 1) := by decide +kernel
theorem dX8_tell_43 : decode cX8_tell 43 = .ok (.getfield 213, 3) := by decide +kernel
theorem dX8_tell_46 : decode cX8_tell 46 = .ok (.iload_n 1, 1) := by decide +kernel
theorem dX8_tell_47 : decode cX8_tell 47 = .ok (.iastore, 1) := by decide +kernel
theorem dX8_tell_48 : decode cX8_tell 48 = .ok (.aload_n 0, 1) := by decide +kernel
theorem dX8_tell_49 : decode cX8_tell 49 = .ok (.getfield 99, 3) := by decide +kernel
theorem dX8_tell_52 : decode cX8_tell 52 = .ok (.aload_n 0, 1) := by decide +kernel
theorem dX8_tell_53 : decode cX8_tell 53 = .ok (.getfield 213, 3) := by decide +kernel
theorem dX8_tell_56 : decode cX8_tell 56 = .ok (.iload_n 2, 1) := by decide +kernel
theorem dX8_tell_57 : decode cX8_tell 57 = .ok (.iastore, 1) := by decide +kernel
theorem dX8_tell_58 : decode cX8_tell 58 = .ok (.aload_n 0, 1) := by decide +kernel
theorem dX8_tell_59 : decode cX8_tell 59 = .ok (.dup, 1) := by decide +kernel
theorem dX8_tell_60 : decode cX8_tell 60 = .ok (.getfield 213, 3) := by decide +kernel
theorem dX8_tell_63 : decode cX8_tell 63 = .ok (.iconst 1, 1) := by decide +kernel
theorem dX8_tell_64 : decode cX8_tell 64 = .ok (.iadd, 1) := by decide +kernel
theorem dX8_tell_65 : decode cX8_tell 65 = .ok (.putfield 213, 3) := by decide +kernel
theorem dX8_tell_68 : decode cX8_tell 68 = .ok (.aload_n 0, 1) := by decide +kernel
theorem dX8_tell_69 : decode cX8_tell 69 = .ok (.getfield 213, 3) := by decide +kernel
theorem dX8_tell_72 : decode cX8_tell 72 = .ok (.ireturn, 1) := by decide +kernel
theorem dX8_forget_0 : decode cX8_forget 0 = .ok (.aload_n 0, 1) := by decide +kernel
theorem dX8_forget_1 : decode cX8_forget 1 = .ok (.getfield 213, 3) := by decide +kernel
theorem dX8_forget_4 : decode cX8_forget 4 = .ok (.istore_n 1, 1) := by decide +kernel
theorem dX8_forget_5 : decode cX8_forget 5 = .ok (.aload_n 0, 1) := by decide +kernel
theorem dX8_forget_6 : decode cX8_forget 6 = .ok (.iconst 0, 1) := by decide +kernel
theorem dX8_forget_7 : decode cX8_forget 7 = .ok (.putfield 213, 3) := by decide +kernel
theorem dX8_forget_10 : decode cX8_forget 10 = .ok (.iload_n 1, 1) := by decide +kernel
theorem dX8_forget_11 : decode cX8_forget 11 = .ok (.ireturn, 1) := by decide +kernel
theorem dX8_isLie_0 : decode cX8_isLie 0 = .ok (.aload_n 0, 1) := by decide +kernel
theorem dX8_isLie_1 : decode cX8_isLie 1 = .ok (.getfield 96, 3) := by decide +kernel
theorem dX8_isLie_4 : decode cX8_isLie 4 = .ok (.iload_n 1, 1) := by decide +kernel
theorem dX8_isLie_5 : decode cX8_isLie 5 = .ok (.iaload, 1) := by decide +kernel
theorem dX8_isLie_6 : decode cX8_isLie 6 = .ok (.istore_n 2, 1) := by decide +kernel
theorem dX8_isLie_7 : decode cX8_isLie 7 = .ok (.aload_n 0, 1) := by decide +kernel
theorem dX8_isLie_8 : decode cX8_isLie 8 = .ok (.getfield 99, 3) := by decide +kernel
theorem dX8_isLie_11 : decode cX8_isLie 11 = .ok (.iload_n 1, 1) := by decide +kernel
theorem dX8_isLie_12 : decode cX8_isLie 12 = .ok (.iaload, 1) := by decide +kernel
theorem dX8_isLie_13 : decode cX8_isLie 13 = .ok (.istore_n 3, 1) := by decide +kernel
theorem dX8_isLie_14 : decode cX8_isLie 14 = .ok (.aload_n 0, 1) := by decide +kernel
theorem dX8_isLie_15 : decode cX8_isLie 15 = .ok (.iload_n 2, 1) := by decide +kernel
theorem dX8_isLie_16 : decode cX8_isLie 16 = .ok (.iload_n 3, 1) := by decide +kernel
theorem dX8_isLie_17 : decode cX8_isLie 17 = .ok (.iconst 1, 1) := by decide +kernel
theorem dX8_isLie_18 : decode cX8_isLie 18 = .ok (.isub, 1) := by decide +kernel
theorem dX8_isLie_19 : decode cX8_isLie 19 = .ok (.invokevirtual 275, 3) := by decide +kernel
theorem dX8_isLie_22 : decode cX8_isLie 22 = .ok (.aload_n 0, 1) := by decide +kernel
theorem dX8_isLie_23 : decode cX8_isLie 23 = .ok (.iload_n 2, 1) := by decide +kernel
theorem dX8_isLie_24 : decode cX8_isLie 24 = .ok (.iload_n 3, 1) := by decide +kernel
theorem dX8_isLie_25 : decode cX8_isLie 25 = .ok (.invokevirtual 275, 3) := by decide +kernel
theorem dX8_isLie_28 : decode cX8_isLie 28 = .ok (.if_icmp .ne 7, 3) := by decide +kernel
theorem dX8_isLie_31 : decode cX8_isLie 31 = .ok (.iconst 1, 1) := by decide +kernel
theorem dX8_isLie_32 : decode cX8_isLie 32 = .ok (.goto 4, 3) := by decide +kernel
theorem dX8_isLie_35 : decode cX8_isLie 35 = .ok (.iconst 0, 1) := by decide +kernel
theorem dX8_isLie_36 : decode cX8_isLie 36 = .ok (.istore 4, 2) := by decide +kernel
theorem dX8_isLie_38 : decode cX8_isLie 38 = .ok (.iconst 0, 1) := by decide +kernel
theorem dX8_isLie_39 : decode cX8_isLie 39 = .ok (.istore 5, 2) := by decide +kernel
theorem dX8_isLie_41 : decode cX8_isLie 41 = .ok (.iload 5, 2) := by decide +kernel
theorem dX8_isLie_43 : decode cX8_isLie 43 = .ok (.aload_n 0, 1) := by decide +kernel
theorem dX8_isLie_44 : decode cX8_isLie 44 = .ok (.getfield 116, 3) := by decide +kernel
theorem dX8_isLie_47 : decode cX8_isLie 47 = .ok (.if_icmp .ge 38, 3) := by decide +kernel
theorem dX8_isLie_50 : decode cX8_isLie 50 = .ok (.iload 4, 2) := by decide +kernel
theorem dX8_isLie_52 : decode cX8_isLie 52 = .ok (.ifCond .ne 20, 3) := by decide +kernel
theorem dX8_isLie_55 : decode cX8_isLie 55 = .ok (.iload 5, 2) := by decide +kernel
theorem dX8_isLie_57 : decode cX8_isLie 57 = .ok (.iload_n 2, 1) := by decide +kernel
theorem dX8_isLie_58 : decode cX8_isLie 58 = .ok (.if_icmp .eq 18, 3) := by decide +kernel
theorem dX8_isLie_61 : decode cX8_isLie 61 = .ok (.aload_n 0, 1) := by decide +kernel
theorem dX8_isLie_62 : decode cX8_isLie 62 = .ok (.iload 5, 2) := by decide +kernel
theorem dX8_isLie_64 : decode cX8_isLie 64 = .ok (.iload_n 2, 1) := by decide +kernel
theorem dX8_isLie_65 : decode cX8_isLie 65 = .ok (.iload_n 3, 1) := by decide +kernel
theorem dX8_isLie_66 : decode cX8_isLie 66 = .ok (.invokevirtual 280, 3) := by decide +kernel
theorem dX8_isLie_69 : decode cX8_isLie 69 = .ok (.ifCond .ne 7, 3) := by decide +kernel
theorem dX8_isLie_72 : decode cX8_isLie 72 = .ok (.iconst 1, 1) := by decide +kernel
theorem dX8_isLie_73 : decode cX8_isLie 73 = .ok (.goto 4, 3) := by decide +kernel
theorem dX8_isLie_76 : decode cX8_isLie 76 = .ok (.iconst 0, 1) := by decide +kernel
theorem dX8_isLie_77 : decode cX8_isLie 77 = .ok (.istore 4, 2) := by decide +kernel
theorem dX8_isLie_79 : decode cX8_isLie 79 = .ok (.iinc 5 1, 3) := by decide +kernel
theorem dX8_isLie_82 : decode cX8_isLie 82 = .ok (.goto (-41), 3) := by decide +kernel
theorem dX8_isLie_85 : decode cX8_isLie 85 = .ok (.iload 4, 2) := by decide +kernel
theorem dX8_isLie_87 : decode cX8_isLie 87 = .ok (.ireturn, 1) := by decide +kernel
theorem dX8_lies_0 : decode cX8_lies 0 = .ok (.aload_n 0, 1) := by decide +kernel
theorem dX8_lies_1 : decode cX8_lies 1 = .ok (.getfield 119, 3) := by decide +kernel
theorem dX8_lies_4 : decode cX8_lies 4 = .ok (.iconst 2, 1) := by decide +kernel
theorem dX8_lies_5 : decode cX8_lies 5 = .ok (.if_icmp .ne 7, 3) := by decide +kernel
theorem dX8_lies_8 : decode cX8_lies 8 = .ok (.ldc_w 268, 3) := by decide +kernel
theorem dX8_lies_11 : decode cX8_lies 11 = .ok (.ireturn, 1) := by decide +kernel
theorem dX8_lies_12 : decode cX8_lies 12 = .ok (.iconst 0, 1) := by decide +kernel
theorem dX8_lies_13 : decode cX8_lies 13 = .ok (.istore_n 1, 1) := by decide +kernel
theorem dX8_lies_14 : decode cX8_lies 14 = .ok (.iload_n 1, 1) := by decide +kernel
theorem dX8_lies_15 : decode cX8_lies 15 = .ok (.aload_n 0, 1) := by decide +kernel
theorem dX8_lies_16 : decode cX8_lies 16 = .ok (.getfield 213, 3) := by decide +kernel
theorem dX8_lies_19 : decode cX8_lies 19 = .ok (.if_icmp .ge 19, 3) := by decide +kernel
theorem dX8_lies_22 : decode cX8_lies 22 = .ok (.aload_n 0, 1) := by decide +kernel
theorem dX8_lies_23 : decode cX8_lies 23 = .ok (.iload_n 1, 1) := by decide +kernel
theorem dX8_lies_24 : decode cX8_lies 24 = .ok (.invokevirtual 325, 3) := by decide +kernel
theorem dX8_lies_27 : decode cX8_lies 27 = .ok (.ifCond .eq 5, 3) := by decide +kernel
theorem dX8_lies_30 : decode cX8_lies 30 = .ok (.iload_n 1, 1) := by decide +kernel
theorem dX8_lies_31 : decode cX8_lies 31 = .ok (.ireturn, 1) := by decide +kernel
theorem dX8_lies_32 : decode cX8_lies 32 = .ok (.iinc 1 1, 3) := by decide +kernel
theorem dX8_lies_35 : decode cX8_lies 35 = .ok (.goto (-21), 3) := by decide +kernel
theorem dX8_lies_38 : decode cX8_lies 38 = .ok (.iconst (-1), 1) := by decide +kernel
theorem dX8_lies_39 : decode cX8_lies 39 = .ok (.ireturn, 1) := by decide +kernel
theorem dX8_isHonest_0 : decode cX8_isHonest 0 = .ok (.iconst 1, 1) := by decide +kernel
theorem dX8_isHonest_1 : decode cX8_isHonest 1 = .ok (.istore_n 2, 1) := by decide +kernel
theorem dX8_isHonest_2 : decode cX8_isHonest 2 = .ok (.iconst 0, 1) := by decide +kernel
theorem dX8_isHonest_3 : decode cX8_isHonest 3 = .ok (.istore_n 3, 1) := by decide +kernel
theorem dX8_isHonest_4 : decode cX8_isHonest 4 = .ok (.iload_n 3, 1) := by decide +kernel
theorem dX8_isHonest_5 : decode cX8_isHonest 5 = .ok (.aload_n 0, 1) := by decide +kernel
theorem dX8_isHonest_6 : decode cX8_isHonest 6 = .ok (.getfield 213, 3) := by decide +kernel
theorem dX8_isHonest_9 : decode cX8_isHonest 9 = .ok (.if_icmp .ge 37, 3) := by decide +kernel
theorem dX8_isHonest_12 : decode cX8_isHonest 12 = .ok (.iload_n 2, 1) := by decide +kernel
theorem dX8_isHonest_13 : decode cX8_isHonest 13 = .ok (.ifCond .eq 25, 3) := by decide +kernel
theorem dX8_isHonest_16 : decode cX8_isHonest 16 = .ok (.aload_n 0, 1) := by decide +kernel
theorem dX8_isHonest_17 : decode cX8_isHonest 17 = .ok (.getfield 96, 3) := by decide +kernel
theorem dX8_isHonest_20 : decode cX8_isHonest 20 = .ok (.iload_n 3, 1) := by decide +kernel
theorem dX8_isHonest_21 : decode cX8_isHonest 21 = .ok (.iaload, 1) := by decide +kernel
theorem dX8_isHonest_22 : decode cX8_isHonest 22 = .ok (.iload_n 1, 1) := by decide +kernel
theorem dX8_isHonest_23 : decode cX8_isHonest 23 = .ok (.if_icmp .ne 11, 3) := by decide +kernel
theorem dX8_isHonest_26 : decode cX8_isHonest 26 = .ok (.aload_n 0, 1) := by decide +kernel
theorem dX8_isHonest_27 : decode cX8_isHonest 27 = .ok (.iload_n 3, 1) := by decide +kernel
theorem dX8_isHonest_28 : decode cX8_isHonest 28 = .ok (.invokevirtual 325, 3) := by decide +kernel
theorem dX8_isHonest_31 : decode cX8_isHonest 31 = .ok (.ifCond .ne 7, 3) := by decide +kernel
theorem dX8_isHonest_34 : decode cX8_isHonest 34 = .ok (.iconst 1, 1) := by decide +kernel
theorem dX8_isHonest_35 : decode cX8_isHonest 35 = .ok (.goto 4, 3) := by decide +kernel
theorem dX8_isHonest_38 : decode cX8_isHonest 38 = .ok (.iconst 0, 1) := by decide +kernel
theorem dX8_isHonest_39 : decode cX8_isHonest 39 = .ok (.istore_n 2, 1) := by decide +kernel
theorem dX8_isHonest_40 : decode cX8_isHonest 40 = .ok (.iinc 3 1, 3) := by decide +kernel
theorem dX8_isHonest_43 : decode cX8_isHonest 43 = .ok (.goto (-39), 3) := by decide +kernel
theorem dX8_isHonest_46 : decode cX8_isHonest 46 = .ok (.iload_n 2, 1) := by decide +kernel
theorem dX8_isHonest_47 : decode cX8_isHonest 47 = .ok (.ireturn, 1) := by decide +kernel
theorem dX8_fits_0 : decode cX8_fits 0 = .ok (.aload_n 0, 1) := by decide +kernel
theorem dX8_fits_1 : decode cX8_fits 1 = .ok (.iload_n 1, 1) := by decide +kernel
theorem dX8_fits_2 : decode cX8_fits 2 = .ok (.invokevirtual 231, 3) := by decide +kernel
theorem dX8_fits_5 : decode cX8_fits 5 = .ok (.ifCond .ne 6, 3) := by decide +kernel
theorem dX8_fits_8 : decode cX8_fits 8 = .ok (.ldc 223, 2) := by decide +kernel
theorem dX8_fits_10 : decode cX8_fits 10 = .ok (.ireturn, 1) := by decide +kernel
theorem dX8_fits_11 : decode cX8_fits 11 = .ok (.aload_n 0, 1) := by decide +kernel
theorem dX8_fits_12 : decode cX8_fits 12 = .ok (.getfield 119, 3) := by decide +kernel
theorem dX8_fits_15 : decode cX8_fits 15 = .ok (.iconst 2, 1) := by decide +kernel
theorem dX8_fits_16 : decode cX8_fits 16 = .ok (.if_icmp .ne 7, 3) := by decide +kernel
theorem dX8_fits_19 : decode cX8_fits 19 = .ok (.ldc_w 268, 3) := by decide +kernel
theorem dX8_fits_22 : decode cX8_fits 22 = .ok (.ireturn, 1) := by decide +kernel
theorem dX8_fits_23 : decode cX8_fits 23 = .ok (.aload_n 0, 1) := by decide +kernel
theorem dX8_fits_24 : decode cX8_fits 24 = .ok (.getfield 31, 3) := by decide +kernel
theorem dX8_fits_27 : decode cX8_fits 27 = .ok (.iload_n 1, 1) := by decide +kernel
theorem dX8_fits_28 : decode cX8_fits 28 = .ok (.iaload, 1) := by decide +kernel
theorem dX8_fits_29 : decode cX8_fits 29 = .ok (.istore_n 3, 1) := by decide +kernel
theorem dX8_fits_30 : decode cX8_fits 30 = .ok (.iconst 0, 1) := by decide +kernel
theorem dX8_fits_31 : decode cX8_fits 31 = .ok (.istore 4, 2) := by decide +kernel
theorem dX8_fits_33 : decode cX8_fits 33 = .ok (.iconst (-1), 1) := by decide +kernel
theorem dX8_fits_34 : decode cX8_fits 34 = .ok (.istore 5, 2) := by decide +kernel
theorem dX8_fits_36 : decode cX8_fits 36 = .ok (.iconst 0, 1) := by decide +kernel
theorem dX8_fits_37 : decode cX8_fits 37 = .ok (.istore 6, 2) := by decide +kernel
theorem dX8_fits_39 : decode cX8_fits 39 = .ok (.iload 6, 2) := by decide +kernel
theorem dX8_fits_41 : decode cX8_fits 41 = .ok (.bipush 60, 2) := by decide +kernel
theorem dX8_fits_43 : decode cX8_fits 43 = .ok (.if_icmp .gt 49, 3) := by decide +kernel
theorem dX8_fits_46 : decode cX8_fits 46 = .ok (.aload_n 0, 1) := by decide +kernel
theorem dX8_fits_47 : decode cX8_fits 47 = .ok (.getfield 31, 3) := by decide +kernel
theorem dX8_fits_50 : decode cX8_fits 50 = .ok (.iload_n 1, 1) := by decide +kernel
theorem dX8_fits_51 : decode cX8_fits 51 = .ok (.iload 6, 2) := by decide +kernel
theorem dX8_fits_53 : decode cX8_fits 53 = .ok (.iastore, 1) := by decide +kernel
theorem dX8_fits_54 : decode cX8_fits 54 = .ok (.iload 6, 2) := by decide +kernel
theorem dX8_fits_56 : decode cX8_fits 56 = .ok (.iload_n 3, 1) := by decide +kernel
theorem dX8_fits_57 : decode cX8_fits 57 = .ok (.if_icmp .eq 29, 3) := by decide +kernel
theorem dX8_fits_60 : decode cX8_fits 60 = .ok (.aload_n 0, 1) := by decide +kernel
theorem dX8_fits_61 : decode cX8_fits 61 = .ok (.iload_n 1, 1) := by decide +kernel
theorem dX8_fits_62 : decode cX8_fits 62 = .ok (.invokevirtual 328, 3) := by decide +kernel
theorem dX8_fits_65 : decode cX8_fits 65 = .ok (.ifCond .eq 21, 3) := by decide +kernel
theorem dX8_fits_68 : decode cX8_fits 68 = .ok (.iload 4, 2) := by decide +kernel
theorem dX8_fits_70 : decode cX8_fits 70 = .ok (.iload_n 2, 1) := by decide +kernel
theorem dX8_fits_71 : decode cX8_fits 71 = .ok (.if_icmp .ne 8, 3) := by decide +kernel
theorem dX8_fits_74 : decode cX8_fits 74 = .ok (.iload 6, 2) := by decide +kernel
theorem dX8_fits_76 : decode cX8_fits 76 = .ok (.goto 5, 3) := by decide +kernel
theorem dX8_fits_79 : decode cX8_fits 79 = .ok (.iload 5, 2) := by decide +kernel
theorem dX8_fits_81 : decode cX8_fits 81 = .ok (.istore 5, 2) := by decide +kernel
theorem dX8_fits_83 : decode cX8_fits 83 = .ok (.iinc 4 1, 3) := by decide +kernel
theorem dX8_fits_86 : decode cX8_fits 86 = .ok (.iinc 6 1, 3) := by decide +kernel
theorem dX8_fits_89 : decode cX8_fits 89 = .ok (.goto (-50), 3) := by decide +kernel
theorem dX8_fits_92 : decode cX8_fits 92 = .ok (.aload_n 0, 1) := by decide +kernel
theorem dX8_fits_93 : decode cX8_fits 93 = .ok (.getfield 31, 3) := by decide +kernel
theorem dX8_fits_96 : decode cX8_fits 96 = .ok (.iload_n 1, 1) := by decide +kernel
theorem dX8_fits_97 : decode cX8_fits 97 = .ok (.iload_n 3, 1) := by decide +kernel
theorem dX8_fits_98 : decode cX8_fits 98 = .ok (.iastore, 1) := by decide +kernel
theorem dX8_fits_99 : decode cX8_fits 99 = .ok (.iload_n 2, 1) := by decide +kernel
theorem dX8_fits_100 : decode cX8_fits 100 = .ok (.iconst (-1), 1) := by decide +kernel
theorem dX8_fits_101 : decode cX8_fits 101 = .ok (.if_icmp .ne 8, 3) := by decide +kernel
theorem dX8_fits_104 : decode cX8_fits 104 = .ok (.iload 4, 2) := by decide +kernel
theorem dX8_fits_106 : decode cX8_fits 106 = .ok (.goto 5, 3) := by decide +kernel
theorem dX8_fits_109 : decode cX8_fits 109 = .ok (.iload 5, 2) := by decide +kernel
theorem dX8_fits_111 : decode cX8_fits 111 = .ok (.ireturn, 1) := by decide +kernel
theorem dX8_seed_0 : decode cX8_seed 0 = .ok (.iload_n 1, 1) := by decide +kernel
theorem dX8_seed_1 : decode cX8_seed 1 = .ok (.ifCond .ge 6, 3) := by decide +kernel
theorem dX8_seed_4 : decode cX8_seed 4 = .ok (.ldc 133, 2) := by decide +kernel
theorem dX8_seed_6 : decode cX8_seed 6 = .ok (.ireturn, 1) := by decide +kernel
theorem dX8_seed_7 : decode cX8_seed 7 = .ok (.aload_n 0, 1) := by decide +kernel
theorem dX8_seed_8 : decode cX8_seed 8 = .ok (.getfield 253, 3) := by decide +kernel
theorem dX8_seed_11 : decode cX8_seed 11 = .ok (.istore_n 2, 1) := by decide +kernel
theorem dX8_seed_12 : decode cX8_seed 12 = .ok (.aload_n 0, 1) := by decide +kernel
theorem dX8_seed_13 : decode cX8_seed 13 = .ok (.iload_n 1, 1) := by decide +kernel
theorem dX8_seed_14 : decode cX8_seed 14 = .ok (.putfield 253, 3) := by decide +kernel
theorem dX8_seed_17 : decode cX8_seed 17 = .ok (.iload_n 2, 1) := by decide +kernel
theorem dX8_seed_18 : decode cX8_seed 18 = .ok (.ireturn, 1) := by decide +kernel
theorem dX8_keep_0 : decode cX8_keep 0 = .ok (.iload_n 1, 1) := by decide +kernel
theorem dX8_keep_1 : decode cX8_keep 1 = .ok (.i2l, 1) := by decide +kernel
theorem dX8_keep_2 : decode cX8_keep 2 = .ok (.lconst 0, 1) := by decide +kernel
theorem dX8_keep_3 : decode cX8_keep 3 = .ok (.lconst 1, 1) := by decide +kernel
theorem dX8_keep_4 : decode cX8_keep 4 = .ok (.invokestatic 112, 3) := by decide +kernel
theorem dX8_keep_7 : decode cX8_keep 7 = .ok (.ifCond .ne 6, 3) := by decide +kernel
theorem dX8_keep_10 : decode cX8_keep 10 = .ok (.ldc 223, 2) := by decide +kernel
theorem dX8_keep_12 : decode cX8_keep 12 = .ok (.ireturn, 1) := by decide +kernel
theorem dX8_keep_13 : decode cX8_keep 13 = .ok (.sipush 430, 3) := by decide +kernel
theorem dX8_keep_16 : decode cX8_keep 16 = .ok (.iload_n 1, 1) := by decide +kernel
theorem dX8_keep_17 : decode cX8_keep 17 = .ok (.imul, 1) := by decide +kernel
theorem dX8_keep_18 : decode cX8_keep 18 = .ok (.istore_n 2, 1) := by decide +kernel
theorem dX8_keep_19 : decode cX8_keep 19 = .ok (.iconst 0, 1) := by decide +kernel
theorem dX8_keep_20 : decode cX8_keep 20 = .ok (.istore_n 3, 1) := by decide +kernel
theorem dX8_keep_21 : decode cX8_keep 21 = .ok (.iload_n 3, 1) := by decide +kernel
theorem dX8_keep_22 : decode cX8_keep 22 = .ok (.bipush 8, 2) := by decide +kernel
theorem dX8_keep_24 : decode cX8_keep 24 = .ok (.if_icmp .ge 23, 3) := by decide +kernel
theorem dX8_keep_27 : decode cX8_keep 27 = .ok (.aload_n 0, 1) := by decide +kernel
theorem dX8_keep_28 : decode cX8_keep 28 = .ok (.getfield 102, 3) := by decide +kernel
theorem dX8_keep_31 : decode cX8_keep 31 = .ok (.iload_n 2, 1) := by decide +kernel
theorem dX8_keep_32 : decode cX8_keep 32 = .ok (.iload_n 3, 1) := by decide +kernel
theorem dX8_keep_33 : decode cX8_keep 33 = .ok (.iadd, 1) := by decide +kernel
theorem dX8_keep_34 : decode cX8_keep 34 = .ok (.aload_n 0, 1) := by decide +kernel
theorem dX8_keep_35 : decode cX8_keep 35 = .ok (.getfield 31, 3) := by decide +kernel
theorem dX8_keep_38 : decode cX8_keep 38 = .ok (.iload_n 3, 1) := by decide +kernel
theorem dX8_keep_39 : decode cX8_keep 39 = .ok (.iaload, 1) := by decide +kernel
theorem dX8_keep_40 : decode cX8_keep 40 = .ok (.iastore, 1) := by decide +kernel
theorem dX8_keep_41 : decode cX8_keep 41 = .ok (.iinc 3 1, 3) := by decide +kernel
theorem dX8_keep_44 : decode cX8_keep 44 = .ok (.goto (-23), 3) := by decide +kernel
theorem dX8_keep_47 : decode cX8_keep 47 = .ok (.iconst 0, 1) := by decide +kernel
theorem dX8_keep_48 : decode cX8_keep 48 = .ok (.istore_n 3, 1) := by decide +kernel
theorem dX8_keep_49 : decode cX8_keep 49 = .ok (.iload_n 3, 1) := by decide +kernel
theorem dX8_keep_50 : decode cX8_keep 50 = .ok (.iconst 5, 1) := by decide +kernel
theorem dX8_keep_51 : decode cX8_keep 51 = .ok (.if_icmp .ge 43, 3) := by decide +kernel
theorem dX8_keep_54 : decode cX8_keep 54 = .ok (.aload_n 0, 1) := by decide +kernel
theorem dX8_keep_55 : decode cX8_keep 55 = .ok (.getfield 102, 3) := by decide +kernel
theorem dX8_keep_58 : decode cX8_keep 58 = .ok (.iload_n 2, 1) := by decide +kernel
theorem dX8_keep_59 : decode cX8_keep 59 = .ok (.bipush 8, 2) := by decide +kernel
theorem dX8_keep_61 : decode cX8_keep 61 = .ok (.iadd, 1) := by decide +kernel
theorem dX8_keep_62 : decode cX8_keep 62 = .ok (.iload_n 3, 1) := by decide +kernel
theorem dX8_keep_63 : decode cX8_keep 63 = .ok (.iadd, 1) := by decide +kernel
theorem dX8_keep_64 : decode cX8_keep 64 = .ok (.aload_n 0, 1) := by decide +kernel
theorem dX8_keep_65 : decode cX8_keep 65 = .ok (.getfield 44, 3) := by decide +kernel
theorem dX8_keep_68 : decode cX8_keep 68 = .ok (.iload_n 3, 1) := by decide +kernel
theorem dX8_keep_69 : decode cX8_keep 69 = .ok (.iaload, 1) := by decide +kernel
theorem dX8_keep_70 : decode cX8_keep 70 = .ok (.iastore, 1) := by decide +kernel
theorem dX8_keep_71 : decode cX8_keep 71 = .ok (.aload_n 0, 1) := by decide +kernel
theorem dX8_keep_72 : decode cX8_keep 72 = .ok (.getfield 102, 3) := by decide +kernel
theorem dX8_keep_75 : decode cX8_keep 75 = .ok (.iload_n 2, 1) := by decide +kernel
theorem dX8_keep_76 : decode cX8_keep 76 = .ok (.bipush 13, 2) := by decide +kernel
theorem dX8_keep_78 : decode cX8_keep 78 = .ok (.iadd, 1) := by decide +kernel
theorem dX8_keep_79 : decode cX8_keep 79 = .ok (.iload_n 3, 1) := by decide +kernel
theorem dX8_keep_80 : decode cX8_keep 80 = .ok (.iadd, 1) := by decide +kernel
theorem dX8_keep_81 : decode cX8_keep 81 = .ok (.aload_n 0, 1) := by decide +kernel
theorem dX8_keep_82 : decode cX8_keep 82 = .ok (.getfield 47, 3) := by decide +kernel
theorem dX8_keep_85 : decode cX8_keep 85 = .ok (.iload_n 3, 1) := by decide +kernel
theorem dX8_keep_86 : decode cX8_keep 86 = .ok (.iaload, 1) := by decide +kernel
theorem dX8_keep_87 : decode cX8_keep 87 = .ok (.iastore, 1) := by decide +kernel
theorem dX8_keep_88 : decode cX8_keep 88 = .ok (.iinc 3 1, 3) := by decide +kernel
theorem dX8_keep_91 : decode cX8_keep 91 = .ok (.goto (-42), 3) := by decide +kernel
theorem dX8_keep_94 : decode cX8_keep 94 = .ok (.aload_n 0, 1) := by decide +kernel
theorem dX8_keep_95 : decode cX8_keep 95 = .ok (.getfield 102, 3) := by decide +kernel
theorem dX8_keep_98 : decode cX8_keep 98 = .ok (.iload_n 2, 1) := by decide +kernel
theorem dX8_keep_99 : decode cX8_keep 99 = .ok (.bipush 18, 2) := by decide +kernel
theorem dX8_keep_101 : decode cX8_keep 101 = .ok (.iadd, 1) := by decide +kernel
theorem dX8_keep_102 : decode cX8_keep 102 = .ok (.aload_n 0, 1) := by decide +kernel
theorem dX8_keep_103 : decode cX8_keep 103 = .ok (.getfield 34, 3) := by decide +kernel
theorem dX8_keep_106 : decode cX8_keep 106 = .ok (.iastore, 1) := by decide +kernel
theorem dX8_keep_107 : decode cX8_keep 107 = .ok (.aload_n 0, 1) := by decide +kernel
theorem dX8_keep_108 : decode cX8_keep 108 = .ok (.getfield 102, 3) := by decide +kernel
theorem dX8_keep_111 : decode cX8_keep 111 = .ok (.iload_n 2, 1) := by decide +kernel
theorem dX8_keep_112 : decode cX8_keep 112 = .ok (.bipush 19, 2) := by decide +kernel
theorem dX8_keep_114 : decode cX8_keep 114 = .ok (.iadd, 1) := by decide +kernel
theorem dX8_keep_115 : decode cX8_keep 115 = .ok (.aload_n 0, 1) := by decide +kernel
theorem dX8_keep_116 : decode cX8_keep 116 = .ok (.getfield 38, 3) := by decide +kernel
theorem dX8_keep_119 : decode cX8_keep 119 = .ok (.iastore, 1) := by decide +kernel
theorem dX8_keep_120 : decode cX8_keep 120 = .ok (.aload_n 0, 1) := by decide +kernel
theorem dX8_keep_121 : decode cX8_keep 121 = .ok (.getfield 102, 3) := by decide +kernel
theorem dX8_keep_124 : decode cX8_keep 124 = .ok (.iload_n 2, 1) := by decide +kernel
theorem dX8_keep_125 : decode cX8_keep 125 = .ok (.bipush 20, 2) := by decide +kernel
theorem dX8_keep_127 : decode cX8_keep 127 = .ok (.iadd, 1) := by decide +kernel
theorem dX8_keep_128 : decode cX8_keep 128 = .ok (.aload_n 0, 1) := by decide +kernel
theorem dX8_keep_129 : decode cX8_keep 129 = .ok (.getfield 41, 3) := by decide +kernel
theorem dX8_keep_132 : decode cX8_keep 132 = .ok (.iastore, 1) := by decide +kernel
theorem dX8_keep_133 : decode cX8_keep 133 = .ok (.aload_n 0, 1) := by decide +kernel
theorem dX8_keep_134 : decode cX8_keep 134 = .ok (.getfield 102, 3) := by decide +kernel
theorem dX8_keep_137 : decode cX8_keep 137 = .ok (.iload_n 2, 1) := by decide +kernel
theorem dX8_keep_138 : decode cX8_keep 138 = .ok (.bipush 21, 2) := by decide +kernel
theorem dX8_keep_140 : decode cX8_keep 140 = .ok (.iadd, 1) := by decide +kernel
theorem dX8_keep_141 : decode cX8_keep 141 = .ok (.aload_n 0, 1) := by decide +kernel
theorem dX8_keep_142 : decode cX8_keep 142 = .ok (.getfield 119, 3) := by decide +kernel
theorem dX8_keep_145 : decode cX8_keep 145 = .ok (.iastore, 1) := by decide +kernel
theorem dX8_keep_146 : decode cX8_keep 146 = .ok (.aload_n 0, 1) := by decide +kernel
theorem dX8_keep_147 : decode cX8_keep 147 = .ok (.getfield 102, 3) := by decide +kernel
theorem dX8_keep_150 : decode cX8_keep 150 = .ok (.iload_n 2, 1) := by decide +kernel
theorem dX8_keep_151 : decode cX8_keep 151 = .ok (.bipush 22, 2) := by decide +kernel
theorem dX8_keep_153 : decode cX8_keep 153 = .ok (.iadd, 1) := by decide +kernel
theorem dX8_keep_154 : decode cX8_keep 154 = .ok (.aload_n 0, 1) := by decide +kernel
theorem dX8_keep_155 : decode cX8_keep 155 = .ok (.getfield 122, 3) := by decide +kernel
theorem dX8_keep_158 : decode cX8_keep 158 = .ok (.iastore, 1) := by decide +kernel
theorem dX8_keep_159 : decode cX8_keep 159 = .ok (.aload_n 0, 1) := by decide +kernel
theorem dX8_keep_160 : decode cX8_keep 160 = .ok (.getfield 102, 3) := by decide +kernel
theorem dX8_keep_163 : decode cX8_keep 163 = .ok (.iload_n 2, 1) := by decide +kernel
theorem dX8_keep_164 : decode cX8_keep 164 = .ok (.bipush 23, 2) := by decide +kernel
theorem dX8_keep_166 : decode cX8_keep 166 = .ok (.iadd, 1) := by decide +kernel
theorem dX8_keep_167 : decode cX8_keep 167 = .ok (.aload_n 0, 1) := by decide +kernel
theorem dX8_keep_168 : decode cX8_keep 168 = .ok (.getfield 125, 3) := by decide +kernel
theorem dX8_keep_171 : decode cX8_keep 171 = .ok (.iastore, 1) := by decide +kernel
theorem dX8_keep_172 : decode cX8_keep 172 = .ok (.aload_n 0, 1) := by decide +kernel
theorem dX8_keep_173 : decode cX8_keep 173 = .ok (.getfield 102, 3) := by decide +kernel
theorem dX8_keep_176 : decode cX8_keep 176 = .ok (.iload_n 2, 1) := by decide +kernel
theorem dX8_keep_177 : decode cX8_keep 177 = .ok (.bipush 24, 2) := by decide +kernel
theorem dX8_keep_179 : decode cX8_keep 179 = .ok (.iadd, 1) := by decide +kernel
theorem dX8_keep_180 : decode cX8_keep 180 = .ok (.aload_n 0, 1) := by decide +kernel
theorem dX8_keep_181 : decode cX8_keep 181 = .ok (.getfield 128, 3) := by decide +kernel
theorem dX8_keep_184 : decode cX8_keep 184 = .ok (.iastore, 1) := by decide +kernel
theorem dX8_keep_185 : decode cX8_keep 185 = .ok (.aload_n 0, 1) := by decide +kernel
theorem dX8_keep_186 : decode cX8_keep 186 = .ok (.getfield 102, 3) := by decide +kernel
theorem dX8_keep_189 : decode cX8_keep 189 = .ok (.iload_n 2, 1) := by decide +kernel
theorem dX8_keep_190 : decode cX8_keep 190 = .ok (.bipush 25, 2) := by decide +kernel
theorem dX8_keep_192 : decode cX8_keep 192 = .ok (.iadd, 1) := by decide +kernel
theorem dX8_keep_193 : decode cX8_keep 193 = .ok (.aload_n 0, 1) := by decide +kernel
theorem dX8_keep_194 : decode cX8_keep 194 = .ok (.getfield 253, 3) := by decide +kernel
theorem dX8_keep_197 : decode cX8_keep 197 = .ok (.iastore, 1) := by decide +kernel
theorem dX8_keep_198 : decode cX8_keep 198 = .ok (.iconst 0, 1) := by decide +kernel
theorem dX8_keep_199 : decode cX8_keep 199 = .ok (.istore_n 3, 1) := by decide +kernel
theorem dX8_keep_200 : decode cX8_keep 200 = .ok (.iload_n 3, 1) := by decide +kernel
theorem dX8_keep_201 : decode cX8_keep 201 = .ok (.sipush 200, 3) := by decide +kernel
theorem dX8_keep_204 : decode cX8_keep 204 = .ok (.if_icmp .ge 44, 3) := by decide +kernel
theorem dX8_keep_207 : decode cX8_keep 207 = .ok (.aload_n 0, 1) := by decide +kernel
theorem dX8_keep_208 : decode cX8_keep 208 = .ok (.getfield 102, 3) := by decide +kernel
theorem dX8_keep_211 : decode cX8_keep 211 = .ok (.iload_n 2, 1) := by decide +kernel
theorem dX8_keep_212 : decode cX8_keep 212 = .ok (.bipush 30, 2) := by decide +kernel
theorem dX8_keep_214 : decode cX8_keep 214 = .ok (.iadd, 1) := by decide +kernel
theorem dX8_keep_215 : decode cX8_keep 215 = .ok (.iload_n 3, 1) := by decide +kernel
theorem dX8_keep_216 : decode cX8_keep 216 = .ok (.iadd, 1) := by decide +kernel
theorem dX8_keep_217 : decode cX8_keep 217 = .ok (.aload_n 0, 1) := by decide +kernel
theorem dX8_keep_218 : decode cX8_keep 218 = .ok (.getfield 50, 3) := by decide +kernel
theorem dX8_keep_221 : decode cX8_keep 221 = .ok (.iload_n 3, 1) := by decide +kernel
theorem dX8_keep_222 : decode cX8_keep 222 = .ok (.iaload, 1) := by decide +kernel
theorem dX8_keep_223 : decode cX8_keep 223 = .ok (.iastore, 1) := by decide +kernel
theorem dX8_keep_224 : decode cX8_keep 224 = .ok (.aload_n 0, 1) := by decide +kernel
theorem dX8_keep_225 : decode cX8_keep 225 = .ok (.getfield 102, 3) := by decide +kernel
theorem dX8_keep_228 : decode cX8_keep 228 = .ok (.iload_n 2, 1) := by decide +kernel
theorem dX8_keep_229 : decode cX8_keep 229 = .ok (.sipush 230, 3) := by decide +kernel
theorem dX8_keep_232 : decode cX8_keep 232 = .ok (.iadd, 1) := by decide +kernel
theorem dX8_keep_233 : decode cX8_keep 233 = .ok (.iload_n 3, 1) := by decide +kernel
theorem dX8_keep_234 : decode cX8_keep 234 = .ok (.iadd, 1) := by decide +kernel
theorem dX8_keep_235 : decode cX8_keep 235 = .ok (.aload_n 0, 1) := by decide +kernel
theorem dX8_keep_236 : decode cX8_keep 236 = .ok (.getfield 53, 3) := by decide +kernel
theorem dX8_keep_239 : decode cX8_keep 239 = .ok (.iload_n 3, 1) := by decide +kernel
theorem dX8_keep_240 : decode cX8_keep 240 = .ok (.iaload, 1) := by decide +kernel
theorem dX8_keep_241 : decode cX8_keep 241 = .ok (.iastore, 1) := by decide +kernel
theorem dX8_keep_242 : decode cX8_keep 242 = .ok (.iinc 3 1, 3) := by decide +kernel
theorem dX8_keep_245 : decode cX8_keep 245 = .ok (.goto (-45), 3) := by decide +kernel
theorem dX8_keep_248 : decode cX8_keep 248 = .ok (.aload_n 0, 1) := by decide +kernel
theorem dX8_keep_249 : decode cX8_keep 249 = .ok (.getfield 105, 3) := by decide +kernel
theorem dX8_keep_252 : decode cX8_keep 252 = .ok (.iload_n 1, 1) := by decide +kernel
theorem dX8_keep_253 : decode cX8_keep 253 = .ok (.iconst 1, 1) := by decide +kernel
theorem dX8_keep_254 : decode cX8_keep 254 = .ok (.bastore, 1) := by decide +kernel
theorem dX8_keep_255 : decode cX8_keep 255 = .ok (.iconst 1, 1) := by decide +kernel
theorem dX8_keep_256 : decode cX8_keep 256 = .ok (.ireturn, 1) := by decide +kernel
theorem dX8_goBack_0 : decode cX8_goBack 0 = .ok (.iload_n 1, 1) := by decide +kernel
theorem dX8_goBack_1 : decode cX8_goBack 1 = .ok (.i2l, 1) := by decide +kernel
theorem dX8_goBack_2 : decode cX8_goBack 2 = .ok (.lconst 0, 1) := by decide +kernel
theorem dX8_goBack_3 : decode cX8_goBack 3 = .ok (.lconst 1, 1) := by decide +kernel
theorem dX8_goBack_4 : decode cX8_goBack 4 = .ok (.invokestatic 112, 3) := by decide +kernel
theorem dX8_goBack_7 : decode cX8_goBack 7 = .ok (.ifCond .ne 6, 3) := by decide +kernel
theorem dX8_goBack_10 : decode cX8_goBack 10 = .ok (.ldc 223, 2) := by decide +kernel
theorem dX8_goBack_12 : decode cX8_goBack 12 = .ok (.ireturn, 1) := by decide +kernel
theorem dX8_goBack_13 : decode cX8_goBack 13 = .ok (.aload_n 0, 1) := by decide +kernel
theorem dX8_goBack_14 : decode cX8_goBack 14 = .ok (.getfield 105, 3) := by decide +kernel
theorem dX8_goBack_17 : decode cX8_goBack 17 = .ok (.iload_n 1, 1) := by decide +kernel
theorem dX8_goBack_18 : decode cX8_goBack 18 = .ok (.baload, 1) := by decide +kernel
theorem dX8_goBack_19 : decode cX8_goBack 19 = .ok (.ifCond .ne 7, 3) := by decide +kernel
theorem dX8_goBack_22 : decode cX8_goBack 22 = .ok (.ldc_w 268, 3) := by decide +kernel
theorem dX8_goBack_25 : decode cX8_goBack 25 = .ok (.ireturn, 1) := by decide +kernel
theorem dX8_goBack_26 : decode cX8_goBack 26 = .ok (.sipush 430, 3) := by decide +kernel
theorem dX8_goBack_29 : decode cX8_goBack 29 = .ok (.iload_n 1, 1) := by decide +kernel
theorem dX8_goBack_30 : decode cX8_goBack 30 = .ok (.imul, 1) := by decide +kernel
theorem dX8_goBack_31 : decode cX8_goBack 31 = .ok (.istore_n 2, 1) := by decide +kernel
theorem dX8_goBack_32 : decode cX8_goBack 32 = .ok (.iconst 0, 1) := by decide +kernel
theorem dX8_goBack_33 : decode cX8_goBack 33 = .ok (.istore_n 3, 1) := by decide +kernel
theorem dX8_goBack_34 : decode cX8_goBack 34 = .ok (.iload_n 3, 1) := by decide +kernel
theorem dX8_goBack_35 : decode cX8_goBack 35 = .ok (.bipush 8, 2) := by decide +kernel
theorem dX8_goBack_37 : decode cX8_goBack 37 = .ok (.if_icmp .ge 23, 3) := by decide +kernel
theorem dX8_goBack_40 : decode cX8_goBack 40 = .ok (.aload_n 0, 1) := by decide +kernel
theorem dX8_goBack_41 : decode cX8_goBack 41 = .ok (.getfield 31, 3) := by decide +kernel
theorem dX8_goBack_44 : decode cX8_goBack 44 = .ok (.iload_n 3, 1) := by decide +kernel
theorem dX8_goBack_45 : decode cX8_goBack 45 = .ok (.aload_n 0, 1) := by decide +kernel
theorem dX8_goBack_46 : decode cX8_goBack 46 = .ok (.getfield 102, 3) := by decide +kernel
theorem dX8_goBack_49 : decode cX8_goBack 49 = .ok (.iload_n 2, 1) := by decide +kernel
theorem dX8_goBack_50 : decode cX8_goBack 50 = .ok (.iload_n 3, 1) := by decide +kernel
theorem dX8_goBack_51 : decode cX8_goBack 51 = .ok (.iadd, 1) := by decide +kernel
theorem dX8_goBack_52 : decode cX8_goBack 52 = .ok (.iaload, 1) := by decide +kernel
theorem dX8_goBack_53 : decode cX8_goBack 53 = .ok (.iastore, 1) := by decide +kernel
theorem dX8_goBack_54 : decode cX8_goBack 54 = .ok (.iinc 3 1, 3) := by decide +kernel
theorem dX8_goBack_57 : decode cX8_goBack 57 = .ok (.goto (-23), 3) := by decide +kernel
theorem dX8_goBack_60 : decode cX8_goBack 60 = .ok (.iconst 0, 1) := by decide +kernel
theorem dX8_goBack_61 : decode cX8_goBack 61 = .ok (.istore_n 3, 1) := by decide +kernel
theorem dX8_goBack_62 : decode cX8_goBack 62 = .ok (.iload_n 3, 1) := by decide +kernel
theorem dX8_goBack_63 : decode cX8_goBack 63 = .ok (.iconst 5, 1) := by decide +kernel
theorem dX8_goBack_64 : decode cX8_goBack 64 = .ok (.if_icmp .ge 43, 3) := by decide +kernel
theorem dX8_goBack_67 : decode cX8_goBack 67 = .ok (.aload_n 0, 1) := by decide +kernel
theorem dX8_goBack_68 : decode cX8_goBack 68 = .ok (.getfield 44, 3) := by decide +kernel
theorem dX8_goBack_71 : decode cX8_goBack 71 = .ok (.iload_n 3, 1) := by decide +kernel
theorem dX8_goBack_72 : decode cX8_goBack 72 = .ok (.aload_n 0, 1) := by decide +kernel
theorem dX8_goBack_73 : decode cX8_goBack 73 = .ok (.getfield 102, 3) := by decide +kernel
theorem dX8_goBack_76 : decode cX8_goBack 76 = .ok (.iload_n 2, 1) := by decide +kernel
theorem dX8_goBack_77 : decode cX8_goBack 77 = .ok (.bipush 8, 2) := by decide +kernel
theorem dX8_goBack_79 : decode cX8_goBack 79 = .ok (.iadd, 1) := by decide +kernel
theorem dX8_goBack_80 : decode cX8_goBack 80 = .ok (.iload_n 3, 1) := by decide +kernel
theorem dX8_goBack_81 : decode cX8_goBack 81 = .ok (.iadd, 1) := by decide +kernel
theorem dX8_goBack_82 : decode cX8_goBack 82 = .ok (.iaload, 1) := by decide +kernel
theorem dX8_goBack_83 : decode cX8_goBack 83 = .ok (.iastore, 1) := by decide +kernel
theorem dX8_goBack_84 : decode cX8_goBack 84 = .ok (.aload_n 0, 1) := by decide +kernel
theorem dX8_goBack_85 : decode cX8_goBack 85 = .ok (.getfield 47, 3) := by decide +kernel
theorem dX8_goBack_88 : decode cX8_goBack 88 = .ok (.iload_n 3, 1) := by decide +kernel
theorem dX8_goBack_89 : decode cX8_goBack 89 = .ok (.aload_n 0, 1) := by decide +kernel
theorem dX8_goBack_90 : decode cX8_goBack 90 = .ok (.getfield 102, 3) := by decide +kernel
theorem dX8_goBack_93 : decode cX8_goBack 93 = .ok (.iload_n 2, 1) := by decide +kernel
theorem dX8_goBack_94 : decode cX8_goBack 94 = .ok (.bipush 13, 2) := by decide +kernel
theorem dX8_goBack_96 : decode cX8_goBack 96 = .ok (.iadd, 1) := by decide +kernel
theorem dX8_goBack_97 : decode cX8_goBack 97 = .ok (.iload_n 3, 1) := by decide +kernel
theorem dX8_goBack_98 : decode cX8_goBack 98 = .ok (.iadd, 1) := by decide +kernel
theorem dX8_goBack_99 : decode cX8_goBack 99 = .ok (.iaload, 1) := by decide +kernel
theorem dX8_goBack_100 : decode cX8_goBack 100 = .ok (.iastore, 1) := by decide +kernel
theorem dX8_goBack_101 : decode cX8_goBack 101 = .ok (.iinc 3 1, 3) := by decide +kernel
theorem dX8_goBack_104 : decode cX8_goBack 104 = .ok (.goto (-42), 3) := by decide +kernel
theorem dX8_goBack_107 : decode cX8_goBack 107 = .ok (.aload_n 0, 1) := by decide +kernel
theorem dX8_goBack_108 : decode cX8_goBack 108 = .ok (.aload_n 0, 1) := by decide +kernel
theorem dX8_goBack_109 : decode cX8_goBack 109 = .ok (.getfield 102, 3) := by decide +kernel
theorem dX8_goBack_112 : decode cX8_goBack 112 = .ok (.iload_n 2, 1) := by decide +kernel
theorem dX8_goBack_113 : decode cX8_goBack 113 = .ok (.bipush 18, 2) := by decide +kernel
theorem dX8_goBack_115 : decode cX8_goBack 115 = .ok (.iadd, 1) := by decide +kernel
theorem dX8_goBack_116 : decode cX8_goBack 116 = .ok (.iaload, 1) := by decide +kernel
theorem dX8_goBack_117 : decode cX8_goBack 117 = .ok (.putfield 34, 3) := by decide +kernel
theorem dX8_goBack_120 : decode cX8_goBack 120 = .ok (.aload_n 0, 1) := by decide +kernel
theorem dX8_goBack_121 : decode cX8_goBack 121 = .ok (.aload_n 0, 1) := by decide +kernel
theorem dX8_goBack_122 : decode cX8_goBack 122 = .ok (.getfield 102, 3) := by decide +kernel
theorem dX8_goBack_125 : decode cX8_goBack 125 = .ok (.iload_n 2, 1) := by decide +kernel
theorem dX8_goBack_126 : decode cX8_goBack 126 = .ok (.bipush 19, 2) := by decide +kernel
theorem dX8_goBack_128 : decode cX8_goBack 128 = .ok (.iadd, 1) := by decide +kernel
theorem dX8_goBack_129 : decode cX8_goBack 129 = .ok (.iaload, 1) := by decide +kernel
theorem dX8_goBack_130 : decode cX8_goBack 130 = .ok (.putfield 38, 3) := by decide +kernel
theorem dX8_goBack_133 : decode cX8_goBack 133 = .ok (.aload_n 0, 1) := by decide +kernel
theorem dX8_goBack_134 : decode cX8_goBack 134 = .ok (.aload_n 0, 1) := by decide +kernel
theorem dX8_goBack_135 : decode cX8_goBack 135 = .ok (.getfield 102, 3) := by decide +kernel
theorem dX8_goBack_138 : decode cX8_goBack 138 = .ok (.iload_n 2, 1) := by decide +kernel
theorem dX8_goBack_139 : decode cX8_goBack 139 = .ok (.bipush 20, 2) := by decide +kernel
theorem dX8_goBack_141 : decode cX8_goBack 141 = .ok (.iadd, 1) := by decide +kernel
theorem dX8_goBack_142 : decode cX8_goBack 142 = .ok (.iaload, 1) := by decide +kernel
theorem dX8_goBack_143 : decode cX8_goBack 143 = .ok (.putfield 41, 3) := by decide +kernel
theorem dX8_goBack_146 : decode cX8_goBack 146 = .ok (.aload_n 0, 1) := by decide +kernel
theorem dX8_goBack_147 : decode cX8_goBack 147 = .ok (.aload_n 0, 1) := by decide +kernel
theorem dX8_goBack_148 : decode cX8_goBack 148 = .ok (.getfield 102, 3) := by decide +kernel
theorem dX8_goBack_151 : decode cX8_goBack 151 = .ok (.iload_n 2, 1) := by decide +kernel
theorem dX8_goBack_152 : decode cX8_goBack 152 = .ok (.bipush 21, 2) := by decide +kernel
theorem dX8_goBack_154 : decode cX8_goBack 154 = .ok (.iadd, 1) := by decide +kernel
theorem dX8_goBack_155 : decode cX8_goBack 155 = .ok (.iaload, 1) := by decide +kernel
theorem dX8_goBack_156 : decode cX8_goBack 156 = .ok (.putfield 119, 3) := by decide +kernel
theorem dX8_goBack_159 : decode cX8_goBack 159 = .ok (.aload_n 0, 1) := by decide +kernel
theorem dX8_goBack_160 : decode cX8_goBack 160 = .ok (.aload_n 0, 1) := by decide +kernel
theorem dX8_goBack_161 : decode cX8_goBack 161 = .ok (.getfield 102, 3) := by decide +kernel
theorem dX8_goBack_164 : decode cX8_goBack 164 = .ok (.iload_n 2, 1) := by decide +kernel
theorem dX8_goBack_165 : decode cX8_goBack 165 = .ok (.bipush 22, 2) := by decide +kernel
theorem dX8_goBack_167 : decode cX8_goBack 167 = .ok (.iadd, 1) := by decide +kernel
theorem dX8_goBack_168 : decode cX8_goBack 168 = .ok (.iaload, 1) := by decide +kernel
theorem dX8_goBack_169 : decode cX8_goBack 169 = .ok (.putfield 122, 3) := by decide +kernel
theorem dX8_goBack_172 : decode cX8_goBack 172 = .ok (.aload_n 0, 1) := by decide +kernel
theorem dX8_goBack_173 : decode cX8_goBack 173 = .ok (.aload_n 0, 1) := by decide +kernel
theorem dX8_goBack_174 : decode cX8_goBack 174 = .ok (.getfield 102, 3) := by decide +kernel
theorem dX8_goBack_177 : decode cX8_goBack 177 = .ok (.iload_n 2, 1) := by decide +kernel
theorem dX8_goBack_178 : decode cX8_goBack 178 = .ok (.bipush 23, 2) := by decide +kernel
theorem dX8_goBack_180 : decode cX8_goBack 180 = .ok (.iadd, 1) := by decide +kernel
theorem dX8_goBack_181 : decode cX8_goBack 181 = .ok (.iaload, 1) := by decide +kernel
theorem dX8_goBack_182 : decode cX8_goBack 182 = .ok (.putfield 125, 3) := by decide +kernel
theorem dX8_goBack_185 : decode cX8_goBack 185 = .ok (.aload_n 0, 1) := by decide +kernel
theorem dX8_goBack_186 : decode cX8_goBack 186 = .ok (.aload_n 0, 1) := by decide +kernel
theorem dX8_goBack_187 : decode cX8_goBack 187 = .ok (.getfield 102, 3) := by decide +kernel
theorem dX8_goBack_190 : decode cX8_goBack 190 = .ok (.iload_n 2, 1) := by decide +kernel
theorem dX8_goBack_191 : decode cX8_goBack 191 = .ok (.bipush 24, 2) := by decide +kernel
theorem dX8_goBack_193 : decode cX8_goBack 193 = .ok (.iadd, 1) := by decide +kernel
theorem dX8_goBack_194 : decode cX8_goBack 194 = .ok (.iaload, 1) := by decide +kernel
theorem dX8_goBack_195 : decode cX8_goBack 195 = .ok (.putfield 128, 3) := by decide +kernel
theorem dX8_goBack_198 : decode cX8_goBack 198 = .ok (.aload_n 0, 1) := by decide +kernel
theorem dX8_goBack_199 : decode cX8_goBack 199 = .ok (.aload_n 0, 1) := by decide +kernel
theorem dX8_goBack_200 : decode cX8_goBack 200 = .ok (.getfield 102, 3) := by decide +kernel
theorem dX8_goBack_203 : decode cX8_goBack 203 = .ok (.iload_n 2, 1) := by decide +kernel
theorem dX8_goBack_204 : decode cX8_goBack 204 = .ok (.bipush 25, 2) := by decide +kernel
theorem dX8_goBack_206 : decode cX8_goBack 206 = .ok (.iadd, 1) := by decide +kernel
theorem dX8_goBack_207 : decode cX8_goBack 207 = .ok (.iaload, 1) := by decide +kernel
theorem dX8_goBack_208 : decode cX8_goBack 208 = .ok (.putfield 253, 3) := by decide +kernel
theorem dX8_goBack_211 : decode cX8_goBack 211 = .ok (.iconst 0, 1) := by decide +kernel
theorem dX8_goBack_212 : decode cX8_goBack 212 = .ok (.istore_n 3, 1) := by decide +kernel
theorem dX8_goBack_213 : decode cX8_goBack 213 = .ok (.iload_n 3, 1) := by decide +kernel
theorem dX8_goBack_214 : decode cX8_goBack 214 = .ok (.sipush 200, 3) := by decide +kernel
theorem dX8_goBack_217 : decode cX8_goBack 217 = .ok (.if_icmp .ge 44, 3) := by decide +kernel
theorem dX8_goBack_220 : decode cX8_goBack 220 = .ok (.aload_n 0, 1) := by decide +kernel
theorem dX8_goBack_221 : decode cX8_goBack 221 = .ok (.getfield 50, 3) := by decide +kernel
theorem dX8_goBack_224 : decode cX8_goBack 224 = .ok (.iload_n 3, 1) := by decide +kernel
theorem dX8_goBack_225 : decode cX8_goBack 225 = .ok (.aload_n 0, 1) := by decide +kernel
theorem dX8_goBack_226 : decode cX8_goBack 226 = .ok (.getfield 102, 3) := by decide +kernel
theorem dX8_goBack_229 : decode cX8_goBack 229 = .ok (.iload_n 2, 1) := by decide +kernel
theorem dX8_goBack_230 : decode cX8_goBack 230 = .ok (.bipush 30, 2) := by decide +kernel
theorem dX8_goBack_232 : decode cX8_goBack 232 = .ok (.iadd, 1) := by decide +kernel
theorem dX8_goBack_233 : decode cX8_goBack 233 = .ok (.iload_n 3, 1) := by decide +kernel
theorem dX8_goBack_234 : decode cX8_goBack 234 = .ok (.iadd, 1) := by decide +kernel
theorem dX8_goBack_235 : decode cX8_goBack 235 = .ok (.iaload, 1) := by decide +kernel
theorem dX8_goBack_236 : decode cX8_goBack 236 = .ok (.iastore, 1) := by decide +kernel
theorem dX8_goBack_237 : decode cX8_goBack 237 = .ok (.aload_n 0, 1) := by decide +kernel
theorem dX8_goBack_238 : decode cX8_goBack 238 = .ok (.getfield 53, 3) := by decide +kernel
theorem dX8_goBack_241 : decode cX8_goBack 241 = .ok (.iload_n 3, 1) := by decide +kernel
theorem dX8_goBack_242 : decode cX8_goBack 242 = .ok (.aload_n 0, 1) := by decide +kernel
theorem dX8_goBack_243 : decode cX8_goBack 243 = .ok (.getfield 102, 3) := by decide +kernel
theorem dX8_goBack_246 : decode cX8_goBack 246 = .ok (.iload_n 2, 1) := by decide +kernel
theorem dX8_goBack_247 : decode cX8_goBack 247 = .ok (.sipush 230, 3) := by decide +kernel
theorem dX8_goBack_250 : decode cX8_goBack 250 = .ok (.iadd, 1) := by decide +kernel
theorem dX8_goBack_251 : decode cX8_goBack 251 = .ok (.iload_n 3, 1) := by decide +kernel
theorem dX8_goBack_252 : decode cX8_goBack 252 = .ok (.iadd, 1) := by decide +kernel
theorem dX8_goBack_253 : decode cX8_goBack 253 = .ok (.iaload, 1) := by decide +kernel
theorem dX8_goBack_254 : decode cX8_goBack 254 = .ok (.iastore, 1) := by decide +kernel
theorem dX8_goBack_255 : decode cX8_goBack 255 = .ok (.iinc 3 1, 3) := by decide +kernel
theorem dX8_goBack_258 : decode cX8_goBack 258 = .ok (.goto (-45), 3) := by decide +kernel
theorem dX8_goBack_261 : decode cX8_goBack 261 = .ok (.iconst 1, 1) := by decide +kernel
theorem dX8_goBack_262 : decode cX8_goBack 262 = .ok (.ireturn, 1) := by decide +kernel
theorem dJ0_length_8abf5_0 : decode cJ0_length_8abf5 0 = .ok (.aload_n 0, 1) := by decide +kernel
theorem dJ0_length_8abf5_1 : decode cJ0_length_8abf5 1 = .ok (.getfield 9, 3) := by decide +kernel
theorem dJ0_length_8abf5_4 : decode cJ0_length_8abf5 4 = .ok (.arraylength, 1) := by decide +kernel
theorem dJ0_length_8abf5_5 : decode cJ0_length_8abf5 5 = .ok (.aload_n 0, 1) := by decide +kernel
theorem dJ0_length_8abf5_6 : decode cJ0_length_8abf5 6 = .ok (.invokevirtual 335, 3) := by decide +kernel
theorem dJ0_length_8abf5_9 : decode cJ0_length_8abf5 9 = .ok (.ishr, 1) := by decide +kernel
theorem dJ0_length_8abf5_10 : decode cJ0_length_8abf5 10 = .ok (.ireturn, 1) := by decide +kernel
theorem dJ0_charAt_5068e_0 : decode cJ0_charAt_5068e 0 = .ok (.aload_n 0, 1) := by decide +kernel
theorem dJ0_charAt_5068e_1 : decode cJ0_charAt_5068e 1 = .ok (.invokevirtual 492, 3) := by decide +kernel
theorem dJ0_charAt_5068e_4 : decode cJ0_charAt_5068e 4 = .ok (.ifCond .eq 12, 3) := by decide +kernel
theorem dJ0_charAt_5068e_7 : decode cJ0_charAt_5068e 7 = .ok (.aload_n 0, 1) := by decide +kernel
theorem dJ0_charAt_5068e_8 : decode cJ0_charAt_5068e 8 = .ok (.getfield 9, 3) := by decide +kernel
theorem dJ0_charAt_5068e_11 : decode cJ0_charAt_5068e 11 = .ok (.iload_n 1, 1) := by decide +kernel
theorem dJ0_charAt_5068e_12 : decode cJ0_charAt_5068e 12 = .ok (.invokestatic 495, 3) := by decide +kernel
theorem dJ0_charAt_5068e_15 : decode cJ0_charAt_5068e 15 = .ok (.ireturn, 1) := by decide +kernel
theorem dJ0_charAt_5068e_16 : decode cJ0_charAt_5068e 16 = .ok (.aload_n 0, 1) := by decide +kernel
theorem dJ0_charAt_5068e_17 : decode cJ0_charAt_5068e 17 = .ok (.getfield 9, 3) := by decide +kernel
theorem dJ0_charAt_5068e_20 : decode cJ0_charAt_5068e 20 = .ok (.iload_n 1, 1) := by decide +kernel
theorem dJ0_charAt_5068e_21 : decode cJ0_charAt_5068e 21 = .ok (.invokestatic 498, 3) := by decide +kernel
theorem dJ0_charAt_5068e_24 : decode cJ0_charAt_5068e 24 = .ok (.ireturn, 1) := by decide +kernel
theorem dJ0_coder_7d493_0 : decode cJ0_coder_7d493 0 = .ok (.getstatic 38, 3) := by decide +kernel
theorem dJ0_coder_7d493_3 : decode cJ0_coder_7d493 3 = .ok (.ifCond .eq 10, 3) := by decide +kernel
theorem dJ0_coder_7d493_6 : decode cJ0_coder_7d493 6 = .ok (.aload_n 0, 1) := by decide +kernel
theorem dJ0_coder_7d493_7 : decode cJ0_coder_7d493 7 = .ok (.getfield 15, 3) := by decide +kernel
theorem dJ0_coder_7d493_10 : decode cJ0_coder_7d493 10 = .ok (.goto 4, 3) := by decide +kernel
theorem dJ0_coder_7d493_13 : decode cJ0_coder_7d493 13 = .ok (.iconst 1, 1) := by decide +kernel
theorem dJ0_coder_7d493_14 : decode cJ0_coder_7d493 14 = .ok (.ireturn, 1) := by decide +kernel
theorem dJ0_isLatin1_aae02_0 : decode cJ0_isLatin1_aae02 0 = .ok (.getstatic 38, 3) := by decide +kernel
theorem dJ0_isLatin1_aae02_3 : decode cJ0_isLatin1_aae02 3 = .ok (.ifCond .eq 14, 3) := by decide +kernel
theorem dJ0_isLatin1_aae02_6 : decode cJ0_isLatin1_aae02 6 = .ok (.aload_n 0, 1) := by decide +kernel
theorem dJ0_isLatin1_aae02_7 : decode cJ0_isLatin1_aae02 7 = .ok (.getfield 15, 3) := by decide +kernel
theorem dJ0_isLatin1_aae02_10 : decode cJ0_isLatin1_aae02 10 = .ok (.ifCond .ne 7, 3) := by decide +kernel
theorem dJ0_isLatin1_aae02_13 : decode cJ0_isLatin1_aae02 13 = .ok (.iconst 1, 1) := by decide +kernel
theorem dJ0_isLatin1_aae02_14 : decode cJ0_isLatin1_aae02 14 = .ok (.goto 4, 3) := by decide +kernel
theorem dJ0_isLatin1_aae02_17 : decode cJ0_isLatin1_aae02 17 = .ok (.iconst 0, 1) := by decide +kernel
theorem dJ0_isLatin1_aae02_18 : decode cJ0_isLatin1_aae02 18 = .ok (.ireturn, 1) := by decide +kernel
theorem dJ1_charAt_3b067_0 : decode cJ1_charAt_3b067 0 = .ok (.iload_n 1, 1) := by decide +kernel
theorem dJ1_charAt_3b067_1 : decode cJ1_charAt_3b067 1 = .ok (.aload_n 0, 1) := by decide +kernel
theorem dJ1_charAt_3b067_2 : decode cJ1_charAt_3b067 2 = .ok (.arraylength, 1) := by decide +kernel
theorem dJ1_charAt_3b067_3 : decode cJ1_charAt_3b067 3 = .ok (.invokestatic 9, 3) := by decide +kernel
theorem dJ1_charAt_3b067_6 : decode cJ1_charAt_3b067 6 = .ok (.aload_n 0, 1) := by decide +kernel
theorem dJ1_charAt_3b067_7 : decode cJ1_charAt_3b067 7 = .ok (.iload_n 1, 1) := by decide +kernel
theorem dJ1_charAt_3b067_8 : decode cJ1_charAt_3b067 8 = .ok (.baload, 1) := by decide +kernel
theorem dJ1_charAt_3b067_9 : decode cJ1_charAt_3b067 9 = .ok (.sipush 255, 3) := by decide +kernel
theorem dJ1_charAt_3b067_12 : decode cJ1_charAt_3b067 12 = .ok (.iand, 1) := by decide +kernel
theorem dJ1_charAt_3b067_13 : decode cJ1_charAt_3b067 13 = .ok (.i2c, 1) := by decide +kernel
theorem dJ1_charAt_3b067_14 : decode cJ1_charAt_3b067 14 = .ok (.ireturn, 1) := by decide +kernel
theorem dJ7_fill_d0a16_0 : decode cJ7_fill_d0a16 0 = .ok (.iconst 0, 1) := by decide +kernel
theorem dJ7_fill_d0a16_1 : decode cJ7_fill_d0a16 1 = .ok (.istore_n 3, 1) := by decide +kernel
theorem dJ7_fill_d0a16_2 : decode cJ7_fill_d0a16 2 = .ok (.aload_n 0, 1) := by decide +kernel
theorem dJ7_fill_d0a16_3 : decode cJ7_fill_d0a16 3 = .ok (.arraylength, 1) := by decide +kernel
theorem dJ7_fill_d0a16_4 : decode cJ7_fill_d0a16 4 = .ok (.istore 4, 2) := by decide +kernel
theorem dJ7_fill_d0a16_6 : decode cJ7_fill_d0a16 6 = .ok (.iload_n 3, 1) := by decide +kernel
theorem dJ7_fill_d0a16_7 : decode cJ7_fill_d0a16 7 = .ok (.iload 4, 2) := by decide +kernel
theorem dJ7_fill_d0a16_9 : decode cJ7_fill_d0a16 9 = .ok (.if_icmp .ge 13, 3) := by decide +kernel
theorem dJ7_fill_d0a16_12 : decode cJ7_fill_d0a16 12 = .ok (.aload_n 0, 1) := by decide +kernel
theorem dJ7_fill_d0a16_13 : decode cJ7_fill_d0a16 13 = .ok (.iload_n 3, 1) := by decide +kernel
theorem dJ7_fill_d0a16_14 : decode cJ7_fill_d0a16 14 = .ok (.lload_n 1, 1) := by decide +kernel
theorem dJ7_fill_d0a16_15 : decode cJ7_fill_d0a16 15 = .ok (.lastore, 1) := by decide +kernel
theorem dJ7_fill_d0a16_16 : decode cJ7_fill_d0a16 16 = .ok (.iinc 3 1, 3) := by decide +kernel
theorem dJ7_fill_d0a16_19 : decode cJ7_fill_d0a16 19 = .ok (.goto (-13), 3) := by decide +kernel
theorem dJ7_fill_d0a16_22 : decode cJ7_fill_d0a16 22 = .ok (.return_, 1) := by decide +kernel
theorem dJ7_fill_53178_0 : decode cJ7_fill_53178 0 = .ok (.iconst 0, 1) := by decide +kernel
theorem dJ7_fill_53178_1 : decode cJ7_fill_53178 1 = .ok (.istore_n 2, 1) := by decide +kernel
theorem dJ7_fill_53178_2 : decode cJ7_fill_53178 2 = .ok (.aload_n 0, 1) := by decide +kernel
theorem dJ7_fill_53178_3 : decode cJ7_fill_53178 3 = .ok (.arraylength, 1) := by decide +kernel
theorem dJ7_fill_53178_4 : decode cJ7_fill_53178 4 = .ok (.istore_n 3, 1) := by decide +kernel
theorem dJ7_fill_53178_5 : decode cJ7_fill_53178 5 = .ok (.iload_n 2, 1) := by decide +kernel
theorem dJ7_fill_53178_6 : decode cJ7_fill_53178 6 = .ok (.iload_n 3, 1) := by decide +kernel
theorem dJ7_fill_53178_7 : decode cJ7_fill_53178 7 = .ok (.if_icmp .ge 13, 3) := by decide +kernel
theorem dJ7_fill_53178_10 : decode cJ7_fill_53178 10 = .ok (.aload_n 0, 1) := by decide +kernel
theorem dJ7_fill_53178_11 : decode cJ7_fill_53178 11 = .ok (.iload_n 2, 1) := by decide +kernel
theorem dJ7_fill_53178_12 : decode cJ7_fill_53178 12 = .ok (.iload_n 1, 1) := by decide +kernel
theorem dJ7_fill_53178_13 : decode cJ7_fill_53178 13 = .ok (.iastore, 1) := by decide +kernel
theorem dJ7_fill_53178_14 : decode cJ7_fill_53178 14 = .ok (.iinc 2 1, 3) := by decide +kernel
theorem dJ7_fill_53178_17 : decode cJ7_fill_53178 17 = .ok (.goto (-12), 3) := by decide +kernel
theorem dJ7_fill_53178_20 : decode cJ7_fill_53178 20 = .ok (.return_, 1) := by decide +kernel
theorem dL_law_0 : decode cL_law 0 = .ok (.new 7, 3) := by decide +kernel
theorem dL_law_3 : decode cL_law 3 = .ok (.dup, 1) := by decide +kernel
theorem dL_law_4 : decode cL_law 4 = .ok (.invokespecial 9, 3) := by decide +kernel
theorem dL_law_7 : decode cL_law 7 = .ok (.astore_n 1, 1) := by decide +kernel
theorem dL_law_8 : decode cL_law 8 = .ok (.new 10, 3) := by decide +kernel
theorem dL_law_11 : decode cL_law 11 = .ok (.dup, 1) := by decide +kernel
theorem dL_law_12 : decode cL_law 12 = .ok (.invokespecial 12, 3) := by decide +kernel
theorem dL_law_15 : decode cL_law 15 = .ok (.astore_n 2, 1) := by decide +kernel
theorem dL_law_16 : decode cL_law 16 = .ok (.iconst 0, 1) := by decide +kernel
theorem dL_law_17 : decode cL_law 17 = .ok (.istore_n 3, 1) := by decide +kernel
theorem dL_law_18 : decode cL_law 18 = .ok (.iload_n 3, 1) := by decide +kernel
theorem dL_law_19 : decode cL_law 19 = .ok (.aload_n 0, 1) := by decide +kernel
theorem dL_law_20 : decode cL_law 20 = .ok (.arraylength, 1) := by decide +kernel
theorem dL_law_21 : decode cL_law 21 = .ok (.iconst 4, 1) := by decide +kernel
theorem dL_law_22 : decode cL_law 22 = .ok (.isub, 1) := by decide +kernel
theorem dL_law_23 : decode cL_law 23 = .ok (.if_icmp .gt 843, 3) := by decide +kernel
theorem dL_law_26 : decode cL_law 26 = .ok (.aload_n 0, 1) := by decide +kernel
theorem dL_law_27 : decode cL_law 27 = .ok (.iload_n 3, 1) := by decide +kernel
theorem dL_law_28 : decode cL_law 28 = .ok (.iaload, 1) := by decide +kernel
theorem dL_law_29 : decode cL_law 29 = .ok (.bipush 31, 2) := by decide +kernel
theorem dL_law_31 : decode cL_law 31 = .ok (.iand, 1) := by decide +kernel
theorem dL_law_32 : decode cL_law 32 = .ok (.tableswitch 828 0 25 #[120, 183, 196, 209, 232, 265, 298, 331, 374, 387, 410, 433, 466, 489, 512, 545, 568, 601, 634, 667, 700, 713, 726, 759, 782, 805], 120) := by decide +kernel
theorem dL_law_152 : decode cL_law 152 = .ok (.aload_n 1, 1) := by decide +kernel
theorem dL_law_153 : decode cL_law 153 = .ok (.aload_n 0, 1) := by decide +kernel
theorem dL_law_154 : decode cL_law 154 = .ok (.iload_n 3, 1) := by decide +kernel
theorem dL_law_155 : decode cL_law 155 = .ok (.iconst 1, 1) := by decide +kernel
theorem dL_law_156 : decode cL_law 156 = .ok (.iadd, 1) := by decide +kernel
theorem dL_law_157 : decode cL_law 157 = .ok (.iaload, 1) := by decide +kernel
theorem dL_law_158 : decode cL_law 158 = .ok (.aload_n 0, 1) := by decide +kernel
theorem dL_law_159 : decode cL_law 159 = .ok (.iload_n 3, 1) := by decide +kernel
theorem dL_law_160 : decode cL_law 160 = .ok (.iconst 2, 1) := by decide +kernel
theorem dL_law_161 : decode cL_law 161 = .ok (.iadd, 1) := by decide +kernel
theorem dL_law_162 : decode cL_law 162 = .ok (.iaload, 1) := by decide +kernel
theorem dL_law_163 : decode cL_law 163 = .ok (.i2l, 1) := by decide +kernel
theorem dL_law_164 : decode cL_law 164 = .ok (.bipush 32, 2) := by decide +kernel
theorem dL_law_166 : decode cL_law 166 = .ok (.lshl, 1) := by decide +kernel
theorem dL_law_167 : decode cL_law 167 = .ok (.aload_n 0, 1) := by decide +kernel
theorem dL_law_168 : decode cL_law 168 = .ok (.iload_n 3, 1) := by decide +kernel
theorem dL_law_169 : decode cL_law 169 = .ok (.iconst 3, 1) := by decide +kernel
theorem dL_law_170 : decode cL_law 170 = .ok (.iadd, 1) := by decide +kernel
theorem dL_law_171 : decode cL_law 171 = .ok (.iaload, 1) := by decide +kernel
theorem dL_law_172 : decode cL_law 172 = .ok (.i2l, 1) := by decide +kernel
theorem dL_law_173 : decode cL_law 173 = .ok (.ldc2_w 13, 3) := by decide +kernel
theorem dL_law_176 : decode cL_law 176 = .ok (.land, 1) := by decide +kernel
theorem dL_law_177 : decode cL_law 177 = .ok (.lor, 1) := by decide +kernel
theorem dL_law_178 : decode cL_law 178 = .ok (.invokevirtual 15, 3) := by decide +kernel
theorem dL_law_181 : decode cL_law 181 = .ok (.aload_n 2, 1) := by decide +kernel
theorem dL_law_182 : decode cL_law 182 = .ok (.aload_n 0, 1) := by decide +kernel
theorem dL_law_183 : decode cL_law 183 = .ok (.iload_n 3, 1) := by decide +kernel
theorem dL_law_184 : decode cL_law 184 = .ok (.iconst 1, 1) := by decide +kernel
theorem dL_law_185 : decode cL_law 185 = .ok (.iadd, 1) := by decide +kernel
theorem dL_law_186 : decode cL_law 186 = .ok (.iaload, 1) := by decide +kernel
theorem dL_law_187 : decode cL_law 187 = .ok (.aload_n 0, 1) := by decide +kernel
theorem dL_law_188 : decode cL_law 188 = .ok (.iload_n 3, 1) := by decide +kernel
theorem dL_law_189 : decode cL_law 189 = .ok (.iconst 2, 1) := by decide +kernel
theorem dL_law_190 : decode cL_law 190 = .ok (.iadd, 1) := by decide +kernel
theorem dL_law_191 : decode cL_law 191 = .ok (.iaload, 1) := by decide +kernel
theorem dL_law_192 : decode cL_law 192 = .ok (.i2l, 1) := by decide +kernel
theorem dL_law_193 : decode cL_law 193 = .ok (.bipush 32, 2) := by decide +kernel
theorem dL_law_195 : decode cL_law 195 = .ok (.lshl, 1) := by decide +kernel
theorem dL_law_196 : decode cL_law 196 = .ok (.aload_n 0, 1) := by decide +kernel
theorem dL_law_197 : decode cL_law 197 = .ok (.iload_n 3, 1) := by decide +kernel
theorem dL_law_198 : decode cL_law 198 = .ok (.iconst 3, 1) := by decide +kernel
theorem dL_law_199 : decode cL_law 199 = .ok (.iadd, 1) := by decide +kernel
theorem dL_law_200 : decode cL_law 200 = .ok (.iaload, 1) := by decide +kernel
theorem dL_law_201 : decode cL_law 201 = .ok (.i2l, 1) := by decide +kernel
theorem dL_law_202 : decode cL_law 202 = .ok (.ldc2_w 13, 3) := by decide +kernel
theorem dL_law_205 : decode cL_law 205 = .ok (.land, 1) := by decide +kernel
theorem dL_law_206 : decode cL_law 206 = .ok (.lor, 1) := by decide +kernel
theorem dL_law_207 : decode cL_law 207 = .ok (.invokevirtual 19, 3) := by decide +kernel
theorem dL_law_210 : decode cL_law 210 = .ok (.if_icmp .eq 650, 3) := by decide +kernel
theorem dL_law_213 : decode cL_law 213 = .ok (.iconst 0, 1) := by decide +kernel
theorem dL_law_214 : decode cL_law 214 = .ok (.ireturn, 1) := by decide +kernel
theorem dL_law_215 : decode cL_law 215 = .ok (.aload_n 1, 1) := by decide +kernel
theorem dL_law_216 : decode cL_law 216 = .ok (.invokevirtual 20, 3) := by decide +kernel
theorem dL_law_219 : decode cL_law 219 = .ok (.aload_n 2, 1) := by decide +kernel
theorem dL_law_220 : decode cL_law 220 = .ok (.invokevirtual 24, 3) := by decide +kernel
theorem dL_law_223 : decode cL_law 223 = .ok (.if_icmp .eq 637, 3) := by decide +kernel
theorem dL_law_226 : decode cL_law 226 = .ok (.iconst 0, 1) := by decide +kernel
theorem dL_law_227 : decode cL_law 227 = .ok (.ireturn, 1) := by decide +kernel
theorem dL_law_228 : decode cL_law 228 = .ok (.aload_n 1, 1) := by decide +kernel
theorem dL_law_229 : decode cL_law 229 = .ok (.invokevirtual 25, 3) := by decide +kernel
theorem dL_law_232 : decode cL_law 232 = .ok (.aload_n 2, 1) := by decide +kernel
theorem dL_law_233 : decode cL_law 233 = .ok (.invokevirtual 28, 3) := by decide +kernel
theorem dL_law_236 : decode cL_law 236 = .ok (.if_icmp .eq 624, 3) := by decide +kernel
theorem dL_law_239 : decode cL_law 239 = .ok (.iconst 0, 1) := by decide +kernel
theorem dL_law_240 : decode cL_law 240 = .ok (.ireturn, 1) := by decide +kernel
theorem dL_law_241 : decode cL_law 241 = .ok (.aload_n 1, 1) := by decide +kernel
theorem dL_law_242 : decode cL_law 242 = .ok (.aload_n 0, 1) := by decide +kernel
theorem dL_law_243 : decode cL_law 243 = .ok (.iload_n 3, 1) := by decide +kernel
theorem dL_law_244 : decode cL_law 244 = .ok (.iconst 1, 1) := by decide +kernel
theorem dL_law_245 : decode cL_law 245 = .ok (.iadd, 1) := by decide +kernel
theorem dL_law_246 : decode cL_law 246 = .ok (.iaload, 1) := by decide +kernel
theorem dL_law_247 : decode cL_law 247 = .ok (.invokevirtual 29, 3) := by decide +kernel
theorem dL_law_250 : decode cL_law 250 = .ok (.aload_n 2, 1) := by decide +kernel
theorem dL_law_251 : decode cL_law 251 = .ok (.aload_n 0, 1) := by decide +kernel
theorem dL_law_252 : decode cL_law 252 = .ok (.iload_n 3, 1) := by decide +kernel
theorem dL_law_253 : decode cL_law 253 = .ok (.iconst 1, 1) := by decide +kernel
theorem dL_law_254 : decode cL_law 254 = .ok (.iadd, 1) := by decide +kernel
theorem dL_law_255 : decode cL_law 255 = .ok (.iaload, 1) := by decide +kernel
theorem dL_law_256 : decode cL_law 256 = .ok (.invokevirtual 33, 3) := by decide +kernel
theorem dL_law_259 : decode cL_law 259 = .ok (.if_icmp .eq 601, 3) := by decide +kernel
theorem dL_law_262 : decode cL_law 262 = .ok (.iconst 0, 1) := by decide +kernel
theorem dL_law_263 : decode cL_law 263 = .ok (.ireturn, 1) := by decide +kernel
theorem dL_law_264 : decode cL_law 264 = .ok (.aload_n 1, 1) := by decide +kernel
theorem dL_law_265 : decode cL_law 265 = .ok (.aload_n 0, 1) := by decide +kernel
theorem dL_law_266 : decode cL_law 266 = .ok (.iload_n 3, 1) := by decide +kernel
theorem dL_law_267 : decode cL_law 267 = .ok (.iconst 1, 1) := by decide +kernel
theorem dL_law_268 : decode cL_law 268 = .ok (.iadd, 1) := by decide +kernel
theorem dL_law_269 : decode cL_law 269 = .ok (.iaload, 1) := by decide +kernel
theorem dL_law_270 : decode cL_law 270 = .ok (.aload_n 0, 1) := by decide +kernel
theorem dL_law_271 : decode cL_law 271 = .ok (.iload_n 3, 1) := by decide +kernel
theorem dL_law_272 : decode cL_law 272 = .ok (.iconst 2, 1) := by decide +kernel
theorem dL_law_273 : decode cL_law 273 = .ok (.iadd, 1) := by decide +kernel
theorem dL_law_274 : decode cL_law 274 = .ok (.iaload, 1) := by decide +kernel
theorem dL_law_275 : decode cL_law 275 = .ok (.invokevirtual 34, 3) := by decide +kernel
theorem dL_law_278 : decode cL_law 278 = .ok (.aload_n 2, 1) := by decide +kernel
theorem dL_law_279 : decode cL_law 279 = .ok (.aload_n 0, 1) := by decide +kernel
theorem dL_law_280 : decode cL_law 280 = .ok (.iload_n 3, 1) := by decide +kernel
theorem dL_law_281 : decode cL_law 281 = .ok (.iconst 1, 1) := by decide +kernel
theorem dL_law_282 : decode cL_law 282 = .ok (.iadd, 1) := by decide +kernel
theorem dL_law_283 : decode cL_law 283 = .ok (.iaload, 1) := by decide +kernel
theorem dL_law_284 : decode cL_law 284 = .ok (.aload_n 0, 1) := by decide +kernel
theorem dL_law_285 : decode cL_law 285 = .ok (.iload_n 3, 1) := by decide +kernel
theorem dL_law_286 : decode cL_law 286 = .ok (.iconst 2, 1) := by decide +kernel
theorem dL_law_287 : decode cL_law 287 = .ok (.iadd, 1) := by decide +kernel
theorem dL_law_288 : decode cL_law 288 = .ok (.iaload, 1) := by decide +kernel
theorem dL_law_289 : decode cL_law 289 = .ok (.invokevirtual 38, 3) := by decide +kernel
theorem dL_law_292 : decode cL_law 292 = .ok (.if_icmp .eq 568, 3) := by decide +kernel
theorem dL_law_295 : decode cL_law 295 = .ok (.iconst 0, 1) := by decide +kernel
theorem dL_law_296 : decode cL_law 296 = .ok (.ireturn, 1) := by decide +kernel
theorem dL_law_297 : decode cL_law 297 = .ok (.aload_n 1, 1) := by decide +kernel
theorem dL_law_298 : decode cL_law 298 = .ok (.aload_n 0, 1) := by decide +kernel
theorem dL_law_299 : decode cL_law 299 = .ok (.iload_n 3, 1) := by decide +kernel
theorem dL_law_300 : decode cL_law 300 = .ok (.iconst 1, 1) := by decide +kernel
theorem dL_law_301 : decode cL_law 301 = .ok (.iadd, 1) := by decide +kernel
theorem dL_law_302 : decode cL_law 302 = .ok (.iaload, 1) := by decide +kernel
theorem dL_law_303 : decode cL_law 303 = .ok (.aload_n 0, 1) := by decide +kernel
theorem dL_law_304 : decode cL_law 304 = .ok (.iload_n 3, 1) := by decide +kernel
theorem dL_law_305 : decode cL_law 305 = .ok (.iconst 2, 1) := by decide +kernel
theorem dL_law_306 : decode cL_law 306 = .ok (.iadd, 1) := by decide +kernel
theorem dL_law_307 : decode cL_law 307 = .ok (.iaload, 1) := by decide +kernel
theorem dL_law_308 : decode cL_law 308 = .ok (.invokevirtual 39, 3) := by decide +kernel
theorem dL_law_311 : decode cL_law 311 = .ok (.aload_n 2, 1) := by decide +kernel
theorem dL_law_312 : decode cL_law 312 = .ok (.aload_n 0, 1) := by decide +kernel
theorem dL_law_313 : decode cL_law 313 = .ok (.iload_n 3, 1) := by decide +kernel
theorem dL_law_314 : decode cL_law 314 = .ok (.iconst 1, 1) := by decide +kernel
theorem dL_law_315 : decode cL_law 315 = .ok (.iadd, 1) := by decide +kernel
theorem dL_law_316 : decode cL_law 316 = .ok (.iaload, 1) := by decide +kernel
theorem dL_law_317 : decode cL_law 317 = .ok (.aload_n 0, 1) := by decide +kernel
theorem dL_law_318 : decode cL_law 318 = .ok (.iload_n 3, 1) := by decide +kernel
theorem dL_law_319 : decode cL_law 319 = .ok (.iconst 2, 1) := by decide +kernel
theorem dL_law_320 : decode cL_law 320 = .ok (.iadd, 1) := by decide +kernel
theorem dL_law_321 : decode cL_law 321 = .ok (.iaload, 1) := by decide +kernel
theorem dL_law_322 : decode cL_law 322 = .ok (.invokevirtual 42, 3) := by decide +kernel
theorem dL_law_325 : decode cL_law 325 = .ok (.if_icmp .eq 535, 3) := by decide +kernel
theorem dL_law_328 : decode cL_law 328 = .ok (.iconst 0, 1) := by decide +kernel
theorem dL_law_329 : decode cL_law 329 = .ok (.ireturn, 1) := by decide +kernel
theorem dL_law_330 : decode cL_law 330 = .ok (.aload_n 1, 1) := by decide +kernel
theorem dL_law_331 : decode cL_law 331 = .ok (.aload_n 0, 1) := by decide +kernel
theorem dL_law_332 : decode cL_law 332 = .ok (.iload_n 3, 1) := by decide +kernel
theorem dL_law_333 : decode cL_law 333 = .ok (.iconst 1, 1) := by decide +kernel
theorem dL_law_334 : decode cL_law 334 = .ok (.iadd, 1) := by decide +kernel
theorem dL_law_335 : decode cL_law 335 = .ok (.iaload, 1) := by decide +kernel
theorem dL_law_336 : decode cL_law 336 = .ok (.aload_n 0, 1) := by decide +kernel
theorem dL_law_337 : decode cL_law 337 = .ok (.iload_n 3, 1) := by decide +kernel
theorem dL_law_338 : decode cL_law 338 = .ok (.iconst 2, 1) := by decide +kernel
theorem dL_law_339 : decode cL_law 339 = .ok (.iadd, 1) := by decide +kernel
theorem dL_law_340 : decode cL_law 340 = .ok (.iaload, 1) := by decide +kernel
theorem dL_law_341 : decode cL_law 341 = .ok (.invokevirtual 43, 3) := by decide +kernel
theorem dL_law_344 : decode cL_law 344 = .ok (.aload_n 2, 1) := by decide +kernel
theorem dL_law_345 : decode cL_law 345 = .ok (.aload_n 0, 1) := by decide +kernel
theorem dL_law_346 : decode cL_law 346 = .ok (.iload_n 3, 1) := by decide +kernel
theorem dL_law_347 : decode cL_law 347 = .ok (.iconst 1, 1) := by decide +kernel
theorem dL_law_348 : decode cL_law 348 = .ok (.iadd, 1) := by decide +kernel
theorem dL_law_349 : decode cL_law 349 = .ok (.iaload, 1) := by decide +kernel
theorem dL_law_350 : decode cL_law 350 = .ok (.aload_n 0, 1) := by decide +kernel
theorem dL_law_351 : decode cL_law 351 = .ok (.iload_n 3, 1) := by decide +kernel
theorem dL_law_352 : decode cL_law 352 = .ok (.iconst 2, 1) := by decide +kernel
theorem dL_law_353 : decode cL_law 353 = .ok (.iadd, 1) := by decide +kernel
theorem dL_law_354 : decode cL_law 354 = .ok (.iaload, 1) := by decide +kernel
theorem dL_law_355 : decode cL_law 355 = .ok (.invokevirtual 46, 3) := by decide +kernel
theorem dL_law_358 : decode cL_law 358 = .ok (.if_icmp .eq 502, 3) := by decide +kernel
theorem dL_law_361 : decode cL_law 361 = .ok (.iconst 0, 1) := by decide +kernel
theorem dL_law_362 : decode cL_law 362 = .ok (.ireturn, 1) := by decide +kernel
theorem dL_law_363 : decode cL_law 363 = .ok (.aload_n 1, 1) := by decide +kernel
theorem dL_law_364 : decode cL_law 364 = .ok (.aload_n 0, 1) := by decide +kernel
theorem dL_law_365 : decode cL_law 365 = .ok (.iload_n 3, 1) := by decide +kernel
theorem dL_law_366 : decode cL_law 366 = .ok (.iconst 1, 1) := by decide +kernel
theorem dL_law_367 : decode cL_law 367 = .ok (.iadd, 1) := by decide +kernel
theorem dL_law_368 : decode cL_law 368 = .ok (.iaload, 1) := by decide +kernel
theorem dL_law_369 : decode cL_law 369 = .ok (.aload_n 0, 1) := by decide +kernel
theorem dL_law_370 : decode cL_law 370 = .ok (.iload_n 3, 1) := by decide +kernel
theorem dL_law_371 : decode cL_law 371 = .ok (.iconst 2, 1) := by decide +kernel
theorem dL_law_372 : decode cL_law 372 = .ok (.iadd, 1) := by decide +kernel
theorem dL_law_373 : decode cL_law 373 = .ok (.iaload, 1) := by decide +kernel
theorem dL_law_374 : decode cL_law 374 = .ok (.aload_n 0, 1) := by decide +kernel
theorem dL_law_375 : decode cL_law 375 = .ok (.iload_n 3, 1) := by decide +kernel
theorem dL_law_376 : decode cL_law 376 = .ok (.iconst 3, 1) := by decide +kernel
theorem dL_law_377 : decode cL_law 377 = .ok (.iadd, 1) := by decide +kernel
theorem dL_law_378 : decode cL_law 378 = .ok (.iaload, 1) := by decide +kernel
theorem dL_law_379 : decode cL_law 379 = .ok (.invokevirtual 47, 3) := by decide +kernel
theorem dL_law_382 : decode cL_law 382 = .ok (.aload_n 2, 1) := by decide +kernel
theorem dL_law_383 : decode cL_law 383 = .ok (.aload_n 0, 1) := by decide +kernel
theorem dL_law_384 : decode cL_law 384 = .ok (.iload_n 3, 1) := by decide +kernel
theorem dL_law_385 : decode cL_law 385 = .ok (.iconst 1, 1) := by decide +kernel
theorem dL_law_386 : decode cL_law 386 = .ok (.iadd, 1) := by decide +kernel
theorem dL_law_387 : decode cL_law 387 = .ok (.iaload, 1) := by decide +kernel
theorem dL_law_388 : decode cL_law 388 = .ok (.aload_n 0, 1) := by decide +kernel
theorem dL_law_389 : decode cL_law 389 = .ok (.iload_n 3, 1) := by decide +kernel
theorem dL_law_390 : decode cL_law 390 = .ok (.iconst 2, 1) := by decide +kernel
theorem dL_law_391 : decode cL_law 391 = .ok (.iadd, 1) := by decide +kernel
theorem dL_law_392 : decode cL_law 392 = .ok (.iaload, 1) := by decide +kernel
theorem dL_law_393 : decode cL_law 393 = .ok (.aload_n 0, 1) := by decide +kernel
theorem dL_law_394 : decode cL_law 394 = .ok (.iload_n 3, 1) := by decide +kernel
theorem dL_law_395 : decode cL_law 395 = .ok (.iconst 3, 1) := by decide +kernel
theorem dL_law_396 : decode cL_law 396 = .ok (.iadd, 1) := by decide +kernel
theorem dL_law_397 : decode cL_law 397 = .ok (.iaload, 1) := by decide +kernel
theorem dL_law_398 : decode cL_law 398 = .ok (.invokevirtual 51, 3) := by decide +kernel
theorem dL_law_401 : decode cL_law 401 = .ok (.if_icmp .eq 459, 3) := by decide +kernel
theorem dL_law_404 : decode cL_law 404 = .ok (.iconst 0, 1) := by decide +kernel
theorem dL_law_405 : decode cL_law 405 = .ok (.ireturn, 1) := by decide +kernel
theorem dL_law_406 : decode cL_law 406 = .ok (.aload_n 1, 1) := by decide +kernel
theorem dL_law_407 : decode cL_law 407 = .ok (.invokevirtual 52, 3) := by decide +kernel
theorem dL_law_410 : decode cL_law 410 = .ok (.aload_n 2, 1) := by decide +kernel
theorem dL_law_411 : decode cL_law 411 = .ok (.invokevirtual 55, 3) := by decide +kernel
theorem dL_law_414 : decode cL_law 414 = .ok (.if_icmp .eq 446, 3) := by decide +kernel
theorem dL_law_417 : decode cL_law 417 = .ok (.iconst 0, 1) := by decide +kernel
theorem dL_law_418 : decode cL_law 418 = .ok (.ireturn, 1) := by decide +kernel
theorem dL_law_419 : decode cL_law 419 = .ok (.aload_n 1, 1) := by decide +kernel
theorem dL_law_420 : decode cL_law 420 = .ok (.aload_n 0, 1) := by decide +kernel
theorem dL_law_421 : decode cL_law 421 = .ok (.iload_n 3, 1) := by decide +kernel
theorem dL_law_422 : decode cL_law 422 = .ok (.iconst 1, 1) := by decide +kernel
theorem dL_law_423 : decode cL_law 423 = .ok (.iadd, 1) := by decide +kernel
theorem dL_law_424 : decode cL_law 424 = .ok (.iaload, 1) := by decide +kernel
theorem dL_law_425 : decode cL_law 425 = .ok (.invokevirtual 56, 3) := by decide +kernel
theorem dL_law_428 : decode cL_law 428 = .ok (.aload_n 2, 1) := by decide +kernel
theorem dL_law_429 : decode cL_law 429 = .ok (.aload_n 0, 1) := by decide +kernel
theorem dL_law_430 : decode cL_law 430 = .ok (.iload_n 3, 1) := by decide +kernel
theorem dL_law_431 : decode cL_law 431 = .ok (.iconst 1, 1) := by decide +kernel
theorem dL_law_432 : decode cL_law 432 = .ok (.iadd, 1) := by decide +kernel
theorem dL_law_433 : decode cL_law 433 = .ok (.iaload, 1) := by decide +kernel
theorem dL_law_434 : decode cL_law 434 = .ok (.invokevirtual 59, 3) := by decide +kernel
theorem dL_law_437 : decode cL_law 437 = .ok (.if_icmp .eq 423, 3) := by decide +kernel
theorem dL_law_440 : decode cL_law 440 = .ok (.iconst 0, 1) := by decide +kernel
theorem dL_law_441 : decode cL_law 441 = .ok (.ireturn, 1) := by decide +kernel
theorem dL_law_442 : decode cL_law 442 = .ok (.aload_n 1, 1) := by decide +kernel
theorem dL_law_443 : decode cL_law 443 = .ok (.aload_n 0, 1) := by decide +kernel
theorem dL_law_444 : decode cL_law 444 = .ok (.iload_n 3, 1) := by decide +kernel
theorem dL_law_445 : decode cL_law 445 = .ok (.iconst 1, 1) := by decide +kernel
theorem dL_law_446 : decode cL_law 446 = .ok (.iadd, 1) := by decide +kernel
theorem dL_law_447 : decode cL_law 447 = .ok (.iaload, 1) := by decide +kernel
theorem dL_law_448 : decode cL_law 448 = .ok (.invokevirtual 60, 3) := by decide +kernel
theorem dL_law_451 : decode cL_law 451 = .ok (.aload_n 2, 1) := by decide +kernel
theorem dL_law_452 : decode cL_law 452 = .ok (.aload_n 0, 1) := by decide +kernel
theorem dL_law_453 : decode cL_law 453 = .ok (.iload_n 3, 1) := by decide +kernel
theorem dL_law_454 : decode cL_law 454 = .ok (.iconst 1, 1) := by decide +kernel
theorem dL_law_455 : decode cL_law 455 = .ok (.iadd, 1) := by decide +kernel
theorem dL_law_456 : decode cL_law 456 = .ok (.iaload, 1) := by decide +kernel
theorem dL_law_457 : decode cL_law 457 = .ok (.invokevirtual 63, 3) := by decide +kernel
theorem dL_law_460 : decode cL_law 460 = .ok (.if_icmp .eq 400, 3) := by decide +kernel
theorem dL_law_463 : decode cL_law 463 = .ok (.iconst 0, 1) := by decide +kernel
theorem dL_law_464 : decode cL_law 464 = .ok (.ireturn, 1) := by decide +kernel
theorem dL_law_465 : decode cL_law 465 = .ok (.aload_n 1, 1) := by decide +kernel
theorem dL_law_466 : decode cL_law 466 = .ok (.aload_n 0, 1) := by decide +kernel
theorem dL_law_467 : decode cL_law 467 = .ok (.iload_n 3, 1) := by decide +kernel
theorem dL_law_468 : decode cL_law 468 = .ok (.iconst 1, 1) := by decide +kernel
theorem dL_law_469 : decode cL_law 469 = .ok (.iadd, 1) := by decide +kernel
theorem dL_law_470 : decode cL_law 470 = .ok (.iaload, 1) := by decide +kernel
theorem dL_law_471 : decode cL_law 471 = .ok (.aload_n 0, 1) := by decide +kernel
theorem dL_law_472 : decode cL_law 472 = .ok (.iload_n 3, 1) := by decide +kernel
theorem dL_law_473 : decode cL_law 473 = .ok (.iconst 2, 1) := by decide +kernel
theorem dL_law_474 : decode cL_law 474 = .ok (.iadd, 1) := by decide +kernel
theorem dL_law_475 : decode cL_law 475 = .ok (.iaload, 1) := by decide +kernel
theorem dL_law_476 : decode cL_law 476 = .ok (.invokevirtual 64, 3) := by decide +kernel
theorem dL_law_479 : decode cL_law 479 = .ok (.aload_n 2, 1) := by decide +kernel
theorem dL_law_480 : decode cL_law 480 = .ok (.aload_n 0, 1) := by decide +kernel
theorem dL_law_481 : decode cL_law 481 = .ok (.iload_n 3, 1) := by decide +kernel
theorem dL_law_482 : decode cL_law 482 = .ok (.iconst 1, 1) := by decide +kernel
theorem dL_law_483 : decode cL_law 483 = .ok (.iadd, 1) := by decide +kernel
theorem dL_law_484 : decode cL_law 484 = .ok (.iaload, 1) := by decide +kernel
theorem dL_law_485 : decode cL_law 485 = .ok (.aload_n 0, 1) := by decide +kernel
theorem dL_law_486 : decode cL_law 486 = .ok (.iload_n 3, 1) := by decide +kernel
theorem dL_law_487 : decode cL_law 487 = .ok (.iconst 2, 1) := by decide +kernel
theorem dL_law_488 : decode cL_law 488 = .ok (.iadd, 1) := by decide +kernel
theorem dL_law_489 : decode cL_law 489 = .ok (.iaload, 1) := by decide +kernel
theorem dL_law_490 : decode cL_law 490 = .ok (.invokevirtual 67, 3) := by decide +kernel
theorem dL_law_493 : decode cL_law 493 = .ok (.if_icmp .eq 367, 3) := by decide +kernel
theorem dL_law_496 : decode cL_law 496 = .ok (.iconst 0, 1) := by decide +kernel
theorem dL_law_497 : decode cL_law 497 = .ok (.ireturn, 1) := by decide +kernel
theorem dL_law_498 : decode cL_law 498 = .ok (.aload_n 1, 1) := by decide +kernel
theorem dL_law_499 : decode cL_law 499 = .ok (.aload_n 0, 1) := by decide +kernel
theorem dL_law_500 : decode cL_law 500 = .ok (.iload_n 3, 1) := by decide +kernel
theorem dL_law_501 : decode cL_law 501 = .ok (.iconst 1, 1) := by decide +kernel
theorem dL_law_502 : decode cL_law 502 = .ok (.iadd, 1) := by decide +kernel
theorem dL_law_503 : decode cL_law 503 = .ok (.iaload, 1) := by decide +kernel
theorem dL_law_504 : decode cL_law 504 = .ok (.invokevirtual 68, 3) := by decide +kernel
theorem dL_law_507 : decode cL_law 507 = .ok (.aload_n 2, 1) := by decide +kernel
theorem dL_law_508 : decode cL_law 508 = .ok (.aload_n 0, 1) := by decide +kernel
theorem dL_law_509 : decode cL_law 509 = .ok (.iload_n 3, 1) := by decide +kernel
theorem dL_law_510 : decode cL_law 510 = .ok (.iconst 1, 1) := by decide +kernel
theorem dL_law_511 : decode cL_law 511 = .ok (.iadd, 1) := by decide +kernel
theorem dL_law_512 : decode cL_law 512 = .ok (.iaload, 1) := by decide +kernel
theorem dL_law_513 : decode cL_law 513 = .ok (.invokevirtual 71, 3) := by decide +kernel
theorem dL_law_516 : decode cL_law 516 = .ok (.if_icmp .eq 344, 3) := by decide +kernel
theorem dL_law_519 : decode cL_law 519 = .ok (.iconst 0, 1) := by decide +kernel
theorem dL_law_520 : decode cL_law 520 = .ok (.ireturn, 1) := by decide +kernel
theorem dL_law_521 : decode cL_law 521 = .ok (.aload_n 1, 1) := by decide +kernel
theorem dL_law_522 : decode cL_law 522 = .ok (.aload_n 0, 1) := by decide +kernel
theorem dL_law_523 : decode cL_law 523 = .ok (.iload_n 3, 1) := by decide +kernel
theorem dL_law_524 : decode cL_law 524 = .ok (.iconst 1, 1) := by decide +kernel
theorem dL_law_525 : decode cL_law 525 = .ok (.iadd, 1) := by decide +kernel
theorem dL_law_526 : decode cL_law 526 = .ok (.iaload, 1) := by decide +kernel
theorem dL_law_527 : decode cL_law 527 = .ok (.invokevirtual 72, 3) := by decide +kernel
theorem dL_law_530 : decode cL_law 530 = .ok (.aload_n 2, 1) := by decide +kernel
theorem dL_law_531 : decode cL_law 531 = .ok (.aload_n 0, 1) := by decide +kernel
theorem dL_law_532 : decode cL_law 532 = .ok (.iload_n 3, 1) := by decide +kernel
theorem dL_law_533 : decode cL_law 533 = .ok (.iconst 1, 1) := by decide +kernel
theorem dL_law_534 : decode cL_law 534 = .ok (.iadd, 1) := by decide +kernel
theorem dL_law_535 : decode cL_law 535 = .ok (.iaload, 1) := by decide +kernel
theorem dL_law_536 : decode cL_law 536 = .ok (.invokevirtual 75, 3) := by decide +kernel
theorem dL_law_539 : decode cL_law 539 = .ok (.if_icmp .eq 321, 3) := by decide +kernel
theorem dL_law_542 : decode cL_law 542 = .ok (.iconst 0, 1) := by decide +kernel
theorem dL_law_543 : decode cL_law 543 = .ok (.ireturn, 1) := by decide +kernel
theorem dL_law_544 : decode cL_law 544 = .ok (.aload_n 1, 1) := by decide +kernel
theorem dL_law_545 : decode cL_law 545 = .ok (.aload_n 0, 1) := by decide +kernel
theorem dL_law_546 : decode cL_law 546 = .ok (.iload_n 3, 1) := by decide +kernel
theorem dL_law_547 : decode cL_law 547 = .ok (.iconst 1, 1) := by decide +kernel
theorem dL_law_548 : decode cL_law 548 = .ok (.iadd, 1) := by decide +kernel
theorem dL_law_549 : decode cL_law 549 = .ok (.iaload, 1) := by decide +kernel
theorem dL_law_550 : decode cL_law 550 = .ok (.aload_n 0, 1) := by decide +kernel
theorem dL_law_551 : decode cL_law 551 = .ok (.iload_n 3, 1) := by decide +kernel
theorem dL_law_552 : decode cL_law 552 = .ok (.iconst 2, 1) := by decide +kernel
theorem dL_law_553 : decode cL_law 553 = .ok (.iadd, 1) := by decide +kernel
theorem dL_law_554 : decode cL_law 554 = .ok (.iaload, 1) := by decide +kernel
theorem dL_law_555 : decode cL_law 555 = .ok (.invokevirtual 76, 3) := by decide +kernel
theorem dL_law_558 : decode cL_law 558 = .ok (.aload_n 2, 1) := by decide +kernel
theorem dL_law_559 : decode cL_law 559 = .ok (.aload_n 0, 1) := by decide +kernel
theorem dL_law_560 : decode cL_law 560 = .ok (.iload_n 3, 1) := by decide +kernel
theorem dL_law_561 : decode cL_law 561 = .ok (.iconst 1, 1) := by decide +kernel
theorem dL_law_562 : decode cL_law 562 = .ok (.iadd, 1) := by decide +kernel
theorem dL_law_563 : decode cL_law 563 = .ok (.iaload, 1) := by decide +kernel
theorem dL_law_564 : decode cL_law 564 = .ok (.aload_n 0, 1) := by decide +kernel
theorem dL_law_565 : decode cL_law 565 = .ok (.iload_n 3, 1) := by decide +kernel
theorem dL_law_566 : decode cL_law 566 = .ok (.iconst 2, 1) := by decide +kernel
theorem dL_law_567 : decode cL_law 567 = .ok (.iadd, 1) := by decide +kernel
theorem dL_law_568 : decode cL_law 568 = .ok (.iaload, 1) := by decide +kernel
theorem dL_law_569 : decode cL_law 569 = .ok (.invokevirtual 79, 3) := by decide +kernel
theorem dL_law_572 : decode cL_law 572 = .ok (.if_icmp .eq 288, 3) := by decide +kernel
theorem dL_law_575 : decode cL_law 575 = .ok (.iconst 0, 1) := by decide +kernel
theorem dL_law_576 : decode cL_law 576 = .ok (.ireturn, 1) := by decide +kernel
theorem dL_law_577 : decode cL_law 577 = .ok (.aload_n 1, 1) := by decide +kernel
theorem dL_law_578 : decode cL_law 578 = .ok (.aload_n 0, 1) := by decide +kernel
theorem dL_law_579 : decode cL_law 579 = .ok (.iload_n 3, 1) := by decide +kernel
theorem dL_law_580 : decode cL_law 580 = .ok (.iconst 1, 1) := by decide +kernel
theorem dL_law_581 : decode cL_law 581 = .ok (.iadd, 1) := by decide +kernel
theorem dL_law_582 : decode cL_law 582 = .ok (.iaload, 1) := by decide +kernel
theorem dL_law_583 : decode cL_law 583 = .ok (.invokevirtual 80, 3) := by decide +kernel
theorem dL_law_586 : decode cL_law 586 = .ok (.aload_n 2, 1) := by decide +kernel
theorem dL_law_587 : decode cL_law 587 = .ok (.aload_n 0, 1) := by decide +kernel
theorem dL_law_588 : decode cL_law 588 = .ok (.iload_n 3, 1) := by decide +kernel
theorem dL_law_589 : decode cL_law 589 = .ok (.iconst 1, 1) := by decide +kernel
theorem dL_law_590 : decode cL_law 590 = .ok (.iadd, 1) := by decide +kernel
theorem dL_law_591 : decode cL_law 591 = .ok (.iaload, 1) := by decide +kernel
theorem dL_law_592 : decode cL_law 592 = .ok (.invokevirtual 83, 3) := by decide +kernel
theorem dL_law_595 : decode cL_law 595 = .ok (.if_icmp .eq 265, 3) := by decide +kernel
theorem dL_law_598 : decode cL_law 598 = .ok (.iconst 0, 1) := by decide +kernel
theorem dL_law_599 : decode cL_law 599 = .ok (.ireturn, 1) := by decide +kernel
theorem dL_law_600 : decode cL_law 600 = .ok (.aload_n 1, 1) := by decide +kernel
theorem dL_law_601 : decode cL_law 601 = .ok (.aload_n 0, 1) := by decide +kernel
theorem dL_law_602 : decode cL_law 602 = .ok (.iload_n 3, 1) := by decide +kernel
theorem dL_law_603 : decode cL_law 603 = .ok (.iconst 1, 1) := by decide +kernel
theorem dL_law_604 : decode cL_law 604 = .ok (.iadd, 1) := by decide +kernel
theorem dL_law_605 : decode cL_law 605 = .ok (.iaload, 1) := by decide +kernel
theorem dL_law_606 : decode cL_law 606 = .ok (.aload_n 0, 1) := by decide +kernel
theorem dL_law_607 : decode cL_law 607 = .ok (.iload_n 3, 1) := by decide +kernel
theorem dL_law_608 : decode cL_law 608 = .ok (.iconst 2, 1) := by decide +kernel
theorem dL_law_609 : decode cL_law 609 = .ok (.iadd, 1) := by decide +kernel
theorem dL_law_610 : decode cL_law 610 = .ok (.iaload, 1) := by decide +kernel
theorem dL_law_611 : decode cL_law 611 = .ok (.invokevirtual 84, 3) := by decide +kernel
theorem dL_law_614 : decode cL_law 614 = .ok (.aload_n 2, 1) := by decide +kernel
theorem dL_law_615 : decode cL_law 615 = .ok (.aload_n 0, 1) := by decide +kernel
theorem dL_law_616 : decode cL_law 616 = .ok (.iload_n 3, 1) := by decide +kernel
theorem dL_law_617 : decode cL_law 617 = .ok (.iconst 1, 1) := by decide +kernel
theorem dL_law_618 : decode cL_law 618 = .ok (.iadd, 1) := by decide +kernel
theorem dL_law_619 : decode cL_law 619 = .ok (.iaload, 1) := by decide +kernel
theorem dL_law_620 : decode cL_law 620 = .ok (.aload_n 0, 1) := by decide +kernel
theorem dL_law_621 : decode cL_law 621 = .ok (.iload_n 3, 1) := by decide +kernel
theorem dL_law_622 : decode cL_law 622 = .ok (.iconst 2, 1) := by decide +kernel
theorem dL_law_623 : decode cL_law 623 = .ok (.iadd, 1) := by decide +kernel
theorem dL_law_624 : decode cL_law 624 = .ok (.iaload, 1) := by decide +kernel
theorem dL_law_625 : decode cL_law 625 = .ok (.invokevirtual 87, 3) := by decide +kernel
theorem dL_law_628 : decode cL_law 628 = .ok (.if_icmp .eq 232, 3) := by decide +kernel
theorem dL_law_631 : decode cL_law 631 = .ok (.iconst 0, 1) := by decide +kernel
theorem dL_law_632 : decode cL_law 632 = .ok (.ireturn, 1) := by decide +kernel
theorem dL_law_633 : decode cL_law 633 = .ok (.aload_n 1, 1) := by decide +kernel
theorem dL_law_634 : decode cL_law 634 = .ok (.aload_n 0, 1) := by decide +kernel
theorem dL_law_635 : decode cL_law 635 = .ok (.iload_n 3, 1) := by decide +kernel
theorem dL_law_636 : decode cL_law 636 = .ok (.iconst 1, 1) := by decide +kernel
theorem dL_law_637 : decode cL_law 637 = .ok (.iadd, 1) := by decide +kernel
theorem dL_law_638 : decode cL_law 638 = .ok (.iaload, 1) := by decide +kernel
theorem dL_law_639 : decode cL_law 639 = .ok (.aload_n 0, 1) := by decide +kernel
theorem dL_law_640 : decode cL_law 640 = .ok (.iload_n 3, 1) := by decide +kernel
theorem dL_law_641 : decode cL_law 641 = .ok (.iconst 2, 1) := by decide +kernel
theorem dL_law_642 : decode cL_law 642 = .ok (.iadd, 1) := by decide +kernel
theorem dL_law_643 : decode cL_law 643 = .ok (.iaload, 1) := by decide +kernel
theorem dL_law_644 : decode cL_law 644 = .ok (.invokevirtual 88, 3) := by decide +kernel
theorem dL_law_647 : decode cL_law 647 = .ok (.aload_n 2, 1) := by decide +kernel
theorem dL_law_648 : decode cL_law 648 = .ok (.aload_n 0, 1) := by decide +kernel
theorem dL_law_649 : decode cL_law 649 = .ok (.iload_n 3, 1) := by decide +kernel
theorem dL_law_650 : decode cL_law 650 = .ok (.iconst 1, 1) := by decide +kernel
theorem dL_law_651 : decode cL_law 651 = .ok (.iadd, 1) := by decide +kernel
theorem dL_law_652 : decode cL_law 652 = .ok (.iaload, 1) := by decide +kernel
theorem dL_law_653 : decode cL_law 653 = .ok (.aload_n 0, 1) := by decide +kernel
theorem dL_law_654 : decode cL_law 654 = .ok (.iload_n 3, 1) := by decide +kernel
theorem dL_law_655 : decode cL_law 655 = .ok (.iconst 2, 1) := by decide +kernel
theorem dL_law_656 : decode cL_law 656 = .ok (.iadd, 1) := by decide +kernel
theorem dL_law_657 : decode cL_law 657 = .ok (.iaload, 1) := by decide +kernel
theorem dL_law_658 : decode cL_law 658 = .ok (.invokevirtual 91, 3) := by decide +kernel
theorem dL_law_661 : decode cL_law 661 = .ok (.if_icmp .eq 199, 3) := by decide +kernel
theorem dL_law_664 : decode cL_law 664 = .ok (.iconst 0, 1) := by decide +kernel
theorem dL_law_665 : decode cL_law 665 = .ok (.ireturn, 1) := by decide +kernel
theorem dL_law_666 : decode cL_law 666 = .ok (.aload_n 1, 1) := by decide +kernel
theorem dL_law_667 : decode cL_law 667 = .ok (.aload_n 0, 1) := by decide +kernel
theorem dL_law_668 : decode cL_law 668 = .ok (.iload_n 3, 1) := by decide +kernel
theorem dL_law_669 : decode cL_law 669 = .ok (.iconst 1, 1) := by decide +kernel
theorem dL_law_670 : decode cL_law 670 = .ok (.iadd, 1) := by decide +kernel
theorem dL_law_671 : decode cL_law 671 = .ok (.iaload, 1) := by decide +kernel
theorem dL_law_672 : decode cL_law 672 = .ok (.aload_n 0, 1) := by decide +kernel
theorem dL_law_673 : decode cL_law 673 = .ok (.iload_n 3, 1) := by decide +kernel
theorem dL_law_674 : decode cL_law 674 = .ok (.iconst 2, 1) := by decide +kernel
theorem dL_law_675 : decode cL_law 675 = .ok (.iadd, 1) := by decide +kernel
theorem dL_law_676 : decode cL_law 676 = .ok (.iaload, 1) := by decide +kernel
theorem dL_law_677 : decode cL_law 677 = .ok (.invokevirtual 92, 3) := by decide +kernel
theorem dL_law_680 : decode cL_law 680 = .ok (.aload_n 2, 1) := by decide +kernel
theorem dL_law_681 : decode cL_law 681 = .ok (.aload_n 0, 1) := by decide +kernel
theorem dL_law_682 : decode cL_law 682 = .ok (.iload_n 3, 1) := by decide +kernel
theorem dL_law_683 : decode cL_law 683 = .ok (.iconst 1, 1) := by decide +kernel
theorem dL_law_684 : decode cL_law 684 = .ok (.iadd, 1) := by decide +kernel
theorem dL_law_685 : decode cL_law 685 = .ok (.iaload, 1) := by decide +kernel
theorem dL_law_686 : decode cL_law 686 = .ok (.aload_n 0, 1) := by decide +kernel
theorem dL_law_687 : decode cL_law 687 = .ok (.iload_n 3, 1) := by decide +kernel
theorem dL_law_688 : decode cL_law 688 = .ok (.iconst 2, 1) := by decide +kernel
theorem dL_law_689 : decode cL_law 689 = .ok (.iadd, 1) := by decide +kernel
theorem dL_law_690 : decode cL_law 690 = .ok (.iaload, 1) := by decide +kernel
theorem dL_law_691 : decode cL_law 691 = .ok (.invokevirtual 95, 3) := by decide +kernel
theorem dL_law_694 : decode cL_law 694 = .ok (.if_icmp .eq 166, 3) := by decide +kernel
theorem dL_law_697 : decode cL_law 697 = .ok (.iconst 0, 1) := by decide +kernel
theorem dL_law_698 : decode cL_law 698 = .ok (.ireturn, 1) := by decide +kernel
theorem dL_law_699 : decode cL_law 699 = .ok (.aload_n 1, 1) := by decide +kernel
theorem dL_law_700 : decode cL_law 700 = .ok (.aload_n 0, 1) := by decide +kernel
theorem dL_law_701 : decode cL_law 701 = .ok (.iload_n 3, 1) := by decide +kernel
theorem dL_law_702 : decode cL_law 702 = .ok (.iconst 1, 1) := by decide +kernel
theorem dL_law_703 : decode cL_law 703 = .ok (.iadd, 1) := by decide +kernel
theorem dL_law_704 : decode cL_law 704 = .ok (.iaload, 1) := by decide +kernel
theorem dL_law_705 : decode cL_law 705 = .ok (.aload_n 0, 1) := by decide +kernel
theorem dL_law_706 : decode cL_law 706 = .ok (.iload_n 3, 1) := by decide +kernel
theorem dL_law_707 : decode cL_law 707 = .ok (.iconst 2, 1) := by decide +kernel
theorem dL_law_708 : decode cL_law 708 = .ok (.iadd, 1) := by decide +kernel
theorem dL_law_709 : decode cL_law 709 = .ok (.iaload, 1) := by decide +kernel
theorem dL_law_710 : decode cL_law 710 = .ok (.invokevirtual 96, 3) := by decide +kernel
theorem dL_law_713 : decode cL_law 713 = .ok (.aload_n 2, 1) := by decide +kernel
theorem dL_law_714 : decode cL_law 714 = .ok (.aload_n 0, 1) := by decide +kernel
theorem dL_law_715 : decode cL_law 715 = .ok (.iload_n 3, 1) := by decide +kernel
theorem dL_law_716 : decode cL_law 716 = .ok (.iconst 1, 1) := by decide +kernel
theorem dL_law_717 : decode cL_law 717 = .ok (.iadd, 1) := by decide +kernel
theorem dL_law_718 : decode cL_law 718 = .ok (.iaload, 1) := by decide +kernel
theorem dL_law_719 : decode cL_law 719 = .ok (.aload_n 0, 1) := by decide +kernel
theorem dL_law_720 : decode cL_law 720 = .ok (.iload_n 3, 1) := by decide +kernel
theorem dL_law_721 : decode cL_law 721 = .ok (.iconst 2, 1) := by decide +kernel
theorem dL_law_722 : decode cL_law 722 = .ok (.iadd, 1) := by decide +kernel
theorem dL_law_723 : decode cL_law 723 = .ok (.iaload, 1) := by decide +kernel
theorem dL_law_724 : decode cL_law 724 = .ok (.invokevirtual 99, 3) := by decide +kernel
theorem dL_law_727 : decode cL_law 727 = .ok (.if_icmp .eq 133, 3) := by decide +kernel
theorem dL_law_730 : decode cL_law 730 = .ok (.iconst 0, 1) := by decide +kernel
theorem dL_law_731 : decode cL_law 731 = .ok (.ireturn, 1) := by decide +kernel
theorem dL_law_732 : decode cL_law 732 = .ok (.aload_n 1, 1) := by decide +kernel
theorem dL_law_733 : decode cL_law 733 = .ok (.invokevirtual 100, 3) := by decide +kernel
theorem dL_law_736 : decode cL_law 736 = .ok (.aload_n 2, 1) := by decide +kernel
theorem dL_law_737 : decode cL_law 737 = .ok (.invokevirtual 103, 3) := by decide +kernel
theorem dL_law_740 : decode cL_law 740 = .ok (.if_icmp .eq 120, 3) := by decide +kernel
theorem dL_law_743 : decode cL_law 743 = .ok (.iconst 0, 1) := by decide +kernel
theorem dL_law_744 : decode cL_law 744 = .ok (.ireturn, 1) := by decide +kernel
theorem dL_law_745 : decode cL_law 745 = .ok (.aload_n 1, 1) := by decide +kernel
theorem dL_law_746 : decode cL_law 746 = .ok (.invokevirtual 104, 3) := by decide +kernel
theorem dL_law_749 : decode cL_law 749 = .ok (.aload_n 2, 1) := by decide +kernel
theorem dL_law_750 : decode cL_law 750 = .ok (.invokevirtual 107, 3) := by decide +kernel
theorem dL_law_753 : decode cL_law 753 = .ok (.if_icmp .eq 107, 3) := by decide +kernel
theorem dL_law_756 : decode cL_law 756 = .ok (.iconst 0, 1) := by decide +kernel
theorem dL_law_757 : decode cL_law 757 = .ok (.ireturn, 1) := by decide +kernel
theorem dL_law_758 : decode cL_law 758 = .ok (.aload_n 1, 1) := by decide +kernel
theorem dL_law_759 : decode cL_law 759 = .ok (.aload_n 0, 1) := by decide +kernel
theorem dL_law_760 : decode cL_law 760 = .ok (.iload_n 3, 1) := by decide +kernel
theorem dL_law_761 : decode cL_law 761 = .ok (.iconst 1, 1) := by decide +kernel
theorem dL_law_762 : decode cL_law 762 = .ok (.iadd, 1) := by decide +kernel
theorem dL_law_763 : decode cL_law 763 = .ok (.iaload, 1) := by decide +kernel
theorem dL_law_764 : decode cL_law 764 = .ok (.aload_n 0, 1) := by decide +kernel
theorem dL_law_765 : decode cL_law 765 = .ok (.iload_n 3, 1) := by decide +kernel
theorem dL_law_766 : decode cL_law 766 = .ok (.iconst 2, 1) := by decide +kernel
theorem dL_law_767 : decode cL_law 767 = .ok (.iadd, 1) := by decide +kernel
theorem dL_law_768 : decode cL_law 768 = .ok (.iaload, 1) := by decide +kernel
theorem dL_law_769 : decode cL_law 769 = .ok (.invokevirtual 108, 3) := by decide +kernel
theorem dL_law_772 : decode cL_law 772 = .ok (.aload_n 2, 1) := by decide +kernel
theorem dL_law_773 : decode cL_law 773 = .ok (.aload_n 0, 1) := by decide +kernel
theorem dL_law_774 : decode cL_law 774 = .ok (.iload_n 3, 1) := by decide +kernel
theorem dL_law_775 : decode cL_law 775 = .ok (.iconst 1, 1) := by decide +kernel
theorem dL_law_776 : decode cL_law 776 = .ok (.iadd, 1) := by decide +kernel
theorem dL_law_777 : decode cL_law 777 = .ok (.iaload, 1) := by decide +kernel
theorem dL_law_778 : decode cL_law 778 = .ok (.aload_n 0, 1) := by decide +kernel
theorem dL_law_779 : decode cL_law 779 = .ok (.iload_n 3, 1) := by decide +kernel
theorem dL_law_780 : decode cL_law 780 = .ok (.iconst 2, 1) := by decide +kernel
theorem dL_law_781 : decode cL_law 781 = .ok (.iadd, 1) := by decide +kernel
theorem dL_law_782 : decode cL_law 782 = .ok (.iaload, 1) := by decide +kernel
theorem dL_law_783 : decode cL_law 783 = .ok (.invokevirtual 111, 3) := by decide +kernel
theorem dL_law_786 : decode cL_law 786 = .ok (.if_icmp .eq 74, 3) := by decide +kernel
theorem dL_law_789 : decode cL_law 789 = .ok (.iconst 0, 1) := by decide +kernel
theorem dL_law_790 : decode cL_law 790 = .ok (.ireturn, 1) := by decide +kernel
theorem dL_law_791 : decode cL_law 791 = .ok (.aload_n 1, 1) := by decide +kernel
theorem dL_law_792 : decode cL_law 792 = .ok (.aload_n 0, 1) := by decide +kernel
theorem dL_law_793 : decode cL_law 793 = .ok (.iload_n 3, 1) := by decide +kernel
theorem dL_law_794 : decode cL_law 794 = .ok (.iconst 1, 1) := by decide +kernel
theorem dL_law_795 : decode cL_law 795 = .ok (.iadd, 1) := by decide +kernel
theorem dL_law_796 : decode cL_law 796 = .ok (.iaload, 1) := by decide +kernel
theorem dL_law_797 : decode cL_law 797 = .ok (.invokevirtual 112, 3) := by decide +kernel
theorem dL_law_800 : decode cL_law 800 = .ok (.aload_n 2, 1) := by decide +kernel
theorem dL_law_801 : decode cL_law 801 = .ok (.aload_n 0, 1) := by decide +kernel
theorem dL_law_802 : decode cL_law 802 = .ok (.iload_n 3, 1) := by decide +kernel
theorem dL_law_803 : decode cL_law 803 = .ok (.iconst 1, 1) := by decide +kernel
theorem dL_law_804 : decode cL_law 804 = .ok (.iadd, 1) := by decide +kernel
theorem dL_law_805 : decode cL_law 805 = .ok (.iaload, 1) := by decide +kernel
theorem dL_law_806 : decode cL_law 806 = .ok (.invokevirtual 115, 3) := by decide +kernel
theorem dL_law_809 : decode cL_law 809 = .ok (.if_icmp .eq 51, 3) := by decide +kernel
theorem dL_law_812 : decode cL_law 812 = .ok (.iconst 0, 1) := by decide +kernel
theorem dL_law_813 : decode cL_law 813 = .ok (.ireturn, 1) := by decide +kernel
theorem dL_law_814 : decode cL_law 814 = .ok (.aload_n 1, 1) := by decide +kernel
theorem dL_law_815 : decode cL_law 815 = .ok (.aload_n 0, 1) := by decide +kernel
theorem dL_law_816 : decode cL_law 816 = .ok (.iload_n 3, 1) := by decide +kernel
theorem dL_law_817 : decode cL_law 817 = .ok (.iconst 1, 1) := by decide +kernel
theorem dL_law_818 : decode cL_law 818 = .ok (.iadd, 1) := by decide +kernel
theorem dL_law_819 : decode cL_law 819 = .ok (.iaload, 1) := by decide +kernel
theorem dL_law_820 : decode cL_law 820 = .ok (.invokevirtual 116, 3) := by decide +kernel
theorem dL_law_823 : decode cL_law 823 = .ok (.aload_n 2, 1) := by decide +kernel
theorem dL_law_824 : decode cL_law 824 = .ok (.aload_n 0, 1) := by decide +kernel
theorem dL_law_825 : decode cL_law 825 = .ok (.iload_n 3, 1) := by decide +kernel
theorem dL_law_826 : decode cL_law 826 = .ok (.iconst 1, 1) := by decide +kernel
theorem dL_law_827 : decode cL_law 827 = .ok (.iadd, 1) := by decide +kernel
theorem dL_law_828 : decode cL_law 828 = .ok (.iaload, 1) := by decide +kernel
theorem dL_law_829 : decode cL_law 829 = .ok (.invokevirtual 119, 3) := by decide +kernel
theorem dL_law_832 : decode cL_law 832 = .ok (.if_icmp .eq 28, 3) := by decide +kernel
theorem dL_law_835 : decode cL_law 835 = .ok (.iconst 0, 1) := by decide +kernel
theorem dL_law_836 : decode cL_law 836 = .ok (.ireturn, 1) := by decide +kernel
theorem dL_law_837 : decode cL_law 837 = .ok (.aload_n 1, 1) := by decide +kernel
theorem dL_law_838 : decode cL_law 838 = .ok (.aload_n 0, 1) := by decide +kernel
theorem dL_law_839 : decode cL_law 839 = .ok (.iload_n 3, 1) := by decide +kernel
theorem dL_law_840 : decode cL_law 840 = .ok (.iconst 1, 1) := by decide +kernel
theorem dL_law_841 : decode cL_law 841 = .ok (.iadd, 1) := by decide +kernel
theorem dL_law_842 : decode cL_law 842 = .ok (.iaload, 1) := by decide +kernel
theorem dL_law_843 : decode cL_law 843 = .ok (.invokevirtual 120, 3) := by decide +kernel
theorem dL_law_846 : decode cL_law 846 = .ok (.aload_n 2, 1) := by decide +kernel
theorem dL_law_847 : decode cL_law 847 = .ok (.aload_n 0, 1) := by decide +kernel
theorem dL_law_848 : decode cL_law 848 = .ok (.iload_n 3, 1) := by decide +kernel
theorem dL_law_849 : decode cL_law 849 = .ok (.iconst 1, 1) := by decide +kernel
theorem dL_law_850 : decode cL_law 850 = .ok (.iadd, 1) := by decide +kernel
theorem dL_law_851 : decode cL_law 851 = .ok (.iaload, 1) := by decide +kernel
theorem dL_law_852 : decode cL_law 852 = .ok (.invokevirtual 123, 3) := by decide +kernel
theorem dL_law_855 : decode cL_law 855 = .ok (.if_icmp .eq 5, 3) := by decide +kernel
theorem dL_law_858 : decode cL_law 858 = .ok (.iconst 0, 1) := by decide +kernel
theorem dL_law_859 : decode cL_law 859 = .ok (.ireturn, 1) := by decide +kernel
theorem dL_law_860 : decode cL_law 860 = .ok (.iinc 3 4, 3) := by decide +kernel
theorem dL_law_863 : decode cL_law 863 = .ok (.goto (-845), 3) := by decide +kernel
theorem dL_law_866 : decode cL_law 866 = .ok (.iconst 1, 1) := by decide +kernel
theorem dL_law_867 : decode cL_law 867 = .ok (.ireturn, 1) := by decide +kernel
end
section
/-! ===== states, worlds, the frame of a walk (all own work) ===== -/
abbrev St : Type := (Nat → Nat → Int32) × (Nat → Nat → Int64)
abbrev En : Type := Nat → (Nat → Int32) → (Nat → Int64) → va_E
abbrev Geo : Type := (Nat → Nat) × ClassId × ClassId × ClassId × ClassId
def wl (N : Nat) (en : En) (ad : Nat → Nat) (σ : St) : va_W := (List.range N).map (fun k => (ad k, en k (σ.1 k) (σ.2 k)))
def sR (σ : St) (k : Nat) (f : Nat → Int32) : St := (fun k' => if k' = k then f else σ.1 k', σ.2)
def sL (σ : St) (k : Nat) (f : Nat → Int64) : St := (σ.1, fun k' => if k' = k then f else σ.2 k')
abbrev sI (σ : St) (k j : Nat) (v : Int32) : St := sR σ k (upd (σ.1 k) j v)
abbrev sJ (σ : St) (k j : Nat) (v : Int64) : St := sL σ k (vp_updL (σ.2 k) j v)
abbrev tyG (G : Geo) : List (ClassId × FieldType) := [(G.2.1, .byte), (G.2.2.1, .int), (G.2.2.2.1, .long), (G.2.2.2.2, .boolean)]
theorem wl_get {N : Nat} {en : En} {ad : Nat → Nat} {σ : St} {k : Nat} (h : k < N) : (wl N en ad σ)[k]? = some (ad k, en k (σ.1 k) (σ.2 k)) := by
  simp [wl, h]
theorem wl_at {N : Nat} {en : En} {ad : Nat → Nat} {σ : St} {k : Nat} {x : va_E} (h : k < N) (he : en k (σ.1 k) (σ.2 k) = x) : (wl N en ad σ)[k]? = some (ad k, x) := by
  rw [wl_get h, he]
theorem wl_setR {N : Nat} {en : En} {ad : Nat → Nat} {σ : St} {k : Nat} {f : Nat → Int32} {x : va_E} (h : k < N) (he : en k f (σ.2 k) = x) : (wl N en ad σ).set k (ad k, x) = wl N en ad (sR σ k f) := by
  apply List.ext_getElem?
  intro i
  rw [List.getElem?_set]
  by_cases hik : k = i
  · subst hik
    simp [wl, sR, h, he]
  · rcases Nat.lt_or_ge i N with hi | hi
    · simp [wl, sR, hik, Ne.symm hik, hi]
    · simp [wl, hik, Nat.not_lt.mpr hi]
theorem wl_setL {N : Nat} {en : En} {ad : Nat → Nat} {σ : St} {k : Nat} {f : Nat → Int64} {x : va_E} (h : k < N) (he : en k (σ.1 k) f = x) : (wl N en ad σ).set k (ad k, x) = wl N en ad (sL σ k f) := by
  apply List.ext_getElem?
  intro i
  rw [List.getElem?_set]
  by_cases hik : k = i
  · subst hik
    simp [wl, sL, h, he]
  · rcases Nat.lt_or_ge i N with hi | hi
    · simp [wl, sL, hik, Ne.symm hik, hi]
    · simp [wl, hik, Nat.not_lt.mpr hi]
/-! the small words of the functions -/
def nm {α β : Type} (a : α) (f : α → β) : β := f a
def inb (i : Int32) (n : Nat) : Bool := decide (¬ (i < 0 ∨ n ≤ i.toNatClampNeg))
def ck {α : Type} (b : Bool) (x : Option α) : Option α := match b with
  | true => x
  | false => none
def rd {α : Type} (f : Nat → Int32) (n : Nat) (i : Int32) (g : Int32 → Option α) : Option α := ck (inb i n) (g (f i.toNatClampNeg))
def rdL {α : Type} (f : Nat → Int64) (n : Nat) (i : Int32) (g : Int64 → Option α) : Option α := ck (inb i n) (g (f i.toNatClampNeg))
def bd {α β γ : Type} (x : Option (α × β)) (g : α → β → Option γ) : Option γ := match x with
  | some (a, b) => g a b
  | none => none
def bv {α γ : Type} (x : Option α) (g : α → Option γ) : Option γ := match x with
  | some a => g a
  | none => none
def nz (v : Int32) : Bool := decide (¬ v = 0)
def nzL (v : Int64) : Bool := decide (¬ v = 0)
def bz (v : Int32) : Bool := v == 0 || v == 1
def lp {α ρ : Type} (B : (α → Option ρ) → α → Option ρ) : Nat → α → Option ρ
  | 0, _ => none
  | n + 1, a => B (lp B n) a
theorem nm_el {α γ : Type} {P : Prop} {a : α} {f : α → Option γ} {o : γ} (hf : nm a f = some o) (k : ∀ x, a = x → f x = some o → P) : P := k a rfl hf
theorem ck_el {γ : Type} {P : Prop} {b : Bool} {x : Option γ} {o : γ} (hf : ck b x = some o) (k : b = true → x = some o → P) : P := by
  cases b with
  | true => exact k rfl hf
  | false => exact absurd hf (by simp [ck])
theorem inb_in {i : Int32} {n : Nat} (h : inb i n = true) : vp_in i n := (of_decide_eq_true h : ¬ (i < 0 ∨ n ≤ i.toNatClampNeg))
theorem ckb_el {γ : Type} {P : Prop} {i : Int32} {n : Nat} {x : Option γ} {o : γ} (hf : ck (inb i n) x = some o) (k : vp_in i n → x = some o → P) : P := ck_el hf (fun a b => k (inb_in a) b)
theorem rd_el {γ : Type} {P : Prop} {f : Nat → Int32} {n : Nat} {i : Int32} {g : Int32 → Option γ} {o : γ} (hf : rd f n i g = some o) (k : ∀ v, vp_in i n → f i.toNatClampNeg = v → g v = some o → P) : P := ckb_el hf (fun a b => k _ a rfl b)
theorem rdL_el {γ : Type} {P : Prop} {f : Nat → Int64} {n : Nat} {i : Int32} {g : Int64 → Option γ} {o : γ} (hf : rdL f n i g = some o) (k : ∀ v, vp_in i n → f i.toNatClampNeg = v → g v = some o → P) : P := ckb_el hf (fun a b => k _ a rfl b)
theorem bd_el {α β γ : Type} {P : Prop} {x : Option (α × β)} {g : α → β → Option γ} {o : γ} (hf : bd x g = some o) (k : ∀ a b, x = some (a, b) → g a b = some o → P) : P := by
  cases x with
  | none => exact absurd hf (by simp [bd])
  | some q => exact k q.1 q.2 rfl hf
theorem bv_el {α γ : Type} {P : Prop} {x : Option α} {g : α → Option γ} {o : γ} (hf : bv x g = some o) (k : ∀ a, x = some a → g a = some o → P) : P := by
  cases x with
  | none => exact absurd hf (by simp [bv])
  | some q => exact k q rfl hf
theorem ifT {γ : Type} {c : Prop} {d : Decidable c} {x y : Option γ} {o : γ} (h : c) (hf : (if c then x else y) = some o) : x = some o := by rwa [if_pos h] at hf
theorem ifF {γ : Type} {c : Prop} {d : Decidable c} {x y : Option γ} {o : γ} (h : ¬ c) (hf : (if c then x else y) = some o) : y = some o := by rwa [if_neg h] at hf
theorem lp_el {α ρ : Type} {B : (α → Option ρ) → α → Option ρ} {o : ρ} {P : α → Prop} (hs : ∀ (rec : α → Option ρ) (a : α), (∀ a', rec a' = some o → P a') → B rec a = some o → P a) : ∀ (n : Nat) (a : α), lp B n a = some o → P a := by
  intro n
  induction n with
  | zero => intro a h; exact absurd h (by simp [lp])
  | succ n ih => intro a h; exact hs (lp B n) a ih h
/-! what stands fixed in a walk; what the heap holds -/
def Cx (p : Program) (s : State) (m : MethodId) (args : Array Value) (meth : Method) (c : Code) (cc : ByteArray) (nL : Nat) (own : String) (D : va_G) (tys : List (ClassId × FieldType)) : Prop :=
  p.tables.exec = Jvm.exec ∧ c.code = cc ∧ c.maxLocals = nL ∧ s.vm.findClass own = some m.cls ∧ (∀ w ∈ wA, w.before args s = true) ∧ meth.locks = false ∧ va_K D vwCl tys s
def Hs (D : va_G) (A : Nat → Prop) (H0 : Heap) (w : va_W) (H : Heap) (locs : List Loc) : Prop := va_P D vwCl w H ∧ va_D A w ∧ va_S A H0 H locs ∧ ∀ q, H0.size ≤ q → A q
/-! contracts -/
def PC (D : va_G) (tys : List (ClassId × FieldType)) (w : va_W) (av : List Value) (sz : Nat) : Array Value → State → Prop := va_Pc av (fun U => U.heap.size = sz ∧ va_P D vwCl w U.heap ∧ va_K D vwCl tys U ∧ va_D (fun _ => True) w)
def BB (D : va_G) (tys : List (ClassId × FieldType)) (wf : St → va_W) (A : Nat → Prop) (u : St) (t : State) : Prop := va_P D vwCl (wf u) t.heap ∧ va_K D vwCl tys t ∧ va_D A (wf u)
def QI (D : va_G) (tys : List (ClassId × FieldType)) (wf : St → va_W) (A : Nat → Prop) (o : Int32 × St) : Array Value → State → Outcome → State → Prop := va_Qi (fun (r : Int32) (u : St) => (r, u) = o) (BB D tys wf A) A
def QL (D : va_G) (tys : List (ClassId × FieldType)) (wf : St → va_W) (A : Nat → Prop) (o : Int64 × St) : Array Value → State → Outcome → State → Prop := va_Ql (fun (r : Int64) (u : St) => (r, u) = o) (BB D tys wf A) A
def QV (D : va_G) (tys : List (ClassId × FieldType)) (wf : St → va_W) (A : Nat → Prop) (o : St) : Array Value → State → Outcome → State → Prop := va_Qv (fun (u : St) => u = o) (BB D tys wf A) A
def QA (D : va_G) (tys : List (ClassId × FieldType)) (wf : St → va_W) (ad : Nat → Nat) (A : Nat → Prop) (o : Nat × St) : Array Value → State → Outcome → State → Prop := va_Qr (fun (u : St) => u = o.2) (fun u a t => a = ad o.1 ∧ BB D tys wf A u t) A
def CI (l : Launch) (D : va_G) (tys : List (ClassId × FieldType)) (wf : St → va_W) (y : MethodName) (cy : ByteArray) (nL : Nat) (ret : Option FieldType) (rm : Room) (av : List Value) (σ : St) (o : Int32 × St) : Prop :=
  ∀ sz : Nat, Met l y (Cond.code y cy nL ret :: wA) rm (PC D tys (wf σ) av sz) (QI D tys wf (va_A (wf σ) sz) o) 0 0 (va_A (wf σ) sz)
def CL (l : Launch) (D : va_G) (tys : List (ClassId × FieldType)) (wf : St → va_W) (y : MethodName) (cy : ByteArray) (nL : Nat) (ret : Option FieldType) (rm : Room) (av : List Value) (σ : St) (o : Int64 × St) : Prop :=
  ∀ sz : Nat, Met l y (Cond.code y cy nL ret :: wA) rm (PC D tys (wf σ) av sz) (QL D tys wf (va_A (wf σ) sz) o) 0 0 (va_A (wf σ) sz)
def CV (l : Launch) (D : va_G) (tys : List (ClassId × FieldType)) (wf : St → va_W) (y : MethodName) (cy : ByteArray) (nL : Nat) (ret : Option FieldType) (rm : Room) (av : List Value) (σ : St) (o : St) : Prop :=
  ∀ sz : Nat, Met l y (Cond.code y cy nL ret :: wA) rm (PC D tys (wf σ) av sz) (QV D tys wf (va_A (wf σ) sz) o) 0 0 (va_A (wf σ) sz)
def CA (l : Launch) (D : va_G) (tys : List (ClassId × FieldType)) (wf : St → va_W) (ad : Nat → Nat) (y : MethodName) (cy : ByteArray) (nL : Nat) (ret : Option FieldType) (rm : Room) (av : List Value) (σ : St) (o : Nat × St) : Prop :=
  ∀ sz : Nat, Met l y (Cond.code y cy nL ret :: wA) rm (PC D tys (wf σ) av sz) (QA D tys wf ad (va_A (wf σ) sz) o) 0 0 (va_A (wf σ) sz)
section ENTRY
variable {l : Launch} {D : va_G} {tys : List (ClassId × FieldType)} {wf : St → va_W} {ad : Nat → Nat} {y : MethodName} {cy : ByteArray} {nL : Nat} {ret : Option FieldType} {rm : Room} {av : List Value} {σ : St}
theorem met_of {Qc : (Nat → Prop) → Array Value → State → Outcome → State → Prop} (hy : plainName y.cls = true) (hn : (lg_sl av).length ≤ nL) (body : ∀ (p : Program) (e : Env) (s : State) (m : MethodId) (below : List Frame) (meth : Method) (c : Code) (A : Nat → Prop) (ls : Array Slot), Cx p s m av.toArray meth c cy nL y.cls D tys → meth.sig.returnType = ret → Hs D A s.heap (wf σ) s.heap [] → lv_has ls nL (lv_args 0 av) → W p l e rm s m av.toArray below meth c s.heap [] 0 0 (MQ below (Qc A) av.toArray s 0 0 A) (F0 m 0 ls [])) (sz : Nat) :
    Met l y (Cond.code y cy nL ret :: wA) rm (PC D tys (wf σ) av sz) (Qc (va_A (wf σ) sz)) 0 0 (va_A (wf σ) sz) := by
  refine Met.ofW (cc := cy) (maxL := nL) (ret := ret) hy rfl ?_
  intro p e s m args below meth c s₁ B hml hv
  obtain ⟨rfl, hsz, hP, hK, hD0⟩ := hv
  have hts := atoms_spec (ws := Cond.code y cy nL ret :: wA) B.pre
  subst hsz
  rw [lg_entry_eq]
  exact body p e s m below meth c _ _ ⟨B.exec, B.bytes, hml, findClass_of_methodNamed B.named, fun w hw => hts w (List.mem_cons_of_mem _ hw), B.notSynchronized, hK⟩ B.returns ⟨hP, hD0.self, va_S.rf, fun q h => Or.inr h⟩ (lv_entry av hn)
end ENTRY
end
section
/-! ===== the kit's rows, over such worlds (own work) ===== -/
section XR
variable {p : Program} {l : Launch} {e : Env} {R : Room} {s : State} {m : MethodId} {args : Array Value} {below : List Frame} {meth : Method} {c : Code} {H : Heap} {locs : List Loc} {cells slots : Nat} {Q : State → Prop}
variable {pc : Nat} {ls : Array Slot} {rest st0 : List Value} {cc : ByteArray} {nL : Nat} {own : String} {D : va_G} {tys : List (ClassId × FieldType)} {A : Nat → Prop} {H0 : Heap} {N : Nat} {en : En} {ad : Nat → Nat} {σ σ' : St} {wf : St → va_W}
theorem x_topi {x y : Int32} (h : x = y) (k : W p l e R s m args below meth c H locs cells slots Q (F0 m pc ls (.int y :: rest))) : W p l e R s m args below meth c H locs cells slots Q (F0 m pc ls (.int x :: rest)) := by subst h; exact k
theorem x_topl {x y : Int64} (h : x = y) (k : W p l e R s m args below meth c H locs cells slots Q (F0 m pc ls (.long y :: rest))) : W p l e R s m args below meth c H locs cells slots Q (F0 m pc ls (.long x :: rest)) := by subst h; exact k
theorem x_get (C : Cx p s m args meth c cc nL own D tys) (h : Hs D A H0 (wl N en ad σ) H locs) (k j : Nat) (hk : k < N) {ci : Nat} {fs : List Value} {Cn : String} {T : u_T} {Nf : Nat} (he : en k (σ.1 k) (σ.2 k) = .inr (ci, fs)) (hc : vwCl[ci]? = some (Cn, T, Nf)) (hin : ∀ w ∈ u_ws Cn T Nf, w ∈ wA) (hj : j < Nf) {idx : Nat} (hl : Cond.fieldLink own idx (T j).1 (T j).2.1 (T j).2.2.1 ∈ wA) {v : Value} (hv : fs[j]? = some v) (hd : decode cc pc = .ok (.getfield idx, 3))
    (kk : W p l e R s m args below meth c H locs cells slots Q (F0 m (pc + 3) ls (v :: rest))) : W p l e R s m args below meth c H locs cells slots Q (F0 m pc ls (.ref (ad k) :: rest)) :=
  va_get C.1 C.2.1 C.2.2.2.2.1 hin C.2.2.2.1 C.2.2.2.2.2.2 h.1 k (wl_at hk he) hc j hj (C.2.2.2.2.1 _ hl) (fun _ x => x) hv hd kk
theorem x_puti (C : Cx p s m args meth c cc nL own D tys) (h : Hs D A H0 (wl N en ad σ) H locs) (k j : Nat) (hk : k < N) {ci : Nat} {fs : List Value} {Cn : String} {T : u_T} {Nf : Nat} {ty : Nat → FieldType} (he : en k (σ.1 k) (σ.2 k) = .inr (ci, fs)) (hc : vwCl[ci]? = some (Cn, T, Nf)) (hin : ∀ w ∈ u_ws Cn T Nf, w ∈ wA) (hty : ∀ k, k < Nf → parseFieldDescriptor (T k).2.2.1 = some (ty k)) (hnm : ∀ a, a < Nf → ∀ b, b < Nf → a ≠ b → (T a).2.1 ≠ (T b).2.1) (hj : j < Nf) {idx : Nat} (hl : Cond.fieldLink own idx (T j).1 (T j).2.1 (T j).2.2.1 ∈ wA) (hfin : (T j).2.2.2 = false) (hti : ty j = .int) (hlen : j < fs.length) {x : Int32} (he' : en k (upd (σ.1 k) j x) (σ.2 k) = .inr (ci, fs.set j (.int x))) (hd : decode cc pc = .ok (.putfield idx, 3)) (hσ : sI σ k j x = σ')
    (kk : ∀ (H1 : Heap) (locs1 : List Loc), Hs D A H0 (wl N en ad σ') H1 locs1 → W p l e R s m args below meth c H1 locs1 cells slots Q (F0 m (pc + 3) ls rest)) : W p l e R s m args below meth c H locs cells slots Q (F0 m pc ls (.int x :: .ref (ad k) :: rest)) := by
  subst hσ
  refine va_put C.1 C.2.1 C.2.2.2.2.1 hin ty hty hnm C.2.2.2.1 C.2.2.2.2.2.2 h.1 h.2.1 h.2.2.1 k (wl_at hk he) hc j hj (C.2.2.2.2.1 _ hl) (fun _ x => x) hfin (by rw [hty j hj, hti]) rfl rfl hlen hd (fun H1 locs1 hP hD hS => ?_)
  rw [wl_setR hk he'] at hP hD
  exact kk H1 locs1 ⟨hP, hD, hS, h.2.2.2⟩
theorem x_putl (C : Cx p s m args meth c cc nL own D tys) (h : Hs D A H0 (wl N en ad σ) H locs) (k j : Nat) (hk : k < N) {ci : Nat} {fs : List Value} {Cn : String} {T : u_T} {Nf : Nat} {ty : Nat → FieldType} (he : en k (σ.1 k) (σ.2 k) = .inr (ci, fs)) (hc : vwCl[ci]? = some (Cn, T, Nf)) (hin : ∀ w ∈ u_ws Cn T Nf, w ∈ wA) (hty : ∀ k, k < Nf → parseFieldDescriptor (T k).2.2.1 = some (ty k)) (hnm : ∀ a, a < Nf → ∀ b, b < Nf → a ≠ b → (T a).2.1 ≠ (T b).2.1) (hj : j < Nf) {idx : Nat} (hl : Cond.fieldLink own idx (T j).1 (T j).2.1 (T j).2.2.1 ∈ wA) (hfin : (T j).2.2.2 = false) (hti : ty j = .long) (hlen : j < fs.length) {x : Int64} (he' : en k (σ.1 k) (vp_updL (σ.2 k) j x) = .inr (ci, fs.set j (.long x))) (hd : decode cc pc = .ok (.putfield idx, 3)) (hσ : sJ σ k j x = σ')
    (kk : ∀ (H1 : Heap) (locs1 : List Loc), Hs D A H0 (wl N en ad σ') H1 locs1 → W p l e R s m args below meth c H1 locs1 cells slots Q (F0 m (pc + 3) ls rest)) : W p l e R s m args below meth c H locs cells slots Q (F0 m pc ls (.long x :: .ref (ad k) :: rest)) := by
  subst hσ
  refine va_put C.1 C.2.1 C.2.2.2.2.1 hin ty hty hnm C.2.2.2.1 C.2.2.2.2.2.2 h.1 h.2.1 h.2.2.1 k (wl_at hk he) hc j hj (C.2.2.2.2.1 _ hl) (fun _ x => x) hfin (by rw [hty j hj, hti]) rfl rfl hlen hd (fun H1 locs1 hP hD hS => ?_)
  rw [wl_setL hk he'] at hP hD
  exact kk H1 locs1 ⟨hP, hD, hS, h.2.2.2⟩
theorem x_iald (C : Cx p s m args meth c cc nL own D tys) (h : Hs D A H0 (wl N en ad σ) H locs) (k t0 : Nat) (hk : k < N) {cA : ClassId} {n : Nat} (he : en k (σ.1 k) (σ.2 k) = .inl (cA, n, .inl (σ.1 k))) (ht : tys[t0]? = some (cA, .int)) {i v : Int32} (hin : vp_in i n) (hv : σ.1 k i.toNatClampNeg = v) (hd : decode cc pc = .ok (.iaload, 1))
    (kk : W p l e R s m args below meth c H locs cells slots Q (F0 m (pc + 1) ls (.int v :: rest))) : W p l e R s m args below meth c H locs cells slots Q (F0 m pc ls (.int i :: .ref (ad k) :: rest)) := by
  subst hv
  exact va_iald C.1 C.2.1 C.2.2.2.2.2.2 h.1 k t0 (wl_at hk he) ht hin hd kk
theorem x_bald (C : Cx p s m args meth c cc nL own D tys) (h : Hs D A H0 (wl N en ad σ) H locs) (k t0 : Nat) (hk : k < N) {cA : ClassId} {n : Nat} (he : en k (σ.1 k) (σ.2 k) = .inl (cA, n, .inl (σ.1 k))) (ht : tys[t0]? = some (cA, .byte)) {i v : Int32} (hin : vp_in i n) (hv : σ.1 k i.toNatClampNeg = v) (hd : decode cc pc = .ok (.baload, 1))
    (kk : W p l e R s m args below meth c H locs cells slots Q (F0 m (pc + 1) ls (.int v :: rest))) : W p l e R s m args below meth c H locs cells slots Q (F0 m pc ls (.int i :: .ref (ad k) :: rest)) := by
  subst hv
  exact va_bald C.1 C.2.1 C.2.2.2.2.2.2 h.1 k t0 (wl_at hk he) ht hin hd kk
theorem x_zald (C : Cx p s m args meth c cc nL own D tys) (h : Hs D A H0 (wl N en ad σ) H locs) (k t0 : Nat) (hk : k < N) {cA : ClassId} {n : Nat} (he : en k (σ.1 k) (σ.2 k) = .inl (cA, n, .inl (σ.1 k))) (ht : tys[t0]? = some (cA, .boolean)) {i v : Int32} (hin : vp_in i n) (hv : σ.1 k i.toNatClampNeg = v) (hd : decode cc pc = .ok (.baload, 1))
    (kk : W p l e R s m args below meth c H locs cells slots Q (F0 m (pc + 1) ls (.int v :: rest))) : W p l e R s m args below meth c H locs cells slots Q (F0 m pc ls (.int i :: .ref (ad k) :: rest)) := by
  subst hv
  exact va_zald C.1 C.2.1 C.2.2.2.2.2.2 h.1 k t0 (wl_at hk he) ht hin hd kk
theorem x_lald (C : Cx p s m args meth c cc nL own D tys) (h : Hs D A H0 (wl N en ad σ) H locs) (k t0 : Nat) (hk : k < N) {cA : ClassId} {n : Nat} (he : en k (σ.1 k) (σ.2 k) = .inl (cA, n, .inr (.inl (σ.2 k)))) (ht : tys[t0]? = some (cA, .long)) {i : Int32} {v : Int64} (hin : vp_in i n) (hv : σ.2 k i.toNatClampNeg = v) (hd : decode cc pc = .ok (.laload, 1))
    (kk : W p l e R s m args below meth c H locs cells slots Q (F0 m (pc + 1) ls (.long v :: rest))) : W p l e R s m args below meth c H locs cells slots Q (F0 m pc ls (.int i :: .ref (ad k) :: rest)) := by
  subst hv
  exact va_lald C.1 C.2.1 C.2.2.2.2.2.2 h.1 k t0 (wl_at hk he) ht hin hd kk
theorem x_iast (C : Cx p s m args meth c cc nL own D tys) (h : Hs D A H0 (wl N en ad σ) H locs) (k t0 : Nat) (hk : k < N) {cA : ClassId} {n : Nat} (he : ∀ f, en k f (σ.2 k) = .inl (cA, n, .inl f)) (ht : tys[t0]? = some (cA, .int)) {i x : Int32} (hin : vp_in i n) (hd : decode cc pc = .ok (.iastore, 1)) (hσ : sI σ k i.toNatClampNeg x = σ')
    (kk : ∀ (H1 : Heap) (locs1 : List Loc), Hs D A H0 (wl N en ad σ') H1 locs1 → W p l e R s m args below meth c H1 locs1 cells slots Q (F0 m (pc + 1) ls rest)) : W p l e R s m args below meth c H locs cells slots Q (F0 m pc ls (.int x :: .int i :: .ref (ad k) :: rest)) := by
  subst hσ
  refine va_iast C.1 C.2.1 C.2.2.2.2.2.2 h.1 h.2.1 h.2.2.1 k t0 (wl_at hk (he _)) ht hin hd (fun H1 locs1 hP hD hS => ?_)
  rw [wl_setR hk (he _)] at hP hD
  exact kk H1 locs1 ⟨hP, hD, hS, h.2.2.2⟩
theorem x_bast (C : Cx p s m args meth c cc nL own D tys) (h : Hs D A H0 (wl N en ad σ) H locs) (k t0 : Nat) (hk : k < N) {cA : ClassId} {n : Nat} (he : ∀ f, en k f (σ.2 k) = .inl (cA, n, .inl f)) (ht : tys[t0]? = some (cA, .byte)) {i x : Int32} (hin : vp_in i n) (hd : decode cc pc = .ok (.bastore, 1)) (hσ : sI σ k i.toNatClampNeg (vp_nar .byte x) = σ')
    (kk : ∀ (H1 : Heap) (locs1 : List Loc), Hs D A H0 (wl N en ad σ') H1 locs1 → W p l e R s m args below meth c H1 locs1 cells slots Q (F0 m (pc + 1) ls rest)) : W p l e R s m args below meth c H locs cells slots Q (F0 m pc ls (.int x :: .int i :: .ref (ad k) :: rest)) := by
  subst hσ
  refine va_bast C.1 C.2.1 C.2.2.2.2.2.2 h.1 h.2.1 h.2.2.1 k t0 (wl_at hk (he _)) ht hin hd (fun H1 locs1 hP hD hS => ?_)
  rw [wl_setR hk (he _)] at hP hD
  exact kk H1 locs1 ⟨hP, hD, hS, h.2.2.2⟩
theorem x_zast (C : Cx p s m args meth c cc nL own D tys) (h : Hs D A H0 (wl N en ad σ) H locs) (k t0 : Nat) (hk : k < N) {cA : ClassId} {n : Nat} (he : ∀ f, en k f (σ.2 k) = .inl (cA, n, .inl f)) (ht : tys[t0]? = some (cA, .boolean)) {i x : Int32} (hin : vp_in i n) (hd : decode cc pc = .ok (.bastore, 1)) (hσ : sI σ k i.toNatClampNeg (vp_nar .boolean x) = σ')
    (kk : ∀ (H1 : Heap) (locs1 : List Loc), Hs D A H0 (wl N en ad σ') H1 locs1 → W p l e R s m args below meth c H1 locs1 cells slots Q (F0 m (pc + 1) ls rest)) : W p l e R s m args below meth c H locs cells slots Q (F0 m pc ls (.int x :: .int i :: .ref (ad k) :: rest)) := by
  subst hσ
  refine va_zast C.1 C.2.1 C.2.2.2.2.2.2 h.1 h.2.1 h.2.2.1 k t0 (wl_at hk (he _)) ht hin hd (fun H1 locs1 hP hD hS => ?_)
  rw [wl_setR hk (he _)] at hP hD
  exact kk H1 locs1 ⟨hP, hD, hS, h.2.2.2⟩
theorem x_last (C : Cx p s m args meth c cc nL own D tys) (h : Hs D A H0 (wl N en ad σ) H locs) (k t0 : Nat) (hk : k < N) {cA : ClassId} {n : Nat} (he : ∀ f, en k (σ.1 k) f = .inl (cA, n, .inr (.inl f))) (ht : tys[t0]? = some (cA, .long)) {i : Int32} {x : Int64} (hin : vp_in i n) (hd : decode cc pc = .ok (.lastore, 1)) (hσ : sJ σ k i.toNatClampNeg x = σ')
    (kk : ∀ (H1 : Heap) (locs1 : List Loc), Hs D A H0 (wl N en ad σ') H1 locs1 → W p l e R s m args below meth c H1 locs1 cells slots Q (F0 m (pc + 1) ls rest)) : W p l e R s m args below meth c H locs cells slots Q (F0 m pc ls (.long x :: .int i :: .ref (ad k) :: rest)) := by
  subst hσ
  refine va_last C.1 C.2.1 C.2.2.2.2.2.2 h.1 h.2.1 h.2.2.1 k t0 (wl_at hk (he _)) ht hin hd (fun H1 locs1 hP hD hS => ?_)
  rw [wl_setL hk (he _)] at hP hD
  exact kk H1 locs1 ⟨hP, hD, hS, h.2.2.2⟩
theorem x_alen (C : Cx p s m args meth c cc nL own D tys) (h : Hs D A H0 (wl N en ad σ) H locs) (k t0 : Nat) (hk : k < N) {cA : ClassId} {x : vp_A} {ty : FieldType} (he : en k (σ.1 k) (σ.2 k) = .inl (cA, x)) (ht : tys[t0]? = some (cA, ty)) {v : Int32} (hv : Int32.ofNat x.1 = v) (hd : decode cc pc = .ok (.arraylength, 1))
    (kk : W p l e R s m args below meth c H locs cells slots Q (F0 m (pc + 1) ls (.int v :: rest))) : W p l e R s m args below meth c H locs cells slots Q (F0 m pc ls (.ref (ad k) :: rest)) :=
  va_alen C.1 C.2.1 C.2.2.2.2.2.2 h.1 k t0 (wl_at hk he) ht hv hd kk
theorem x_copy (C : Cx p s m args meth c cc nL own D tys) (h : Hs D A H0 (wl N en ad σ) H locs) (hls : ls.size = nL) (k0 k1 t0 : Nat) (hk0 : k0 < N) (hk1 : k1 < N) {cA : ClassId} {n0 n1 : Nat} (he0 : en k0 (σ.1 k0) (σ.2 k0) = .inl (cA, n0, .inl (σ.1 k0))) (he1 : ∀ f, en k1 f (σ.2 k1) = .inl (cA, n1, .inl f)) (ht : tys[t0]? = some (cA, .int)) {idx : Nat} (hlk : Cond.methodLink own idx arraycopyName ∈ wA) (hna : Cond.native arraycopyName ∈ wA) (hst : Cond.static arraycopyName ∈ wA) (hin : Cond.initialized "java/lang/System" ∈ wA) {sp dp n : Int32} (hb : (¬ sp < 0) ∧ (¬ dp < 0) ∧ (¬ n < 0) ∧ sp.toNatClampNeg + n.toNatClampNeg ≤ n0 ∧ dp.toNatClampNeg + n.toNatClampNeg ≤ n1) (hfr : 1 ≤ R.frames) (hlo : (rest.map fun v => v.category).sum + (nativeFrameWords "java/lang/System" "arraycopy" 5 + 11) ≤ R.locals) (hd : decode cc pc = .ok (.invokestatic idx, 3)) (hσ : sR σ k1 (va_cpy (σ.1 k0) (σ.1 k1) sp.toNatClampNeg dp.toNatClampNeg n.toNatClampNeg) = σ')
    (kk : ∀ (H1 : Heap) (locs1 : List Loc), Hs D A H0 (wl N en ad σ') H1 locs1 → W p l e R s m args below meth c H1 locs1 cells slots Q (F0 m (pc + 3) ls rest)) : W p l e R s m args below meth c H locs cells slots Q (F0 m pc ls (.int n :: .int dp :: .ref (ad k1) :: .int sp :: .ref (ad k0) :: rest)) := by
  subst hσ
  refine va_copyi C.1 C.2.1 (C.2.2.1.trans hls.symm) C.2.2.2.1 (C.2.2.2.2.1 _ hlk) (C.2.2.2.2.1 _ hna) (C.2.2.2.2.1 _ hst) (C.2.2.2.2.1 _ hin) C.2.2.2.2.2.2 h.1 h.2.1 h.2.2.1 k0 k1 t0 t0 (wl_at hk0 he0) (wl_at hk1 (he1 _)) ht ht rfl hb.1 hb.2.1 hb.2.2.1 hb.2.2.2.1 hb.2.2.2.2 (fun _ _ => rfl) hfr hlo hd (fun H1 locs1 hP hD hS => ?_)
  rw [wl_setR hk1 (he1 _)] at hP hD
  exact kk H1 locs1 ⟨hP, hD, hS, h.2.2.2⟩
/-! ends -/
theorem x_iret (C : Cx p s m args meth c cc nL own D tys) (hr : meth.sig.returnType = some .int) (h : Hs D A s.heap (wf σ) H locs) {v : Int32} {o : Int32 × St} (hf : some (v, σ) = some o) (hd : decode cc pc = .ok (.ireturn, 1)) : W p l e R s m args below meth c H locs 0 0 (MQ below (QI D tys wf A o) args s 0 0 A) (F0 m pc ls [.int v]) :=
  W.iret C.1 C.2.1 hr (fun t ht hW => ⟨⟨v, σ, rfl, Option.some.inj hf, by rw [ht]; exact h.1, va_K.moved hW.alike C.2.2.2.2.2.2, h.2.1⟩, h.2.2.1.F ht⟩) h.2.2.1.2.2 hd C.2.2.2.2.2.1
theorem x_zret (C : Cx p s m args meth c cc nL own D tys) (hr : meth.sig.returnType = some .boolean) (h : Hs D A s.heap (wf σ) H locs) {v : Int32} {o : Int32 × St} (hz : bz v = true) (hf : some (v, σ) = some o) (hd : decode cc pc = .ok (.ireturn, 1)) : W p l e R s m args below meth c H locs 0 0 (MQ below (QI D tys wf A o) args s 0 0 A) (F0 m pc ls [.int v]) := by
  have hn : narrow .boolean (.int v) = .int v := by
    have h2 : v = 0 ∨ v = 1 := by simpa [bz] using hz
    rcases h2 with rfl | rfl <;> rfl
  exact W.zret C.1 C.2.1 hr hn (fun t ht hW => ⟨⟨v, σ, rfl, Option.some.inj hf, by rw [ht]; exact h.1, va_K.moved hW.alike C.2.2.2.2.2.2, h.2.1⟩, h.2.2.1.F ht⟩) h.2.2.1.2.2 hd C.2.2.2.2.2.1
theorem x_lret (C : Cx p s m args meth c cc nL own D tys) (hr : meth.sig.returnType = some .long) (h : Hs D A s.heap (wf σ) H locs) {v : Int64} {o : Int64 × St} (hf : some (v, σ) = some o) (hd : decode cc pc = .ok (.lreturn, 1)) : W p l e R s m args below meth c H locs 0 0 (MQ below (QL D tys wf A o) args s 0 0 A) (F0 m pc ls [.long v]) :=
  W.lret C.1 C.2.1 hr (fun t ht hW => ⟨⟨v, σ, rfl, Option.some.inj hf, by rw [ht]; exact h.1, va_K.moved hW.alike C.2.2.2.2.2.2, h.2.1⟩, h.2.2.1.F ht⟩) h.2.2.1.2.2 hd C.2.2.2.2.2.1
theorem x_vret (C : Cx p s m args meth c cc nL own D tys) (hr : meth.sig.returnType = none) (h : Hs D A s.heap (wf σ) H locs) {o : St} (hf : some σ = some o) (hd : decode cc pc = .ok (.return_, 1)) : W p l e R s m args below meth c H locs 0 0 (MQ below (QV D tys wf A o) args s 0 0 A) (F0 m pc ls []) :=
  W.vret C.1 C.2.1 hr (fun t ht hW => ⟨⟨σ, rfl, Option.some.inj hf, by rw [ht]; exact h.1, va_K.moved hW.alike C.2.2.2.2.2.2, h.2.1⟩, h.2.2.1.F ht⟩) h.2.2.1.2.2 hd C.2.2.2.2.2.1
theorem x_aret (C : Cx p s m args meth c cc nL own D tys) {cn : String} (hr : meth.sig.returnType = some (.object cn)) (h : Hs D A s.heap (wf σ) H locs) {v : Nat} {o : Nat × St} (hf : some (v, σ) = some o) (hd : decode cc pc = .ok (.areturn, 1)) : W p l e R s m args below meth c H locs 0 0 (MQ below (QA D tys wf ad A o) args s 0 0 A) (F0 m pc ls [.ref (ad v)]) := by
  cases Option.some.inj hf
  exact W.aret C.1 C.2.1 hr (Or.inl ⟨_, rfl⟩) (Or.inr ⟨_, rfl⟩) (fun t ht hW => ⟨⟨σ, ad v, rfl, rfl, rfl, by rw [ht]; exact h.1, va_K.moved hW.alike C.2.2.2.2.2.2, h.2.1⟩, h.2.2.1.F ht⟩) h.2.2.1.2.2 hd C.2.2.2.2.2.1
/-! calls: the whole world goes along -/
theorem Hs.free {w : va_W} (h : Hs D A H0 w H locs) : ∀ q, va_A w H.size q → A q := by
  intro q hq
  rcases hq with ⟨k, x, hk⟩ | hq
  · exact h.2.1.2 k (q, x) hk
  · exact h.2.2.2 q (Nat.le_trans h.2.2.1.1 hq)
end XR
/-- what a call of y at entry idx of own's pool links -/
def Lk (own : String) (idx : Nat) (y : MethodName) (cy : ByteArray) (nL : Nat) (ret : Option FieldType) (n : Nat) : Prop :=
  Cond.methodLink own idx y ∈ wA ∧ Cond.instanceMethod y ∈ wA ∧ Cond.selects y.cls y y ∈ wA ∧ Cond.initialized y.cls ∈ wA ∧ Cond.code y cy nL ret ∈ wA ∧ y.cls ≠ "java/lang/invoke/MethodHandle" ∧ y.cls ≠ "java/lang/invoke/VarHandle" ∧ (parseMethodDescriptor y.desc).map (fun d => d.parameters.length) = some n
def LkS (own : String) (idx : Nat) (y : MethodName) (cy : ByteArray) (nL : Nat) (ret : Option FieldType) (n : Nat) : Prop :=
  Cond.methodLink own idx y ∈ wA ∧ Cond.static y ∈ wA ∧ Cond.initialized y.cls ∈ wA ∧ Cond.code y cy nL ret ∈ wA ∧ y.cls ≠ "java/lang/invoke/MethodHandle" ∧ y.cls ≠ "java/lang/invoke/VarHandle" ∧ (parseMethodDescriptor y.desc).map (fun d => d.parameters.length) = some n
theorem gd_all {y : MethodName} {cy : ByteArray} {nL : Nat} {ret : Option FieldType} (h : Cond.code y cy nL ret ∈ wA) : GoodIn wA (Cond.code y cy nL ret :: wA) := by
  intro w hw
  rcases List.mem_cons.mp hw with rfl | hw
  · exact ⟨h, good_of_word (wA_good _ h)⟩
  · exact ⟨hw, good_of_word (wA_good _ hw)⟩
section XC
variable {p : Program} {l : Launch} {e : Env} {R : Room} {s : State} {m : MethodId} {args : Array Value} {below : List Frame} {meth : Method} {c : Code} {H : Heap} {locs : List Loc} {Q : State → Prop}
variable {pc : Nat} {ls : Array Slot} {rest st0 : List Value} {cc : ByteArray} {nL : Nat} {own : String} {D : va_G} {tys : List (ClassId × FieldType)} {A : Nat → Prop} {ad : Nat → Nat} {σ σ1 : St} {wf : St → va_W}
variable {y : MethodName} {cy : ByteArray} {nLy : Nat} {ret : Option FieldType} {rm : Room} {As : List Value} {b idx n : Nat} {Qc : Array Value → State → Outcome → State → Prop}
theorem x_runV (C : Cx p s m args meth c cc nL own D tys) (h : Hs D A s.heap (wf σ) H locs) (hM : Met l y (Cond.code y cy nLy ret :: wA) rm (PC D tys (wf σ) (.ref b :: As) H.size) Qc 0 0 (va_A (wf σ) H.size)) (K : Lk own idx y cy nLy ret n) (hn : As.length = n) (hR : rm.cells = 0 ∧ rm.slots = 0 ∧ rm.frames + 1 ≤ R.frames ∧ 8 + (nLy + 11) + rm.locals ≤ R.locals) (hc : ∃ cell : Cell, H[b]? = some cell ∧ cell.vm.isStatics = false ∧ s.vm.findClass y.cls = some cell.cls) (hls : ls.size = nL) (hst : st0 = As.reverse ++ .ref b :: rest) (hw : (rest.map fun v => v.category).sum ≤ 8) (hd : decode cc pc = .ok (.invokevirtual idx, 3)) :
    va_Run p l e R s m args below meth c H locs 0 0 0 0 (F0 m pc ls st0) rest (Qc (Value.ref b :: As).toArray) (va_A (wf σ) H.size) := by
  obtain ⟨k1, k2, k3, k4, k5, k6, k7, k8⟩ := K
  have hts := C.2.2.2.2.1
  have cw : CallW R s args own y.cls idx y cy nLy ret (Cond.code y cy nLy ret :: wA) rm 0 0 n := ⟨callB_of n hts (gd_all k5) rfl hR.1 hR.2.1 (hts _ k4) (hts _ k1) ⟨k6, k7, k8⟩ hR.2.2, hts _ k2, hts _ k3⟩
  exact va_runV (As := As) (rest := rest) ⟨C.1, C.2.1, C.2.2.1, C.2.2.2.1, hts⟩ hM cw ⟨fun a U g mk q => by obtain ⟨q0, q1, qP, qK, qD⟩ := q; exact ⟨q0, q1, qP, va_K.moved (u := U) (U := U.calling g mk a) (Vm.Alike.refl U.vm) qK, qD⟩, hc, fun U hU hW => ⟨rfl, by rw [hU], by rw [hU]; exact h.1, va_K.moved hW.alike C.2.2.2.2.2.2, h.2.1.weaken (fun _ _ _ _ => trivial)⟩⟩ rfl hn hls hst (lv_room hw) hd ⟨Nat.zero_le _, Nat.zero_le _⟩
theorem x_runS (C : Cx p s m args meth c cc nL own D tys) (h : Hs D A s.heap (wf σ) H locs) (hM : Met l y (Cond.code y cy nLy ret :: wA) rm (PC D tys (wf σ) As H.size) Qc 0 0 (va_A (wf σ) H.size)) (K : LkS own idx y cy nLy ret n) (hn : As.length = n) (hR : rm.cells = 0 ∧ rm.slots = 0 ∧ rm.frames + 1 ≤ R.frames ∧ 8 + (nLy + 11) + rm.locals ≤ R.locals) (hls : ls.size = nL) (hst : st0 = As.reverse ++ rest) (hw : (rest.map fun v => v.category).sum ≤ 8) (hd : decode cc pc = .ok (.invokestatic idx, 3)) :
    va_Run p l e R s m args below meth c H locs 0 0 0 0 (F0 m pc ls st0) rest (Qc As.toArray) (va_A (wf σ) H.size) := by
  obtain ⟨k1, k2, k4, k5, k6, k7, k8⟩ := K
  have hts := C.2.2.2.2.1
  have cw : CallB R s args own idx y cy nLy ret (Cond.code y cy nLy ret :: wA) rm 0 0 n ∧ (Cond.static y).before args s = true := ⟨callB_of n hts (gd_all k5) rfl hR.1 hR.2.1 (hts _ k4) (hts _ k1) ⟨k6, k7, k8⟩ hR.2.2, hts _ k2⟩
  exact va_runS (As := As) (rest := rest) ⟨C.1, C.2.1, C.2.2.1, C.2.2.2.1, hts⟩ hM cw ⟨fun a U g mk q => by obtain ⟨q0, q1, qP, qK, qD⟩ := q; exact ⟨q0, q1, qP, va_K.moved (u := U) (U := U.calling g mk a) (Vm.Alike.refl U.vm) qK, qD⟩, fun U hU hW => ⟨rfl, by rw [hU], by rw [hU]; exact h.1, va_K.moved hW.alike C.2.2.2.2.2.2, h.2.1.weaken (fun _ _ _ _ => trivial)⟩⟩ rfl hn hls hst (lv_room hw) hd ⟨Nat.zero_le _, Nat.zero_le _⟩
theorem x_goi {a : Array Value} {r : Int32} (h : Hs D A s.heap (wf σ) H locs) (hr : va_Run p l e R s m args below meth c H locs 0 0 0 0 (F0 m pc ls st0) rest (QI D tys wf (va_A (wf σ) H.size) (r, σ1) a) (va_A (wf σ) H.size)) (kk : ∀ (H1 : Heap) (locs1 : List Loc), Hs D A s.heap (wf σ1) H1 locs1 → W p l e R s m args below meth c H1 locs1 0 0 Q (F0 m (pc + 3) ls (.int r :: rest))) : W p l e R s m args below meth c H locs 0 0 Q (F0 m pc ls st0) := by
  refine va_calli hr h.2.2.1 (fun q _ hq => h.free q hq) h.free (fun r' u t H1 locs1 ht hvm hw hB hz hk hS => ?_)
  cases hw
  refine kk H1 locs1 ⟨?_, hB.2.2.weaken (fun _ _ _ x => h.free _ x), hS, h.2.2.2⟩
  rw [← ht]; exact hB.1
theorem x_gol {a : Array Value} {r : Int64} (h : Hs D A s.heap (wf σ) H locs) (hr : va_Run p l e R s m args below meth c H locs 0 0 0 0 (F0 m pc ls st0) rest (QL D tys wf (va_A (wf σ) H.size) (r, σ1) a) (va_A (wf σ) H.size)) (kk : ∀ (H1 : Heap) (locs1 : List Loc), Hs D A s.heap (wf σ1) H1 locs1 → W p l e R s m args below meth c H1 locs1 0 0 Q (F0 m (pc + 3) ls (.long r :: rest))) : W p l e R s m args below meth c H locs 0 0 Q (F0 m pc ls st0) := by
  refine va_calll hr h.2.2.1 (fun q _ hq => h.free q hq) h.free (fun r' u t H1 locs1 ht hvm hw hB hz hk hS => ?_)
  cases hw
  refine kk H1 locs1 ⟨?_, hB.2.2.weaken (fun _ _ _ x => h.free _ x), hS, h.2.2.2⟩
  rw [← ht]; exact hB.1
theorem x_gov {a : Array Value} (h : Hs D A s.heap (wf σ) H locs) (hr : va_Run p l e R s m args below meth c H locs 0 0 0 0 (F0 m pc ls st0) rest (QV D tys wf (va_A (wf σ) H.size) σ1 a) (va_A (wf σ) H.size)) (kk : ∀ (H1 : Heap) (locs1 : List Loc), Hs D A s.heap (wf σ1) H1 locs1 → W p l e R s m args below meth c H1 locs1 0 0 Q (F0 m (pc + 3) ls rest)) : W p l e R s m args below meth c H locs 0 0 Q (F0 m pc ls st0) := by
  refine va_callv hr h.2.2.1 (fun q _ hq => h.free q hq) h.free (fun u t H1 locs1 ht hvm hw hB hz hk hS => ?_)
  cases hw
  refine kk H1 locs1 ⟨?_, hB.2.2.weaken (fun _ _ _ x => h.free _ x), hS, h.2.2.2⟩
  rw [← ht]; exact hB.1
theorem x_goa {a : Array Value} {r : Nat} (h : Hs D A s.heap (wf σ) H locs) (hr : va_Run p l e R s m args below meth c H locs 0 0 0 0 (F0 m pc ls st0) rest (QA D tys wf ad (va_A (wf σ) H.size) (r, σ1) a) (va_A (wf σ) H.size)) (kk : ∀ (H1 : Heap) (locs1 : List Loc), Hs D A s.heap (wf σ1) H1 locs1 → W p l e R s m args below meth c H1 locs1 0 0 Q (F0 m (pc + 3) ls (.ref (ad r) :: rest))) : W p l e R s m args below meth c H locs 0 0 Q (F0 m pc ls st0) := by
  refine va_callr hr h.2.2.1 (fun q _ hq => h.free q hq) h.free (fun u ra t H1 locs1 ht hvm hw hB hz hk hS => ?_)
  obtain ⟨e1, hB⟩ := hB
  cases hw
  cases e1
  refine kk H1 locs1 ⟨?_, hB.2.2.weaken (fun _ _ _ x => h.free _ x), hS, h.2.2.2⟩
  rw [← ht]; exact hB.1
/-- the receiver's cell -/
theorem x_rcv {N : Nat} {en : En} (C : Cx p s m args meth c cc nL own D tys) {A : Nat → Prop} {H0 : Heap} (h : Hs D A H0 (wl N en ad σ) H locs) (k : Nat) (hk : k < N) {ci : Nat} {fs : List Value} {Cn : String} {T : u_T} {Nf : Nat} (he : en k (σ.1 k) (σ.2 k) = .inr (ci, fs)) (hc : vwCl[ci]? = some (Cn, T, Nf)) : ∃ cell : Cell, H[ad k]? = some cell ∧ cell.vm.isStatics = false ∧ s.vm.findClass Cn = some cell.cls :=
  va_recv C.2.2.2.2.2.2 h.1 hc (wl_at hk he)
end XC
end
