section
-- ===== PART A: goes FIRST, ahead of the names: the tables' words, and 'selects' of the private methods out of them =====
/-- a private method of a class that the tables say can be made, by its rows of tables_1 -/
def lw_okq (q : MethodName × Nat) : Prop := (q.1.cls ≠ "java/lang/invoke/MethodHandle" ∧ q.1.cls ≠ "java/lang/invoke/VarHandle") ∧ Cond.instantiable q.1.cls q.2 ∈ tables_1 ∧ Cond.privateMethod q.1 ∈ tables_1 ∧ Cond.instanceMethod q.1 ∈ tables_1
theorem lw_p0 : lw_okq (⟨"FordQuestions$Reader", "readQuestions", "()Z"⟩, 3) := ⟨⟨by decide +kernel, by decide +kernel⟩, List.mem_of_getElem? (i := 139) (by decide +kernel), List.mem_of_getElem? (i := 354) (by decide +kernel), List.mem_of_getElem? (i := 355) (by decide +kernel)⟩
theorem lw_p1 : lw_okq (⟨"FordQuestions$Reader", "nextLetter", "()C"⟩, 3) := ⟨⟨by decide +kernel, by decide +kernel⟩, List.mem_of_getElem? (i := 139) (by decide +kernel), List.mem_of_getElem? (i := 358) (by decide +kernel), List.mem_of_getElem? (i := 359) (by decide +kernel)⟩
theorem lw_p2 : lw_okq (⟨"FordQuestions$Reader", "letterHere", "()C"⟩, 3) := ⟨⟨by decide +kernel, by decide +kernel⟩, List.mem_of_getElem? (i := 139) (by decide +kernel), List.mem_of_getElem? (i := 362) (by decide +kernel), List.mem_of_getElem? (i := 363) (by decide +kernel)⟩
theorem lw_p3 : lw_okq (⟨"FordQuestions$Reader", "readQuestion", "()Z"⟩, 3) := ⟨⟨by decide +kernel, by decide +kernel⟩, List.mem_of_getElem? (i := 139) (by decide +kernel), List.mem_of_getElem? (i := 369) (by decide +kernel), List.mem_of_getElem? (i := 370) (by decide +kernel)⟩
theorem lw_p4 : lw_okq (⟨"FordQuestions$Reader", "accepts", "(C)Z"⟩, 3) := ⟨⟨by decide +kernel, by decide +kernel⟩, List.mem_of_getElem? (i := 139) (by decide +kernel), List.mem_of_getElem? (i := 374) (by decide +kernel), List.mem_of_getElem? (i := 375) (by decide +kernel)⟩
theorem lw_p5 : lw_okq (⟨"FordQuestions$Reader", "readCrossers", "()Z"⟩, 3) := ⟨⟨by decide +kernel, by decide +kernel⟩, List.mem_of_getElem? (i := 139) (by decide +kernel), List.mem_of_getElem? (i := 378) (by decide +kernel), List.mem_of_getElem? (i := 379) (by decide +kernel)⟩
theorem lw_p6 : lw_okq (⟨"FordQuestions$Reader", "readCrosser", "()Z"⟩, 3) := ⟨⟨by decide +kernel, by decide +kernel⟩, List.mem_of_getElem? (i := 139) (by decide +kernel), List.mem_of_getElem? (i := 382) (by decide +kernel), List.mem_of_getElem? (i := 383) (by decide +kernel)⟩
theorem lw_p7 : lw_okq (⟨"FordQuestions$Reader", "readTopics", "()I"⟩, 3) := ⟨⟨by decide +kernel, by decide +kernel⟩, List.mem_of_getElem? (i := 139) (by decide +kernel), List.mem_of_getElem? (i := 472) (by decide +kernel), List.mem_of_getElem? (i := 473) (by decide +kernel)⟩
theorem lw_p8 : lw_okq (⟨"FordQuestions$Reader", "readComing", "()I"⟩, 3) := ⟨⟨by decide +kernel, by decide +kernel⟩, List.mem_of_getElem? (i := 139) (by decide +kernel), List.mem_of_getElem? (i := 476) (by decide +kernel), List.mem_of_getElem? (i := 477) (by decide +kernel)⟩
theorem lw_p9 : lw_okq (⟨"FordQuestions", "pass", "(IZ)I"⟩, 8) := ⟨⟨by decide +kernel, by decide +kernel⟩, List.mem_of_getElem? (i := 20) (by decide +kernel), List.mem_of_getElem? (i := 505) (by decide +kernel), List.mem_of_getElem? (i := 506) (by decide +kernel)⟩
theorem lw_p10 : lw_okq (⟨"FordQuestions$Ford", "letIn", "(I)V"⟩, 12) := ⟨⟨by decide +kernel, by decide +kernel⟩, List.mem_of_getElem? (i := 34) (by decide +kernel), List.mem_of_getElem? (i := 530) (by decide +kernel), List.mem_of_getElem? (i := 531) (by decide +kernel)⟩
theorem lw_p11 : lw_okq (⟨"FordQuestions$Ford", "firstNotAsked", "()I"⟩, 12) := ⟨⟨by decide +kernel, by decide +kernel⟩, List.mem_of_getElem? (i := 34) (by decide +kernel), List.mem_of_getElem? (i := 534) (by decide +kernel), List.mem_of_getElem? (i := 535) (by decide +kernel)⟩
theorem lw_p12 : lw_okq (⟨"FordQuestions$Outlook", "howManyIn", "()I"⟩, 4) := ⟨⟨by decide +kernel, by decide +kernel⟩, List.mem_of_getElem? (i := 159) (by decide +kernel), List.mem_of_getElem? (i := 616) (by decide +kernel), List.mem_of_getElem? (i := 617) (by decide +kernel)⟩
theorem lw_p13 : lw_okq (⟨"FordQuestions$Tellings", "chooseWhoIsAsked", "()V"⟩, 7) := ⟨⟨by decide +kernel, by decide +kernel⟩, List.mem_of_getElem? (i := 183) (by decide +kernel), List.mem_of_getElem? (i := 630) (by decide +kernel), List.mem_of_getElem? (i := 631) (by decide +kernel)⟩
theorem lw_p14 : lw_okq (⟨"FordQuestions$Tellings", "howManyComeAheadOf", "(I)I"⟩, 7) := ⟨⟨by decide +kernel, by decide +kernel⟩, List.mem_of_getElem? (i := 183) (by decide +kernel), List.mem_of_getElem? (i := 635) (by decide +kernel), List.mem_of_getElem? (i := 636) (by decide +kernel)⟩
theorem lw_p15 : lw_okq (⟨"FordQuestions$Tellings", "orderComers", "()V"⟩, 7) := ⟨⟨by decide +kernel, by decide +kernel⟩, List.mem_of_getElem? (i := 183) (by decide +kernel), List.mem_of_getElem? (i := 639) (by decide +kernel), List.mem_of_getElem? (i := 640) (by decide +kernel)⟩
def lw_privs_1 : List (MethodName × Nat) := [(⟨"FordQuestions$Reader", "readQuestions", "()Z"⟩, 3), (⟨"FordQuestions$Reader", "nextLetter", "()C"⟩, 3), (⟨"FordQuestions$Reader", "letterHere", "()C"⟩, 3), (⟨"FordQuestions$Reader", "readQuestion", "()Z"⟩, 3), (⟨"FordQuestions$Reader", "accepts", "(C)Z"⟩, 3), (⟨"FordQuestions$Reader", "readCrossers", "()Z"⟩, 3), (⟨"FordQuestions$Reader", "readCrosser", "()Z"⟩, 3), (⟨"FordQuestions$Reader", "readTopics", "()I"⟩, 3), (⟨"FordQuestions$Reader", "readComing", "()I"⟩, 3), (⟨"FordQuestions", "pass", "(IZ)I"⟩, 8), (⟨"FordQuestions$Ford", "letIn", "(I)V"⟩, 12), (⟨"FordQuestions$Ford", "firstNotAsked", "()I"⟩, 12), (⟨"FordQuestions$Outlook", "howManyIn", "()I"⟩, 4), (⟨"FordQuestions$Tellings", "chooseWhoIsAsked", "()V"⟩, 7), (⟨"FordQuestions$Tellings", "howManyComeAheadOf", "(I)I"⟩, 7), (⟨"FordQuestions$Tellings", "orderComers", "()V"⟩, 7)]
theorem lw_r1 : ∀ q ∈ lw_privs_1, lw_okq q := List.forall_mem_cons.mpr ⟨lw_p0, List.forall_mem_cons.mpr ⟨lw_p1, List.forall_mem_cons.mpr ⟨lw_p2, List.forall_mem_cons.mpr ⟨lw_p3, List.forall_mem_cons.mpr ⟨lw_p4, List.forall_mem_cons.mpr ⟨lw_p5, List.forall_mem_cons.mpr ⟨lw_p6, List.forall_mem_cons.mpr ⟨lw_p7, List.forall_mem_cons.mpr ⟨lw_p8, List.forall_mem_cons.mpr ⟨lw_p9, List.forall_mem_cons.mpr ⟨lw_p10, List.forall_mem_cons.mpr ⟨lw_p11, List.forall_mem_cons.mpr ⟨lw_p12, List.forall_mem_cons.mpr ⟨lw_p13, List.forall_mem_cons.mpr ⟨lw_p14, List.forall_mem_cons.mpr ⟨lw_p15, fun _ h => absurd h List.not_mem_nil⟩⟩⟩⟩⟩⟩⟩⟩⟩⟩⟩⟩⟩⟩⟩⟩
theorem lw_p16 : lw_okq (⟨"FordQuestions$Tellings", "insertComer", "(I)V"⟩, 7) := ⟨⟨by decide +kernel, by decide +kernel⟩, List.mem_of_getElem? (i := 183) (by decide +kernel), List.mem_of_getElem? (i := 643) (by decide +kernel), List.mem_of_getElem? (i := 644) (by decide +kernel)⟩
theorem lw_p17 : lw_okq (⟨"FordQuestions$Tellings", "comingOf", "(I)I"⟩, 7) := ⟨⟨by decide +kernel, by decide +kernel⟩, List.mem_of_getElem? (i := 183) (by decide +kernel), List.mem_of_getElem? (i := 647) (by decide +kernel), List.mem_of_getElem? (i := 648) (by decide +kernel)⟩
theorem lw_p18 : lw_okq (⟨"FordQuestions$Tellings", "tell", "(IIII)V"⟩, 7) := ⟨⟨by decide +kernel, by decide +kernel⟩, List.mem_of_getElem? (i := 183) (by decide +kernel), List.mem_of_getElem? (i := 653) (by decide +kernel), List.mem_of_getElem? (i := 654) (by decide +kernel)⟩
theorem lw_p19 : lw_okq (⟨"FordQuestions$Tellings", "keepIfBetter", "(II)V"⟩, 7) := ⟨⟨by decide +kernel, by decide +kernel⟩, List.mem_of_getElem? (i := 183) (by decide +kernel), List.mem_of_getElem? (i := 658) (by decide +kernel), List.mem_of_getElem? (i := 659) (by decide +kernel)⟩
theorem lw_p20 : lw_okq (⟨"FordQuestions$Tellings", "howManyAreInAt", "(I)I"⟩, 7) := ⟨⟨by decide +kernel, by decide +kernel⟩, List.mem_of_getElem? (i := 183) (by decide +kernel), List.mem_of_getElem? (i := 663) (by decide +kernel), List.mem_of_getElem? (i := 664) (by decide +kernel)⟩
theorem lw_p21 : lw_okq (⟨"FordQuestions$Outlook", "keepIfSooner", "(II)V"⟩, 4) := ⟨⟨by decide +kernel, by decide +kernel⟩, List.mem_of_getElem? (i := 159) (by decide +kernel), List.mem_of_getElem? (i := 686) (by decide +kernel), List.mem_of_getElem? (i := 687) (by decide +kernel)⟩
theorem lw_p22 : lw_okq (⟨"FordQuestions", "foundOr", "(I)I"⟩, 8) := ⟨⟨by decide +kernel, by decide +kernel⟩, List.mem_of_getElem? (i := 20) (by decide +kernel), List.mem_of_getElem? (i := 690) (by decide +kernel), List.mem_of_getElem? (i := 691) (by decide +kernel)⟩
theorem lw_p23 : lw_okq (⟨"FordQuestions$Outlook", "fits", "(LFordQuestions$Sheet;II)Z"⟩, 4) := ⟨⟨by decide +kernel, by decide +kernel⟩, List.mem_of_getElem? (i := 159) (by decide +kernel), List.mem_of_getElem? (i := 767) (by decide +kernel), List.mem_of_getElem? (i := 768) (by decide +kernel)⟩
theorem lw_p24 : lw_okq (⟨"FordQuestions$Sheet", "lowestBits", "(J)J"⟩, 3) := ⟨⟨by decide +kernel, by decide +kernel⟩, List.mem_of_getElem? (i := 215) (by decide +kernel), List.mem_of_getElem? (i := 787) (by decide +kernel), List.mem_of_getElem? (i := 788) (by decide +kernel)⟩
theorem lw_p25 : lw_okq (⟨"FordQuestionsModel", "isQuestion", "(I)Z"⟩, 31) := ⟨⟨by decide +kernel, by decide +kernel⟩, List.mem_of_getElem? (i := 822) (by decide +kernel), List.mem_of_getElem? (i := 942) (by decide +kernel), List.mem_of_getElem? (i := 943) (by decide +kernel)⟩
theorem lw_p26 : lw_okq (⟨"FordQuestionsModel", "isCrosser", "(I)Z"⟩, 31) := ⟨⟨by decide +kernel, by decide +kernel⟩, List.mem_of_getElem? (i := 822) (by decide +kernel), List.mem_of_getElem? (i := 951) (by decide +kernel), List.mem_of_getElem? (i := 952) (by decide +kernel)⟩
theorem lw_p27 : lw_okq (⟨"FordQuestionsModel", "aside", "()V"⟩, 31) := ⟨⟨by decide +kernel, by decide +kernel⟩, List.mem_of_getElem? (i := 822) (by decide +kernel), List.mem_of_getElem? (i := 959) (by decide +kernel), List.mem_of_getElem? (i := 960) (by decide +kernel)⟩
theorem lw_p28 : lw_okq (⟨"FordQuestionsModel", "hoursOf", "(II)I"⟩, 31) := ⟨⟨by decide +kernel, by decide +kernel⟩, List.mem_of_getElem? (i := 822) (by decide +kernel), List.mem_of_getElem? (i := 963) (by decide +kernel), List.mem_of_getElem? (i := 964) (by decide +kernel)⟩
theorem lw_p29 : lw_okq (⟨"FordQuestionsModel", "othersIn", "(I)I"⟩, 31) := ⟨⟨by decide +kernel, by decide +kernel⟩, List.mem_of_getElem? (i := 822) (by decide +kernel), List.mem_of_getElem? (i := 970) (by decide +kernel), List.mem_of_getElem? (i := 971) (by decide +kernel)⟩
theorem lw_p30 : lw_okq (⟨"FordQuestionsModel", "isFord", "()Z"⟩, 31) := ⟨⟨by decide +kernel, by decide +kernel⟩, List.mem_of_getElem? (i := 822) (by decide +kernel), List.mem_of_getElem? (i := 984) (by decide +kernel), List.mem_of_getElem? (i := 985) (by decide +kernel)⟩
theorem lw_p31 : lw_okq (⟨"FordQuestionsModel", "questionsAll", "()Z"⟩, 31) := ⟨⟨by decide +kernel, by decide +kernel⟩, List.mem_of_getElem? (i := 822) (by decide +kernel), List.mem_of_getElem? (i := 988) (by decide +kernel), List.mem_of_getElem? (i := 989) (by decide +kernel)⟩
def lw_privs_2 : List (MethodName × Nat) := [(⟨"FordQuestions$Tellings", "insertComer", "(I)V"⟩, 7), (⟨"FordQuestions$Tellings", "comingOf", "(I)I"⟩, 7), (⟨"FordQuestions$Tellings", "tell", "(IIII)V"⟩, 7), (⟨"FordQuestions$Tellings", "keepIfBetter", "(II)V"⟩, 7), (⟨"FordQuestions$Tellings", "howManyAreInAt", "(I)I"⟩, 7), (⟨"FordQuestions$Outlook", "keepIfSooner", "(II)V"⟩, 4), (⟨"FordQuestions", "foundOr", "(I)I"⟩, 8), (⟨"FordQuestions$Outlook", "fits", "(LFordQuestions$Sheet;II)Z"⟩, 4), (⟨"FordQuestions$Sheet", "lowestBits", "(J)J"⟩, 3), (⟨"FordQuestionsModel", "isQuestion", "(I)Z"⟩, 31), (⟨"FordQuestionsModel", "isCrosser", "(I)Z"⟩, 31), (⟨"FordQuestionsModel", "aside", "()V"⟩, 31), (⟨"FordQuestionsModel", "hoursOf", "(II)I"⟩, 31), (⟨"FordQuestionsModel", "othersIn", "(I)I"⟩, 31), (⟨"FordQuestionsModel", "isFord", "()Z"⟩, 31), (⟨"FordQuestionsModel", "questionsAll", "()Z"⟩, 31)]
theorem lw_r2 : ∀ q ∈ lw_privs_2, lw_okq q := List.forall_mem_cons.mpr ⟨lw_p16, List.forall_mem_cons.mpr ⟨lw_p17, List.forall_mem_cons.mpr ⟨lw_p18, List.forall_mem_cons.mpr ⟨lw_p19, List.forall_mem_cons.mpr ⟨lw_p20, List.forall_mem_cons.mpr ⟨lw_p21, List.forall_mem_cons.mpr ⟨lw_p22, List.forall_mem_cons.mpr ⟨lw_p23, List.forall_mem_cons.mpr ⟨lw_p24, List.forall_mem_cons.mpr ⟨lw_p25, List.forall_mem_cons.mpr ⟨lw_p26, List.forall_mem_cons.mpr ⟨lw_p27, List.forall_mem_cons.mpr ⟨lw_p28, List.forall_mem_cons.mpr ⟨lw_p29, List.forall_mem_cons.mpr ⟨lw_p30, List.forall_mem_cons.mpr ⟨lw_p31, fun _ h => absurd h List.not_mem_nil⟩⟩⟩⟩⟩⟩⟩⟩⟩⟩⟩⟩⟩⟩⟩⟩
theorem lw_p32 : lw_okq (⟨"FordQuestionsModel", "next", "()I"⟩, 31) := ⟨⟨by decide +kernel, by decide +kernel⟩, List.mem_of_getElem? (i := 822) (by decide +kernel), List.mem_of_getElem? (i := 992) (by decide +kernel), List.mem_of_getElem? (i := 993) (by decide +kernel)⟩
theorem lw_p33 : lw_okq (⟨"FordQuestionsModel", "crosserOne", "()Z"⟩, 31) := ⟨⟨by decide +kernel, by decide +kernel⟩, List.mem_of_getElem? (i := 822) (by decide +kernel), List.mem_of_getElem? (i := 1003) (by decide +kernel), List.mem_of_getElem? (i := 1004) (by decide +kernel)⟩
theorem lw_p34 : lw_okq (⟨"FordQuestionsModel", "knowsAll", "()Z"⟩, 31) := ⟨⟨by decide +kernel, by decide +kernel⟩, List.mem_of_getElem? (i := 822) (by decide +kernel), List.mem_of_getElem? (i := 1010) (by decide +kernel), List.mem_of_getElem? (i := 1011) (by decide +kernel)⟩
theorem lw_p35 : lw_okq (⟨"FordQuestionsModel", "comesAt", "()Z"⟩, 31) := ⟨⟨by decide +kernel, by decide +kernel⟩, List.mem_of_getElem? (i := 822) (by decide +kernel), List.mem_of_getElem? (i := 1014) (by decide +kernel), List.mem_of_getElem? (i := 1015) (by decide +kernel)⟩
theorem lw_p36 : lw_okq (⟨"FordQuestionsModel", "placed", "(I)I"⟩, 31) := ⟨⟨by decide +kernel, by decide +kernel⟩, List.mem_of_getElem? (i := 822) (by decide +kernel), List.mem_of_getElem? (i := 1026) (by decide +kernel), List.mem_of_getElem? (i := 1027) (by decide +kernel)⟩
theorem lw_p37 : lw_okq (⟨"FordQuestionsModel", "note", "()V"⟩, 31) := ⟨⟨by decide +kernel, by decide +kernel⟩, List.mem_of_getElem? (i := 822) (by decide +kernel), List.mem_of_getElem? (i := 1034) (by decide +kernel), List.mem_of_getElem? (i := 1035) (by decide +kernel)⟩
theorem lw_p38 : lw_okq (⟨"FordQuestionsModel", "goHour", "()V"⟩, 31) := ⟨⟨by decide +kernel, by decide +kernel⟩, List.mem_of_getElem? (i := 822) (by decide +kernel), List.mem_of_getElem? (i := 1038) (by decide +kernel), List.mem_of_getElem? (i := 1039) (by decide +kernel)⟩
theorem lw_p39 : lw_okq (⟨"FordQuestionsModel", "goComes", "(I)V"⟩, 31) := ⟨⟨by decide +kernel, by decide +kernel⟩, List.mem_of_getElem? (i := 822) (by decide +kernel), List.mem_of_getElem? (i := 1042) (by decide +kernel), List.mem_of_getElem? (i := 1043) (by decide +kernel)⟩
theorem lw_p40 : lw_okq (⟨"FordQuestionsModel", "lowestLeft", "()I"⟩, 31) := ⟨⟨by decide +kernel, by decide +kernel⟩, List.mem_of_getElem? (i := 822) (by decide +kernel), List.mem_of_getElem? (i := 1046) (by decide +kernel), List.mem_of_getElem? (i := 1047) (by decide +kernel)⟩
theorem lw_p41 : lw_okq (⟨"FordQuestionsModel", "take", "()V"⟩, 31) := ⟨⟨by decide +kernel, by decide +kernel⟩, List.mem_of_getElem? (i := 822) (by decide +kernel), List.mem_of_getElem? (i := 1050) (by decide +kernel), List.mem_of_getElem? (i := 1051) (by decide +kernel)⟩
theorem lw_p42 : lw_okq (⟨"FordQuestionsModel", "goHours", "(I)V"⟩, 31) := ⟨⟨by decide +kernel, by decide +kernel⟩, List.mem_of_getElem? (i := 822) (by decide +kernel), List.mem_of_getElem? (i := 1091) (by decide +kernel), List.mem_of_getElem? (i := 1092) (by decide +kernel)⟩
theorem lw_p43 : lw_okq (⟨"FordQuestionsModel", "overHour", "(I)I"⟩, 31) := ⟨⟨by decide +kernel, by decide +kernel⟩, List.mem_of_getElem? (i := 822) (by decide +kernel), List.mem_of_getElem? (i := 1099) (by decide +kernel), List.mem_of_getElem? (i := 1100) (by decide +kernel)⟩
theorem lw_p44 : lw_okq (⟨"FordQuestionsModel", "lastHour", "()I"⟩, 31) := ⟨⟨by decide +kernel, by decide +kernel⟩, List.mem_of_getElem? (i := 822) (by decide +kernel), List.mem_of_getElem? (i := 1107) (by decide +kernel), List.mem_of_getElem? (i := 1108) (by decide +kernel)⟩
theorem lw_p45 : lw_okq (⟨"FordQuestionsModel", "inMany", "()I"⟩, 31) := ⟨⟨by decide +kernel, by decide +kernel⟩, List.mem_of_getElem? (i := 822) (by decide +kernel), List.mem_of_getElem? (i := 1115) (by decide +kernel), List.mem_of_getElem? (i := 1116) (by decide +kernel)⟩
theorem lw_p46 : lw_okq (⟨"FordQuestionsModel", "layAsked", "()V"⟩, 31) := ⟨⟨by decide +kernel, by decide +kernel⟩, List.mem_of_getElem? (i := 822) (by decide +kernel), List.mem_of_getElem? (i := 1124) (by decide +kernel), List.mem_of_getElem? (i := 1125) (by decide +kernel)⟩
theorem lw_p47 : lw_okq (⟨"FordQuestionsModel", "leftMany", "()I"⟩, 31) := ⟨⟨by decide +kernel, by decide +kernel⟩, List.mem_of_getElem? (i := 822) (by decide +kernel), List.mem_of_getElem? (i := 1128) (by decide +kernel), List.mem_of_getElem? (i := 1129) (by decide +kernel)⟩
def lw_privs_3 : List (MethodName × Nat) := [(⟨"FordQuestionsModel", "next", "()I"⟩, 31), (⟨"FordQuestionsModel", "crosserOne", "()Z"⟩, 31), (⟨"FordQuestionsModel", "knowsAll", "()Z"⟩, 31), (⟨"FordQuestionsModel", "comesAt", "()Z"⟩, 31), (⟨"FordQuestionsModel", "placed", "(I)I"⟩, 31), (⟨"FordQuestionsModel", "note", "()V"⟩, 31), (⟨"FordQuestionsModel", "goHour", "()V"⟩, 31), (⟨"FordQuestionsModel", "goComes", "(I)V"⟩, 31), (⟨"FordQuestionsModel", "lowestLeft", "()I"⟩, 31), (⟨"FordQuestionsModel", "take", "()V"⟩, 31), (⟨"FordQuestionsModel", "goHours", "(I)V"⟩, 31), (⟨"FordQuestionsModel", "overHour", "(I)I"⟩, 31), (⟨"FordQuestionsModel", "lastHour", "()I"⟩, 31), (⟨"FordQuestionsModel", "inMany", "()I"⟩, 31), (⟨"FordQuestionsModel", "layAsked", "()V"⟩, 31), (⟨"FordQuestionsModel", "leftMany", "()I"⟩, 31)]
theorem lw_r3 : ∀ q ∈ lw_privs_3, lw_okq q := List.forall_mem_cons.mpr ⟨lw_p32, List.forall_mem_cons.mpr ⟨lw_p33, List.forall_mem_cons.mpr ⟨lw_p34, List.forall_mem_cons.mpr ⟨lw_p35, List.forall_mem_cons.mpr ⟨lw_p36, List.forall_mem_cons.mpr ⟨lw_p37, List.forall_mem_cons.mpr ⟨lw_p38, List.forall_mem_cons.mpr ⟨lw_p39, List.forall_mem_cons.mpr ⟨lw_p40, List.forall_mem_cons.mpr ⟨lw_p41, List.forall_mem_cons.mpr ⟨lw_p42, List.forall_mem_cons.mpr ⟨lw_p43, List.forall_mem_cons.mpr ⟨lw_p44, List.forall_mem_cons.mpr ⟨lw_p45, List.forall_mem_cons.mpr ⟨lw_p46, List.forall_mem_cons.mpr ⟨lw_p47, fun _ h => absurd h List.not_mem_nil⟩⟩⟩⟩⟩⟩⟩⟩⟩⟩⟩⟩⟩⟩⟩⟩
theorem lw_p48 : lw_okq (⟨"FordQuestionsModel", "isTelling", "(I)Z"⟩, 31) := ⟨⟨by decide +kernel, by decide +kernel⟩, List.mem_of_getElem? (i := 822) (by decide +kernel), List.mem_of_getElem? (i := 1132) (by decide +kernel), List.mem_of_getElem? (i := 1133) (by decide +kernel)⟩
theorem lw_p49 : lw_okq (⟨"FordQuestionsModel", "lacks", "(IIII)I"⟩, 31) := ⟨⟨by decide +kernel, by decide +kernel⟩, List.mem_of_getElem? (i := 822) (by decide +kernel), List.mem_of_getElem? (i := 1177) (by decide +kernel), List.mem_of_getElem? (i := 1178) (by decide +kernel)⟩
theorem lw_p50 : lw_okq (⟨"FordQuestionsModel", "isSpan", "(III)Z"⟩, 31) := ⟨⟨by decide +kernel, by decide +kernel⟩, List.mem_of_getElem? (i := 822) (by decide +kernel), List.mem_of_getElem? (i := 1181) (by decide +kernel), List.mem_of_getElem? (i := 1182) (by decide +kernel)⟩
theorem lw_p51 : lw_okq (⟨"FordQuestionsModel", "seenKinds", "(IIII)I"⟩, 31) := ⟨⟨by decide +kernel, by decide +kernel⟩, List.mem_of_getElem? (i := 822) (by decide +kernel), List.mem_of_getElem? (i := 1185) (by decide +kernel), List.mem_of_getElem? (i := 1186) (by decide +kernel)⟩
theorem lw_p52 : lw_okq (⟨"FordQuestionsModel", "isSeen", "(III)Z"⟩, 31) := ⟨⟨by decide +kernel, by decide +kernel⟩, List.mem_of_getElem? (i := 822) (by decide +kernel), List.mem_of_getElem? (i := 1189) (by decide +kernel), List.mem_of_getElem? (i := 1190) (by decide +kernel)⟩
def lw_privs_4 : List (MethodName × Nat) := [(⟨"FordQuestionsModel", "isTelling", "(I)Z"⟩, 31), (⟨"FordQuestionsModel", "lacks", "(IIII)I"⟩, 31), (⟨"FordQuestionsModel", "isSpan", "(III)Z"⟩, 31), (⟨"FordQuestionsModel", "seenKinds", "(IIII)I"⟩, 31), (⟨"FordQuestionsModel", "isSeen", "(III)Z"⟩, 31)]
theorem lw_r4 : ∀ q ∈ lw_privs_4, lw_okq q := List.forall_mem_cons.mpr ⟨lw_p48, List.forall_mem_cons.mpr ⟨lw_p49, List.forall_mem_cons.mpr ⟨lw_p50, List.forall_mem_cons.mpr ⟨lw_p51, List.forall_mem_cons.mpr ⟨lw_p52, fun _ h => absurd h List.not_mem_nil⟩⟩⟩⟩⟩
def lw_privs : List (MethodName × Nat) := lw_privs_1 ++ (lw_privs_2 ++ (lw_privs_3 ++ (lw_privs_4)))
def lw_tbl : List Cond := k2_sels lw_privs ++ tables_1
theorem lw_privs_ok : ∀ q ∈ lw_privs, lw_okq q := by
  show ∀ q ∈ lw_privs_1 ++ (lw_privs_2 ++ (lw_privs_3 ++ (lw_privs_4))), lw_okq q
  exact List.forall_mem_append.mpr ⟨lw_r1, List.forall_mem_append.mpr ⟨lw_r2, List.forall_mem_append.mpr ⟨lw_r3, lw_r4⟩⟩⟩
end
section
/-! ===== BEGIN printed: names, fields, word lists, decode rows ===== -/
def RX0 : String := "FordQuestions$Ford"
def TX0 : u_T := fun k => match k with
  | 0 => ("FordQuestions$Ford", "questions", "I", false)
  | 1 => ("FordQuestions$Ford", "crossers", "I", false)
  | 2 => ("FordQuestions$Ford", "asked", "I", false)
  | 3 => ("FordQuestions$Ford", "hour", "I", false)
  | 4 => ("FordQuestions$Ford", "draw", "I", false)
  | 5 => ("FordQuestions$Ford", "topic", "[I", true)
  | 6 => ("FordQuestions$Ford", "hard", "[I", true)
  | 7 => ("FordQuestions$Ford", "kind", "[I", true)
  | 8 => ("FordQuestions$Ford", "knows", "[I", true)
  | 9 => ("FordQuestions$Ford", "comes", "[I", true)
  | 10 => ("FordQuestions$Ford", "where", "[I", true)
  | _ => ("FordQuestions$Ford", "till", "[I", true)
def tyX0 : Nat → FieldType := fun k => match k with
  | 0 => .int
  | 1 => .int
  | 2 => .int
  | 3 => .int
  | 4 => .int
  | 5 => .array .int
  | 6 => .array .int
  | 7 => .array .int
  | 8 => .array .int
  | 9 => .array .int
  | 10 => .array .int
  | _ => .array .int
abbrev wsX00 : List Cond := u_ws RX0 TX0 12
theorem nmX0 : ∀ a, a < 12 → ∀ b, b < 12 → a ≠ b → (TX0 a).2.1 ≠ (TX0 b).2.1 := by decide +kernel
theorem tyX0_ok : ∀ k, k < 12 → parseFieldDescriptor (TX0 k).2.2.1 = some (tyX0 k) := by decide +kernel
abbrev cX0_init : ByteArray := prog_2_method_1_code
def yX0_init : MethodName := ⟨RX0, "<init>", "()V"⟩
abbrev cX0_takeFrom : ByteArray := prog_2_method_2_code
def yX0_takeFrom : MethodName := ⟨RX0, "takeFrom", "(LFordQuestions$Ford;)V"⟩
abbrev cX0_becomeNew : ByteArray := prog_2_method_3_code
def yX0_becomeNew : MethodName := ⟨RX0, "becomeNew", "(LFordQuestions$Ford;)V"⟩
abbrev cX0_makeEmpty : ByteArray := prog_2_method_4_code
def yX0_makeEmpty : MethodName := ⟨RX0, "makeEmpty", "()V"⟩
abbrev cX0_addQuestion : ByteArray := prog_2_method_5_code
def yX0_addQuestion : MethodName := ⟨RX0, "addQuestion", "(II)I"⟩
abbrev cX0_addCrosser : ByteArray := prog_2_method_6_code
def yX0_addCrosser : MethodName := ⟨RX0, "addCrosser", "(III)I"⟩
abbrev cX0_hasQuestion : ByteArray := prog_2_method_7_code
def yX0_hasQuestion : MethodName := ⟨RX0, "hasQuestion", "(I)Z"⟩
abbrev cX0_hasCrosser : ByteArray := prog_2_method_8_code
def yX0_hasCrosser : MethodName := ⟨RX0, "hasCrosser", "(I)Z"⟩
abbrev cX0_isAsked : ByteArray := prog_2_method_9_code
def yX0_isAsked : MethodName := ⟨RX0, "isAsked", "(I)Z"⟩
abbrev cX0_letAskAgain : ByteArray := prog_2_method_10_code
def yX0_letAskAgain : MethodName := ⟨RX0, "letAskAgain", "(I)V"⟩
abbrev cX0_everyone : ByteArray := prog_2_method_11_code
def yX0_everyone : MethodName := ⟨RX0, "everyone", "()I"⟩
abbrev cX0_thoseWho : ByteArray := prog_2_method_12_code
def yX0_thoseWho : MethodName := ⟨RX0, "thoseWho", "(I)I"⟩
abbrev cX0_hoursFor : ByteArray := prog_2_method_13_code
def yX0_hoursFor : MethodName := ⟨RX0, "hoursFor", "(II)I"⟩
abbrev cX0_hoursAmong : ByteArray := prog_2_method_14_code
def yX0_hoursAmong : MethodName := ⟨RX0, "hoursAmong", "(IIII)I"⟩
abbrev cX0_passHour : ByteArray := prog_2_method_15_code
def yX0_passHour : MethodName := ⟨RX0, "passHour", "()V"⟩
abbrev cX0_letIn : ByteArray := prog_2_method_16_code
def yX0_letIn : MethodName := ⟨RX0, "letIn", "(I)V"⟩
abbrev cX0_firstNotAsked : ByteArray := prog_2_method_17_code
def yX0_firstNotAsked : MethodName := ⟨RX0, "firstNotAsked", "()I"⟩
abbrev cX0_drawQuestion : ByteArray := prog_2_method_18_code
def yX0_drawQuestion : MethodName := ⟨RX0, "drawQuestion", "()V"⟩
abbrev cX0_howManyLeaveNext : ByteArray := prog_2_method_19_code
def yX0_howManyLeaveNext : MethodName := ⟨RX0, "howManyLeaveNext", "()I"⟩
def RX1 : String := "FordQuestions$Outlook"
def TX1 : u_T := fun k => match k with
  | 0 => ("FordQuestions$Outlook", "ahead", "LFordQuestions$Ford;", true)
  | 1 => ("FordQuestions$Outlook", "found", "I", false)
  | 2 => ("FordQuestions$Outlook", "foundHours", "I", false)
  | _ => ("FordQuestions$Outlook", "foundSets", "I", false)
def tyX1 : Nat → FieldType := fun k => match k with
  | 0 => .object "FordQuestions$Ford"
  | 1 => .int
  | 2 => .int
  | _ => .int
abbrev wsX10 : List Cond := u_ws RX1 TX1 4
theorem nmX1 : ∀ a, a < 4 → ∀ b, b < 4 → a ≠ b → (TX1 a).2.1 ≠ (TX1 b).2.1 := by decide +kernel
theorem tyX1_ok : ∀ k, k < 4 → parseFieldDescriptor (TX1 k).2.2.1 = some (tyX1 k) := by decide +kernel
abbrev cX1_init : ByteArray := prog_3_method_1_code
def yX1_init : MethodName := ⟨RX1, "<init>", "()V"⟩
abbrev cX1_startFrom : ByteArray := prog_3_method_2_code
def yX1_startFrom : MethodName := ⟨RX1, "startFrom", "(LFordQuestions$Ford;)V"⟩
abbrev cX1_behind : ByteArray := prog_3_method_3_code
def yX1_behind : MethodName := ⟨RX1, "behind", "(LFordQuestions$Ford;I)LFordQuestions$Ford;"⟩
abbrev cX1_hoursTillOver : ByteArray := prog_3_method_4_code
def yX1_hoursTillOver : MethodName := ⟨RX1, "hoursTillOver", "(I)I"⟩
abbrev cX1_howManyIn : ByteArray := prog_3_method_5_code
def yX1_howManyIn : MethodName := ⟨RX1, "howManyIn", "()I"⟩
abbrev cX1_seekMost : ByteArray := prog_3_method_6_code
def yX1_seekMost : MethodName := ⟨RX1, "seekMost", "(LFordQuestions$Ford;)V"⟩
abbrev cX1_seekTeaching : ByteArray := prog_3_method_7_code
def yX1_seekTeaching : MethodName := ⟨RX1, "seekTeaching", "(LFordQuestions$Ford;)V"⟩
abbrev cX1_seekSpare : ByteArray := prog_3_method_8_code
def yX1_seekSpare : MethodName := ⟨RX1, "seekSpare", "(LFordQuestions$Ford;)V"⟩
abbrev cX1_keepIfSooner : ByteArray := prog_3_method_9_code
def yX1_keepIfSooner : MethodName := ⟨RX1, "keepIfSooner", "(II)V"⟩
abbrev cX1_seekComing : ByteArray := prog_3_method_10_code
def yX1_seekComing : MethodName := ⟨RX1, "seekComing", "(LFordQuestions$Ford;I)V"⟩
abbrev cX1_kindsThatFit : ByteArray := prog_3_method_11_code
def yX1_kindsThatFit : MethodName := ⟨RX1, "kindsThatFit", "(LFordQuestions$Ford;ILFordQuestions$Sheet;II)I"⟩
abbrev cX1_seekKnowledge : ByteArray := prog_3_method_12_code
def yX1_seekKnowledge : MethodName := ⟨RX1, "seekKnowledge", "(LFordQuestions$Ford;ILFordQuestions$Sheet;II)V"⟩
abbrev cX1_fits : ByteArray := prog_3_method_13_code
def yX1_fits : MethodName := ⟨RX1, "fits", "(LFordQuestions$Sheet;II)Z"⟩
abbrev cX1_writeFilm : ByteArray := prog_3_method_14_code
def yX1_writeFilm : MethodName := ⟨RX1, "writeFilm", "(LFordQuestions$Ford;LFordQuestions$Sheet;II)V"⟩
def RX2 : String := "FordQuestions$Reader"
def TX2 : u_T := fun k => match k with
  | 0 => ("FordQuestions$Reader", "text", "LFordQuestions$Tape;", true)
  | 1 => ("FordQuestions$Reader", "draft", "LFordQuestions$Ford;", true)
  | _ => ("FordQuestions$Reader", "place", "I", false)
def tyX2 : Nat → FieldType := fun k => match k with
  | 0 => .object "FordQuestions$Tape"
  | 1 => .object "FordQuestions$Ford"
  | _ => .int
abbrev wsX20 : List Cond := u_ws RX2 TX2 3
theorem nmX2 : ∀ a, a < 3 → ∀ b, b < 3 → a ≠ b → (TX2 a).2.1 ≠ (TX2 b).2.1 := by decide +kernel
theorem tyX2_ok : ∀ k, k < 3 → parseFieldDescriptor (TX2 k).2.2.1 = some (tyX2 k) := by decide +kernel
abbrev cX2_init : ByteArray := prog_4_method_1_code
def yX2_init : MethodName := ⟨RX2, "<init>", "(LFordQuestions$Tape;)V"⟩
abbrev cX2_readFord : ByteArray := prog_4_method_2_code
def yX2_readFord : MethodName := ⟨RX2, "readFord", "()Z"⟩
abbrev cX2_readQuestions : ByteArray := prog_4_method_3_code
def yX2_readQuestions : MethodName := ⟨RX2, "readQuestions", "()Z"⟩
abbrev cX2_readQuestion : ByteArray := prog_4_method_4_code
def yX2_readQuestion : MethodName := ⟨RX2, "readQuestion", "()Z"⟩
abbrev cX2_readCrossers : ByteArray := prog_4_method_5_code
def yX2_readCrossers : MethodName := ⟨RX2, "readCrossers", "()Z"⟩
abbrev cX2_readCrosser : ByteArray := prog_4_method_6_code
def yX2_readCrosser : MethodName := ⟨RX2, "readCrosser", "()Z"⟩
abbrev cX2_readTopics : ByteArray := prog_4_method_7_code
def yX2_readTopics : MethodName := ⟨RX2, "readTopics", "()I"⟩
abbrev cX2_readComing : ByteArray := prog_4_method_8_code
def yX2_readComing : MethodName := ⟨RX2, "readComing", "()I"⟩
abbrev cX2_accepts : ByteArray := prog_4_method_9_code
def yX2_accepts : MethodName := ⟨RX2, "accepts", "(C)Z"⟩
abbrev cX2_nextLetter : ByteArray := prog_4_method_10_code
def yX2_nextLetter : MethodName := ⟨RX2, "nextLetter", "()C"⟩
abbrev cX2_letterHere : ByteArray := prog_4_method_11_code
def yX2_letterHere : MethodName := ⟨RX2, "letterHere", "()C"⟩
abbrev cX2_topicOf : ByteArray := prog_4_method_12_code
def yX2_topicOf : MethodName := ⟨RX2, "topicOf", "(C)I"⟩
abbrev cX2_digitOf : ByteArray := prog_4_method_13_code
def yX2_digitOf : MethodName := ⟨RX2, "digitOf", "(C)I"⟩
abbrev cX2_kindOf : ByteArray := prog_4_method_14_code
def yX2_kindOf : MethodName := ⟨RX2, "kindOf", "(C)I"⟩
def RX3 : String := "FordQuestions$Sheet"
def TX3 : u_T := fun k => match k with
  | 0 => ("FordQuestions$Sheet", "lane", "I", false)
  | 1 => ("FordQuestions$Sheet", "size", "I", false)
  | _ => ("FordQuestions$Sheet", "items", "[J", true)
def tyX3 : Nat → FieldType := fun k => match k with
  | 0 => .int
  | 1 => .int
  | _ => .array .long
abbrev wsX30 : List Cond := u_ws RX3 TX3 3
theorem nmX3 : ∀ a, a < 3 → ∀ b, b < 3 → a ≠ b → (TX3 a).2.1 ≠ (TX3 b).2.1 := by decide +kernel
theorem tyX3_ok : ∀ k, k < 3 → parseFieldDescriptor (TX3 k).2.2.1 = some (tyX3 k) := by decide +kernel
abbrev cX3_init : ByteArray := prog_5_method_1_code
def yX3_init : MethodName := ⟨RX3, "<init>", "()V"⟩
abbrev cX3_isMissing : ByteArray := prog_5_method_2_code
def yX3_isMissing : MethodName := ⟨RX3, "isMissing", "()Z"⟩
abbrev cX3_begin : ByteArray := prog_5_method_3_code
def yX3_begin : MethodName := ⟨RX3, "begin", "(II)V"⟩
abbrev cX3_end : ByteArray := prog_5_method_4_code
def yX3_end : MethodName := ⟨RX3, "end", "()I"⟩
abbrev cX3_holds : ByteArray := prog_5_method_5_code
def yX3_holds : MethodName := ⟨RX3, "holds", "(II)Z"⟩
abbrev cX3_refusal : ByteArray := prog_5_method_6_code
def yX3_refusal : MethodName := ⟨RX3, "refusal", "(III)I"⟩
abbrev cX3_write : ByteArray := prog_5_method_7_code
def yX3_write : MethodName := ⟨RX3, "write", "(IJ)V"⟩
abbrev cX3_lowestBits : ByteArray := prog_5_method_8_code
def yX3_lowestBits : MethodName := ⟨RX3, "lowestBits", "(J)J"⟩
def RX4 : String := "FordQuestions$Story"
def TX4 : u_T := fun k => match k with
  | 0 => ("FordQuestions$Story", "now", "LFordQuestions$Ford;", true)
  | 1 => ("FordQuestions$Story", "past", "[LFordQuestions$Ford;", true)
  | 2 => ("FordQuestions$Story", "next", "I", false)
  | _ => ("FordQuestions$Story", "known", "I", false)
def tyX4 : Nat → FieldType := fun k => match k with
  | 0 => .object "FordQuestions$Ford"
  | 1 => .array (.object "FordQuestions$Ford")
  | 2 => .int
  | _ => .int
abbrev wsX40 : List Cond := u_ws RX4 TX4 4
theorem nmX4 : ∀ a, a < 4 → ∀ b, b < 4 → a ≠ b → (TX4 a).2.1 ≠ (TX4 b).2.1 := by decide +kernel
theorem tyX4_ok : ∀ k, k < 4 → parseFieldDescriptor (TX4 k).2.2.1 = some (tyX4 k) := by decide +kernel
abbrev cX4_init : ByteArray := prog_6_method_1_code
def yX4_init : MethodName := ⟨RX4, "<init>", "()V"⟩
abbrev cX4_remember : ByteArray := prog_6_method_2_code
def yX4_remember : MethodName := ⟨RX4, "remember", "()V"⟩
abbrev cX4_forgetPast : ByteArray := prog_6_method_3_code
def yX4_forgetPast : MethodName := ⟨RX4, "forgetPast", "()V"⟩
abbrev cX4_goBack : ByteArray := prog_6_method_4_code
def yX4_goBack : MethodName := ⟨RX4, "goBack", "()Z"⟩
abbrev cX4_takeFrom : ByteArray := prog_6_method_5_code
def yX4_takeFrom : MethodName := ⟨RX4, "takeFrom", "(LFordQuestions$Story;)V"⟩
def RX5 : String := "FordQuestions$Tape"
def TX5 : u_T := fun k => match k with
  | 0 => ("FordQuestions$Tape", "letters", "[C", true)
  | _ => ("FordQuestions$Tape", "length", "I", false)
def tyX5 : Nat → FieldType := fun k => match k with
  | 0 => .array .char
  | _ => .int
abbrev wsX50 : List Cond := u_ws RX5 TX5 2
theorem nmX5 : ∀ a, a < 2 → ∀ b, b < 2 → a ≠ b → (TX5 a).2.1 ≠ (TX5 b).2.1 := by decide +kernel
theorem tyX5_ok : ∀ k, k < 2 → parseFieldDescriptor (TX5 k).2.2.1 = some (tyX5 k) := by decide +kernel
abbrev cX5_init : ByteArray := prog_7_method_1_code
def yX5_init : MethodName := ⟨RX5, "<init>", "()V"⟩
abbrev cX5_append : ByteArray := prog_7_method_2_code
def yX5_append : MethodName := ⟨RX5, "append", "(I)I"⟩
def RX6 : String := "FordQuestions$Tellings"
def TX6 : u_T := fun k => match k with
  | 0 => ("FordQuestions$Tellings", "ford", "LFordQuestions$Ford;", true)
  | 1 => ("FordQuestions$Tellings", "order", "[I", true)
  | 2 => ("FordQuestions$Tellings", "comers", "I", false)
  | 3 => ("FordQuestions$Tellings", "asked", "I", false)
  | 4 => ("FordQuestions$Tellings", "till", "[I", true)
  | 5 => ("FordQuestions$Tellings", "bestLast", "I", false)
  | _ => ("FordQuestions$Tellings", "bestTelling", "I", false)
def tyX6 : Nat → FieldType := fun k => match k with
  | 0 => .object "FordQuestions$Ford"
  | 1 => .array .int
  | 2 => .int
  | 3 => .int
  | 4 => .array .int
  | 5 => .int
  | _ => .int
abbrev wsX60 : List Cond := u_ws RX6 TX6 7
theorem nmX6 : ∀ a, a < 7 → ∀ b, b < 7 → a ≠ b → (TX6 a).2.1 ≠ (TX6 b).2.1 := by decide +kernel
theorem tyX6_ok : ∀ k, k < 7 → parseFieldDescriptor (TX6 k).2.2.1 = some (tyX6 k) := by decide +kernel
abbrev cX6_init : ByteArray := prog_8_method_1_code
def yX6_init : MethodName := ⟨RX6, "<init>", "()V"⟩
abbrev cX6_seekBest : ByteArray := prog_8_method_2_code
def yX6_seekBest : MethodName := ⟨RX6, "seekBest", "(LFordQuestions$Ford;)V"⟩
abbrev cX6_toldTo : ByteArray := prog_8_method_3_code
def yX6_toldTo : MethodName := ⟨RX6, "toldTo", "(I)I"⟩
abbrev cX6_shiftOf : ByteArray := prog_8_method_4_code
def yX6_shiftOf : MethodName := ⟨RX6, "shiftOf", "(I)I"⟩
abbrev cX6_chooseWhoIsAsked : ByteArray := prog_8_method_5_code
def yX6_chooseWhoIsAsked : MethodName := ⟨RX6, "chooseWhoIsAsked", "()V"⟩
abbrev cX6_howManyComeAheadOf : ByteArray := prog_8_method_6_code
def yX6_howManyComeAheadOf : MethodName := ⟨RX6, "howManyComeAheadOf", "(I)I"⟩
abbrev cX6_orderComers : ByteArray := prog_8_method_7_code
def yX6_orderComers : MethodName := ⟨RX6, "orderComers", "()V"⟩
abbrev cX6_insertComer : ByteArray := prog_8_method_8_code
def yX6_insertComer : MethodName := ⟨RX6, "insertComer", "(I)V"⟩
abbrev cX6_comingOf : ByteArray := prog_8_method_9_code
def yX6_comingOf : MethodName := ⟨RX6, "comingOf", "(I)I"⟩
abbrev cX6_tell : ByteArray := prog_8_method_10_code
def yX6_tell : MethodName := ⟨RX6, "tell", "(IIII)V"⟩
abbrev cX6_howManyAreInAt : ByteArray := prog_8_method_11_code
def yX6_howManyAreInAt : MethodName := ⟨RX6, "howManyAreInAt", "(I)I"⟩
abbrev cX6_keepIfBetter : ByteArray := prog_8_method_12_code
def yX6_keepIfBetter : MethodName := ⟨RX6, "keepIfBetter", "(II)V"⟩
def RX7 : String := "FordQuestions"
def TX7 : u_T := fun k => match k with
  | 0 => ("FordQuestions", "story", "LFordQuestions$Story;", true)
  | 1 => ("FordQuestions", "kept", "LFordQuestions$Story;", true)
  | 2 => ("FordQuestions", "hasImage", "Z", false)
  | 3 => ("FordQuestions", "tape", "LFordQuestions$Tape;", true)
  | 4 => ("FordQuestions", "reader", "LFordQuestions$Reader;", true)
  | 5 => ("FordQuestions", "outlook", "LFordQuestions$Outlook;", true)
  | 6 => ("FordQuestions", "tellings", "LFordQuestions$Tellings;", true)
  | _ => ("FordQuestions", "sheets", "[LFordQuestions$Sheet;", true)
def tyX7 : Nat → FieldType := fun k => match k with
  | 0 => .object "FordQuestions$Story"
  | 1 => .object "FordQuestions$Story"
  | 2 => .boolean
  | 3 => .object "FordQuestions$Tape"
  | 4 => .object "FordQuestions$Reader"
  | 5 => .object "FordQuestions$Outlook"
  | 6 => .object "FordQuestions$Tellings"
  | _ => .array (.object "FordQuestions$Sheet")
abbrev wsX70 : List Cond := u_ws RX7 TX7 8
theorem nmX7 : ∀ a, a < 8 → ∀ b, b < 8 → a ≠ b → (TX7 a).2.1 ≠ (TX7 b).2.1 := by decide +kernel
theorem tyX7_ok : ∀ k, k < 8 → parseFieldDescriptor (TX7 k).2.2.1 = some (tyX7 k) := by decide +kernel
abbrev cX7_init : ByteArray := prog_1_method_1_code
def yX7_init : MethodName := ⟨RX7, "<init>", "()V"⟩
abbrev cX7_question : ByteArray := prog_1_method_2_code
def yX7_question : MethodName := ⟨RX7, "question", "(II)I"⟩
abbrev cX7_crosser : ByteArray := prog_1_method_3_code
def yX7_crosser : MethodName := ⟨RX7, "crosser", "(III)I"⟩
abbrev cX7_of : ByteArray := prog_1_method_4_code
def yX7_of : MethodName := ⟨RX7, "of", "(II)I"⟩
abbrev cX7_at : ByteArray := prog_1_method_5_code
def yX7_at : MethodName := ⟨RX7, "at", "(II)I"⟩
abbrev cX7_takes : ByteArray := prog_1_method_6_code
def yX7_takes : MethodName := ⟨RX7, "takes", "(II)I"⟩
abbrev cX7_type : ByteArray := prog_1_method_7_code
def yX7_type : MethodName := ⟨RX7, "type", "(I)I"⟩
abbrev cX7_ford : ByteArray := prog_1_method_8_code
def yX7_ford : MethodName := ⟨RX7, "ford", "()I"⟩
abbrev cX7_count : ByteArray := prog_1_method_9_code
def yX7_count : MethodName := ⟨RX7, "count", "(I)I"⟩
abbrev cX7_hours : ByteArray := prog_1_method_10_code
def yX7_hours : MethodName := ⟨RX7, "hours", "(I)I"⟩
abbrev cX7_teach : ByteArray := prog_1_method_11_code
def yX7_teach : MethodName := ⟨RX7, "teach", "(II)I"⟩
abbrev cX7_later : ByteArray := prog_1_method_12_code
def yX7_later : MethodName := ⟨RX7, "later", "(II)I"⟩
abbrev cX7_again : ByteArray := prog_1_method_13_code
def yX7_again : MethodName := ⟨RX7, "again", "(I)I"⟩
abbrev cX7_put : ByteArray := prog_1_method_14_code
def yX7_put : MethodName := ⟨RX7, "put", "(II)I"⟩
abbrev cX7_drift : ByteArray := prog_1_method_15_code
def yX7_drift : MethodName := ⟨RX7, "drift", "(I)I"⟩
abbrev cX7_undo : ByteArray := prog_1_method_16_code
def yX7_undo : MethodName := ⟨RX7, "undo", "()I"⟩
abbrev cX7_seed : ByteArray := prog_1_method_17_code
def yX7_seed : MethodName := ⟨RX7, "seed", "(I)I"⟩
abbrev cX7_then : ByteArray := prog_1_method_18_code
def yX7_then : MethodName := ⟨RX7, "then", "(II)I"⟩
abbrev cX7_crosses : ByteArray := prog_1_method_19_code
def yX7_crosses : MethodName := ⟨RX7, "crosses", "(I)I"⟩
abbrev cX7_last : ByteArray := prog_1_method_20_code
def yX7_last : MethodName := ⟨RX7, "last", "()I"⟩
abbrev cX7_most : ByteArray := prog_1_method_21_code
def yX7_most : MethodName := ⟨RX7, "most", "(I)I"⟩
abbrev cX7_best : ByteArray := prog_1_method_22_code
def yX7_best : MethodName := ⟨RX7, "best", "(I)I"⟩
abbrev cX7_teaches : ByteArray := prog_1_method_23_code
def yX7_teaches : MethodName := ⟨RX7, "teaches", "(I)I"⟩
abbrev cX7_spare : ByteArray := prog_1_method_24_code
def yX7_spare : MethodName := ⟨RX7, "spare", "(I)I"⟩
abbrev cX7_before : ByteArray := prog_1_method_25_code
def yX7_before : MethodName := ⟨RX7, "before", "(I)I"⟩
abbrev cX7_cramp : ByteArray := prog_1_method_26_code
def yX7_cramp : MethodName := ⟨RX7, "cramp", "(III)I"⟩
abbrev cX7_image : ByteArray := prog_1_method_27_code
def yX7_image : MethodName := ⟨RX7, "image", "()I"⟩
abbrev cX7_restore : ByteArray := prog_1_method_28_code
def yX7_restore : MethodName := ⟨RX7, "restore", "()I"⟩
abbrev cX7_seen : ByteArray := prog_1_method_29_code
def yX7_seen : MethodName := ⟨RX7, "seen", "(IIIIII)I"⟩
abbrev cX7_film : ByteArray := prog_1_method_30_code
def yX7_film : MethodName := ⟨RX7, "film", "(IIII)I"⟩
abbrev cX7_sheet : ByteArray := prog_1_method_31_code
def yX7_sheet : MethodName := ⟨RX7, "sheet", "(III)I"⟩
abbrev cX7_drop : ByteArray := prog_1_method_32_code
def yX7_drop : MethodName := ⟨RX7, "drop", "(I)I"⟩
abbrev cX7_item : ByteArray := prog_1_method_33_code
def yX7_item : MethodName := ⟨RX7, "item", "(IIIJ)I"⟩
abbrev cX7_copy : ByteArray := prog_1_method_34_code
def yX7_copy : MethodName := ⟨RX7, "copy", "(IIIII)I"⟩
abbrev cX7_pass : ByteArray := prog_1_method_35_code
def yX7_pass : MethodName := ⟨RX7, "pass", "(IZ)I"⟩
abbrev cX7_foundOr : ByteArray := prog_1_method_36_code
def yX7_foundOr : MethodName := ⟨RX7, "foundOr", "(I)I"⟩
abbrev cX7_orNone : ByteArray := prog_1_method_37_code
def yX7_orNone : MethodName := ⟨RX7, "orNone", "(I)I"⟩
abbrev cX7_isNoSheet : ByteArray := prog_1_method_38_code
def yX7_isNoSheet : MethodName := ⟨RX7, "isNoSheet", "(I)Z"⟩
abbrev cX7_isNoLane : ByteArray := prog_1_method_39_code
def yX7_isNoLane : MethodName := ⟨RX7, "isNoLane", "(I)Z"⟩
abbrev cX7_isOutside : ByteArray := prog_1_method_40_code
def yX7_isOutside : MethodName := ⟨RX7, "isOutside", "(III)Z"⟩
abbrev cX7_isIn : ByteArray := prog_1_method_41_code
def yX7_isIn : MethodName := ⟨RX7, "isIn", "(II)Z"⟩
abbrev cX7_waysOfAtLeast : ByteArray := prog_1_method_42_code
def yX7_waysOfAtLeast : MethodName := ⟨RX7, "waysOfAtLeast", "(III)I"⟩
abbrev cX7_power : ByteArray := prog_1_method_43_code
def yX7_power : MethodName := ⟨RX7, "power", "(II)I"⟩
abbrev cX7_greatestDivisor : ByteArray := prog_1_method_44_code
def yX7_greatestDivisor : MethodName := ⟨RX7, "greatestDivisor", "(II)I"⟩
def RX8 : String := "FordQuestionsModel"
def TX8 : u_T := fun k => match k with
  | 0 => ("FordQuestionsModel", "questions", "I", false)
  | 1 => ("FordQuestionsModel", "crossers", "I", false)
  | 2 => ("FordQuestionsModel", "topics", "[I", true)
  | 3 => ("FordQuestionsModel", "kinds", "[I", true)
  | 4 => ("FordQuestionsModel", "now", "[I", true)
  | 5 => ("FordQuestionsModel", "side", "[I", true)
  | 6 => ("FordQuestionsModel", "before", "[I", true)
  | 7 => ("FordQuestionsModel", "undoMany", "I", false)
  | 8 => ("FordQuestionsModel", "hasImage", "Z", false)
  | 9 => ("FordQuestionsModel", "imageOf", "[I", true)
  | 10 => ("FordQuestionsModel", "imageRow", "[I", true)
  | 11 => ("FordQuestionsModel", "imageBefore", "[I", true)
  | 12 => ("FordQuestionsModel", "items", "[J", true)
  | 13 => ("FordQuestionsModel", "lanes", "[I", true)
  | 14 => ("FordQuestionsModel", "sizes", "[I", true)
  | 15 => ("FordQuestionsModel", "length", "I", false)
  | 16 => ("FordQuestionsModel", "tape", "[I", true)
  | 17 => ("FordQuestionsModel", "otherOne", "I", false)
  | 18 => ("FordQuestionsModel", "otherKind", "I", false)
  | 19 => ("FordQuestionsModel", "isTold", "Z", false)
  | 20 => ("FordQuestionsModel", "toldOf", "[I", true)
  | 21 => ("FordQuestionsModel", "spot", "I", false)
  | 22 => ("FordQuestionsModel", "begins", "I", false)
  | 23 => ("FordQuestionsModel", "readQuestions", "I", false)
  | 24 => ("FordQuestionsModel", "readCrossers", "I", false)
  | 25 => ("FordQuestionsModel", "readTopics", "[I", true)
  | 26 => ("FordQuestionsModel", "readKinds", "[I", true)
  | 27 => ("FordQuestionsModel", "readRow", "[I", true)
  | 28 => ("FordQuestionsModel", "letter", "I", false)
  | 29 => ("FordQuestionsModel", "askedOnes", "I", false)
  | _ => ("FordQuestionsModel", "bestOf", "[I", true)
def tyX8 : Nat → FieldType := fun k => match k with
  | 0 => .int
  | 1 => .int
  | 2 => .array .int
  | 3 => .array .int
  | 4 => .array .int
  | 5 => .array .int
  | 6 => .array .int
  | 7 => .int
  | 8 => .boolean
  | 9 => .array .int
  | 10 => .array .int
  | 11 => .array .int
  | 12 => .array .long
  | 13 => .array .int
  | 14 => .array .int
  | 15 => .int
  | 16 => .array .int
  | 17 => .int
  | 18 => .int
  | 19 => .boolean
  | 20 => .array .int
  | 21 => .int
  | 22 => .int
  | 23 => .int
  | 24 => .int
  | 25 => .array .int
  | 26 => .array .int
  | 27 => .array .int
  | 28 => .int
  | 29 => .int
  | _ => .array .int
abbrev wsX80 : List Cond := u_ws RX8 TX8 31
theorem nmX8 : ∀ a, a < 31 → ∀ b, b < 31 → a ≠ b → (TX8 a).2.1 ≠ (TX8 b).2.1 := by decide +kernel
theorem tyX8_ok : ∀ k, k < 31 → parseFieldDescriptor (TX8 k).2.2.1 = some (tyX8 k) := by decide +kernel
abbrev cX8_init : ByteArray := prog_10_method_1_code
def yX8_init : MethodName := ⟨RX8, "<init>", "()V"⟩
abbrev cX8_in : ByteArray := prog_10_method_2_code
def yX8_in : MethodName := ⟨RX8, "in", "(JJJ)Z"⟩
abbrev cX8_has : ByteArray := prog_10_method_3_code
def yX8_has : MethodName := ⟨RX8, "has", "(II)Z"⟩
abbrev cX8_isQuestion : ByteArray := prog_10_method_4_code
def yX8_isQuestion : MethodName := ⟨RX8, "isQuestion", "(I)Z"⟩
abbrev cX8_isCrosser : ByteArray := prog_10_method_5_code
def yX8_isCrosser : MethodName := ⟨RX8, "isCrosser", "(I)Z"⟩
abbrev cX8_aside : ByteArray := prog_10_method_6_code
def yX8_aside : MethodName := ⟨RX8, "aside", "()V"⟩
abbrev cX8_take : ByteArray := prog_10_method_7_code
def yX8_take : MethodName := ⟨RX8, "take", "()V"⟩
abbrev cX8_othersIn : ByteArray := prog_10_method_8_code
def yX8_othersIn : MethodName := ⟨RX8, "othersIn", "(I)I"⟩
abbrev cX8_hoursOf : ByteArray := prog_10_method_9_code
def yX8_hoursOf : MethodName := ⟨RX8, "hoursOf", "(II)I"⟩
abbrev cX8_lowestLeft : ByteArray := prog_10_method_10_code
def yX8_lowestLeft : MethodName := ⟨RX8, "lowestLeft", "()I"⟩
abbrev cX8_goComes : ByteArray := prog_10_method_11_code
def yX8_goComes : MethodName := ⟨RX8, "goComes", "(I)V"⟩
abbrev cX8_goHour : ByteArray := prog_10_method_12_code
def yX8_goHour : MethodName := ⟨RX8, "goHour", "()V"⟩
abbrev cX8_goHours : ByteArray := prog_10_method_13_code
def yX8_goHours : MethodName := ⟨RX8, "goHours", "(I)V"⟩
abbrev cX8_placed : ByteArray := prog_10_method_14_code
def yX8_placed : MethodName := ⟨RX8, "placed", "(I)I"⟩
abbrev cX8_inMany : ByteArray := prog_10_method_15_code
def yX8_inMany : MethodName := ⟨RX8, "inMany", "()I"⟩
abbrev cX8_lastHour : ByteArray := prog_10_method_16_code
def yX8_lastHour : MethodName := ⟨RX8, "lastHour", "()I"⟩
abbrev cX8_isSooner : ByteArray := prog_10_method_17_code
def yX8_isSooner : MethodName := ⟨RX8, "isSooner", "(II)Z"⟩
abbrev cX8_question : ByteArray := prog_10_method_18_code
def yX8_question : MethodName := ⟨RX8, "question", "(II)I"⟩
abbrev cX8_crosser : ByteArray := prog_10_method_19_code
def yX8_crosser : MethodName := ⟨RX8, "crosser", "(III)I"⟩
abbrev cX8_of : ByteArray := prog_10_method_20_code
def yX8_of : MethodName := ⟨RX8, "of", "(II)I"⟩
abbrev cX8_at : ByteArray := prog_10_method_21_code
def yX8_at : MethodName := ⟨RX8, "at", "(II)I"⟩
abbrev cX8_takes : ByteArray := prog_10_method_22_code
def yX8_takes : MethodName := ⟨RX8, "takes", "(II)I"⟩
abbrev cX8_type : ByteArray := prog_10_method_23_code
def yX8_type : MethodName := ⟨RX8, "type", "(I)I"⟩
abbrev cX8_next : ByteArray := prog_10_method_24_code
def yX8_next : MethodName := ⟨RX8, "next", "()I"⟩
abbrev cX8_isDigit : ByteArray := prog_10_method_25_code
def yX8_isDigit : MethodName := ⟨RX8, "isDigit", "(I)Z"⟩
abbrev cX8_isTopic : ByteArray := prog_10_method_26_code
def yX8_isTopic : MethodName := ⟨RX8, "isTopic", "(I)Z"⟩
abbrev cX8_kindBy : ByteArray := prog_10_method_27_code
def yX8_kindBy : MethodName := ⟨RX8, "kindBy", "(I)I"⟩
abbrev cX8_questionsAll : ByteArray := prog_10_method_28_code
def yX8_questionsAll : MethodName := ⟨RX8, "questionsAll", "()Z"⟩
abbrev cX8_knowsAll : ByteArray := prog_10_method_29_code
def yX8_knowsAll : MethodName := ⟨RX8, "knowsAll", "()Z"⟩
abbrev cX8_comesAt : ByteArray := prog_10_method_30_code
def yX8_comesAt : MethodName := ⟨RX8, "comesAt", "()Z"⟩
abbrev cX8_crosserOne : ByteArray := prog_10_method_31_code
def yX8_crosserOne : MethodName := ⟨RX8, "crosserOne", "()Z"⟩
abbrev cX8_isFord : ByteArray := prog_10_method_32_code
def yX8_isFord : MethodName := ⟨RX8, "isFord", "()Z"⟩
abbrev cX8_ford : ByteArray := prog_10_method_33_code
def yX8_ford : MethodName := ⟨RX8, "ford", "()I"⟩
abbrev cX8_count : ByteArray := prog_10_method_34_code
def yX8_count : MethodName := ⟨RX8, "count", "(I)I"⟩
abbrev cX8_note : ByteArray := prog_10_method_35_code
def yX8_note : MethodName := ⟨RX8, "note", "()V"⟩
abbrev cX8_hours : ByteArray := prog_10_method_36_code
def yX8_hours : MethodName := ⟨RX8, "hours", "(I)I"⟩
abbrev cX8_teach : ByteArray := prog_10_method_37_code
def yX8_teach : MethodName := ⟨RX8, "teach", "(II)I"⟩
abbrev cX8_later : ByteArray := prog_10_method_38_code
def yX8_later : MethodName := ⟨RX8, "later", "(II)I"⟩
abbrev cX8_again : ByteArray := prog_10_method_39_code
def yX8_again : MethodName := ⟨RX8, "again", "(I)I"⟩
abbrev cX8_put : ByteArray := prog_10_method_40_code
def yX8_put : MethodName := ⟨RX8, "put", "(II)I"⟩
abbrev cX8_drift : ByteArray := prog_10_method_41_code
def yX8_drift : MethodName := ⟨RX8, "drift", "(I)I"⟩
abbrev cX8_undo : ByteArray := prog_10_method_42_code
def yX8_undo : MethodName := ⟨RX8, "undo", "()I"⟩
abbrev cX8_seed : ByteArray := prog_10_method_43_code
def yX8_seed : MethodName := ⟨RX8, "seed", "(I)I"⟩
abbrev cX8_then : ByteArray := prog_10_method_44_code
def yX8_then : MethodName := ⟨RX8, "then", "(II)I"⟩
abbrev cX8_overHour : ByteArray := prog_10_method_45_code
def yX8_overHour : MethodName := ⟨RX8, "overHour", "(I)I"⟩
abbrev cX8_crosses : ByteArray := prog_10_method_46_code
def yX8_crosses : MethodName := ⟨RX8, "crosses", "(I)I"⟩
abbrev cX8_last : ByteArray := prog_10_method_47_code
def yX8_last : MethodName := ⟨RX8, "last", "()I"⟩
abbrev cX8_most : ByteArray := prog_10_method_48_code
def yX8_most : MethodName := ⟨RX8, "most", "(I)I"⟩
abbrev cX8_leftMany : ByteArray := prog_10_method_49_code
def yX8_leftMany : MethodName := ⟨RX8, "leftMany", "()I"⟩
abbrev cX8_layAsked : ByteArray := prog_10_method_50_code
def yX8_layAsked : MethodName := ⟨RX8, "layAsked", "()V"⟩
abbrev cX8_isTelling : ByteArray := prog_10_method_51_code
def yX8_isTelling : MethodName := ⟨RX8, "isTelling", "(I)Z"⟩
abbrev cX8_best : ByteArray := prog_10_method_52_code
def yX8_best : MethodName := ⟨RX8, "best", "(I)I"⟩
abbrev cX8_teaches : ByteArray := prog_10_method_53_code
def yX8_teaches : MethodName := ⟨RX8, "teaches", "(I)I"⟩
abbrev cX8_spare : ByteArray := prog_10_method_54_code
def yX8_spare : MethodName := ⟨RX8, "spare", "(I)I"⟩
abbrev cX8_before : ByteArray := prog_10_method_55_code
def yX8_before : MethodName := ⟨RX8, "before", "(I)I"⟩
abbrev cX8_cramp : ByteArray := prog_10_method_56_code
def yX8_cramp : MethodName := ⟨RX8, "cramp", "(III)I"⟩
abbrev cX8_image : ByteArray := prog_10_method_57_code
def yX8_image : MethodName := ⟨RX8, "image", "()I"⟩
abbrev cX8_restore : ByteArray := prog_10_method_58_code
def yX8_restore : MethodName := ⟨RX8, "restore", "()I"⟩
abbrev cX8_isSheet : ByteArray := prog_10_method_59_code
def yX8_isSheet : MethodName := ⟨RX8, "isSheet", "(I)Z"⟩
abbrev cX8_isLane : ByteArray := prog_10_method_60_code
def yX8_isLane : MethodName := ⟨RX8, "isLane", "(I)Z"⟩
abbrev cX8_isSpan : ByteArray := prog_10_method_61_code
def yX8_isSpan : MethodName := ⟨RX8, "isSpan", "(III)Z"⟩
abbrev cX8_lacks : ByteArray := prog_10_method_62_code
def yX8_lacks : MethodName := ⟨RX8, "lacks", "(IIII)I"⟩
abbrev cX8_isSeen : ByteArray := prog_10_method_63_code
def yX8_isSeen : MethodName := ⟨RX8, "isSeen", "(III)Z"⟩
abbrev cX8_seenKinds : ByteArray := prog_10_method_64_code
def yX8_seenKinds : MethodName := ⟨RX8, "seenKinds", "(IIII)I"⟩
abbrev cX8_seen : ByteArray := prog_10_method_65_code
def yX8_seen : MethodName := ⟨RX8, "seen", "(IIIIII)I"⟩
abbrev cX8_film : ByteArray := prog_10_method_66_code
def yX8_film : MethodName := ⟨RX8, "film", "(IIII)I"⟩
abbrev cX8_sheet : ByteArray := prog_10_method_67_code
def yX8_sheet : MethodName := ⟨RX8, "sheet", "(III)I"⟩
abbrev cX8_drop : ByteArray := prog_10_method_68_code
def yX8_drop : MethodName := ⟨RX8, "drop", "(I)I"⟩
abbrev cX8_item : ByteArray := prog_10_method_69_code
def yX8_item : MethodName := ⟨RX8, "item", "(IIIJ)I"⟩
abbrev cX8_copy : ByteArray := prog_10_method_70_code
def yX8_copy : MethodName := ⟨RX8, "copy", "(IIIII)I"⟩
def RJx145de : String := "java/io/Serializable"
def TJx145de : u_T := fun k => match k with
  | _ => ("", "", "", false)
def tyJx145de : Nat → FieldType := fun k => match k with
  | _ => .int
abbrev wsJx145de0 : List Cond := u_ws RJx145de TJx145de 0
theorem nmJx145de : ∀ a, a < 0 → ∀ b, b < 0 → a ≠ b → (TJx145de a).2.1 ≠ (TJx145de b).2.1 := by decide +kernel
theorem tyJx145de_ok : ∀ k, k < 0 → parseFieldDescriptor (TJx145de k).2.2.1 = some (tyJx145de k) := by decide +kernel
def RJx9f9b0 : String := "java/lang/CharSequence"
def TJx9f9b0 : u_T := fun k => match k with
  | _ => ("", "", "", false)
def tyJx9f9b0 : Nat → FieldType := fun k => match k with
  | _ => .int
abbrev wsJx9f9b00 : List Cond := u_ws RJx9f9b0 TJx9f9b0 0
theorem nmJx9f9b0 : ∀ a, a < 0 → ∀ b, b < 0 → a ≠ b → (TJx9f9b0 a).2.1 ≠ (TJx9f9b0 b).2.1 := by decide +kernel
theorem tyJx9f9b0_ok : ∀ k, k < 0 → parseFieldDescriptor (TJx9f9b0 k).2.2.1 = some (tyJx9f9b0 k) := by decide +kernel
def RJ11 : String := "java/lang/Character"
def TJ11 : u_T := fun k => match k with
  | _ => ("", "", "", false)
def tyJ11 : Nat → FieldType := fun k => match k with
  | _ => .int
abbrev wsJ110 : List Cond := u_ws RJ11 TJ11 0
theorem nmJ11 : ∀ a, a < 0 → ∀ b, b < 0 → a ≠ b → (TJ11 a).2.1 ≠ (TJ11 b).2.1 := by decide +kernel
theorem tyJ11_ok : ∀ k, k < 0 → parseFieldDescriptor (TJ11 k).2.2.1 = some (tyJ11 k) := by decide +kernel
abbrev cJ11_isValidCodePoint_9a6ad : ByteArray := prog_11_method_11_code
def yJ11_isValidCodePoint_9a6ad : MethodName := ⟨RJ11, "isValidCodePoint", "(I)Z"⟩
abbrev cJ11_highSurrogate_5068e : ByteArray := prog_11_method_28_code
def yJ11_highSurrogate_5068e : MethodName := ⟨RJ11, "highSurrogate", "(I)C"⟩
abbrev cJ11_lowSurrogate_5068e : ByteArray := prog_11_method_29_code
def yJ11_lowSurrogate_5068e : MethodName := ⟨RJ11, "lowSurrogate", "(I)C"⟩
def RJxb160c : String := "java/lang/Comparable"
def TJxb160c : u_T := fun k => match k with
  | _ => ("", "", "", false)
def tyJxb160c : Nat → FieldType := fun k => match k with
  | _ => .int
abbrev wsJxb160c0 : List Cond := u_ws RJxb160c TJxb160c 0
theorem nmJxb160c : ∀ a, a < 0 → ∀ b, b < 0 → a ≠ b → (TJxb160c a).2.1 ≠ (TJxb160c b).2.1 := by decide +kernel
theorem tyJxb160c_ok : ∀ k, k < 0 → parseFieldDescriptor (TJxb160c k).2.2.1 = some (tyJxb160c k) := by decide +kernel
def RJ6 : String := "java/lang/Integer"
def TJ6 : u_T := fun k => match k with
  | _ => ("", "", "", false)
def tyJ6 : Nat → FieldType := fun k => match k with
  | _ => .int
abbrev wsJ60 : List Cond := u_ws RJ6 TJ6 0
theorem nmJ6 : ∀ a, a < 0 → ∀ b, b < 0 → a ≠ b → (TJ6 a).2.1 ≠ (TJ6 b).2.1 := by decide +kernel
theorem tyJ6_ok : ∀ k, k < 0 → parseFieldDescriptor (TJ6 k).2.2.1 = some (tyJ6 k) := by decide +kernel
abbrev cJ6_bitCount_0f7a4 : ByteArray := prog_12_method_49_code
def yJ6_bitCount_0f7a4 : MethodName := ⟨RJ6, "bitCount", "(I)I"⟩
def RJ9 : String := "java/lang/Math"
def TJ9 : u_T := fun k => match k with
  | _ => ("", "", "", false)
def tyJ9 : Nat → FieldType := fun k => match k with
  | _ => .int
abbrev wsJ90 : List Cond := u_ws RJ9 TJ9 0
theorem nmJ9 : ∀ a, a < 0 → ∀ b, b < 0 → a ≠ b → (TJ9 a).2.1 ≠ (TJ9 b).2.1 := by decide +kernel
theorem tyJ9_ok : ∀ k, k < 0 → parseFieldDescriptor (TJ9 k).2.2.1 = some (tyJ9 k) := by decide +kernel
abbrev cJ9_max_7cf53 : ByteArray := prog_13_method_65_code
def yJ9_max_7cf53 : MethodName := ⟨RJ9, "max", "(II)I"⟩
abbrev cJ9_min_7cf53 : ByteArray := prog_13_method_69_code
def yJ9_min_7cf53 : MethodName := ⟨RJ9, "min", "(II)I"⟩
def RJ0 : String := "java/lang/String"
def TJ0 : u_T := fun k => match k with
  | _ => ("", "", "", false)
def tyJ0 : Nat → FieldType := fun k => match k with
  | _ => .int
abbrev wsJ00 : List Cond := u_ws RJ0 TJ0 0
theorem nmJ0 : ∀ a, a < 0 → ∀ b, b < 0 → a ≠ b → (TJ0 a).2.1 ≠ (TJ0 b).2.1 := by decide +kernel
theorem tyJ0_ok : ∀ k, k < 0 → parseFieldDescriptor (TJ0 k).2.2.1 = some (tyJ0 k) := by decide +kernel
abbrev cJ0_length_8abf5 : ByteArray := prog_14_method_54_code
def yJ0_length_8abf5 : MethodName := ⟨RJ0, "length", "()I"⟩
abbrev cJ0_indexOf_0f7a4 : ByteArray := prog_14_method_79_code
def yJ0_indexOf_0f7a4 : MethodName := ⟨RJ0, "indexOf", "(I)I"⟩
abbrev cJ0_indexOf_7cf53 : ByteArray := prog_14_method_80_code
def yJ0_indexOf_7cf53 : MethodName := ⟨RJ0, "indexOf", "(II)I"⟩
abbrev cJ0_coder_7d493 : ByteArray := prog_14_method_152_code
def yJ0_coder_7d493 : MethodName := ⟨RJ0, "coder", "()B"⟩
abbrev cJ0_isLatin1_aae02 : ByteArray := prog_14_method_154_code
def yJ0_isLatin1_aae02 : MethodName := ⟨RJ0, "isLatin1", "()Z"⟩
abbrev cJ0_checkBoundsBeginEnd_23922 : ByteArray := prog_14_method_158_code
def yJ0_checkBoundsBeginEnd_23922 : MethodName := ⟨RJ0, "checkBoundsBeginEnd", "(III)V"⟩
def RJ1 : String := "java/lang/StringLatin1"
def TJ1 : u_T := fun k => match k with
  | _ => ("", "", "", false)
def tyJ1 : Nat → FieldType := fun k => match k with
  | _ => .int
abbrev wsJ10 : List Cond := u_ws RJ1 TJ1 0
theorem nmJ1 : ∀ a, a < 0 → ∀ b, b < 0 → a ≠ b → (TJ1 a).2.1 ≠ (TJ1 b).2.1 := by decide +kernel
theorem tyJ1_ok : ∀ k, k < 0 → parseFieldDescriptor (TJ1 k).2.2.1 = some (tyJ1 k) := by decide +kernel
abbrev cJ1_canEncode_9a6ad : ByteArray := prog_15_method_4_code
def yJ1_canEncode_9a6ad : MethodName := ⟨RJ1, "canEncode", "(I)Z"⟩
abbrev cJ1_indexOf_4cfef : ByteArray := prog_15_method_22_code
def yJ1_indexOf_4cfef : MethodName := ⟨RJ1, "indexOf", "([BIII)I"⟩
abbrev cJ1_indexOfChar_4cfef : ByteArray := prog_15_method_23_code
def yJ1_indexOfChar_4cfef : MethodName := ⟨RJ1, "indexOfChar", "([BIII)I"⟩
def RJ2 : String := "java/lang/StringUTF16"
def TJ2 : u_T := fun k => match k with
  | _ => ("", "", "", false)
def tyJ2 : Nat → FieldType := fun k => match k with
  | _ => .int
abbrev wsJ20 : List Cond := u_ws RJ2 TJ2 0
theorem nmJ2 : ∀ a, a < 0 → ∀ b, b < 0 → a ≠ b → (TJ2 a).2.1 ≠ (TJ2 b).2.1 := by decide +kernel
theorem tyJ2_ok : ∀ k, k < 0 → parseFieldDescriptor (TJ2 k).2.2.1 = some (tyJ2 k) := by decide +kernel
abbrev cJ2_getChar_3b067 : ByteArray := prog_16_method_5_code
def yJ2_getChar_3b067 : MethodName := ⟨RJ2, "getChar", "([BI)C"⟩
abbrev cJ2_length_9d52b : ByteArray := prog_16_method_6_code
def yJ2_length_9d52b : MethodName := ⟨RJ2, "length", "([B)I"⟩
abbrev cJ2_indexOf_4cfef : ByteArray := prog_16_method_40_code
def yJ2_indexOf_4cfef : MethodName := ⟨RJ2, "indexOf", "([BIII)I"⟩
abbrev cJ2_indexOfChar_4cfef : ByteArray := prog_16_method_47_code
def yJ2_indexOfChar_4cfef : MethodName := ⟨RJ2, "indexOfChar", "([BIII)I"⟩
abbrev cJ2_indexOfCharUnsafe_4cfef : ByteArray := prog_16_method_48_code
def yJ2_indexOfCharUnsafe_4cfef : MethodName := ⟨RJ2, "indexOfCharUnsafe", "([BIII)I"⟩
abbrev cJ2_indexOfSupplementary_4cfef : ByteArray := prog_16_method_49_code
def yJ2_indexOfSupplementary_4cfef : MethodName := ⟨RJ2, "indexOfSupplementary", "([BIII)I"⟩
abbrev cJ2_checkBoundsBeginEnd_d044e : ByteArray := prog_16_method_93_code
def yJ2_checkBoundsBeginEnd_d044e : MethodName := ⟨RJ2, "checkBoundsBeginEnd", "(II[B)V"⟩
def RJ10 : String := "java/lang/System"
def TJ10 : u_T := fun k => match k with
  | _ => ("", "", "", false)
def tyJ10 : Nat → FieldType := fun k => match k with
  | _ => .int
abbrev wsJ100 : List Cond := u_ws RJ10 TJ10 0
theorem nmJ10 : ∀ a, a < 0 → ∀ b, b < 0 → a ≠ b → (TJ10 a).2.1 ≠ (TJ10 b).2.1 := by decide +kernel
theorem tyJ10_ok : ∀ k, k < 0 → parseFieldDescriptor (TJ10 k).2.2.1 = some (tyJ10 k) := by decide +kernel
def RJxfd54e : String := "java/lang/constant/Constable"
def TJxfd54e : u_T := fun k => match k with
  | _ => ("", "", "", false)
def tyJxfd54e : Nat → FieldType := fun k => match k with
  | _ => .int
abbrev wsJxfd54e0 : List Cond := u_ws RJxfd54e TJxfd54e 0
theorem nmJxfd54e : ∀ a, a < 0 → ∀ b, b < 0 → a ≠ b → (TJxfd54e a).2.1 ≠ (TJxfd54e b).2.1 := by decide +kernel
theorem tyJxfd54e_ok : ∀ k, k < 0 → parseFieldDescriptor (TJxfd54e k).2.2.1 = some (tyJxfd54e k) := by decide +kernel
def RJx3cf43 : String := "java/lang/constant/ConstantDesc"
def TJx3cf43 : u_T := fun k => match k with
  | _ => ("", "", "", false)
def tyJx3cf43 : Nat → FieldType := fun k => match k with
  | _ => .int
abbrev wsJx3cf430 : List Cond := u_ws RJx3cf43 TJx3cf43 0
theorem nmJx3cf43 : ∀ a, a < 0 → ∀ b, b < 0 → a ≠ b → (TJx3cf43 a).2.1 ≠ (TJx3cf43 b).2.1 := by decide +kernel
theorem tyJx3cf43_ok : ∀ k, k < 0 → parseFieldDescriptor (TJx3cf43 k).2.2.1 = some (tyJx3cf43 k) := by decide +kernel
def RJ7 : String := "java/util/Arrays"
def TJ7 : u_T := fun k => match k with
  | _ => ("", "", "", false)
def tyJ7 : Nat → FieldType := fun k => match k with
  | _ => .int
abbrev wsJ70 : List Cond := u_ws RJ7 TJ7 0
theorem nmJ7 : ∀ a, a < 0 → ∀ b, b < 0 → a ≠ b → (TJ7 a).2.1 ≠ (TJ7 b).2.1 := by decide +kernel
theorem tyJ7_ok : ∀ k, k < 0 → parseFieldDescriptor (TJ7 k).2.2.1 = some (tyJ7 k) := by decide +kernel
abbrev cJ7_fill_d0a16 : ByteArray := prog_18_method_101_code
def yJ7_fill_d0a16 : MethodName := ⟨RJ7, "fill", "([JJ)V"⟩
def RJ3 : String := "jdk/internal/util/Preconditions"
def TJ3 : u_T := fun k => match k with
  | _ => ("", "", "", false)
def tyJ3 : Nat → FieldType := fun k => match k with
  | _ => .int
abbrev wsJ30 : List Cond := u_ws RJ3 TJ3 0
theorem nmJ3 : ∀ a, a < 0 → ∀ b, b < 0 → a ≠ b → (TJ3 a).2.1 ≠ (TJ3 b).2.1 := by decide +kernel
theorem tyJ3_ok : ∀ k, k < 0 → parseFieldDescriptor (TJ3 k).2.2.1 = some (tyJ3 k) := by decide +kernel
abbrev cJ3_checkFromToIndex_8c36e : ByteArray := prog_19_method_12_code
def yJ3_checkFromToIndex_8c36e : MethodName := ⟨RJ3, "checkFromToIndex", "(IIILjava/util/function/BiFunction;)I"⟩
def RL : String := "FordQuestionsLaw"
abbrev cL_law : ByteArray := code
def yL_law : MethodName := ⟨RL, "law", "([I)Z"⟩
abbrev vwCl : List vw_C := [(RX0, TX0, 12), (RX1, TX1, 4), (RX2, TX2, 3), (RX3, TX3, 3), (RX4, TX4, 4), (RX5, TX5, 2), (RX6, TX6, 7), (RX7, TX7, 8), (RX8, TX8, 31)]
end
section
theorem dJ0_length_8abf5_0 : decode cJ0_length_8abf5 0 = .ok (.aload_n 0, 1) := by decide +kernel
theorem dJ0_length_8abf5_1 : decode cJ0_length_8abf5 1 = .ok (.getfield 9, 3) := by decide +kernel
theorem dJ0_length_8abf5_4 : decode cJ0_length_8abf5 4 = .ok (.arraylength, 1) := by decide +kernel
theorem dJ0_length_8abf5_5 : decode cJ0_length_8abf5 5 = .ok (.aload_n 0, 1) := by decide +kernel
theorem dJ0_length_8abf5_6 : decode cJ0_length_8abf5 6 = .ok (.invokevirtual 335, 3) := by decide +kernel
theorem dJ0_length_8abf5_9 : decode cJ0_length_8abf5 9 = .ok (.ishr, 1) := by decide +kernel
theorem dJ0_length_8abf5_10 : decode cJ0_length_8abf5 10 = .ok (.ireturn, 1) := by decide +kernel
theorem dJ0_indexOf_0f7a4_0 : decode cJ0_indexOf_0f7a4 0 = .ok (.aload_n 0, 1) := by decide +kernel
theorem dJ0_indexOf_0f7a4_1 : decode cJ0_indexOf_0f7a4 1 = .ok (.iload_n 1, 1) := by decide +kernel
theorem dJ0_indexOf_0f7a4_2 : decode cJ0_indexOf_0f7a4 2 = .ok (.iconst 0, 1) := by decide +kernel
theorem dJ0_indexOf_0f7a4_3 : decode cJ0_indexOf_0f7a4 3 = .ok (.invokevirtual 633, 3) := by decide +kernel
theorem dJ0_indexOf_0f7a4_6 : decode cJ0_indexOf_0f7a4 6 = .ok (.ireturn, 1) := by decide +kernel
theorem dJ0_indexOf_7cf53_0 : decode cJ0_indexOf_7cf53 0 = .ok (.aload_n 0, 1) := by decide +kernel
theorem dJ0_indexOf_7cf53_1 : decode cJ0_indexOf_7cf53 1 = .ok (.invokevirtual 492, 3) := by decide +kernel
theorem dJ0_indexOf_7cf53_4 : decode cJ0_indexOf_7cf53 4 = .ok (.ifCond .eq 19, 3) := by decide +kernel
theorem dJ0_indexOf_7cf53_7 : decode cJ0_indexOf_7cf53 7 = .ok (.aload_n 0, 1) := by decide +kernel
theorem dJ0_indexOf_7cf53_8 : decode cJ0_indexOf_7cf53 8 = .ok (.getfield 9, 3) := by decide +kernel
theorem dJ0_indexOf_7cf53_11 : decode cJ0_indexOf_7cf53 11 = .ok (.iload_n 1, 1) := by decide +kernel
theorem dJ0_indexOf_7cf53_12 : decode cJ0_indexOf_7cf53 12 = .ok (.iload_n 2, 1) := by decide +kernel
theorem dJ0_indexOf_7cf53_13 : decode cJ0_indexOf_7cf53 13 = .ok (.aload_n 0, 1) := by decide +kernel
theorem dJ0_indexOf_7cf53_14 : decode cJ0_indexOf_7cf53 14 = .ok (.invokevirtual 505, 3) := by decide +kernel
theorem dJ0_indexOf_7cf53_17 : decode cJ0_indexOf_7cf53 17 = .ok (.invokestatic 637, 3) := by decide +kernel
theorem dJ0_indexOf_7cf53_20 : decode cJ0_indexOf_7cf53 20 = .ok (.goto 16, 3) := by decide +kernel
theorem dJ0_indexOf_7cf53_23 : decode cJ0_indexOf_7cf53 23 = .ok (.aload_n 0, 1) := by decide +kernel
theorem dJ0_indexOf_7cf53_24 : decode cJ0_indexOf_7cf53 24 = .ok (.getfield 9, 3) := by decide +kernel
theorem dJ0_indexOf_7cf53_27 : decode cJ0_indexOf_7cf53 27 = .ok (.iload_n 1, 1) := by decide +kernel
theorem dJ0_indexOf_7cf53_28 : decode cJ0_indexOf_7cf53 28 = .ok (.iload_n 2, 1) := by decide +kernel
theorem dJ0_indexOf_7cf53_29 : decode cJ0_indexOf_7cf53 29 = .ok (.aload_n 0, 1) := by decide +kernel
theorem dJ0_indexOf_7cf53_30 : decode cJ0_indexOf_7cf53 30 = .ok (.invokevirtual 505, 3) := by decide +kernel
theorem dJ0_indexOf_7cf53_33 : decode cJ0_indexOf_7cf53 33 = .ok (.invokestatic 640, 3) := by decide +kernel
theorem dJ0_indexOf_7cf53_36 : decode cJ0_indexOf_7cf53 36 = .ok (.ireturn, 1) := by decide +kernel
theorem dJ0_coder_7d493_0 : decode cJ0_coder_7d493 0 = .ok (.getstatic 38, 3) := by decide +kernel
theorem dJ0_coder_7d493_3 : decode cJ0_coder_7d493 3 = .ok (.ifCond .eq 10, 3) := by decide +kernel
theorem dJ0_coder_7d493_6 : decode cJ0_coder_7d493 6 = .ok (.aload_n 0, 1) := by decide +kernel
theorem dJ0_coder_7d493_7 : decode cJ0_coder_7d493 7 = .ok (.getfield 15, 3) := by decide +kernel
theorem dJ0_coder_7d493_10 : decode cJ0_coder_7d493 10 = .ok (.goto 4, 3) := by decide +kernel
theorem dJ0_coder_7d493_13 : decode cJ0_coder_7d493 13 = .ok (.iconst 1, 1) := by decide +kernel
theorem dJ0_coder_7d493_14 : decode cJ0_coder_7d493 14 = .ok (.ireturn, 1) := by decide +kernel
theorem dJ0_isLatin1_aae02_0 : decode cJ0_isLatin1_aae02 0 = .ok (.getstatic 38, 3) := by decide +kernel
theorem dJ0_isLatin1_aae02_3 : decode cJ0_isLatin1_aae02 3 = .ok (.ifCond .eq 14, 3) := by decide +kernel
theorem dJ0_isLatin1_aae02_6 : decode cJ0_isLatin1_aae02 6 = .ok (.aload_n 0, 1) := by decide +kernel
theorem dJ0_isLatin1_aae02_7 : decode cJ0_isLatin1_aae02 7 = .ok (.getfield 15, 3) := by decide +kernel
theorem dJ0_isLatin1_aae02_10 : decode cJ0_isLatin1_aae02 10 = .ok (.ifCond .ne 7, 3) := by decide +kernel
theorem dJ0_isLatin1_aae02_13 : decode cJ0_isLatin1_aae02 13 = .ok (.iconst 1, 1) := by decide +kernel
theorem dJ0_isLatin1_aae02_14 : decode cJ0_isLatin1_aae02 14 = .ok (.goto 4, 3) := by decide +kernel
theorem dJ0_isLatin1_aae02_17 : decode cJ0_isLatin1_aae02 17 = .ok (.iconst 0, 1) := by decide +kernel
theorem dJ0_isLatin1_aae02_18 : decode cJ0_isLatin1_aae02 18 = .ok (.ireturn, 1) := by decide +kernel
theorem dJ0_checkBoundsBeginEnd_23922_0 : decode cJ0_checkBoundsBeginEnd_23922 0 = .ok (.iload_n 0, 1) := by decide +kernel
theorem dJ0_checkBoundsBeginEnd_23922_1 : decode cJ0_checkBoundsBeginEnd_23922 1 = .ok (.iload_n 1, 1) := by decide +kernel
theorem dJ0_checkBoundsBeginEnd_23922_2 : decode cJ0_checkBoundsBeginEnd_23922 2 = .ok (.iload_n 2, 1) := by decide +kernel
theorem dJ0_checkBoundsBeginEnd_23922_3 : decode cJ0_checkBoundsBeginEnd_23922 3 = .ok (.getstatic 1053, 3) := by decide +kernel
theorem dJ0_checkBoundsBeginEnd_23922_6 : decode cJ0_checkBoundsBeginEnd_23922 6 = .ok (.invokestatic 1062, 3) := by decide +kernel
theorem dJ0_checkBoundsBeginEnd_23922_9 : decode cJ0_checkBoundsBeginEnd_23922 9 = .ok (.pop, 1) := by decide +kernel
theorem dJ0_checkBoundsBeginEnd_23922_10 : decode cJ0_checkBoundsBeginEnd_23922 10 = .ok (.return_, 1) := by decide +kernel
theorem dJ1_canEncode_9a6ad_0 : decode cJ1_canEncode_9a6ad 0 = .ok (.iload_n 0, 1) := by decide +kernel
theorem dJ1_canEncode_9a6ad_1 : decode cJ1_canEncode_9a6ad 1 = .ok (.ifCond .lt 14, 3) := by decide +kernel
theorem dJ1_canEncode_9a6ad_4 : decode cJ1_canEncode_9a6ad 4 = .ok (.iload_n 0, 1) := by decide +kernel
theorem dJ1_canEncode_9a6ad_5 : decode cJ1_canEncode_9a6ad 5 = .ok (.sipush 255, 3) := by decide +kernel
theorem dJ1_canEncode_9a6ad_8 : decode cJ1_canEncode_9a6ad 8 = .ok (.if_icmp .gt 7, 3) := by decide +kernel
theorem dJ1_canEncode_9a6ad_11 : decode cJ1_canEncode_9a6ad 11 = .ok (.iconst 1, 1) := by decide +kernel
theorem dJ1_canEncode_9a6ad_12 : decode cJ1_canEncode_9a6ad 12 = .ok (.goto 4, 3) := by decide +kernel
theorem dJ1_canEncode_9a6ad_15 : decode cJ1_canEncode_9a6ad 15 = .ok (.iconst 0, 1) := by decide +kernel
theorem dJ1_canEncode_9a6ad_16 : decode cJ1_canEncode_9a6ad 16 = .ok (.ireturn, 1) := by decide +kernel
theorem dJ1_indexOf_4cfef_0 : decode cJ1_indexOf_4cfef 0 = .ok (.iload_n 1, 1) := by decide +kernel
theorem dJ1_indexOf_4cfef_1 : decode cJ1_indexOf_4cfef 1 = .ok (.invokestatic 88, 3) := by decide +kernel
theorem dJ1_indexOf_4cfef_4 : decode cJ1_indexOf_4cfef 4 = .ok (.ifCond .ne 5, 3) := by decide +kernel
theorem dJ1_indexOf_4cfef_7 : decode cJ1_indexOf_4cfef 7 = .ok (.iconst (-1), 1) := by decide +kernel
theorem dJ1_indexOf_4cfef_8 : decode cJ1_indexOf_4cfef 8 = .ok (.ireturn, 1) := by decide +kernel
theorem dJ1_indexOf_4cfef_9 : decode cJ1_indexOf_4cfef 9 = .ok (.iload_n 2, 1) := by decide +kernel
theorem dJ1_indexOf_4cfef_10 : decode cJ1_indexOf_4cfef 10 = .ok (.iconst 0, 1) := by decide +kernel
theorem dJ1_indexOf_4cfef_11 : decode cJ1_indexOf_4cfef 11 = .ok (.invokestatic 92, 3) := by decide +kernel
theorem dJ1_indexOf_4cfef_14 : decode cJ1_indexOf_4cfef 14 = .ok (.istore_n 2, 1) := by decide +kernel
theorem dJ1_indexOf_4cfef_15 : decode cJ1_indexOf_4cfef 15 = .ok (.iload_n 3, 1) := by decide +kernel
theorem dJ1_indexOf_4cfef_16 : decode cJ1_indexOf_4cfef 16 = .ok (.aload_n 0, 1) := by decide +kernel
theorem dJ1_indexOf_4cfef_17 : decode cJ1_indexOf_4cfef 17 = .ok (.arraylength, 1) := by decide +kernel
theorem dJ1_indexOf_4cfef_18 : decode cJ1_indexOf_4cfef 18 = .ok (.invokestatic 38, 3) := by decide +kernel
theorem dJ1_indexOf_4cfef_21 : decode cJ1_indexOf_4cfef 21 = .ok (.istore_n 3, 1) := by decide +kernel
theorem dJ1_indexOf_4cfef_22 : decode cJ1_indexOf_4cfef 22 = .ok (.iload_n 2, 1) := by decide +kernel
theorem dJ1_indexOf_4cfef_23 : decode cJ1_indexOf_4cfef 23 = .ok (.iload_n 3, 1) := by decide +kernel
theorem dJ1_indexOf_4cfef_24 : decode cJ1_indexOf_4cfef 24 = .ok (.if_icmp .lt 5, 3) := by decide +kernel
theorem dJ1_indexOf_4cfef_27 : decode cJ1_indexOf_4cfef 27 = .ok (.iconst (-1), 1) := by decide +kernel
theorem dJ1_indexOf_4cfef_28 : decode cJ1_indexOf_4cfef 28 = .ok (.ireturn, 1) := by decide +kernel
theorem dJ1_indexOf_4cfef_29 : decode cJ1_indexOf_4cfef 29 = .ok (.aload_n 0, 1) := by decide +kernel
theorem dJ1_indexOf_4cfef_30 : decode cJ1_indexOf_4cfef 30 = .ok (.iload_n 1, 1) := by decide +kernel
theorem dJ1_indexOf_4cfef_31 : decode cJ1_indexOf_4cfef 31 = .ok (.iload_n 2, 1) := by decide +kernel
theorem dJ1_indexOf_4cfef_32 : decode cJ1_indexOf_4cfef 32 = .ok (.iload_n 3, 1) := by decide +kernel
theorem dJ1_indexOf_4cfef_33 : decode cJ1_indexOf_4cfef 33 = .ok (.invokestatic 95, 3) := by decide +kernel
theorem dJ1_indexOf_4cfef_36 : decode cJ1_indexOf_4cfef 36 = .ok (.ireturn, 1) := by decide +kernel
theorem dJ1_indexOfChar_4cfef_0 : decode cJ1_indexOfChar_4cfef 0 = .ok (.iload_n 1, 1) := by decide +kernel
theorem dJ1_indexOfChar_4cfef_1 : decode cJ1_indexOfChar_4cfef 1 = .ok (.i2b, 1) := by decide +kernel
theorem dJ1_indexOfChar_4cfef_2 : decode cJ1_indexOfChar_4cfef 2 = .ok (.istore 4, 2) := by decide +kernel
theorem dJ1_indexOfChar_4cfef_4 : decode cJ1_indexOfChar_4cfef 4 = .ok (.iload_n 2, 1) := by decide +kernel
theorem dJ1_indexOfChar_4cfef_5 : decode cJ1_indexOfChar_4cfef 5 = .ok (.istore 5, 2) := by decide +kernel
theorem dJ1_indexOfChar_4cfef_7 : decode cJ1_indexOfChar_4cfef 7 = .ok (.iload 5, 2) := by decide +kernel
theorem dJ1_indexOfChar_4cfef_9 : decode cJ1_indexOfChar_4cfef 9 = .ok (.iload_n 3, 1) := by decide +kernel
theorem dJ1_indexOfChar_4cfef_10 : decode cJ1_indexOfChar_4cfef 10 = .ok (.if_icmp .ge 21, 3) := by decide +kernel
theorem dJ1_indexOfChar_4cfef_13 : decode cJ1_indexOfChar_4cfef 13 = .ok (.aload_n 0, 1) := by decide +kernel
theorem dJ1_indexOfChar_4cfef_14 : decode cJ1_indexOfChar_4cfef 14 = .ok (.iload 5, 2) := by decide +kernel
theorem dJ1_indexOfChar_4cfef_16 : decode cJ1_indexOfChar_4cfef 16 = .ok (.baload, 1) := by decide +kernel
theorem dJ1_indexOfChar_4cfef_17 : decode cJ1_indexOfChar_4cfef 17 = .ok (.iload 4, 2) := by decide +kernel
theorem dJ1_indexOfChar_4cfef_19 : decode cJ1_indexOfChar_4cfef 19 = .ok (.if_icmp .ne 6, 3) := by decide +kernel
theorem dJ1_indexOfChar_4cfef_22 : decode cJ1_indexOfChar_4cfef 22 = .ok (.iload 5, 2) := by decide +kernel
theorem dJ1_indexOfChar_4cfef_24 : decode cJ1_indexOfChar_4cfef 24 = .ok (.ireturn, 1) := by decide +kernel
theorem dJ1_indexOfChar_4cfef_25 : decode cJ1_indexOfChar_4cfef 25 = .ok (.iinc 5 1, 3) := by decide +kernel
theorem dJ1_indexOfChar_4cfef_28 : decode cJ1_indexOfChar_4cfef 28 = .ok (.goto (-21), 3) := by decide +kernel
theorem dJ1_indexOfChar_4cfef_31 : decode cJ1_indexOfChar_4cfef 31 = .ok (.iconst (-1), 1) := by decide +kernel
theorem dJ1_indexOfChar_4cfef_32 : decode cJ1_indexOfChar_4cfef 32 = .ok (.ireturn, 1) := by decide +kernel
theorem dJ11_isValidCodePoint_9a6ad_0 : decode cJ11_isValidCodePoint_9a6ad 0 = .ok (.iload_n 0, 1) := by decide +kernel
theorem dJ11_isValidCodePoint_9a6ad_1 : decode cJ11_isValidCodePoint_9a6ad 1 = .ok (.bipush 16, 2) := by decide +kernel
theorem dJ11_isValidCodePoint_9a6ad_3 : decode cJ11_isValidCodePoint_9a6ad 3 = .ok (.iushr, 1) := by decide +kernel
theorem dJ11_isValidCodePoint_9a6ad_4 : decode cJ11_isValidCodePoint_9a6ad 4 = .ok (.istore_n 1, 1) := by decide +kernel
theorem dJ11_isValidCodePoint_9a6ad_5 : decode cJ11_isValidCodePoint_9a6ad 5 = .ok (.iload_n 1, 1) := by decide +kernel
theorem dJ11_isValidCodePoint_9a6ad_6 : decode cJ11_isValidCodePoint_9a6ad 6 = .ok (.bipush 17, 2) := by decide +kernel
theorem dJ11_isValidCodePoint_9a6ad_8 : decode cJ11_isValidCodePoint_9a6ad 8 = .ok (.if_icmp .ge 7, 3) := by decide +kernel
theorem dJ11_isValidCodePoint_9a6ad_11 : decode cJ11_isValidCodePoint_9a6ad 11 = .ok (.iconst 1, 1) := by decide +kernel
theorem dJ11_isValidCodePoint_9a6ad_12 : decode cJ11_isValidCodePoint_9a6ad 12 = .ok (.goto 4, 3) := by decide +kernel
theorem dJ11_isValidCodePoint_9a6ad_15 : decode cJ11_isValidCodePoint_9a6ad 15 = .ok (.iconst 0, 1) := by decide +kernel
theorem dJ11_isValidCodePoint_9a6ad_16 : decode cJ11_isValidCodePoint_9a6ad 16 = .ok (.ireturn, 1) := by decide +kernel
theorem dJ11_highSurrogate_5068e_0 : decode cJ11_highSurrogate_5068e 0 = .ok (.iload_n 0, 1) := by decide +kernel
theorem dJ11_highSurrogate_5068e_1 : decode cJ11_highSurrogate_5068e 1 = .ok (.bipush 10, 2) := by decide +kernel
theorem dJ11_highSurrogate_5068e_3 : decode cJ11_highSurrogate_5068e 3 = .ok (.iushr, 1) := by decide +kernel
theorem dJ11_highSurrogate_5068e_4 : decode cJ11_highSurrogate_5068e 4 = .ok (.ldc 110, 2) := by decide +kernel
theorem dJ11_highSurrogate_5068e_6 : decode cJ11_highSurrogate_5068e 6 = .ok (.iadd, 1) := by decide +kernel
theorem dJ11_highSurrogate_5068e_7 : decode cJ11_highSurrogate_5068e 7 = .ok (.i2c, 1) := by decide +kernel
theorem dJ11_highSurrogate_5068e_8 : decode cJ11_highSurrogate_5068e 8 = .ok (.ireturn, 1) := by decide +kernel
theorem dJ11_lowSurrogate_5068e_0 : decode cJ11_lowSurrogate_5068e 0 = .ok (.iload_n 0, 1) := by decide +kernel
theorem dJ11_lowSurrogate_5068e_1 : decode cJ11_lowSurrogate_5068e 1 = .ok (.sipush 1023, 3) := by decide +kernel
theorem dJ11_lowSurrogate_5068e_4 : decode cJ11_lowSurrogate_5068e 4 = .ok (.iand, 1) := by decide +kernel
theorem dJ11_lowSurrogate_5068e_5 : decode cJ11_lowSurrogate_5068e 5 = .ok (.ldc 76, 2) := by decide +kernel
theorem dJ11_lowSurrogate_5068e_7 : decode cJ11_lowSurrogate_5068e 7 = .ok (.iadd, 1) := by decide +kernel
theorem dJ11_lowSurrogate_5068e_8 : decode cJ11_lowSurrogate_5068e 8 = .ok (.i2c, 1) := by decide +kernel
theorem dJ11_lowSurrogate_5068e_9 : decode cJ11_lowSurrogate_5068e 9 = .ok (.ireturn, 1) := by decide +kernel
theorem dJ2_getChar_3b067_0 : decode cJ2_getChar_3b067 0 = .ok (.getstatic 44, 3) := by decide +kernel
theorem dJ2_getChar_3b067_3 : decode cJ2_getChar_3b067 3 = .ok (.ifCond .ne 25, 3) := by decide +kernel
theorem dJ2_getChar_3b067_6 : decode cJ2_getChar_3b067 6 = .ok (.iload_n 1, 1) := by decide +kernel
theorem dJ2_getChar_3b067_7 : decode cJ2_getChar_3b067 7 = .ok (.ifCond .lt 11, 3) := by decide +kernel
theorem dJ2_getChar_3b067_10 : decode cJ2_getChar_3b067 10 = .ok (.iload_n 1, 1) := by decide +kernel
theorem dJ2_getChar_3b067_11 : decode cJ2_getChar_3b067 11 = .ok (.aload_n 0, 1) := by decide +kernel
theorem dJ2_getChar_3b067_12 : decode cJ2_getChar_3b067 12 = .ok (.invokestatic 48, 3) := by decide +kernel
theorem dJ2_getChar_3b067_15 : decode cJ2_getChar_3b067 15 = .ok (.if_icmp .lt 13, 3) := by decide +kernel
theorem dJ2_getChar_3b067_18 : decode cJ2_getChar_3b067 18 = .ok (.new 52, 3) := by decide +kernel
theorem dJ2_getChar_3b067_21 : decode cJ2_getChar_3b067 21 = .ok (.dup, 1) := by decide +kernel
theorem dJ2_getChar_3b067_22 : decode cJ2_getChar_3b067 22 = .ok (.ldc 54, 2) := by decide +kernel
theorem dJ2_getChar_3b067_24 : decode cJ2_getChar_3b067 24 = .ok (.invokespecial 56, 3) := by decide +kernel
theorem dJ2_getChar_3b067_27 : decode cJ2_getChar_3b067 27 = .ok (.athrow, 1) := by decide +kernel
theorem dJ2_getChar_3b067_28 : decode cJ2_getChar_3b067 28 = .ok (.iload_n 1, 1) := by decide +kernel
theorem dJ2_getChar_3b067_29 : decode cJ2_getChar_3b067 29 = .ok (.iconst 1, 1) := by decide +kernel
theorem dJ2_getChar_3b067_30 : decode cJ2_getChar_3b067 30 = .ok (.ishl, 1) := by decide +kernel
theorem dJ2_getChar_3b067_31 : decode cJ2_getChar_3b067 31 = .ok (.istore_n 1, 1) := by decide +kernel
theorem dJ2_getChar_3b067_32 : decode cJ2_getChar_3b067 32 = .ok (.aload_n 0, 1) := by decide +kernel
theorem dJ2_getChar_3b067_33 : decode cJ2_getChar_3b067 33 = .ok (.iload_n 1, 1) := by decide +kernel
theorem dJ2_getChar_3b067_34 : decode cJ2_getChar_3b067 34 = .ok (.iinc 1 1, 3) := by decide +kernel
theorem dJ2_getChar_3b067_37 : decode cJ2_getChar_3b067 37 = .ok (.baload, 1) := by decide +kernel
theorem dJ2_getChar_3b067_38 : decode cJ2_getChar_3b067 38 = .ok (.sipush 255, 3) := by decide +kernel
theorem dJ2_getChar_3b067_41 : decode cJ2_getChar_3b067 41 = .ok (.iand, 1) := by decide +kernel
theorem dJ2_getChar_3b067_42 : decode cJ2_getChar_3b067 42 = .ok (.getstatic 59, 3) := by decide +kernel
theorem dJ2_getChar_3b067_45 : decode cJ2_getChar_3b067 45 = .ok (.ishl, 1) := by decide +kernel
theorem dJ2_getChar_3b067_46 : decode cJ2_getChar_3b067 46 = .ok (.aload_n 0, 1) := by decide +kernel
theorem dJ2_getChar_3b067_47 : decode cJ2_getChar_3b067 47 = .ok (.iload_n 1, 1) := by decide +kernel
theorem dJ2_getChar_3b067_48 : decode cJ2_getChar_3b067 48 = .ok (.baload, 1) := by decide +kernel
theorem dJ2_getChar_3b067_49 : decode cJ2_getChar_3b067 49 = .ok (.sipush 255, 3) := by decide +kernel
theorem dJ2_getChar_3b067_52 : decode cJ2_getChar_3b067 52 = .ok (.iand, 1) := by decide +kernel
theorem dJ2_getChar_3b067_53 : decode cJ2_getChar_3b067 53 = .ok (.getstatic 63, 3) := by decide +kernel
theorem dJ2_getChar_3b067_56 : decode cJ2_getChar_3b067 56 = .ok (.ishl, 1) := by decide +kernel
theorem dJ2_getChar_3b067_57 : decode cJ2_getChar_3b067 57 = .ok (.ior, 1) := by decide +kernel
theorem dJ2_getChar_3b067_58 : decode cJ2_getChar_3b067 58 = .ok (.i2c, 1) := by decide +kernel
theorem dJ2_getChar_3b067_59 : decode cJ2_getChar_3b067 59 = .ok (.ireturn, 1) := by decide +kernel
theorem dJ2_length_9d52b_0 : decode cJ2_length_9d52b 0 = .ok (.aload_n 0, 1) := by decide +kernel
theorem dJ2_length_9d52b_1 : decode cJ2_length_9d52b 1 = .ok (.arraylength, 1) := by decide +kernel
theorem dJ2_length_9d52b_2 : decode cJ2_length_9d52b 2 = .ok (.iconst 1, 1) := by decide +kernel
theorem dJ2_length_9d52b_3 : decode cJ2_length_9d52b 3 = .ok (.ishr, 1) := by decide +kernel
theorem dJ2_length_9d52b_4 : decode cJ2_length_9d52b 4 = .ok (.ireturn, 1) := by decide +kernel
theorem dJ2_indexOf_4cfef_0 : decode cJ2_indexOf_4cfef 0 = .ok (.iload_n 2, 1) := by decide +kernel
theorem dJ2_indexOf_4cfef_1 : decode cJ2_indexOf_4cfef 1 = .ok (.iconst 0, 1) := by decide +kernel
theorem dJ2_indexOf_4cfef_2 : decode cJ2_indexOf_4cfef 2 = .ok (.invokestatic 224, 3) := by decide +kernel
theorem dJ2_indexOf_4cfef_5 : decode cJ2_indexOf_4cfef 5 = .ok (.istore_n 2, 1) := by decide +kernel
theorem dJ2_indexOf_4cfef_6 : decode cJ2_indexOf_4cfef 6 = .ok (.iload_n 3, 1) := by decide +kernel
theorem dJ2_indexOf_4cfef_7 : decode cJ2_indexOf_4cfef 7 = .ok (.aload_n 0, 1) := by decide +kernel
theorem dJ2_indexOf_4cfef_8 : decode cJ2_indexOf_4cfef 8 = .ok (.arraylength, 1) := by decide +kernel
theorem dJ2_indexOf_4cfef_9 : decode cJ2_indexOf_4cfef 9 = .ok (.iconst 1, 1) := by decide +kernel
theorem dJ2_indexOf_4cfef_10 : decode cJ2_indexOf_4cfef 10 = .ok (.ishr, 1) := by decide +kernel
theorem dJ2_indexOf_4cfef_11 : decode cJ2_indexOf_4cfef 11 = .ok (.invokestatic 183, 3) := by decide +kernel
theorem dJ2_indexOf_4cfef_14 : decode cJ2_indexOf_4cfef 14 = .ok (.istore_n 3, 1) := by decide +kernel
theorem dJ2_indexOf_4cfef_15 : decode cJ2_indexOf_4cfef 15 = .ok (.iload_n 2, 1) := by decide +kernel
theorem dJ2_indexOf_4cfef_16 : decode cJ2_indexOf_4cfef 16 = .ok (.iload_n 3, 1) := by decide +kernel
theorem dJ2_indexOf_4cfef_17 : decode cJ2_indexOf_4cfef 17 = .ok (.if_icmp .lt 5, 3) := by decide +kernel
theorem dJ2_indexOf_4cfef_20 : decode cJ2_indexOf_4cfef 20 = .ok (.iconst (-1), 1) := by decide +kernel
theorem dJ2_indexOf_4cfef_21 : decode cJ2_indexOf_4cfef 21 = .ok (.ireturn, 1) := by decide +kernel
theorem dJ2_indexOf_4cfef_22 : decode cJ2_indexOf_4cfef 22 = .ok (.iload_n 1, 1) := by decide +kernel
theorem dJ2_indexOf_4cfef_23 : decode cJ2_indexOf_4cfef 23 = .ok (.ldc 227, 2) := by decide +kernel
theorem dJ2_indexOf_4cfef_25 : decode cJ2_indexOf_4cfef 25 = .ok (.if_icmp .ge 11, 3) := by decide +kernel
theorem dJ2_indexOf_4cfef_28 : decode cJ2_indexOf_4cfef 28 = .ok (.aload_n 0, 1) := by decide +kernel
theorem dJ2_indexOf_4cfef_29 : decode cJ2_indexOf_4cfef 29 = .ok (.iload_n 1, 1) := by decide +kernel
theorem dJ2_indexOf_4cfef_30 : decode cJ2_indexOf_4cfef 30 = .ok (.iload_n 2, 1) := by decide +kernel
theorem dJ2_indexOf_4cfef_31 : decode cJ2_indexOf_4cfef 31 = .ok (.iload_n 3, 1) := by decide +kernel
theorem dJ2_indexOf_4cfef_32 : decode cJ2_indexOf_4cfef 32 = .ok (.invokestatic 228, 3) := by decide +kernel
theorem dJ2_indexOf_4cfef_35 : decode cJ2_indexOf_4cfef 35 = .ok (.ireturn, 1) := by decide +kernel
theorem dJ2_indexOf_4cfef_36 : decode cJ2_indexOf_4cfef 36 = .ok (.aload_n 0, 1) := by decide +kernel
theorem dJ2_indexOf_4cfef_37 : decode cJ2_indexOf_4cfef 37 = .ok (.iload_n 1, 1) := by decide +kernel
theorem dJ2_indexOf_4cfef_38 : decode cJ2_indexOf_4cfef 38 = .ok (.iload_n 2, 1) := by decide +kernel
theorem dJ2_indexOf_4cfef_39 : decode cJ2_indexOf_4cfef 39 = .ok (.iload_n 3, 1) := by decide +kernel
theorem dJ2_indexOf_4cfef_40 : decode cJ2_indexOf_4cfef 40 = .ok (.invokestatic 232, 3) := by decide +kernel
theorem dJ2_indexOf_4cfef_43 : decode cJ2_indexOf_4cfef 43 = .ok (.ireturn, 1) := by decide +kernel
theorem dJ2_indexOfChar_4cfef_0 : decode cJ2_indexOfChar_4cfef 0 = .ok (.iload_n 2, 1) := by decide +kernel
theorem dJ2_indexOfChar_4cfef_1 : decode cJ2_indexOfChar_4cfef 1 = .ok (.iload_n 3, 1) := by decide +kernel
theorem dJ2_indexOfChar_4cfef_2 : decode cJ2_indexOfChar_4cfef 2 = .ok (.aload_n 0, 1) := by decide +kernel
theorem dJ2_indexOfChar_4cfef_3 : decode cJ2_indexOfChar_4cfef 3 = .ok (.invokestatic 96, 3) := by decide +kernel
theorem dJ2_indexOfChar_4cfef_6 : decode cJ2_indexOfChar_4cfef 6 = .ok (.aload_n 0, 1) := by decide +kernel
theorem dJ2_indexOfChar_4cfef_7 : decode cJ2_indexOfChar_4cfef 7 = .ok (.iload_n 1, 1) := by decide +kernel
theorem dJ2_indexOfChar_4cfef_8 : decode cJ2_indexOfChar_4cfef 8 = .ok (.iload_n 2, 1) := by decide +kernel
theorem dJ2_indexOfChar_4cfef_9 : decode cJ2_indexOfChar_4cfef 9 = .ok (.iload_n 3, 1) := by decide +kernel
theorem dJ2_indexOfChar_4cfef_10 : decode cJ2_indexOfChar_4cfef 10 = .ok (.invokestatic 244, 3) := by decide +kernel
theorem dJ2_indexOfChar_4cfef_13 : decode cJ2_indexOfChar_4cfef 13 = .ok (.ireturn, 1) := by decide +kernel
theorem dJ2_indexOfCharUnsafe_4cfef_0 : decode cJ2_indexOfCharUnsafe_4cfef 0 = .ok (.iload_n 2, 1) := by decide +kernel
theorem dJ2_indexOfCharUnsafe_4cfef_1 : decode cJ2_indexOfCharUnsafe_4cfef 1 = .ok (.istore 4, 2) := by decide +kernel
theorem dJ2_indexOfCharUnsafe_4cfef_3 : decode cJ2_indexOfCharUnsafe_4cfef 3 = .ok (.iload 4, 2) := by decide +kernel
theorem dJ2_indexOfCharUnsafe_4cfef_5 : decode cJ2_indexOfCharUnsafe_4cfef 5 = .ok (.iload_n 3, 1) := by decide +kernel
theorem dJ2_indexOfCharUnsafe_4cfef_6 : decode cJ2_indexOfCharUnsafe_4cfef 6 = .ok (.if_icmp .ge 22, 3) := by decide +kernel
theorem dJ2_indexOfCharUnsafe_4cfef_9 : decode cJ2_indexOfCharUnsafe_4cfef 9 = .ok (.aload_n 0, 1) := by decide +kernel
theorem dJ2_indexOfCharUnsafe_4cfef_10 : decode cJ2_indexOfCharUnsafe_4cfef 10 = .ok (.iload 4, 2) := by decide +kernel
theorem dJ2_indexOfCharUnsafe_4cfef_12 : decode cJ2_indexOfCharUnsafe_4cfef 12 = .ok (.invokestatic 71, 3) := by decide +kernel
theorem dJ2_indexOfCharUnsafe_4cfef_15 : decode cJ2_indexOfCharUnsafe_4cfef 15 = .ok (.iload_n 1, 1) := by decide +kernel
theorem dJ2_indexOfCharUnsafe_4cfef_16 : decode cJ2_indexOfCharUnsafe_4cfef 16 = .ok (.if_icmp .ne 6, 3) := by decide +kernel
theorem dJ2_indexOfCharUnsafe_4cfef_19 : decode cJ2_indexOfCharUnsafe_4cfef 19 = .ok (.iload 4, 2) := by decide +kernel
theorem dJ2_indexOfCharUnsafe_4cfef_21 : decode cJ2_indexOfCharUnsafe_4cfef 21 = .ok (.ireturn, 1) := by decide +kernel
theorem dJ2_indexOfCharUnsafe_4cfef_22 : decode cJ2_indexOfCharUnsafe_4cfef 22 = .ok (.iinc 4 1, 3) := by decide +kernel
theorem dJ2_indexOfCharUnsafe_4cfef_25 : decode cJ2_indexOfCharUnsafe_4cfef 25 = .ok (.goto (-22), 3) := by decide +kernel
theorem dJ2_indexOfCharUnsafe_4cfef_28 : decode cJ2_indexOfCharUnsafe_4cfef 28 = .ok (.iconst (-1), 1) := by decide +kernel
theorem dJ2_indexOfCharUnsafe_4cfef_29 : decode cJ2_indexOfCharUnsafe_4cfef 29 = .ok (.ireturn, 1) := by decide +kernel
theorem dJ2_indexOfSupplementary_4cfef_0 : decode cJ2_indexOfSupplementary_4cfef 0 = .ok (.iload_n 1, 1) := by decide +kernel
theorem dJ2_indexOfSupplementary_4cfef_1 : decode cJ2_indexOfSupplementary_4cfef 1 = .ok (.invokestatic 164, 3) := by decide +kernel
theorem dJ2_indexOfSupplementary_4cfef_4 : decode cJ2_indexOfSupplementary_4cfef 4 = .ok (.ifCond .eq 65, 3) := by decide +kernel
theorem dJ2_indexOfSupplementary_4cfef_7 : decode cJ2_indexOfSupplementary_4cfef 7 = .ok (.iload_n 1, 1) := by decide +kernel
theorem dJ2_indexOfSupplementary_4cfef_8 : decode cJ2_indexOfSupplementary_4cfef 8 = .ok (.invokestatic 157, 3) := by decide +kernel
theorem dJ2_indexOfSupplementary_4cfef_11 : decode cJ2_indexOfSupplementary_4cfef 11 = .ok (.istore 4, 2) := by decide +kernel
theorem dJ2_indexOfSupplementary_4cfef_13 : decode cJ2_indexOfSupplementary_4cfef 13 = .ok (.iload_n 1, 1) := by decide +kernel
theorem dJ2_indexOfSupplementary_4cfef_14 : decode cJ2_indexOfSupplementary_4cfef 14 = .ok (.invokestatic 161, 3) := by decide +kernel
theorem dJ2_indexOfSupplementary_4cfef_17 : decode cJ2_indexOfSupplementary_4cfef 17 = .ok (.istore 5, 2) := by decide +kernel
theorem dJ2_indexOfSupplementary_4cfef_19 : decode cJ2_indexOfSupplementary_4cfef 19 = .ok (.iload_n 2, 1) := by decide +kernel
theorem dJ2_indexOfSupplementary_4cfef_20 : decode cJ2_indexOfSupplementary_4cfef 20 = .ok (.iload_n 3, 1) := by decide +kernel
theorem dJ2_indexOfSupplementary_4cfef_21 : decode cJ2_indexOfSupplementary_4cfef 21 = .ok (.aload_n 0, 1) := by decide +kernel
theorem dJ2_indexOfSupplementary_4cfef_22 : decode cJ2_indexOfSupplementary_4cfef 22 = .ok (.invokestatic 96, 3) := by decide +kernel
theorem dJ2_indexOfSupplementary_4cfef_25 : decode cJ2_indexOfSupplementary_4cfef 25 = .ok (.iload_n 2, 1) := by decide +kernel
theorem dJ2_indexOfSupplementary_4cfef_26 : decode cJ2_indexOfSupplementary_4cfef 26 = .ok (.istore 6, 2) := by decide +kernel
theorem dJ2_indexOfSupplementary_4cfef_28 : decode cJ2_indexOfSupplementary_4cfef 28 = .ok (.iload 6, 2) := by decide +kernel
theorem dJ2_indexOfSupplementary_4cfef_30 : decode cJ2_indexOfSupplementary_4cfef 30 = .ok (.iload_n 3, 1) := by decide +kernel
theorem dJ2_indexOfSupplementary_4cfef_31 : decode cJ2_indexOfSupplementary_4cfef 31 = .ok (.iconst 1, 1) := by decide +kernel
theorem dJ2_indexOfSupplementary_4cfef_32 : decode cJ2_indexOfSupplementary_4cfef 32 = .ok (.isub, 1) := by decide +kernel
theorem dJ2_indexOfSupplementary_4cfef_33 : decode cJ2_indexOfSupplementary_4cfef 33 = .ok (.if_icmp .ge 36, 3) := by decide +kernel
theorem dJ2_indexOfSupplementary_4cfef_36 : decode cJ2_indexOfSupplementary_4cfef 36 = .ok (.aload_n 0, 1) := by decide +kernel
theorem dJ2_indexOfSupplementary_4cfef_37 : decode cJ2_indexOfSupplementary_4cfef 37 = .ok (.iload 6, 2) := by decide +kernel
theorem dJ2_indexOfSupplementary_4cfef_39 : decode cJ2_indexOfSupplementary_4cfef 39 = .ok (.invokestatic 71, 3) := by decide +kernel
theorem dJ2_indexOfSupplementary_4cfef_42 : decode cJ2_indexOfSupplementary_4cfef 42 = .ok (.iload 4, 2) := by decide +kernel
theorem dJ2_indexOfSupplementary_4cfef_44 : decode cJ2_indexOfSupplementary_4cfef 44 = .ok (.if_icmp .ne 19, 3) := by decide +kernel
theorem dJ2_indexOfSupplementary_4cfef_47 : decode cJ2_indexOfSupplementary_4cfef 47 = .ok (.aload_n 0, 1) := by decide +kernel
theorem dJ2_indexOfSupplementary_4cfef_48 : decode cJ2_indexOfSupplementary_4cfef 48 = .ok (.iload 6, 2) := by decide +kernel
theorem dJ2_indexOfSupplementary_4cfef_50 : decode cJ2_indexOfSupplementary_4cfef 50 = .ok (.iconst 1, 1) := by decide +kernel
theorem dJ2_indexOfSupplementary_4cfef_51 : decode cJ2_indexOfSupplementary_4cfef 51 = .ok (.iadd, 1) := by decide +kernel
theorem dJ2_indexOfSupplementary_4cfef_52 : decode cJ2_indexOfSupplementary_4cfef 52 = .ok (.invokestatic 71, 3) := by decide +kernel
theorem dJ2_indexOfSupplementary_4cfef_55 : decode cJ2_indexOfSupplementary_4cfef 55 = .ok (.iload 5, 2) := by decide +kernel
theorem dJ2_indexOfSupplementary_4cfef_57 : decode cJ2_indexOfSupplementary_4cfef 57 = .ok (.if_icmp .ne 6, 3) := by decide +kernel
theorem dJ2_indexOfSupplementary_4cfef_60 : decode cJ2_indexOfSupplementary_4cfef 60 = .ok (.iload 6, 2) := by decide +kernel
theorem dJ2_indexOfSupplementary_4cfef_62 : decode cJ2_indexOfSupplementary_4cfef 62 = .ok (.ireturn, 1) := by decide +kernel
theorem dJ2_indexOfSupplementary_4cfef_63 : decode cJ2_indexOfSupplementary_4cfef 63 = .ok (.iinc 6 1, 3) := by decide +kernel
theorem dJ2_indexOfSupplementary_4cfef_66 : decode cJ2_indexOfSupplementary_4cfef 66 = .ok (.goto (-38), 3) := by decide +kernel
theorem dJ2_indexOfSupplementary_4cfef_69 : decode cJ2_indexOfSupplementary_4cfef 69 = .ok (.iconst (-1), 1) := by decide +kernel
theorem dJ2_indexOfSupplementary_4cfef_70 : decode cJ2_indexOfSupplementary_4cfef 70 = .ok (.ireturn, 1) := by decide +kernel
theorem dJ2_checkBoundsBeginEnd_d044e_0 : decode cJ2_checkBoundsBeginEnd_d044e 0 = .ok (.iload_n 0, 1) := by decide +kernel
theorem dJ2_checkBoundsBeginEnd_d044e_1 : decode cJ2_checkBoundsBeginEnd_d044e 1 = .ok (.iload_n 1, 1) := by decide +kernel
theorem dJ2_checkBoundsBeginEnd_d044e_2 : decode cJ2_checkBoundsBeginEnd_d044e 2 = .ok (.aload_n 2, 1) := by decide +kernel
theorem dJ2_checkBoundsBeginEnd_d044e_3 : decode cJ2_checkBoundsBeginEnd_d044e 3 = .ok (.invokestatic 48, 3) := by decide +kernel
theorem dJ2_checkBoundsBeginEnd_d044e_6 : decode cJ2_checkBoundsBeginEnd_d044e 6 = .ok (.invokestatic 241, 3) := by decide +kernel
theorem dJ2_checkBoundsBeginEnd_d044e_9 : decode cJ2_checkBoundsBeginEnd_d044e 9 = .ok (.return_, 1) := by decide +kernel
theorem dJ3_checkFromToIndex_8c36e_0 : decode cJ3_checkFromToIndex_8c36e 0 = .ok (.iload_n 0, 1) := by decide +kernel
theorem dJ3_checkFromToIndex_8c36e_1 : decode cJ3_checkFromToIndex_8c36e 1 = .ok (.ifCond .lt 13, 3) := by decide +kernel
theorem dJ3_checkFromToIndex_8c36e_4 : decode cJ3_checkFromToIndex_8c36e 4 = .ok (.iload_n 0, 1) := by decide +kernel
theorem dJ3_checkFromToIndex_8c36e_5 : decode cJ3_checkFromToIndex_8c36e 5 = .ok (.iload_n 1, 1) := by decide +kernel
theorem dJ3_checkFromToIndex_8c36e_6 : decode cJ3_checkFromToIndex_8c36e 6 = .ok (.if_icmp .gt 8, 3) := by decide +kernel
theorem dJ3_checkFromToIndex_8c36e_9 : decode cJ3_checkFromToIndex_8c36e 9 = .ok (.iload_n 1, 1) := by decide +kernel
theorem dJ3_checkFromToIndex_8c36e_10 : decode cJ3_checkFromToIndex_8c36e 10 = .ok (.iload_n 2, 1) := by decide +kernel
theorem dJ3_checkFromToIndex_8c36e_11 : decode cJ3_checkFromToIndex_8c36e 11 = .ok (.if_icmp .le 11, 3) := by decide +kernel
theorem dJ3_checkFromToIndex_8c36e_14 : decode cJ3_checkFromToIndex_8c36e 14 = .ok (.aload_n 3, 1) := by decide +kernel
theorem dJ3_checkFromToIndex_8c36e_15 : decode cJ3_checkFromToIndex_8c36e 15 = .ok (.iload_n 0, 1) := by decide +kernel
theorem dJ3_checkFromToIndex_8c36e_16 : decode cJ3_checkFromToIndex_8c36e 16 = .ok (.iload_n 1, 1) := by decide +kernel
theorem dJ3_checkFromToIndex_8c36e_17 : decode cJ3_checkFromToIndex_8c36e 17 = .ok (.iload_n 2, 1) := by decide +kernel
theorem dJ3_checkFromToIndex_8c36e_18 : decode cJ3_checkFromToIndex_8c36e 18 = .ok (.invokestatic 99, 3) := by decide +kernel
theorem dJ3_checkFromToIndex_8c36e_21 : decode cJ3_checkFromToIndex_8c36e 21 = .ok (.athrow, 1) := by decide +kernel
theorem dJ3_checkFromToIndex_8c36e_22 : decode cJ3_checkFromToIndex_8c36e 22 = .ok (.iload_n 0, 1) := by decide +kernel
theorem dJ3_checkFromToIndex_8c36e_23 : decode cJ3_checkFromToIndex_8c36e 23 = .ok (.ireturn, 1) := by decide +kernel
theorem dJ6_bitCount_0f7a4_0 : decode cJ6_bitCount_0f7a4 0 = .ok (.iload_n 0, 1) := by decide +kernel
theorem dJ6_bitCount_0f7a4_1 : decode cJ6_bitCount_0f7a4 1 = .ok (.iload_n 0, 1) := by decide +kernel
theorem dJ6_bitCount_0f7a4_2 : decode cJ6_bitCount_0f7a4 2 = .ok (.iconst 1, 1) := by decide +kernel
theorem dJ6_bitCount_0f7a4_3 : decode cJ6_bitCount_0f7a4 3 = .ok (.iushr, 1) := by decide +kernel
theorem dJ6_bitCount_0f7a4_4 : decode cJ6_bitCount_0f7a4 4 = .ok (.ldc_w 265, 3) := by decide +kernel
theorem dJ6_bitCount_0f7a4_7 : decode cJ6_bitCount_0f7a4 7 = .ok (.iand, 1) := by decide +kernel
theorem dJ6_bitCount_0f7a4_8 : decode cJ6_bitCount_0f7a4 8 = .ok (.isub, 1) := by decide +kernel
theorem dJ6_bitCount_0f7a4_9 : decode cJ6_bitCount_0f7a4 9 = .ok (.istore_n 0, 1) := by decide +kernel
theorem dJ6_bitCount_0f7a4_10 : decode cJ6_bitCount_0f7a4 10 = .ok (.iload_n 0, 1) := by decide +kernel
theorem dJ6_bitCount_0f7a4_11 : decode cJ6_bitCount_0f7a4 11 = .ok (.ldc_w 266, 3) := by decide +kernel
theorem dJ6_bitCount_0f7a4_14 : decode cJ6_bitCount_0f7a4 14 = .ok (.iand, 1) := by decide +kernel
theorem dJ6_bitCount_0f7a4_15 : decode cJ6_bitCount_0f7a4 15 = .ok (.iload_n 0, 1) := by decide +kernel
theorem dJ6_bitCount_0f7a4_16 : decode cJ6_bitCount_0f7a4 16 = .ok (.iconst 2, 1) := by decide +kernel
theorem dJ6_bitCount_0f7a4_17 : decode cJ6_bitCount_0f7a4 17 = .ok (.iushr, 1) := by decide +kernel
theorem dJ6_bitCount_0f7a4_18 : decode cJ6_bitCount_0f7a4 18 = .ok (.ldc_w 266, 3) := by decide +kernel
theorem dJ6_bitCount_0f7a4_21 : decode cJ6_bitCount_0f7a4 21 = .ok (.iand, 1) := by decide +kernel
theorem dJ6_bitCount_0f7a4_22 : decode cJ6_bitCount_0f7a4 22 = .ok (.iadd, 1) := by decide +kernel
theorem dJ6_bitCount_0f7a4_23 : decode cJ6_bitCount_0f7a4 23 = .ok (.istore_n 0, 1) := by decide +kernel
theorem dJ6_bitCount_0f7a4_24 : decode cJ6_bitCount_0f7a4 24 = .ok (.iload_n 0, 1) := by decide +kernel
theorem dJ6_bitCount_0f7a4_25 : decode cJ6_bitCount_0f7a4 25 = .ok (.iload_n 0, 1) := by decide +kernel
theorem dJ6_bitCount_0f7a4_26 : decode cJ6_bitCount_0f7a4 26 = .ok (.iconst 4, 1) := by decide +kernel
theorem dJ6_bitCount_0f7a4_27 : decode cJ6_bitCount_0f7a4 27 = .ok (.iushr, 1) := by decide +kernel
theorem dJ6_bitCount_0f7a4_28 : decode cJ6_bitCount_0f7a4 28 = .ok (.iadd, 1) := by decide +kernel
theorem dJ6_bitCount_0f7a4_29 : decode cJ6_bitCount_0f7a4 29 = .ok (.ldc_w 267, 3) := by decide +kernel
theorem dJ6_bitCount_0f7a4_32 : decode cJ6_bitCount_0f7a4 32 = .ok (.iand, 1) := by decide +kernel
theorem dJ6_bitCount_0f7a4_33 : decode cJ6_bitCount_0f7a4 33 = .ok (.istore_n 0, 1) := by decide +kernel
theorem dJ6_bitCount_0f7a4_34 : decode cJ6_bitCount_0f7a4 34 = .ok (.iload_n 0, 1) := by decide +kernel
theorem dJ6_bitCount_0f7a4_35 : decode cJ6_bitCount_0f7a4 35 = .ok (.iload_n 0, 1) := by decide +kernel
theorem dJ6_bitCount_0f7a4_36 : decode cJ6_bitCount_0f7a4 36 = .ok (.bipush 8, 2) := by decide +kernel
theorem dJ6_bitCount_0f7a4_38 : decode cJ6_bitCount_0f7a4 38 = .ok (.iushr, 1) := by decide +kernel
theorem dJ6_bitCount_0f7a4_39 : decode cJ6_bitCount_0f7a4 39 = .ok (.iadd, 1) := by decide +kernel
theorem dJ6_bitCount_0f7a4_40 : decode cJ6_bitCount_0f7a4 40 = .ok (.istore_n 0, 1) := by decide +kernel
theorem dJ6_bitCount_0f7a4_41 : decode cJ6_bitCount_0f7a4 41 = .ok (.iload_n 0, 1) := by decide +kernel
theorem dJ6_bitCount_0f7a4_42 : decode cJ6_bitCount_0f7a4 42 = .ok (.iload_n 0, 1) := by decide +kernel
theorem dJ6_bitCount_0f7a4_43 : decode cJ6_bitCount_0f7a4 43 = .ok (.bipush 16, 2) := by decide +kernel
theorem dJ6_bitCount_0f7a4_45 : decode cJ6_bitCount_0f7a4 45 = .ok (.iushr, 1) := by decide +kernel
theorem dJ6_bitCount_0f7a4_46 : decode cJ6_bitCount_0f7a4 46 = .ok (.iadd, 1) := by decide +kernel
theorem dJ6_bitCount_0f7a4_47 : decode cJ6_bitCount_0f7a4 47 = .ok (.istore_n 0, 1) := by decide +kernel
theorem dJ6_bitCount_0f7a4_48 : decode cJ6_bitCount_0f7a4 48 = .ok (.iload_n 0, 1) := by decide +kernel
theorem dJ6_bitCount_0f7a4_49 : decode cJ6_bitCount_0f7a4 49 = .ok (.bipush 63, 2) := by decide +kernel
theorem dJ6_bitCount_0f7a4_51 : decode cJ6_bitCount_0f7a4 51 = .ok (.iand, 1) := by decide +kernel
theorem dJ6_bitCount_0f7a4_52 : decode cJ6_bitCount_0f7a4 52 = .ok (.ireturn, 1) := by decide +kernel
theorem dJ7_fill_d0a16_0 : decode cJ7_fill_d0a16 0 = .ok (.iconst 0, 1) := by decide +kernel
theorem dJ7_fill_d0a16_1 : decode cJ7_fill_d0a16 1 = .ok (.istore_n 3, 1) := by decide +kernel
theorem dJ7_fill_d0a16_2 : decode cJ7_fill_d0a16 2 = .ok (.aload_n 0, 1) := by decide +kernel
theorem dJ7_fill_d0a16_3 : decode cJ7_fill_d0a16 3 = .ok (.arraylength, 1) := by decide +kernel
theorem dJ7_fill_d0a16_4 : decode cJ7_fill_d0a16 4 = .ok (.istore 4, 2) := by decide +kernel
theorem dJ7_fill_d0a16_6 : decode cJ7_fill_d0a16 6 = .ok (.iload_n 3, 1) := by decide +kernel
theorem dJ7_fill_d0a16_7 : decode cJ7_fill_d0a16 7 = .ok (.iload 4, 2) := by decide +kernel
theorem dJ7_fill_d0a16_9 : decode cJ7_fill_d0a16 9 = .ok (.if_icmp .ge 13, 3) := by decide +kernel
theorem dJ7_fill_d0a16_12 : decode cJ7_fill_d0a16 12 = .ok (.aload_n 0, 1) := by decide +kernel
theorem dJ7_fill_d0a16_13 : decode cJ7_fill_d0a16 13 = .ok (.iload_n 3, 1) := by decide +kernel
theorem dJ7_fill_d0a16_14 : decode cJ7_fill_d0a16 14 = .ok (.lload_n 1, 1) := by decide +kernel
theorem dJ7_fill_d0a16_15 : decode cJ7_fill_d0a16 15 = .ok (.lastore, 1) := by decide +kernel
theorem dJ7_fill_d0a16_16 : decode cJ7_fill_d0a16 16 = .ok (.iinc 3 1, 3) := by decide +kernel
theorem dJ7_fill_d0a16_19 : decode cJ7_fill_d0a16 19 = .ok (.goto (-13), 3) := by decide +kernel
theorem dJ7_fill_d0a16_22 : decode cJ7_fill_d0a16 22 = .ok (.return_, 1) := by decide +kernel
theorem dJ9_max_7cf53_0 : decode cJ9_max_7cf53 0 = .ok (.iload_n 0, 1) := by decide +kernel
theorem dJ9_max_7cf53_1 : decode cJ9_max_7cf53 1 = .ok (.iload_n 1, 1) := by decide +kernel
theorem dJ9_max_7cf53_2 : decode cJ9_max_7cf53 2 = .ok (.if_icmp .lt 7, 3) := by decide +kernel
theorem dJ9_max_7cf53_5 : decode cJ9_max_7cf53 5 = .ok (.iload_n 0, 1) := by decide +kernel
theorem dJ9_max_7cf53_6 : decode cJ9_max_7cf53 6 = .ok (.goto 4, 3) := by decide +kernel
theorem dJ9_max_7cf53_9 : decode cJ9_max_7cf53 9 = .ok (.iload_n 1, 1) := by decide +kernel
theorem dJ9_max_7cf53_10 : decode cJ9_max_7cf53 10 = .ok (.ireturn, 1) := by decide +kernel
theorem dJ9_min_7cf53_0 : decode cJ9_min_7cf53 0 = .ok (.iload_n 0, 1) := by decide +kernel
theorem dJ9_min_7cf53_1 : decode cJ9_min_7cf53 1 = .ok (.iload_n 1, 1) := by decide +kernel
theorem dJ9_min_7cf53_2 : decode cJ9_min_7cf53 2 = .ok (.if_icmp .gt 7, 3) := by decide +kernel
theorem dJ9_min_7cf53_5 : decode cJ9_min_7cf53 5 = .ok (.iload_n 0, 1) := by decide +kernel
theorem dJ9_min_7cf53_6 : decode cJ9_min_7cf53 6 = .ok (.goto 4, 3) := by decide +kernel
theorem dJ9_min_7cf53_9 : decode cJ9_min_7cf53 9 = .ok (.iload_n 1, 1) := by decide +kernel
theorem dJ9_min_7cf53_10 : decode cJ9_min_7cf53 10 = .ok (.ireturn, 1) := by decide +kernel
end
section
theorem dX0_init_0 : decode cX0_init 0 = .ok (.aload_n 0, 1) := by decide +kernel
theorem dX0_init_1 : decode cX0_init 1 = .ok (.invokespecial 3, 3) := by decide +kernel
theorem dX0_init_4 : decode cX0_init 4 = .ok (.aload_n 0, 1) := by decide +kernel
theorem dX0_init_5 : decode cX0_init 5 = .ok (.bipush 8, 2) := by decide +kernel
theorem dX0_init_7 : decode cX0_init 7 = .ok (.newarray .int, 2) := by decide +kernel
theorem dX0_init_9 : decode cX0_init 9 = .ok (.putfield 9, 3) := by decide +kernel
theorem dX0_init_12 : decode cX0_init 12 = .ok (.aload_n 0, 1) := by decide +kernel
theorem dX0_init_13 : decode cX0_init 13 = .ok (.bipush 8, 2) := by decide +kernel
theorem dX0_init_15 : decode cX0_init 15 = .ok (.newarray .int, 2) := by decide +kernel
theorem dX0_init_17 : decode cX0_init 17 = .ok (.putfield 15, 3) := by decide +kernel
theorem dX0_init_20 : decode cX0_init 20 = .ok (.aload_n 0, 1) := by decide +kernel
theorem dX0_init_21 : decode cX0_init 21 = .ok (.iconst 5, 1) := by decide +kernel
theorem dX0_init_22 : decode cX0_init 22 = .ok (.newarray .int, 2) := by decide +kernel
theorem dX0_init_24 : decode cX0_init 24 = .ok (.putfield 18, 3) := by decide +kernel
theorem dX0_init_27 : decode cX0_init 27 = .ok (.aload_n 0, 1) := by decide +kernel
theorem dX0_init_28 : decode cX0_init 28 = .ok (.iconst 5, 1) := by decide +kernel
theorem dX0_init_29 : decode cX0_init 29 = .ok (.newarray .int, 2) := by decide +kernel
theorem dX0_init_31 : decode cX0_init 31 = .ok (.putfield 21, 3) := by decide +kernel
theorem dX0_init_34 : decode cX0_init 34 = .ok (.aload_n 0, 1) := by decide +kernel
theorem dX0_init_35 : decode cX0_init 35 = .ok (.iconst 5, 1) := by decide +kernel
theorem dX0_init_36 : decode cX0_init 36 = .ok (.newarray .int, 2) := by decide +kernel
theorem dX0_init_38 : decode cX0_init 38 = .ok (.putfield 24, 3) := by decide +kernel
theorem dX0_init_41 : decode cX0_init 41 = .ok (.aload_n 0, 1) := by decide +kernel
theorem dX0_init_42 : decode cX0_init 42 = .ok (.iconst 5, 1) := by decide +kernel
theorem dX0_init_43 : decode cX0_init 43 = .ok (.newarray .int, 2) := by decide +kernel
theorem dX0_init_45 : decode cX0_init 45 = .ok (.putfield 27, 3) := by decide +kernel
theorem dX0_init_48 : decode cX0_init 48 = .ok (.aload_n 0, 1) := by decide +kernel
theorem dX0_init_49 : decode cX0_init 49 = .ok (.iconst 5, 1) := by decide +kernel
theorem dX0_init_50 : decode cX0_init 50 = .ok (.newarray .int, 2) := by decide +kernel
theorem dX0_init_52 : decode cX0_init 52 = .ok (.putfield 30, 3) := by decide +kernel
theorem dX0_init_55 : decode cX0_init 55 = .ok (.aload_n 0, 1) := by decide +kernel
theorem dX0_init_56 : decode cX0_init 56 = .ok (.iconst 1, 1) := by decide +kernel
theorem dX0_init_57 : decode cX0_init 57 = .ok (.putfield 33, 3) := by decide +kernel
theorem dX0_init_60 : decode cX0_init 60 = .ok (.return_, 1) := by decide +kernel
theorem dX0_takeFrom_0 : decode cX0_takeFrom 0 = .ok (.aload_n 0, 1) := by decide +kernel
theorem dX0_takeFrom_1 : decode cX0_takeFrom 1 = .ok (.aload_n 1, 1) := by decide +kernel
theorem dX0_takeFrom_2 : decode cX0_takeFrom 2 = .ok (.getfield 37, 3) := by decide +kernel
theorem dX0_takeFrom_5 : decode cX0_takeFrom 5 = .ok (.putfield 37, 3) := by decide +kernel
theorem dX0_takeFrom_8 : decode cX0_takeFrom 8 = .ok (.aload_n 0, 1) := by decide +kernel
theorem dX0_takeFrom_9 : decode cX0_takeFrom 9 = .ok (.aload_n 1, 1) := by decide +kernel
theorem dX0_takeFrom_10 : decode cX0_takeFrom 10 = .ok (.getfield 40, 3) := by decide +kernel
theorem dX0_takeFrom_13 : decode cX0_takeFrom 13 = .ok (.putfield 40, 3) := by decide +kernel
theorem dX0_takeFrom_16 : decode cX0_takeFrom 16 = .ok (.aload_n 0, 1) := by decide +kernel
theorem dX0_takeFrom_17 : decode cX0_takeFrom 17 = .ok (.aload_n 1, 1) := by decide +kernel
theorem dX0_takeFrom_18 : decode cX0_takeFrom 18 = .ok (.getfield 43, 3) := by decide +kernel
theorem dX0_takeFrom_21 : decode cX0_takeFrom 21 = .ok (.putfield 43, 3) := by decide +kernel
theorem dX0_takeFrom_24 : decode cX0_takeFrom 24 = .ok (.aload_n 0, 1) := by decide +kernel
theorem dX0_takeFrom_25 : decode cX0_takeFrom 25 = .ok (.aload_n 1, 1) := by decide +kernel
theorem dX0_takeFrom_26 : decode cX0_takeFrom 26 = .ok (.getfield 46, 3) := by decide +kernel
theorem dX0_takeFrom_29 : decode cX0_takeFrom 29 = .ok (.putfield 46, 3) := by decide +kernel
theorem dX0_takeFrom_32 : decode cX0_takeFrom 32 = .ok (.aload_n 0, 1) := by decide +kernel
theorem dX0_takeFrom_33 : decode cX0_takeFrom 33 = .ok (.aload_n 1, 1) := by decide +kernel
theorem dX0_takeFrom_34 : decode cX0_takeFrom 34 = .ok (.getfield 33, 3) := by decide +kernel
theorem dX0_takeFrom_37 : decode cX0_takeFrom 37 = .ok (.putfield 33, 3) := by decide +kernel
theorem dX0_takeFrom_40 : decode cX0_takeFrom 40 = .ok (.aload_n 1, 1) := by decide +kernel
theorem dX0_takeFrom_41 : decode cX0_takeFrom 41 = .ok (.getfield 9, 3) := by decide +kernel
theorem dX0_takeFrom_44 : decode cX0_takeFrom 44 = .ok (.iconst 0, 1) := by decide +kernel
theorem dX0_takeFrom_45 : decode cX0_takeFrom 45 = .ok (.aload_n 0, 1) := by decide +kernel
theorem dX0_takeFrom_46 : decode cX0_takeFrom 46 = .ok (.getfield 9, 3) := by decide +kernel
theorem dX0_takeFrom_49 : decode cX0_takeFrom 49 = .ok (.iconst 0, 1) := by decide +kernel
theorem dX0_takeFrom_50 : decode cX0_takeFrom 50 = .ok (.bipush 8, 2) := by decide +kernel
theorem dX0_takeFrom_52 : decode cX0_takeFrom 52 = .ok (.invokestatic 49, 3) := by decide +kernel
theorem dX0_takeFrom_55 : decode cX0_takeFrom 55 = .ok (.aload_n 1, 1) := by decide +kernel
theorem dX0_takeFrom_56 : decode cX0_takeFrom 56 = .ok (.getfield 15, 3) := by decide +kernel
theorem dX0_takeFrom_59 : decode cX0_takeFrom 59 = .ok (.iconst 0, 1) := by decide +kernel
theorem dX0_takeFrom_60 : decode cX0_takeFrom 60 = .ok (.aload_n 0, 1) := by decide +kernel
theorem dX0_takeFrom_61 : decode cX0_takeFrom 61 = .ok (.getfield 15, 3) := by decide +kernel
theorem dX0_takeFrom_64 : decode cX0_takeFrom 64 = .ok (.iconst 0, 1) := by decide +kernel
theorem dX0_takeFrom_65 : decode cX0_takeFrom 65 = .ok (.bipush 8, 2) := by decide +kernel
theorem dX0_takeFrom_67 : decode cX0_takeFrom 67 = .ok (.invokestatic 49, 3) := by decide +kernel
theorem dX0_takeFrom_70 : decode cX0_takeFrom 70 = .ok (.aload_n 1, 1) := by decide +kernel
theorem dX0_takeFrom_71 : decode cX0_takeFrom 71 = .ok (.getfield 18, 3) := by decide +kernel
theorem dX0_takeFrom_74 : decode cX0_takeFrom 74 = .ok (.iconst 0, 1) := by decide +kernel
theorem dX0_takeFrom_75 : decode cX0_takeFrom 75 = .ok (.aload_n 0, 1) := by decide +kernel
theorem dX0_takeFrom_76 : decode cX0_takeFrom 76 = .ok (.getfield 18, 3) := by decide +kernel
theorem dX0_takeFrom_79 : decode cX0_takeFrom 79 = .ok (.iconst 0, 1) := by decide +kernel
theorem dX0_takeFrom_80 : decode cX0_takeFrom 80 = .ok (.iconst 5, 1) := by decide +kernel
theorem dX0_takeFrom_81 : decode cX0_takeFrom 81 = .ok (.invokestatic 49, 3) := by decide +kernel
theorem dX0_takeFrom_84 : decode cX0_takeFrom 84 = .ok (.aload_n 1, 1) := by decide +kernel
theorem dX0_takeFrom_85 : decode cX0_takeFrom 85 = .ok (.getfield 21, 3) := by decide +kernel
theorem dX0_takeFrom_88 : decode cX0_takeFrom 88 = .ok (.iconst 0, 1) := by decide +kernel
theorem dX0_takeFrom_89 : decode cX0_takeFrom 89 = .ok (.aload_n 0, 1) := by decide +kernel
theorem dX0_takeFrom_90 : decode cX0_takeFrom 90 = .ok (.getfield 21, 3) := by decide +kernel
theorem dX0_takeFrom_93 : decode cX0_takeFrom 93 = .ok (.iconst 0, 1) := by decide +kernel
theorem dX0_takeFrom_94 : decode cX0_takeFrom 94 = .ok (.iconst 5, 1) := by decide +kernel
theorem dX0_takeFrom_95 : decode cX0_takeFrom 95 = .ok (.invokestatic 49, 3) := by decide +kernel
theorem dX0_takeFrom_98 : decode cX0_takeFrom 98 = .ok (.aload_n 1, 1) := by decide +kernel
theorem dX0_takeFrom_99 : decode cX0_takeFrom 99 = .ok (.getfield 24, 3) := by decide +kernel
theorem dX0_takeFrom_102 : decode cX0_takeFrom 102 = .ok (.iconst 0, 1) := by decide +kernel
theorem dX0_takeFrom_103 : decode cX0_takeFrom 103 = .ok (.aload_n 0, 1) := by decide +kernel
theorem dX0_takeFrom_104 : decode cX0_takeFrom 104 = .ok (.getfield 24, 3) := by decide +kernel
theorem dX0_takeFrom_107 : decode cX0_takeFrom 107 = .ok (.iconst 0, 1) := by decide +kernel
theorem dX0_takeFrom_108 : decode cX0_takeFrom 108 = .ok (.iconst 5, 1) := by decide +kernel
theorem dX0_takeFrom_109 : decode cX0_takeFrom 109 = .ok (.invokestatic 49, 3) := by decide +kernel
theorem dX0_takeFrom_112 : decode cX0_takeFrom 112 = .ok (.aload_n 1, 1) := by decide +kernel
theorem dX0_takeFrom_113 : decode cX0_takeFrom 113 = .ok (.getfield 27, 3) := by decide +kernel
theorem dX0_takeFrom_116 : decode cX0_takeFrom 116 = .ok (.iconst 0, 1) := by decide +kernel
theorem dX0_takeFrom_117 : decode cX0_takeFrom 117 = .ok (.aload_n 0, 1) := by decide +kernel
theorem dX0_takeFrom_118 : decode cX0_takeFrom 118 = .ok (.getfield 27, 3) := by decide +kernel
theorem dX0_takeFrom_121 : decode cX0_takeFrom 121 = .ok (.iconst 0, 1) := by decide +kernel
theorem dX0_takeFrom_122 : decode cX0_takeFrom 122 = .ok (.iconst 5, 1) := by decide +kernel
theorem dX0_takeFrom_123 : decode cX0_takeFrom 123 = .ok (.invokestatic 49, 3) := by decide +kernel
theorem dX0_takeFrom_126 : decode cX0_takeFrom 126 = .ok (.aload_n 1, 1) := by decide +kernel
theorem dX0_takeFrom_127 : decode cX0_takeFrom 127 = .ok (.getfield 30, 3) := by decide +kernel
theorem dX0_takeFrom_130 : decode cX0_takeFrom 130 = .ok (.iconst 0, 1) := by decide +kernel
theorem dX0_takeFrom_131 : decode cX0_takeFrom 131 = .ok (.aload_n 0, 1) := by decide +kernel
theorem dX0_takeFrom_132 : decode cX0_takeFrom 132 = .ok (.getfield 30, 3) := by decide +kernel
theorem dX0_takeFrom_135 : decode cX0_takeFrom 135 = .ok (.iconst 0, 1) := by decide +kernel
theorem dX0_takeFrom_136 : decode cX0_takeFrom 136 = .ok (.iconst 5, 1) := by decide +kernel
theorem dX0_takeFrom_137 : decode cX0_takeFrom 137 = .ok (.invokestatic 49, 3) := by decide +kernel
theorem dX0_takeFrom_140 : decode cX0_takeFrom 140 = .ok (.return_, 1) := by decide +kernel
theorem dX0_becomeNew_0 : decode cX0_becomeNew 0 = .ok (.aload_n 0, 1) := by decide +kernel
theorem dX0_becomeNew_1 : decode cX0_becomeNew 1 = .ok (.getfield 33, 3) := by decide +kernel
theorem dX0_becomeNew_4 : decode cX0_becomeNew 4 = .ok (.istore_n 2, 1) := by decide +kernel
theorem dX0_becomeNew_5 : decode cX0_becomeNew 5 = .ok (.aload_n 0, 1) := by decide +kernel
theorem dX0_becomeNew_6 : decode cX0_becomeNew 6 = .ok (.aload_n 1, 1) := by decide +kernel
theorem dX0_becomeNew_7 : decode cX0_becomeNew 7 = .ok (.invokevirtual 55, 3) := by decide +kernel
theorem dX0_becomeNew_10 : decode cX0_becomeNew 10 = .ok (.aload_n 0, 1) := by decide +kernel
theorem dX0_becomeNew_11 : decode cX0_becomeNew 11 = .ok (.iload_n 2, 1) := by decide +kernel
theorem dX0_becomeNew_12 : decode cX0_becomeNew 12 = .ok (.putfield 33, 3) := by decide +kernel
theorem dX0_becomeNew_15 : decode cX0_becomeNew 15 = .ok (.return_, 1) := by decide +kernel
theorem dX0_makeEmpty_0 : decode cX0_makeEmpty 0 = .ok (.aload_n 0, 1) := by decide +kernel
theorem dX0_makeEmpty_1 : decode cX0_makeEmpty 1 = .ok (.iconst 0, 1) := by decide +kernel
theorem dX0_makeEmpty_2 : decode cX0_makeEmpty 2 = .ok (.putfield 37, 3) := by decide +kernel
theorem dX0_makeEmpty_5 : decode cX0_makeEmpty 5 = .ok (.aload_n 0, 1) := by decide +kernel
theorem dX0_makeEmpty_6 : decode cX0_makeEmpty 6 = .ok (.iconst 0, 1) := by decide +kernel
theorem dX0_makeEmpty_7 : decode cX0_makeEmpty 7 = .ok (.putfield 40, 3) := by decide +kernel
theorem dX0_makeEmpty_10 : decode cX0_makeEmpty 10 = .ok (.aload_n 0, 1) := by decide +kernel
theorem dX0_makeEmpty_11 : decode cX0_makeEmpty 11 = .ok (.iconst 0, 1) := by decide +kernel
theorem dX0_makeEmpty_12 : decode cX0_makeEmpty 12 = .ok (.putfield 43, 3) := by decide +kernel
theorem dX0_makeEmpty_15 : decode cX0_makeEmpty 15 = .ok (.aload_n 0, 1) := by decide +kernel
theorem dX0_makeEmpty_16 : decode cX0_makeEmpty 16 = .ok (.iconst 0, 1) := by decide +kernel
theorem dX0_makeEmpty_17 : decode cX0_makeEmpty 17 = .ok (.putfield 46, 3) := by decide +kernel
theorem dX0_makeEmpty_20 : decode cX0_makeEmpty 20 = .ok (.return_, 1) := by decide +kernel
theorem dX0_addQuestion_0 : decode cX0_addQuestion 0 = .ok (.aload_n 0, 1) := by decide +kernel
theorem dX0_addQuestion_1 : decode cX0_addQuestion 1 = .ok (.getfield 37, 3) := by decide +kernel
theorem dX0_addQuestion_4 : decode cX0_addQuestion 4 = .ok (.istore_n 3, 1) := by decide +kernel
theorem dX0_addQuestion_5 : decode cX0_addQuestion 5 = .ok (.iload_n 3, 1) := by decide +kernel
theorem dX0_addQuestion_6 : decode cX0_addQuestion 6 = .ok (.bipush 8, 2) := by decide +kernel
theorem dX0_addQuestion_8 : decode cX0_addQuestion 8 = .ok (.if_icmp .lt 6, 3) := by decide +kernel
theorem dX0_addQuestion_11 : decode cX0_addQuestion 11 = .ok (.bipush (-3), 2) := by decide +kernel
theorem dX0_addQuestion_13 : decode cX0_addQuestion 13 = .ok (.ireturn, 1) := by decide +kernel
theorem dX0_addQuestion_14 : decode cX0_addQuestion 14 = .ok (.aload_n 0, 1) := by decide +kernel
theorem dX0_addQuestion_15 : decode cX0_addQuestion 15 = .ok (.getfield 9, 3) := by decide +kernel
theorem dX0_addQuestion_18 : decode cX0_addQuestion 18 = .ok (.iload_n 3, 1) := by decide +kernel
theorem dX0_addQuestion_19 : decode cX0_addQuestion 19 = .ok (.iload_n 1, 1) := by decide +kernel
theorem dX0_addQuestion_20 : decode cX0_addQuestion 20 = .ok (.iastore, 1) := by decide +kernel
theorem dX0_addQuestion_21 : decode cX0_addQuestion 21 = .ok (.aload_n 0, 1) := by decide +kernel
theorem dX0_addQuestion_22 : decode cX0_addQuestion 22 = .ok (.getfield 15, 3) := by decide +kernel
theorem dX0_addQuestion_25 : decode cX0_addQuestion 25 = .ok (.iload_n 3, 1) := by decide +kernel
theorem dX0_addQuestion_26 : decode cX0_addQuestion 26 = .ok (.iload_n 2, 1) := by decide +kernel
theorem dX0_addQuestion_27 : decode cX0_addQuestion 27 = .ok (.iastore, 1) := by decide +kernel
theorem dX0_addQuestion_28 : decode cX0_addQuestion 28 = .ok (.aload_n 0, 1) := by decide +kernel
theorem dX0_addQuestion_29 : decode cX0_addQuestion 29 = .ok (.dup, 1) := by decide +kernel
theorem dX0_addQuestion_30 : decode cX0_addQuestion 30 = .ok (.getfield 37, 3) := by decide +kernel
theorem dX0_addQuestion_33 : decode cX0_addQuestion 33 = .ok (.iconst 1, 1) := by decide +kernel
theorem dX0_addQuestion_34 : decode cX0_addQuestion 34 = .ok (.iadd, 1) := by decide +kernel
theorem dX0_addQuestion_35 : decode cX0_addQuestion 35 = .ok (.putfield 37, 3) := by decide +kernel
theorem dX0_addQuestion_38 : decode cX0_addQuestion 38 = .ok (.iload_n 3, 1) := by decide +kernel
theorem dX0_addQuestion_39 : decode cX0_addQuestion 39 = .ok (.ireturn, 1) := by decide +kernel
theorem dX0_addCrosser_0 : decode cX0_addCrosser 0 = .ok (.aload_n 0, 1) := by decide +kernel
theorem dX0_addCrosser_1 : decode cX0_addCrosser 1 = .ok (.getfield 40, 3) := by decide +kernel
theorem dX0_addCrosser_4 : decode cX0_addCrosser 4 = .ok (.istore 4, 2) := by decide +kernel
theorem dX0_addCrosser_6 : decode cX0_addCrosser 6 = .ok (.iload 4, 2) := by decide +kernel
theorem dX0_addCrosser_8 : decode cX0_addCrosser 8 = .ok (.iconst 5, 1) := by decide +kernel
theorem dX0_addCrosser_9 : decode cX0_addCrosser 9 = .ok (.if_icmp .lt 6, 3) := by decide +kernel
theorem dX0_addCrosser_12 : decode cX0_addCrosser 12 = .ok (.bipush (-3), 2) := by decide +kernel
theorem dX0_addCrosser_14 : decode cX0_addCrosser 14 = .ok (.ireturn, 1) := by decide +kernel
theorem dX0_addCrosser_15 : decode cX0_addCrosser 15 = .ok (.aload_n 0, 1) := by decide +kernel
theorem dX0_addCrosser_16 : decode cX0_addCrosser 16 = .ok (.getfield 18, 3) := by decide +kernel
theorem dX0_addCrosser_19 : decode cX0_addCrosser 19 = .ok (.iload 4, 2) := by decide +kernel
theorem dX0_addCrosser_21 : decode cX0_addCrosser 21 = .ok (.iload_n 1, 1) := by decide +kernel
theorem dX0_addCrosser_22 : decode cX0_addCrosser 22 = .ok (.iastore, 1) := by decide +kernel
theorem dX0_addCrosser_23 : decode cX0_addCrosser 23 = .ok (.aload_n 0, 1) := by decide +kernel
theorem dX0_addCrosser_24 : decode cX0_addCrosser 24 = .ok (.getfield 21, 3) := by decide +kernel
theorem dX0_addCrosser_27 : decode cX0_addCrosser 27 = .ok (.iload 4, 2) := by decide +kernel
theorem dX0_addCrosser_29 : decode cX0_addCrosser 29 = .ok (.iload_n 2, 1) := by decide +kernel
theorem dX0_addCrosser_30 : decode cX0_addCrosser 30 = .ok (.iastore, 1) := by decide +kernel
theorem dX0_addCrosser_31 : decode cX0_addCrosser 31 = .ok (.aload_n 0, 1) := by decide +kernel
theorem dX0_addCrosser_32 : decode cX0_addCrosser 32 = .ok (.getfield 24, 3) := by decide +kernel
theorem dX0_addCrosser_35 : decode cX0_addCrosser 35 = .ok (.iload 4, 2) := by decide +kernel
theorem dX0_addCrosser_37 : decode cX0_addCrosser 37 = .ok (.iload_n 3, 1) := by decide +kernel
theorem dX0_addCrosser_38 : decode cX0_addCrosser 38 = .ok (.iastore, 1) := by decide +kernel
theorem dX0_addCrosser_39 : decode cX0_addCrosser 39 = .ok (.aload_n 0, 1) := by decide +kernel
theorem dX0_addCrosser_40 : decode cX0_addCrosser 40 = .ok (.getfield 27, 3) := by decide +kernel
theorem dX0_addCrosser_43 : decode cX0_addCrosser 43 = .ok (.iload 4, 2) := by decide +kernel
theorem dX0_addCrosser_45 : decode cX0_addCrosser 45 = .ok (.iconst 0, 1) := by decide +kernel
theorem dX0_addCrosser_46 : decode cX0_addCrosser 46 = .ok (.iastore, 1) := by decide +kernel
theorem dX0_addCrosser_47 : decode cX0_addCrosser 47 = .ok (.aload_n 0, 1) := by decide +kernel
theorem dX0_addCrosser_48 : decode cX0_addCrosser 48 = .ok (.getfield 30, 3) := by decide +kernel
theorem dX0_addCrosser_51 : decode cX0_addCrosser 51 = .ok (.iload 4, 2) := by decide +kernel
theorem dX0_addCrosser_53 : decode cX0_addCrosser 53 = .ok (.iconst 0, 1) := by decide +kernel
theorem dX0_addCrosser_54 : decode cX0_addCrosser 54 = .ok (.iastore, 1) := by decide +kernel
theorem dX0_addCrosser_55 : decode cX0_addCrosser 55 = .ok (.aload_n 0, 1) := by decide +kernel
theorem dX0_addCrosser_56 : decode cX0_addCrosser 56 = .ok (.dup, 1) := by decide +kernel
theorem dX0_addCrosser_57 : decode cX0_addCrosser 57 = .ok (.getfield 40, 3) := by decide +kernel
theorem dX0_addCrosser_60 : decode cX0_addCrosser 60 = .ok (.iconst 1, 1) := by decide +kernel
theorem dX0_addCrosser_61 : decode cX0_addCrosser 61 = .ok (.iadd, 1) := by decide +kernel
theorem dX0_addCrosser_62 : decode cX0_addCrosser 62 = .ok (.putfield 40, 3) := by decide +kernel
theorem dX0_addCrosser_65 : decode cX0_addCrosser 65 = .ok (.iload 4, 2) := by decide +kernel
theorem dX0_addCrosser_67 : decode cX0_addCrosser 67 = .ok (.ireturn, 1) := by decide +kernel
theorem dX0_hasQuestion_0 : decode cX0_hasQuestion 0 = .ok (.iload_n 1, 1) := by decide +kernel
theorem dX0_hasQuestion_1 : decode cX0_hasQuestion 1 = .ok (.ifCond .lt 15, 3) := by decide +kernel
theorem dX0_hasQuestion_4 : decode cX0_hasQuestion 4 = .ok (.iload_n 1, 1) := by decide +kernel
theorem dX0_hasQuestion_5 : decode cX0_hasQuestion 5 = .ok (.aload_n 0, 1) := by decide +kernel
theorem dX0_hasQuestion_6 : decode cX0_hasQuestion 6 = .ok (.getfield 37, 3) := by decide +kernel
theorem dX0_hasQuestion_9 : decode cX0_hasQuestion 9 = .ok (.if_icmp .ge 7, 3) := by decide +kernel
theorem dX0_hasQuestion_12 : decode cX0_hasQuestion 12 = .ok (.iconst 1, 1) := by decide +kernel
theorem dX0_hasQuestion_13 : decode cX0_hasQuestion 13 = .ok (.goto 4, 3) := by decide +kernel
theorem dX0_hasQuestion_16 : decode cX0_hasQuestion 16 = .ok (.iconst 0, 1) := by decide +kernel
theorem dX0_hasQuestion_17 : decode cX0_hasQuestion 17 = .ok (.ireturn, 1) := by decide +kernel
theorem dX0_hasCrosser_0 : decode cX0_hasCrosser 0 = .ok (.iload_n 1, 1) := by decide +kernel
theorem dX0_hasCrosser_1 : decode cX0_hasCrosser 1 = .ok (.ifCond .lt 15, 3) := by decide +kernel
theorem dX0_hasCrosser_4 : decode cX0_hasCrosser 4 = .ok (.iload_n 1, 1) := by decide +kernel
theorem dX0_hasCrosser_5 : decode cX0_hasCrosser 5 = .ok (.aload_n 0, 1) := by decide +kernel
theorem dX0_hasCrosser_6 : decode cX0_hasCrosser 6 = .ok (.getfield 40, 3) := by decide +kernel
theorem dX0_hasCrosser_9 : decode cX0_hasCrosser 9 = .ok (.if_icmp .ge 7, 3) := by decide +kernel
theorem dX0_hasCrosser_12 : decode cX0_hasCrosser 12 = .ok (.iconst 1, 1) := by decide +kernel
theorem dX0_hasCrosser_13 : decode cX0_hasCrosser 13 = .ok (.goto 4, 3) := by decide +kernel
theorem dX0_hasCrosser_16 : decode cX0_hasCrosser 16 = .ok (.iconst 0, 1) := by decide +kernel
theorem dX0_hasCrosser_17 : decode cX0_hasCrosser 17 = .ok (.ireturn, 1) := by decide +kernel
theorem dX0_isAsked_0 : decode cX0_isAsked 0 = .ok (.aload_n 0, 1) := by decide +kernel
theorem dX0_isAsked_1 : decode cX0_isAsked 1 = .ok (.getfield 43, 3) := by decide +kernel
theorem dX0_isAsked_4 : decode cX0_isAsked 4 = .ok (.iload_n 1, 1) := by decide +kernel
theorem dX0_isAsked_5 : decode cX0_isAsked 5 = .ok (.invokestatic 59, 3) := by decide +kernel
theorem dX0_isAsked_8 : decode cX0_isAsked 8 = .ok (.ireturn, 1) := by decide +kernel
theorem dX0_letAskAgain_0 : decode cX0_letAskAgain 0 = .ok (.aload_n 0, 1) := by decide +kernel
theorem dX0_letAskAgain_1 : decode cX0_letAskAgain 1 = .ok (.dup, 1) := by decide +kernel
theorem dX0_letAskAgain_2 : decode cX0_letAskAgain 2 = .ok (.getfield 43, 3) := by decide +kernel
theorem dX0_letAskAgain_5 : decode cX0_letAskAgain 5 = .ok (.iconst 1, 1) := by decide +kernel
theorem dX0_letAskAgain_6 : decode cX0_letAskAgain 6 = .ok (.iload_n 1, 1) := by decide +kernel
theorem dX0_letAskAgain_7 : decode cX0_letAskAgain 7 = .ok (.ishl, 1) := by decide +kernel
theorem dX0_letAskAgain_8 : decode cX0_letAskAgain 8 = .ok (.iconst (-1), 1) := by decide +kernel
theorem dX0_letAskAgain_9 : decode cX0_letAskAgain 9 = .ok (.ixor, 1) := by decide +kernel
theorem dX0_letAskAgain_10 : decode cX0_letAskAgain 10 = .ok (.iand, 1) := by decide +kernel
theorem dX0_letAskAgain_11 : decode cX0_letAskAgain 11 = .ok (.putfield 43, 3) := by decide +kernel
theorem dX0_letAskAgain_14 : decode cX0_letAskAgain 14 = .ok (.return_, 1) := by decide +kernel
theorem dX0_everyone_0 : decode cX0_everyone 0 = .ok (.iconst 1, 1) := by decide +kernel
theorem dX0_everyone_1 : decode cX0_everyone 1 = .ok (.aload_n 0, 1) := by decide +kernel
theorem dX0_everyone_2 : decode cX0_everyone 2 = .ok (.getfield 40, 3) := by decide +kernel
theorem dX0_everyone_5 : decode cX0_everyone 5 = .ok (.ishl, 1) := by decide +kernel
theorem dX0_everyone_6 : decode cX0_everyone 6 = .ok (.iconst 1, 1) := by decide +kernel
theorem dX0_everyone_7 : decode cX0_everyone 7 = .ok (.isub, 1) := by decide +kernel
theorem dX0_everyone_8 : decode cX0_everyone 8 = .ok (.ireturn, 1) := by decide +kernel
theorem dX0_thoseWho_0 : decode cX0_thoseWho 0 = .ok (.iconst 0, 1) := by decide +kernel
theorem dX0_thoseWho_1 : decode cX0_thoseWho 1 = .ok (.istore_n 2, 1) := by decide +kernel
theorem dX0_thoseWho_2 : decode cX0_thoseWho 2 = .ok (.iconst 0, 1) := by decide +kernel
theorem dX0_thoseWho_3 : decode cX0_thoseWho 3 = .ok (.istore_n 3, 1) := by decide +kernel
theorem dX0_thoseWho_4 : decode cX0_thoseWho 4 = .ok (.iload_n 3, 1) := by decide +kernel
theorem dX0_thoseWho_5 : decode cX0_thoseWho 5 = .ok (.aload_n 0, 1) := by decide +kernel
theorem dX0_thoseWho_6 : decode cX0_thoseWho 6 = .ok (.getfield 40, 3) := by decide +kernel
theorem dX0_thoseWho_9 : decode cX0_thoseWho 9 = .ok (.if_icmp .ge 25, 3) := by decide +kernel
theorem dX0_thoseWho_12 : decode cX0_thoseWho 12 = .ok (.aload_n 0, 1) := by decide +kernel
theorem dX0_thoseWho_13 : decode cX0_thoseWho 13 = .ok (.getfield 27, 3) := by decide +kernel
theorem dX0_thoseWho_16 : decode cX0_thoseWho 16 = .ok (.iload_n 3, 1) := by decide +kernel
theorem dX0_thoseWho_17 : decode cX0_thoseWho 17 = .ok (.iaload, 1) := by decide +kernel
theorem dX0_thoseWho_18 : decode cX0_thoseWho 18 = .ok (.iload_n 1, 1) := by decide +kernel
theorem dX0_thoseWho_19 : decode cX0_thoseWho 19 = .ok (.if_icmp .ne 9, 3) := by decide +kernel
theorem dX0_thoseWho_22 : decode cX0_thoseWho 22 = .ok (.iload_n 2, 1) := by decide +kernel
theorem dX0_thoseWho_23 : decode cX0_thoseWho 23 = .ok (.iconst 1, 1) := by decide +kernel
theorem dX0_thoseWho_24 : decode cX0_thoseWho 24 = .ok (.iload_n 3, 1) := by decide +kernel
theorem dX0_thoseWho_25 : decode cX0_thoseWho 25 = .ok (.ishl, 1) := by decide +kernel
theorem dX0_thoseWho_26 : decode cX0_thoseWho 26 = .ok (.ior, 1) := by decide +kernel
theorem dX0_thoseWho_27 : decode cX0_thoseWho 27 = .ok (.istore_n 2, 1) := by decide +kernel
theorem dX0_thoseWho_28 : decode cX0_thoseWho 28 = .ok (.iinc 3 1, 3) := by decide +kernel
theorem dX0_thoseWho_31 : decode cX0_thoseWho 31 = .ok (.goto (-27), 3) := by decide +kernel
theorem dX0_thoseWho_34 : decode cX0_thoseWho 34 = .ok (.iload_n 2, 1) := by decide +kernel
theorem dX0_thoseWho_35 : decode cX0_thoseWho 35 = .ok (.ireturn, 1) := by decide +kernel
theorem dX0_hoursFor_0 : decode cX0_hoursFor 0 = .ok (.aload_n 0, 1) := by decide +kernel
theorem dX0_hoursFor_1 : decode cX0_hoursFor 1 = .ok (.iconst 1, 1) := by decide +kernel
theorem dX0_hoursFor_2 : decode cX0_hoursFor 2 = .ok (.invokevirtual 63, 3) := by decide +kernel
theorem dX0_hoursFor_5 : decode cX0_hoursFor 5 = .ok (.iconst 1, 1) := by decide +kernel
theorem dX0_hoursFor_6 : decode cX0_hoursFor 6 = .ok (.iload_n 1, 1) := by decide +kernel
theorem dX0_hoursFor_7 : decode cX0_hoursFor 7 = .ok (.ishl, 1) := by decide +kernel
theorem dX0_hoursFor_8 : decode cX0_hoursFor 8 = .ok (.iconst (-1), 1) := by decide +kernel
theorem dX0_hoursFor_9 : decode cX0_hoursFor 9 = .ok (.ixor, 1) := by decide +kernel
theorem dX0_hoursFor_10 : decode cX0_hoursFor 10 = .ok (.iand, 1) := by decide +kernel
theorem dX0_hoursFor_11 : decode cX0_hoursFor 11 = .ok (.invokestatic 67, 3) := by decide +kernel
theorem dX0_hoursFor_14 : decode cX0_hoursFor 14 = .ok (.istore_n 3, 1) := by decide +kernel
theorem dX0_hoursFor_15 : decode cX0_hoursFor 15 = .ok (.aload_n 0, 1) := by decide +kernel
theorem dX0_hoursFor_16 : decode cX0_hoursFor 16 = .ok (.iload_n 3, 1) := by decide +kernel
theorem dX0_hoursFor_17 : decode cX0_hoursFor 17 = .ok (.iload_n 1, 1) := by decide +kernel
theorem dX0_hoursFor_18 : decode cX0_hoursFor 18 = .ok (.iload_n 2, 1) := by decide +kernel
theorem dX0_hoursFor_19 : decode cX0_hoursFor 19 = .ok (.aload_n 0, 1) := by decide +kernel
theorem dX0_hoursFor_20 : decode cX0_hoursFor 20 = .ok (.getfield 46, 3) := by decide +kernel
theorem dX0_hoursFor_23 : decode cX0_hoursFor 23 = .ok (.invokevirtual 72, 3) := by decide +kernel
theorem dX0_hoursFor_26 : decode cX0_hoursFor 26 = .ok (.ireturn, 1) := by decide +kernel
theorem dX0_hoursAmong_0 : decode cX0_hoursAmong 0 = .ok (.aload_n 0, 1) := by decide +kernel
theorem dX0_hoursAmong_1 : decode cX0_hoursAmong 1 = .ok (.getfield 21, 3) := by decide +kernel
theorem dX0_hoursAmong_4 : decode cX0_hoursAmong 4 = .ok (.iload_n 2, 1) := by decide +kernel
theorem dX0_hoursAmong_5 : decode cX0_hoursAmong 5 = .ok (.iaload, 1) := by decide +kernel
theorem dX0_hoursAmong_6 : decode cX0_hoursAmong 6 = .ok (.aload_n 0, 1) := by decide +kernel
theorem dX0_hoursAmong_7 : decode cX0_hoursAmong 7 = .ok (.getfield 9, 3) := by decide +kernel
theorem dX0_hoursAmong_10 : decode cX0_hoursAmong 10 = .ok (.iload_n 3, 1) := by decide +kernel
theorem dX0_hoursAmong_11 : decode cX0_hoursAmong 11 = .ok (.iaload, 1) := by decide +kernel
theorem dX0_hoursAmong_12 : decode cX0_hoursAmong 12 = .ok (.invokestatic 59, 3) := by decide +kernel
theorem dX0_hoursAmong_15 : decode cX0_hoursAmong 15 = .ok (.istore 5, 2) := by decide +kernel
theorem dX0_hoursAmong_17 : decode cX0_hoursAmong 17 = .ok (.iload 5, 2) := by decide +kernel
theorem dX0_hoursAmong_19 : decode cX0_hoursAmong 19 = .ok (.ifCond .eq 7, 3) := by decide +kernel
theorem dX0_hoursAmong_22 : decode cX0_hoursAmong 22 = .ok (.iconst 1, 1) := by decide +kernel
theorem dX0_hoursAmong_23 : decode cX0_hoursAmong 23 = .ok (.goto 9, 3) := by decide +kernel
theorem dX0_hoursAmong_26 : decode cX0_hoursAmong 26 = .ok (.aload_n 0, 1) := by decide +kernel
theorem dX0_hoursAmong_27 : decode cX0_hoursAmong 27 = .ok (.getfield 15, 3) := by decide +kernel
theorem dX0_hoursAmong_30 : decode cX0_hoursAmong 30 = .ok (.iload_n 3, 1) := by decide +kernel
theorem dX0_hoursAmong_31 : decode cX0_hoursAmong 31 = .ok (.iaload, 1) := by decide +kernel
theorem dX0_hoursAmong_32 : decode cX0_hoursAmong 32 = .ok (.istore 6, 2) := by decide +kernel
theorem dX0_hoursAmong_34 : decode cX0_hoursAmong 34 = .ok (.iload 5, 2) := by decide +kernel
theorem dX0_hoursAmong_36 : decode cX0_hoursAmong 36 = .ok (.ifCond .eq 8, 3) := by decide +kernel
theorem dX0_hoursAmong_39 : decode cX0_hoursAmong 39 = .ok (.iload 6, 2) := by decide +kernel
theorem dX0_hoursAmong_41 : decode cX0_hoursAmong 41 = .ok (.goto 7, 3) := by decide +kernel
theorem dX0_hoursAmong_44 : decode cX0_hoursAmong 44 = .ok (.iconst 2, 1) := by decide +kernel
theorem dX0_hoursAmong_45 : decode cX0_hoursAmong 45 = .ok (.iload 6, 2) := by decide +kernel
theorem dX0_hoursAmong_47 : decode cX0_hoursAmong 47 = .ok (.imul, 1) := by decide +kernel
theorem dX0_hoursAmong_48 : decode cX0_hoursAmong 48 = .ok (.istore 7, 2) := by decide +kernel
theorem dX0_hoursAmong_50 : decode cX0_hoursAmong 50 = .ok (.iload 6, 2) := by decide +kernel
theorem dX0_hoursAmong_52 : decode cX0_hoursAmong 52 = .ok (.iconst 2, 1) := by decide +kernel
theorem dX0_hoursAmong_53 : decode cX0_hoursAmong 53 = .ok (.invokestatic 76, 3) := by decide +kernel
theorem dX0_hoursAmong_56 : decode cX0_hoursAmong 56 = .ok (.istore 8, 2) := by decide +kernel
theorem dX0_hoursAmong_58 : decode cX0_hoursAmong 58 = .ok (.aload_n 0, 1) := by decide +kernel
theorem dX0_hoursAmong_59 : decode cX0_hoursAmong 59 = .ok (.getfield 18, 3) := by decide +kernel
theorem dX0_hoursAmong_62 : decode cX0_hoursAmong 62 = .ok (.iload_n 2, 1) := by decide +kernel
theorem dX0_hoursAmong_63 : decode cX0_hoursAmong 63 = .ok (.iaload, 1) := by decide +kernel
theorem dX0_hoursAmong_64 : decode cX0_hoursAmong 64 = .ok (.tableswitch 68 0 4 #[68, 36, 39, 42, 47], 36) := by decide +kernel
theorem dX0_hoursAmong_100 : decode cX0_hoursAmong 100 = .ok (.iload 7, 2) := by decide +kernel
theorem dX0_hoursAmong_102 : decode cX0_hoursAmong 102 = .ok (.ireturn, 1) := by decide +kernel
theorem dX0_hoursAmong_103 : decode cX0_hoursAmong 103 = .ok (.iload 8, 2) := by decide +kernel
theorem dX0_hoursAmong_105 : decode cX0_hoursAmong 105 = .ok (.ireturn, 1) := by decide +kernel
theorem dX0_hoursAmong_106 : decode cX0_hoursAmong 106 = .ok (.iload 7, 2) := by decide +kernel
theorem dX0_hoursAmong_108 : decode cX0_hoursAmong 108 = .ok (.iload_n 1, 1) := by decide +kernel
theorem dX0_hoursAmong_109 : decode cX0_hoursAmong 109 = .ok (.iadd, 1) := by decide +kernel
theorem dX0_hoursAmong_110 : decode cX0_hoursAmong 110 = .ok (.ireturn, 1) := by decide +kernel
theorem dX0_hoursAmong_111 : decode cX0_hoursAmong 111 = .ok (.iload 4, 2) := by decide +kernel
theorem dX0_hoursAmong_113 : decode cX0_hoursAmong 113 = .ok (.iconst 2, 1) := by decide +kernel
theorem dX0_hoursAmong_114 : decode cX0_hoursAmong 114 = .ok (.irem, 1) := by decide +kernel
theorem dX0_hoursAmong_115 : decode cX0_hoursAmong 115 = .ok (.ifCond .ne 14, 3) := by decide +kernel
theorem dX0_hoursAmong_118 : decode cX0_hoursAmong 118 = .ok (.iconst 1, 1) := by decide +kernel
theorem dX0_hoursAmong_119 : decode cX0_hoursAmong 119 = .ok (.iload 8, 2) := by decide +kernel
theorem dX0_hoursAmong_121 : decode cX0_hoursAmong 121 = .ok (.iconst 1, 1) := by decide +kernel
theorem dX0_hoursAmong_122 : decode cX0_hoursAmong 122 = .ok (.isub, 1) := by decide +kernel
theorem dX0_hoursAmong_123 : decode cX0_hoursAmong 123 = .ok (.invokestatic 82, 3) := by decide +kernel
theorem dX0_hoursAmong_126 : decode cX0_hoursAmong 126 = .ok (.goto 5, 3) := by decide +kernel
theorem dX0_hoursAmong_129 : decode cX0_hoursAmong 129 = .ok (.iload 8, 2) := by decide +kernel
theorem dX0_hoursAmong_131 : decode cX0_hoursAmong 131 = .ok (.ireturn, 1) := by decide +kernel
theorem dX0_hoursAmong_132 : decode cX0_hoursAmong 132 = .ok (.iload 6, 2) := by decide +kernel
theorem dX0_hoursAmong_134 : decode cX0_hoursAmong 134 = .ok (.ireturn, 1) := by decide +kernel
theorem dX0_passHour_0 : decode cX0_passHour 0 = .ok (.iconst 0, 1) := by decide +kernel
theorem dX0_passHour_1 : decode cX0_passHour 1 = .ok (.istore_n 1, 1) := by decide +kernel
theorem dX0_passHour_2 : decode cX0_passHour 2 = .ok (.iload_n 1, 1) := by decide +kernel
theorem dX0_passHour_3 : decode cX0_passHour 3 = .ok (.aload_n 0, 1) := by decide +kernel
theorem dX0_passHour_4 : decode cX0_passHour 4 = .ok (.getfield 40, 3) := by decide +kernel
theorem dX0_passHour_7 : decode cX0_passHour 7 = .ok (.if_icmp .ge 36, 3) := by decide +kernel
theorem dX0_passHour_10 : decode cX0_passHour 10 = .ok (.aload_n 0, 1) := by decide +kernel
theorem dX0_passHour_11 : decode cX0_passHour 11 = .ok (.getfield 27, 3) := by decide +kernel
theorem dX0_passHour_14 : decode cX0_passHour 14 = .ok (.iload_n 1, 1) := by decide +kernel
theorem dX0_passHour_15 : decode cX0_passHour 15 = .ok (.iaload, 1) := by decide +kernel
theorem dX0_passHour_16 : decode cX0_passHour 16 = .ok (.ifCond .ne 21, 3) := by decide +kernel
theorem dX0_passHour_19 : decode cX0_passHour 19 = .ok (.aload_n 0, 1) := by decide +kernel
theorem dX0_passHour_20 : decode cX0_passHour 20 = .ok (.getfield 24, 3) := by decide +kernel
theorem dX0_passHour_23 : decode cX0_passHour 23 = .ok (.iload_n 1, 1) := by decide +kernel
theorem dX0_passHour_24 : decode cX0_passHour 24 = .ok (.iaload, 1) := by decide +kernel
theorem dX0_passHour_25 : decode cX0_passHour 25 = .ok (.aload_n 0, 1) := by decide +kernel
theorem dX0_passHour_26 : decode cX0_passHour 26 = .ok (.getfield 46, 3) := by decide +kernel
theorem dX0_passHour_29 : decode cX0_passHour 29 = .ok (.if_icmp .gt 8, 3) := by decide +kernel
theorem dX0_passHour_32 : decode cX0_passHour 32 = .ok (.aload_n 0, 1) := by decide +kernel
theorem dX0_passHour_33 : decode cX0_passHour 33 = .ok (.iload_n 1, 1) := by decide +kernel
theorem dX0_passHour_34 : decode cX0_passHour 34 = .ok (.invokevirtual 85, 3) := by decide +kernel
theorem dX0_passHour_37 : decode cX0_passHour 37 = .ok (.iinc 1 1, 3) := by decide +kernel
theorem dX0_passHour_40 : decode cX0_passHour 40 = .ok (.goto (-38), 3) := by decide +kernel
theorem dX0_passHour_43 : decode cX0_passHour 43 = .ok (.aload_n 0, 1) := by decide +kernel
theorem dX0_passHour_44 : decode cX0_passHour 44 = .ok (.dup, 1) := by decide +kernel
theorem dX0_passHour_45 : decode cX0_passHour 45 = .ok (.getfield 46, 3) := by decide +kernel
theorem dX0_passHour_48 : decode cX0_passHour 48 = .ok (.iconst 1, 1) := by decide +kernel
theorem dX0_passHour_49 : decode cX0_passHour 49 = .ok (.iadd, 1) := by decide +kernel
theorem dX0_passHour_50 : decode cX0_passHour 50 = .ok (.putfield 46, 3) := by decide +kernel
theorem dX0_passHour_53 : decode cX0_passHour 53 = .ok (.iconst 0, 1) := by decide +kernel
theorem dX0_passHour_54 : decode cX0_passHour 54 = .ok (.istore_n 1, 1) := by decide +kernel
theorem dX0_passHour_55 : decode cX0_passHour 55 = .ok (.iload_n 1, 1) := by decide +kernel
theorem dX0_passHour_56 : decode cX0_passHour 56 = .ok (.aload_n 0, 1) := by decide +kernel
theorem dX0_passHour_57 : decode cX0_passHour 57 = .ok (.getfield 40, 3) := by decide +kernel
theorem dX0_passHour_60 : decode cX0_passHour 60 = .ok (.if_icmp .ge 39, 3) := by decide +kernel
theorem dX0_passHour_63 : decode cX0_passHour 63 = .ok (.aload_n 0, 1) := by decide +kernel
theorem dX0_passHour_64 : decode cX0_passHour 64 = .ok (.getfield 27, 3) := by decide +kernel
theorem dX0_passHour_67 : decode cX0_passHour 67 = .ok (.iload_n 1, 1) := by decide +kernel
theorem dX0_passHour_68 : decode cX0_passHour 68 = .ok (.iaload, 1) := by decide +kernel
theorem dX0_passHour_69 : decode cX0_passHour 69 = .ok (.iconst 1, 1) := by decide +kernel
theorem dX0_passHour_70 : decode cX0_passHour 70 = .ok (.if_icmp .ne 23, 3) := by decide +kernel
theorem dX0_passHour_73 : decode cX0_passHour 73 = .ok (.aload_n 0, 1) := by decide +kernel
theorem dX0_passHour_74 : decode cX0_passHour 74 = .ok (.getfield 30, 3) := by decide +kernel
theorem dX0_passHour_77 : decode cX0_passHour 77 = .ok (.iload_n 1, 1) := by decide +kernel
theorem dX0_passHour_78 : decode cX0_passHour 78 = .ok (.iaload, 1) := by decide +kernel
theorem dX0_passHour_79 : decode cX0_passHour 79 = .ok (.aload_n 0, 1) := by decide +kernel
theorem dX0_passHour_80 : decode cX0_passHour 80 = .ok (.getfield 46, 3) := by decide +kernel
theorem dX0_passHour_83 : decode cX0_passHour 83 = .ok (.if_icmp .gt 10, 3) := by decide +kernel
theorem dX0_passHour_86 : decode cX0_passHour 86 = .ok (.aload_n 0, 1) := by decide +kernel
theorem dX0_passHour_87 : decode cX0_passHour 87 = .ok (.getfield 27, 3) := by decide +kernel
theorem dX0_passHour_90 : decode cX0_passHour 90 = .ok (.iload_n 1, 1) := by decide +kernel
theorem dX0_passHour_91 : decode cX0_passHour 91 = .ok (.iconst 2, 1) := by decide +kernel
theorem dX0_passHour_92 : decode cX0_passHour 92 = .ok (.iastore, 1) := by decide +kernel
theorem dX0_passHour_93 : decode cX0_passHour 93 = .ok (.iinc 1 1, 3) := by decide +kernel
theorem dX0_passHour_96 : decode cX0_passHour 96 = .ok (.goto (-41), 3) := by decide +kernel
theorem dX0_passHour_99 : decode cX0_passHour 99 = .ok (.return_, 1) := by decide +kernel
theorem dX0_letIn_0 : decode cX0_letIn 0 = .ok (.aload_n 0, 1) := by decide +kernel
theorem dX0_letIn_1 : decode cX0_letIn 1 = .ok (.invokevirtual 89, 3) := by decide +kernel
theorem dX0_letIn_4 : decode cX0_letIn 4 = .ok (.istore_n 2, 1) := by decide +kernel
theorem dX0_letIn_5 : decode cX0_letIn 5 = .ok (.iload_n 2, 1) := by decide +kernel
theorem dX0_letIn_6 : decode cX0_letIn 6 = .ok (.bipush (-4), 2) := by decide +kernel
theorem dX0_letIn_8 : decode cX0_letIn 8 = .ok (.if_icmp .ne 11, 3) := by decide +kernel
theorem dX0_letIn_11 : decode cX0_letIn 11 = .ok (.aload_n 0, 1) := by decide +kernel
theorem dX0_letIn_12 : decode cX0_letIn 12 = .ok (.getfield 27, 3) := by decide +kernel
theorem dX0_letIn_15 : decode cX0_letIn 15 = .ok (.iload_n 1, 1) := by decide +kernel
theorem dX0_letIn_16 : decode cX0_letIn 16 = .ok (.iconst 2, 1) := by decide +kernel
theorem dX0_letIn_17 : decode cX0_letIn 17 = .ok (.iastore, 1) := by decide +kernel
theorem dX0_letIn_18 : decode cX0_letIn 18 = .ok (.return_, 1) := by decide +kernel
theorem dX0_letIn_19 : decode cX0_letIn 19 = .ok (.aload_n 0, 1) := by decide +kernel
theorem dX0_letIn_20 : decode cX0_letIn 20 = .ok (.iconst 1, 1) := by decide +kernel
theorem dX0_letIn_21 : decode cX0_letIn 21 = .ok (.invokevirtual 63, 3) := by decide +kernel
theorem dX0_letIn_24 : decode cX0_letIn 24 = .ok (.invokestatic 67, 3) := by decide +kernel
theorem dX0_letIn_27 : decode cX0_letIn 27 = .ok (.istore_n 3, 1) := by decide +kernel
theorem dX0_letIn_28 : decode cX0_letIn 28 = .ok (.aload_n 0, 1) := by decide +kernel
theorem dX0_letIn_29 : decode cX0_letIn 29 = .ok (.getfield 30, 3) := by decide +kernel
theorem dX0_letIn_32 : decode cX0_letIn 32 = .ok (.iload_n 1, 1) := by decide +kernel
theorem dX0_letIn_33 : decode cX0_letIn 33 = .ok (.aload_n 0, 1) := by decide +kernel
theorem dX0_letIn_34 : decode cX0_letIn 34 = .ok (.getfield 46, 3) := by decide +kernel
theorem dX0_letIn_37 : decode cX0_letIn 37 = .ok (.aload_n 0, 1) := by decide +kernel
theorem dX0_letIn_38 : decode cX0_letIn 38 = .ok (.iload_n 3, 1) := by decide +kernel
theorem dX0_letIn_39 : decode cX0_letIn 39 = .ok (.iload_n 1, 1) := by decide +kernel
theorem dX0_letIn_40 : decode cX0_letIn 40 = .ok (.iload_n 2, 1) := by decide +kernel
theorem dX0_letIn_41 : decode cX0_letIn 41 = .ok (.aload_n 0, 1) := by decide +kernel
theorem dX0_letIn_42 : decode cX0_letIn 42 = .ok (.getfield 46, 3) := by decide +kernel
theorem dX0_letIn_45 : decode cX0_letIn 45 = .ok (.invokevirtual 72, 3) := by decide +kernel
theorem dX0_letIn_48 : decode cX0_letIn 48 = .ok (.iadd, 1) := by decide +kernel
theorem dX0_letIn_49 : decode cX0_letIn 49 = .ok (.iastore, 1) := by decide +kernel
theorem dX0_letIn_50 : decode cX0_letIn 50 = .ok (.aload_n 0, 1) := by decide +kernel
theorem dX0_letIn_51 : decode cX0_letIn 51 = .ok (.getfield 27, 3) := by decide +kernel
theorem dX0_letIn_54 : decode cX0_letIn 54 = .ok (.iload_n 1, 1) := by decide +kernel
theorem dX0_letIn_55 : decode cX0_letIn 55 = .ok (.iconst 1, 1) := by decide +kernel
theorem dX0_letIn_56 : decode cX0_letIn 56 = .ok (.iastore, 1) := by decide +kernel
theorem dX0_letIn_57 : decode cX0_letIn 57 = .ok (.aload_n 0, 1) := by decide +kernel
theorem dX0_letIn_58 : decode cX0_letIn 58 = .ok (.dup, 1) := by decide +kernel
theorem dX0_letIn_59 : decode cX0_letIn 59 = .ok (.getfield 43, 3) := by decide +kernel
theorem dX0_letIn_62 : decode cX0_letIn 62 = .ok (.iconst 1, 1) := by decide +kernel
theorem dX0_letIn_63 : decode cX0_letIn 63 = .ok (.iload_n 2, 1) := by decide +kernel
theorem dX0_letIn_64 : decode cX0_letIn 64 = .ok (.ishl, 1) := by decide +kernel
theorem dX0_letIn_65 : decode cX0_letIn 65 = .ok (.ior, 1) := by decide +kernel
theorem dX0_letIn_66 : decode cX0_letIn 66 = .ok (.putfield 43, 3) := by decide +kernel
theorem dX0_letIn_69 : decode cX0_letIn 69 = .ok (.return_, 1) := by decide +kernel
theorem dX0_firstNotAsked_0 : decode cX0_firstNotAsked 0 = .ok (.iconst 0, 1) := by decide +kernel
theorem dX0_firstNotAsked_1 : decode cX0_firstNotAsked 1 = .ok (.istore_n 1, 1) := by decide +kernel
theorem dX0_firstNotAsked_2 : decode cX0_firstNotAsked 2 = .ok (.iload_n 1, 1) := by decide +kernel
theorem dX0_firstNotAsked_3 : decode cX0_firstNotAsked 3 = .ok (.aload_n 0, 1) := by decide +kernel
theorem dX0_firstNotAsked_4 : decode cX0_firstNotAsked 4 = .ok (.getfield 37, 3) := by decide +kernel
theorem dX0_firstNotAsked_7 : decode cX0_firstNotAsked 7 = .ok (.if_icmp .ge 19, 3) := by decide +kernel
theorem dX0_firstNotAsked_10 : decode cX0_firstNotAsked 10 = .ok (.aload_n 0, 1) := by decide +kernel
theorem dX0_firstNotAsked_11 : decode cX0_firstNotAsked 11 = .ok (.iload_n 1, 1) := by decide +kernel
theorem dX0_firstNotAsked_12 : decode cX0_firstNotAsked 12 = .ok (.invokevirtual 93, 3) := by decide +kernel
theorem dX0_firstNotAsked_15 : decode cX0_firstNotAsked 15 = .ok (.ifCond .ne 5, 3) := by decide +kernel
theorem dX0_firstNotAsked_18 : decode cX0_firstNotAsked 18 = .ok (.iload_n 1, 1) := by decide +kernel
theorem dX0_firstNotAsked_19 : decode cX0_firstNotAsked 19 = .ok (.ireturn, 1) := by decide +kernel
theorem dX0_firstNotAsked_20 : decode cX0_firstNotAsked 20 = .ok (.iinc 1 1, 3) := by decide +kernel
theorem dX0_firstNotAsked_23 : decode cX0_firstNotAsked 23 = .ok (.goto (-21), 3) := by decide +kernel
theorem dX0_firstNotAsked_26 : decode cX0_firstNotAsked 26 = .ok (.bipush (-4), 2) := by decide +kernel
theorem dX0_firstNotAsked_28 : decode cX0_firstNotAsked 28 = .ok (.ireturn, 1) := by decide +kernel
theorem dX0_drawQuestion_0 : decode cX0_drawQuestion 0 = .ok (.aload_n 0, 1) := by decide +kernel
theorem dX0_drawQuestion_1 : decode cX0_drawQuestion 1 = .ok (.aload_n 0, 1) := by decide +kernel
theorem dX0_drawQuestion_2 : decode cX0_drawQuestion 2 = .ok (.getfield 33, 3) := by decide +kernel
theorem dX0_drawQuestion_5 : decode cX0_drawQuestion 5 = .ok (.ldc 97, 2) := by decide +kernel
theorem dX0_drawQuestion_7 : decode cX0_drawQuestion 7 = .ok (.imul, 1) := by decide +kernel
theorem dX0_drawQuestion_8 : decode cX0_drawQuestion 8 = .ok (.sipush 12345, 3) := by decide +kernel
theorem dX0_drawQuestion_11 : decode cX0_drawQuestion 11 = .ok (.iadd, 1) := by decide +kernel
theorem dX0_drawQuestion_12 : decode cX0_drawQuestion 12 = .ok (.ldc 98, 2) := by decide +kernel
theorem dX0_drawQuestion_14 : decode cX0_drawQuestion 14 = .ok (.iand, 1) := by decide +kernel
theorem dX0_drawQuestion_15 : decode cX0_drawQuestion 15 = .ok (.putfield 33, 3) := by decide +kernel
theorem dX0_drawQuestion_18 : decode cX0_drawQuestion 18 = .ok (.aload_n 0, 1) := by decide +kernel
theorem dX0_drawQuestion_19 : decode cX0_drawQuestion 19 = .ok (.getfield 37, 3) := by decide +kernel
theorem dX0_drawQuestion_22 : decode cX0_drawQuestion 22 = .ok (.ifCond .le 32, 3) := by decide +kernel
theorem dX0_drawQuestion_25 : decode cX0_drawQuestion 25 = .ok (.aload_n 0, 1) := by decide +kernel
theorem dX0_drawQuestion_26 : decode cX0_drawQuestion 26 = .ok (.getfield 33, 3) := by decide +kernel
theorem dX0_drawQuestion_29 : decode cX0_drawQuestion 29 = .ok (.sipush 128, 3) := by decide +kernel
theorem dX0_drawQuestion_32 : decode cX0_drawQuestion 32 = .ok (.idiv, 1) := by decide +kernel
theorem dX0_drawQuestion_33 : decode cX0_drawQuestion 33 = .ok (.iconst 3, 1) := by decide +kernel
theorem dX0_drawQuestion_34 : decode cX0_drawQuestion 34 = .ok (.irem, 1) := by decide +kernel
theorem dX0_drawQuestion_35 : decode cX0_drawQuestion 35 = .ok (.ifCond .ne 19, 3) := by decide +kernel
theorem dX0_drawQuestion_38 : decode cX0_drawQuestion 38 = .ok (.aload_n 0, 1) := by decide +kernel
theorem dX0_drawQuestion_39 : decode cX0_drawQuestion 39 = .ok (.aload_n 0, 1) := by decide +kernel
theorem dX0_drawQuestion_40 : decode cX0_drawQuestion 40 = .ok (.getfield 33, 3) := by decide +kernel
theorem dX0_drawQuestion_43 : decode cX0_drawQuestion 43 = .ok (.ldc 99, 2) := by decide +kernel
theorem dX0_drawQuestion_45 : decode cX0_drawQuestion 45 = .ok (.idiv, 1) := by decide +kernel
theorem dX0_drawQuestion_46 : decode cX0_drawQuestion 46 = .ok (.aload_n 0, 1) := by decide +kernel
theorem dX0_drawQuestion_47 : decode cX0_drawQuestion 47 = .ok (.getfield 37, 3) := by decide +kernel
theorem dX0_drawQuestion_50 : decode cX0_drawQuestion 50 = .ok (.irem, 1) := by decide +kernel
theorem dX0_drawQuestion_51 : decode cX0_drawQuestion 51 = .ok (.invokevirtual 100, 3) := by decide +kernel
theorem dX0_drawQuestion_54 : decode cX0_drawQuestion 54 = .ok (.return_, 1) := by decide +kernel
theorem dX0_howManyLeaveNext_0 : decode cX0_howManyLeaveNext 0 = .ok (.iconst 0, 1) := by decide +kernel
theorem dX0_howManyLeaveNext_1 : decode cX0_howManyLeaveNext 1 = .ok (.istore_n 1, 1) := by decide +kernel
theorem dX0_howManyLeaveNext_2 : decode cX0_howManyLeaveNext 2 = .ok (.iconst 0, 1) := by decide +kernel
theorem dX0_howManyLeaveNext_3 : decode cX0_howManyLeaveNext 3 = .ok (.istore_n 2, 1) := by decide +kernel
theorem dX0_howManyLeaveNext_4 : decode cX0_howManyLeaveNext 4 = .ok (.iload_n 2, 1) := by decide +kernel
theorem dX0_howManyLeaveNext_5 : decode cX0_howManyLeaveNext 5 = .ok (.aload_n 0, 1) := by decide +kernel
theorem dX0_howManyLeaveNext_6 : decode cX0_howManyLeaveNext 6 = .ok (.getfield 40, 3) := by decide +kernel
theorem dX0_howManyLeaveNext_9 : decode cX0_howManyLeaveNext 9 = .ok (.if_icmp .ge 37, 3) := by decide +kernel
theorem dX0_howManyLeaveNext_12 : decode cX0_howManyLeaveNext 12 = .ok (.aload_n 0, 1) := by decide +kernel
theorem dX0_howManyLeaveNext_13 : decode cX0_howManyLeaveNext 13 = .ok (.getfield 27, 3) := by decide +kernel
theorem dX0_howManyLeaveNext_16 : decode cX0_howManyLeaveNext 16 = .ok (.iload_n 2, 1) := by decide +kernel
theorem dX0_howManyLeaveNext_17 : decode cX0_howManyLeaveNext 17 = .ok (.iaload, 1) := by decide +kernel
theorem dX0_howManyLeaveNext_18 : decode cX0_howManyLeaveNext 18 = .ok (.iconst 1, 1) := by decide +kernel
theorem dX0_howManyLeaveNext_19 : decode cX0_howManyLeaveNext 19 = .ok (.if_icmp .ne 21, 3) := by decide +kernel
theorem dX0_howManyLeaveNext_22 : decode cX0_howManyLeaveNext 22 = .ok (.aload_n 0, 1) := by decide +kernel
theorem dX0_howManyLeaveNext_23 : decode cX0_howManyLeaveNext 23 = .ok (.getfield 30, 3) := by decide +kernel
theorem dX0_howManyLeaveNext_26 : decode cX0_howManyLeaveNext 26 = .ok (.iload_n 2, 1) := by decide +kernel
theorem dX0_howManyLeaveNext_27 : decode cX0_howManyLeaveNext 27 = .ok (.iaload, 1) := by decide +kernel
theorem dX0_howManyLeaveNext_28 : decode cX0_howManyLeaveNext 28 = .ok (.aload_n 0, 1) := by decide +kernel
theorem dX0_howManyLeaveNext_29 : decode cX0_howManyLeaveNext 29 = .ok (.getfield 46, 3) := by decide +kernel
theorem dX0_howManyLeaveNext_32 : decode cX0_howManyLeaveNext 32 = .ok (.iconst 1, 1) := by decide +kernel
theorem dX0_howManyLeaveNext_33 : decode cX0_howManyLeaveNext 33 = .ok (.iadd, 1) := by decide +kernel
theorem dX0_howManyLeaveNext_34 : decode cX0_howManyLeaveNext 34 = .ok (.if_icmp .gt 6, 3) := by decide +kernel
theorem dX0_howManyLeaveNext_37 : decode cX0_howManyLeaveNext 37 = .ok (.iinc 1 1, 3) := by decide +kernel
theorem dX0_howManyLeaveNext_40 : decode cX0_howManyLeaveNext 40 = .ok (.iinc 2 1, 3) := by decide +kernel
theorem dX0_howManyLeaveNext_43 : decode cX0_howManyLeaveNext 43 = .ok (.goto (-39), 3) := by decide +kernel
theorem dX0_howManyLeaveNext_46 : decode cX0_howManyLeaveNext 46 = .ok (.iload_n 1, 1) := by decide +kernel
theorem dX0_howManyLeaveNext_47 : decode cX0_howManyLeaveNext 47 = .ok (.ireturn, 1) := by decide +kernel
end
section
theorem dX1_init_0 : decode cX1_init 0 = .ok (.aload_n 0, 1) := by decide +kernel
theorem dX1_init_1 : decode cX1_init 1 = .ok (.invokespecial 3, 3) := by decide +kernel
theorem dX1_init_4 : decode cX1_init 4 = .ok (.aload_n 0, 1) := by decide +kernel
theorem dX1_init_5 : decode cX1_init 5 = .ok (.new 9, 3) := by decide +kernel
theorem dX1_init_8 : decode cX1_init 8 = .ok (.dup, 1) := by decide +kernel
theorem dX1_init_9 : decode cX1_init 9 = .ok (.invokespecial 11, 3) := by decide +kernel
theorem dX1_init_12 : decode cX1_init 12 = .ok (.putfield 12, 3) := by decide +kernel
theorem dX1_init_15 : decode cX1_init 15 = .ok (.return_, 1) := by decide +kernel
theorem dX1_startFrom_0 : decode cX1_startFrom 0 = .ok (.aload_n 0, 1) := by decide +kernel
theorem dX1_startFrom_1 : decode cX1_startFrom 1 = .ok (.getfield 12, 3) := by decide +kernel
theorem dX1_startFrom_4 : decode cX1_startFrom 4 = .ok (.aload_n 1, 1) := by decide +kernel
theorem dX1_startFrom_5 : decode cX1_startFrom 5 = .ok (.invokevirtual 18, 3) := by decide +kernel
theorem dX1_startFrom_8 : decode cX1_startFrom 8 = .ok (.return_, 1) := by decide +kernel
theorem dX1_behind_0 : decode cX1_behind 0 = .ok (.aload_n 0, 1) := by decide +kernel
theorem dX1_behind_1 : decode cX1_behind 1 = .ok (.aload_n 1, 1) := by decide +kernel
theorem dX1_behind_2 : decode cX1_behind 2 = .ok (.invokevirtual 22, 3) := by decide +kernel
theorem dX1_behind_5 : decode cX1_behind 5 = .ok (.iconst 0, 1) := by decide +kernel
theorem dX1_behind_6 : decode cX1_behind 6 = .ok (.istore_n 3, 1) := by decide +kernel
theorem dX1_behind_7 : decode cX1_behind 7 = .ok (.iload_n 3, 1) := by decide +kernel
theorem dX1_behind_8 : decode cX1_behind 8 = .ok (.iload_n 2, 1) := by decide +kernel
theorem dX1_behind_9 : decode cX1_behind 9 = .ok (.if_icmp .ge 16, 3) := by decide +kernel
theorem dX1_behind_12 : decode cX1_behind 12 = .ok (.aload_n 0, 1) := by decide +kernel
theorem dX1_behind_13 : decode cX1_behind 13 = .ok (.getfield 12, 3) := by decide +kernel
theorem dX1_behind_16 : decode cX1_behind 16 = .ok (.invokevirtual 25, 3) := by decide +kernel
theorem dX1_behind_19 : decode cX1_behind 19 = .ok (.iinc 3 1, 3) := by decide +kernel
theorem dX1_behind_22 : decode cX1_behind 22 = .ok (.goto (-15), 3) := by decide +kernel
theorem dX1_behind_25 : decode cX1_behind 25 = .ok (.aload_n 0, 1) := by decide +kernel
theorem dX1_behind_26 : decode cX1_behind 26 = .ok (.getfield 12, 3) := by decide +kernel
theorem dX1_behind_29 : decode cX1_behind 29 = .ok (.areturn, 1) := by decide +kernel
theorem dX1_hoursTillOver_0 : decode cX1_hoursTillOver 0 = .ok (.iconst 0, 1) := by decide +kernel
theorem dX1_hoursTillOver_1 : decode cX1_hoursTillOver 1 = .ok (.istore_n 2, 1) := by decide +kernel
theorem dX1_hoursTillOver_2 : decode cX1_hoursTillOver 2 = .ok (.iload_n 2, 1) := by decide +kernel
theorem dX1_hoursTillOver_3 : decode cX1_hoursTillOver 3 = .ok (.bipush 100, 2) := by decide +kernel
theorem dX1_hoursTillOver_5 : decode cX1_hoursTillOver 5 = .ok (.if_icmp .gt 33, 3) := by decide +kernel
theorem dX1_hoursTillOver_8 : decode cX1_hoursTillOver 8 = .ok (.iload_n 1, 1) := by decide +kernel
theorem dX1_hoursTillOver_9 : decode cX1_hoursTillOver 9 = .ok (.aload_n 0, 1) := by decide +kernel
theorem dX1_hoursTillOver_10 : decode cX1_hoursTillOver 10 = .ok (.getfield 12, 3) := by decide +kernel
theorem dX1_hoursTillOver_13 : decode cX1_hoursTillOver 13 = .ok (.iconst 2, 1) := by decide +kernel
theorem dX1_hoursTillOver_14 : decode cX1_hoursTillOver 14 = .ok (.invokevirtual 28, 3) := by decide +kernel
theorem dX1_hoursTillOver_17 : decode cX1_hoursTillOver 17 = .ok (.iconst (-1), 1) := by decide +kernel
theorem dX1_hoursTillOver_18 : decode cX1_hoursTillOver 18 = .ok (.ixor, 1) := by decide +kernel
theorem dX1_hoursTillOver_19 : decode cX1_hoursTillOver 19 = .ok (.iand, 1) := by decide +kernel
theorem dX1_hoursTillOver_20 : decode cX1_hoursTillOver 20 = .ok (.ifCond .ne 5, 3) := by decide +kernel
theorem dX1_hoursTillOver_23 : decode cX1_hoursTillOver 23 = .ok (.iload_n 2, 1) := by decide +kernel
theorem dX1_hoursTillOver_24 : decode cX1_hoursTillOver 24 = .ok (.ireturn, 1) := by decide +kernel
theorem dX1_hoursTillOver_25 : decode cX1_hoursTillOver 25 = .ok (.aload_n 0, 1) := by decide +kernel
theorem dX1_hoursTillOver_26 : decode cX1_hoursTillOver 26 = .ok (.getfield 12, 3) := by decide +kernel
theorem dX1_hoursTillOver_29 : decode cX1_hoursTillOver 29 = .ok (.invokevirtual 25, 3) := by decide +kernel
theorem dX1_hoursTillOver_32 : decode cX1_hoursTillOver 32 = .ok (.iinc 2 1, 3) := by decide +kernel
theorem dX1_hoursTillOver_35 : decode cX1_hoursTillOver 35 = .ok (.goto (-33), 3) := by decide +kernel
theorem dX1_hoursTillOver_38 : decode cX1_hoursTillOver 38 = .ok (.bipush 101, 2) := by decide +kernel
theorem dX1_hoursTillOver_40 : decode cX1_hoursTillOver 40 = .ok (.ireturn, 1) := by decide +kernel
theorem dX1_howManyIn_0 : decode cX1_howManyIn 0 = .ok (.aload_n 0, 1) := by decide +kernel
theorem dX1_howManyIn_1 : decode cX1_howManyIn 1 = .ok (.getfield 12, 3) := by decide +kernel
theorem dX1_howManyIn_4 : decode cX1_howManyIn 4 = .ok (.iconst 1, 1) := by decide +kernel
theorem dX1_howManyIn_5 : decode cX1_howManyIn 5 = .ok (.invokevirtual 28, 3) := by decide +kernel
theorem dX1_howManyIn_8 : decode cX1_howManyIn 8 = .ok (.invokestatic 32, 3) := by decide +kernel
theorem dX1_howManyIn_11 : decode cX1_howManyIn 11 = .ok (.ireturn, 1) := by decide +kernel
theorem dX1_seekMost_0 : decode cX1_seekMost 0 = .ok (.aload_n 0, 1) := by decide +kernel
theorem dX1_seekMost_1 : decode cX1_seekMost 1 = .ok (.aload_n 1, 1) := by decide +kernel
theorem dX1_seekMost_2 : decode cX1_seekMost 2 = .ok (.invokevirtual 22, 3) := by decide +kernel
theorem dX1_seekMost_5 : decode cX1_seekMost 5 = .ok (.aload_n 0, 1) := by decide +kernel
theorem dX1_seekMost_6 : decode cX1_seekMost 6 = .ok (.aload_n 0, 1) := by decide +kernel
theorem dX1_seekMost_7 : decode cX1_seekMost 7 = .ok (.invokevirtual 37, 3) := by decide +kernel
theorem dX1_seekMost_10 : decode cX1_seekMost 10 = .ok (.putfield 41, 3) := by decide +kernel
theorem dX1_seekMost_13 : decode cX1_seekMost 13 = .ok (.aload_n 0, 1) := by decide +kernel
theorem dX1_seekMost_14 : decode cX1_seekMost 14 = .ok (.iconst 0, 1) := by decide +kernel
theorem dX1_seekMost_15 : decode cX1_seekMost 15 = .ok (.putfield 45, 3) := by decide +kernel
theorem dX1_seekMost_18 : decode cX1_seekMost 18 = .ok (.iconst 1, 1) := by decide +kernel
theorem dX1_seekMost_19 : decode cX1_seekMost 19 = .ok (.istore_n 2, 1) := by decide +kernel
theorem dX1_seekMost_20 : decode cX1_seekMost 20 = .ok (.iload_n 2, 1) := by decide +kernel
theorem dX1_seekMost_21 : decode cX1_seekMost 21 = .ok (.bipush 100, 2) := by decide +kernel
theorem dX1_seekMost_23 : decode cX1_seekMost 23 = .ok (.if_icmp .gt 40, 3) := by decide +kernel
theorem dX1_seekMost_26 : decode cX1_seekMost 26 = .ok (.aload_n 0, 1) := by decide +kernel
theorem dX1_seekMost_27 : decode cX1_seekMost 27 = .ok (.getfield 12, 3) := by decide +kernel
theorem dX1_seekMost_30 : decode cX1_seekMost 30 = .ok (.invokevirtual 25, 3) := by decide +kernel
theorem dX1_seekMost_33 : decode cX1_seekMost 33 = .ok (.aload_n 0, 1) := by decide +kernel
theorem dX1_seekMost_34 : decode cX1_seekMost 34 = .ok (.invokevirtual 37, 3) := by decide +kernel
theorem dX1_seekMost_37 : decode cX1_seekMost 37 = .ok (.aload_n 0, 1) := by decide +kernel
theorem dX1_seekMost_38 : decode cX1_seekMost 38 = .ok (.getfield 41, 3) := by decide +kernel
theorem dX1_seekMost_41 : decode cX1_seekMost 41 = .ok (.if_icmp .le 16, 3) := by decide +kernel
theorem dX1_seekMost_44 : decode cX1_seekMost 44 = .ok (.aload_n 0, 1) := by decide +kernel
theorem dX1_seekMost_45 : decode cX1_seekMost 45 = .ok (.aload_n 0, 1) := by decide +kernel
theorem dX1_seekMost_46 : decode cX1_seekMost 46 = .ok (.invokevirtual 37, 3) := by decide +kernel
theorem dX1_seekMost_49 : decode cX1_seekMost 49 = .ok (.putfield 41, 3) := by decide +kernel
theorem dX1_seekMost_52 : decode cX1_seekMost 52 = .ok (.aload_n 0, 1) := by decide +kernel
theorem dX1_seekMost_53 : decode cX1_seekMost 53 = .ok (.iload_n 2, 1) := by decide +kernel
theorem dX1_seekMost_54 : decode cX1_seekMost 54 = .ok (.putfield 45, 3) := by decide +kernel
theorem dX1_seekMost_57 : decode cX1_seekMost 57 = .ok (.iinc 2 1, 3) := by decide +kernel
theorem dX1_seekMost_60 : decode cX1_seekMost 60 = .ok (.goto (-40), 3) := by decide +kernel
theorem dX1_seekMost_63 : decode cX1_seekMost 63 = .ok (.return_, 1) := by decide +kernel
theorem dX1_seekTeaching_0 : decode cX1_seekTeaching 0 = .ok (.aload_n 0, 1) := by decide +kernel
theorem dX1_seekTeaching_1 : decode cX1_seekTeaching 1 = .ok (.bipush (-4), 2) := by decide +kernel
theorem dX1_seekTeaching_3 : decode cX1_seekTeaching 3 = .ok (.putfield 41, 3) := by decide +kernel
theorem dX1_seekTeaching_6 : decode cX1_seekTeaching 6 = .ok (.iconst 0, 1) := by decide +kernel
theorem dX1_seekTeaching_7 : decode cX1_seekTeaching 7 = .ok (.istore_n 2, 1) := by decide +kernel
theorem dX1_seekTeaching_8 : decode cX1_seekTeaching 8 = .ok (.iload_n 2, 1) := by decide +kernel
theorem dX1_seekTeaching_9 : decode cX1_seekTeaching 9 = .ok (.aload_n 1, 1) := by decide +kernel
theorem dX1_seekTeaching_10 : decode cX1_seekTeaching 10 = .ok (.getfield 48, 3) := by decide +kernel
theorem dX1_seekTeaching_13 : decode cX1_seekTeaching 13 = .ok (.if_icmp .ge 83, 3) := by decide +kernel
theorem dX1_seekTeaching_16 : decode cX1_seekTeaching 16 = .ok (.iconst 0, 1) := by decide +kernel
theorem dX1_seekTeaching_17 : decode cX1_seekTeaching 17 = .ok (.istore_n 3, 1) := by decide +kernel
theorem dX1_seekTeaching_18 : decode cX1_seekTeaching 18 = .ok (.iload_n 3, 1) := by decide +kernel
theorem dX1_seekTeaching_19 : decode cX1_seekTeaching 19 = .ok (.bipush 8, 2) := by decide +kernel
theorem dX1_seekTeaching_21 : decode cX1_seekTeaching 21 = .ok (.if_icmp .ge 69, 3) := by decide +kernel
theorem dX1_seekTeaching_24 : decode cX1_seekTeaching 24 = .ok (.aload_n 1, 1) := by decide +kernel
theorem dX1_seekTeaching_25 : decode cX1_seekTeaching 25 = .ok (.getfield 51, 3) := by decide +kernel
theorem dX1_seekTeaching_28 : decode cX1_seekTeaching 28 = .ok (.iload_n 2, 1) := by decide +kernel
theorem dX1_seekTeaching_29 : decode cX1_seekTeaching 29 = .ok (.iaload, 1) := by decide +kernel
theorem dX1_seekTeaching_30 : decode cX1_seekTeaching 30 = .ok (.ifCond .ne 54, 3) := by decide +kernel
theorem dX1_seekTeaching_33 : decode cX1_seekTeaching 33 = .ok (.aload_n 1, 1) := by decide +kernel
theorem dX1_seekTeaching_34 : decode cX1_seekTeaching 34 = .ok (.getfield 55, 3) := by decide +kernel
theorem dX1_seekTeaching_37 : decode cX1_seekTeaching 37 = .ok (.iload_n 2, 1) := by decide +kernel
theorem dX1_seekTeaching_38 : decode cX1_seekTeaching 38 = .ok (.iaload, 1) := by decide +kernel
theorem dX1_seekTeaching_39 : decode cX1_seekTeaching 39 = .ok (.iload_n 3, 1) := by decide +kernel
theorem dX1_seekTeaching_40 : decode cX1_seekTeaching 40 = .ok (.invokestatic 58, 3) := by decide +kernel
theorem dX1_seekTeaching_43 : decode cX1_seekTeaching 43 = .ok (.ifCond .ne 41, 3) := by decide +kernel
theorem dX1_seekTeaching_46 : decode cX1_seekTeaching 46 = .ok (.aload_n 0, 1) := by decide +kernel
theorem dX1_seekTeaching_47 : decode cX1_seekTeaching 47 = .ok (.aload_n 1, 1) := by decide +kernel
theorem dX1_seekTeaching_48 : decode cX1_seekTeaching 48 = .ok (.invokevirtual 22, 3) := by decide +kernel
theorem dX1_seekTeaching_51 : decode cX1_seekTeaching 51 = .ok (.aload_n 0, 1) := by decide +kernel
theorem dX1_seekTeaching_52 : decode cX1_seekTeaching 52 = .ok (.getfield 12, 3) := by decide +kernel
theorem dX1_seekTeaching_55 : decode cX1_seekTeaching 55 = .ok (.getfield 55, 3) := by decide +kernel
theorem dX1_seekTeaching_58 : decode cX1_seekTeaching 58 = .ok (.iload_n 2, 1) := by decide +kernel
theorem dX1_seekTeaching_59 : decode cX1_seekTeaching 59 = .ok (.dup2, 1) := by decide +kernel
theorem dX1_seekTeaching_60 : decode cX1_seekTeaching 60 = .ok (.iaload, 1) := by decide +kernel
theorem dX1_seekTeaching_61 : decode cX1_seekTeaching 61 = .ok (.iconst 1, 1) := by decide +kernel
theorem dX1_seekTeaching_62 : decode cX1_seekTeaching 62 = .ok (.iload_n 3, 1) := by decide +kernel
theorem dX1_seekTeaching_63 : decode cX1_seekTeaching 63 = .ok (.ishl, 1) := by decide +kernel
theorem dX1_seekTeaching_64 : decode cX1_seekTeaching 64 = .ok (.ior, 1) := by decide +kernel
theorem dX1_seekTeaching_65 : decode cX1_seekTeaching 65 = .ok (.iastore, 1) := by decide +kernel
theorem dX1_seekTeaching_66 : decode cX1_seekTeaching 66 = .ok (.aload_n 0, 1) := by decide +kernel
theorem dX1_seekTeaching_67 : decode cX1_seekTeaching 67 = .ok (.bipush 10, 2) := by decide +kernel
theorem dX1_seekTeaching_69 : decode cX1_seekTeaching 69 = .ok (.iload_n 2, 1) := by decide +kernel
theorem dX1_seekTeaching_70 : decode cX1_seekTeaching 70 = .ok (.imul, 1) := by decide +kernel
theorem dX1_seekTeaching_71 : decode cX1_seekTeaching 71 = .ok (.iload_n 3, 1) := by decide +kernel
theorem dX1_seekTeaching_72 : decode cX1_seekTeaching 72 = .ok (.iadd, 1) := by decide +kernel
theorem dX1_seekTeaching_73 : decode cX1_seekTeaching 73 = .ok (.aload_n 0, 1) := by decide +kernel
theorem dX1_seekTeaching_74 : decode cX1_seekTeaching 74 = .ok (.aload_n 1, 1) := by decide +kernel
theorem dX1_seekTeaching_75 : decode cX1_seekTeaching 75 = .ok (.invokevirtual 62, 3) := by decide +kernel
theorem dX1_seekTeaching_78 : decode cX1_seekTeaching 78 = .ok (.invokevirtual 65, 3) := by decide +kernel
theorem dX1_seekTeaching_81 : decode cX1_seekTeaching 81 = .ok (.invokevirtual 68, 3) := by decide +kernel
theorem dX1_seekTeaching_84 : decode cX1_seekTeaching 84 = .ok (.iinc 3 1, 3) := by decide +kernel
theorem dX1_seekTeaching_87 : decode cX1_seekTeaching 87 = .ok (.goto (-69), 3) := by decide +kernel
theorem dX1_seekTeaching_90 : decode cX1_seekTeaching 90 = .ok (.iinc 2 1, 3) := by decide +kernel
theorem dX1_seekTeaching_93 : decode cX1_seekTeaching 93 = .ok (.goto (-85), 3) := by decide +kernel
theorem dX1_seekTeaching_96 : decode cX1_seekTeaching 96 = .ok (.return_, 1) := by decide +kernel
theorem dX1_seekSpare_0 : decode cX1_seekSpare 0 = .ok (.aload_n 0, 1) := by decide +kernel
theorem dX1_seekSpare_1 : decode cX1_seekSpare 1 = .ok (.bipush (-4), 2) := by decide +kernel
theorem dX1_seekSpare_3 : decode cX1_seekSpare 3 = .ok (.putfield 41, 3) := by decide +kernel
theorem dX1_seekSpare_6 : decode cX1_seekSpare 6 = .ok (.iconst 0, 1) := by decide +kernel
theorem dX1_seekSpare_7 : decode cX1_seekSpare 7 = .ok (.istore_n 2, 1) := by decide +kernel
theorem dX1_seekSpare_8 : decode cX1_seekSpare 8 = .ok (.iload_n 2, 1) := by decide +kernel
theorem dX1_seekSpare_9 : decode cX1_seekSpare 9 = .ok (.aload_n 1, 1) := by decide +kernel
theorem dX1_seekSpare_10 : decode cX1_seekSpare 10 = .ok (.getfield 72, 3) := by decide +kernel
theorem dX1_seekSpare_13 : decode cX1_seekSpare 13 = .ok (.if_icmp .ge 50, 3) := by decide +kernel
theorem dX1_seekSpare_16 : decode cX1_seekSpare 16 = .ok (.aload_n 1, 1) := by decide +kernel
theorem dX1_seekSpare_17 : decode cX1_seekSpare 17 = .ok (.iload_n 2, 1) := by decide +kernel
theorem dX1_seekSpare_18 : decode cX1_seekSpare 18 = .ok (.invokevirtual 75, 3) := by decide +kernel
theorem dX1_seekSpare_21 : decode cX1_seekSpare 21 = .ok (.ifCond .ne 36, 3) := by decide +kernel
theorem dX1_seekSpare_24 : decode cX1_seekSpare 24 = .ok (.aload_n 0, 1) := by decide +kernel
theorem dX1_seekSpare_25 : decode cX1_seekSpare 25 = .ok (.aload_n 1, 1) := by decide +kernel
theorem dX1_seekSpare_26 : decode cX1_seekSpare 26 = .ok (.invokevirtual 22, 3) := by decide +kernel
theorem dX1_seekSpare_29 : decode cX1_seekSpare 29 = .ok (.aload_n 0, 1) := by decide +kernel
theorem dX1_seekSpare_30 : decode cX1_seekSpare 30 = .ok (.getfield 12, 3) := by decide +kernel
theorem dX1_seekSpare_33 : decode cX1_seekSpare 33 = .ok (.dup, 1) := by decide +kernel
theorem dX1_seekSpare_34 : decode cX1_seekSpare 34 = .ok (.getfield 79, 3) := by decide +kernel
theorem dX1_seekSpare_37 : decode cX1_seekSpare 37 = .ok (.iconst 1, 1) := by decide +kernel
theorem dX1_seekSpare_38 : decode cX1_seekSpare 38 = .ok (.iload_n 2, 1) := by decide +kernel
theorem dX1_seekSpare_39 : decode cX1_seekSpare 39 = .ok (.ishl, 1) := by decide +kernel
theorem dX1_seekSpare_40 : decode cX1_seekSpare 40 = .ok (.ior, 1) := by decide +kernel
theorem dX1_seekSpare_41 : decode cX1_seekSpare 41 = .ok (.putfield 79, 3) := by decide +kernel
theorem dX1_seekSpare_44 : decode cX1_seekSpare 44 = .ok (.aload_n 0, 1) := by decide +kernel
theorem dX1_seekSpare_45 : decode cX1_seekSpare 45 = .ok (.iload_n 2, 1) := by decide +kernel
theorem dX1_seekSpare_46 : decode cX1_seekSpare 46 = .ok (.aload_n 0, 1) := by decide +kernel
theorem dX1_seekSpare_47 : decode cX1_seekSpare 47 = .ok (.aload_n 1, 1) := by decide +kernel
theorem dX1_seekSpare_48 : decode cX1_seekSpare 48 = .ok (.invokevirtual 62, 3) := by decide +kernel
theorem dX1_seekSpare_51 : decode cX1_seekSpare 51 = .ok (.invokevirtual 65, 3) := by decide +kernel
theorem dX1_seekSpare_54 : decode cX1_seekSpare 54 = .ok (.invokevirtual 68, 3) := by decide +kernel
theorem dX1_seekSpare_57 : decode cX1_seekSpare 57 = .ok (.iinc 2 1, 3) := by decide +kernel
theorem dX1_seekSpare_60 : decode cX1_seekSpare 60 = .ok (.goto (-52), 3) := by decide +kernel
theorem dX1_seekSpare_63 : decode cX1_seekSpare 63 = .ok (.return_, 1) := by decide +kernel
theorem dX1_keepIfSooner_0 : decode cX1_keepIfSooner 0 = .ok (.aload_n 0, 1) := by decide +kernel
theorem dX1_keepIfSooner_1 : decode cX1_keepIfSooner 1 = .ok (.getfield 41, 3) := by decide +kernel
theorem dX1_keepIfSooner_4 : decode cX1_keepIfSooner 4 = .ok (.bipush (-4), 2) := by decide +kernel
theorem dX1_keepIfSooner_6 : decode cX1_keepIfSooner 6 = .ok (.if_icmp .eq 11, 3) := by decide +kernel
theorem dX1_keepIfSooner_9 : decode cX1_keepIfSooner 9 = .ok (.iload_n 2, 1) := by decide +kernel
theorem dX1_keepIfSooner_10 : decode cX1_keepIfSooner 10 = .ok (.aload_n 0, 1) := by decide +kernel
theorem dX1_keepIfSooner_11 : decode cX1_keepIfSooner 11 = .ok (.getfield 45, 3) := by decide +kernel
theorem dX1_keepIfSooner_14 : decode cX1_keepIfSooner 14 = .ok (.if_icmp .ge 13, 3) := by decide +kernel
theorem dX1_keepIfSooner_17 : decode cX1_keepIfSooner 17 = .ok (.aload_n 0, 1) := by decide +kernel
theorem dX1_keepIfSooner_18 : decode cX1_keepIfSooner 18 = .ok (.iload_n 1, 1) := by decide +kernel
theorem dX1_keepIfSooner_19 : decode cX1_keepIfSooner 19 = .ok (.putfield 41, 3) := by decide +kernel
theorem dX1_keepIfSooner_22 : decode cX1_keepIfSooner 22 = .ok (.aload_n 0, 1) := by decide +kernel
theorem dX1_keepIfSooner_23 : decode cX1_keepIfSooner 23 = .ok (.iload_n 2, 1) := by decide +kernel
theorem dX1_keepIfSooner_24 : decode cX1_keepIfSooner 24 = .ok (.putfield 45, 3) := by decide +kernel
theorem dX1_keepIfSooner_27 : decode cX1_keepIfSooner 27 = .ok (.return_, 1) := by decide +kernel
theorem dX1_seekComing_0 : decode cX1_seekComing 0 = .ok (.aload_n 0, 1) := by decide +kernel
theorem dX1_seekComing_1 : decode cX1_seekComing 1 = .ok (.bipush (-4), 2) := by decide +kernel
theorem dX1_seekComing_3 : decode cX1_seekComing 3 = .ok (.putfield 41, 3) := by decide +kernel
theorem dX1_seekComing_6 : decode cX1_seekComing 6 = .ok (.aload_n 0, 1) := by decide +kernel
theorem dX1_seekComing_7 : decode cX1_seekComing 7 = .ok (.bipush 100, 2) := by decide +kernel
theorem dX1_seekComing_9 : decode cX1_seekComing 9 = .ok (.putfield 45, 3) := by decide +kernel
theorem dX1_seekComing_12 : decode cX1_seekComing 12 = .ok (.aload_n 1, 1) := by decide +kernel
theorem dX1_seekComing_13 : decode cX1_seekComing 13 = .ok (.getfield 51, 3) := by decide +kernel
theorem dX1_seekComing_16 : decode cX1_seekComing 16 = .ok (.iload_n 2, 1) := by decide +kernel
theorem dX1_seekComing_17 : decode cX1_seekComing 17 = .ok (.iaload, 1) := by decide +kernel
theorem dX1_seekComing_18 : decode cX1_seekComing 18 = .ok (.ifCond .eq 4, 3) := by decide +kernel
theorem dX1_seekComing_21 : decode cX1_seekComing 21 = .ok (.return_, 1) := by decide +kernel
theorem dX1_seekComing_22 : decode cX1_seekComing 22 = .ok (.aload_n 1, 1) := by decide +kernel
theorem dX1_seekComing_23 : decode cX1_seekComing 23 = .ok (.getfield 82, 3) := by decide +kernel
theorem dX1_seekComing_26 : decode cX1_seekComing 26 = .ok (.istore_n 3, 1) := by decide +kernel
theorem dX1_seekComing_27 : decode cX1_seekComing 27 = .ok (.iload_n 3, 1) := by decide +kernel
theorem dX1_seekComing_28 : decode cX1_seekComing 28 = .ok (.bipush 40, 2) := by decide +kernel
theorem dX1_seekComing_30 : decode cX1_seekComing 30 = .ok (.if_icmp .gt 53, 3) := by decide +kernel
theorem dX1_seekComing_33 : decode cX1_seekComing 33 = .ok (.aload_n 0, 1) := by decide +kernel
theorem dX1_seekComing_34 : decode cX1_seekComing 34 = .ok (.aload_n 1, 1) := by decide +kernel
theorem dX1_seekComing_35 : decode cX1_seekComing 35 = .ok (.invokevirtual 22, 3) := by decide +kernel
theorem dX1_seekComing_38 : decode cX1_seekComing 38 = .ok (.aload_n 0, 1) := by decide +kernel
theorem dX1_seekComing_39 : decode cX1_seekComing 39 = .ok (.getfield 12, 3) := by decide +kernel
theorem dX1_seekComing_42 : decode cX1_seekComing 42 = .ok (.getfield 85, 3) := by decide +kernel
theorem dX1_seekComing_45 : decode cX1_seekComing 45 = .ok (.iload_n 2, 1) := by decide +kernel
theorem dX1_seekComing_46 : decode cX1_seekComing 46 = .ok (.iload_n 3, 1) := by decide +kernel
theorem dX1_seekComing_47 : decode cX1_seekComing 47 = .ok (.iastore, 1) := by decide +kernel
theorem dX1_seekComing_48 : decode cX1_seekComing 48 = .ok (.aload_n 0, 1) := by decide +kernel
theorem dX1_seekComing_49 : decode cX1_seekComing 49 = .ok (.iconst 1, 1) := by decide +kernel
theorem dX1_seekComing_50 : decode cX1_seekComing 50 = .ok (.iload_n 2, 1) := by decide +kernel
theorem dX1_seekComing_51 : decode cX1_seekComing 51 = .ok (.ishl, 1) := by decide +kernel
theorem dX1_seekComing_52 : decode cX1_seekComing 52 = .ok (.invokevirtual 65, 3) := by decide +kernel
theorem dX1_seekComing_55 : decode cX1_seekComing 55 = .ok (.istore 4, 2) := by decide +kernel
theorem dX1_seekComing_57 : decode cX1_seekComing 57 = .ok (.iload 4, 2) := by decide +kernel
theorem dX1_seekComing_59 : decode cX1_seekComing 59 = .ok (.aload_n 0, 1) := by decide +kernel
theorem dX1_seekComing_60 : decode cX1_seekComing 60 = .ok (.getfield 45, 3) := by decide +kernel
theorem dX1_seekComing_63 : decode cX1_seekComing 63 = .ok (.if_icmp .gt 14, 3) := by decide +kernel
theorem dX1_seekComing_66 : decode cX1_seekComing 66 = .ok (.aload_n 0, 1) := by decide +kernel
theorem dX1_seekComing_67 : decode cX1_seekComing 67 = .ok (.iload_n 3, 1) := by decide +kernel
theorem dX1_seekComing_68 : decode cX1_seekComing 68 = .ok (.putfield 41, 3) := by decide +kernel
theorem dX1_seekComing_71 : decode cX1_seekComing 71 = .ok (.aload_n 0, 1) := by decide +kernel
theorem dX1_seekComing_72 : decode cX1_seekComing 72 = .ok (.iload 4, 2) := by decide +kernel
theorem dX1_seekComing_74 : decode cX1_seekComing 74 = .ok (.putfield 45, 3) := by decide +kernel
theorem dX1_seekComing_77 : decode cX1_seekComing 77 = .ok (.iinc 3 1, 3) := by decide +kernel
theorem dX1_seekComing_80 : decode cX1_seekComing 80 = .ok (.goto (-53), 3) := by decide +kernel
theorem dX1_seekComing_83 : decode cX1_seekComing 83 = .ok (.return_, 1) := by decide +kernel
theorem dX1_kindsThatFit_0 : decode cX1_kindsThatFit 0 = .ok (.iconst 0, 1) := by decide +kernel
theorem dX1_kindsThatFit_1 : decode cX1_kindsThatFit 1 = .ok (.istore 6, 2) := by decide +kernel
theorem dX1_kindsThatFit_3 : decode cX1_kindsThatFit 3 = .ok (.iconst 0, 1) := by decide +kernel
theorem dX1_kindsThatFit_4 : decode cX1_kindsThatFit 4 = .ok (.istore 7, 2) := by decide +kernel
theorem dX1_kindsThatFit_6 : decode cX1_kindsThatFit 6 = .ok (.iload 7, 2) := by decide +kernel
theorem dX1_kindsThatFit_8 : decode cX1_kindsThatFit 8 = .ok (.iconst 5, 1) := by decide +kernel
theorem dX1_kindsThatFit_9 : decode cX1_kindsThatFit 9 = .ok (.if_icmp .ge 46, 3) := by decide +kernel
theorem dX1_kindsThatFit_12 : decode cX1_kindsThatFit 12 = .ok (.aload_n 0, 1) := by decide +kernel
theorem dX1_kindsThatFit_13 : decode cX1_kindsThatFit 13 = .ok (.aload_n 1, 1) := by decide +kernel
theorem dX1_kindsThatFit_14 : decode cX1_kindsThatFit 14 = .ok (.invokevirtual 22, 3) := by decide +kernel
theorem dX1_kindsThatFit_17 : decode cX1_kindsThatFit 17 = .ok (.aload_n 0, 1) := by decide +kernel
theorem dX1_kindsThatFit_18 : decode cX1_kindsThatFit 18 = .ok (.getfield 12, 3) := by decide +kernel
theorem dX1_kindsThatFit_21 : decode cX1_kindsThatFit 21 = .ok (.getfield 88, 3) := by decide +kernel
theorem dX1_kindsThatFit_24 : decode cX1_kindsThatFit 24 = .ok (.iload_n 2, 1) := by decide +kernel
theorem dX1_kindsThatFit_25 : decode cX1_kindsThatFit 25 = .ok (.iload 7, 2) := by decide +kernel
theorem dX1_kindsThatFit_27 : decode cX1_kindsThatFit 27 = .ok (.iastore, 1) := by decide +kernel
theorem dX1_kindsThatFit_28 : decode cX1_kindsThatFit 28 = .ok (.aload_n 0, 1) := by decide +kernel
theorem dX1_kindsThatFit_29 : decode cX1_kindsThatFit 29 = .ok (.aload_n 3, 1) := by decide +kernel
theorem dX1_kindsThatFit_30 : decode cX1_kindsThatFit 30 = .ok (.iload 4, 2) := by decide +kernel
theorem dX1_kindsThatFit_32 : decode cX1_kindsThatFit 32 = .ok (.iload 5, 2) := by decide +kernel
theorem dX1_kindsThatFit_34 : decode cX1_kindsThatFit 34 = .ok (.invokevirtual 91, 3) := by decide +kernel
theorem dX1_kindsThatFit_37 : decode cX1_kindsThatFit 37 = .ok (.ifCond .eq 12, 3) := by decide +kernel
theorem dX1_kindsThatFit_40 : decode cX1_kindsThatFit 40 = .ok (.iload 6, 2) := by decide +kernel
theorem dX1_kindsThatFit_42 : decode cX1_kindsThatFit 42 = .ok (.iconst 1, 1) := by decide +kernel
theorem dX1_kindsThatFit_43 : decode cX1_kindsThatFit 43 = .ok (.iload 7, 2) := by decide +kernel
theorem dX1_kindsThatFit_45 : decode cX1_kindsThatFit 45 = .ok (.ishl, 1) := by decide +kernel
theorem dX1_kindsThatFit_46 : decode cX1_kindsThatFit 46 = .ok (.ior, 1) := by decide +kernel
theorem dX1_kindsThatFit_47 : decode cX1_kindsThatFit 47 = .ok (.istore 6, 2) := by decide +kernel
theorem dX1_kindsThatFit_49 : decode cX1_kindsThatFit 49 = .ok (.iinc 7 1, 3) := by decide +kernel
theorem dX1_kindsThatFit_52 : decode cX1_kindsThatFit 52 = .ok (.goto (-46), 3) := by decide +kernel
theorem dX1_kindsThatFit_55 : decode cX1_kindsThatFit 55 = .ok (.iload 6, 2) := by decide +kernel
theorem dX1_kindsThatFit_57 : decode cX1_kindsThatFit 57 = .ok (.ireturn, 1) := by decide +kernel
theorem dX1_seekKnowledge_0 : decode cX1_seekKnowledge 0 = .ok (.aload_n 0, 1) := by decide +kernel
theorem dX1_seekKnowledge_1 : decode cX1_seekKnowledge 1 = .ok (.bipush (-4), 2) := by decide +kernel
theorem dX1_seekKnowledge_3 : decode cX1_seekKnowledge 3 = .ok (.putfield 41, 3) := by decide +kernel
theorem dX1_seekKnowledge_6 : decode cX1_seekKnowledge 6 = .ok (.aload_n 0, 1) := by decide +kernel
theorem dX1_seekKnowledge_7 : decode cX1_seekKnowledge 7 = .ok (.iconst 0, 1) := by decide +kernel
theorem dX1_seekKnowledge_8 : decode cX1_seekKnowledge 8 = .ok (.putfield 95, 3) := by decide +kernel
theorem dX1_seekKnowledge_11 : decode cX1_seekKnowledge 11 = .ok (.iconst 0, 1) := by decide +kernel
theorem dX1_seekKnowledge_12 : decode cX1_seekKnowledge 12 = .ok (.istore 6, 2) := by decide +kernel
theorem dX1_seekKnowledge_14 : decode cX1_seekKnowledge 14 = .ok (.iload 6, 2) := by decide +kernel
theorem dX1_seekKnowledge_16 : decode cX1_seekKnowledge 16 = .ok (.sipush 255, 3) := by decide +kernel
theorem dX1_seekKnowledge_19 : decode cX1_seekKnowledge 19 = .ok (.if_icmp .gt 69, 3) := by decide +kernel
theorem dX1_seekKnowledge_22 : decode cX1_seekKnowledge 22 = .ok (.aload_n 0, 1) := by decide +kernel
theorem dX1_seekKnowledge_23 : decode cX1_seekKnowledge 23 = .ok (.aload_n 1, 1) := by decide +kernel
theorem dX1_seekKnowledge_24 : decode cX1_seekKnowledge 24 = .ok (.invokevirtual 22, 3) := by decide +kernel
theorem dX1_seekKnowledge_27 : decode cX1_seekKnowledge 27 = .ok (.aload_n 0, 1) := by decide +kernel
theorem dX1_seekKnowledge_28 : decode cX1_seekKnowledge 28 = .ok (.getfield 12, 3) := by decide +kernel
theorem dX1_seekKnowledge_31 : decode cX1_seekKnowledge 31 = .ok (.getfield 55, 3) := by decide +kernel
theorem dX1_seekKnowledge_34 : decode cX1_seekKnowledge 34 = .ok (.iload_n 2, 1) := by decide +kernel
theorem dX1_seekKnowledge_35 : decode cX1_seekKnowledge 35 = .ok (.iload 6, 2) := by decide +kernel
theorem dX1_seekKnowledge_37 : decode cX1_seekKnowledge 37 = .ok (.iastore, 1) := by decide +kernel
theorem dX1_seekKnowledge_38 : decode cX1_seekKnowledge 38 = .ok (.aload_n 0, 1) := by decide +kernel
theorem dX1_seekKnowledge_39 : decode cX1_seekKnowledge 39 = .ok (.aload_n 3, 1) := by decide +kernel
theorem dX1_seekKnowledge_40 : decode cX1_seekKnowledge 40 = .ok (.iload 4, 2) := by decide +kernel
theorem dX1_seekKnowledge_42 : decode cX1_seekKnowledge 42 = .ok (.iload 5, 2) := by decide +kernel
theorem dX1_seekKnowledge_44 : decode cX1_seekKnowledge 44 = .ok (.invokevirtual 91, 3) := by decide +kernel
theorem dX1_seekKnowledge_47 : decode cX1_seekKnowledge 47 = .ok (.ifCond .eq 35, 3) := by decide +kernel
theorem dX1_seekKnowledge_50 : decode cX1_seekKnowledge 50 = .ok (.aload_n 0, 1) := by decide +kernel
theorem dX1_seekKnowledge_51 : decode cX1_seekKnowledge 51 = .ok (.aload_n 0, 1) := by decide +kernel
theorem dX1_seekKnowledge_52 : decode cX1_seekKnowledge 52 = .ok (.getfield 41, 3) := by decide +kernel
theorem dX1_seekKnowledge_55 : decode cX1_seekKnowledge 55 = .ok (.bipush (-4), 2) := by decide +kernel
theorem dX1_seekKnowledge_57 : decode cX1_seekKnowledge 57 = .ok (.if_icmp .ne 8, 3) := by decide +kernel
theorem dX1_seekKnowledge_60 : decode cX1_seekKnowledge 60 = .ok (.iload 6, 2) := by decide +kernel
theorem dX1_seekKnowledge_62 : decode cX1_seekKnowledge 62 = .ok (.goto 7, 3) := by decide +kernel
theorem dX1_seekKnowledge_65 : decode cX1_seekKnowledge 65 = .ok (.aload_n 0, 1) := by decide +kernel
theorem dX1_seekKnowledge_66 : decode cX1_seekKnowledge 66 = .ok (.getfield 41, 3) := by decide +kernel
theorem dX1_seekKnowledge_69 : decode cX1_seekKnowledge 69 = .ok (.putfield 41, 3) := by decide +kernel
theorem dX1_seekKnowledge_72 : decode cX1_seekKnowledge 72 = .ok (.aload_n 0, 1) := by decide +kernel
theorem dX1_seekKnowledge_73 : decode cX1_seekKnowledge 73 = .ok (.dup, 1) := by decide +kernel
theorem dX1_seekKnowledge_74 : decode cX1_seekKnowledge 74 = .ok (.getfield 95, 3) := by decide +kernel
theorem dX1_seekKnowledge_77 : decode cX1_seekKnowledge 77 = .ok (.iconst 1, 1) := by decide +kernel
theorem dX1_seekKnowledge_78 : decode cX1_seekKnowledge 78 = .ok (.iadd, 1) := by decide +kernel
theorem dX1_seekKnowledge_79 : decode cX1_seekKnowledge 79 = .ok (.putfield 95, 3) := by decide +kernel
theorem dX1_seekKnowledge_82 : decode cX1_seekKnowledge 82 = .ok (.iinc 6 1, 3) := by decide +kernel
theorem dX1_seekKnowledge_85 : decode cX1_seekKnowledge 85 = .ok (.goto (-71), 3) := by decide +kernel
theorem dX1_seekKnowledge_88 : decode cX1_seekKnowledge 88 = .ok (.return_, 1) := by decide +kernel
theorem dX1_fits_0 : decode cX1_fits 0 = .ok (.iconst 0, 1) := by decide +kernel
theorem dX1_fits_1 : decode cX1_fits 1 = .ok (.istore 4, 2) := by decide +kernel
theorem dX1_fits_3 : decode cX1_fits 3 = .ok (.iload 4, 2) := by decide +kernel
theorem dX1_fits_5 : decode cX1_fits 5 = .ok (.iload_n 3, 1) := by decide +kernel
theorem dX1_fits_6 : decode cX1_fits 6 = .ok (.if_icmp .ge 36, 3) := by decide +kernel
theorem dX1_fits_9 : decode cX1_fits 9 = .ok (.aload_n 0, 1) := by decide +kernel
theorem dX1_fits_10 : decode cX1_fits 10 = .ok (.getfield 12, 3) := by decide +kernel
theorem dX1_fits_13 : decode cX1_fits 13 = .ok (.invokevirtual 25, 3) := by decide +kernel
theorem dX1_fits_16 : decode cX1_fits 16 = .ok (.aload_n 1, 1) := by decide +kernel
theorem dX1_fits_17 : decode cX1_fits 17 = .ok (.getfield 98, 3) := by decide +kernel
theorem dX1_fits_20 : decode cX1_fits 20 = .ok (.iload_n 2, 1) := by decide +kernel
theorem dX1_fits_21 : decode cX1_fits 21 = .ok (.iload 4, 2) := by decide +kernel
theorem dX1_fits_23 : decode cX1_fits 23 = .ok (.iadd, 1) := by decide +kernel
theorem dX1_fits_24 : decode cX1_fits 24 = .ok (.laload, 1) := by decide +kernel
theorem dX1_fits_25 : decode cX1_fits 25 = .ok (.aload_n 0, 1) := by decide +kernel
theorem dX1_fits_26 : decode cX1_fits 26 = .ok (.invokevirtual 37, 3) := by decide +kernel
theorem dX1_fits_29 : decode cX1_fits 29 = .ok (.i2l, 1) := by decide +kernel
theorem dX1_fits_30 : decode cX1_fits 30 = .ok (.lcmp, 1) := by decide +kernel
theorem dX1_fits_31 : decode cX1_fits 31 = .ok (.ifCond .eq 5, 3) := by decide +kernel
theorem dX1_fits_34 : decode cX1_fits 34 = .ok (.iconst 0, 1) := by decide +kernel
theorem dX1_fits_35 : decode cX1_fits 35 = .ok (.ireturn, 1) := by decide +kernel
theorem dX1_fits_36 : decode cX1_fits 36 = .ok (.iinc 4 1, 3) := by decide +kernel
theorem dX1_fits_39 : decode cX1_fits 39 = .ok (.goto (-36), 3) := by decide +kernel
theorem dX1_fits_42 : decode cX1_fits 42 = .ok (.iconst 1, 1) := by decide +kernel
theorem dX1_fits_43 : decode cX1_fits 43 = .ok (.ireturn, 1) := by decide +kernel
theorem dX1_writeFilm_0 : decode cX1_writeFilm 0 = .ok (.aload_n 0, 1) := by decide +kernel
theorem dX1_writeFilm_1 : decode cX1_writeFilm 1 = .ok (.aload_n 1, 1) := by decide +kernel
theorem dX1_writeFilm_2 : decode cX1_writeFilm 2 = .ok (.invokevirtual 22, 3) := by decide +kernel
theorem dX1_writeFilm_5 : decode cX1_writeFilm 5 = .ok (.iconst 0, 1) := by decide +kernel
theorem dX1_writeFilm_6 : decode cX1_writeFilm 6 = .ok (.istore 5, 2) := by decide +kernel
theorem dX1_writeFilm_8 : decode cX1_writeFilm 8 = .ok (.iload 5, 2) := by decide +kernel
theorem dX1_writeFilm_10 : decode cX1_writeFilm 10 = .ok (.iload 4, 2) := by decide +kernel
theorem dX1_writeFilm_12 : decode cX1_writeFilm 12 = .ok (.if_icmp .ge 29, 3) := by decide +kernel
theorem dX1_writeFilm_15 : decode cX1_writeFilm 15 = .ok (.aload_n 0, 1) := by decide +kernel
theorem dX1_writeFilm_16 : decode cX1_writeFilm 16 = .ok (.getfield 12, 3) := by decide +kernel
theorem dX1_writeFilm_19 : decode cX1_writeFilm 19 = .ok (.invokevirtual 25, 3) := by decide +kernel
theorem dX1_writeFilm_22 : decode cX1_writeFilm 22 = .ok (.aload_n 2, 1) := by decide +kernel
theorem dX1_writeFilm_23 : decode cX1_writeFilm 23 = .ok (.iload_n 3, 1) := by decide +kernel
theorem dX1_writeFilm_24 : decode cX1_writeFilm 24 = .ok (.iload 5, 2) := by decide +kernel
theorem dX1_writeFilm_26 : decode cX1_writeFilm 26 = .ok (.iadd, 1) := by decide +kernel
theorem dX1_writeFilm_27 : decode cX1_writeFilm 27 = .ok (.aload_n 0, 1) := by decide +kernel
theorem dX1_writeFilm_28 : decode cX1_writeFilm 28 = .ok (.invokevirtual 37, 3) := by decide +kernel
theorem dX1_writeFilm_31 : decode cX1_writeFilm 31 = .ok (.i2l, 1) := by decide +kernel
theorem dX1_writeFilm_32 : decode cX1_writeFilm 32 = .ok (.invokevirtual 104, 3) := by decide +kernel
theorem dX1_writeFilm_35 : decode cX1_writeFilm 35 = .ok (.iinc 5 1, 3) := by decide +kernel
theorem dX1_writeFilm_38 : decode cX1_writeFilm 38 = .ok (.goto (-30), 3) := by decide +kernel
theorem dX1_writeFilm_41 : decode cX1_writeFilm 41 = .ok (.return_, 1) := by decide +kernel
theorem dX2_init_0 : decode cX2_init 0 = .ok (.aload_n 0, 1) := by decide +kernel
theorem dX2_init_1 : decode cX2_init 1 = .ok (.invokespecial 3, 3) := by decide +kernel
theorem dX2_init_4 : decode cX2_init 4 = .ok (.aload_n 0, 1) := by decide +kernel
theorem dX2_init_5 : decode cX2_init 5 = .ok (.aload_n 1, 1) := by decide +kernel
theorem dX2_init_6 : decode cX2_init 6 = .ok (.putfield 9, 3) := by decide +kernel
theorem dX2_init_9 : decode cX2_init 9 = .ok (.aload_n 0, 1) := by decide +kernel
theorem dX2_init_10 : decode cX2_init 10 = .ok (.new 15, 3) := by decide +kernel
theorem dX2_init_13 : decode cX2_init 13 = .ok (.dup, 1) := by decide +kernel
theorem dX2_init_14 : decode cX2_init 14 = .ok (.invokespecial 17, 3) := by decide +kernel
theorem dX2_init_17 : decode cX2_init 17 = .ok (.putfield 18, 3) := by decide +kernel
theorem dX2_init_20 : decode cX2_init 20 = .ok (.return_, 1) := by decide +kernel
theorem dX2_readFord_0 : decode cX2_readFord 0 = .ok (.aload_n 0, 1) := by decide +kernel
theorem dX2_readFord_1 : decode cX2_readFord 1 = .ok (.iconst 0, 1) := by decide +kernel
theorem dX2_readFord_2 : decode cX2_readFord 2 = .ok (.putfield 22, 3) := by decide +kernel
theorem dX2_readFord_5 : decode cX2_readFord 5 = .ok (.aload_n 0, 1) := by decide +kernel
theorem dX2_readFord_6 : decode cX2_readFord 6 = .ok (.getfield 18, 3) := by decide +kernel
theorem dX2_readFord_9 : decode cX2_readFord 9 = .ok (.invokevirtual 26, 3) := by decide +kernel
theorem dX2_readFord_12 : decode cX2_readFord 12 = .ok (.aload_n 0, 1) := by decide +kernel
theorem dX2_readFord_13 : decode cX2_readFord 13 = .ok (.invokevirtual 29, 3) := by decide +kernel
theorem dX2_readFord_16 : decode cX2_readFord 16 = .ok (.ifCond .ne 5, 3) := by decide +kernel
theorem dX2_readFord_19 : decode cX2_readFord 19 = .ok (.iconst 0, 1) := by decide +kernel
theorem dX2_readFord_20 : decode cX2_readFord 20 = .ok (.ireturn, 1) := by decide +kernel
theorem dX2_readFord_21 : decode cX2_readFord 21 = .ok (.aload_n 0, 1) := by decide +kernel
theorem dX2_readFord_22 : decode cX2_readFord 22 = .ok (.bipush 59, 2) := by decide +kernel
theorem dX2_readFord_24 : decode cX2_readFord 24 = .ok (.invokevirtual 33, 3) := by decide +kernel
theorem dX2_readFord_27 : decode cX2_readFord 27 = .ok (.ifCond .eq 12, 3) := by decide +kernel
theorem dX2_readFord_30 : decode cX2_readFord 30 = .ok (.aload_n 0, 1) := by decide +kernel
theorem dX2_readFord_31 : decode cX2_readFord 31 = .ok (.invokevirtual 37, 3) := by decide +kernel
theorem dX2_readFord_34 : decode cX2_readFord 34 = .ok (.ifCond .ne 5, 3) := by decide +kernel
theorem dX2_readFord_37 : decode cX2_readFord 37 = .ok (.iconst 0, 1) := by decide +kernel
theorem dX2_readFord_38 : decode cX2_readFord 38 = .ok (.ireturn, 1) := by decide +kernel
theorem dX2_readFord_39 : decode cX2_readFord 39 = .ok (.aload_n 0, 1) := by decide +kernel
theorem dX2_readFord_40 : decode cX2_readFord 40 = .ok (.invokevirtual 40, 3) := by decide +kernel
theorem dX2_readFord_43 : decode cX2_readFord 43 = .ok (.ifCond .ne 7, 3) := by decide +kernel
theorem dX2_readFord_46 : decode cX2_readFord 46 = .ok (.iconst 1, 1) := by decide +kernel
theorem dX2_readFord_47 : decode cX2_readFord 47 = .ok (.goto 4, 3) := by decide +kernel
theorem dX2_readFord_50 : decode cX2_readFord 50 = .ok (.iconst 0, 1) := by decide +kernel
theorem dX2_readFord_51 : decode cX2_readFord 51 = .ok (.ireturn, 1) := by decide +kernel
theorem dX2_readQuestions_0 : decode cX2_readQuestions 0 = .ok (.iconst 0, 1) := by decide +kernel
theorem dX2_readQuestions_1 : decode cX2_readQuestions 1 = .ok (.istore_n 1, 1) := by decide +kernel
theorem dX2_readQuestions_2 : decode cX2_readQuestions 2 = .ok (.iload_n 1, 1) := by decide +kernel
theorem dX2_readQuestions_3 : decode cX2_readQuestions 3 = .ok (.bipush 8, 2) := by decide +kernel
theorem dX2_readQuestions_5 : decode cX2_readQuestions 5 = .ok (.if_icmp .ge 36, 3) := by decide +kernel
theorem dX2_readQuestions_8 : decode cX2_readQuestions 8 = .ok (.iload_n 1, 1) := by decide +kernel
theorem dX2_readQuestions_9 : decode cX2_readQuestions 9 = .ok (.ifCond .le 17, 3) := by decide +kernel
theorem dX2_readQuestions_12 : decode cX2_readQuestions 12 = .ok (.aload_n 0, 1) := by decide +kernel
theorem dX2_readQuestions_13 : decode cX2_readQuestions 13 = .ok (.invokevirtual 40, 3) := by decide +kernel
theorem dX2_readQuestions_16 : decode cX2_readQuestions 16 = .ok (.invokestatic 44, 3) := by decide +kernel
theorem dX2_readQuestions_19 : decode cX2_readQuestions 19 = .ok (.bipush (-4), 2) := by decide +kernel
theorem dX2_readQuestions_21 : decode cX2_readQuestions 21 = .ok (.if_icmp .ne 5, 3) := by decide +kernel
theorem dX2_readQuestions_24 : decode cX2_readQuestions 24 = .ok (.iconst 1, 1) := by decide +kernel
theorem dX2_readQuestions_25 : decode cX2_readQuestions 25 = .ok (.ireturn, 1) := by decide +kernel
theorem dX2_readQuestions_26 : decode cX2_readQuestions 26 = .ok (.aload_n 0, 1) := by decide +kernel
theorem dX2_readQuestions_27 : decode cX2_readQuestions 27 = .ok (.invokevirtual 48, 3) := by decide +kernel
theorem dX2_readQuestions_30 : decode cX2_readQuestions 30 = .ok (.ifCond .ne 5, 3) := by decide +kernel
theorem dX2_readQuestions_33 : decode cX2_readQuestions 33 = .ok (.iconst 0, 1) := by decide +kernel
theorem dX2_readQuestions_34 : decode cX2_readQuestions 34 = .ok (.ireturn, 1) := by decide +kernel
theorem dX2_readQuestions_35 : decode cX2_readQuestions 35 = .ok (.iinc 1 1, 3) := by decide +kernel
theorem dX2_readQuestions_38 : decode cX2_readQuestions 38 = .ok (.goto (-36), 3) := by decide +kernel
theorem dX2_readQuestions_41 : decode cX2_readQuestions 41 = .ok (.iconst 1, 1) := by decide +kernel
theorem dX2_readQuestions_42 : decode cX2_readQuestions 42 = .ok (.ireturn, 1) := by decide +kernel
theorem dX2_readQuestion_0 : decode cX2_readQuestion 0 = .ok (.aload_n 0, 1) := by decide +kernel
theorem dX2_readQuestion_1 : decode cX2_readQuestion 1 = .ok (.invokevirtual 40, 3) := by decide +kernel
theorem dX2_readQuestion_4 : decode cX2_readQuestion 4 = .ok (.invokestatic 44, 3) := by decide +kernel
theorem dX2_readQuestion_7 : decode cX2_readQuestion 7 = .ok (.istore_n 1, 1) := by decide +kernel
theorem dX2_readQuestion_8 : decode cX2_readQuestion 8 = .ok (.iload_n 1, 1) := by decide +kernel
theorem dX2_readQuestion_9 : decode cX2_readQuestion 9 = .ok (.bipush (-4), 2) := by decide +kernel
theorem dX2_readQuestion_11 : decode cX2_readQuestion 11 = .ok (.if_icmp .ne 5, 3) := by decide +kernel
theorem dX2_readQuestion_14 : decode cX2_readQuestion 14 = .ok (.iconst 0, 1) := by decide +kernel
theorem dX2_readQuestion_15 : decode cX2_readQuestion 15 = .ok (.ireturn, 1) := by decide +kernel
theorem dX2_readQuestion_16 : decode cX2_readQuestion 16 = .ok (.aload_n 0, 1) := by decide +kernel
theorem dX2_readQuestion_17 : decode cX2_readQuestion 17 = .ok (.dup, 1) := by decide +kernel
theorem dX2_readQuestion_18 : decode cX2_readQuestion 18 = .ok (.getfield 22, 3) := by decide +kernel
theorem dX2_readQuestion_21 : decode cX2_readQuestion 21 = .ok (.iconst 1, 1) := by decide +kernel
theorem dX2_readQuestion_22 : decode cX2_readQuestion 22 = .ok (.iadd, 1) := by decide +kernel
theorem dX2_readQuestion_23 : decode cX2_readQuestion 23 = .ok (.putfield 22, 3) := by decide +kernel
theorem dX2_readQuestion_26 : decode cX2_readQuestion 26 = .ok (.aload_n 0, 1) := by decide +kernel
theorem dX2_readQuestion_27 : decode cX2_readQuestion 27 = .ok (.invokevirtual 40, 3) := by decide +kernel
theorem dX2_readQuestion_30 : decode cX2_readQuestion 30 = .ok (.istore_n 2, 1) := by decide +kernel
theorem dX2_readQuestion_31 : decode cX2_readQuestion 31 = .ok (.iload_n 2, 1) := by decide +kernel
theorem dX2_readQuestion_32 : decode cX2_readQuestion 32 = .ok (.bipush 49, 2) := by decide +kernel
theorem dX2_readQuestion_34 : decode cX2_readQuestion 34 = .ok (.if_icmp .lt 9, 3) := by decide +kernel
theorem dX2_readQuestion_37 : decode cX2_readQuestion 37 = .ok (.iload_n 2, 1) := by decide +kernel
theorem dX2_readQuestion_38 : decode cX2_readQuestion 38 = .ok (.bipush 57, 2) := by decide +kernel
theorem dX2_readQuestion_40 : decode cX2_readQuestion 40 = .ok (.if_icmp .le 5, 3) := by decide +kernel
theorem dX2_readQuestion_43 : decode cX2_readQuestion 43 = .ok (.iconst 0, 1) := by decide +kernel
theorem dX2_readQuestion_44 : decode cX2_readQuestion 44 = .ok (.ireturn, 1) := by decide +kernel
theorem dX2_readQuestion_45 : decode cX2_readQuestion 45 = .ok (.aload_n 0, 1) := by decide +kernel
theorem dX2_readQuestion_46 : decode cX2_readQuestion 46 = .ok (.dup, 1) := by decide +kernel
theorem dX2_readQuestion_47 : decode cX2_readQuestion 47 = .ok (.getfield 22, 3) := by decide +kernel
theorem dX2_readQuestion_50 : decode cX2_readQuestion 50 = .ok (.iconst 1, 1) := by decide +kernel
theorem dX2_readQuestion_51 : decode cX2_readQuestion 51 = .ok (.iadd, 1) := by decide +kernel
theorem dX2_readQuestion_52 : decode cX2_readQuestion 52 = .ok (.putfield 22, 3) := by decide +kernel
theorem dX2_readQuestion_55 : decode cX2_readQuestion 55 = .ok (.aload_n 0, 1) := by decide +kernel
theorem dX2_readQuestion_56 : decode cX2_readQuestion 56 = .ok (.getfield 18, 3) := by decide +kernel
theorem dX2_readQuestion_59 : decode cX2_readQuestion 59 = .ok (.iload_n 1, 1) := by decide +kernel
theorem dX2_readQuestion_60 : decode cX2_readQuestion 60 = .ok (.iload_n 2, 1) := by decide +kernel
theorem dX2_readQuestion_61 : decode cX2_readQuestion 61 = .ok (.bipush 48, 2) := by decide +kernel
theorem dX2_readQuestion_63 : decode cX2_readQuestion 63 = .ok (.isub, 1) := by decide +kernel
theorem dX2_readQuestion_64 : decode cX2_readQuestion 64 = .ok (.invokevirtual 51, 3) := by decide +kernel
theorem dX2_readQuestion_67 : decode cX2_readQuestion 67 = .ok (.istore_n 3, 1) := by decide +kernel
theorem dX2_readQuestion_68 : decode cX2_readQuestion 68 = .ok (.aload_n 0, 1) := by decide +kernel
theorem dX2_readQuestion_69 : decode cX2_readQuestion 69 = .ok (.bipush 33, 2) := by decide +kernel
theorem dX2_readQuestion_71 : decode cX2_readQuestion 71 = .ok (.invokevirtual 33, 3) := by decide +kernel
theorem dX2_readQuestion_74 : decode cX2_readQuestion 74 = .ok (.ifCond .eq 18, 3) := by decide +kernel
theorem dX2_readQuestion_77 : decode cX2_readQuestion 77 = .ok (.aload_n 0, 1) := by decide +kernel
theorem dX2_readQuestion_78 : decode cX2_readQuestion 78 = .ok (.getfield 18, 3) := by decide +kernel
theorem dX2_readQuestion_81 : decode cX2_readQuestion 81 = .ok (.dup, 1) := by decide +kernel
theorem dX2_readQuestion_82 : decode cX2_readQuestion 82 = .ok (.getfield 55, 3) := by decide +kernel
theorem dX2_readQuestion_85 : decode cX2_readQuestion 85 = .ok (.iconst 1, 1) := by decide +kernel
theorem dX2_readQuestion_86 : decode cX2_readQuestion 86 = .ok (.iload_n 3, 1) := by decide +kernel
theorem dX2_readQuestion_87 : decode cX2_readQuestion 87 = .ok (.ishl, 1) := by decide +kernel
theorem dX2_readQuestion_88 : decode cX2_readQuestion 88 = .ok (.ior, 1) := by decide +kernel
theorem dX2_readQuestion_89 : decode cX2_readQuestion 89 = .ok (.putfield 55, 3) := by decide +kernel
theorem dX2_readQuestion_92 : decode cX2_readQuestion 92 = .ok (.iconst 1, 1) := by decide +kernel
theorem dX2_readQuestion_93 : decode cX2_readQuestion 93 = .ok (.ireturn, 1) := by decide +kernel
theorem dX2_readCrossers_0 : decode cX2_readCrossers 0 = .ok (.iconst 0, 1) := by decide +kernel
theorem dX2_readCrossers_1 : decode cX2_readCrossers 1 = .ok (.istore_n 1, 1) := by decide +kernel
theorem dX2_readCrossers_2 : decode cX2_readCrossers 2 = .ok (.iload_n 1, 1) := by decide +kernel
theorem dX2_readCrossers_3 : decode cX2_readCrossers 3 = .ok (.iconst 5, 1) := by decide +kernel
theorem dX2_readCrossers_4 : decode cX2_readCrossers 4 = .ok (.if_icmp .ge 33, 3) := by decide +kernel
theorem dX2_readCrossers_7 : decode cX2_readCrossers 7 = .ok (.iload_n 1, 1) := by decide +kernel
theorem dX2_readCrossers_8 : decode cX2_readCrossers 8 = .ok (.ifCond .le 14, 3) := by decide +kernel
theorem dX2_readCrossers_11 : decode cX2_readCrossers 11 = .ok (.aload_n 0, 1) := by decide +kernel
theorem dX2_readCrossers_12 : decode cX2_readCrossers 12 = .ok (.bipush 44, 2) := by decide +kernel
theorem dX2_readCrossers_14 : decode cX2_readCrossers 14 = .ok (.invokevirtual 33, 3) := by decide +kernel
theorem dX2_readCrossers_17 : decode cX2_readCrossers 17 = .ok (.ifCond .ne 5, 3) := by decide +kernel
theorem dX2_readCrossers_20 : decode cX2_readCrossers 20 = .ok (.iconst 1, 1) := by decide +kernel
theorem dX2_readCrossers_21 : decode cX2_readCrossers 21 = .ok (.ireturn, 1) := by decide +kernel
theorem dX2_readCrossers_22 : decode cX2_readCrossers 22 = .ok (.aload_n 0, 1) := by decide +kernel
theorem dX2_readCrossers_23 : decode cX2_readCrossers 23 = .ok (.invokevirtual 58, 3) := by decide +kernel
theorem dX2_readCrossers_26 : decode cX2_readCrossers 26 = .ok (.ifCond .ne 5, 3) := by decide +kernel
theorem dX2_readCrossers_29 : decode cX2_readCrossers 29 = .ok (.iconst 0, 1) := by decide +kernel
theorem dX2_readCrossers_30 : decode cX2_readCrossers 30 = .ok (.ireturn, 1) := by decide +kernel
theorem dX2_readCrossers_31 : decode cX2_readCrossers 31 = .ok (.iinc 1 1, 3) := by decide +kernel
theorem dX2_readCrossers_34 : decode cX2_readCrossers 34 = .ok (.goto (-32), 3) := by decide +kernel
theorem dX2_readCrossers_37 : decode cX2_readCrossers 37 = .ok (.iconst 1, 1) := by decide +kernel
theorem dX2_readCrossers_38 : decode cX2_readCrossers 38 = .ok (.ireturn, 1) := by decide +kernel
theorem dX2_readCrosser_0 : decode cX2_readCrosser 0 = .ok (.aload_n 0, 1) := by decide +kernel
theorem dX2_readCrosser_1 : decode cX2_readCrosser 1 = .ok (.invokevirtual 40, 3) := by decide +kernel
theorem dX2_readCrosser_4 : decode cX2_readCrosser 4 = .ok (.invokestatic 61, 3) := by decide +kernel
theorem dX2_readCrosser_7 : decode cX2_readCrosser 7 = .ok (.istore_n 1, 1) := by decide +kernel
theorem dX2_readCrosser_8 : decode cX2_readCrosser 8 = .ok (.iload_n 1, 1) := by decide +kernel
theorem dX2_readCrosser_9 : decode cX2_readCrosser 9 = .ok (.bipush (-4), 2) := by decide +kernel
theorem dX2_readCrosser_11 : decode cX2_readCrosser 11 = .ok (.if_icmp .ne 5, 3) := by decide +kernel
theorem dX2_readCrosser_14 : decode cX2_readCrosser 14 = .ok (.iconst 0, 1) := by decide +kernel
theorem dX2_readCrosser_15 : decode cX2_readCrosser 15 = .ok (.ireturn, 1) := by decide +kernel
theorem dX2_readCrosser_16 : decode cX2_readCrosser 16 = .ok (.aload_n 0, 1) := by decide +kernel
theorem dX2_readCrosser_17 : decode cX2_readCrosser 17 = .ok (.dup, 1) := by decide +kernel
theorem dX2_readCrosser_18 : decode cX2_readCrosser 18 = .ok (.getfield 22, 3) := by decide +kernel
theorem dX2_readCrosser_21 : decode cX2_readCrosser 21 = .ok (.iconst 1, 1) := by decide +kernel
theorem dX2_readCrosser_22 : decode cX2_readCrosser 22 = .ok (.iadd, 1) := by decide +kernel
theorem dX2_readCrosser_23 : decode cX2_readCrosser 23 = .ok (.putfield 22, 3) := by decide +kernel
theorem dX2_readCrosser_26 : decode cX2_readCrosser 26 = .ok (.iconst 0, 1) := by decide +kernel
theorem dX2_readCrosser_27 : decode cX2_readCrosser 27 = .ok (.istore_n 2, 1) := by decide +kernel
theorem dX2_readCrosser_28 : decode cX2_readCrosser 28 = .ok (.aload_n 0, 1) := by decide +kernel
theorem dX2_readCrosser_29 : decode cX2_readCrosser 29 = .ok (.bipush 58, 2) := by decide +kernel
theorem dX2_readCrosser_31 : decode cX2_readCrosser 31 = .ok (.invokevirtual 33, 3) := by decide +kernel
theorem dX2_readCrosser_34 : decode cX2_readCrosser 34 = .ok (.ifCond .eq 14, 3) := by decide +kernel
theorem dX2_readCrosser_37 : decode cX2_readCrosser 37 = .ok (.aload_n 0, 1) := by decide +kernel
theorem dX2_readCrosser_38 : decode cX2_readCrosser 38 = .ok (.invokevirtual 64, 3) := by decide +kernel
theorem dX2_readCrosser_41 : decode cX2_readCrosser 41 = .ok (.istore_n 2, 1) := by decide +kernel
theorem dX2_readCrosser_42 : decode cX2_readCrosser 42 = .ok (.iload_n 2, 1) := by decide +kernel
theorem dX2_readCrosser_43 : decode cX2_readCrosser 43 = .ok (.ifCond .ne 5, 3) := by decide +kernel
theorem dX2_readCrosser_46 : decode cX2_readCrosser 46 = .ok (.iconst 0, 1) := by decide +kernel
theorem dX2_readCrosser_47 : decode cX2_readCrosser 47 = .ok (.ireturn, 1) := by decide +kernel
theorem dX2_readCrosser_48 : decode cX2_readCrosser 48 = .ok (.aload_n 0, 1) := by decide +kernel
theorem dX2_readCrosser_49 : decode cX2_readCrosser 49 = .ok (.bipush 64, 2) := by decide +kernel
theorem dX2_readCrosser_51 : decode cX2_readCrosser 51 = .ok (.invokevirtual 33, 3) := by decide +kernel
theorem dX2_readCrosser_54 : decode cX2_readCrosser 54 = .ok (.ifCond .eq 10, 3) := by decide +kernel
theorem dX2_readCrosser_57 : decode cX2_readCrosser 57 = .ok (.aload_n 0, 1) := by decide +kernel
theorem dX2_readCrosser_58 : decode cX2_readCrosser 58 = .ok (.invokevirtual 68, 3) := by decide +kernel
theorem dX2_readCrosser_61 : decode cX2_readCrosser 61 = .ok (.goto 4, 3) := by decide +kernel
theorem dX2_readCrosser_64 : decode cX2_readCrosser 64 = .ok (.iconst 0, 1) := by decide +kernel
theorem dX2_readCrosser_65 : decode cX2_readCrosser 65 = .ok (.istore_n 3, 1) := by decide +kernel
theorem dX2_readCrosser_66 : decode cX2_readCrosser 66 = .ok (.iload_n 3, 1) := by decide +kernel
theorem dX2_readCrosser_67 : decode cX2_readCrosser 67 = .ok (.bipush (-4), 2) := by decide +kernel
theorem dX2_readCrosser_69 : decode cX2_readCrosser 69 = .ok (.if_icmp .ne 5, 3) := by decide +kernel
theorem dX2_readCrosser_72 : decode cX2_readCrosser 72 = .ok (.iconst 0, 1) := by decide +kernel
theorem dX2_readCrosser_73 : decode cX2_readCrosser 73 = .ok (.ireturn, 1) := by decide +kernel
theorem dX2_readCrosser_74 : decode cX2_readCrosser 74 = .ok (.aload_n 0, 1) := by decide +kernel
theorem dX2_readCrosser_75 : decode cX2_readCrosser 75 = .ok (.getfield 18, 3) := by decide +kernel
theorem dX2_readCrosser_78 : decode cX2_readCrosser 78 = .ok (.iload_n 1, 1) := by decide +kernel
theorem dX2_readCrosser_79 : decode cX2_readCrosser 79 = .ok (.iload_n 2, 1) := by decide +kernel
theorem dX2_readCrosser_80 : decode cX2_readCrosser 80 = .ok (.iload_n 3, 1) := by decide +kernel
theorem dX2_readCrosser_81 : decode cX2_readCrosser 81 = .ok (.invokevirtual 71, 3) := by decide +kernel
theorem dX2_readCrosser_84 : decode cX2_readCrosser 84 = .ok (.pop, 1) := by decide +kernel
theorem dX2_readCrosser_85 : decode cX2_readCrosser 85 = .ok (.iconst 1, 1) := by decide +kernel
theorem dX2_readCrosser_86 : decode cX2_readCrosser 86 = .ok (.ireturn, 1) := by decide +kernel
theorem dX2_readTopics_0 : decode cX2_readTopics 0 = .ok (.iconst 0, 1) := by decide +kernel
theorem dX2_readTopics_1 : decode cX2_readTopics 1 = .ok (.istore_n 1, 1) := by decide +kernel
theorem dX2_readTopics_2 : decode cX2_readTopics 2 = .ok (.iconst 0, 1) := by decide +kernel
theorem dX2_readTopics_3 : decode cX2_readTopics 3 = .ok (.istore_n 2, 1) := by decide +kernel
theorem dX2_readTopics_4 : decode cX2_readTopics 4 = .ok (.iload_n 2, 1) := by decide +kernel
theorem dX2_readTopics_5 : decode cX2_readTopics 5 = .ok (.bipush 8, 2) := by decide +kernel
theorem dX2_readTopics_7 : decode cX2_readTopics 7 = .ok (.if_icmp .ge 36, 3) := by decide +kernel
theorem dX2_readTopics_10 : decode cX2_readTopics 10 = .ok (.aload_n 0, 1) := by decide +kernel
theorem dX2_readTopics_11 : decode cX2_readTopics 11 = .ok (.invokevirtual 40, 3) := by decide +kernel
theorem dX2_readTopics_14 : decode cX2_readTopics 14 = .ok (.invokestatic 44, 3) := by decide +kernel
theorem dX2_readTopics_17 : decode cX2_readTopics 17 = .ok (.iload_n 2, 1) := by decide +kernel
theorem dX2_readTopics_18 : decode cX2_readTopics 18 = .ok (.if_icmp .ne 19, 3) := by decide +kernel
theorem dX2_readTopics_21 : decode cX2_readTopics 21 = .ok (.iload_n 1, 1) := by decide +kernel
theorem dX2_readTopics_22 : decode cX2_readTopics 22 = .ok (.iconst 1, 1) := by decide +kernel
theorem dX2_readTopics_23 : decode cX2_readTopics 23 = .ok (.iload_n 2, 1) := by decide +kernel
theorem dX2_readTopics_24 : decode cX2_readTopics 24 = .ok (.ishl, 1) := by decide +kernel
theorem dX2_readTopics_25 : decode cX2_readTopics 25 = .ok (.ior, 1) := by decide +kernel
theorem dX2_readTopics_26 : decode cX2_readTopics 26 = .ok (.istore_n 1, 1) := by decide +kernel
theorem dX2_readTopics_27 : decode cX2_readTopics 27 = .ok (.aload_n 0, 1) := by decide +kernel
theorem dX2_readTopics_28 : decode cX2_readTopics 28 = .ok (.dup, 1) := by decide +kernel
theorem dX2_readTopics_29 : decode cX2_readTopics 29 = .ok (.getfield 22, 3) := by decide +kernel
theorem dX2_readTopics_32 : decode cX2_readTopics 32 = .ok (.iconst 1, 1) := by decide +kernel
theorem dX2_readTopics_33 : decode cX2_readTopics 33 = .ok (.iadd, 1) := by decide +kernel
theorem dX2_readTopics_34 : decode cX2_readTopics 34 = .ok (.putfield 22, 3) := by decide +kernel
theorem dX2_readTopics_37 : decode cX2_readTopics 37 = .ok (.iinc 2 1, 3) := by decide +kernel
theorem dX2_readTopics_40 : decode cX2_readTopics 40 = .ok (.goto (-36), 3) := by decide +kernel
theorem dX2_readTopics_43 : decode cX2_readTopics 43 = .ok (.iload_n 1, 1) := by decide +kernel
theorem dX2_readTopics_44 : decode cX2_readTopics 44 = .ok (.ireturn, 1) := by decide +kernel
theorem dX2_readComing_0 : decode cX2_readComing 0 = .ok (.aload_n 0, 1) := by decide +kernel
theorem dX2_readComing_1 : decode cX2_readComing 1 = .ok (.invokevirtual 40, 3) := by decide +kernel
theorem dX2_readComing_4 : decode cX2_readComing 4 = .ok (.invokestatic 75, 3) := by decide +kernel
theorem dX2_readComing_7 : decode cX2_readComing 7 = .ok (.istore_n 1, 1) := by decide +kernel
theorem dX2_readComing_8 : decode cX2_readComing 8 = .ok (.aload_n 0, 1) := by decide +kernel
theorem dX2_readComing_9 : decode cX2_readComing 9 = .ok (.getfield 22, 3) := by decide +kernel
theorem dX2_readComing_12 : decode cX2_readComing 12 = .ok (.istore_n 2, 1) := by decide +kernel
theorem dX2_readComing_13 : decode cX2_readComing 13 = .ok (.iload_n 1, 1) := by decide +kernel
theorem dX2_readComing_14 : decode cX2_readComing 14 = .ok (.bipush (-4), 2) := by decide +kernel
theorem dX2_readComing_16 : decode cX2_readComing 16 = .ok (.if_icmp .ne 6, 3) := by decide +kernel
theorem dX2_readComing_19 : decode cX2_readComing 19 = .ok (.bipush (-4), 2) := by decide +kernel
theorem dX2_readComing_21 : decode cX2_readComing 21 = .ok (.ireturn, 1) := by decide +kernel
theorem dX2_readComing_22 : decode cX2_readComing 22 = .ok (.aload_n 0, 1) := by decide +kernel
theorem dX2_readComing_23 : decode cX2_readComing 23 = .ok (.dup, 1) := by decide +kernel
theorem dX2_readComing_24 : decode cX2_readComing 24 = .ok (.getfield 22, 3) := by decide +kernel
theorem dX2_readComing_27 : decode cX2_readComing 27 = .ok (.iconst 1, 1) := by decide +kernel
theorem dX2_readComing_28 : decode cX2_readComing 28 = .ok (.iadd, 1) := by decide +kernel
theorem dX2_readComing_29 : decode cX2_readComing 29 = .ok (.putfield 22, 3) := by decide +kernel
theorem dX2_readComing_32 : decode cX2_readComing 32 = .ok (.aload_n 0, 1) := by decide +kernel
theorem dX2_readComing_33 : decode cX2_readComing 33 = .ok (.invokevirtual 78, 3) := by decide +kernel
theorem dX2_readComing_36 : decode cX2_readComing 36 = .ok (.invokestatic 75, 3) := by decide +kernel
theorem dX2_readComing_39 : decode cX2_readComing 39 = .ok (.istore_n 3, 1) := by decide +kernel
theorem dX2_readComing_40 : decode cX2_readComing 40 = .ok (.iload_n 3, 1) := by decide +kernel
theorem dX2_readComing_41 : decode cX2_readComing 41 = .ok (.bipush (-4), 2) := by decide +kernel
theorem dX2_readComing_43 : decode cX2_readComing 43 = .ok (.if_icmp .eq 20, 3) := by decide +kernel
theorem dX2_readComing_46 : decode cX2_readComing 46 = .ok (.bipush 10, 2) := by decide +kernel
theorem dX2_readComing_48 : decode cX2_readComing 48 = .ok (.iload_n 1, 1) := by decide +kernel
theorem dX2_readComing_49 : decode cX2_readComing 49 = .ok (.imul, 1) := by decide +kernel
theorem dX2_readComing_50 : decode cX2_readComing 50 = .ok (.iload_n 3, 1) := by decide +kernel
theorem dX2_readComing_51 : decode cX2_readComing 51 = .ok (.iadd, 1) := by decide +kernel
theorem dX2_readComing_52 : decode cX2_readComing 52 = .ok (.istore_n 1, 1) := by decide +kernel
theorem dX2_readComing_53 : decode cX2_readComing 53 = .ok (.aload_n 0, 1) := by decide +kernel
theorem dX2_readComing_54 : decode cX2_readComing 54 = .ok (.dup, 1) := by decide +kernel
theorem dX2_readComing_55 : decode cX2_readComing 55 = .ok (.getfield 22, 3) := by decide +kernel
theorem dX2_readComing_58 : decode cX2_readComing 58 = .ok (.iconst 1, 1) := by decide +kernel
theorem dX2_readComing_59 : decode cX2_readComing 59 = .ok (.iadd, 1) := by decide +kernel
theorem dX2_readComing_60 : decode cX2_readComing 60 = .ok (.putfield 22, 3) := by decide +kernel
theorem dX2_readComing_63 : decode cX2_readComing 63 = .ok (.iload_n 1, 1) := by decide +kernel
theorem dX2_readComing_64 : decode cX2_readComing 64 = .ok (.bipush 40, 2) := by decide +kernel
theorem dX2_readComing_66 : decode cX2_readComing 66 = .ok (.if_icmp .le 11, 3) := by decide +kernel
theorem dX2_readComing_69 : decode cX2_readComing 69 = .ok (.aload_n 0, 1) := by decide +kernel
theorem dX2_readComing_70 : decode cX2_readComing 70 = .ok (.iload_n 2, 1) := by decide +kernel
theorem dX2_readComing_71 : decode cX2_readComing 71 = .ok (.putfield 22, 3) := by decide +kernel
theorem dX2_readComing_74 : decode cX2_readComing 74 = .ok (.bipush (-4), 2) := by decide +kernel
theorem dX2_readComing_76 : decode cX2_readComing 76 = .ok (.ireturn, 1) := by decide +kernel
theorem dX2_readComing_77 : decode cX2_readComing 77 = .ok (.iload_n 1, 1) := by decide +kernel
theorem dX2_readComing_78 : decode cX2_readComing 78 = .ok (.ireturn, 1) := by decide +kernel
theorem dX2_accepts_0 : decode cX2_accepts 0 = .ok (.aload_n 0, 1) := by decide +kernel
theorem dX2_accepts_1 : decode cX2_accepts 1 = .ok (.invokevirtual 40, 3) := by decide +kernel
theorem dX2_accepts_4 : decode cX2_accepts 4 = .ok (.iload_n 1, 1) := by decide +kernel
theorem dX2_accepts_5 : decode cX2_accepts 5 = .ok (.if_icmp .eq 5, 3) := by decide +kernel
theorem dX2_accepts_8 : decode cX2_accepts 8 = .ok (.iconst 0, 1) := by decide +kernel
theorem dX2_accepts_9 : decode cX2_accepts 9 = .ok (.ireturn, 1) := by decide +kernel
theorem dX2_accepts_10 : decode cX2_accepts 10 = .ok (.aload_n 0, 1) := by decide +kernel
theorem dX2_accepts_11 : decode cX2_accepts 11 = .ok (.dup, 1) := by decide +kernel
theorem dX2_accepts_12 : decode cX2_accepts 12 = .ok (.getfield 22, 3) := by decide +kernel
theorem dX2_accepts_15 : decode cX2_accepts 15 = .ok (.iconst 1, 1) := by decide +kernel
theorem dX2_accepts_16 : decode cX2_accepts 16 = .ok (.iadd, 1) := by decide +kernel
theorem dX2_accepts_17 : decode cX2_accepts 17 = .ok (.putfield 22, 3) := by decide +kernel
theorem dX2_accepts_20 : decode cX2_accepts 20 = .ok (.iconst 1, 1) := by decide +kernel
theorem dX2_accepts_21 : decode cX2_accepts 21 = .ok (.ireturn, 1) := by decide +kernel
theorem dX2_nextLetter_0 : decode cX2_nextLetter 0 = .ok (.iconst 0, 1) := by decide +kernel
theorem dX2_nextLetter_1 : decode cX2_nextLetter 1 = .ok (.istore_n 1, 1) := by decide +kernel
theorem dX2_nextLetter_2 : decode cX2_nextLetter 2 = .ok (.iload_n 1, 1) := by decide +kernel
theorem dX2_nextLetter_3 : decode cX2_nextLetter 3 = .ok (.bipush 90, 2) := by decide +kernel
theorem dX2_nextLetter_5 : decode cX2_nextLetter 5 = .ok (.if_icmp .ge 28, 3) := by decide +kernel
theorem dX2_nextLetter_8 : decode cX2_nextLetter 8 = .ok (.aload_n 0, 1) := by decide +kernel
theorem dX2_nextLetter_9 : decode cX2_nextLetter 9 = .ok (.invokevirtual 78, 3) := by decide +kernel
theorem dX2_nextLetter_12 : decode cX2_nextLetter 12 = .ok (.bipush 32, 2) := by decide +kernel
theorem dX2_nextLetter_14 : decode cX2_nextLetter 14 = .ok (.if_icmp .ne 19, 3) := by decide +kernel
theorem dX2_nextLetter_17 : decode cX2_nextLetter 17 = .ok (.aload_n 0, 1) := by decide +kernel
theorem dX2_nextLetter_18 : decode cX2_nextLetter 18 = .ok (.dup, 1) := by decide +kernel
theorem dX2_nextLetter_19 : decode cX2_nextLetter 19 = .ok (.getfield 22, 3) := by decide +kernel
theorem dX2_nextLetter_22 : decode cX2_nextLetter 22 = .ok (.iconst 1, 1) := by decide +kernel
theorem dX2_nextLetter_23 : decode cX2_nextLetter 23 = .ok (.iadd, 1) := by decide +kernel
theorem dX2_nextLetter_24 : decode cX2_nextLetter 24 = .ok (.putfield 22, 3) := by decide +kernel
theorem dX2_nextLetter_27 : decode cX2_nextLetter 27 = .ok (.iinc 1 1, 3) := by decide +kernel
theorem dX2_nextLetter_30 : decode cX2_nextLetter 30 = .ok (.goto (-28), 3) := by decide +kernel
theorem dX2_nextLetter_33 : decode cX2_nextLetter 33 = .ok (.aload_n 0, 1) := by decide +kernel
theorem dX2_nextLetter_34 : decode cX2_nextLetter 34 = .ok (.invokevirtual 78, 3) := by decide +kernel
theorem dX2_nextLetter_37 : decode cX2_nextLetter 37 = .ok (.ireturn, 1) := by decide +kernel
theorem dX2_letterHere_0 : decode cX2_letterHere 0 = .ok (.aload_n 0, 1) := by decide +kernel
theorem dX2_letterHere_1 : decode cX2_letterHere 1 = .ok (.getfield 22, 3) := by decide +kernel
theorem dX2_letterHere_4 : decode cX2_letterHere 4 = .ok (.ifCond .lt 32, 3) := by decide +kernel
theorem dX2_letterHere_7 : decode cX2_letterHere 7 = .ok (.aload_n 0, 1) := by decide +kernel
theorem dX2_letterHere_8 : decode cX2_letterHere 8 = .ok (.getfield 22, 3) := by decide +kernel
theorem dX2_letterHere_11 : decode cX2_letterHere 11 = .ok (.aload_n 0, 1) := by decide +kernel
theorem dX2_letterHere_12 : decode cX2_letterHere 12 = .ok (.getfield 9, 3) := by decide +kernel
theorem dX2_letterHere_15 : decode cX2_letterHere 15 = .ok (.getfield 81, 3) := by decide +kernel
theorem dX2_letterHere_18 : decode cX2_letterHere 18 = .ok (.if_icmp .ge 18, 3) := by decide +kernel
theorem dX2_letterHere_21 : decode cX2_letterHere 21 = .ok (.aload_n 0, 1) := by decide +kernel
theorem dX2_letterHere_22 : decode cX2_letterHere 22 = .ok (.getfield 9, 3) := by decide +kernel
theorem dX2_letterHere_25 : decode cX2_letterHere 25 = .ok (.getfield 86, 3) := by decide +kernel
theorem dX2_letterHere_28 : decode cX2_letterHere 28 = .ok (.aload_n 0, 1) := by decide +kernel
theorem dX2_letterHere_29 : decode cX2_letterHere 29 = .ok (.getfield 22, 3) := by decide +kernel
theorem dX2_letterHere_32 : decode cX2_letterHere 32 = .ok (.caload, 1) := by decide +kernel
theorem dX2_letterHere_33 : decode cX2_letterHere 33 = .ok (.goto 4, 3) := by decide +kernel
theorem dX2_letterHere_36 : decode cX2_letterHere 36 = .ok (.iconst 0, 1) := by decide +kernel
theorem dX2_letterHere_37 : decode cX2_letterHere 37 = .ok (.ireturn, 1) := by decide +kernel
theorem dX2_topicOf_0 : decode cX2_topicOf 0 = .ok (.iload_n 0, 1) := by decide +kernel
theorem dX2_topicOf_1 : decode cX2_topicOf 1 = .ok (.bipush 97, 2) := by decide +kernel
theorem dX2_topicOf_3 : decode cX2_topicOf 3 = .ok (.if_icmp .lt 16, 3) := by decide +kernel
theorem dX2_topicOf_6 : decode cX2_topicOf 6 = .ok (.iload_n 0, 1) := by decide +kernel
theorem dX2_topicOf_7 : decode cX2_topicOf 7 = .ok (.bipush 104, 2) := by decide +kernel
theorem dX2_topicOf_9 : decode cX2_topicOf 9 = .ok (.if_icmp .gt 10, 3) := by decide +kernel
theorem dX2_topicOf_12 : decode cX2_topicOf 12 = .ok (.iload_n 0, 1) := by decide +kernel
theorem dX2_topicOf_13 : decode cX2_topicOf 13 = .ok (.bipush 97, 2) := by decide +kernel
theorem dX2_topicOf_15 : decode cX2_topicOf 15 = .ok (.isub, 1) := by decide +kernel
theorem dX2_topicOf_16 : decode cX2_topicOf 16 = .ok (.goto 5, 3) := by decide +kernel
theorem dX2_topicOf_19 : decode cX2_topicOf 19 = .ok (.bipush (-4), 2) := by decide +kernel
theorem dX2_topicOf_21 : decode cX2_topicOf 21 = .ok (.ireturn, 1) := by decide +kernel
theorem dX2_digitOf_0 : decode cX2_digitOf 0 = .ok (.iload_n 0, 1) := by decide +kernel
theorem dX2_digitOf_1 : decode cX2_digitOf 1 = .ok (.bipush 48, 2) := by decide +kernel
theorem dX2_digitOf_3 : decode cX2_digitOf 3 = .ok (.if_icmp .lt 16, 3) := by decide +kernel
theorem dX2_digitOf_6 : decode cX2_digitOf 6 = .ok (.iload_n 0, 1) := by decide +kernel
theorem dX2_digitOf_7 : decode cX2_digitOf 7 = .ok (.bipush 57, 2) := by decide +kernel
theorem dX2_digitOf_9 : decode cX2_digitOf 9 = .ok (.if_icmp .gt 10, 3) := by decide +kernel
theorem dX2_digitOf_12 : decode cX2_digitOf 12 = .ok (.iload_n 0, 1) := by decide +kernel
theorem dX2_digitOf_13 : decode cX2_digitOf 13 = .ok (.bipush 48, 2) := by decide +kernel
theorem dX2_digitOf_15 : decode cX2_digitOf 15 = .ok (.isub, 1) := by decide +kernel
theorem dX2_digitOf_16 : decode cX2_digitOf 16 = .ok (.goto 5, 3) := by decide +kernel
theorem dX2_digitOf_19 : decode cX2_digitOf 19 = .ok (.bipush (-4), 2) := by decide +kernel
theorem dX2_digitOf_21 : decode cX2_digitOf 21 = .ok (.ireturn, 1) := by decide +kernel
theorem dX2_kindOf_0 : decode cX2_kindOf 0 = .ok (.ldc 90, 2) := by decide +kernel
theorem dX2_kindOf_2 : decode cX2_kindOf 2 = .ok (.iload_n 0, 1) := by decide +kernel
theorem dX2_kindOf_3 : decode cX2_kindOf 3 = .ok (.invokevirtual 92, 3) := by decide +kernel
theorem dX2_kindOf_6 : decode cX2_kindOf 6 = .ok (.istore_n 1, 1) := by decide +kernel
theorem dX2_kindOf_7 : decode cX2_kindOf 7 = .ok (.iload_n 1, 1) := by decide +kernel
theorem dX2_kindOf_8 : decode cX2_kindOf 8 = .ok (.ifCond .ge 8, 3) := by decide +kernel
theorem dX2_kindOf_11 : decode cX2_kindOf 11 = .ok (.bipush (-4), 2) := by decide +kernel
theorem dX2_kindOf_13 : decode cX2_kindOf 13 = .ok (.goto 4, 3) := by decide +kernel
theorem dX2_kindOf_16 : decode cX2_kindOf 16 = .ok (.iload_n 1, 1) := by decide +kernel
theorem dX2_kindOf_17 : decode cX2_kindOf 17 = .ok (.ireturn, 1) := by decide +kernel
end
section
theorem dX3_init_0 : decode cX3_init 0 = .ok (.aload_n 0, 1) := by decide +kernel
theorem dX3_init_1 : decode cX3_init 1 = .ok (.invokespecial 3, 3) := by decide +kernel
theorem dX3_init_4 : decode cX3_init 4 = .ok (.aload_n 0, 1) := by decide +kernel
theorem dX3_init_5 : decode cX3_init 5 = .ok (.iconst (-1), 1) := by decide +kernel
theorem dX3_init_6 : decode cX3_init 6 = .ok (.putfield 11, 3) := by decide +kernel
theorem dX3_init_9 : decode cX3_init 9 = .ok (.aload_n 0, 1) := by decide +kernel
theorem dX3_init_10 : decode cX3_init 10 = .ok (.bipush 24, 2) := by decide +kernel
theorem dX3_init_12 : decode cX3_init 12 = .ok (.newarray .long, 2) := by decide +kernel
theorem dX3_init_14 : decode cX3_init 14 = .ok (.putfield 15, 3) := by decide +kernel
theorem dX3_init_17 : decode cX3_init 17 = .ok (.return_, 1) := by decide +kernel
theorem dX3_isMissing_0 : decode cX3_isMissing 0 = .ok (.aload_n 0, 1) := by decide +kernel
theorem dX3_isMissing_1 : decode cX3_isMissing 1 = .ok (.getfield 11, 3) := by decide +kernel
theorem dX3_isMissing_4 : decode cX3_isMissing 4 = .ok (.iconst (-1), 1) := by decide +kernel
theorem dX3_isMissing_5 : decode cX3_isMissing 5 = .ok (.if_icmp .ne 7, 3) := by decide +kernel
theorem dX3_isMissing_8 : decode cX3_isMissing 8 = .ok (.iconst 1, 1) := by decide +kernel
theorem dX3_isMissing_9 : decode cX3_isMissing 9 = .ok (.goto 4, 3) := by decide +kernel
theorem dX3_isMissing_12 : decode cX3_isMissing 12 = .ok (.iconst 0, 1) := by decide +kernel
theorem dX3_isMissing_13 : decode cX3_isMissing 13 = .ok (.ireturn, 1) := by decide +kernel
theorem dX3_begin_0 : decode cX3_begin 0 = .ok (.aload_n 0, 1) := by decide +kernel
theorem dX3_begin_1 : decode cX3_begin 1 = .ok (.iload_n 1, 1) := by decide +kernel
theorem dX3_begin_2 : decode cX3_begin 2 = .ok (.putfield 19, 3) := by decide +kernel
theorem dX3_begin_5 : decode cX3_begin 5 = .ok (.aload_n 0, 1) := by decide +kernel
theorem dX3_begin_6 : decode cX3_begin 6 = .ok (.iload_n 2, 1) := by decide +kernel
theorem dX3_begin_7 : decode cX3_begin 7 = .ok (.putfield 11, 3) := by decide +kernel
theorem dX3_begin_10 : decode cX3_begin 10 = .ok (.aload_n 0, 1) := by decide +kernel
theorem dX3_begin_11 : decode cX3_begin 11 = .ok (.getfield 15, 3) := by decide +kernel
theorem dX3_begin_14 : decode cX3_begin 14 = .ok (.lconst 0, 1) := by decide +kernel
theorem dX3_begin_15 : decode cX3_begin 15 = .ok (.invokestatic 22, 3) := by decide +kernel
theorem dX3_begin_18 : decode cX3_begin 18 = .ok (.return_, 1) := by decide +kernel
theorem dX3_end_0 : decode cX3_end 0 = .ok (.aload_n 0, 1) := by decide +kernel
theorem dX3_end_1 : decode cX3_end 1 = .ok (.getfield 11, 3) := by decide +kernel
theorem dX3_end_4 : decode cX3_end 4 = .ok (.istore_n 1, 1) := by decide +kernel
theorem dX3_end_5 : decode cX3_end 5 = .ok (.aload_n 0, 1) := by decide +kernel
theorem dX3_end_6 : decode cX3_end 6 = .ok (.iconst (-1), 1) := by decide +kernel
theorem dX3_end_7 : decode cX3_end 7 = .ok (.putfield 11, 3) := by decide +kernel
theorem dX3_end_10 : decode cX3_end 10 = .ok (.iload_n 1, 1) := by decide +kernel
theorem dX3_end_11 : decode cX3_end 11 = .ok (.ireturn, 1) := by decide +kernel
theorem dX3_holds_0 : decode cX3_holds 0 = .ok (.iload_n 1, 1) := by decide +kernel
theorem dX3_holds_1 : decode cX3_holds 1 = .ok (.ifCond .lt 21, 3) := by decide +kernel
theorem dX3_holds_4 : decode cX3_holds 4 = .ok (.iload_n 2, 1) := by decide +kernel
theorem dX3_holds_5 : decode cX3_holds 5 = .ok (.ifCond .lt 17, 3) := by decide +kernel
theorem dX3_holds_8 : decode cX3_holds 8 = .ok (.iload_n 1, 1) := by decide +kernel
theorem dX3_holds_9 : decode cX3_holds 9 = .ok (.aload_n 0, 1) := by decide +kernel
theorem dX3_holds_10 : decode cX3_holds 10 = .ok (.getfield 11, 3) := by decide +kernel
theorem dX3_holds_13 : decode cX3_holds 13 = .ok (.iload_n 2, 1) := by decide +kernel
theorem dX3_holds_14 : decode cX3_holds 14 = .ok (.isub, 1) := by decide +kernel
theorem dX3_holds_15 : decode cX3_holds 15 = .ok (.if_icmp .gt 7, 3) := by decide +kernel
theorem dX3_holds_18 : decode cX3_holds 18 = .ok (.iconst 1, 1) := by decide +kernel
theorem dX3_holds_19 : decode cX3_holds 19 = .ok (.goto 4, 3) := by decide +kernel
theorem dX3_holds_22 : decode cX3_holds 22 = .ok (.iconst 0, 1) := by decide +kernel
theorem dX3_holds_23 : decode cX3_holds 23 = .ok (.ireturn, 1) := by decide +kernel
theorem dX3_refusal_0 : decode cX3_refusal 0 = .ok (.aload_n 0, 1) := by decide +kernel
theorem dX3_refusal_1 : decode cX3_refusal 1 = .ok (.invokevirtual 28, 3) := by decide +kernel
theorem dX3_refusal_4 : decode cX3_refusal 4 = .ok (.ifCond .eq 6, 3) := by decide +kernel
theorem dX3_refusal_7 : decode cX3_refusal 7 = .ok (.bipush (-11), 2) := by decide +kernel
theorem dX3_refusal_9 : decode cX3_refusal 9 = .ok (.ireturn, 1) := by decide +kernel
theorem dX3_refusal_10 : decode cX3_refusal 10 = .ok (.iload_n 1, 1) := by decide +kernel
theorem dX3_refusal_11 : decode cX3_refusal 11 = .ok (.aload_n 0, 1) := by decide +kernel
theorem dX3_refusal_12 : decode cX3_refusal 12 = .ok (.getfield 19, 3) := by decide +kernel
theorem dX3_refusal_15 : decode cX3_refusal 15 = .ok (.if_icmp .eq 6, 3) := by decide +kernel
theorem dX3_refusal_18 : decode cX3_refusal 18 = .ok (.bipush (-12), 2) := by decide +kernel
theorem dX3_refusal_20 : decode cX3_refusal 20 = .ok (.ireturn, 1) := by decide +kernel
theorem dX3_refusal_21 : decode cX3_refusal 21 = .ok (.aload_n 0, 1) := by decide +kernel
theorem dX3_refusal_22 : decode cX3_refusal 22 = .ok (.iload_n 2, 1) := by decide +kernel
theorem dX3_refusal_23 : decode cX3_refusal 23 = .ok (.iload_n 3, 1) := by decide +kernel
theorem dX3_refusal_24 : decode cX3_refusal 24 = .ok (.invokevirtual 32, 3) := by decide +kernel
theorem dX3_refusal_27 : decode cX3_refusal 27 = .ok (.ifCond .eq 7, 3) := by decide +kernel
theorem dX3_refusal_30 : decode cX3_refusal 30 = .ok (.iconst 0, 1) := by decide +kernel
theorem dX3_refusal_31 : decode cX3_refusal 31 = .ok (.goto 5, 3) := by decide +kernel
theorem dX3_refusal_34 : decode cX3_refusal 34 = .ok (.bipush (-13), 2) := by decide +kernel
theorem dX3_refusal_36 : decode cX3_refusal 36 = .ok (.ireturn, 1) := by decide +kernel
theorem dX3_write_0 : decode cX3_write 0 = .ok (.aload_n 0, 1) := by decide +kernel
theorem dX3_write_1 : decode cX3_write 1 = .ok (.iload_n 1, 1) := by decide +kernel
theorem dX3_write_2 : decode cX3_write 2 = .ok (.iconst 1, 1) := by decide +kernel
theorem dX3_write_3 : decode cX3_write 3 = .ok (.invokevirtual 32, 3) := by decide +kernel
theorem dX3_write_6 : decode cX3_write 6 = .ok (.ifCond .eq 14, 3) := by decide +kernel
theorem dX3_write_9 : decode cX3_write 9 = .ok (.aload_n 0, 1) := by decide +kernel
theorem dX3_write_10 : decode cX3_write 10 = .ok (.getfield 15, 3) := by decide +kernel
theorem dX3_write_13 : decode cX3_write 13 = .ok (.iload_n 1, 1) := by decide +kernel
theorem dX3_write_14 : decode cX3_write 14 = .ok (.aload_n 0, 1) := by decide +kernel
theorem dX3_write_15 : decode cX3_write 15 = .ok (.lload_n 2, 1) := by decide +kernel
theorem dX3_write_16 : decode cX3_write 16 = .ok (.invokevirtual 36, 3) := by decide +kernel
theorem dX3_write_19 : decode cX3_write 19 = .ok (.lastore, 1) := by decide +kernel
theorem dX3_write_20 : decode cX3_write 20 = .ok (.return_, 1) := by decide +kernel
theorem dX3_lowestBits_0 : decode cX3_lowestBits 0 = .ok (.aload_n 0, 1) := by decide +kernel
theorem dX3_lowestBits_1 : decode cX3_lowestBits 1 = .ok (.getfield 19, 3) := by decide +kernel
theorem dX3_lowestBits_4 : decode cX3_lowestBits 4 = .ok (.tableswitch 42 0 2 #[28, 33, 38], 28) := by decide +kernel
theorem dX3_lowestBits_32 : decode cX3_lowestBits 32 = .ok (.lload_n 1, 1) := by decide +kernel
theorem dX3_lowestBits_33 : decode cX3_lowestBits 33 = .ok (.l2i, 1) := by decide +kernel
theorem dX3_lowestBits_34 : decode cX3_lowestBits 34 = .ok (.i2b, 1) := by decide +kernel
theorem dX3_lowestBits_35 : decode cX3_lowestBits 35 = .ok (.i2l, 1) := by decide +kernel
theorem dX3_lowestBits_36 : decode cX3_lowestBits 36 = .ok (.lreturn, 1) := by decide +kernel
theorem dX3_lowestBits_37 : decode cX3_lowestBits 37 = .ok (.lload_n 1, 1) := by decide +kernel
theorem dX3_lowestBits_38 : decode cX3_lowestBits 38 = .ok (.l2i, 1) := by decide +kernel
theorem dX3_lowestBits_39 : decode cX3_lowestBits 39 = .ok (.i2s, 1) := by decide +kernel
theorem dX3_lowestBits_40 : decode cX3_lowestBits 40 = .ok (.i2l, 1) := by decide +kernel
theorem dX3_lowestBits_41 : decode cX3_lowestBits 41 = .ok (.lreturn, 1) := by decide +kernel
theorem dX3_lowestBits_42 : decode cX3_lowestBits 42 = .ok (.lload_n 1, 1) := by decide +kernel
theorem dX3_lowestBits_43 : decode cX3_lowestBits 43 = .ok (.l2i, 1) := by decide +kernel
theorem dX3_lowestBits_44 : decode cX3_lowestBits 44 = .ok (.i2l, 1) := by decide +kernel
theorem dX3_lowestBits_45 : decode cX3_lowestBits 45 = .ok (.lreturn, 1) := by decide +kernel
theorem dX3_lowestBits_46 : decode cX3_lowestBits 46 = .ok (.lload_n 1, 1) := by decide +kernel
theorem dX3_lowestBits_47 : decode cX3_lowestBits 47 = .ok (.lreturn, 1) := by decide +kernel
theorem dX4_init_0 : decode cX4_init 0 = .ok (.aload_n 0, 1) := by decide +kernel
theorem dX4_init_1 : decode cX4_init 1 = .ok (.invokespecial 3, 3) := by decide +kernel
theorem dX4_init_4 : decode cX4_init 4 = .ok (.aload_n 0, 1) := by decide +kernel
theorem dX4_init_5 : decode cX4_init 5 = .ok (.new 9, 3) := by decide +kernel
theorem dX4_init_8 : decode cX4_init 8 = .ok (.dup, 1) := by decide +kernel
theorem dX4_init_9 : decode cX4_init 9 = .ok (.invokespecial 11, 3) := by decide +kernel
theorem dX4_init_12 : decode cX4_init 12 = .ok (.putfield 12, 3) := by decide +kernel
theorem dX4_init_15 : decode cX4_init 15 = .ok (.aload_n 0, 1) := by decide +kernel
theorem dX4_init_16 : decode cX4_init 16 = .ok (.bipush 8, 2) := by decide +kernel
theorem dX4_init_18 : decode cX4_init 18 = .ok (.anewarray 9, 3) := by decide +kernel
theorem dX4_init_21 : decode cX4_init 21 = .ok (.putfield 18, 3) := by decide +kernel
theorem dX4_init_24 : decode cX4_init 24 = .ok (.iconst 0, 1) := by decide +kernel
theorem dX4_init_25 : decode cX4_init 25 = .ok (.istore_n 1, 1) := by decide +kernel
theorem dX4_init_26 : decode cX4_init 26 = .ok (.iload_n 1, 1) := by decide +kernel
theorem dX4_init_27 : decode cX4_init 27 = .ok (.bipush 8, 2) := by decide +kernel
theorem dX4_init_29 : decode cX4_init 29 = .ok (.if_icmp .ge 22, 3) := by decide +kernel
theorem dX4_init_32 : decode cX4_init 32 = .ok (.aload_n 0, 1) := by decide +kernel
theorem dX4_init_33 : decode cX4_init 33 = .ok (.getfield 18, 3) := by decide +kernel
theorem dX4_init_36 : decode cX4_init 36 = .ok (.iload_n 1, 1) := by decide +kernel
theorem dX4_init_37 : decode cX4_init 37 = .ok (.new 9, 3) := by decide +kernel
theorem dX4_init_40 : decode cX4_init 40 = .ok (.dup, 1) := by decide +kernel
theorem dX4_init_41 : decode cX4_init 41 = .ok (.invokespecial 11, 3) := by decide +kernel
theorem dX4_init_44 : decode cX4_init 44 = .ok (.aastore, 1) := by decide +kernel
theorem dX4_init_45 : decode cX4_init 45 = .ok (.iinc 1 1, 3) := by decide +kernel
theorem dX4_init_48 : decode cX4_init 48 = .ok (.goto (-22), 3) := by decide +kernel
theorem dX4_init_51 : decode cX4_init 51 = .ok (.return_, 1) := by decide +kernel
theorem dX4_remember_0 : decode cX4_remember 0 = .ok (.aload_n 0, 1) := by decide +kernel
theorem dX4_remember_1 : decode cX4_remember 1 = .ok (.getfield 18, 3) := by decide +kernel
theorem dX4_remember_4 : decode cX4_remember 4 = .ok (.aload_n 0, 1) := by decide +kernel
theorem dX4_remember_5 : decode cX4_remember 5 = .ok (.getfield 22, 3) := by decide +kernel
theorem dX4_remember_8 : decode cX4_remember 8 = .ok (.aaload, 1) := by decide +kernel
theorem dX4_remember_9 : decode cX4_remember 9 = .ok (.aload_n 0, 1) := by decide +kernel
theorem dX4_remember_10 : decode cX4_remember 10 = .ok (.getfield 12, 3) := by decide +kernel
theorem dX4_remember_13 : decode cX4_remember 13 = .ok (.invokevirtual 26, 3) := by decide +kernel
theorem dX4_remember_16 : decode cX4_remember 16 = .ok (.aload_n 0, 1) := by decide +kernel
theorem dX4_remember_17 : decode cX4_remember 17 = .ok (.aload_n 0, 1) := by decide +kernel
theorem dX4_remember_18 : decode cX4_remember 18 = .ok (.getfield 22, 3) := by decide +kernel
theorem dX4_remember_21 : decode cX4_remember 21 = .ok (.iconst 1, 1) := by decide +kernel
theorem dX4_remember_22 : decode cX4_remember 22 = .ok (.iadd, 1) := by decide +kernel
theorem dX4_remember_23 : decode cX4_remember 23 = .ok (.bipush 8, 2) := by decide +kernel
theorem dX4_remember_25 : decode cX4_remember 25 = .ok (.irem, 1) := by decide +kernel
theorem dX4_remember_26 : decode cX4_remember 26 = .ok (.putfield 22, 3) := by decide +kernel
theorem dX4_remember_29 : decode cX4_remember 29 = .ok (.aload_n 0, 1) := by decide +kernel
theorem dX4_remember_30 : decode cX4_remember 30 = .ok (.aload_n 0, 1) := by decide +kernel
theorem dX4_remember_31 : decode cX4_remember 31 = .ok (.getfield 30, 3) := by decide +kernel
theorem dX4_remember_34 : decode cX4_remember 34 = .ok (.iconst 1, 1) := by decide +kernel
theorem dX4_remember_35 : decode cX4_remember 35 = .ok (.iadd, 1) := by decide +kernel
theorem dX4_remember_36 : decode cX4_remember 36 = .ok (.bipush 8, 2) := by decide +kernel
theorem dX4_remember_38 : decode cX4_remember 38 = .ok (.invokestatic 33, 3) := by decide +kernel
theorem dX4_remember_41 : decode cX4_remember 41 = .ok (.putfield 30, 3) := by decide +kernel
theorem dX4_remember_44 : decode cX4_remember 44 = .ok (.return_, 1) := by decide +kernel
theorem dX4_forgetPast_0 : decode cX4_forgetPast 0 = .ok (.aload_n 0, 1) := by decide +kernel
theorem dX4_forgetPast_1 : decode cX4_forgetPast 1 = .ok (.iconst 0, 1) := by decide +kernel
theorem dX4_forgetPast_2 : decode cX4_forgetPast 2 = .ok (.putfield 30, 3) := by decide +kernel
theorem dX4_forgetPast_5 : decode cX4_forgetPast 5 = .ok (.return_, 1) := by decide +kernel
theorem dX4_goBack_0 : decode cX4_goBack 0 = .ok (.aload_n 0, 1) := by decide +kernel
theorem dX4_goBack_1 : decode cX4_goBack 1 = .ok (.getfield 30, 3) := by decide +kernel
theorem dX4_goBack_4 : decode cX4_goBack 4 = .ok (.ifCond .ne 5, 3) := by decide +kernel
theorem dX4_goBack_7 : decode cX4_goBack 7 = .ok (.iconst 0, 1) := by decide +kernel
theorem dX4_goBack_8 : decode cX4_goBack 8 = .ok (.ireturn, 1) := by decide +kernel
theorem dX4_goBack_9 : decode cX4_goBack 9 = .ok (.aload_n 0, 1) := by decide +kernel
theorem dX4_goBack_10 : decode cX4_goBack 10 = .ok (.aload_n 0, 1) := by decide +kernel
theorem dX4_goBack_11 : decode cX4_goBack 11 = .ok (.getfield 22, 3) := by decide +kernel
theorem dX4_goBack_14 : decode cX4_goBack 14 = .ok (.bipush 8, 2) := by decide +kernel
theorem dX4_goBack_16 : decode cX4_goBack 16 = .ok (.iadd, 1) := by decide +kernel
theorem dX4_goBack_17 : decode cX4_goBack 17 = .ok (.iconst 1, 1) := by decide +kernel
theorem dX4_goBack_18 : decode cX4_goBack 18 = .ok (.isub, 1) := by decide +kernel
theorem dX4_goBack_19 : decode cX4_goBack 19 = .ok (.bipush 8, 2) := by decide +kernel
theorem dX4_goBack_21 : decode cX4_goBack 21 = .ok (.irem, 1) := by decide +kernel
theorem dX4_goBack_22 : decode cX4_goBack 22 = .ok (.putfield 22, 3) := by decide +kernel
theorem dX4_goBack_25 : decode cX4_goBack 25 = .ok (.aload_n 0, 1) := by decide +kernel
theorem dX4_goBack_26 : decode cX4_goBack 26 = .ok (.dup, 1) := by decide +kernel
theorem dX4_goBack_27 : decode cX4_goBack 27 = .ok (.getfield 30, 3) := by decide +kernel
theorem dX4_goBack_30 : decode cX4_goBack 30 = .ok (.iconst 1, 1) := by decide +kernel
theorem dX4_goBack_31 : decode cX4_goBack 31 = .ok (.isub, 1) := by decide +kernel
theorem dX4_goBack_32 : decode cX4_goBack 32 = .ok (.putfield 30, 3) := by decide +kernel
theorem dX4_goBack_35 : decode cX4_goBack 35 = .ok (.aload_n 0, 1) := by decide +kernel
theorem dX4_goBack_36 : decode cX4_goBack 36 = .ok (.getfield 12, 3) := by decide +kernel
theorem dX4_goBack_39 : decode cX4_goBack 39 = .ok (.aload_n 0, 1) := by decide +kernel
theorem dX4_goBack_40 : decode cX4_goBack 40 = .ok (.getfield 18, 3) := by decide +kernel
theorem dX4_goBack_43 : decode cX4_goBack 43 = .ok (.aload_n 0, 1) := by decide +kernel
theorem dX4_goBack_44 : decode cX4_goBack 44 = .ok (.getfield 22, 3) := by decide +kernel
theorem dX4_goBack_47 : decode cX4_goBack 47 = .ok (.aaload, 1) := by decide +kernel
theorem dX4_goBack_48 : decode cX4_goBack 48 = .ok (.invokevirtual 26, 3) := by decide +kernel
theorem dX4_goBack_51 : decode cX4_goBack 51 = .ok (.iconst 1, 1) := by decide +kernel
theorem dX4_goBack_52 : decode cX4_goBack 52 = .ok (.ireturn, 1) := by decide +kernel
theorem dX4_takeFrom_0 : decode cX4_takeFrom 0 = .ok (.aload_n 0, 1) := by decide +kernel
theorem dX4_takeFrom_1 : decode cX4_takeFrom 1 = .ok (.getfield 12, 3) := by decide +kernel
theorem dX4_takeFrom_4 : decode cX4_takeFrom 4 = .ok (.aload_n 1, 1) := by decide +kernel
theorem dX4_takeFrom_5 : decode cX4_takeFrom 5 = .ok (.getfield 12, 3) := by decide +kernel
theorem dX4_takeFrom_8 : decode cX4_takeFrom 8 = .ok (.invokevirtual 26, 3) := by decide +kernel
theorem dX4_takeFrom_11 : decode cX4_takeFrom 11 = .ok (.iconst 0, 1) := by decide +kernel
theorem dX4_takeFrom_12 : decode cX4_takeFrom 12 = .ok (.istore_n 2, 1) := by decide +kernel
theorem dX4_takeFrom_13 : decode cX4_takeFrom 13 = .ok (.iload_n 2, 1) := by decide +kernel
theorem dX4_takeFrom_14 : decode cX4_takeFrom 14 = .ok (.bipush 8, 2) := by decide +kernel
theorem dX4_takeFrom_16 : decode cX4_takeFrom 16 = .ok (.if_icmp .ge 24, 3) := by decide +kernel
theorem dX4_takeFrom_19 : decode cX4_takeFrom 19 = .ok (.aload_n 0, 1) := by decide +kernel
theorem dX4_takeFrom_20 : decode cX4_takeFrom 20 = .ok (.getfield 18, 3) := by decide +kernel
theorem dX4_takeFrom_23 : decode cX4_takeFrom 23 = .ok (.iload_n 2, 1) := by decide +kernel
theorem dX4_takeFrom_24 : decode cX4_takeFrom 24 = .ok (.aaload, 1) := by decide +kernel
theorem dX4_takeFrom_25 : decode cX4_takeFrom 25 = .ok (.aload_n 1, 1) := by decide +kernel
theorem dX4_takeFrom_26 : decode cX4_takeFrom 26 = .ok (.getfield 18, 3) := by decide +kernel
theorem dX4_takeFrom_29 : decode cX4_takeFrom 29 = .ok (.iload_n 2, 1) := by decide +kernel
theorem dX4_takeFrom_30 : decode cX4_takeFrom 30 = .ok (.aaload, 1) := by decide +kernel
theorem dX4_takeFrom_31 : decode cX4_takeFrom 31 = .ok (.invokevirtual 26, 3) := by decide +kernel
theorem dX4_takeFrom_34 : decode cX4_takeFrom 34 = .ok (.iinc 2 1, 3) := by decide +kernel
theorem dX4_takeFrom_37 : decode cX4_takeFrom 37 = .ok (.goto (-24), 3) := by decide +kernel
theorem dX4_takeFrom_40 : decode cX4_takeFrom 40 = .ok (.aload_n 0, 1) := by decide +kernel
theorem dX4_takeFrom_41 : decode cX4_takeFrom 41 = .ok (.aload_n 1, 1) := by decide +kernel
theorem dX4_takeFrom_42 : decode cX4_takeFrom 42 = .ok (.getfield 22, 3) := by decide +kernel
theorem dX4_takeFrom_45 : decode cX4_takeFrom 45 = .ok (.putfield 22, 3) := by decide +kernel
theorem dX4_takeFrom_48 : decode cX4_takeFrom 48 = .ok (.aload_n 0, 1) := by decide +kernel
theorem dX4_takeFrom_49 : decode cX4_takeFrom 49 = .ok (.aload_n 1, 1) := by decide +kernel
theorem dX4_takeFrom_50 : decode cX4_takeFrom 50 = .ok (.getfield 30, 3) := by decide +kernel
theorem dX4_takeFrom_53 : decode cX4_takeFrom 53 = .ok (.putfield 30, 3) := by decide +kernel
theorem dX4_takeFrom_56 : decode cX4_takeFrom 56 = .ok (.return_, 1) := by decide +kernel
theorem dX5_init_0 : decode cX5_init 0 = .ok (.aload_n 0, 1) := by decide +kernel
theorem dX5_init_1 : decode cX5_init 1 = .ok (.invokespecial 3, 3) := by decide +kernel
theorem dX5_init_4 : decode cX5_init 4 = .ok (.aload_n 0, 1) := by decide +kernel
theorem dX5_init_5 : decode cX5_init 5 = .ok (.bipush 90, 2) := by decide +kernel
theorem dX5_init_7 : decode cX5_init 7 = .ok (.newarray .char, 2) := by decide +kernel
theorem dX5_init_9 : decode cX5_init 9 = .ok (.putfield 9, 3) := by decide +kernel
theorem dX5_init_12 : decode cX5_init 12 = .ok (.return_, 1) := by decide +kernel
theorem dX5_append_0 : decode cX5_append 0 = .ok (.aload_n 0, 1) := by decide +kernel
theorem dX5_append_1 : decode cX5_append 1 = .ok (.getfield 15, 3) := by decide +kernel
theorem dX5_append_4 : decode cX5_append 4 = .ok (.bipush 90, 2) := by decide +kernel
theorem dX5_append_6 : decode cX5_append 6 = .ok (.if_icmp .ge 24, 3) := by decide +kernel
theorem dX5_append_9 : decode cX5_append 9 = .ok (.aload_n 0, 1) := by decide +kernel
theorem dX5_append_10 : decode cX5_append 10 = .ok (.getfield 9, 3) := by decide +kernel
theorem dX5_append_13 : decode cX5_append 13 = .ok (.aload_n 0, 1) := by decide +kernel
theorem dX5_append_14 : decode cX5_append 14 = .ok (.getfield 15, 3) := by decide +kernel
theorem dX5_append_17 : decode cX5_append 17 = .ok (.iload_n 1, 1) := by decide +kernel
theorem dX5_append_18 : decode cX5_append 18 = .ok (.i2c, 1) := by decide +kernel
theorem dX5_append_19 : decode cX5_append 19 = .ok (.castore, 1) := by decide +kernel
theorem dX5_append_20 : decode cX5_append 20 = .ok (.aload_n 0, 1) := by decide +kernel
theorem dX5_append_21 : decode cX5_append 21 = .ok (.dup, 1) := by decide +kernel
theorem dX5_append_22 : decode cX5_append 22 = .ok (.getfield 15, 3) := by decide +kernel
theorem dX5_append_25 : decode cX5_append 25 = .ok (.iconst 1, 1) := by decide +kernel
theorem dX5_append_26 : decode cX5_append 26 = .ok (.iadd, 1) := by decide +kernel
theorem dX5_append_27 : decode cX5_append 27 = .ok (.putfield 15, 3) := by decide +kernel
theorem dX5_append_30 : decode cX5_append 30 = .ok (.aload_n 0, 1) := by decide +kernel
theorem dX5_append_31 : decode cX5_append 31 = .ok (.getfield 15, 3) := by decide +kernel
theorem dX5_append_34 : decode cX5_append 34 = .ok (.ireturn, 1) := by decide +kernel
theorem dX6_init_0 : decode cX6_init 0 = .ok (.aload_n 0, 1) := by decide +kernel
theorem dX6_init_1 : decode cX6_init 1 = .ok (.invokespecial 5, 3) := by decide +kernel
theorem dX6_init_4 : decode cX6_init 4 = .ok (.aload_n 0, 1) := by decide +kernel
theorem dX6_init_5 : decode cX6_init 5 = .ok (.new 11, 3) := by decide +kernel
theorem dX6_init_8 : decode cX6_init 8 = .ok (.dup, 1) := by decide +kernel
theorem dX6_init_9 : decode cX6_init 9 = .ok (.invokespecial 13, 3) := by decide +kernel
theorem dX6_init_12 : decode cX6_init 12 = .ok (.putfield 14, 3) := by decide +kernel
theorem dX6_init_15 : decode cX6_init 15 = .ok (.aload_n 0, 1) := by decide +kernel
theorem dX6_init_16 : decode cX6_init 16 = .ok (.iconst 5, 1) := by decide +kernel
theorem dX6_init_17 : decode cX6_init 17 = .ok (.newarray .int, 2) := by decide +kernel
theorem dX6_init_19 : decode cX6_init 19 = .ok (.putfield 18, 3) := by decide +kernel
theorem dX6_init_22 : decode cX6_init 22 = .ok (.aload_n 0, 1) := by decide +kernel
theorem dX6_init_23 : decode cX6_init 23 = .ok (.iconst 5, 1) := by decide +kernel
theorem dX6_init_24 : decode cX6_init 24 = .ok (.newarray .int, 2) := by decide +kernel
theorem dX6_init_26 : decode cX6_init 26 = .ok (.putfield 22, 3) := by decide +kernel
theorem dX6_init_29 : decode cX6_init 29 = .ok (.return_, 1) := by decide +kernel
theorem dX6_seekBest_0 : decode cX6_seekBest 0 = .ok (.aload_n 0, 1) := by decide +kernel
theorem dX6_seekBest_1 : decode cX6_seekBest 1 = .ok (.getfield 14, 3) := by decide +kernel
theorem dX6_seekBest_4 : decode cX6_seekBest 4 = .ok (.aload_n 1, 1) := by decide +kernel
theorem dX6_seekBest_5 : decode cX6_seekBest 5 = .ok (.invokevirtual 25, 3) := by decide +kernel
theorem dX6_seekBest_8 : decode cX6_seekBest 8 = .ok (.aload_n 0, 1) := by decide +kernel
theorem dX6_seekBest_9 : decode cX6_seekBest 9 = .ok (.invokevirtual 29, 3) := by decide +kernel
theorem dX6_seekBest_12 : decode cX6_seekBest 12 = .ok (.aload_n 0, 1) := by decide +kernel
theorem dX6_seekBest_13 : decode cX6_seekBest 13 = .ok (.invokevirtual 32, 3) := by decide +kernel
theorem dX6_seekBest_16 : decode cX6_seekBest 16 = .ok (.aload_n 0, 1) := by decide +kernel
theorem dX6_seekBest_17 : decode cX6_seekBest 17 = .ok (.bipush 102, 2) := by decide +kernel
theorem dX6_seekBest_19 : decode cX6_seekBest 19 = .ok (.putfield 35, 3) := by decide +kernel
theorem dX6_seekBest_22 : decode cX6_seekBest 22 = .ok (.aload_n 0, 1) := by decide +kernel
theorem dX6_seekBest_23 : decode cX6_seekBest 23 = .ok (.ldc 39, 2) := by decide +kernel
theorem dX6_seekBest_25 : decode cX6_seekBest 25 = .ok (.putfield 40, 3) := by decide +kernel
theorem dX6_seekBest_28 : decode cX6_seekBest 28 = .ok (.aload_n 1, 1) := by decide +kernel
theorem dX6_seekBest_29 : decode cX6_seekBest 29 = .ok (.getfield 43, 3) := by decide +kernel
theorem dX6_seekBest_32 : decode cX6_seekBest 32 = .ok (.istore_n 2, 1) := by decide +kernel
theorem dX6_seekBest_33 : decode cX6_seekBest 33 = .ok (.iconst 0, 1) := by decide +kernel
theorem dX6_seekBest_34 : decode cX6_seekBest 34 = .ok (.istore_n 3, 1) := by decide +kernel
theorem dX6_seekBest_35 : decode cX6_seekBest 35 = .ok (.iload_n 3, 1) := by decide +kernel
theorem dX6_seekBest_36 : decode cX6_seekBest 36 = .ok (.aload_n 1, 1) := by decide +kernel
theorem dX6_seekBest_37 : decode cX6_seekBest 37 = .ok (.getfield 46, 3) := by decide +kernel
theorem dX6_seekBest_40 : decode cX6_seekBest 40 = .ok (.if_icmp .ge 46, 3) := by decide +kernel
theorem dX6_seekBest_43 : decode cX6_seekBest 43 = .ok (.aload_n 0, 1) := by decide +kernel
theorem dX6_seekBest_44 : decode cX6_seekBest 44 = .ok (.getfield 22, 3) := by decide +kernel
theorem dX6_seekBest_47 : decode cX6_seekBest 47 = .ok (.iload_n 3, 1) := by decide +kernel
theorem dX6_seekBest_48 : decode cX6_seekBest 48 = .ok (.aload_n 1, 1) := by decide +kernel
theorem dX6_seekBest_49 : decode cX6_seekBest 49 = .ok (.getfield 49, 3) := by decide +kernel
theorem dX6_seekBest_52 : decode cX6_seekBest 52 = .ok (.iload_n 3, 1) := by decide +kernel
theorem dX6_seekBest_53 : decode cX6_seekBest 53 = .ok (.iaload, 1) := by decide +kernel
theorem dX6_seekBest_54 : decode cX6_seekBest 54 = .ok (.iconst 1, 1) := by decide +kernel
theorem dX6_seekBest_55 : decode cX6_seekBest 55 = .ok (.if_icmp .ne 12, 3) := by decide +kernel
theorem dX6_seekBest_58 : decode cX6_seekBest 58 = .ok (.aload_n 1, 1) := by decide +kernel
theorem dX6_seekBest_59 : decode cX6_seekBest 59 = .ok (.getfield 52, 3) := by decide +kernel
theorem dX6_seekBest_62 : decode cX6_seekBest 62 = .ok (.iload_n 3, 1) := by decide +kernel
theorem dX6_seekBest_63 : decode cX6_seekBest 63 = .ok (.iaload, 1) := by decide +kernel
theorem dX6_seekBest_64 : decode cX6_seekBest 64 = .ok (.goto 4, 3) := by decide +kernel
theorem dX6_seekBest_67 : decode cX6_seekBest 67 = .ok (.iconst 0, 1) := by decide +kernel
theorem dX6_seekBest_68 : decode cX6_seekBest 68 = .ok (.iastore, 1) := by decide +kernel
theorem dX6_seekBest_69 : decode cX6_seekBest 69 = .ok (.iload_n 2, 1) := by decide +kernel
theorem dX6_seekBest_70 : decode cX6_seekBest 70 = .ok (.aload_n 0, 1) := by decide +kernel
theorem dX6_seekBest_71 : decode cX6_seekBest 71 = .ok (.getfield 22, 3) := by decide +kernel
theorem dX6_seekBest_74 : decode cX6_seekBest 74 = .ok (.iload_n 3, 1) := by decide +kernel
theorem dX6_seekBest_75 : decode cX6_seekBest 75 = .ok (.iaload, 1) := by decide +kernel
theorem dX6_seekBest_76 : decode cX6_seekBest 76 = .ok (.invokestatic 53, 3) := by decide +kernel
theorem dX6_seekBest_79 : decode cX6_seekBest 79 = .ok (.istore_n 2, 1) := by decide +kernel
theorem dX6_seekBest_80 : decode cX6_seekBest 80 = .ok (.iinc 3 1, 3) := by decide +kernel
theorem dX6_seekBest_83 : decode cX6_seekBest 83 = .ok (.goto (-48), 3) := by decide +kernel
theorem dX6_seekBest_86 : decode cX6_seekBest 86 = .ok (.aload_n 0, 1) := by decide +kernel
theorem dX6_seekBest_87 : decode cX6_seekBest 87 = .ok (.iconst 0, 1) := by decide +kernel
theorem dX6_seekBest_88 : decode cX6_seekBest 88 = .ok (.aload_n 1, 1) := by decide +kernel
theorem dX6_seekBest_89 : decode cX6_seekBest 89 = .ok (.getfield 59, 3) := by decide +kernel
theorem dX6_seekBest_92 : decode cX6_seekBest 92 = .ok (.iload_n 2, 1) := by decide +kernel
theorem dX6_seekBest_93 : decode cX6_seekBest 93 = .ok (.iconst 0, 1) := by decide +kernel
theorem dX6_seekBest_94 : decode cX6_seekBest 94 = .ok (.invokevirtual 62, 3) := by decide +kernel
theorem dX6_seekBest_97 : decode cX6_seekBest 97 = .ok (.return_, 1) := by decide +kernel
theorem dX6_toldTo_0 : decode cX6_toldTo 0 = .ok (.aload_n 0, 1) := by decide +kernel
theorem dX6_toldTo_1 : decode cX6_toldTo 1 = .ok (.getfield 66, 3) := by decide +kernel
theorem dX6_toldTo_4 : decode cX6_toldTo 4 = .ok (.iload_n 1, 1) := by decide +kernel
theorem dX6_toldTo_5 : decode cX6_toldTo 5 = .ok (.invokestatic 67, 3) := by decide +kernel
theorem dX6_toldTo_8 : decode cX6_toldTo 8 = .ok (.ifCond .eq 18, 3) := by decide +kernel
theorem dX6_toldTo_11 : decode cX6_toldTo 11 = .ok (.aload_n 0, 1) := by decide +kernel
theorem dX6_toldTo_12 : decode cX6_toldTo 12 = .ok (.getfield 40, 3) := by decide +kernel
theorem dX6_toldTo_15 : decode cX6_toldTo 15 = .ok (.iload_n 1, 1) := by decide +kernel
theorem dX6_toldTo_16 : decode cX6_toldTo 16 = .ok (.invokestatic 71, 3) := by decide +kernel
theorem dX6_toldTo_19 : decode cX6_toldTo 19 = .ok (.ishr, 1) := by decide +kernel
theorem dX6_toldTo_20 : decode cX6_toldTo 20 = .ok (.bipush 7, 2) := by decide +kernel
theorem dX6_toldTo_22 : decode cX6_toldTo 22 = .ok (.iand, 1) := by decide +kernel
theorem dX6_toldTo_23 : decode cX6_toldTo 23 = .ok (.goto 5, 3) := by decide +kernel
theorem dX6_toldTo_26 : decode cX6_toldTo 26 = .ok (.bipush (-4), 2) := by decide +kernel
theorem dX6_toldTo_28 : decode cX6_toldTo 28 = .ok (.ireturn, 1) := by decide +kernel
theorem dX6_shiftOf_0 : decode cX6_shiftOf 0 = .ok (.iconst 3, 1) := by decide +kernel
theorem dX6_shiftOf_1 : decode cX6_shiftOf 1 = .ok (.iconst 4, 1) := by decide +kernel
theorem dX6_shiftOf_2 : decode cX6_shiftOf 2 = .ok (.iload_n 0, 1) := by decide +kernel
theorem dX6_shiftOf_3 : decode cX6_shiftOf 3 = .ok (.isub, 1) := by decide +kernel
theorem dX6_shiftOf_4 : decode cX6_shiftOf 4 = .ok (.imul, 1) := by decide +kernel
theorem dX6_shiftOf_5 : decode cX6_shiftOf 5 = .ok (.ireturn, 1) := by decide +kernel
theorem dX6_chooseWhoIsAsked_0 : decode cX6_chooseWhoIsAsked 0 = .ok (.aload_n 0, 1) := by decide +kernel
theorem dX6_chooseWhoIsAsked_1 : decode cX6_chooseWhoIsAsked 1 = .ok (.getfield 14, 3) := by decide +kernel
theorem dX6_chooseWhoIsAsked_4 : decode cX6_chooseWhoIsAsked 4 = .ok (.getfield 75, 3) := by decide +kernel
theorem dX6_chooseWhoIsAsked_7 : decode cX6_chooseWhoIsAsked 7 = .ok (.aload_n 0, 1) := by decide +kernel
theorem dX6_chooseWhoIsAsked_8 : decode cX6_chooseWhoIsAsked 8 = .ok (.getfield 14, 3) := by decide +kernel
theorem dX6_chooseWhoIsAsked_11 : decode cX6_chooseWhoIsAsked 11 = .ok (.getfield 59, 3) := by decide +kernel
theorem dX6_chooseWhoIsAsked_14 : decode cX6_chooseWhoIsAsked 14 = .ok (.invokestatic 78, 3) := by decide +kernel
theorem dX6_chooseWhoIsAsked_17 : decode cX6_chooseWhoIsAsked 17 = .ok (.isub, 1) := by decide +kernel
theorem dX6_chooseWhoIsAsked_18 : decode cX6_chooseWhoIsAsked 18 = .ok (.istore_n 1, 1) := by decide +kernel
theorem dX6_chooseWhoIsAsked_19 : decode cX6_chooseWhoIsAsked 19 = .ok (.aload_n 0, 1) := by decide +kernel
theorem dX6_chooseWhoIsAsked_20 : decode cX6_chooseWhoIsAsked 20 = .ok (.iconst 0, 1) := by decide +kernel
theorem dX6_chooseWhoIsAsked_21 : decode cX6_chooseWhoIsAsked 21 = .ok (.putfield 66, 3) := by decide +kernel
theorem dX6_chooseWhoIsAsked_24 : decode cX6_chooseWhoIsAsked 24 = .ok (.iconst 0, 1) := by decide +kernel
theorem dX6_chooseWhoIsAsked_25 : decode cX6_chooseWhoIsAsked 25 = .ok (.istore_n 2, 1) := by decide +kernel
theorem dX6_chooseWhoIsAsked_26 : decode cX6_chooseWhoIsAsked 26 = .ok (.iload_n 2, 1) := by decide +kernel
theorem dX6_chooseWhoIsAsked_27 : decode cX6_chooseWhoIsAsked 27 = .ok (.aload_n 0, 1) := by decide +kernel
theorem dX6_chooseWhoIsAsked_28 : decode cX6_chooseWhoIsAsked 28 = .ok (.getfield 14, 3) := by decide +kernel
theorem dX6_chooseWhoIsAsked_31 : decode cX6_chooseWhoIsAsked 31 = .ok (.getfield 46, 3) := by decide +kernel
theorem dX6_chooseWhoIsAsked_34 : decode cX6_chooseWhoIsAsked 34 = .ok (.if_icmp .ge 42, 3) := by decide +kernel
theorem dX6_chooseWhoIsAsked_37 : decode cX6_chooseWhoIsAsked 37 = .ok (.aload_n 0, 1) := by decide +kernel
theorem dX6_chooseWhoIsAsked_38 : decode cX6_chooseWhoIsAsked 38 = .ok (.getfield 14, 3) := by decide +kernel
theorem dX6_chooseWhoIsAsked_41 : decode cX6_chooseWhoIsAsked 41 = .ok (.getfield 49, 3) := by decide +kernel
theorem dX6_chooseWhoIsAsked_44 : decode cX6_chooseWhoIsAsked 44 = .ok (.iload_n 2, 1) := by decide +kernel
theorem dX6_chooseWhoIsAsked_45 : decode cX6_chooseWhoIsAsked 45 = .ok (.iaload, 1) := by decide +kernel
theorem dX6_chooseWhoIsAsked_46 : decode cX6_chooseWhoIsAsked 46 = .ok (.ifCond .ne 24, 3) := by decide +kernel
theorem dX6_chooseWhoIsAsked_49 : decode cX6_chooseWhoIsAsked 49 = .ok (.aload_n 0, 1) := by decide +kernel
theorem dX6_chooseWhoIsAsked_50 : decode cX6_chooseWhoIsAsked 50 = .ok (.iload_n 2, 1) := by decide +kernel
theorem dX6_chooseWhoIsAsked_51 : decode cX6_chooseWhoIsAsked 51 = .ok (.invokevirtual 83, 3) := by decide +kernel
theorem dX6_chooseWhoIsAsked_54 : decode cX6_chooseWhoIsAsked 54 = .ok (.iload_n 1, 1) := by decide +kernel
theorem dX6_chooseWhoIsAsked_55 : decode cX6_chooseWhoIsAsked 55 = .ok (.if_icmp .ge 15, 3) := by decide +kernel
theorem dX6_chooseWhoIsAsked_58 : decode cX6_chooseWhoIsAsked 58 = .ok (.aload_n 0, 1) := by decide +kernel
theorem dX6_chooseWhoIsAsked_59 : decode cX6_chooseWhoIsAsked 59 = .ok (.dup, 1) := by decide +kernel
theorem dX6_chooseWhoIsAsked_60 : decode cX6_chooseWhoIsAsked 60 = .ok (.getfield 66, 3) := by decide +kernel
theorem dX6_chooseWhoIsAsked_63 : decode cX6_chooseWhoIsAsked 63 = .ok (.iconst 1, 1) := by decide +kernel
theorem dX6_chooseWhoIsAsked_64 : decode cX6_chooseWhoIsAsked 64 = .ok (.iload_n 2, 1) := by decide +kernel
theorem dX6_chooseWhoIsAsked_65 : decode cX6_chooseWhoIsAsked 65 = .ok (.ishl, 1) := by decide +kernel
theorem dX6_chooseWhoIsAsked_66 : decode cX6_chooseWhoIsAsked 66 = .ok (.ior, 1) := by decide +kernel
theorem dX6_chooseWhoIsAsked_67 : decode cX6_chooseWhoIsAsked 67 = .ok (.putfield 66, 3) := by decide +kernel
theorem dX6_chooseWhoIsAsked_70 : decode cX6_chooseWhoIsAsked 70 = .ok (.iinc 2 1, 3) := by decide +kernel
theorem dX6_chooseWhoIsAsked_73 : decode cX6_chooseWhoIsAsked 73 = .ok (.goto (-47), 3) := by decide +kernel
theorem dX6_chooseWhoIsAsked_76 : decode cX6_chooseWhoIsAsked 76 = .ok (.return_, 1) := by decide +kernel
theorem dX6_howManyComeAheadOf_0 : decode cX6_howManyComeAheadOf 0 = .ok (.iconst 0, 1) := by decide +kernel
theorem dX6_howManyComeAheadOf_1 : decode cX6_howManyComeAheadOf 1 = .ok (.istore_n 2, 1) := by decide +kernel
theorem dX6_howManyComeAheadOf_2 : decode cX6_howManyComeAheadOf 2 = .ok (.iconst 0, 1) := by decide +kernel
theorem dX6_howManyComeAheadOf_3 : decode cX6_howManyComeAheadOf 3 = .ok (.istore_n 3, 1) := by decide +kernel
theorem dX6_howManyComeAheadOf_4 : decode cX6_howManyComeAheadOf 4 = .ok (.iload_n 3, 1) := by decide +kernel
theorem dX6_howManyComeAheadOf_5 : decode cX6_howManyComeAheadOf 5 = .ok (.aload_n 0, 1) := by decide +kernel
theorem dX6_howManyComeAheadOf_6 : decode cX6_howManyComeAheadOf 6 = .ok (.getfield 14, 3) := by decide +kernel
theorem dX6_howManyComeAheadOf_9 : decode cX6_howManyComeAheadOf 9 = .ok (.getfield 46, 3) := by decide +kernel
theorem dX6_howManyComeAheadOf_12 : decode cX6_howManyComeAheadOf 12 = .ok (.if_icmp .ge 83, 3) := by decide +kernel
theorem dX6_howManyComeAheadOf_15 : decode cX6_howManyComeAheadOf 15 = .ok (.aload_n 0, 1) := by decide +kernel
theorem dX6_howManyComeAheadOf_16 : decode cX6_howManyComeAheadOf 16 = .ok (.getfield 14, 3) := by decide +kernel
theorem dX6_howManyComeAheadOf_19 : decode cX6_howManyComeAheadOf 19 = .ok (.getfield 86, 3) := by decide +kernel
theorem dX6_howManyComeAheadOf_22 : decode cX6_howManyComeAheadOf 22 = .ok (.iload_n 3, 1) := by decide +kernel
theorem dX6_howManyComeAheadOf_23 : decode cX6_howManyComeAheadOf 23 = .ok (.iaload, 1) := by decide +kernel
theorem dX6_howManyComeAheadOf_24 : decode cX6_howManyComeAheadOf 24 = .ok (.aload_n 0, 1) := by decide +kernel
theorem dX6_howManyComeAheadOf_25 : decode cX6_howManyComeAheadOf 25 = .ok (.getfield 14, 3) := by decide +kernel
theorem dX6_howManyComeAheadOf_28 : decode cX6_howManyComeAheadOf 28 = .ok (.getfield 86, 3) := by decide +kernel
theorem dX6_howManyComeAheadOf_31 : decode cX6_howManyComeAheadOf 31 = .ok (.iload_n 1, 1) := by decide +kernel
theorem dX6_howManyComeAheadOf_32 : decode cX6_howManyComeAheadOf 32 = .ok (.iaload, 1) := by decide +kernel
theorem dX6_howManyComeAheadOf_33 : decode cX6_howManyComeAheadOf 33 = .ok (.if_icmp .lt 29, 3) := by decide +kernel
theorem dX6_howManyComeAheadOf_36 : decode cX6_howManyComeAheadOf 36 = .ok (.aload_n 0, 1) := by decide +kernel
theorem dX6_howManyComeAheadOf_37 : decode cX6_howManyComeAheadOf 37 = .ok (.getfield 14, 3) := by decide +kernel
theorem dX6_howManyComeAheadOf_40 : decode cX6_howManyComeAheadOf 40 = .ok (.getfield 86, 3) := by decide +kernel
theorem dX6_howManyComeAheadOf_43 : decode cX6_howManyComeAheadOf 43 = .ok (.iload_n 3, 1) := by decide +kernel
theorem dX6_howManyComeAheadOf_44 : decode cX6_howManyComeAheadOf 44 = .ok (.iaload, 1) := by decide +kernel
theorem dX6_howManyComeAheadOf_45 : decode cX6_howManyComeAheadOf 45 = .ok (.aload_n 0, 1) := by decide +kernel
theorem dX6_howManyComeAheadOf_46 : decode cX6_howManyComeAheadOf 46 = .ok (.getfield 14, 3) := by decide +kernel
theorem dX6_howManyComeAheadOf_49 : decode cX6_howManyComeAheadOf 49 = .ok (.getfield 86, 3) := by decide +kernel
theorem dX6_howManyComeAheadOf_52 : decode cX6_howManyComeAheadOf 52 = .ok (.iload_n 1, 1) := by decide +kernel
theorem dX6_howManyComeAheadOf_53 : decode cX6_howManyComeAheadOf 53 = .ok (.iaload, 1) := by decide +kernel
theorem dX6_howManyComeAheadOf_54 : decode cX6_howManyComeAheadOf 54 = .ok (.if_icmp .ne 12, 3) := by decide +kernel
theorem dX6_howManyComeAheadOf_57 : decode cX6_howManyComeAheadOf 57 = .ok (.iload_n 3, 1) := by decide +kernel
theorem dX6_howManyComeAheadOf_58 : decode cX6_howManyComeAheadOf 58 = .ok (.iload_n 1, 1) := by decide +kernel
theorem dX6_howManyComeAheadOf_59 : decode cX6_howManyComeAheadOf 59 = .ok (.if_icmp .ge 7, 3) := by decide +kernel
theorem dX6_howManyComeAheadOf_62 : decode cX6_howManyComeAheadOf 62 = .ok (.iconst 1, 1) := by decide +kernel
theorem dX6_howManyComeAheadOf_63 : decode cX6_howManyComeAheadOf 63 = .ok (.goto 4, 3) := by decide +kernel
theorem dX6_howManyComeAheadOf_66 : decode cX6_howManyComeAheadOf 66 = .ok (.iconst 0, 1) := by decide +kernel
theorem dX6_howManyComeAheadOf_67 : decode cX6_howManyComeAheadOf 67 = .ok (.istore 4, 2) := by decide +kernel
theorem dX6_howManyComeAheadOf_69 : decode cX6_howManyComeAheadOf 69 = .ok (.aload_n 0, 1) := by decide +kernel
theorem dX6_howManyComeAheadOf_70 : decode cX6_howManyComeAheadOf 70 = .ok (.getfield 14, 3) := by decide +kernel
theorem dX6_howManyComeAheadOf_73 : decode cX6_howManyComeAheadOf 73 = .ok (.getfield 49, 3) := by decide +kernel
theorem dX6_howManyComeAheadOf_76 : decode cX6_howManyComeAheadOf 76 = .ok (.iload_n 3, 1) := by decide +kernel
theorem dX6_howManyComeAheadOf_77 : decode cX6_howManyComeAheadOf 77 = .ok (.iaload, 1) := by decide +kernel
theorem dX6_howManyComeAheadOf_78 : decode cX6_howManyComeAheadOf 78 = .ok (.ifCond .ne 11, 3) := by decide +kernel
theorem dX6_howManyComeAheadOf_81 : decode cX6_howManyComeAheadOf 81 = .ok (.iload 4, 2) := by decide +kernel
theorem dX6_howManyComeAheadOf_83 : decode cX6_howManyComeAheadOf 83 = .ok (.ifCond .eq 6, 3) := by decide +kernel
theorem dX6_howManyComeAheadOf_86 : decode cX6_howManyComeAheadOf 86 = .ok (.iinc 2 1, 3) := by decide +kernel
theorem dX6_howManyComeAheadOf_89 : decode cX6_howManyComeAheadOf 89 = .ok (.iinc 3 1, 3) := by decide +kernel
theorem dX6_howManyComeAheadOf_92 : decode cX6_howManyComeAheadOf 92 = .ok (.goto (-88), 3) := by decide +kernel
theorem dX6_howManyComeAheadOf_95 : decode cX6_howManyComeAheadOf 95 = .ok (.iload_n 2, 1) := by decide +kernel
theorem dX6_howManyComeAheadOf_96 : decode cX6_howManyComeAheadOf 96 = .ok (.ireturn, 1) := by decide +kernel
theorem dX6_orderComers_0 : decode cX6_orderComers 0 = .ok (.aload_n 0, 1) := by decide +kernel
theorem dX6_orderComers_1 : decode cX6_orderComers 1 = .ok (.iconst 0, 1) := by decide +kernel
theorem dX6_orderComers_2 : decode cX6_orderComers 2 = .ok (.putfield 89, 3) := by decide +kernel
theorem dX6_orderComers_5 : decode cX6_orderComers 5 = .ok (.iconst 0, 1) := by decide +kernel
theorem dX6_orderComers_6 : decode cX6_orderComers 6 = .ok (.istore_n 1, 1) := by decide +kernel
theorem dX6_orderComers_7 : decode cX6_orderComers 7 = .ok (.iload_n 1, 1) := by decide +kernel
theorem dX6_orderComers_8 : decode cX6_orderComers 8 = .ok (.aload_n 0, 1) := by decide +kernel
theorem dX6_orderComers_9 : decode cX6_orderComers 9 = .ok (.getfield 14, 3) := by decide +kernel
theorem dX6_orderComers_12 : decode cX6_orderComers 12 = .ok (.getfield 46, 3) := by decide +kernel
theorem dX6_orderComers_15 : decode cX6_orderComers 15 = .ok (.if_icmp .ge 26, 3) := by decide +kernel
theorem dX6_orderComers_18 : decode cX6_orderComers 18 = .ok (.aload_n 0, 1) := by decide +kernel
theorem dX6_orderComers_19 : decode cX6_orderComers 19 = .ok (.getfield 14, 3) := by decide +kernel
theorem dX6_orderComers_22 : decode cX6_orderComers 22 = .ok (.getfield 49, 3) := by decide +kernel
theorem dX6_orderComers_25 : decode cX6_orderComers 25 = .ok (.iload_n 1, 1) := by decide +kernel
theorem dX6_orderComers_26 : decode cX6_orderComers 26 = .ok (.iaload, 1) := by decide +kernel
theorem dX6_orderComers_27 : decode cX6_orderComers 27 = .ok (.ifCond .ne 8, 3) := by decide +kernel
theorem dX6_orderComers_30 : decode cX6_orderComers 30 = .ok (.aload_n 0, 1) := by decide +kernel
theorem dX6_orderComers_31 : decode cX6_orderComers 31 = .ok (.iload_n 1, 1) := by decide +kernel
theorem dX6_orderComers_32 : decode cX6_orderComers 32 = .ok (.invokevirtual 92, 3) := by decide +kernel
theorem dX6_orderComers_35 : decode cX6_orderComers 35 = .ok (.iinc 1 1, 3) := by decide +kernel
theorem dX6_orderComers_38 : decode cX6_orderComers 38 = .ok (.goto (-31), 3) := by decide +kernel
theorem dX6_orderComers_41 : decode cX6_orderComers 41 = .ok (.return_, 1) := by decide +kernel
theorem dX6_insertComer_0 : decode cX6_insertComer 0 = .ok (.aload_n 0, 1) := by decide +kernel
theorem dX6_insertComer_1 : decode cX6_insertComer 1 = .ok (.getfield 89, 3) := by decide +kernel
theorem dX6_insertComer_4 : decode cX6_insertComer 4 = .ok (.istore_n 2, 1) := by decide +kernel
theorem dX6_insertComer_5 : decode cX6_insertComer 5 = .ok (.iload_n 2, 1) := by decide +kernel
theorem dX6_insertComer_6 : decode cX6_insertComer 6 = .ok (.ifCond .le 48, 3) := by decide +kernel
theorem dX6_insertComer_9 : decode cX6_insertComer 9 = .ok (.iload_n 2, 1) := by decide +kernel
theorem dX6_insertComer_10 : decode cX6_insertComer 10 = .ok (.iconst 5, 1) := by decide +kernel
theorem dX6_insertComer_11 : decode cX6_insertComer 11 = .ok (.if_icmp .ge 43, 3) := by decide +kernel
theorem dX6_insertComer_14 : decode cX6_insertComer 14 = .ok (.aload_n 0, 1) := by decide +kernel
theorem dX6_insertComer_15 : decode cX6_insertComer 15 = .ok (.aload_n 0, 1) := by decide +kernel
theorem dX6_insertComer_16 : decode cX6_insertComer 16 = .ok (.getfield 18, 3) := by decide +kernel
theorem dX6_insertComer_19 : decode cX6_insertComer 19 = .ok (.iload_n 2, 1) := by decide +kernel
theorem dX6_insertComer_20 : decode cX6_insertComer 20 = .ok (.iconst 1, 1) := by decide +kernel
theorem dX6_insertComer_21 : decode cX6_insertComer 21 = .ok (.isub, 1) := by decide +kernel
theorem dX6_insertComer_22 : decode cX6_insertComer 22 = .ok (.iaload, 1) := by decide +kernel
theorem dX6_insertComer_23 : decode cX6_insertComer 23 = .ok (.invokevirtual 96, 3) := by decide +kernel
theorem dX6_insertComer_26 : decode cX6_insertComer 26 = .ok (.aload_n 0, 1) := by decide +kernel
theorem dX6_insertComer_27 : decode cX6_insertComer 27 = .ok (.iload_n 1, 1) := by decide +kernel
theorem dX6_insertComer_28 : decode cX6_insertComer 28 = .ok (.invokevirtual 96, 3) := by decide +kernel
theorem dX6_insertComer_31 : decode cX6_insertComer 31 = .ok (.if_icmp .le 23, 3) := by decide +kernel
theorem dX6_insertComer_34 : decode cX6_insertComer 34 = .ok (.aload_n 0, 1) := by decide +kernel
theorem dX6_insertComer_35 : decode cX6_insertComer 35 = .ok (.getfield 18, 3) := by decide +kernel
theorem dX6_insertComer_38 : decode cX6_insertComer 38 = .ok (.iload_n 2, 1) := by decide +kernel
theorem dX6_insertComer_39 : decode cX6_insertComer 39 = .ok (.aload_n 0, 1) := by decide +kernel
theorem dX6_insertComer_40 : decode cX6_insertComer 40 = .ok (.getfield 18, 3) := by decide +kernel
theorem dX6_insertComer_43 : decode cX6_insertComer 43 = .ok (.iload_n 2, 1) := by decide +kernel
theorem dX6_insertComer_44 : decode cX6_insertComer 44 = .ok (.iconst 1, 1) := by decide +kernel
theorem dX6_insertComer_45 : decode cX6_insertComer 45 = .ok (.isub, 1) := by decide +kernel
theorem dX6_insertComer_46 : decode cX6_insertComer 46 = .ok (.iaload, 1) := by decide +kernel
theorem dX6_insertComer_47 : decode cX6_insertComer 47 = .ok (.iastore, 1) := by decide +kernel
theorem dX6_insertComer_48 : decode cX6_insertComer 48 = .ok (.iinc 2 (-1), 3) := by decide +kernel
theorem dX6_insertComer_51 : decode cX6_insertComer 51 = .ok (.goto (-46), 3) := by decide +kernel
theorem dX6_insertComer_54 : decode cX6_insertComer 54 = .ok (.iload_n 2, 1) := by decide +kernel
theorem dX6_insertComer_55 : decode cX6_insertComer 55 = .ok (.iconst 5, 1) := by decide +kernel
theorem dX6_insertComer_56 : decode cX6_insertComer 56 = .ok (.if_icmp .ge 20, 3) := by decide +kernel
theorem dX6_insertComer_59 : decode cX6_insertComer 59 = .ok (.aload_n 0, 1) := by decide +kernel
theorem dX6_insertComer_60 : decode cX6_insertComer 60 = .ok (.getfield 18, 3) := by decide +kernel
theorem dX6_insertComer_63 : decode cX6_insertComer 63 = .ok (.iload_n 2, 1) := by decide +kernel
theorem dX6_insertComer_64 : decode cX6_insertComer 64 = .ok (.iload_n 1, 1) := by decide +kernel
theorem dX6_insertComer_65 : decode cX6_insertComer 65 = .ok (.iastore, 1) := by decide +kernel
theorem dX6_insertComer_66 : decode cX6_insertComer 66 = .ok (.aload_n 0, 1) := by decide +kernel
theorem dX6_insertComer_67 : decode cX6_insertComer 67 = .ok (.dup, 1) := by decide +kernel
theorem dX6_insertComer_68 : decode cX6_insertComer 68 = .ok (.getfield 89, 3) := by decide +kernel
theorem dX6_insertComer_71 : decode cX6_insertComer 71 = .ok (.iconst 1, 1) := by decide +kernel
theorem dX6_insertComer_72 : decode cX6_insertComer 72 = .ok (.iadd, 1) := by decide +kernel
theorem dX6_insertComer_73 : decode cX6_insertComer 73 = .ok (.putfield 89, 3) := by decide +kernel
theorem dX6_insertComer_76 : decode cX6_insertComer 76 = .ok (.return_, 1) := by decide +kernel
theorem dX6_comingOf_0 : decode cX6_comingOf 0 = .ok (.aload_n 0, 1) := by decide +kernel
theorem dX6_comingOf_1 : decode cX6_comingOf 1 = .ok (.getfield 14, 3) := by decide +kernel
theorem dX6_comingOf_4 : decode cX6_comingOf 4 = .ok (.getfield 43, 3) := by decide +kernel
theorem dX6_comingOf_7 : decode cX6_comingOf 7 = .ok (.aload_n 0, 1) := by decide +kernel
theorem dX6_comingOf_8 : decode cX6_comingOf 8 = .ok (.getfield 14, 3) := by decide +kernel
theorem dX6_comingOf_11 : decode cX6_comingOf 11 = .ok (.getfield 86, 3) := by decide +kernel
theorem dX6_comingOf_14 : decode cX6_comingOf 14 = .ok (.iload_n 1, 1) := by decide +kernel
theorem dX6_comingOf_15 : decode cX6_comingOf 15 = .ok (.iaload, 1) := by decide +kernel
theorem dX6_comingOf_16 : decode cX6_comingOf 16 = .ok (.invokestatic 53, 3) := by decide +kernel
theorem dX6_comingOf_19 : decode cX6_comingOf 19 = .ok (.ireturn, 1) := by decide +kernel
theorem dX6_tell_0 : decode cX6_tell 0 = .ok (.iload_n 3, 1) := by decide +kernel
theorem dX6_tell_1 : decode cX6_tell 1 = .ok (.aload_n 0, 1) := by decide +kernel
theorem dX6_tell_2 : decode cX6_tell 2 = .ok (.getfield 14, 3) := by decide +kernel
theorem dX6_tell_5 : decode cX6_tell 5 = .ok (.getfield 43, 3) := by decide +kernel
theorem dX6_tell_8 : decode cX6_tell 8 = .ok (.isub, 1) := by decide +kernel
theorem dX6_tell_9 : decode cX6_tell 9 = .ok (.bipush 101, 2) := by decide +kernel
theorem dX6_tell_11 : decode cX6_tell 11 = .ok (.invokestatic 99, 3) := by decide +kernel
theorem dX6_tell_14 : decode cX6_tell 14 = .ok (.istore 5, 2) := by decide +kernel
theorem dX6_tell_16 : decode cX6_tell 16 = .ok (.iload 5, 2) := by decide +kernel
theorem dX6_tell_18 : decode cX6_tell 18 = .ok (.aload_n 0, 1) := by decide +kernel
theorem dX6_tell_19 : decode cX6_tell 19 = .ok (.getfield 35, 3) := by decide +kernel
theorem dX6_tell_22 : decode cX6_tell 22 = .ok (.if_icmp .le 4, 3) := by decide +kernel
theorem dX6_tell_25 : decode cX6_tell 25 = .ok (.return_, 1) := by decide +kernel
theorem dX6_tell_26 : decode cX6_tell 26 = .ok (.iload_n 1, 1) := by decide +kernel
theorem dX6_tell_27 : decode cX6_tell 27 = .ok (.aload_n 0, 1) := by decide +kernel
theorem dX6_tell_28 : decode cX6_tell 28 = .ok (.getfield 89, 3) := by decide +kernel
theorem dX6_tell_31 : decode cX6_tell 31 = .ok (.if_icmp .ge 8, 3) := by decide +kernel
theorem dX6_tell_34 : decode cX6_tell 34 = .ok (.iload_n 1, 1) := by decide +kernel
theorem dX6_tell_35 : decode cX6_tell 35 = .ok (.iconst 5, 1) := by decide +kernel
theorem dX6_tell_36 : decode cX6_tell 36 = .ok (.if_icmp .lt 12, 3) := by decide +kernel
theorem dX6_tell_39 : decode cX6_tell 39 = .ok (.aload_n 0, 1) := by decide +kernel
theorem dX6_tell_40 : decode cX6_tell 40 = .ok (.iload 5, 2) := by decide +kernel
theorem dX6_tell_42 : decode cX6_tell 42 = .ok (.iload 4, 2) := by decide +kernel
theorem dX6_tell_44 : decode cX6_tell 44 = .ok (.invokevirtual 102, 3) := by decide +kernel
theorem dX6_tell_47 : decode cX6_tell 47 = .ok (.return_, 1) := by decide +kernel
theorem dX6_tell_48 : decode cX6_tell 48 = .ok (.aload_n 0, 1) := by decide +kernel
theorem dX6_tell_49 : decode cX6_tell 49 = .ok (.getfield 18, 3) := by decide +kernel
theorem dX6_tell_52 : decode cX6_tell 52 = .ok (.iload_n 1, 1) := by decide +kernel
theorem dX6_tell_53 : decode cX6_tell 53 = .ok (.iaload, 1) := by decide +kernel
theorem dX6_tell_54 : decode cX6_tell 54 = .ok (.istore 6, 2) := by decide +kernel
theorem dX6_tell_56 : decode cX6_tell 56 = .ok (.aload_n 0, 1) := by decide +kernel
theorem dX6_tell_57 : decode cX6_tell 57 = .ok (.iload 6, 2) := by decide +kernel
theorem dX6_tell_59 : decode cX6_tell 59 = .ok (.invokevirtual 96, 3) := by decide +kernel
theorem dX6_tell_62 : decode cX6_tell 62 = .ok (.istore 7, 2) := by decide +kernel
theorem dX6_tell_64 : decode cX6_tell 64 = .ok (.aload_n 0, 1) := by decide +kernel
theorem dX6_tell_65 : decode cX6_tell 65 = .ok (.getfield 66, 3) := by decide +kernel
theorem dX6_tell_68 : decode cX6_tell 68 = .ok (.iload 6, 2) := by decide +kernel
theorem dX6_tell_70 : decode cX6_tell 70 = .ok (.invokestatic 67, 3) := by decide +kernel
theorem dX6_tell_73 : decode cX6_tell 73 = .ok (.ifCond .ne 22, 3) := by decide +kernel
theorem dX6_tell_76 : decode cX6_tell 76 = .ok (.aload_n 0, 1) := by decide +kernel
theorem dX6_tell_77 : decode cX6_tell 77 = .ok (.iload_n 1, 1) := by decide +kernel
theorem dX6_tell_78 : decode cX6_tell 78 = .ok (.iconst 1, 1) := by decide +kernel
theorem dX6_tell_79 : decode cX6_tell 79 = .ok (.iadd, 1) := by decide +kernel
theorem dX6_tell_80 : decode cX6_tell 80 = .ok (.iload_n 2, 1) := by decide +kernel
theorem dX6_tell_81 : decode cX6_tell 81 = .ok (.iload_n 3, 1) := by decide +kernel
theorem dX6_tell_82 : decode cX6_tell 82 = .ok (.iload 7, 2) := by decide +kernel
theorem dX6_tell_84 : decode cX6_tell 84 = .ok (.iconst 1, 1) := by decide +kernel
theorem dX6_tell_85 : decode cX6_tell 85 = .ok (.iadd, 1) := by decide +kernel
theorem dX6_tell_86 : decode cX6_tell 86 = .ok (.invokestatic 53, 3) := by decide +kernel
theorem dX6_tell_89 : decode cX6_tell 89 = .ok (.iload 4, 2) := by decide +kernel
theorem dX6_tell_91 : decode cX6_tell 91 = .ok (.invokevirtual 62, 3) := by decide +kernel
theorem dX6_tell_94 : decode cX6_tell 94 = .ok (.return_, 1) := by decide +kernel
theorem dX6_tell_95 : decode cX6_tell 95 = .ok (.aload_n 0, 1) := by decide +kernel
theorem dX6_tell_96 : decode cX6_tell 96 = .ok (.iload 7, 2) := by decide +kernel
theorem dX6_tell_98 : decode cX6_tell 98 = .ok (.invokevirtual 106, 3) := by decide +kernel
theorem dX6_tell_101 : decode cX6_tell 101 = .ok (.istore 8, 2) := by decide +kernel
theorem dX6_tell_103 : decode cX6_tell 103 = .ok (.iconst 0, 1) := by decide +kernel
theorem dX6_tell_104 : decode cX6_tell 104 = .ok (.istore 9, 2) := by decide +kernel
theorem dX6_tell_106 : decode cX6_tell 106 = .ok (.iload 9, 2) := by decide +kernel
theorem dX6_tell_108 : decode cX6_tell 108 = .ok (.aload_n 0, 1) := by decide +kernel
theorem dX6_tell_109 : decode cX6_tell 109 = .ok (.getfield 14, 3) := by decide +kernel
theorem dX6_tell_112 : decode cX6_tell 112 = .ok (.getfield 75, 3) := by decide +kernel
theorem dX6_tell_115 : decode cX6_tell 115 = .ok (.if_icmp .ge 86, 3) := by decide +kernel
theorem dX6_tell_118 : decode cX6_tell 118 = .ok (.iload_n 2, 1) := by decide +kernel
theorem dX6_tell_119 : decode cX6_tell 119 = .ok (.iload 9, 2) := by decide +kernel
theorem dX6_tell_121 : decode cX6_tell 121 = .ok (.invokestatic 67, 3) := by decide +kernel
theorem dX6_tell_124 : decode cX6_tell 124 = .ok (.ifCond .ne 71, 3) := by decide +kernel
theorem dX6_tell_127 : decode cX6_tell 127 = .ok (.aload_n 0, 1) := by decide +kernel
theorem dX6_tell_128 : decode cX6_tell 128 = .ok (.getfield 22, 3) := by decide +kernel
theorem dX6_tell_131 : decode cX6_tell 131 = .ok (.iload 6, 2) := by decide +kernel
theorem dX6_tell_133 : decode cX6_tell 133 = .ok (.iload 7, 2) := by decide +kernel
theorem dX6_tell_135 : decode cX6_tell 135 = .ok (.aload_n 0, 1) := by decide +kernel
theorem dX6_tell_136 : decode cX6_tell 136 = .ok (.getfield 14, 3) := by decide +kernel
theorem dX6_tell_139 : decode cX6_tell 139 = .ok (.iload 8, 2) := by decide +kernel
theorem dX6_tell_141 : decode cX6_tell 141 = .ok (.iload 6, 2) := by decide +kernel
theorem dX6_tell_143 : decode cX6_tell 143 = .ok (.iload 9, 2) := by decide +kernel
theorem dX6_tell_145 : decode cX6_tell 145 = .ok (.iload 7, 2) := by decide +kernel
theorem dX6_tell_147 : decode cX6_tell 147 = .ok (.invokevirtual 109, 3) := by decide +kernel
theorem dX6_tell_150 : decode cX6_tell 150 = .ok (.iadd, 1) := by decide +kernel
theorem dX6_tell_151 : decode cX6_tell 151 = .ok (.iastore, 1) := by decide +kernel
theorem dX6_tell_152 : decode cX6_tell 152 = .ok (.aload_n 0, 1) := by decide +kernel
theorem dX6_tell_153 : decode cX6_tell 153 = .ok (.iload_n 1, 1) := by decide +kernel
theorem dX6_tell_154 : decode cX6_tell 154 = .ok (.iconst 1, 1) := by decide +kernel
theorem dX6_tell_155 : decode cX6_tell 155 = .ok (.iadd, 1) := by decide +kernel
theorem dX6_tell_156 : decode cX6_tell 156 = .ok (.iload_n 2, 1) := by decide +kernel
theorem dX6_tell_157 : decode cX6_tell 157 = .ok (.iconst 1, 1) := by decide +kernel
theorem dX6_tell_158 : decode cX6_tell 158 = .ok (.iload 9, 2) := by decide +kernel
theorem dX6_tell_160 : decode cX6_tell 160 = .ok (.ishl, 1) := by decide +kernel
theorem dX6_tell_161 : decode cX6_tell 161 = .ok (.ior, 1) := by decide +kernel
theorem dX6_tell_162 : decode cX6_tell 162 = .ok (.iload_n 3, 1) := by decide +kernel
theorem dX6_tell_163 : decode cX6_tell 163 = .ok (.aload_n 0, 1) := by decide +kernel
theorem dX6_tell_164 : decode cX6_tell 164 = .ok (.getfield 22, 3) := by decide +kernel
theorem dX6_tell_167 : decode cX6_tell 167 = .ok (.iload 6, 2) := by decide +kernel
theorem dX6_tell_169 : decode cX6_tell 169 = .ok (.iaload, 1) := by decide +kernel
theorem dX6_tell_170 : decode cX6_tell 170 = .ok (.invokestatic 53, 3) := by decide +kernel
theorem dX6_tell_173 : decode cX6_tell 173 = .ok (.iload 4, 2) := by decide +kernel
theorem dX6_tell_175 : decode cX6_tell 175 = .ok (.iload 9, 2) := by decide +kernel
theorem dX6_tell_177 : decode cX6_tell 177 = .ok (.iload 6, 2) := by decide +kernel
theorem dX6_tell_179 : decode cX6_tell 179 = .ok (.invokestatic 71, 3) := by decide +kernel
theorem dX6_tell_182 : decode cX6_tell 182 = .ok (.ishl, 1) := by decide +kernel
theorem dX6_tell_183 : decode cX6_tell 183 = .ok (.ior, 1) := by decide +kernel
theorem dX6_tell_184 : decode cX6_tell 184 = .ok (.invokevirtual 62, 3) := by decide +kernel
theorem dX6_tell_187 : decode cX6_tell 187 = .ok (.aload_n 0, 1) := by decide +kernel
theorem dX6_tell_188 : decode cX6_tell 188 = .ok (.getfield 22, 3) := by decide +kernel
theorem dX6_tell_191 : decode cX6_tell 191 = .ok (.iload 6, 2) := by decide +kernel
theorem dX6_tell_193 : decode cX6_tell 193 = .ok (.iconst 0, 1) := by decide +kernel
theorem dX6_tell_194 : decode cX6_tell 194 = .ok (.iastore, 1) := by decide +kernel
theorem dX6_tell_195 : decode cX6_tell 195 = .ok (.iinc 9 1, 3) := by decide +kernel
theorem dX6_tell_198 : decode cX6_tell 198 = .ok (.goto (-92), 3) := by decide +kernel
theorem dX6_tell_201 : decode cX6_tell 201 = .ok (.return_, 1) := by decide +kernel
theorem dX6_howManyAreInAt_0 : decode cX6_howManyAreInAt 0 = .ok (.iconst 0, 1) := by decide +kernel
theorem dX6_howManyAreInAt_1 : decode cX6_howManyAreInAt 1 = .ok (.istore_n 2, 1) := by decide +kernel
theorem dX6_howManyAreInAt_2 : decode cX6_howManyAreInAt 2 = .ok (.iconst 0, 1) := by decide +kernel
theorem dX6_howManyAreInAt_3 : decode cX6_howManyAreInAt 3 = .ok (.istore_n 3, 1) := by decide +kernel
theorem dX6_howManyAreInAt_4 : decode cX6_howManyAreInAt 4 = .ok (.iload_n 3, 1) := by decide +kernel
theorem dX6_howManyAreInAt_5 : decode cX6_howManyAreInAt 5 = .ok (.aload_n 0, 1) := by decide +kernel
theorem dX6_howManyAreInAt_6 : decode cX6_howManyAreInAt 6 = .ok (.getfield 14, 3) := by decide +kernel
theorem dX6_howManyAreInAt_9 : decode cX6_howManyAreInAt 9 = .ok (.getfield 46, 3) := by decide +kernel
theorem dX6_howManyAreInAt_12 : decode cX6_howManyAreInAt 12 = .ok (.if_icmp .ge 22, 3) := by decide +kernel
theorem dX6_howManyAreInAt_15 : decode cX6_howManyAreInAt 15 = .ok (.aload_n 0, 1) := by decide +kernel
theorem dX6_howManyAreInAt_16 : decode cX6_howManyAreInAt 16 = .ok (.getfield 22, 3) := by decide +kernel
theorem dX6_howManyAreInAt_19 : decode cX6_howManyAreInAt 19 = .ok (.iload_n 3, 1) := by decide +kernel
theorem dX6_howManyAreInAt_20 : decode cX6_howManyAreInAt 20 = .ok (.iaload, 1) := by decide +kernel
theorem dX6_howManyAreInAt_21 : decode cX6_howManyAreInAt 21 = .ok (.iload_n 1, 1) := by decide +kernel
theorem dX6_howManyAreInAt_22 : decode cX6_howManyAreInAt 22 = .ok (.if_icmp .le 6, 3) := by decide +kernel
theorem dX6_howManyAreInAt_25 : decode cX6_howManyAreInAt 25 = .ok (.iinc 2 1, 3) := by decide +kernel
theorem dX6_howManyAreInAt_28 : decode cX6_howManyAreInAt 28 = .ok (.iinc 3 1, 3) := by decide +kernel
theorem dX6_howManyAreInAt_31 : decode cX6_howManyAreInAt 31 = .ok (.goto (-27), 3) := by decide +kernel
theorem dX6_howManyAreInAt_34 : decode cX6_howManyAreInAt 34 = .ok (.iload_n 2, 1) := by decide +kernel
theorem dX6_howManyAreInAt_35 : decode cX6_howManyAreInAt 35 = .ok (.ireturn, 1) := by decide +kernel
theorem dX6_keepIfBetter_0 : decode cX6_keepIfBetter 0 = .ok (.iload_n 1, 1) := by decide +kernel
theorem dX6_keepIfBetter_1 : decode cX6_keepIfBetter 1 = .ok (.aload_n 0, 1) := by decide +kernel
theorem dX6_keepIfBetter_2 : decode cX6_keepIfBetter 2 = .ok (.getfield 35, 3) := by decide +kernel
theorem dX6_keepIfBetter_5 : decode cX6_keepIfBetter 5 = .ok (.if_icmp .lt 19, 3) := by decide +kernel
theorem dX6_keepIfBetter_8 : decode cX6_keepIfBetter 8 = .ok (.iload_n 1, 1) := by decide +kernel
theorem dX6_keepIfBetter_9 : decode cX6_keepIfBetter 9 = .ok (.aload_n 0, 1) := by decide +kernel
theorem dX6_keepIfBetter_10 : decode cX6_keepIfBetter 10 = .ok (.getfield 35, 3) := by decide +kernel
theorem dX6_keepIfBetter_13 : decode cX6_keepIfBetter 13 = .ok (.if_icmp .ne 21, 3) := by decide +kernel
theorem dX6_keepIfBetter_16 : decode cX6_keepIfBetter 16 = .ok (.iload_n 2, 1) := by decide +kernel
theorem dX6_keepIfBetter_17 : decode cX6_keepIfBetter 17 = .ok (.aload_n 0, 1) := by decide +kernel
theorem dX6_keepIfBetter_18 : decode cX6_keepIfBetter 18 = .ok (.getfield 40, 3) := by decide +kernel
theorem dX6_keepIfBetter_21 : decode cX6_keepIfBetter 21 = .ok (.if_icmp .ge 13, 3) := by decide +kernel
theorem dX6_keepIfBetter_24 : decode cX6_keepIfBetter 24 = .ok (.aload_n 0, 1) := by decide +kernel
theorem dX6_keepIfBetter_25 : decode cX6_keepIfBetter 25 = .ok (.iload_n 1, 1) := by decide +kernel
theorem dX6_keepIfBetter_26 : decode cX6_keepIfBetter 26 = .ok (.putfield 35, 3) := by decide +kernel
theorem dX6_keepIfBetter_29 : decode cX6_keepIfBetter 29 = .ok (.aload_n 0, 1) := by decide +kernel
theorem dX6_keepIfBetter_30 : decode cX6_keepIfBetter 30 = .ok (.iload_n 2, 1) := by decide +kernel
theorem dX6_keepIfBetter_31 : decode cX6_keepIfBetter 31 = .ok (.putfield 40, 3) := by decide +kernel
theorem dX6_keepIfBetter_34 : decode cX6_keepIfBetter 34 = .ok (.return_, 1) := by decide +kernel
end
section
theorem dX7_init_0 : decode cX7_init 0 = .ok (.aload_n 0, 1) := by decide +kernel
theorem dX7_init_1 : decode cX7_init 1 = .ok (.invokespecial 3, 3) := by decide +kernel
theorem dX7_init_4 : decode cX7_init 4 = .ok (.aload_n 0, 1) := by decide +kernel
theorem dX7_init_5 : decode cX7_init 5 = .ok (.new 9, 3) := by decide +kernel
theorem dX7_init_8 : decode cX7_init 8 = .ok (.dup, 1) := by decide +kernel
theorem dX7_init_9 : decode cX7_init 9 = .ok (.invokespecial 11, 3) := by decide +kernel
theorem dX7_init_12 : decode cX7_init 12 = .ok (.putfield 12, 3) := by decide +kernel
theorem dX7_init_15 : decode cX7_init 15 = .ok (.aload_n 0, 1) := by decide +kernel
theorem dX7_init_16 : decode cX7_init 16 = .ok (.new 9, 3) := by decide +kernel
theorem dX7_init_19 : decode cX7_init 19 = .ok (.dup, 1) := by decide +kernel
theorem dX7_init_20 : decode cX7_init 20 = .ok (.invokespecial 11, 3) := by decide +kernel
theorem dX7_init_23 : decode cX7_init 23 = .ok (.putfield 16, 3) := by decide +kernel
theorem dX7_init_26 : decode cX7_init 26 = .ok (.aload_n 0, 1) := by decide +kernel
theorem dX7_init_27 : decode cX7_init 27 = .ok (.iconst 0, 1) := by decide +kernel
theorem dX7_init_28 : decode cX7_init 28 = .ok (.putfield 19, 3) := by decide +kernel
theorem dX7_init_31 : decode cX7_init 31 = .ok (.aload_n 0, 1) := by decide +kernel
theorem dX7_init_32 : decode cX7_init 32 = .ok (.new 23, 3) := by decide +kernel
theorem dX7_init_35 : decode cX7_init 35 = .ok (.dup, 1) := by decide +kernel
theorem dX7_init_36 : decode cX7_init 36 = .ok (.invokespecial 25, 3) := by decide +kernel
theorem dX7_init_39 : decode cX7_init 39 = .ok (.putfield 26, 3) := by decide +kernel
theorem dX7_init_42 : decode cX7_init 42 = .ok (.aload_n 0, 1) := by decide +kernel
theorem dX7_init_43 : decode cX7_init 43 = .ok (.new 30, 3) := by decide +kernel
theorem dX7_init_46 : decode cX7_init 46 = .ok (.dup, 1) := by decide +kernel
theorem dX7_init_47 : decode cX7_init 47 = .ok (.aload_n 0, 1) := by decide +kernel
theorem dX7_init_48 : decode cX7_init 48 = .ok (.getfield 26, 3) := by decide +kernel
theorem dX7_init_51 : decode cX7_init 51 = .ok (.invokespecial 32, 3) := by decide +kernel
theorem dX7_init_54 : decode cX7_init 54 = .ok (.putfield 35, 3) := by decide +kernel
theorem dX7_init_57 : decode cX7_init 57 = .ok (.aload_n 0, 1) := by decide +kernel
theorem dX7_init_58 : decode cX7_init 58 = .ok (.new 39, 3) := by decide +kernel
theorem dX7_init_61 : decode cX7_init 61 = .ok (.dup, 1) := by decide +kernel
theorem dX7_init_62 : decode cX7_init 62 = .ok (.invokespecial 41, 3) := by decide +kernel
theorem dX7_init_65 : decode cX7_init 65 = .ok (.putfield 42, 3) := by decide +kernel
theorem dX7_init_68 : decode cX7_init 68 = .ok (.aload_n 0, 1) := by decide +kernel
theorem dX7_init_69 : decode cX7_init 69 = .ok (.new 46, 3) := by decide +kernel
theorem dX7_init_72 : decode cX7_init 72 = .ok (.dup, 1) := by decide +kernel
theorem dX7_init_73 : decode cX7_init 73 = .ok (.invokespecial 48, 3) := by decide +kernel
theorem dX7_init_76 : decode cX7_init 76 = .ok (.putfield 49, 3) := by decide +kernel
theorem dX7_init_79 : decode cX7_init 79 = .ok (.aload_n 0, 1) := by decide +kernel
theorem dX7_init_80 : decode cX7_init 80 = .ok (.iconst 4, 1) := by decide +kernel
theorem dX7_init_81 : decode cX7_init 81 = .ok (.anewarray 53, 3) := by decide +kernel
theorem dX7_init_84 : decode cX7_init 84 = .ok (.putfield 55, 3) := by decide +kernel
theorem dX7_init_87 : decode cX7_init 87 = .ok (.iconst 0, 1) := by decide +kernel
theorem dX7_init_88 : decode cX7_init 88 = .ok (.istore_n 1, 1) := by decide +kernel
theorem dX7_init_89 : decode cX7_init 89 = .ok (.iload_n 1, 1) := by decide +kernel
theorem dX7_init_90 : decode cX7_init 90 = .ok (.iconst 4, 1) := by decide +kernel
theorem dX7_init_91 : decode cX7_init 91 = .ok (.if_icmp .ge 22, 3) := by decide +kernel
theorem dX7_init_94 : decode cX7_init 94 = .ok (.aload_n 0, 1) := by decide +kernel
theorem dX7_init_95 : decode cX7_init 95 = .ok (.getfield 55, 3) := by decide +kernel
theorem dX7_init_98 : decode cX7_init 98 = .ok (.iload_n 1, 1) := by decide +kernel
theorem dX7_init_99 : decode cX7_init 99 = .ok (.new 53, 3) := by decide +kernel
theorem dX7_init_102 : decode cX7_init 102 = .ok (.dup, 1) := by decide +kernel
theorem dX7_init_103 : decode cX7_init 103 = .ok (.invokespecial 59, 3) := by decide +kernel
theorem dX7_init_106 : decode cX7_init 106 = .ok (.aastore, 1) := by decide +kernel
theorem dX7_init_107 : decode cX7_init 107 = .ok (.iinc 1 1, 3) := by decide +kernel
theorem dX7_init_110 : decode cX7_init 110 = .ok (.goto (-21), 3) := by decide +kernel
theorem dX7_init_113 : decode cX7_init 113 = .ok (.return_, 1) := by decide +kernel
theorem dX7_question_0 : decode cX7_question 0 = .ok (.iload_n 1, 1) := by decide +kernel
theorem dX7_question_1 : decode cX7_question 1 = .ok (.iconst 0, 1) := by decide +kernel
theorem dX7_question_2 : decode cX7_question 2 = .ok (.bipush 7, 2) := by decide +kernel
theorem dX7_question_4 : decode cX7_question 4 = .ok (.invokestatic 60, 3) := by decide +kernel
theorem dX7_question_7 : decode cX7_question 7 = .ok (.ifCond .ne 13, 3) := by decide +kernel
theorem dX7_question_10 : decode cX7_question 10 = .ok (.iload_n 2, 1) := by decide +kernel
theorem dX7_question_11 : decode cX7_question 11 = .ok (.iconst 1, 1) := by decide +kernel
theorem dX7_question_12 : decode cX7_question 12 = .ok (.bipush 9, 2) := by decide +kernel
theorem dX7_question_14 : decode cX7_question 14 = .ok (.invokestatic 60, 3) := by decide +kernel
theorem dX7_question_17 : decode cX7_question 17 = .ok (.ifCond .eq 5, 3) := by decide +kernel
theorem dX7_question_20 : decode cX7_question 20 = .ok (.iconst (-1), 1) := by decide +kernel
theorem dX7_question_21 : decode cX7_question 21 = .ok (.ireturn, 1) := by decide +kernel
theorem dX7_question_22 : decode cX7_question 22 = .ok (.aload_n 0, 1) := by decide +kernel
theorem dX7_question_23 : decode cX7_question 23 = .ok (.getfield 12, 3) := by decide +kernel
theorem dX7_question_26 : decode cX7_question 26 = .ok (.getfield 64, 3) := by decide +kernel
theorem dX7_question_29 : decode cX7_question 29 = .ok (.getfield 68, 3) := by decide +kernel
theorem dX7_question_32 : decode cX7_question 32 = .ok (.bipush 8, 2) := by decide +kernel
theorem dX7_question_34 : decode cX7_question 34 = .ok (.if_icmp .lt 6, 3) := by decide +kernel
theorem dX7_question_37 : decode cX7_question 37 = .ok (.bipush (-3), 2) := by decide +kernel
theorem dX7_question_39 : decode cX7_question 39 = .ok (.ireturn, 1) := by decide +kernel
theorem dX7_question_40 : decode cX7_question 40 = .ok (.aload_n 0, 1) := by decide +kernel
theorem dX7_question_41 : decode cX7_question 41 = .ok (.getfield 12, 3) := by decide +kernel
theorem dX7_question_44 : decode cX7_question 44 = .ok (.invokevirtual 74, 3) := by decide +kernel
theorem dX7_question_47 : decode cX7_question 47 = .ok (.aload_n 0, 1) := by decide +kernel
theorem dX7_question_48 : decode cX7_question 48 = .ok (.getfield 12, 3) := by decide +kernel
theorem dX7_question_51 : decode cX7_question 51 = .ok (.getfield 64, 3) := by decide +kernel
theorem dX7_question_54 : decode cX7_question 54 = .ok (.iload_n 1, 1) := by decide +kernel
theorem dX7_question_55 : decode cX7_question 55 = .ok (.iload_n 2, 1) := by decide +kernel
theorem dX7_question_56 : decode cX7_question 56 = .ok (.invokevirtual 77, 3) := by decide +kernel
theorem dX7_question_59 : decode cX7_question 59 = .ok (.ireturn, 1) := by decide +kernel
theorem dX7_crosser_0 : decode cX7_crosser 0 = .ok (.iload_n 1, 1) := by decide +kernel
theorem dX7_crosser_1 : decode cX7_crosser 1 = .ok (.iconst 0, 1) := by decide +kernel
theorem dX7_crosser_2 : decode cX7_crosser 2 = .ok (.iconst 4, 1) := by decide +kernel
theorem dX7_crosser_3 : decode cX7_crosser 3 = .ok (.invokestatic 60, 3) := by decide +kernel
theorem dX7_crosser_6 : decode cX7_crosser 6 = .ok (.ifCond .ne 24, 3) := by decide +kernel
theorem dX7_crosser_9 : decode cX7_crosser 9 = .ok (.iload_n 2, 1) := by decide +kernel
theorem dX7_crosser_10 : decode cX7_crosser 10 = .ok (.iconst 0, 1) := by decide +kernel
theorem dX7_crosser_11 : decode cX7_crosser 11 = .ok (.sipush 255, 3) := by decide +kernel
theorem dX7_crosser_14 : decode cX7_crosser 14 = .ok (.invokestatic 60, 3) := by decide +kernel
theorem dX7_crosser_17 : decode cX7_crosser 17 = .ok (.ifCond .ne 13, 3) := by decide +kernel
theorem dX7_crosser_20 : decode cX7_crosser 20 = .ok (.iload_n 3, 1) := by decide +kernel
theorem dX7_crosser_21 : decode cX7_crosser 21 = .ok (.iconst 0, 1) := by decide +kernel
theorem dX7_crosser_22 : decode cX7_crosser 22 = .ok (.bipush 40, 2) := by decide +kernel
theorem dX7_crosser_24 : decode cX7_crosser 24 = .ok (.invokestatic 60, 3) := by decide +kernel
theorem dX7_crosser_27 : decode cX7_crosser 27 = .ok (.ifCond .eq 5, 3) := by decide +kernel
theorem dX7_crosser_30 : decode cX7_crosser 30 = .ok (.iconst (-1), 1) := by decide +kernel
theorem dX7_crosser_31 : decode cX7_crosser 31 = .ok (.ireturn, 1) := by decide +kernel
theorem dX7_crosser_32 : decode cX7_crosser 32 = .ok (.aload_n 0, 1) := by decide +kernel
theorem dX7_crosser_33 : decode cX7_crosser 33 = .ok (.getfield 12, 3) := by decide +kernel
theorem dX7_crosser_36 : decode cX7_crosser 36 = .ok (.getfield 64, 3) := by decide +kernel
theorem dX7_crosser_39 : decode cX7_crosser 39 = .ok (.getfield 81, 3) := by decide +kernel
theorem dX7_crosser_42 : decode cX7_crosser 42 = .ok (.iconst 5, 1) := by decide +kernel
theorem dX7_crosser_43 : decode cX7_crosser 43 = .ok (.if_icmp .lt 6, 3) := by decide +kernel
theorem dX7_crosser_46 : decode cX7_crosser 46 = .ok (.bipush (-3), 2) := by decide +kernel
theorem dX7_crosser_48 : decode cX7_crosser 48 = .ok (.ireturn, 1) := by decide +kernel
theorem dX7_crosser_49 : decode cX7_crosser 49 = .ok (.aload_n 0, 1) := by decide +kernel
theorem dX7_crosser_50 : decode cX7_crosser 50 = .ok (.getfield 12, 3) := by decide +kernel
theorem dX7_crosser_53 : decode cX7_crosser 53 = .ok (.invokevirtual 74, 3) := by decide +kernel
theorem dX7_crosser_56 : decode cX7_crosser 56 = .ok (.aload_n 0, 1) := by decide +kernel
theorem dX7_crosser_57 : decode cX7_crosser 57 = .ok (.getfield 12, 3) := by decide +kernel
theorem dX7_crosser_60 : decode cX7_crosser 60 = .ok (.getfield 64, 3) := by decide +kernel
theorem dX7_crosser_63 : decode cX7_crosser 63 = .ok (.iload_n 1, 1) := by decide +kernel
theorem dX7_crosser_64 : decode cX7_crosser 64 = .ok (.iload_n 2, 1) := by decide +kernel
theorem dX7_crosser_65 : decode cX7_crosser 65 = .ok (.iload_n 3, 1) := by decide +kernel
theorem dX7_crosser_66 : decode cX7_crosser 66 = .ok (.invokevirtual 84, 3) := by decide +kernel
theorem dX7_crosser_69 : decode cX7_crosser 69 = .ok (.ireturn, 1) := by decide +kernel
theorem dX7_of_0 : decode cX7_of 0 = .ok (.aload_n 0, 1) := by decide +kernel
theorem dX7_of_1 : decode cX7_of 1 = .ok (.getfield 12, 3) := by decide +kernel
theorem dX7_of_4 : decode cX7_of 4 = .ok (.getfield 64, 3) := by decide +kernel
theorem dX7_of_7 : decode cX7_of 7 = .ok (.astore_n 3, 1) := by decide +kernel
theorem dX7_of_8 : decode cX7_of 8 = .ok (.aload_n 3, 1) := by decide +kernel
theorem dX7_of_9 : decode cX7_of 9 = .ok (.iload_n 1, 1) := by decide +kernel
theorem dX7_of_10 : decode cX7_of 10 = .ok (.invokevirtual 88, 3) := by decide +kernel
theorem dX7_of_13 : decode cX7_of 13 = .ok (.ifCond .ne 5, 3) := by decide +kernel
theorem dX7_of_16 : decode cX7_of 16 = .ok (.iconst (-1), 1) := by decide +kernel
theorem dX7_of_17 : decode cX7_of 17 = .ok (.ireturn, 1) := by decide +kernel
theorem dX7_of_18 : decode cX7_of 18 = .ok (.iload_n 2, 1) := by decide +kernel
theorem dX7_of_19 : decode cX7_of 19 = .ok (.tableswitch 53 0 2 #[25, 32, 39], 25) := by decide +kernel
theorem dX7_of_44 : decode cX7_of 44 = .ok (.aload_n 3, 1) := by decide +kernel
theorem dX7_of_45 : decode cX7_of 45 = .ok (.getfield 92, 3) := by decide +kernel
theorem dX7_of_48 : decode cX7_of 48 = .ok (.iload_n 1, 1) := by decide +kernel
theorem dX7_of_49 : decode cX7_of 49 = .ok (.iaload, 1) := by decide +kernel
theorem dX7_of_50 : decode cX7_of 50 = .ok (.ireturn, 1) := by decide +kernel
theorem dX7_of_51 : decode cX7_of 51 = .ok (.aload_n 3, 1) := by decide +kernel
theorem dX7_of_52 : decode cX7_of 52 = .ok (.getfield 96, 3) := by decide +kernel
theorem dX7_of_55 : decode cX7_of 55 = .ok (.iload_n 1, 1) := by decide +kernel
theorem dX7_of_56 : decode cX7_of 56 = .ok (.iaload, 1) := by decide +kernel
theorem dX7_of_57 : decode cX7_of 57 = .ok (.ireturn, 1) := by decide +kernel
theorem dX7_of_58 : decode cX7_of 58 = .ok (.aload_n 3, 1) := by decide +kernel
theorem dX7_of_59 : decode cX7_of 59 = .ok (.iload_n 1, 1) := by decide +kernel
theorem dX7_of_60 : decode cX7_of 60 = .ok (.invokevirtual 99, 3) := by decide +kernel
theorem dX7_of_63 : decode cX7_of 63 = .ok (.ifCond .eq 7, 3) := by decide +kernel
theorem dX7_of_66 : decode cX7_of 66 = .ok (.iconst 1, 1) := by decide +kernel
theorem dX7_of_67 : decode cX7_of 67 = .ok (.goto 4, 3) := by decide +kernel
theorem dX7_of_70 : decode cX7_of 70 = .ok (.iconst 0, 1) := by decide +kernel
theorem dX7_of_71 : decode cX7_of 71 = .ok (.ireturn, 1) := by decide +kernel
theorem dX7_of_72 : decode cX7_of 72 = .ok (.iconst (-1), 1) := by decide +kernel
theorem dX7_of_73 : decode cX7_of 73 = .ok (.ireturn, 1) := by decide +kernel
theorem dX7_at_0 : decode cX7_at 0 = .ok (.aload_n 0, 1) := by decide +kernel
theorem dX7_at_1 : decode cX7_at 1 = .ok (.getfield 12, 3) := by decide +kernel
theorem dX7_at_4 : decode cX7_at 4 = .ok (.getfield 64, 3) := by decide +kernel
theorem dX7_at_7 : decode cX7_at 7 = .ok (.astore_n 3, 1) := by decide +kernel
theorem dX7_at_8 : decode cX7_at 8 = .ok (.aload_n 3, 1) := by decide +kernel
theorem dX7_at_9 : decode cX7_at 9 = .ok (.iload_n 1, 1) := by decide +kernel
theorem dX7_at_10 : decode cX7_at 10 = .ok (.invokevirtual 102, 3) := by decide +kernel
theorem dX7_at_13 : decode cX7_at 13 = .ok (.ifCond .ne 5, 3) := by decide +kernel
theorem dX7_at_16 : decode cX7_at 16 = .ok (.iconst (-1), 1) := by decide +kernel
theorem dX7_at_17 : decode cX7_at 17 = .ok (.ireturn, 1) := by decide +kernel
theorem dX7_at_18 : decode cX7_at 18 = .ok (.iload_n 2, 1) := by decide +kernel
theorem dX7_at_19 : decode cX7_at 19 = .ok (.tableswitch 83 0 4 #[33, 40, 47, 54, 61], 33) := by decide +kernel
theorem dX7_at_52 : decode cX7_at 52 = .ok (.aload_n 3, 1) := by decide +kernel
theorem dX7_at_53 : decode cX7_at 53 = .ok (.getfield 105, 3) := by decide +kernel
theorem dX7_at_56 : decode cX7_at 56 = .ok (.iload_n 1, 1) := by decide +kernel
theorem dX7_at_57 : decode cX7_at 57 = .ok (.iaload, 1) := by decide +kernel
theorem dX7_at_58 : decode cX7_at 58 = .ok (.ireturn, 1) := by decide +kernel
theorem dX7_at_59 : decode cX7_at 59 = .ok (.aload_n 3, 1) := by decide +kernel
theorem dX7_at_60 : decode cX7_at 60 = .ok (.getfield 108, 3) := by decide +kernel
theorem dX7_at_63 : decode cX7_at 63 = .ok (.iload_n 1, 1) := by decide +kernel
theorem dX7_at_64 : decode cX7_at 64 = .ok (.iaload, 1) := by decide +kernel
theorem dX7_at_65 : decode cX7_at 65 = .ok (.ireturn, 1) := by decide +kernel
theorem dX7_at_66 : decode cX7_at 66 = .ok (.aload_n 3, 1) := by decide +kernel
theorem dX7_at_67 : decode cX7_at 67 = .ok (.getfield 111, 3) := by decide +kernel
theorem dX7_at_70 : decode cX7_at 70 = .ok (.iload_n 1, 1) := by decide +kernel
theorem dX7_at_71 : decode cX7_at 71 = .ok (.iaload, 1) := by decide +kernel
theorem dX7_at_72 : decode cX7_at 72 = .ok (.ireturn, 1) := by decide +kernel
theorem dX7_at_73 : decode cX7_at 73 = .ok (.aload_n 3, 1) := by decide +kernel
theorem dX7_at_74 : decode cX7_at 74 = .ok (.getfield 114, 3) := by decide +kernel
theorem dX7_at_77 : decode cX7_at 77 = .ok (.iload_n 1, 1) := by decide +kernel
theorem dX7_at_78 : decode cX7_at 78 = .ok (.iaload, 1) := by decide +kernel
theorem dX7_at_79 : decode cX7_at 79 = .ok (.ireturn, 1) := by decide +kernel
theorem dX7_at_80 : decode cX7_at 80 = .ok (.aload_n 3, 1) := by decide +kernel
theorem dX7_at_81 : decode cX7_at 81 = .ok (.getfield 114, 3) := by decide +kernel
theorem dX7_at_84 : decode cX7_at 84 = .ok (.iload_n 1, 1) := by decide +kernel
theorem dX7_at_85 : decode cX7_at 85 = .ok (.iaload, 1) := by decide +kernel
theorem dX7_at_86 : decode cX7_at 86 = .ok (.iconst 1, 1) := by decide +kernel
theorem dX7_at_87 : decode cX7_at 87 = .ok (.if_icmp .ne 12, 3) := by decide +kernel
theorem dX7_at_90 : decode cX7_at 90 = .ok (.aload_n 3, 1) := by decide +kernel
theorem dX7_at_91 : decode cX7_at 91 = .ok (.getfield 117, 3) := by decide +kernel
theorem dX7_at_94 : decode cX7_at 94 = .ok (.iload_n 1, 1) := by decide +kernel
theorem dX7_at_95 : decode cX7_at 95 = .ok (.iaload, 1) := by decide +kernel
theorem dX7_at_96 : decode cX7_at 96 = .ok (.goto 5, 3) := by decide +kernel
theorem dX7_at_99 : decode cX7_at 99 = .ok (.bipush (-4), 2) := by decide +kernel
theorem dX7_at_101 : decode cX7_at 101 = .ok (.ireturn, 1) := by decide +kernel
theorem dX7_at_102 : decode cX7_at 102 = .ok (.iconst (-1), 1) := by decide +kernel
theorem dX7_at_103 : decode cX7_at 103 = .ok (.ireturn, 1) := by decide +kernel
theorem dX7_takes_0 : decode cX7_takes 0 = .ok (.aload_n 0, 1) := by decide +kernel
theorem dX7_takes_1 : decode cX7_takes 1 = .ok (.getfield 12, 3) := by decide +kernel
theorem dX7_takes_4 : decode cX7_takes 4 = .ok (.getfield 64, 3) := by decide +kernel
theorem dX7_takes_7 : decode cX7_takes 7 = .ok (.astore_n 3, 1) := by decide +kernel
theorem dX7_takes_8 : decode cX7_takes 8 = .ok (.aload_n 3, 1) := by decide +kernel
theorem dX7_takes_9 : decode cX7_takes 9 = .ok (.iload_n 1, 1) := by decide +kernel
theorem dX7_takes_10 : decode cX7_takes 10 = .ok (.invokevirtual 102, 3) := by decide +kernel
theorem dX7_takes_13 : decode cX7_takes 13 = .ok (.ifCond .eq 11, 3) := by decide +kernel
theorem dX7_takes_16 : decode cX7_takes 16 = .ok (.aload_n 3, 1) := by decide +kernel
theorem dX7_takes_17 : decode cX7_takes 17 = .ok (.iload_n 2, 1) := by decide +kernel
theorem dX7_takes_18 : decode cX7_takes 18 = .ok (.invokevirtual 88, 3) := by decide +kernel
theorem dX7_takes_21 : decode cX7_takes 21 = .ok (.ifCond .ne 5, 3) := by decide +kernel
theorem dX7_takes_24 : decode cX7_takes 24 = .ok (.iconst (-1), 1) := by decide +kernel
theorem dX7_takes_25 : decode cX7_takes 25 = .ok (.ireturn, 1) := by decide +kernel
theorem dX7_takes_26 : decode cX7_takes 26 = .ok (.aload_n 3, 1) := by decide +kernel
theorem dX7_takes_27 : decode cX7_takes 27 = .ok (.iload_n 1, 1) := by decide +kernel
theorem dX7_takes_28 : decode cX7_takes 28 = .ok (.iload_n 2, 1) := by decide +kernel
theorem dX7_takes_29 : decode cX7_takes 29 = .ok (.invokevirtual 120, 3) := by decide +kernel
theorem dX7_takes_32 : decode cX7_takes 32 = .ok (.ireturn, 1) := by decide +kernel
theorem dX7_type_0 : decode cX7_type 0 = .ok (.iload_n 1, 1) := by decide +kernel
theorem dX7_type_1 : decode cX7_type 1 = .ok (.bipush 32, 2) := by decide +kernel
theorem dX7_type_3 : decode cX7_type 3 = .ok (.bipush 126, 2) := by decide +kernel
theorem dX7_type_5 : decode cX7_type 5 = .ok (.invokestatic 60, 3) := by decide +kernel
theorem dX7_type_8 : decode cX7_type 8 = .ok (.ifCond .eq 5, 3) := by decide +kernel
theorem dX7_type_11 : decode cX7_type 11 = .ok (.iconst (-1), 1) := by decide +kernel
theorem dX7_type_12 : decode cX7_type 12 = .ok (.ireturn, 1) := by decide +kernel
theorem dX7_type_13 : decode cX7_type 13 = .ok (.aload_n 0, 1) := by decide +kernel
theorem dX7_type_14 : decode cX7_type 14 = .ok (.getfield 26, 3) := by decide +kernel
theorem dX7_type_17 : decode cX7_type 17 = .ok (.getfield 123, 3) := by decide +kernel
theorem dX7_type_20 : decode cX7_type 20 = .ok (.bipush 90, 2) := by decide +kernel
theorem dX7_type_22 : decode cX7_type 22 = .ok (.if_icmp .lt 6, 3) := by decide +kernel
theorem dX7_type_25 : decode cX7_type 25 = .ok (.bipush (-3), 2) := by decide +kernel
theorem dX7_type_27 : decode cX7_type 27 = .ok (.ireturn, 1) := by decide +kernel
theorem dX7_type_28 : decode cX7_type 28 = .ok (.aload_n 0, 1) := by decide +kernel
theorem dX7_type_29 : decode cX7_type 29 = .ok (.getfield 26, 3) := by decide +kernel
theorem dX7_type_32 : decode cX7_type 32 = .ok (.iload_n 1, 1) := by decide +kernel
theorem dX7_type_33 : decode cX7_type 33 = .ok (.invokevirtual 126, 3) := by decide +kernel
theorem dX7_type_36 : decode cX7_type 36 = .ok (.ireturn, 1) := by decide +kernel
theorem dX7_ford_0 : decode cX7_ford 0 = .ok (.aload_n 0, 1) := by decide +kernel
theorem dX7_ford_1 : decode cX7_ford 1 = .ok (.getfield 35, 3) := by decide +kernel
theorem dX7_ford_4 : decode cX7_ford 4 = .ok (.invokevirtual 130, 3) := by decide +kernel
theorem dX7_ford_7 : decode cX7_ford 7 = .ok (.istore_n 1, 1) := by decide +kernel
theorem dX7_ford_8 : decode cX7_ford 8 = .ok (.aload_n 0, 1) := by decide +kernel
theorem dX7_ford_9 : decode cX7_ford 9 = .ok (.getfield 26, 3) := by decide +kernel
theorem dX7_ford_12 : decode cX7_ford 12 = .ok (.iconst 0, 1) := by decide +kernel
theorem dX7_ford_13 : decode cX7_ford 13 = .ok (.putfield 123, 3) := by decide +kernel
theorem dX7_ford_16 : decode cX7_ford 16 = .ok (.iload_n 1, 1) := by decide +kernel
theorem dX7_ford_17 : decode cX7_ford 17 = .ok (.ifCond .ne 14, 3) := by decide +kernel
theorem dX7_ford_20 : decode cX7_ford 20 = .ok (.bipush (-20), 2) := by decide +kernel
theorem dX7_ford_22 : decode cX7_ford 22 = .ok (.aload_n 0, 1) := by decide +kernel
theorem dX7_ford_23 : decode cX7_ford 23 = .ok (.getfield 35, 3) := by decide +kernel
theorem dX7_ford_26 : decode cX7_ford 26 = .ok (.getfield 134, 3) := by decide +kernel
theorem dX7_ford_29 : decode cX7_ford 29 = .ok (.isub, 1) := by decide +kernel
theorem dX7_ford_30 : decode cX7_ford 30 = .ok (.ireturn, 1) := by decide +kernel
theorem dX7_ford_31 : decode cX7_ford 31 = .ok (.aload_n 0, 1) := by decide +kernel
theorem dX7_ford_32 : decode cX7_ford 32 = .ok (.getfield 12, 3) := by decide +kernel
theorem dX7_ford_35 : decode cX7_ford 35 = .ok (.invokevirtual 74, 3) := by decide +kernel
theorem dX7_ford_38 : decode cX7_ford 38 = .ok (.aload_n 0, 1) := by decide +kernel
theorem dX7_ford_39 : decode cX7_ford 39 = .ok (.getfield 12, 3) := by decide +kernel
theorem dX7_ford_42 : decode cX7_ford 42 = .ok (.getfield 64, 3) := by decide +kernel
theorem dX7_ford_45 : decode cX7_ford 45 = .ok (.aload_n 0, 1) := by decide +kernel
theorem dX7_ford_46 : decode cX7_ford 46 = .ok (.getfield 35, 3) := by decide +kernel
theorem dX7_ford_49 : decode cX7_ford 49 = .ok (.getfield 137, 3) := by decide +kernel
theorem dX7_ford_52 : decode cX7_ford 52 = .ok (.invokevirtual 140, 3) := by decide +kernel
theorem dX7_ford_55 : decode cX7_ford 55 = .ok (.aload_n 0, 1) := by decide +kernel
theorem dX7_ford_56 : decode cX7_ford 56 = .ok (.getfield 12, 3) := by decide +kernel
theorem dX7_ford_59 : decode cX7_ford 59 = .ok (.getfield 64, 3) := by decide +kernel
theorem dX7_ford_62 : decode cX7_ford 62 = .ok (.getfield 68, 3) := by decide +kernel
theorem dX7_ford_65 : decode cX7_ford 65 = .ok (.ireturn, 1) := by decide +kernel
theorem dX7_count_0 : decode cX7_count 0 = .ok (.aload_n 0, 1) := by decide +kernel
theorem dX7_count_1 : decode cX7_count 1 = .ok (.getfield 12, 3) := by decide +kernel
theorem dX7_count_4 : decode cX7_count 4 = .ok (.getfield 64, 3) := by decide +kernel
theorem dX7_count_7 : decode cX7_count 7 = .ok (.astore_n 2, 1) := by decide +kernel
theorem dX7_count_8 : decode cX7_count 8 = .ok (.iload_n 1, 1) := by decide +kernel
theorem dX7_count_9 : decode cX7_count 9 = .ok (.tableswitch 93 0 7 #[47, 52, 57, 62, 67, 73, 79, 85], 47) := by decide +kernel
theorem dX7_count_56 : decode cX7_count 56 = .ok (.aload_n 2, 1) := by decide +kernel
theorem dX7_count_57 : decode cX7_count 57 = .ok (.getfield 68, 3) := by decide +kernel
theorem dX7_count_60 : decode cX7_count 60 = .ok (.ireturn, 1) := by decide +kernel
theorem dX7_count_61 : decode cX7_count 61 = .ok (.aload_n 2, 1) := by decide +kernel
theorem dX7_count_62 : decode cX7_count 62 = .ok (.getfield 81, 3) := by decide +kernel
theorem dX7_count_65 : decode cX7_count 65 = .ok (.ireturn, 1) := by decide +kernel
theorem dX7_count_66 : decode cX7_count 66 = .ok (.aload_n 2, 1) := by decide +kernel
theorem dX7_count_67 : decode cX7_count 67 = .ok (.getfield 144, 3) := by decide +kernel
theorem dX7_count_70 : decode cX7_count 70 = .ok (.ireturn, 1) := by decide +kernel
theorem dX7_count_71 : decode cX7_count 71 = .ok (.aload_n 2, 1) := by decide +kernel
theorem dX7_count_72 : decode cX7_count 72 = .ok (.getfield 147, 3) := by decide +kernel
theorem dX7_count_75 : decode cX7_count 75 = .ok (.ireturn, 1) := by decide +kernel
theorem dX7_count_76 : decode cX7_count 76 = .ok (.aload_n 2, 1) := by decide +kernel
theorem dX7_count_77 : decode cX7_count 77 = .ok (.iconst 0, 1) := by decide +kernel
theorem dX7_count_78 : decode cX7_count 78 = .ok (.invokevirtual 150, 3) := by decide +kernel
theorem dX7_count_81 : decode cX7_count 81 = .ok (.ireturn, 1) := by decide +kernel
theorem dX7_count_82 : decode cX7_count 82 = .ok (.aload_n 2, 1) := by decide +kernel
theorem dX7_count_83 : decode cX7_count 83 = .ok (.iconst 1, 1) := by decide +kernel
theorem dX7_count_84 : decode cX7_count 84 = .ok (.invokevirtual 150, 3) := by decide +kernel
theorem dX7_count_87 : decode cX7_count 87 = .ok (.ireturn, 1) := by decide +kernel
theorem dX7_count_88 : decode cX7_count 88 = .ok (.aload_n 2, 1) := by decide +kernel
theorem dX7_count_89 : decode cX7_count 89 = .ok (.iconst 2, 1) := by decide +kernel
theorem dX7_count_90 : decode cX7_count 90 = .ok (.invokevirtual 150, 3) := by decide +kernel
theorem dX7_count_93 : decode cX7_count 93 = .ok (.ireturn, 1) := by decide +kernel
theorem dX7_count_94 : decode cX7_count 94 = .ok (.aload_n 0, 1) := by decide +kernel
theorem dX7_count_95 : decode cX7_count 95 = .ok (.getfield 12, 3) := by decide +kernel
theorem dX7_count_98 : decode cX7_count 98 = .ok (.getfield 153, 3) := by decide +kernel
theorem dX7_count_101 : decode cX7_count 101 = .ok (.ireturn, 1) := by decide +kernel
theorem dX7_count_102 : decode cX7_count 102 = .ok (.iconst (-1), 1) := by decide +kernel
theorem dX7_count_103 : decode cX7_count 103 = .ok (.ireturn, 1) := by decide +kernel
theorem dX7_hours_0 : decode cX7_hours 0 = .ok (.aload_n 0, 1) := by decide +kernel
theorem dX7_hours_1 : decode cX7_hours 1 = .ok (.iload_n 1, 1) := by decide +kernel
theorem dX7_hours_2 : decode cX7_hours 2 = .ok (.iconst 0, 1) := by decide +kernel
theorem dX7_hours_3 : decode cX7_hours 3 = .ok (.invokevirtual 156, 3) := by decide +kernel
theorem dX7_hours_6 : decode cX7_hours 6 = .ok (.ireturn, 1) := by decide +kernel
theorem dX7_teach_0 : decode cX7_teach 0 = .ok (.aload_n 0, 1) := by decide +kernel
theorem dX7_teach_1 : decode cX7_teach 1 = .ok (.getfield 12, 3) := by decide +kernel
theorem dX7_teach_4 : decode cX7_teach 4 = .ok (.getfield 64, 3) := by decide +kernel
theorem dX7_teach_7 : decode cX7_teach 7 = .ok (.astore_n 3, 1) := by decide +kernel
theorem dX7_teach_8 : decode cX7_teach 8 = .ok (.aload_n 3, 1) := by decide +kernel
theorem dX7_teach_9 : decode cX7_teach 9 = .ok (.iload_n 1, 1) := by decide +kernel
theorem dX7_teach_10 : decode cX7_teach 10 = .ok (.invokevirtual 102, 3) := by decide +kernel
theorem dX7_teach_13 : decode cX7_teach 13 = .ok (.ifCond .eq 13, 3) := by decide +kernel
theorem dX7_teach_16 : decode cX7_teach 16 = .ok (.iload_n 2, 1) := by decide +kernel
theorem dX7_teach_17 : decode cX7_teach 17 = .ok (.iconst 0, 1) := by decide +kernel
theorem dX7_teach_18 : decode cX7_teach 18 = .ok (.bipush 7, 2) := by decide +kernel
theorem dX7_teach_20 : decode cX7_teach 20 = .ok (.invokestatic 60, 3) := by decide +kernel
theorem dX7_teach_23 : decode cX7_teach 23 = .ok (.ifCond .eq 5, 3) := by decide +kernel
theorem dX7_teach_26 : decode cX7_teach 26 = .ok (.iconst (-1), 1) := by decide +kernel
theorem dX7_teach_27 : decode cX7_teach 27 = .ok (.ireturn, 1) := by decide +kernel
theorem dX7_teach_28 : decode cX7_teach 28 = .ok (.aload_n 3, 1) := by decide +kernel
theorem dX7_teach_29 : decode cX7_teach 29 = .ok (.getfield 108, 3) := by decide +kernel
theorem dX7_teach_32 : decode cX7_teach 32 = .ok (.iload_n 1, 1) := by decide +kernel
theorem dX7_teach_33 : decode cX7_teach 33 = .ok (.iaload, 1) := by decide +kernel
theorem dX7_teach_34 : decode cX7_teach 34 = .ok (.iload_n 2, 1) := by decide +kernel
theorem dX7_teach_35 : decode cX7_teach 35 = .ok (.invokestatic 160, 3) := by decide +kernel
theorem dX7_teach_38 : decode cX7_teach 38 = .ok (.ifCond .eq 6, 3) := by decide +kernel
theorem dX7_teach_41 : decode cX7_teach 41 = .ok (.bipush (-2), 2) := by decide +kernel
theorem dX7_teach_43 : decode cX7_teach 43 = .ok (.ireturn, 1) := by decide +kernel
theorem dX7_teach_44 : decode cX7_teach 44 = .ok (.aload_n 0, 1) := by decide +kernel
theorem dX7_teach_45 : decode cX7_teach 45 = .ok (.getfield 12, 3) := by decide +kernel
theorem dX7_teach_48 : decode cX7_teach 48 = .ok (.invokevirtual 164, 3) := by decide +kernel
theorem dX7_teach_51 : decode cX7_teach 51 = .ok (.aload_n 3, 1) := by decide +kernel
theorem dX7_teach_52 : decode cX7_teach 52 = .ok (.getfield 108, 3) := by decide +kernel
theorem dX7_teach_55 : decode cX7_teach 55 = .ok (.iload_n 1, 1) := by decide +kernel
theorem dX7_teach_56 : decode cX7_teach 56 = .ok (.dup2, 1) := by decide +kernel
theorem dX7_teach_57 : decode cX7_teach 57 = .ok (.iaload, 1) := by decide +kernel
theorem dX7_teach_58 : decode cX7_teach 58 = .ok (.iconst 1, 1) := by decide +kernel
theorem dX7_teach_59 : decode cX7_teach 59 = .ok (.iload_n 2, 1) := by decide +kernel
theorem dX7_teach_60 : decode cX7_teach 60 = .ok (.ishl, 1) := by decide +kernel
theorem dX7_teach_61 : decode cX7_teach 61 = .ok (.ior, 1) := by decide +kernel
theorem dX7_teach_62 : decode cX7_teach 62 = .ok (.iastore, 1) := by decide +kernel
theorem dX7_teach_63 : decode cX7_teach 63 = .ok (.aload_n 3, 1) := by decide +kernel
theorem dX7_teach_64 : decode cX7_teach 64 = .ok (.getfield 108, 3) := by decide +kernel
theorem dX7_teach_67 : decode cX7_teach 67 = .ok (.iload_n 1, 1) := by decide +kernel
theorem dX7_teach_68 : decode cX7_teach 68 = .ok (.iaload, 1) := by decide +kernel
theorem dX7_teach_69 : decode cX7_teach 69 = .ok (.ireturn, 1) := by decide +kernel
theorem dX7_later_0 : decode cX7_later 0 = .ok (.aload_n 0, 1) := by decide +kernel
theorem dX7_later_1 : decode cX7_later 1 = .ok (.getfield 12, 3) := by decide +kernel
theorem dX7_later_4 : decode cX7_later 4 = .ok (.getfield 64, 3) := by decide +kernel
theorem dX7_later_7 : decode cX7_later 7 = .ok (.astore_n 3, 1) := by decide +kernel
theorem dX7_later_8 : decode cX7_later 8 = .ok (.aload_n 3, 1) := by decide +kernel
theorem dX7_later_9 : decode cX7_later 9 = .ok (.iload_n 1, 1) := by decide +kernel
theorem dX7_later_10 : decode cX7_later 10 = .ok (.invokevirtual 102, 3) := by decide +kernel
theorem dX7_later_13 : decode cX7_later 13 = .ok (.ifCond .eq 13, 3) := by decide +kernel
theorem dX7_later_16 : decode cX7_later 16 = .ok (.iload_n 2, 1) := by decide +kernel
theorem dX7_later_17 : decode cX7_later 17 = .ok (.iconst 0, 1) := by decide +kernel
theorem dX7_later_18 : decode cX7_later 18 = .ok (.bipush 40, 2) := by decide +kernel
theorem dX7_later_20 : decode cX7_later 20 = .ok (.invokestatic 60, 3) := by decide +kernel
theorem dX7_later_23 : decode cX7_later 23 = .ok (.ifCond .eq 5, 3) := by decide +kernel
theorem dX7_later_26 : decode cX7_later 26 = .ok (.iconst (-1), 1) := by decide +kernel
theorem dX7_later_27 : decode cX7_later 27 = .ok (.ireturn, 1) := by decide +kernel
theorem dX7_later_28 : decode cX7_later 28 = .ok (.aload_n 3, 1) := by decide +kernel
theorem dX7_later_29 : decode cX7_later 29 = .ok (.getfield 111, 3) := by decide +kernel
theorem dX7_later_32 : decode cX7_later 32 = .ok (.iload_n 1, 1) := by decide +kernel
theorem dX7_later_33 : decode cX7_later 33 = .ok (.iaload, 1) := by decide +kernel
theorem dX7_later_34 : decode cX7_later 34 = .ok (.istore 4, 2) := by decide +kernel
theorem dX7_later_36 : decode cX7_later 36 = .ok (.aload_n 3, 1) := by decide +kernel
theorem dX7_later_37 : decode cX7_later 37 = .ok (.getfield 114, 3) := by decide +kernel
theorem dX7_later_40 : decode cX7_later 40 = .ok (.iload_n 1, 1) := by decide +kernel
theorem dX7_later_41 : decode cX7_later 41 = .ok (.iaload, 1) := by decide +kernel
theorem dX7_later_42 : decode cX7_later 42 = .ok (.ifCond .ne 9, 3) := by decide +kernel
theorem dX7_later_45 : decode cX7_later 45 = .ok (.iload 4, 2) := by decide +kernel
theorem dX7_later_47 : decode cX7_later 47 = .ok (.iload_n 2, 1) := by decide +kernel
theorem dX7_later_48 : decode cX7_later 48 = .ok (.if_icmp .ne 6, 3) := by decide +kernel
theorem dX7_later_51 : decode cX7_later 51 = .ok (.bipush (-2), 2) := by decide +kernel
theorem dX7_later_53 : decode cX7_later 53 = .ok (.ireturn, 1) := by decide +kernel
theorem dX7_later_54 : decode cX7_later 54 = .ok (.aload_n 0, 1) := by decide +kernel
theorem dX7_later_55 : decode cX7_later 55 = .ok (.getfield 12, 3) := by decide +kernel
theorem dX7_later_58 : decode cX7_later 58 = .ok (.invokevirtual 164, 3) := by decide +kernel
theorem dX7_later_61 : decode cX7_later 61 = .ok (.aload_n 3, 1) := by decide +kernel
theorem dX7_later_62 : decode cX7_later 62 = .ok (.getfield 111, 3) := by decide +kernel
theorem dX7_later_65 : decode cX7_later 65 = .ok (.iload_n 1, 1) := by decide +kernel
theorem dX7_later_66 : decode cX7_later 66 = .ok (.iload_n 2, 1) := by decide +kernel
theorem dX7_later_67 : decode cX7_later 67 = .ok (.iastore, 1) := by decide +kernel
theorem dX7_later_68 : decode cX7_later 68 = .ok (.iload 4, 2) := by decide +kernel
theorem dX7_later_70 : decode cX7_later 70 = .ok (.ireturn, 1) := by decide +kernel
theorem dX7_again_0 : decode cX7_again 0 = .ok (.aload_n 0, 1) := by decide +kernel
theorem dX7_again_1 : decode cX7_again 1 = .ok (.getfield 12, 3) := by decide +kernel
theorem dX7_again_4 : decode cX7_again 4 = .ok (.getfield 64, 3) := by decide +kernel
theorem dX7_again_7 : decode cX7_again 7 = .ok (.astore_n 2, 1) := by decide +kernel
theorem dX7_again_8 : decode cX7_again 8 = .ok (.aload_n 2, 1) := by decide +kernel
theorem dX7_again_9 : decode cX7_again 9 = .ok (.iload_n 1, 1) := by decide +kernel
theorem dX7_again_10 : decode cX7_again 10 = .ok (.invokevirtual 88, 3) := by decide +kernel
theorem dX7_again_13 : decode cX7_again 13 = .ok (.ifCond .ne 5, 3) := by decide +kernel
theorem dX7_again_16 : decode cX7_again 16 = .ok (.iconst (-1), 1) := by decide +kernel
theorem dX7_again_17 : decode cX7_again 17 = .ok (.ireturn, 1) := by decide +kernel
theorem dX7_again_18 : decode cX7_again 18 = .ok (.aload_n 2, 1) := by decide +kernel
theorem dX7_again_19 : decode cX7_again 19 = .ok (.iload_n 1, 1) := by decide +kernel
theorem dX7_again_20 : decode cX7_again 20 = .ok (.invokevirtual 99, 3) := by decide +kernel
theorem dX7_again_23 : decode cX7_again 23 = .ok (.ifCond .ne 6, 3) := by decide +kernel
theorem dX7_again_26 : decode cX7_again 26 = .ok (.bipush (-2), 2) := by decide +kernel
theorem dX7_again_28 : decode cX7_again 28 = .ok (.ireturn, 1) := by decide +kernel
theorem dX7_again_29 : decode cX7_again 29 = .ok (.aload_n 0, 1) := by decide +kernel
theorem dX7_again_30 : decode cX7_again 30 = .ok (.getfield 12, 3) := by decide +kernel
theorem dX7_again_33 : decode cX7_again 33 = .ok (.invokevirtual 164, 3) := by decide +kernel
theorem dX7_again_36 : decode cX7_again 36 = .ok (.aload_n 2, 1) := by decide +kernel
theorem dX7_again_37 : decode cX7_again 37 = .ok (.iload_n 1, 1) := by decide +kernel
theorem dX7_again_38 : decode cX7_again 38 = .ok (.invokevirtual 167, 3) := by decide +kernel
theorem dX7_again_41 : decode cX7_again 41 = .ok (.aload_n 2, 1) := by decide +kernel
theorem dX7_again_42 : decode cX7_again 42 = .ok (.getfield 147, 3) := by decide +kernel
theorem dX7_again_45 : decode cX7_again 45 = .ok (.ireturn, 1) := by decide +kernel
theorem dX7_put_0 : decode cX7_put 0 = .ok (.aload_n 0, 1) := by decide +kernel
theorem dX7_put_1 : decode cX7_put 1 = .ok (.getfield 12, 3) := by decide +kernel
theorem dX7_put_4 : decode cX7_put 4 = .ok (.getfield 64, 3) := by decide +kernel
theorem dX7_put_7 : decode cX7_put 7 = .ok (.astore_n 3, 1) := by decide +kernel
theorem dX7_put_8 : decode cX7_put 8 = .ok (.aload_n 3, 1) := by decide +kernel
theorem dX7_put_9 : decode cX7_put 9 = .ok (.iload_n 1, 1) := by decide +kernel
theorem dX7_put_10 : decode cX7_put 10 = .ok (.invokevirtual 88, 3) := by decide +kernel
theorem dX7_put_13 : decode cX7_put 13 = .ok (.ifCond .eq 13, 3) := by decide +kernel
theorem dX7_put_16 : decode cX7_put 16 = .ok (.iload_n 2, 1) := by decide +kernel
theorem dX7_put_17 : decode cX7_put 17 = .ok (.iconst 1, 1) := by decide +kernel
theorem dX7_put_18 : decode cX7_put 18 = .ok (.bipush 9, 2) := by decide +kernel
theorem dX7_put_20 : decode cX7_put 20 = .ok (.invokestatic 60, 3) := by decide +kernel
theorem dX7_put_23 : decode cX7_put 23 = .ok (.ifCond .eq 5, 3) := by decide +kernel
theorem dX7_put_26 : decode cX7_put 26 = .ok (.iconst (-1), 1) := by decide +kernel
theorem dX7_put_27 : decode cX7_put 27 = .ok (.ireturn, 1) := by decide +kernel
theorem dX7_put_28 : decode cX7_put 28 = .ok (.aload_n 3, 1) := by decide +kernel
theorem dX7_put_29 : decode cX7_put 29 = .ok (.getfield 96, 3) := by decide +kernel
theorem dX7_put_32 : decode cX7_put 32 = .ok (.iload_n 1, 1) := by decide +kernel
theorem dX7_put_33 : decode cX7_put 33 = .ok (.iaload, 1) := by decide +kernel
theorem dX7_put_34 : decode cX7_put 34 = .ok (.istore 4, 2) := by decide +kernel
theorem dX7_put_36 : decode cX7_put 36 = .ok (.iload 4, 2) := by decide +kernel
theorem dX7_put_38 : decode cX7_put 38 = .ok (.iload_n 2, 1) := by decide +kernel
theorem dX7_put_39 : decode cX7_put 39 = .ok (.if_icmp .ne 6, 3) := by decide +kernel
theorem dX7_put_42 : decode cX7_put 42 = .ok (.bipush (-2), 2) := by decide +kernel
theorem dX7_put_44 : decode cX7_put 44 = .ok (.ireturn, 1) := by decide +kernel
theorem dX7_put_45 : decode cX7_put 45 = .ok (.aload_n 0, 1) := by decide +kernel
theorem dX7_put_46 : decode cX7_put 46 = .ok (.getfield 12, 3) := by decide +kernel
theorem dX7_put_49 : decode cX7_put 49 = .ok (.invokevirtual 164, 3) := by decide +kernel
theorem dX7_put_52 : decode cX7_put 52 = .ok (.aload_n 3, 1) := by decide +kernel
theorem dX7_put_53 : decode cX7_put 53 = .ok (.getfield 96, 3) := by decide +kernel
theorem dX7_put_56 : decode cX7_put 56 = .ok (.iload_n 1, 1) := by decide +kernel
theorem dX7_put_57 : decode cX7_put 57 = .ok (.iload_n 2, 1) := by decide +kernel
theorem dX7_put_58 : decode cX7_put 58 = .ok (.iastore, 1) := by decide +kernel
theorem dX7_put_59 : decode cX7_put 59 = .ok (.iload 4, 2) := by decide +kernel
theorem dX7_put_61 : decode cX7_put 61 = .ok (.ireturn, 1) := by decide +kernel
theorem dX7_drift_0 : decode cX7_drift 0 = .ok (.aload_n 0, 1) := by decide +kernel
theorem dX7_drift_1 : decode cX7_drift 1 = .ok (.iload_n 1, 1) := by decide +kernel
theorem dX7_drift_2 : decode cX7_drift 2 = .ok (.iconst 1, 1) := by decide +kernel
theorem dX7_drift_3 : decode cX7_drift 3 = .ok (.invokevirtual 156, 3) := by decide +kernel
theorem dX7_drift_6 : decode cX7_drift 6 = .ok (.ireturn, 1) := by decide +kernel
theorem dX7_undo_0 : decode cX7_undo 0 = .ok (.aload_n 0, 1) := by decide +kernel
theorem dX7_undo_1 : decode cX7_undo 1 = .ok (.getfield 12, 3) := by decide +kernel
theorem dX7_undo_4 : decode cX7_undo 4 = .ok (.invokevirtual 171, 3) := by decide +kernel
theorem dX7_undo_7 : decode cX7_undo 7 = .ok (.ifCond .eq 13, 3) := by decide +kernel
theorem dX7_undo_10 : decode cX7_undo 10 = .ok (.aload_n 0, 1) := by decide +kernel
theorem dX7_undo_11 : decode cX7_undo 11 = .ok (.getfield 12, 3) := by decide +kernel
theorem dX7_undo_14 : decode cX7_undo 14 = .ok (.getfield 153, 3) := by decide +kernel
theorem dX7_undo_17 : decode cX7_undo 17 = .ok (.goto 5, 3) := by decide +kernel
theorem dX7_undo_20 : decode cX7_undo 20 = .ok (.bipush (-4), 2) := by decide +kernel
theorem dX7_undo_22 : decode cX7_undo 22 = .ok (.ireturn, 1) := by decide +kernel
theorem dX7_seed_0 : decode cX7_seed 0 = .ok (.iload_n 1, 1) := by decide +kernel
theorem dX7_seed_1 : decode cX7_seed 1 = .ok (.ifCond .ge 5, 3) := by decide +kernel
theorem dX7_seed_4 : decode cX7_seed 4 = .ok (.iconst (-1), 1) := by decide +kernel
theorem dX7_seed_5 : decode cX7_seed 5 = .ok (.ireturn, 1) := by decide +kernel
theorem dX7_seed_6 : decode cX7_seed 6 = .ok (.aload_n 0, 1) := by decide +kernel
theorem dX7_seed_7 : decode cX7_seed 7 = .ok (.getfield 12, 3) := by decide +kernel
theorem dX7_seed_10 : decode cX7_seed 10 = .ok (.getfield 64, 3) := by decide +kernel
theorem dX7_seed_13 : decode cX7_seed 13 = .ok (.getfield 174, 3) := by decide +kernel
theorem dX7_seed_16 : decode cX7_seed 16 = .ok (.istore_n 2, 1) := by decide +kernel
theorem dX7_seed_17 : decode cX7_seed 17 = .ok (.aload_n 0, 1) := by decide +kernel
theorem dX7_seed_18 : decode cX7_seed 18 = .ok (.getfield 12, 3) := by decide +kernel
theorem dX7_seed_21 : decode cX7_seed 21 = .ok (.getfield 64, 3) := by decide +kernel
theorem dX7_seed_24 : decode cX7_seed 24 = .ok (.iload_n 1, 1) := by decide +kernel
theorem dX7_seed_25 : decode cX7_seed 25 = .ok (.putfield 174, 3) := by decide +kernel
theorem dX7_seed_28 : decode cX7_seed 28 = .ok (.iload_n 2, 1) := by decide +kernel
theorem dX7_seed_29 : decode cX7_seed 29 = .ok (.ireturn, 1) := by decide +kernel
theorem dX7_then_0 : decode cX7_then 0 = .ok (.iload_n 1, 1) := by decide +kernel
theorem dX7_then_1 : decode cX7_then 1 = .ok (.iconst 0, 1) := by decide +kernel
theorem dX7_then_2 : decode cX7_then 2 = .ok (.bipush 100, 2) := by decide +kernel
theorem dX7_then_4 : decode cX7_then 4 = .ok (.invokestatic 60, 3) := by decide +kernel
theorem dX7_then_7 : decode cX7_then 7 = .ok (.ifCond .ne 12, 3) := by decide +kernel
theorem dX7_then_10 : decode cX7_then 10 = .ok (.iload_n 2, 1) := by decide +kernel
theorem dX7_then_11 : decode cX7_then 11 = .ok (.iconst 0, 1) := by decide +kernel
theorem dX7_then_12 : decode cX7_then 12 = .ok (.iconst 2, 1) := by decide +kernel
theorem dX7_then_13 : decode cX7_then 13 = .ok (.invokestatic 60, 3) := by decide +kernel
theorem dX7_then_16 : decode cX7_then 16 = .ok (.ifCond .eq 5, 3) := by decide +kernel
theorem dX7_then_19 : decode cX7_then 19 = .ok (.iconst (-1), 1) := by decide +kernel
theorem dX7_then_20 : decode cX7_then 20 = .ok (.ireturn, 1) := by decide +kernel
theorem dX7_then_21 : decode cX7_then 21 = .ok (.aload_n 0, 1) := by decide +kernel
theorem dX7_then_22 : decode cX7_then 22 = .ok (.getfield 42, 3) := by decide +kernel
theorem dX7_then_25 : decode cX7_then 25 = .ok (.aload_n 0, 1) := by decide +kernel
theorem dX7_then_26 : decode cX7_then 26 = .ok (.getfield 12, 3) := by decide +kernel
theorem dX7_then_29 : decode cX7_then 29 = .ok (.getfield 64, 3) := by decide +kernel
theorem dX7_then_32 : decode cX7_then 32 = .ok (.iload_n 1, 1) := by decide +kernel
theorem dX7_then_33 : decode cX7_then 33 = .ok (.invokevirtual 177, 3) := by decide +kernel
theorem dX7_then_36 : decode cX7_then 36 = .ok (.astore_n 3, 1) := by decide +kernel
theorem dX7_then_37 : decode cX7_then 37 = .ok (.iload_n 2, 1) := by decide +kernel
theorem dX7_then_38 : decode cX7_then 38 = .ok (.lookupswitch 38 #[(0, 26), (1, 32)], 26) := by decide +kernel
theorem dX7_then_64 : decode cX7_then 64 = .ok (.aload_n 3, 1) := by decide +kernel
theorem dX7_then_65 : decode cX7_then 65 = .ok (.iconst 1, 1) := by decide +kernel
theorem dX7_then_66 : decode cX7_then 66 = .ok (.invokevirtual 150, 3) := by decide +kernel
theorem dX7_then_69 : decode cX7_then 69 = .ok (.ireturn, 1) := by decide +kernel
theorem dX7_then_70 : decode cX7_then 70 = .ok (.aload_n 3, 1) := by decide +kernel
theorem dX7_then_71 : decode cX7_then 71 = .ok (.iconst 2, 1) := by decide +kernel
theorem dX7_then_72 : decode cX7_then 72 = .ok (.invokevirtual 150, 3) := by decide +kernel
theorem dX7_then_75 : decode cX7_then 75 = .ok (.ireturn, 1) := by decide +kernel
theorem dX7_then_76 : decode cX7_then 76 = .ok (.aload_n 3, 1) := by decide +kernel
theorem dX7_then_77 : decode cX7_then 77 = .ok (.getfield 147, 3) := by decide +kernel
theorem dX7_then_80 : decode cX7_then 80 = .ok (.ireturn, 1) := by decide +kernel
theorem dX7_crosses_0 : decode cX7_crosses 0 = .ok (.aload_n 0, 1) := by decide +kernel
theorem dX7_crosses_1 : decode cX7_crosses 1 = .ok (.getfield 12, 3) := by decide +kernel
theorem dX7_crosses_4 : decode cX7_crosses 4 = .ok (.getfield 64, 3) := by decide +kernel
theorem dX7_crosses_7 : decode cX7_crosses 7 = .ok (.iload_n 1, 1) := by decide +kernel
theorem dX7_crosses_8 : decode cX7_crosses 8 = .ok (.invokevirtual 102, 3) := by decide +kernel
theorem dX7_crosses_11 : decode cX7_crosses 11 = .ok (.ifCond .ne 5, 3) := by decide +kernel
theorem dX7_crosses_14 : decode cX7_crosses 14 = .ok (.iconst (-1), 1) := by decide +kernel
theorem dX7_crosses_15 : decode cX7_crosses 15 = .ok (.ireturn, 1) := by decide +kernel
theorem dX7_crosses_16 : decode cX7_crosses 16 = .ok (.aload_n 0, 1) := by decide +kernel
theorem dX7_crosses_17 : decode cX7_crosses 17 = .ok (.getfield 42, 3) := by decide +kernel
theorem dX7_crosses_20 : decode cX7_crosses 20 = .ok (.aload_n 0, 1) := by decide +kernel
theorem dX7_crosses_21 : decode cX7_crosses 21 = .ok (.getfield 12, 3) := by decide +kernel
theorem dX7_crosses_24 : decode cX7_crosses 24 = .ok (.getfield 64, 3) := by decide +kernel
theorem dX7_crosses_27 : decode cX7_crosses 27 = .ok (.invokevirtual 181, 3) := by decide +kernel
theorem dX7_crosses_30 : decode cX7_crosses 30 = .ok (.aload_n 0, 1) := by decide +kernel
theorem dX7_crosses_31 : decode cX7_crosses 31 = .ok (.getfield 42, 3) := by decide +kernel
theorem dX7_crosses_34 : decode cX7_crosses 34 = .ok (.iconst 1, 1) := by decide +kernel
theorem dX7_crosses_35 : decode cX7_crosses 35 = .ok (.iload_n 1, 1) := by decide +kernel
theorem dX7_crosses_36 : decode cX7_crosses 36 = .ok (.ishl, 1) := by decide +kernel
theorem dX7_crosses_37 : decode cX7_crosses 37 = .ok (.invokevirtual 184, 3) := by decide +kernel
theorem dX7_crosses_40 : decode cX7_crosses 40 = .ok (.invokestatic 187, 3) := by decide +kernel
theorem dX7_crosses_43 : decode cX7_crosses 43 = .ok (.ireturn, 1) := by decide +kernel
theorem dX7_last_0 : decode cX7_last 0 = .ok (.aload_n 0, 1) := by decide +kernel
theorem dX7_last_1 : decode cX7_last 1 = .ok (.getfield 42, 3) := by decide +kernel
theorem dX7_last_4 : decode cX7_last 4 = .ok (.aload_n 0, 1) := by decide +kernel
theorem dX7_last_5 : decode cX7_last 5 = .ok (.getfield 12, 3) := by decide +kernel
theorem dX7_last_8 : decode cX7_last 8 = .ok (.getfield 64, 3) := by decide +kernel
theorem dX7_last_11 : decode cX7_last 11 = .ok (.invokevirtual 181, 3) := by decide +kernel
theorem dX7_last_14 : decode cX7_last 14 = .ok (.aload_n 0, 1) := by decide +kernel
theorem dX7_last_15 : decode cX7_last 15 = .ok (.getfield 42, 3) := by decide +kernel
theorem dX7_last_18 : decode cX7_last 18 = .ok (.aload_n 0, 1) := by decide +kernel
theorem dX7_last_19 : decode cX7_last 19 = .ok (.getfield 12, 3) := by decide +kernel
theorem dX7_last_22 : decode cX7_last 22 = .ok (.getfield 64, 3) := by decide +kernel
theorem dX7_last_25 : decode cX7_last 25 = .ok (.invokevirtual 190, 3) := by decide +kernel
theorem dX7_last_28 : decode cX7_last 28 = .ok (.invokevirtual 184, 3) := by decide +kernel
theorem dX7_last_31 : decode cX7_last 31 = .ok (.invokestatic 187, 3) := by decide +kernel
theorem dX7_last_34 : decode cX7_last 34 = .ok (.ireturn, 1) := by decide +kernel
theorem dX7_most_0 : decode cX7_most 0 = .ok (.iload_n 1, 1) := by decide +kernel
theorem dX7_most_1 : decode cX7_most 1 = .ok (.iconst 0, 1) := by decide +kernel
theorem dX7_most_2 : decode cX7_most 2 = .ok (.iconst 1, 1) := by decide +kernel
theorem dX7_most_3 : decode cX7_most 3 = .ok (.invokestatic 60, 3) := by decide +kernel
theorem dX7_most_6 : decode cX7_most 6 = .ok (.ifCond .eq 5, 3) := by decide +kernel
theorem dX7_most_9 : decode cX7_most 9 = .ok (.iconst (-1), 1) := by decide +kernel
theorem dX7_most_10 : decode cX7_most 10 = .ok (.ireturn, 1) := by decide +kernel
theorem dX7_most_11 : decode cX7_most 11 = .ok (.aload_n 0, 1) := by decide +kernel
theorem dX7_most_12 : decode cX7_most 12 = .ok (.getfield 42, 3) := by decide +kernel
theorem dX7_most_15 : decode cX7_most 15 = .ok (.aload_n 0, 1) := by decide +kernel
theorem dX7_most_16 : decode cX7_most 16 = .ok (.getfield 12, 3) := by decide +kernel
theorem dX7_most_19 : decode cX7_most 19 = .ok (.getfield 64, 3) := by decide +kernel
theorem dX7_most_22 : decode cX7_most 22 = .ok (.invokevirtual 194, 3) := by decide +kernel
theorem dX7_most_25 : decode cX7_most 25 = .ok (.iload_n 1, 1) := by decide +kernel
theorem dX7_most_26 : decode cX7_most 26 = .ok (.ifCond .ne 13, 3) := by decide +kernel
theorem dX7_most_29 : decode cX7_most 29 = .ok (.aload_n 0, 1) := by decide +kernel
theorem dX7_most_30 : decode cX7_most 30 = .ok (.getfield 42, 3) := by decide +kernel
theorem dX7_most_33 : decode cX7_most 33 = .ok (.getfield 197, 3) := by decide +kernel
theorem dX7_most_36 : decode cX7_most 36 = .ok (.goto 10, 3) := by decide +kernel
theorem dX7_most_39 : decode cX7_most 39 = .ok (.aload_n 0, 1) := by decide +kernel
theorem dX7_most_40 : decode cX7_most 40 = .ok (.getfield 42, 3) := by decide +kernel
theorem dX7_most_43 : decode cX7_most 43 = .ok (.getfield 200, 3) := by decide +kernel
theorem dX7_most_46 : decode cX7_most 46 = .ok (.ireturn, 1) := by decide +kernel
theorem dX7_best_0 : decode cX7_best 0 = .ok (.iload_n 1, 1) := by decide +kernel
theorem dX7_best_1 : decode cX7_best 1 = .ok (.iconst (-1), 1) := by decide +kernel
theorem dX7_best_2 : decode cX7_best 2 = .ok (.if_icmp .eq 19, 3) := by decide +kernel
theorem dX7_best_5 : decode cX7_best 5 = .ok (.aload_n 0, 1) := by decide +kernel
theorem dX7_best_6 : decode cX7_best 6 = .ok (.getfield 12, 3) := by decide +kernel
theorem dX7_best_9 : decode cX7_best 9 = .ok (.getfield 64, 3) := by decide +kernel
theorem dX7_best_12 : decode cX7_best 12 = .ok (.iload_n 1, 1) := by decide +kernel
theorem dX7_best_13 : decode cX7_best 13 = .ok (.invokevirtual 102, 3) := by decide +kernel
theorem dX7_best_16 : decode cX7_best 16 = .ok (.ifCond .ne 5, 3) := by decide +kernel
theorem dX7_best_19 : decode cX7_best 19 = .ok (.iconst (-1), 1) := by decide +kernel
theorem dX7_best_20 : decode cX7_best 20 = .ok (.ireturn, 1) := by decide +kernel
theorem dX7_best_21 : decode cX7_best 21 = .ok (.aload_n 0, 1) := by decide +kernel
theorem dX7_best_22 : decode cX7_best 22 = .ok (.getfield 49, 3) := by decide +kernel
theorem dX7_best_25 : decode cX7_best 25 = .ok (.aload_n 0, 1) := by decide +kernel
theorem dX7_best_26 : decode cX7_best 26 = .ok (.getfield 12, 3) := by decide +kernel
theorem dX7_best_29 : decode cX7_best 29 = .ok (.getfield 64, 3) := by decide +kernel
theorem dX7_best_32 : decode cX7_best 32 = .ok (.invokevirtual 203, 3) := by decide +kernel
theorem dX7_best_35 : decode cX7_best 35 = .ok (.iload_n 1, 1) := by decide +kernel
theorem dX7_best_36 : decode cX7_best 36 = .ok (.iconst (-1), 1) := by decide +kernel
theorem dX7_best_37 : decode cX7_best 37 = .ok (.if_icmp .ne 16, 3) := by decide +kernel
theorem dX7_best_40 : decode cX7_best 40 = .ok (.aload_n 0, 1) := by decide +kernel
theorem dX7_best_41 : decode cX7_best 41 = .ok (.getfield 49, 3) := by decide +kernel
theorem dX7_best_44 : decode cX7_best 44 = .ok (.getfield 206, 3) := by decide +kernel
theorem dX7_best_47 : decode cX7_best 47 = .ok (.invokestatic 187, 3) := by decide +kernel
theorem dX7_best_50 : decode cX7_best 50 = .ok (.goto 11, 3) := by decide +kernel
theorem dX7_best_53 : decode cX7_best 53 = .ok (.aload_n 0, 1) := by decide +kernel
theorem dX7_best_54 : decode cX7_best 54 = .ok (.getfield 49, 3) := by decide +kernel
theorem dX7_best_57 : decode cX7_best 57 = .ok (.iload_n 1, 1) := by decide +kernel
theorem dX7_best_58 : decode cX7_best 58 = .ok (.invokevirtual 209, 3) := by decide +kernel
theorem dX7_best_61 : decode cX7_best 61 = .ok (.ireturn, 1) := by decide +kernel
theorem dX7_teaches_0 : decode cX7_teaches 0 = .ok (.iload_n 1, 1) := by decide +kernel
theorem dX7_teaches_1 : decode cX7_teaches 1 = .ok (.iconst 0, 1) := by decide +kernel
theorem dX7_teaches_2 : decode cX7_teaches 2 = .ok (.iconst 1, 1) := by decide +kernel
theorem dX7_teaches_3 : decode cX7_teaches 3 = .ok (.invokestatic 60, 3) := by decide +kernel
theorem dX7_teaches_6 : decode cX7_teaches 6 = .ok (.ifCond .eq 5, 3) := by decide +kernel
theorem dX7_teaches_9 : decode cX7_teaches 9 = .ok (.iconst (-1), 1) := by decide +kernel
theorem dX7_teaches_10 : decode cX7_teaches 10 = .ok (.ireturn, 1) := by decide +kernel
theorem dX7_teaches_11 : decode cX7_teaches 11 = .ok (.aload_n 0, 1) := by decide +kernel
theorem dX7_teaches_12 : decode cX7_teaches 12 = .ok (.getfield 42, 3) := by decide +kernel
theorem dX7_teaches_15 : decode cX7_teaches 15 = .ok (.aload_n 0, 1) := by decide +kernel
theorem dX7_teaches_16 : decode cX7_teaches 16 = .ok (.getfield 12, 3) := by decide +kernel
theorem dX7_teaches_19 : decode cX7_teaches 19 = .ok (.getfield 64, 3) := by decide +kernel
theorem dX7_teaches_22 : decode cX7_teaches 22 = .ok (.invokevirtual 212, 3) := by decide +kernel
theorem dX7_teaches_25 : decode cX7_teaches 25 = .ok (.aload_n 0, 1) := by decide +kernel
theorem dX7_teaches_26 : decode cX7_teaches 26 = .ok (.iload_n 1, 1) := by decide +kernel
theorem dX7_teaches_27 : decode cX7_teaches 27 = .ok (.invokevirtual 215, 3) := by decide +kernel
theorem dX7_teaches_30 : decode cX7_teaches 30 = .ok (.ireturn, 1) := by decide +kernel
theorem dX7_spare_0 : decode cX7_spare 0 = .ok (.iload_n 1, 1) := by decide +kernel
theorem dX7_spare_1 : decode cX7_spare 1 = .ok (.iconst 0, 1) := by decide +kernel
theorem dX7_spare_2 : decode cX7_spare 2 = .ok (.iconst 1, 1) := by decide +kernel
theorem dX7_spare_3 : decode cX7_spare 3 = .ok (.invokestatic 60, 3) := by decide +kernel
theorem dX7_spare_6 : decode cX7_spare 6 = .ok (.ifCond .eq 5, 3) := by decide +kernel
theorem dX7_spare_9 : decode cX7_spare 9 = .ok (.iconst (-1), 1) := by decide +kernel
theorem dX7_spare_10 : decode cX7_spare 10 = .ok (.ireturn, 1) := by decide +kernel
theorem dX7_spare_11 : decode cX7_spare 11 = .ok (.aload_n 0, 1) := by decide +kernel
theorem dX7_spare_12 : decode cX7_spare 12 = .ok (.getfield 42, 3) := by decide +kernel
theorem dX7_spare_15 : decode cX7_spare 15 = .ok (.aload_n 0, 1) := by decide +kernel
theorem dX7_spare_16 : decode cX7_spare 16 = .ok (.getfield 12, 3) := by decide +kernel
theorem dX7_spare_19 : decode cX7_spare 19 = .ok (.getfield 64, 3) := by decide +kernel
theorem dX7_spare_22 : decode cX7_spare 22 = .ok (.invokevirtual 218, 3) := by decide +kernel
theorem dX7_spare_25 : decode cX7_spare 25 = .ok (.aload_n 0, 1) := by decide +kernel
theorem dX7_spare_26 : decode cX7_spare 26 = .ok (.iload_n 1, 1) := by decide +kernel
theorem dX7_spare_27 : decode cX7_spare 27 = .ok (.invokevirtual 215, 3) := by decide +kernel
theorem dX7_spare_30 : decode cX7_spare 30 = .ok (.ireturn, 1) := by decide +kernel
theorem dX7_before_0 : decode cX7_before 0 = .ok (.aload_n 0, 1) := by decide +kernel
theorem dX7_before_1 : decode cX7_before 1 = .ok (.getfield 12, 3) := by decide +kernel
theorem dX7_before_4 : decode cX7_before 4 = .ok (.getfield 64, 3) := by decide +kernel
theorem dX7_before_7 : decode cX7_before 7 = .ok (.iload_n 1, 1) := by decide +kernel
theorem dX7_before_8 : decode cX7_before 8 = .ok (.invokevirtual 102, 3) := by decide +kernel
theorem dX7_before_11 : decode cX7_before 11 = .ok (.ifCond .ne 5, 3) := by decide +kernel
theorem dX7_before_14 : decode cX7_before 14 = .ok (.iconst (-1), 1) := by decide +kernel
theorem dX7_before_15 : decode cX7_before 15 = .ok (.ireturn, 1) := by decide +kernel
theorem dX7_before_16 : decode cX7_before 16 = .ok (.aload_n 0, 1) := by decide +kernel
theorem dX7_before_17 : decode cX7_before 17 = .ok (.getfield 42, 3) := by decide +kernel
theorem dX7_before_20 : decode cX7_before 20 = .ok (.aload_n 0, 1) := by decide +kernel
theorem dX7_before_21 : decode cX7_before 21 = .ok (.getfield 12, 3) := by decide +kernel
theorem dX7_before_24 : decode cX7_before 24 = .ok (.getfield 64, 3) := by decide +kernel
theorem dX7_before_27 : decode cX7_before 27 = .ok (.iload_n 1, 1) := by decide +kernel
theorem dX7_before_28 : decode cX7_before 28 = .ok (.invokevirtual 221, 3) := by decide +kernel
theorem dX7_before_31 : decode cX7_before 31 = .ok (.aload_n 0, 1) := by decide +kernel
theorem dX7_before_32 : decode cX7_before 32 = .ok (.getfield 42, 3) := by decide +kernel
theorem dX7_before_35 : decode cX7_before 35 = .ok (.getfield 197, 3) := by decide +kernel
theorem dX7_before_38 : decode cX7_before 38 = .ok (.ireturn, 1) := by decide +kernel
theorem dX7_cramp_0 : decode cX7_cramp 0 = .ok (.iload_n 1, 1) := by decide +kernel
theorem dX7_cramp_1 : decode cX7_cramp 1 = .ok (.iconst 0, 1) := by decide +kernel
theorem dX7_cramp_2 : decode cX7_cramp 2 = .ok (.iconst 5, 1) := by decide +kernel
theorem dX7_cramp_3 : decode cX7_cramp 3 = .ok (.invokestatic 60, 3) := by decide +kernel
theorem dX7_cramp_6 : decode cX7_cramp 6 = .ok (.ifCond .ne 22, 3) := by decide +kernel
theorem dX7_cramp_9 : decode cX7_cramp 9 = .ok (.iload_n 2, 1) := by decide +kernel
theorem dX7_cramp_10 : decode cX7_cramp 10 = .ok (.iconst 0, 1) := by decide +kernel
theorem dX7_cramp_11 : decode cX7_cramp 11 = .ok (.bipush 10, 2) := by decide +kernel
theorem dX7_cramp_13 : decode cX7_cramp 13 = .ok (.invokestatic 60, 3) := by decide +kernel
theorem dX7_cramp_16 : decode cX7_cramp 16 = .ok (.ifCond .ne 12, 3) := by decide +kernel
theorem dX7_cramp_19 : decode cX7_cramp 19 = .ok (.iload_n 3, 1) := by decide +kernel
theorem dX7_cramp_20 : decode cX7_cramp 20 = .ok (.iconst 0, 1) := by decide +kernel
theorem dX7_cramp_21 : decode cX7_cramp 21 = .ok (.iconst 1, 1) := by decide +kernel
theorem dX7_cramp_22 : decode cX7_cramp 22 = .ok (.invokestatic 60, 3) := by decide +kernel
theorem dX7_cramp_25 : decode cX7_cramp 25 = .ok (.ifCond .eq 5, 3) := by decide +kernel
theorem dX7_cramp_28 : decode cX7_cramp 28 = .ok (.iconst (-1), 1) := by decide +kernel
theorem dX7_cramp_29 : decode cX7_cramp 29 = .ok (.ireturn, 1) := by decide +kernel
theorem dX7_cramp_30 : decode cX7_cramp 30 = .ok (.aload_n 0, 1) := by decide +kernel
theorem dX7_cramp_31 : decode cX7_cramp 31 = .ok (.getfield 12, 3) := by decide +kernel
theorem dX7_cramp_34 : decode cX7_cramp 34 = .ok (.getfield 64, 3) := by decide +kernel
theorem dX7_cramp_37 : decode cX7_cramp 37 = .ok (.invokevirtual 225, 3) := by decide +kernel
theorem dX7_cramp_40 : decode cX7_cramp 40 = .ok (.istore 4, 2) := by decide +kernel
theorem dX7_cramp_42 : decode cX7_cramp 42 = .ok (.aload_n 0, 1) := by decide +kernel
theorem dX7_cramp_43 : decode cX7_cramp 43 = .ok (.getfield 12, 3) := by decide +kernel
theorem dX7_cramp_46 : decode cX7_cramp 46 = .ok (.getfield 64, 3) := by decide +kernel
theorem dX7_cramp_49 : decode cX7_cramp 49 = .ok (.iconst 1, 1) := by decide +kernel
theorem dX7_cramp_50 : decode cX7_cramp 50 = .ok (.invokevirtual 150, 3) := by decide +kernel
theorem dX7_cramp_53 : decode cX7_cramp 53 = .ok (.invokestatic 228, 3) := by decide +kernel
theorem dX7_cramp_56 : decode cX7_cramp 56 = .ok (.iload 4, 2) := by decide +kernel
theorem dX7_cramp_58 : decode cX7_cramp 58 = .ok (.isub, 1) := by decide +kernel
theorem dX7_cramp_59 : decode cX7_cramp 59 = .ok (.istore 5, 2) := by decide +kernel
theorem dX7_cramp_61 : decode cX7_cramp 61 = .ok (.iload_n 1, 1) := by decide +kernel
theorem dX7_cramp_62 : decode cX7_cramp 62 = .ok (.iload 5, 2) := by decide +kernel
theorem dX7_cramp_64 : decode cX7_cramp 64 = .ok (.isub, 1) := by decide +kernel
theorem dX7_cramp_65 : decode cX7_cramp 65 = .ok (.iload 4, 2) := by decide +kernel
theorem dX7_cramp_67 : decode cX7_cramp 67 = .ok (.iload_n 2, 1) := by decide +kernel
theorem dX7_cramp_68 : decode cX7_cramp 68 = .ok (.invokestatic 233, 3) := by decide +kernel
theorem dX7_cramp_71 : decode cX7_cramp 71 = .ok (.istore 6, 2) := by decide +kernel
theorem dX7_cramp_73 : decode cX7_cramp 73 = .ok (.bipush 10, 2) := by decide +kernel
theorem dX7_cramp_75 : decode cX7_cramp 75 = .ok (.iload 4, 2) := by decide +kernel
theorem dX7_cramp_77 : decode cX7_cramp 77 = .ok (.invokestatic 236, 3) := by decide +kernel
theorem dX7_cramp_80 : decode cX7_cramp 80 = .ok (.istore 7, 2) := by decide +kernel
theorem dX7_cramp_82 : decode cX7_cramp 82 = .ok (.iload 6, 2) := by decide +kernel
theorem dX7_cramp_84 : decode cX7_cramp 84 = .ok (.iload 7, 2) := by decide +kernel
theorem dX7_cramp_86 : decode cX7_cramp 86 = .ok (.invokestatic 239, 3) := by decide +kernel
theorem dX7_cramp_89 : decode cX7_cramp 89 = .ok (.istore 8, 2) := by decide +kernel
theorem dX7_cramp_91 : decode cX7_cramp 91 = .ok (.iload_n 3, 1) := by decide +kernel
theorem dX7_cramp_92 : decode cX7_cramp 92 = .ok (.ifCond .ne 8, 3) := by decide +kernel
theorem dX7_cramp_95 : decode cX7_cramp 95 = .ok (.iload 6, 2) := by decide +kernel
theorem dX7_cramp_97 : decode cX7_cramp 97 = .ok (.goto 5, 3) := by decide +kernel
theorem dX7_cramp_100 : decode cX7_cramp 100 = .ok (.iload 7, 2) := by decide +kernel
theorem dX7_cramp_102 : decode cX7_cramp 102 = .ok (.iload 8, 2) := by decide +kernel
theorem dX7_cramp_104 : decode cX7_cramp 104 = .ok (.idiv, 1) := by decide +kernel
theorem dX7_cramp_105 : decode cX7_cramp 105 = .ok (.ireturn, 1) := by decide +kernel
theorem dX7_image_0 : decode cX7_image 0 = .ok (.aload_n 0, 1) := by decide +kernel
theorem dX7_image_1 : decode cX7_image 1 = .ok (.getfield 16, 3) := by decide +kernel
theorem dX7_image_4 : decode cX7_image 4 = .ok (.aload_n 0, 1) := by decide +kernel
theorem dX7_image_5 : decode cX7_image 5 = .ok (.getfield 12, 3) := by decide +kernel
theorem dX7_image_8 : decode cX7_image 8 = .ok (.invokevirtual 242, 3) := by decide +kernel
theorem dX7_image_11 : decode cX7_image 11 = .ok (.aload_n 0, 1) := by decide +kernel
theorem dX7_image_12 : decode cX7_image 12 = .ok (.iconst 1, 1) := by decide +kernel
theorem dX7_image_13 : decode cX7_image 13 = .ok (.putfield 19, 3) := by decide +kernel
theorem dX7_image_16 : decode cX7_image 16 = .ok (.iconst 1, 1) := by decide +kernel
theorem dX7_image_17 : decode cX7_image 17 = .ok (.ireturn, 1) := by decide +kernel
theorem dX7_restore_0 : decode cX7_restore 0 = .ok (.aload_n 0, 1) := by decide +kernel
theorem dX7_restore_1 : decode cX7_restore 1 = .ok (.getfield 19, 3) := by decide +kernel
theorem dX7_restore_4 : decode cX7_restore 4 = .ok (.ifCond .ne 6, 3) := by decide +kernel
theorem dX7_restore_7 : decode cX7_restore 7 = .ok (.bipush (-4), 2) := by decide +kernel
theorem dX7_restore_9 : decode cX7_restore 9 = .ok (.ireturn, 1) := by decide +kernel
theorem dX7_restore_10 : decode cX7_restore 10 = .ok (.aload_n 0, 1) := by decide +kernel
theorem dX7_restore_11 : decode cX7_restore 11 = .ok (.getfield 12, 3) := by decide +kernel
theorem dX7_restore_14 : decode cX7_restore 14 = .ok (.aload_n 0, 1) := by decide +kernel
theorem dX7_restore_15 : decode cX7_restore 15 = .ok (.getfield 16, 3) := by decide +kernel
theorem dX7_restore_18 : decode cX7_restore 18 = .ok (.invokevirtual 242, 3) := by decide +kernel
theorem dX7_restore_21 : decode cX7_restore 21 = .ok (.iconst 1, 1) := by decide +kernel
theorem dX7_restore_22 : decode cX7_restore 22 = .ok (.ireturn, 1) := by decide +kernel
theorem dX7_seen_0 : decode cX7_seen 0 = .ok (.aload_n 0, 1) := by decide +kernel
theorem dX7_seen_1 : decode cX7_seen 1 = .ok (.getfield 12, 3) := by decide +kernel
theorem dX7_seen_4 : decode cX7_seen 4 = .ok (.getfield 64, 3) := by decide +kernel
theorem dX7_seen_7 : decode cX7_seen 7 = .ok (.iload_n 1, 1) := by decide +kernel
theorem dX7_seen_8 : decode cX7_seen 8 = .ok (.invokevirtual 102, 3) := by decide +kernel
theorem dX7_seen_11 : decode cX7_seen 11 = .ok (.ifCond .eq 38, 3) := by decide +kernel
theorem dX7_seen_14 : decode cX7_seen 14 = .ok (.iload_n 2, 1) := by decide +kernel
theorem dX7_seen_15 : decode cX7_seen 15 = .ok (.invokestatic 246, 3) := by decide +kernel
theorem dX7_seen_18 : decode cX7_seen 18 = .ok (.ifCond .ne 31, 3) := by decide +kernel
theorem dX7_seen_21 : decode cX7_seen 21 = .ok (.iload_n 3, 1) := by decide +kernel
theorem dX7_seen_22 : decode cX7_seen 22 = .ok (.invokestatic 249, 3) := by decide +kernel
theorem dX7_seen_25 : decode cX7_seen 25 = .ok (.ifCond .ne 24, 3) := by decide +kernel
theorem dX7_seen_28 : decode cX7_seen 28 = .ok (.iload 5, 2) := by decide +kernel
theorem dX7_seen_30 : decode cX7_seen 30 = .ok (.iconst 1, 1) := by decide +kernel
theorem dX7_seen_31 : decode cX7_seen 31 = .ok (.bipush 8, 2) := by decide +kernel
theorem dX7_seen_33 : decode cX7_seen 33 = .ok (.invokestatic 60, 3) := by decide +kernel
theorem dX7_seen_36 : decode cX7_seen 36 = .ok (.ifCond .ne 13, 3) := by decide +kernel
theorem dX7_seen_39 : decode cX7_seen 39 = .ok (.iload 6, 2) := by decide +kernel
theorem dX7_seen_41 : decode cX7_seen 41 = .ok (.iconst 0, 1) := by decide +kernel
theorem dX7_seen_42 : decode cX7_seen 42 = .ok (.iconst 2, 1) := by decide +kernel
theorem dX7_seen_43 : decode cX7_seen 43 = .ok (.invokestatic 60, 3) := by decide +kernel
theorem dX7_seen_46 : decode cX7_seen 46 = .ok (.ifCond .eq 5, 3) := by decide +kernel
theorem dX7_seen_49 : decode cX7_seen 49 = .ok (.iconst (-1), 1) := by decide +kernel
theorem dX7_seen_50 : decode cX7_seen 50 = .ok (.ireturn, 1) := by decide +kernel
theorem dX7_seen_51 : decode cX7_seen 51 = .ok (.aload_n 0, 1) := by decide +kernel
theorem dX7_seen_52 : decode cX7_seen 52 = .ok (.getfield 55, 3) := by decide +kernel
theorem dX7_seen_55 : decode cX7_seen 55 = .ok (.iload_n 2, 1) := by decide +kernel
theorem dX7_seen_56 : decode cX7_seen 56 = .ok (.aaload, 1) := by decide +kernel
theorem dX7_seen_57 : decode cX7_seen 57 = .ok (.astore 7, 2) := by decide +kernel
theorem dX7_seen_59 : decode cX7_seen 59 = .ok (.aload 7, 2) := by decide +kernel
theorem dX7_seen_61 : decode cX7_seen 61 = .ok (.iload_n 3, 1) := by decide +kernel
theorem dX7_seen_62 : decode cX7_seen 62 = .ok (.iload 4, 2) := by decide +kernel
theorem dX7_seen_64 : decode cX7_seen 64 = .ok (.iload 5, 2) := by decide +kernel
theorem dX7_seen_66 : decode cX7_seen 66 = .ok (.invokevirtual 252, 3) := by decide +kernel
theorem dX7_seen_69 : decode cX7_seen 69 = .ok (.istore 8, 2) := by decide +kernel
theorem dX7_seen_71 : decode cX7_seen 71 = .ok (.iload 8, 2) := by decide +kernel
theorem dX7_seen_73 : decode cX7_seen 73 = .ok (.ifCond .eq 6, 3) := by decide +kernel
theorem dX7_seen_76 : decode cX7_seen 76 = .ok (.iload 8, 2) := by decide +kernel
theorem dX7_seen_78 : decode cX7_seen 78 = .ok (.ireturn, 1) := by decide +kernel
theorem dX7_seen_79 : decode cX7_seen 79 = .ok (.iload 6, 2) := by decide +kernel
theorem dX7_seen_81 : decode cX7_seen 81 = .ok (.ifCond .ne 25, 3) := by decide +kernel
theorem dX7_seen_84 : decode cX7_seen 84 = .ok (.aload_n 0, 1) := by decide +kernel
theorem dX7_seen_85 : decode cX7_seen 85 = .ok (.getfield 42, 3) := by decide +kernel
theorem dX7_seen_88 : decode cX7_seen 88 = .ok (.aload_n 0, 1) := by decide +kernel
theorem dX7_seen_89 : decode cX7_seen 89 = .ok (.getfield 12, 3) := by decide +kernel
theorem dX7_seen_92 : decode cX7_seen 92 = .ok (.getfield 64, 3) := by decide +kernel
theorem dX7_seen_95 : decode cX7_seen 95 = .ok (.iload_n 1, 1) := by decide +kernel
theorem dX7_seen_96 : decode cX7_seen 96 = .ok (.aload 7, 2) := by decide +kernel
theorem dX7_seen_98 : decode cX7_seen 98 = .ok (.iload 4, 2) := by decide +kernel
theorem dX7_seen_100 : decode cX7_seen 100 = .ok (.iload 5, 2) := by decide +kernel
theorem dX7_seen_102 : decode cX7_seen 102 = .ok (.invokevirtual 255, 3) := by decide +kernel
theorem dX7_seen_105 : decode cX7_seen 105 = .ok (.ireturn, 1) := by decide +kernel
theorem dX7_seen_106 : decode cX7_seen 106 = .ok (.aload_n 0, 1) := by decide +kernel
theorem dX7_seen_107 : decode cX7_seen 107 = .ok (.getfield 42, 3) := by decide +kernel
theorem dX7_seen_110 : decode cX7_seen 110 = .ok (.aload_n 0, 1) := by decide +kernel
theorem dX7_seen_111 : decode cX7_seen 111 = .ok (.getfield 12, 3) := by decide +kernel
theorem dX7_seen_114 : decode cX7_seen 114 = .ok (.getfield 64, 3) := by decide +kernel
theorem dX7_seen_117 : decode cX7_seen 117 = .ok (.iload_n 1, 1) := by decide +kernel
theorem dX7_seen_118 : decode cX7_seen 118 = .ok (.aload 7, 2) := by decide +kernel
theorem dX7_seen_120 : decode cX7_seen 120 = .ok (.iload 4, 2) := by decide +kernel
theorem dX7_seen_122 : decode cX7_seen 122 = .ok (.iload 5, 2) := by decide +kernel
theorem dX7_seen_124 : decode cX7_seen 124 = .ok (.invokevirtual 259, 3) := by decide +kernel
theorem dX7_seen_127 : decode cX7_seen 127 = .ok (.iload 6, 2) := by decide +kernel
theorem dX7_seen_129 : decode cX7_seen 129 = .ok (.iconst 1, 1) := by decide +kernel
theorem dX7_seen_130 : decode cX7_seen 130 = .ok (.if_icmp .ne 13, 3) := by decide +kernel
theorem dX7_seen_133 : decode cX7_seen 133 = .ok (.aload_n 0, 1) := by decide +kernel
theorem dX7_seen_134 : decode cX7_seen 134 = .ok (.getfield 42, 3) := by decide +kernel
theorem dX7_seen_137 : decode cX7_seen 137 = .ok (.getfield 263, 3) := by decide +kernel
theorem dX7_seen_140 : decode cX7_seen 140 = .ok (.goto 10, 3) := by decide +kernel
theorem dX7_seen_143 : decode cX7_seen 143 = .ok (.aload_n 0, 1) := by decide +kernel
theorem dX7_seen_144 : decode cX7_seen 144 = .ok (.getfield 42, 3) := by decide +kernel
theorem dX7_seen_147 : decode cX7_seen 147 = .ok (.getfield 197, 3) := by decide +kernel
theorem dX7_seen_150 : decode cX7_seen 150 = .ok (.ireturn, 1) := by decide +kernel
theorem dX7_film_0 : decode cX7_film 0 = .ok (.iload_n 1, 1) := by decide +kernel
theorem dX7_film_1 : decode cX7_film 1 = .ok (.iconst 1, 1) := by decide +kernel
theorem dX7_film_2 : decode cX7_film 2 = .ok (.bipush 24, 2) := by decide +kernel
theorem dX7_film_4 : decode cX7_film 4 = .ok (.invokestatic 60, 3) := by decide +kernel
theorem dX7_film_7 : decode cX7_film 7 = .ok (.ifCond .ne 17, 3) := by decide +kernel
theorem dX7_film_10 : decode cX7_film 10 = .ok (.iload_n 2, 1) := by decide +kernel
theorem dX7_film_11 : decode cX7_film 11 = .ok (.invokestatic 246, 3) := by decide +kernel
theorem dX7_film_14 : decode cX7_film 14 = .ok (.ifCond .ne 10, 3) := by decide +kernel
theorem dX7_film_17 : decode cX7_film 17 = .ok (.iload_n 3, 1) := by decide +kernel
theorem dX7_film_18 : decode cX7_film 18 = .ok (.invokestatic 249, 3) := by decide +kernel
theorem dX7_film_21 : decode cX7_film 21 = .ok (.ifCond .eq 5, 3) := by decide +kernel
theorem dX7_film_24 : decode cX7_film 24 = .ok (.iconst (-1), 1) := by decide +kernel
theorem dX7_film_25 : decode cX7_film 25 = .ok (.ireturn, 1) := by decide +kernel
theorem dX7_film_26 : decode cX7_film 26 = .ok (.aload_n 0, 1) := by decide +kernel
theorem dX7_film_27 : decode cX7_film 27 = .ok (.getfield 55, 3) := by decide +kernel
theorem dX7_film_30 : decode cX7_film 30 = .ok (.iload_n 2, 1) := by decide +kernel
theorem dX7_film_31 : decode cX7_film 31 = .ok (.aaload, 1) := by decide +kernel
theorem dX7_film_32 : decode cX7_film 32 = .ok (.astore 5, 2) := by decide +kernel
theorem dX7_film_34 : decode cX7_film 34 = .ok (.aload 5, 2) := by decide +kernel
theorem dX7_film_36 : decode cX7_film 36 = .ok (.iload_n 3, 1) := by decide +kernel
theorem dX7_film_37 : decode cX7_film 37 = .ok (.iload 4, 2) := by decide +kernel
theorem dX7_film_39 : decode cX7_film 39 = .ok (.iload_n 1, 1) := by decide +kernel
theorem dX7_film_40 : decode cX7_film 40 = .ok (.invokevirtual 252, 3) := by decide +kernel
theorem dX7_film_43 : decode cX7_film 43 = .ok (.istore 6, 2) := by decide +kernel
theorem dX7_film_45 : decode cX7_film 45 = .ok (.iload 6, 2) := by decide +kernel
theorem dX7_film_47 : decode cX7_film 47 = .ok (.ifCond .eq 6, 3) := by decide +kernel
theorem dX7_film_50 : decode cX7_film 50 = .ok (.iload 6, 2) := by decide +kernel
theorem dX7_film_52 : decode cX7_film 52 = .ok (.ireturn, 1) := by decide +kernel
theorem dX7_film_53 : decode cX7_film 53 = .ok (.aload_n 0, 1) := by decide +kernel
theorem dX7_film_54 : decode cX7_film 54 = .ok (.getfield 42, 3) := by decide +kernel
theorem dX7_film_57 : decode cX7_film 57 = .ok (.aload_n 0, 1) := by decide +kernel
theorem dX7_film_58 : decode cX7_film 58 = .ok (.getfield 12, 3) := by decide +kernel
theorem dX7_film_61 : decode cX7_film 61 = .ok (.getfield 64, 3) := by decide +kernel
theorem dX7_film_64 : decode cX7_film 64 = .ok (.aload 5, 2) := by decide +kernel
theorem dX7_film_66 : decode cX7_film 66 = .ok (.iload 4, 2) := by decide +kernel
theorem dX7_film_68 : decode cX7_film 68 = .ok (.iload_n 1, 1) := by decide +kernel
theorem dX7_film_69 : decode cX7_film 69 = .ok (.invokevirtual 266, 3) := by decide +kernel
theorem dX7_film_72 : decode cX7_film 72 = .ok (.iload_n 1, 1) := by decide +kernel
theorem dX7_film_73 : decode cX7_film 73 = .ok (.ireturn, 1) := by decide +kernel
theorem dX7_sheet_0 : decode cX7_sheet 0 = .ok (.iload_n 1, 1) := by decide +kernel
theorem dX7_sheet_1 : decode cX7_sheet 1 = .ok (.invokestatic 246, 3) := by decide +kernel
theorem dX7_sheet_4 : decode cX7_sheet 4 = .ok (.ifCond .ne 16, 3) := by decide +kernel
theorem dX7_sheet_7 : decode cX7_sheet 7 = .ok (.iload_n 2, 1) := by decide +kernel
theorem dX7_sheet_8 : decode cX7_sheet 8 = .ok (.invokestatic 249, 3) := by decide +kernel
theorem dX7_sheet_11 : decode cX7_sheet 11 = .ok (.ifCond .ne 9, 3) := by decide +kernel
theorem dX7_sheet_14 : decode cX7_sheet 14 = .ok (.iload_n 3, 1) := by decide +kernel
theorem dX7_sheet_15 : decode cX7_sheet 15 = .ok (.bipush 24, 2) := by decide +kernel
theorem dX7_sheet_17 : decode cX7_sheet 17 = .ok (.if_icmp .le 5, 3) := by decide +kernel
theorem dX7_sheet_20 : decode cX7_sheet 20 = .ok (.iconst (-1), 1) := by decide +kernel
theorem dX7_sheet_21 : decode cX7_sheet 21 = .ok (.ireturn, 1) := by decide +kernel
theorem dX7_sheet_22 : decode cX7_sheet 22 = .ok (.iload_n 3, 1) := by decide +kernel
theorem dX7_sheet_23 : decode cX7_sheet 23 = .ok (.ifCond .ge 6, 3) := by decide +kernel
theorem dX7_sheet_26 : decode cX7_sheet 26 = .ok (.bipush (-14), 2) := by decide +kernel
theorem dX7_sheet_28 : decode cX7_sheet 28 = .ok (.ireturn, 1) := by decide +kernel
theorem dX7_sheet_29 : decode cX7_sheet 29 = .ok (.aload_n 0, 1) := by decide +kernel
theorem dX7_sheet_30 : decode cX7_sheet 30 = .ok (.getfield 55, 3) := by decide +kernel
theorem dX7_sheet_33 : decode cX7_sheet 33 = .ok (.iload_n 1, 1) := by decide +kernel
theorem dX7_sheet_34 : decode cX7_sheet 34 = .ok (.aaload, 1) := by decide +kernel
theorem dX7_sheet_35 : decode cX7_sheet 35 = .ok (.iload_n 2, 1) := by decide +kernel
theorem dX7_sheet_36 : decode cX7_sheet 36 = .ok (.iload_n 3, 1) := by decide +kernel
theorem dX7_sheet_37 : decode cX7_sheet 37 = .ok (.invokevirtual 270, 3) := by decide +kernel
theorem dX7_sheet_40 : decode cX7_sheet 40 = .ok (.iload_n 3, 1) := by decide +kernel
theorem dX7_sheet_41 : decode cX7_sheet 41 = .ok (.ireturn, 1) := by decide +kernel
theorem dX7_drop_0 : decode cX7_drop 0 = .ok (.iload_n 1, 1) := by decide +kernel
theorem dX7_drop_1 : decode cX7_drop 1 = .ok (.invokestatic 246, 3) := by decide +kernel
theorem dX7_drop_4 : decode cX7_drop 4 = .ok (.ifCond .eq 5, 3) := by decide +kernel
theorem dX7_drop_7 : decode cX7_drop 7 = .ok (.iconst (-1), 1) := by decide +kernel
theorem dX7_drop_8 : decode cX7_drop 8 = .ok (.ireturn, 1) := by decide +kernel
theorem dX7_drop_9 : decode cX7_drop 9 = .ok (.aload_n 0, 1) := by decide +kernel
theorem dX7_drop_10 : decode cX7_drop 10 = .ok (.getfield 55, 3) := by decide +kernel
theorem dX7_drop_13 : decode cX7_drop 13 = .ok (.iload_n 1, 1) := by decide +kernel
theorem dX7_drop_14 : decode cX7_drop 14 = .ok (.aaload, 1) := by decide +kernel
theorem dX7_drop_15 : decode cX7_drop 15 = .ok (.invokevirtual 274, 3) := by decide +kernel
theorem dX7_drop_18 : decode cX7_drop 18 = .ok (.ifCond .eq 6, 3) := by decide +kernel
theorem dX7_drop_21 : decode cX7_drop 21 = .ok (.bipush (-11), 2) := by decide +kernel
theorem dX7_drop_23 : decode cX7_drop 23 = .ok (.ireturn, 1) := by decide +kernel
theorem dX7_drop_24 : decode cX7_drop 24 = .ok (.aload_n 0, 1) := by decide +kernel
theorem dX7_drop_25 : decode cX7_drop 25 = .ok (.getfield 55, 3) := by decide +kernel
theorem dX7_drop_28 : decode cX7_drop 28 = .ok (.iload_n 1, 1) := by decide +kernel
theorem dX7_drop_29 : decode cX7_drop 29 = .ok (.aaload, 1) := by decide +kernel
theorem dX7_drop_30 : decode cX7_drop 30 = .ok (.invokevirtual 277, 3) := by decide +kernel
theorem dX7_drop_33 : decode cX7_drop 33 = .ok (.ireturn, 1) := by decide +kernel
theorem dX7_item_0 : decode cX7_item 0 = .ok (.iload_n 1, 1) := by decide +kernel
theorem dX7_item_1 : decode cX7_item 1 = .ok (.invokestatic 246, 3) := by decide +kernel
theorem dX7_item_4 : decode cX7_item 4 = .ok (.ifCond .ne 10, 3) := by decide +kernel
theorem dX7_item_7 : decode cX7_item 7 = .ok (.iload_n 2, 1) := by decide +kernel
theorem dX7_item_8 : decode cX7_item 8 = .ok (.invokestatic 249, 3) := by decide +kernel
theorem dX7_item_11 : decode cX7_item 11 = .ok (.ifCond .eq 5, 3) := by decide +kernel
theorem dX7_item_14 : decode cX7_item 14 = .ok (.iconst (-1), 1) := by decide +kernel
theorem dX7_item_15 : decode cX7_item 15 = .ok (.ireturn, 1) := by decide +kernel
theorem dX7_item_16 : decode cX7_item 16 = .ok (.aload_n 0, 1) := by decide +kernel
theorem dX7_item_17 : decode cX7_item 17 = .ok (.getfield 55, 3) := by decide +kernel
theorem dX7_item_20 : decode cX7_item 20 = .ok (.iload_n 1, 1) := by decide +kernel
theorem dX7_item_21 : decode cX7_item 21 = .ok (.aaload, 1) := by decide +kernel
theorem dX7_item_22 : decode cX7_item 22 = .ok (.iload_n 2, 1) := by decide +kernel
theorem dX7_item_23 : decode cX7_item 23 = .ok (.iload_n 3, 1) := by decide +kernel
theorem dX7_item_24 : decode cX7_item 24 = .ok (.iconst 1, 1) := by decide +kernel
theorem dX7_item_25 : decode cX7_item 25 = .ok (.invokevirtual 252, 3) := by decide +kernel
theorem dX7_item_28 : decode cX7_item 28 = .ok (.istore 6, 2) := by decide +kernel
theorem dX7_item_30 : decode cX7_item 30 = .ok (.iload 6, 2) := by decide +kernel
theorem dX7_item_32 : decode cX7_item 32 = .ok (.ifCond .eq 6, 3) := by decide +kernel
theorem dX7_item_35 : decode cX7_item 35 = .ok (.iload 6, 2) := by decide +kernel
theorem dX7_item_37 : decode cX7_item 37 = .ok (.ireturn, 1) := by decide +kernel
theorem dX7_item_38 : decode cX7_item 38 = .ok (.aload_n 0, 1) := by decide +kernel
theorem dX7_item_39 : decode cX7_item 39 = .ok (.getfield 55, 3) := by decide +kernel
theorem dX7_item_42 : decode cX7_item 42 = .ok (.iload_n 1, 1) := by decide +kernel
theorem dX7_item_43 : decode cX7_item 43 = .ok (.aaload, 1) := by decide +kernel
theorem dX7_item_44 : decode cX7_item 44 = .ok (.iload_n 3, 1) := by decide +kernel
theorem dX7_item_45 : decode cX7_item 45 = .ok (.lload 4, 2) := by decide +kernel
theorem dX7_item_47 : decode cX7_item 47 = .ok (.invokevirtual 280, 3) := by decide +kernel
theorem dX7_item_50 : decode cX7_item 50 = .ok (.iconst 1, 1) := by decide +kernel
theorem dX7_item_51 : decode cX7_item 51 = .ok (.ireturn, 1) := by decide +kernel
theorem dX7_copy_0 : decode cX7_copy 0 = .ok (.iload_n 1, 1) := by decide +kernel
theorem dX7_copy_1 : decode cX7_copy 1 = .ok (.invokestatic 246, 3) := by decide +kernel
theorem dX7_copy_4 : decode cX7_copy 4 = .ok (.ifCond .ne 10, 3) := by decide +kernel
theorem dX7_copy_7 : decode cX7_copy 7 = .ok (.iload_n 3, 1) := by decide +kernel
theorem dX7_copy_8 : decode cX7_copy 8 = .ok (.invokestatic 246, 3) := by decide +kernel
theorem dX7_copy_11 : decode cX7_copy 11 = .ok (.ifCond .eq 5, 3) := by decide +kernel
theorem dX7_copy_14 : decode cX7_copy 14 = .ok (.iconst (-1), 1) := by decide +kernel
theorem dX7_copy_15 : decode cX7_copy 15 = .ok (.ireturn, 1) := by decide +kernel
theorem dX7_copy_16 : decode cX7_copy 16 = .ok (.aload_n 0, 1) := by decide +kernel
theorem dX7_copy_17 : decode cX7_copy 17 = .ok (.getfield 55, 3) := by decide +kernel
theorem dX7_copy_20 : decode cX7_copy 20 = .ok (.iload_n 1, 1) := by decide +kernel
theorem dX7_copy_21 : decode cX7_copy 21 = .ok (.aaload, 1) := by decide +kernel
theorem dX7_copy_22 : decode cX7_copy 22 = .ok (.astore 6, 2) := by decide +kernel
theorem dX7_copy_24 : decode cX7_copy 24 = .ok (.aload_n 0, 1) := by decide +kernel
theorem dX7_copy_25 : decode cX7_copy 25 = .ok (.getfield 55, 3) := by decide +kernel
theorem dX7_copy_28 : decode cX7_copy 28 = .ok (.iload_n 3, 1) := by decide +kernel
theorem dX7_copy_29 : decode cX7_copy 29 = .ok (.aaload, 1) := by decide +kernel
theorem dX7_copy_30 : decode cX7_copy 30 = .ok (.astore 7, 2) := by decide +kernel
theorem dX7_copy_32 : decode cX7_copy 32 = .ok (.aload 6, 2) := by decide +kernel
theorem dX7_copy_34 : decode cX7_copy 34 = .ok (.invokevirtual 274, 3) := by decide +kernel
theorem dX7_copy_37 : decode cX7_copy 37 = .ok (.ifCond .ne 11, 3) := by decide +kernel
theorem dX7_copy_40 : decode cX7_copy 40 = .ok (.aload 7, 2) := by decide +kernel
theorem dX7_copy_42 : decode cX7_copy 42 = .ok (.invokevirtual 274, 3) := by decide +kernel
theorem dX7_copy_45 : decode cX7_copy 45 = .ok (.ifCond .eq 6, 3) := by decide +kernel
theorem dX7_copy_48 : decode cX7_copy 48 = .ok (.bipush (-11), 2) := by decide +kernel
theorem dX7_copy_50 : decode cX7_copy 50 = .ok (.ireturn, 1) := by decide +kernel
theorem dX7_copy_51 : decode cX7_copy 51 = .ok (.aload 6, 2) := by decide +kernel
theorem dX7_copy_53 : decode cX7_copy 53 = .ok (.getfield 284, 3) := by decide +kernel
theorem dX7_copy_56 : decode cX7_copy 56 = .ok (.aload 7, 2) := by decide +kernel
theorem dX7_copy_58 : decode cX7_copy 58 = .ok (.getfield 284, 3) := by decide +kernel
theorem dX7_copy_61 : decode cX7_copy 61 = .ok (.if_icmp .eq 6, 3) := by decide +kernel
theorem dX7_copy_64 : decode cX7_copy 64 = .ok (.bipush (-12), 2) := by decide +kernel
theorem dX7_copy_66 : decode cX7_copy 66 = .ok (.ireturn, 1) := by decide +kernel
theorem dX7_copy_67 : decode cX7_copy 67 = .ok (.aload 6, 2) := by decide +kernel
theorem dX7_copy_69 : decode cX7_copy 69 = .ok (.iload_n 2, 1) := by decide +kernel
theorem dX7_copy_70 : decode cX7_copy 70 = .ok (.iload 5, 2) := by decide +kernel
theorem dX7_copy_72 : decode cX7_copy 72 = .ok (.invokevirtual 287, 3) := by decide +kernel
theorem dX7_copy_75 : decode cX7_copy 75 = .ok (.ifCond .eq 15, 3) := by decide +kernel
theorem dX7_copy_78 : decode cX7_copy 78 = .ok (.aload 7, 2) := by decide +kernel
theorem dX7_copy_80 : decode cX7_copy 80 = .ok (.iload 4, 2) := by decide +kernel
theorem dX7_copy_82 : decode cX7_copy 82 = .ok (.iload 5, 2) := by decide +kernel
theorem dX7_copy_84 : decode cX7_copy 84 = .ok (.invokevirtual 287, 3) := by decide +kernel
theorem dX7_copy_87 : decode cX7_copy 87 = .ok (.ifCond .ne 6, 3) := by decide +kernel
theorem dX7_copy_90 : decode cX7_copy 90 = .ok (.bipush (-13), 2) := by decide +kernel
theorem dX7_copy_92 : decode cX7_copy 92 = .ok (.ireturn, 1) := by decide +kernel
theorem dX7_copy_93 : decode cX7_copy 93 = .ok (.aload 6, 2) := by decide +kernel
theorem dX7_copy_95 : decode cX7_copy 95 = .ok (.getfield 290, 3) := by decide +kernel
theorem dX7_copy_98 : decode cX7_copy 98 = .ok (.iload_n 2, 1) := by decide +kernel
theorem dX7_copy_99 : decode cX7_copy 99 = .ok (.aload 7, 2) := by decide +kernel
theorem dX7_copy_101 : decode cX7_copy 101 = .ok (.getfield 290, 3) := by decide +kernel
theorem dX7_copy_104 : decode cX7_copy 104 = .ok (.iload 4, 2) := by decide +kernel
theorem dX7_copy_106 : decode cX7_copy 106 = .ok (.iload 5, 2) := by decide +kernel
theorem dX7_copy_108 : decode cX7_copy 108 = .ok (.invokestatic 294, 3) := by decide +kernel
theorem dX7_copy_111 : decode cX7_copy 111 = .ok (.iload 5, 2) := by decide +kernel
theorem dX7_copy_113 : decode cX7_copy 113 = .ok (.ireturn, 1) := by decide +kernel
theorem dX7_pass_0 : decode cX7_pass 0 = .ok (.iload_n 1, 1) := by decide +kernel
theorem dX7_pass_1 : decode cX7_pass 1 = .ok (.iconst 1, 1) := by decide +kernel
theorem dX7_pass_2 : decode cX7_pass 2 = .ok (.bipush 40, 2) := by decide +kernel
theorem dX7_pass_4 : decode cX7_pass 4 = .ok (.invokestatic 60, 3) := by decide +kernel
theorem dX7_pass_7 : decode cX7_pass 7 = .ok (.ifCond .eq 5, 3) := by decide +kernel
theorem dX7_pass_10 : decode cX7_pass 10 = .ok (.iconst (-1), 1) := by decide +kernel
theorem dX7_pass_11 : decode cX7_pass 11 = .ok (.ireturn, 1) := by decide +kernel
theorem dX7_pass_12 : decode cX7_pass 12 = .ok (.aload_n 0, 1) := by decide +kernel
theorem dX7_pass_13 : decode cX7_pass 13 = .ok (.getfield 12, 3) := by decide +kernel
theorem dX7_pass_16 : decode cX7_pass 16 = .ok (.getfield 64, 3) := by decide +kernel
theorem dX7_pass_19 : decode cX7_pass 19 = .ok (.getfield 144, 3) := by decide +kernel
theorem dX7_pass_22 : decode cX7_pass 22 = .ok (.iload_n 1, 1) := by decide +kernel
theorem dX7_pass_23 : decode cX7_pass 23 = .ok (.iadd, 1) := by decide +kernel
theorem dX7_pass_24 : decode cX7_pass 24 = .ok (.sipush 9999, 3) := by decide +kernel
theorem dX7_pass_27 : decode cX7_pass 27 = .ok (.if_icmp .le 6, 3) := by decide +kernel
theorem dX7_pass_30 : decode cX7_pass 30 = .ok (.bipush (-3), 2) := by decide +kernel
theorem dX7_pass_32 : decode cX7_pass 32 = .ok (.ireturn, 1) := by decide +kernel
theorem dX7_pass_33 : decode cX7_pass 33 = .ok (.iconst 0, 1) := by decide +kernel
theorem dX7_pass_34 : decode cX7_pass 34 = .ok (.istore_n 3, 1) := by decide +kernel
theorem dX7_pass_35 : decode cX7_pass 35 = .ok (.iload_n 3, 1) := by decide +kernel
theorem dX7_pass_36 : decode cX7_pass 36 = .ok (.iload_n 1, 1) := by decide +kernel
theorem dX7_pass_37 : decode cX7_pass 37 = .ok (.if_icmp .ge 40, 3) := by decide +kernel
theorem dX7_pass_40 : decode cX7_pass 40 = .ok (.aload_n 0, 1) := by decide +kernel
theorem dX7_pass_41 : decode cX7_pass 41 = .ok (.getfield 12, 3) := by decide +kernel
theorem dX7_pass_44 : decode cX7_pass 44 = .ok (.invokevirtual 164, 3) := by decide +kernel
theorem dX7_pass_47 : decode cX7_pass 47 = .ok (.iload_n 2, 1) := by decide +kernel
theorem dX7_pass_48 : decode cX7_pass 48 = .ok (.ifCond .eq 13, 3) := by decide +kernel
theorem dX7_pass_51 : decode cX7_pass 51 = .ok (.aload_n 0, 1) := by decide +kernel
theorem dX7_pass_52 : decode cX7_pass 52 = .ok (.getfield 12, 3) := by decide +kernel
theorem dX7_pass_55 : decode cX7_pass 55 = .ok (.getfield 64, 3) := by decide +kernel
theorem dX7_pass_58 : decode cX7_pass 58 = .ok (.invokevirtual 300, 3) := by decide +kernel
theorem dX7_pass_61 : decode cX7_pass 61 = .ok (.aload_n 0, 1) := by decide +kernel
theorem dX7_pass_62 : decode cX7_pass 62 = .ok (.getfield 12, 3) := by decide +kernel
theorem dX7_pass_65 : decode cX7_pass 65 = .ok (.getfield 64, 3) := by decide +kernel
theorem dX7_pass_68 : decode cX7_pass 68 = .ok (.invokevirtual 303, 3) := by decide +kernel
theorem dX7_pass_71 : decode cX7_pass 71 = .ok (.iinc 3 1, 3) := by decide +kernel
theorem dX7_pass_74 : decode cX7_pass 74 = .ok (.goto (-39), 3) := by decide +kernel
theorem dX7_pass_77 : decode cX7_pass 77 = .ok (.aload_n 0, 1) := by decide +kernel
theorem dX7_pass_78 : decode cX7_pass 78 = .ok (.getfield 12, 3) := by decide +kernel
theorem dX7_pass_81 : decode cX7_pass 81 = .ok (.getfield 64, 3) := by decide +kernel
theorem dX7_pass_84 : decode cX7_pass 84 = .ok (.iconst 2, 1) := by decide +kernel
theorem dX7_pass_85 : decode cX7_pass 85 = .ok (.invokevirtual 150, 3) := by decide +kernel
theorem dX7_pass_88 : decode cX7_pass 88 = .ok (.ireturn, 1) := by decide +kernel
theorem dX7_foundOr_0 : decode cX7_foundOr 0 = .ok (.aload_n 0, 1) := by decide +kernel
theorem dX7_foundOr_1 : decode cX7_foundOr 1 = .ok (.getfield 42, 3) := by decide +kernel
theorem dX7_foundOr_4 : decode cX7_foundOr 4 = .ok (.getfield 197, 3) := by decide +kernel
theorem dX7_foundOr_7 : decode cX7_foundOr 7 = .ok (.bipush (-4), 2) := by decide +kernel
theorem dX7_foundOr_9 : decode cX7_foundOr 9 = .ok (.if_icmp .ne 6, 3) := by decide +kernel
theorem dX7_foundOr_12 : decode cX7_foundOr 12 = .ok (.bipush (-4), 2) := by decide +kernel
theorem dX7_foundOr_14 : decode cX7_foundOr 14 = .ok (.ireturn, 1) := by decide +kernel
theorem dX7_foundOr_15 : decode cX7_foundOr 15 = .ok (.iload_n 1, 1) := by decide +kernel
theorem dX7_foundOr_16 : decode cX7_foundOr 16 = .ok (.ifCond .ne 13, 3) := by decide +kernel
theorem dX7_foundOr_19 : decode cX7_foundOr 19 = .ok (.aload_n 0, 1) := by decide +kernel
theorem dX7_foundOr_20 : decode cX7_foundOr 20 = .ok (.getfield 42, 3) := by decide +kernel
theorem dX7_foundOr_23 : decode cX7_foundOr 23 = .ok (.getfield 197, 3) := by decide +kernel
theorem dX7_foundOr_26 : decode cX7_foundOr 26 = .ok (.goto 13, 3) := by decide +kernel
theorem dX7_foundOr_29 : decode cX7_foundOr 29 = .ok (.aload_n 0, 1) := by decide +kernel
theorem dX7_foundOr_30 : decode cX7_foundOr 30 = .ok (.getfield 42, 3) := by decide +kernel
theorem dX7_foundOr_33 : decode cX7_foundOr 33 = .ok (.getfield 200, 3) := by decide +kernel
theorem dX7_foundOr_36 : decode cX7_foundOr 36 = .ok (.invokestatic 187, 3) := by decide +kernel
theorem dX7_foundOr_39 : decode cX7_foundOr 39 = .ok (.ireturn, 1) := by decide +kernel
theorem dX7_orNone_0 : decode cX7_orNone 0 = .ok (.iload_n 0, 1) := by decide +kernel
theorem dX7_orNone_1 : decode cX7_orNone 1 = .ok (.bipush 101, 2) := by decide +kernel
theorem dX7_orNone_3 : decode cX7_orNone 3 = .ok (.if_icmp .lt 8, 3) := by decide +kernel
theorem dX7_orNone_6 : decode cX7_orNone 6 = .ok (.bipush (-4), 2) := by decide +kernel
theorem dX7_orNone_8 : decode cX7_orNone 8 = .ok (.goto 4, 3) := by decide +kernel
theorem dX7_orNone_11 : decode cX7_orNone 11 = .ok (.iload_n 0, 1) := by decide +kernel
theorem dX7_orNone_12 : decode cX7_orNone 12 = .ok (.ireturn, 1) := by decide +kernel
theorem dX7_isNoSheet_0 : decode cX7_isNoSheet 0 = .ok (.iload_n 0, 1) := by decide +kernel
theorem dX7_isNoSheet_1 : decode cX7_isNoSheet 1 = .ok (.iconst 0, 1) := by decide +kernel
theorem dX7_isNoSheet_2 : decode cX7_isNoSheet 2 = .ok (.iconst 3, 1) := by decide +kernel
theorem dX7_isNoSheet_3 : decode cX7_isNoSheet 3 = .ok (.invokestatic 60, 3) := by decide +kernel
theorem dX7_isNoSheet_6 : decode cX7_isNoSheet 6 = .ok (.ireturn, 1) := by decide +kernel
theorem dX7_isNoLane_0 : decode cX7_isNoLane 0 = .ok (.iload_n 0, 1) := by decide +kernel
theorem dX7_isNoLane_1 : decode cX7_isNoLane 1 = .ok (.iconst 0, 1) := by decide +kernel
theorem dX7_isNoLane_2 : decode cX7_isNoLane 2 = .ok (.iconst 3, 1) := by decide +kernel
theorem dX7_isNoLane_3 : decode cX7_isNoLane 3 = .ok (.invokestatic 60, 3) := by decide +kernel
theorem dX7_isNoLane_6 : decode cX7_isNoLane 6 = .ok (.ireturn, 1) := by decide +kernel
theorem dX7_isOutside_0 : decode cX7_isOutside 0 = .ok (.iload_n 0, 1) := by decide +kernel
theorem dX7_isOutside_1 : decode cX7_isOutside 1 = .ok (.iload_n 1, 1) := by decide +kernel
theorem dX7_isOutside_2 : decode cX7_isOutside 2 = .ok (.if_icmp .lt 8, 3) := by decide +kernel
theorem dX7_isOutside_5 : decode cX7_isOutside 5 = .ok (.iload_n 0, 1) := by decide +kernel
theorem dX7_isOutside_6 : decode cX7_isOutside 6 = .ok (.iload_n 2, 1) := by decide +kernel
theorem dX7_isOutside_7 : decode cX7_isOutside 7 = .ok (.if_icmp .le 7, 3) := by decide +kernel
theorem dX7_isOutside_10 : decode cX7_isOutside 10 = .ok (.iconst 1, 1) := by decide +kernel
theorem dX7_isOutside_11 : decode cX7_isOutside 11 = .ok (.goto 4, 3) := by decide +kernel
theorem dX7_isOutside_14 : decode cX7_isOutside 14 = .ok (.iconst 0, 1) := by decide +kernel
theorem dX7_isOutside_15 : decode cX7_isOutside 15 = .ok (.ireturn, 1) := by decide +kernel
theorem dX7_isIn_0 : decode cX7_isIn 0 = .ok (.iload_n 0, 1) := by decide +kernel
theorem dX7_isIn_1 : decode cX7_isIn 1 = .ok (.iload_n 1, 1) := by decide +kernel
theorem dX7_isIn_2 : decode cX7_isIn 2 = .ok (.ishr, 1) := by decide +kernel
theorem dX7_isIn_3 : decode cX7_isIn 3 = .ok (.iconst 1, 1) := by decide +kernel
theorem dX7_isIn_4 : decode cX7_isIn 4 = .ok (.iand, 1) := by decide +kernel
theorem dX7_isIn_5 : decode cX7_isIn 5 = .ok (.ifCond .eq 7, 3) := by decide +kernel
theorem dX7_isIn_8 : decode cX7_isIn 8 = .ok (.iconst 1, 1) := by decide +kernel
theorem dX7_isIn_9 : decode cX7_isIn 9 = .ok (.goto 4, 3) := by decide +kernel
theorem dX7_isIn_12 : decode cX7_isIn 12 = .ok (.iconst 0, 1) := by decide +kernel
theorem dX7_isIn_13 : decode cX7_isIn 13 = .ok (.ireturn, 1) := by decide +kernel
theorem dX7_waysOfAtLeast_0 : decode cX7_waysOfAtLeast 0 = .ok (.iconst 0, 1) := by decide +kernel
theorem dX7_waysOfAtLeast_1 : decode cX7_waysOfAtLeast 1 = .ok (.istore_n 3, 1) := by decide +kernel
theorem dX7_waysOfAtLeast_2 : decode cX7_waysOfAtLeast 2 = .ok (.iconst 1, 1) := by decide +kernel
theorem dX7_waysOfAtLeast_3 : decode cX7_waysOfAtLeast 3 = .ok (.istore 4, 2) := by decide +kernel
theorem dX7_waysOfAtLeast_5 : decode cX7_waysOfAtLeast 5 = .ok (.iconst 0, 1) := by decide +kernel
theorem dX7_waysOfAtLeast_6 : decode cX7_waysOfAtLeast 6 = .ok (.istore 5, 2) := by decide +kernel
theorem dX7_waysOfAtLeast_8 : decode cX7_waysOfAtLeast 8 = .ok (.iload 5, 2) := by decide +kernel
theorem dX7_waysOfAtLeast_10 : decode cX7_waysOfAtLeast 10 = .ok (.iload_n 1, 1) := by decide +kernel
theorem dX7_waysOfAtLeast_11 : decode cX7_waysOfAtLeast 11 = .ok (.if_icmp .gt 53, 3) := by decide +kernel
theorem dX7_waysOfAtLeast_14 : decode cX7_waysOfAtLeast 14 = .ok (.iload 5, 2) := by decide +kernel
theorem dX7_waysOfAtLeast_16 : decode cX7_waysOfAtLeast 16 = .ok (.iload_n 0, 1) := by decide +kernel
theorem dX7_waysOfAtLeast_17 : decode cX7_waysOfAtLeast 17 = .ok (.if_icmp .lt 27, 3) := by decide +kernel
theorem dX7_waysOfAtLeast_20 : decode cX7_waysOfAtLeast 20 = .ok (.iload_n 3, 1) := by decide +kernel
theorem dX7_waysOfAtLeast_21 : decode cX7_waysOfAtLeast 21 = .ok (.iload 4, 2) := by decide +kernel
theorem dX7_waysOfAtLeast_23 : decode cX7_waysOfAtLeast 23 = .ok (.iload_n 2, 1) := by decide +kernel
theorem dX7_waysOfAtLeast_24 : decode cX7_waysOfAtLeast 24 = .ok (.iload 5, 2) := by decide +kernel
theorem dX7_waysOfAtLeast_26 : decode cX7_waysOfAtLeast 26 = .ok (.invokestatic 236, 3) := by decide +kernel
theorem dX7_waysOfAtLeast_29 : decode cX7_waysOfAtLeast 29 = .ok (.imul, 1) := by decide +kernel
theorem dX7_waysOfAtLeast_30 : decode cX7_waysOfAtLeast 30 = .ok (.bipush 10, 2) := by decide +kernel
theorem dX7_waysOfAtLeast_32 : decode cX7_waysOfAtLeast 32 = .ok (.iload_n 2, 1) := by decide +kernel
theorem dX7_waysOfAtLeast_33 : decode cX7_waysOfAtLeast 33 = .ok (.isub, 1) := by decide +kernel
theorem dX7_waysOfAtLeast_34 : decode cX7_waysOfAtLeast 34 = .ok (.iload_n 1, 1) := by decide +kernel
theorem dX7_waysOfAtLeast_35 : decode cX7_waysOfAtLeast 35 = .ok (.iload 5, 2) := by decide +kernel
theorem dX7_waysOfAtLeast_37 : decode cX7_waysOfAtLeast 37 = .ok (.isub, 1) := by decide +kernel
theorem dX7_waysOfAtLeast_38 : decode cX7_waysOfAtLeast 38 = .ok (.invokestatic 236, 3) := by decide +kernel
theorem dX7_waysOfAtLeast_41 : decode cX7_waysOfAtLeast 41 = .ok (.imul, 1) := by decide +kernel
theorem dX7_waysOfAtLeast_42 : decode cX7_waysOfAtLeast 42 = .ok (.iadd, 1) := by decide +kernel
theorem dX7_waysOfAtLeast_43 : decode cX7_waysOfAtLeast 43 = .ok (.istore_n 3, 1) := by decide +kernel
theorem dX7_waysOfAtLeast_44 : decode cX7_waysOfAtLeast 44 = .ok (.iload 4, 2) := by decide +kernel
theorem dX7_waysOfAtLeast_46 : decode cX7_waysOfAtLeast 46 = .ok (.iload_n 1, 1) := by decide +kernel
theorem dX7_waysOfAtLeast_47 : decode cX7_waysOfAtLeast 47 = .ok (.iload 5, 2) := by decide +kernel
theorem dX7_waysOfAtLeast_49 : decode cX7_waysOfAtLeast 49 = .ok (.isub, 1) := by decide +kernel
theorem dX7_waysOfAtLeast_50 : decode cX7_waysOfAtLeast 50 = .ok (.imul, 1) := by decide +kernel
theorem dX7_waysOfAtLeast_51 : decode cX7_waysOfAtLeast 51 = .ok (.iload 5, 2) := by decide +kernel
theorem dX7_waysOfAtLeast_53 : decode cX7_waysOfAtLeast 53 = .ok (.iconst 1, 1) := by decide +kernel
theorem dX7_waysOfAtLeast_54 : decode cX7_waysOfAtLeast 54 = .ok (.iadd, 1) := by decide +kernel
theorem dX7_waysOfAtLeast_55 : decode cX7_waysOfAtLeast 55 = .ok (.idiv, 1) := by decide +kernel
theorem dX7_waysOfAtLeast_56 : decode cX7_waysOfAtLeast 56 = .ok (.istore 4, 2) := by decide +kernel
theorem dX7_waysOfAtLeast_58 : decode cX7_waysOfAtLeast 58 = .ok (.iinc 5 1, 3) := by decide +kernel
theorem dX7_waysOfAtLeast_61 : decode cX7_waysOfAtLeast 61 = .ok (.goto (-53), 3) := by decide +kernel
theorem dX7_waysOfAtLeast_64 : decode cX7_waysOfAtLeast 64 = .ok (.iload_n 3, 1) := by decide +kernel
theorem dX7_waysOfAtLeast_65 : decode cX7_waysOfAtLeast 65 = .ok (.ireturn, 1) := by decide +kernel
theorem dX7_power_0 : decode cX7_power 0 = .ok (.iconst 1, 1) := by decide +kernel
theorem dX7_power_1 : decode cX7_power 1 = .ok (.istore_n 2, 1) := by decide +kernel
theorem dX7_power_2 : decode cX7_power 2 = .ok (.iconst 0, 1) := by decide +kernel
theorem dX7_power_3 : decode cX7_power 3 = .ok (.istore_n 3, 1) := by decide +kernel
theorem dX7_power_4 : decode cX7_power 4 = .ok (.iload_n 3, 1) := by decide +kernel
theorem dX7_power_5 : decode cX7_power 5 = .ok (.iload_n 1, 1) := by decide +kernel
theorem dX7_power_6 : decode cX7_power 6 = .ok (.if_icmp .ge 13, 3) := by decide +kernel
theorem dX7_power_9 : decode cX7_power 9 = .ok (.iload_n 2, 1) := by decide +kernel
theorem dX7_power_10 : decode cX7_power 10 = .ok (.iload_n 0, 1) := by decide +kernel
theorem dX7_power_11 : decode cX7_power 11 = .ok (.imul, 1) := by decide +kernel
theorem dX7_power_12 : decode cX7_power 12 = .ok (.istore_n 2, 1) := by decide +kernel
theorem dX7_power_13 : decode cX7_power 13 = .ok (.iinc 3 1, 3) := by decide +kernel
theorem dX7_power_16 : decode cX7_power 16 = .ok (.goto (-12), 3) := by decide +kernel
theorem dX7_power_19 : decode cX7_power 19 = .ok (.iload_n 2, 1) := by decide +kernel
theorem dX7_power_20 : decode cX7_power 20 = .ok (.ireturn, 1) := by decide +kernel
theorem dX7_greatestDivisor_0 : decode cX7_greatestDivisor 0 = .ok (.iconst 0, 1) := by decide +kernel
theorem dX7_greatestDivisor_1 : decode cX7_greatestDivisor 1 = .ok (.istore_n 2, 1) := by decide +kernel
theorem dX7_greatestDivisor_2 : decode cX7_greatestDivisor 2 = .ok (.iload_n 2, 1) := by decide +kernel
theorem dX7_greatestDivisor_3 : decode cX7_greatestDivisor 3 = .ok (.sipush 1000, 3) := by decide +kernel
theorem dX7_greatestDivisor_6 : decode cX7_greatestDivisor 6 = .ok (.if_icmp .ge 21, 3) := by decide +kernel
theorem dX7_greatestDivisor_9 : decode cX7_greatestDivisor 9 = .ok (.iload_n 1, 1) := by decide +kernel
theorem dX7_greatestDivisor_10 : decode cX7_greatestDivisor 10 = .ok (.ifCond .eq 17, 3) := by decide +kernel
theorem dX7_greatestDivisor_13 : decode cX7_greatestDivisor 13 = .ok (.iload_n 0, 1) := by decide +kernel
theorem dX7_greatestDivisor_14 : decode cX7_greatestDivisor 14 = .ok (.iload_n 1, 1) := by decide +kernel
theorem dX7_greatestDivisor_15 : decode cX7_greatestDivisor 15 = .ok (.irem, 1) := by decide +kernel
theorem dX7_greatestDivisor_16 : decode cX7_greatestDivisor 16 = .ok (.istore_n 3, 1) := by decide +kernel
theorem dX7_greatestDivisor_17 : decode cX7_greatestDivisor 17 = .ok (.iload_n 1, 1) := by decide +kernel
theorem dX7_greatestDivisor_18 : decode cX7_greatestDivisor 18 = .ok (.istore_n 0, 1) := by decide +kernel
theorem dX7_greatestDivisor_19 : decode cX7_greatestDivisor 19 = .ok (.iload_n 3, 1) := by decide +kernel
theorem dX7_greatestDivisor_20 : decode cX7_greatestDivisor 20 = .ok (.istore_n 1, 1) := by decide +kernel
theorem dX7_greatestDivisor_21 : decode cX7_greatestDivisor 21 = .ok (.iinc 2 1, 3) := by decide +kernel
theorem dX7_greatestDivisor_24 : decode cX7_greatestDivisor 24 = .ok (.goto (-22), 3) := by decide +kernel
theorem dX7_greatestDivisor_27 : decode cX7_greatestDivisor 27 = .ok (.iload_n 0, 1) := by decide +kernel
theorem dX7_greatestDivisor_28 : decode cX7_greatestDivisor 28 = .ok (.iconst 1, 1) := by decide +kernel
theorem dX7_greatestDivisor_29 : decode cX7_greatestDivisor 29 = .ok (.if_icmp .ge 7, 3) := by decide +kernel
theorem dX7_greatestDivisor_32 : decode cX7_greatestDivisor 32 = .ok (.iconst 1, 1) := by decide +kernel
theorem dX7_greatestDivisor_33 : decode cX7_greatestDivisor 33 = .ok (.goto 4, 3) := by decide +kernel
theorem dX7_greatestDivisor_36 : decode cX7_greatestDivisor 36 = .ok (.iload_n 0, 1) := by decide +kernel
theorem dX7_greatestDivisor_37 : decode cX7_greatestDivisor 37 = .ok (.ireturn, 1) := by decide +kernel
end
section
theorem dX8_init_0 : decode cX8_init 0 = .ok (.aload_n 0, 1) := by decide +kernel
theorem dX8_init_1 : decode cX8_init 1 = .ok (.invokespecial 1, 3) := by decide +kernel
theorem dX8_init_4 : decode cX8_init 4 = .ok (.aload_n 0, 1) := by decide +kernel
theorem dX8_init_5 : decode cX8_init 5 = .ok (.bipush 8, 2) := by decide +kernel
theorem dX8_init_7 : decode cX8_init 7 = .ok (.newarray .int, 2) := by decide +kernel
theorem dX8_init_9 : decode cX8_init 9 = .ok (.putfield 7, 3) := by decide +kernel
theorem dX8_init_12 : decode cX8_init 12 = .ok (.aload_n 0, 1) := by decide +kernel
theorem dX8_init_13 : decode cX8_init 13 = .ok (.iconst 5, 1) := by decide +kernel
theorem dX8_init_14 : decode cX8_init 14 = .ok (.newarray .int, 2) := by decide +kernel
theorem dX8_init_16 : decode cX8_init 16 = .ok (.putfield 13, 3) := by decide +kernel
theorem dX8_init_19 : decode cX8_init 19 = .ok (.aload_n 0, 1) := by decide +kernel
theorem dX8_init_20 : decode cX8_init 20 = .ok (.bipush 31, 2) := by decide +kernel
theorem dX8_init_22 : decode cX8_init 22 = .ok (.newarray .int, 2) := by decide +kernel
theorem dX8_init_24 : decode cX8_init 24 = .ok (.putfield 16, 3) := by decide +kernel
theorem dX8_init_27 : decode cX8_init 27 = .ok (.aload_n 0, 1) := by decide +kernel
theorem dX8_init_28 : decode cX8_init 28 = .ok (.bipush 31, 2) := by decide +kernel
theorem dX8_init_30 : decode cX8_init 30 = .ok (.newarray .int, 2) := by decide +kernel
theorem dX8_init_32 : decode cX8_init 32 = .ok (.putfield 19, 3) := by decide +kernel
theorem dX8_init_35 : decode cX8_init 35 = .ok (.aload_n 0, 1) := by decide +kernel
theorem dX8_init_36 : decode cX8_init 36 = .ok (.sipush 248, 3) := by decide +kernel
theorem dX8_init_39 : decode cX8_init 39 = .ok (.newarray .int, 2) := by decide +kernel
theorem dX8_init_41 : decode cX8_init 41 = .ok (.putfield 22, 3) := by decide +kernel
theorem dX8_init_44 : decode cX8_init 44 = .ok (.aload_n 0, 1) := by decide +kernel
theorem dX8_init_45 : decode cX8_init 45 = .ok (.bipush 16, 2) := by decide +kernel
theorem dX8_init_47 : decode cX8_init 47 = .ok (.newarray .int, 2) := by decide +kernel
theorem dX8_init_49 : decode cX8_init 49 = .ok (.putfield 25, 3) := by decide +kernel
theorem dX8_init_52 : decode cX8_init 52 = .ok (.aload_n 0, 1) := by decide +kernel
theorem dX8_init_53 : decode cX8_init 53 = .ok (.bipush 31, 2) := by decide +kernel
theorem dX8_init_55 : decode cX8_init 55 = .ok (.newarray .int, 2) := by decide +kernel
theorem dX8_init_57 : decode cX8_init 57 = .ok (.putfield 28, 3) := by decide +kernel
theorem dX8_init_60 : decode cX8_init 60 = .ok (.aload_n 0, 1) := by decide +kernel
theorem dX8_init_61 : decode cX8_init 61 = .ok (.sipush 248, 3) := by decide +kernel
theorem dX8_init_64 : decode cX8_init 64 = .ok (.newarray .int, 2) := by decide +kernel
theorem dX8_init_66 : decode cX8_init 66 = .ok (.putfield 31, 3) := by decide +kernel
theorem dX8_init_69 : decode cX8_init 69 = .ok (.aload_n 0, 1) := by decide +kernel
theorem dX8_init_70 : decode cX8_init 70 = .ok (.bipush 96, 2) := by decide +kernel
theorem dX8_init_72 : decode cX8_init 72 = .ok (.newarray .long, 2) := by decide +kernel
theorem dX8_init_74 : decode cX8_init 74 = .ok (.putfield 34, 3) := by decide +kernel
theorem dX8_init_77 : decode cX8_init 77 = .ok (.aload_n 0, 1) := by decide +kernel
theorem dX8_init_78 : decode cX8_init 78 = .ok (.iconst 4, 1) := by decide +kernel
theorem dX8_init_79 : decode cX8_init 79 = .ok (.newarray .int, 2) := by decide +kernel
theorem dX8_init_81 : decode cX8_init 81 = .ok (.putfield 38, 3) := by decide +kernel
theorem dX8_init_84 : decode cX8_init 84 = .ok (.aload_n 0, 1) := by decide +kernel
theorem dX8_init_85 : decode cX8_init 85 = .ok (.iconst 4, 1) := by decide +kernel
theorem dX8_init_86 : decode cX8_init 86 = .ok (.newarray .int, 2) := by decide +kernel
theorem dX8_init_88 : decode cX8_init 88 = .ok (.putfield 41, 3) := by decide +kernel
theorem dX8_init_91 : decode cX8_init 91 = .ok (.aload_n 0, 1) := by decide +kernel
theorem dX8_init_92 : decode cX8_init 92 = .ok (.bipush 90, 2) := by decide +kernel
theorem dX8_init_94 : decode cX8_init 94 = .ok (.newarray .int, 2) := by decide +kernel
theorem dX8_init_96 : decode cX8_init 96 = .ok (.putfield 44, 3) := by decide +kernel
theorem dX8_init_99 : decode cX8_init 99 = .ok (.aload_n 0, 1) := by decide +kernel
theorem dX8_init_100 : decode cX8_init 100 = .ok (.bipush (-4), 2) := by decide +kernel
theorem dX8_init_102 : decode cX8_init 102 = .ok (.putfield 47, 3) := by decide +kernel
theorem dX8_init_105 : decode cX8_init 105 = .ok (.aload_n 0, 1) := by decide +kernel
theorem dX8_init_106 : decode cX8_init 106 = .ok (.iconst 5, 1) := by decide +kernel
theorem dX8_init_107 : decode cX8_init 107 = .ok (.newarray .int, 2) := by decide +kernel
theorem dX8_init_109 : decode cX8_init 109 = .ok (.putfield 51, 3) := by decide +kernel
theorem dX8_init_112 : decode cX8_init 112 = .ok (.aload_n 0, 1) := by decide +kernel
theorem dX8_init_113 : decode cX8_init 113 = .ok (.bipush 8, 2) := by decide +kernel
theorem dX8_init_115 : decode cX8_init 115 = .ok (.newarray .int, 2) := by decide +kernel
theorem dX8_init_117 : decode cX8_init 117 = .ok (.putfield 54, 3) := by decide +kernel
theorem dX8_init_120 : decode cX8_init 120 = .ok (.aload_n 0, 1) := by decide +kernel
theorem dX8_init_121 : decode cX8_init 121 = .ok (.iconst 5, 1) := by decide +kernel
theorem dX8_init_122 : decode cX8_init 122 = .ok (.newarray .int, 2) := by decide +kernel
theorem dX8_init_124 : decode cX8_init 124 = .ok (.putfield 57, 3) := by decide +kernel
theorem dX8_init_127 : decode cX8_init 127 = .ok (.aload_n 0, 1) := by decide +kernel
theorem dX8_init_128 : decode cX8_init 128 = .ok (.bipush 31, 2) := by decide +kernel
theorem dX8_init_130 : decode cX8_init 130 = .ok (.newarray .int, 2) := by decide +kernel
theorem dX8_init_132 : decode cX8_init 132 = .ok (.putfield 60, 3) := by decide +kernel
theorem dX8_init_135 : decode cX8_init 135 = .ok (.aload_n 0, 1) := by decide +kernel
theorem dX8_init_136 : decode cX8_init 136 = .ok (.iconst 5, 1) := by decide +kernel
theorem dX8_init_137 : decode cX8_init 137 = .ok (.newarray .int, 2) := by decide +kernel
theorem dX8_init_139 : decode cX8_init 139 = .ok (.putfield 63, 3) := by decide +kernel
theorem dX8_init_142 : decode cX8_init 142 = .ok (.iconst 0, 1) := by decide +kernel
theorem dX8_init_143 : decode cX8_init 143 = .ok (.istore_n 1, 1) := by decide +kernel
theorem dX8_init_144 : decode cX8_init 144 = .ok (.iload_n 1, 1) := by decide +kernel
theorem dX8_init_145 : decode cX8_init 145 = .ok (.iconst 4, 1) := by decide +kernel
theorem dX8_init_146 : decode cX8_init 146 = .ok (.if_icmp .ge 16, 3) := by decide +kernel
theorem dX8_init_149 : decode cX8_init 149 = .ok (.aload_n 0, 1) := by decide +kernel
theorem dX8_init_150 : decode cX8_init 150 = .ok (.getfield 41, 3) := by decide +kernel
theorem dX8_init_153 : decode cX8_init 153 = .ok (.iload_n 1, 1) := by decide +kernel
theorem dX8_init_154 : decode cX8_init 154 = .ok (.iconst (-1), 1) := by decide +kernel
theorem dX8_init_155 : decode cX8_init 155 = .ok (.iastore, 1) := by decide +kernel
theorem dX8_init_156 : decode cX8_init 156 = .ok (.iinc 1 1, 3) := by decide +kernel
theorem dX8_init_159 : decode cX8_init 159 = .ok (.goto (-15), 3) := by decide +kernel
theorem dX8_init_162 : decode cX8_init 162 = .ok (.aload_n 0, 1) := by decide +kernel
theorem dX8_init_163 : decode cX8_init 163 = .ok (.getfield 16, 3) := by decide +kernel
theorem dX8_init_166 : decode cX8_init 166 = .ok (.bipush 30, 2) := by decide +kernel
theorem dX8_init_168 : decode cX8_init 168 = .ok (.iconst 1, 1) := by decide +kernel
theorem dX8_init_169 : decode cX8_init 169 = .ok (.iastore, 1) := by decide +kernel
theorem dX8_init_170 : decode cX8_init 170 = .ok (.return_, 1) := by decide +kernel
theorem dX8_in_0 : decode cX8_in 0 = .ok (.lload_n 0, 1) := by decide +kernel
theorem dX8_in_1 : decode cX8_in 1 = .ok (.lload_n 2, 1) := by decide +kernel
theorem dX8_in_2 : decode cX8_in 2 = .ok (.lcmp, 1) := by decide +kernel
theorem dX8_in_3 : decode cX8_in 3 = .ok (.ifCond .lt 14, 3) := by decide +kernel
theorem dX8_in_6 : decode cX8_in 6 = .ok (.lload_n 0, 1) := by decide +kernel
theorem dX8_in_7 : decode cX8_in 7 = .ok (.lload 4, 2) := by decide +kernel
theorem dX8_in_9 : decode cX8_in 9 = .ok (.lcmp, 1) := by decide +kernel
theorem dX8_in_10 : decode cX8_in 10 = .ok (.ifCond .gt 7, 3) := by decide +kernel
theorem dX8_in_13 : decode cX8_in 13 = .ok (.iconst 1, 1) := by decide +kernel
theorem dX8_in_14 : decode cX8_in 14 = .ok (.goto 4, 3) := by decide +kernel
theorem dX8_in_17 : decode cX8_in 17 = .ok (.iconst 0, 1) := by decide +kernel
theorem dX8_in_18 : decode cX8_in 18 = .ok (.ireturn, 1) := by decide +kernel
theorem dX8_has_0 : decode cX8_has 0 = .ok (.iload_n 0, 1) := by decide +kernel
theorem dX8_has_1 : decode cX8_has 1 = .ok (.iload_n 1, 1) := by decide +kernel
theorem dX8_has_2 : decode cX8_has 2 = .ok (.ishr, 1) := by decide +kernel
theorem dX8_has_3 : decode cX8_has 3 = .ok (.iconst 1, 1) := by decide +kernel
theorem dX8_has_4 : decode cX8_has 4 = .ok (.iand, 1) := by decide +kernel
theorem dX8_has_5 : decode cX8_has 5 = .ok (.iconst 1, 1) := by decide +kernel
theorem dX8_has_6 : decode cX8_has 6 = .ok (.if_icmp .ne 7, 3) := by decide +kernel
theorem dX8_has_9 : decode cX8_has 9 = .ok (.iconst 1, 1) := by decide +kernel
theorem dX8_has_10 : decode cX8_has 10 = .ok (.goto 4, 3) := by decide +kernel
theorem dX8_has_13 : decode cX8_has 13 = .ok (.iconst 0, 1) := by decide +kernel
theorem dX8_has_14 : decode cX8_has 14 = .ok (.ireturn, 1) := by decide +kernel
theorem dX8_isQuestion_0 : decode cX8_isQuestion 0 = .ok (.iload_n 1, 1) := by decide +kernel
theorem dX8_isQuestion_1 : decode cX8_isQuestion 1 = .ok (.i2l, 1) := by decide +kernel
theorem dX8_isQuestion_2 : decode cX8_isQuestion 2 = .ok (.lconst 0, 1) := by decide +kernel
theorem dX8_isQuestion_3 : decode cX8_isQuestion 3 = .ok (.aload_n 0, 1) := by decide +kernel
theorem dX8_isQuestion_4 : decode cX8_isQuestion 4 = .ok (.getfield 66, 3) := by decide +kernel
theorem dX8_isQuestion_7 : decode cX8_isQuestion 7 = .ok (.iconst 1, 1) := by decide +kernel
theorem dX8_isQuestion_8 : decode cX8_isQuestion 8 = .ok (.isub, 1) := by decide +kernel
theorem dX8_isQuestion_9 : decode cX8_isQuestion 9 = .ok (.i2l, 1) := by decide +kernel
theorem dX8_isQuestion_10 : decode cX8_isQuestion 10 = .ok (.invokestatic 69, 3) := by decide +kernel
theorem dX8_isQuestion_13 : decode cX8_isQuestion 13 = .ok (.ireturn, 1) := by decide +kernel
theorem dX8_isCrosser_0 : decode cX8_isCrosser 0 = .ok (.iload_n 1, 1) := by decide +kernel
theorem dX8_isCrosser_1 : decode cX8_isCrosser 1 = .ok (.i2l, 1) := by decide +kernel
theorem dX8_isCrosser_2 : decode cX8_isCrosser 2 = .ok (.lconst 0, 1) := by decide +kernel
theorem dX8_isCrosser_3 : decode cX8_isCrosser 3 = .ok (.aload_n 0, 1) := by decide +kernel
theorem dX8_isCrosser_4 : decode cX8_isCrosser 4 = .ok (.getfield 73, 3) := by decide +kernel
theorem dX8_isCrosser_7 : decode cX8_isCrosser 7 = .ok (.iconst 1, 1) := by decide +kernel
theorem dX8_isCrosser_8 : decode cX8_isCrosser 8 = .ok (.isub, 1) := by decide +kernel
theorem dX8_isCrosser_9 : decode cX8_isCrosser 9 = .ok (.i2l, 1) := by decide +kernel
theorem dX8_isCrosser_10 : decode cX8_isCrosser 10 = .ok (.invokestatic 69, 3) := by decide +kernel
theorem dX8_isCrosser_13 : decode cX8_isCrosser 13 = .ok (.ireturn, 1) := by decide +kernel
theorem dX8_aside_0 : decode cX8_aside 0 = .ok (.iconst 0, 1) := by decide +kernel
theorem dX8_aside_1 : decode cX8_aside 1 = .ok (.istore_n 1, 1) := by decide +kernel
theorem dX8_aside_2 : decode cX8_aside 2 = .ok (.iload_n 1, 1) := by decide +kernel
theorem dX8_aside_3 : decode cX8_aside 3 = .ok (.bipush 31, 2) := by decide +kernel
theorem dX8_aside_5 : decode cX8_aside 5 = .ok (.if_icmp .ge 21, 3) := by decide +kernel
theorem dX8_aside_8 : decode cX8_aside 8 = .ok (.aload_n 0, 1) := by decide +kernel
theorem dX8_aside_9 : decode cX8_aside 9 = .ok (.getfield 19, 3) := by decide +kernel
theorem dX8_aside_12 : decode cX8_aside 12 = .ok (.iload_n 1, 1) := by decide +kernel
theorem dX8_aside_13 : decode cX8_aside 13 = .ok (.aload_n 0, 1) := by decide +kernel
theorem dX8_aside_14 : decode cX8_aside 14 = .ok (.getfield 16, 3) := by decide +kernel
theorem dX8_aside_17 : decode cX8_aside 17 = .ok (.iload_n 1, 1) := by decide +kernel
theorem dX8_aside_18 : decode cX8_aside 18 = .ok (.iaload, 1) := by decide +kernel
theorem dX8_aside_19 : decode cX8_aside 19 = .ok (.iastore, 1) := by decide +kernel
theorem dX8_aside_20 : decode cX8_aside 20 = .ok (.iinc 1 1, 3) := by decide +kernel
theorem dX8_aside_23 : decode cX8_aside 23 = .ok (.goto (-21), 3) := by decide +kernel
theorem dX8_aside_26 : decode cX8_aside 26 = .ok (.return_, 1) := by decide +kernel
theorem dX8_take_0 : decode cX8_take 0 = .ok (.iconst 0, 1) := by decide +kernel
theorem dX8_take_1 : decode cX8_take 1 = .ok (.istore_n 1, 1) := by decide +kernel
theorem dX8_take_2 : decode cX8_take 2 = .ok (.iload_n 1, 1) := by decide +kernel
theorem dX8_take_3 : decode cX8_take 3 = .ok (.bipush 31, 2) := by decide +kernel
theorem dX8_take_5 : decode cX8_take 5 = .ok (.if_icmp .ge 21, 3) := by decide +kernel
theorem dX8_take_8 : decode cX8_take 8 = .ok (.aload_n 0, 1) := by decide +kernel
theorem dX8_take_9 : decode cX8_take 9 = .ok (.getfield 16, 3) := by decide +kernel
theorem dX8_take_12 : decode cX8_take 12 = .ok (.iload_n 1, 1) := by decide +kernel
theorem dX8_take_13 : decode cX8_take 13 = .ok (.aload_n 0, 1) := by decide +kernel
theorem dX8_take_14 : decode cX8_take 14 = .ok (.getfield 19, 3) := by decide +kernel
theorem dX8_take_17 : decode cX8_take 17 = .ok (.iload_n 1, 1) := by decide +kernel
theorem dX8_take_18 : decode cX8_take 18 = .ok (.iaload, 1) := by decide +kernel
theorem dX8_take_19 : decode cX8_take 19 = .ok (.iastore, 1) := by decide +kernel
theorem dX8_take_20 : decode cX8_take 20 = .ok (.iinc 1 1, 3) := by decide +kernel
theorem dX8_take_23 : decode cX8_take 23 = .ok (.goto (-21), 3) := by decide +kernel
theorem dX8_take_26 : decode cX8_take 26 = .ok (.return_, 1) := by decide +kernel
theorem dX8_othersIn_0 : decode cX8_othersIn 0 = .ok (.iconst 0, 1) := by decide +kernel
theorem dX8_othersIn_1 : decode cX8_othersIn 1 = .ok (.istore_n 2, 1) := by decide +kernel
theorem dX8_othersIn_2 : decode cX8_othersIn 2 = .ok (.iconst 0, 1) := by decide +kernel
theorem dX8_othersIn_3 : decode cX8_othersIn 3 = .ok (.istore_n 3, 1) := by decide +kernel
theorem dX8_othersIn_4 : decode cX8_othersIn 4 = .ok (.iload_n 3, 1) := by decide +kernel
theorem dX8_othersIn_5 : decode cX8_othersIn 5 = .ok (.aload_n 0, 1) := by decide +kernel
theorem dX8_othersIn_6 : decode cX8_othersIn 6 = .ok (.getfield 73, 3) := by decide +kernel
theorem dX8_othersIn_9 : decode cX8_othersIn 9 = .ok (.if_icmp .ge 35, 3) := by decide +kernel
theorem dX8_othersIn_12 : decode cX8_othersIn 12 = .ok (.iload_n 2, 1) := by decide +kernel
theorem dX8_othersIn_13 : decode cX8_othersIn 13 = .ok (.iload_n 3, 1) := by decide +kernel
theorem dX8_othersIn_14 : decode cX8_othersIn 14 = .ok (.iload_n 1, 1) := by decide +kernel
theorem dX8_othersIn_15 : decode cX8_othersIn 15 = .ok (.if_icmp .eq 20, 3) := by decide +kernel
theorem dX8_othersIn_18 : decode cX8_othersIn 18 = .ok (.aload_n 0, 1) := by decide +kernel
theorem dX8_othersIn_19 : decode cX8_othersIn 19 = .ok (.getfield 19, 3) := by decide +kernel
theorem dX8_othersIn_22 : decode cX8_othersIn 22 = .ok (.bipush 19, 2) := by decide +kernel
theorem dX8_othersIn_24 : decode cX8_othersIn 24 = .ok (.iload_n 3, 1) := by decide +kernel
theorem dX8_othersIn_25 : decode cX8_othersIn 25 = .ok (.iadd, 1) := by decide +kernel
theorem dX8_othersIn_26 : decode cX8_othersIn 26 = .ok (.iaload, 1) := by decide +kernel
theorem dX8_othersIn_27 : decode cX8_othersIn 27 = .ok (.iconst 1, 1) := by decide +kernel
theorem dX8_othersIn_28 : decode cX8_othersIn 28 = .ok (.if_icmp .ne 7, 3) := by decide +kernel
theorem dX8_othersIn_31 : decode cX8_othersIn 31 = .ok (.iconst 1, 1) := by decide +kernel
theorem dX8_othersIn_32 : decode cX8_othersIn 32 = .ok (.goto 4, 3) := by decide +kernel
theorem dX8_othersIn_35 : decode cX8_othersIn 35 = .ok (.iconst 0, 1) := by decide +kernel
theorem dX8_othersIn_36 : decode cX8_othersIn 36 = .ok (.iadd, 1) := by decide +kernel
theorem dX8_othersIn_37 : decode cX8_othersIn 37 = .ok (.istore_n 2, 1) := by decide +kernel
theorem dX8_othersIn_38 : decode cX8_othersIn 38 = .ok (.iinc 3 1, 3) := by decide +kernel
theorem dX8_othersIn_41 : decode cX8_othersIn 41 = .ok (.goto (-37), 3) := by decide +kernel
theorem dX8_othersIn_44 : decode cX8_othersIn 44 = .ok (.iload_n 2, 1) := by decide +kernel
theorem dX8_othersIn_45 : decode cX8_othersIn 45 = .ok (.ireturn, 1) := by decide +kernel
theorem dX8_hoursOf_0 : decode cX8_hoursOf 0 = .ok (.iload_n 1, 1) := by decide +kernel
theorem dX8_hoursOf_1 : decode cX8_hoursOf 1 = .ok (.aload_n 0, 1) := by decide +kernel
theorem dX8_hoursOf_2 : decode cX8_hoursOf 2 = .ok (.getfield 47, 3) := by decide +kernel
theorem dX8_hoursOf_5 : decode cX8_hoursOf 5 = .ok (.if_icmp .ne 10, 3) := by decide +kernel
theorem dX8_hoursOf_8 : decode cX8_hoursOf 8 = .ok (.aload_n 0, 1) := by decide +kernel
theorem dX8_hoursOf_9 : decode cX8_hoursOf 9 = .ok (.getfield 76, 3) := by decide +kernel
theorem dX8_hoursOf_12 : decode cX8_hoursOf 12 = .ok (.goto 9, 3) := by decide +kernel
theorem dX8_hoursOf_15 : decode cX8_hoursOf 15 = .ok (.aload_n 0, 1) := by decide +kernel
theorem dX8_hoursOf_16 : decode cX8_hoursOf 16 = .ok (.getfield 13, 3) := by decide +kernel
theorem dX8_hoursOf_19 : decode cX8_hoursOf 19 = .ok (.iload_n 1, 1) := by decide +kernel
theorem dX8_hoursOf_20 : decode cX8_hoursOf 20 = .ok (.iaload, 1) := by decide +kernel
theorem dX8_hoursOf_21 : decode cX8_hoursOf 21 = .ok (.istore_n 3, 1) := by decide +kernel
theorem dX8_hoursOf_22 : decode cX8_hoursOf 22 = .ok (.aload_n 0, 1) := by decide +kernel
theorem dX8_hoursOf_23 : decode cX8_hoursOf 23 = .ok (.getfield 19, 3) := by decide +kernel
theorem dX8_hoursOf_26 : decode cX8_hoursOf 26 = .ok (.bipush 9, 2) := by decide +kernel
theorem dX8_hoursOf_28 : decode cX8_hoursOf 28 = .ok (.iload_n 1, 1) := by decide +kernel
theorem dX8_hoursOf_29 : decode cX8_hoursOf 29 = .ok (.iadd, 1) := by decide +kernel
theorem dX8_hoursOf_30 : decode cX8_hoursOf 30 = .ok (.iaload, 1) := by decide +kernel
theorem dX8_hoursOf_31 : decode cX8_hoursOf 31 = .ok (.aload_n 0, 1) := by decide +kernel
theorem dX8_hoursOf_32 : decode cX8_hoursOf 32 = .ok (.getfield 7, 3) := by decide +kernel
theorem dX8_hoursOf_35 : decode cX8_hoursOf 35 = .ok (.iload_n 2, 1) := by decide +kernel
theorem dX8_hoursOf_36 : decode cX8_hoursOf 36 = .ok (.iaload, 1) := by decide +kernel
theorem dX8_hoursOf_37 : decode cX8_hoursOf 37 = .ok (.invokestatic 79, 3) := by decide +kernel
theorem dX8_hoursOf_40 : decode cX8_hoursOf 40 = .ok (.istore 4, 2) := by decide +kernel
theorem dX8_hoursOf_42 : decode cX8_hoursOf 42 = .ok (.aload_n 0, 1) := by decide +kernel
theorem dX8_hoursOf_43 : decode cX8_hoursOf 43 = .ok (.getfield 19, 3) := by decide +kernel
theorem dX8_hoursOf_46 : decode cX8_hoursOf 46 = .ok (.iconst 1, 1) := by decide +kernel
theorem dX8_hoursOf_47 : decode cX8_hoursOf 47 = .ok (.iload_n 2, 1) := by decide +kernel
theorem dX8_hoursOf_48 : decode cX8_hoursOf 48 = .ok (.iadd, 1) := by decide +kernel
theorem dX8_hoursOf_49 : decode cX8_hoursOf 49 = .ok (.iaload, 1) := by decide +kernel
theorem dX8_hoursOf_50 : decode cX8_hoursOf 50 = .ok (.istore 5, 2) := by decide +kernel
theorem dX8_hoursOf_52 : decode cX8_hoursOf 52 = .ok (.iload 4, 2) := by decide +kernel
theorem dX8_hoursOf_54 : decode cX8_hoursOf 54 = .ok (.ifCond .eq 7, 3) := by decide +kernel
theorem dX8_hoursOf_57 : decode cX8_hoursOf 57 = .ok (.iconst 1, 1) := by decide +kernel
theorem dX8_hoursOf_58 : decode cX8_hoursOf 58 = .ok (.goto 22, 3) := by decide +kernel
theorem dX8_hoursOf_61 : decode cX8_hoursOf 61 = .ok (.iload_n 3, 1) := by decide +kernel
theorem dX8_hoursOf_62 : decode cX8_hoursOf 62 = .ok (.iconst 1, 1) := by decide +kernel
theorem dX8_hoursOf_63 : decode cX8_hoursOf 63 = .ok (.if_icmp .eq 8, 3) := by decide +kernel
theorem dX8_hoursOf_66 : decode cX8_hoursOf 66 = .ok (.iload_n 3, 1) := by decide +kernel
theorem dX8_hoursOf_67 : decode cX8_hoursOf 67 = .ok (.iconst 3, 1) := by decide +kernel
theorem dX8_hoursOf_68 : decode cX8_hoursOf 68 = .ok (.if_icmp .ne 10, 3) := by decide +kernel
theorem dX8_hoursOf_71 : decode cX8_hoursOf 71 = .ok (.iconst 2, 1) := by decide +kernel
theorem dX8_hoursOf_72 : decode cX8_hoursOf 72 = .ok (.iload 5, 2) := by decide +kernel
theorem dX8_hoursOf_74 : decode cX8_hoursOf 74 = .ok (.imul, 1) := by decide +kernel
theorem dX8_hoursOf_75 : decode cX8_hoursOf 75 = .ok (.goto 5, 3) := by decide +kernel
theorem dX8_hoursOf_78 : decode cX8_hoursOf 78 = .ok (.iload 5, 2) := by decide +kernel
theorem dX8_hoursOf_80 : decode cX8_hoursOf 80 = .ok (.istore 6, 2) := by decide +kernel
theorem dX8_hoursOf_82 : decode cX8_hoursOf 82 = .ok (.iload_n 3, 1) := by decide +kernel
theorem dX8_hoursOf_83 : decode cX8_hoursOf 83 = .ok (.iconst 3, 1) := by decide +kernel
theorem dX8_hoursOf_84 : decode cX8_hoursOf 84 = .ok (.if_icmp .ne 13, 3) := by decide +kernel
theorem dX8_hoursOf_87 : decode cX8_hoursOf 87 = .ok (.iload 6, 2) := by decide +kernel
theorem dX8_hoursOf_89 : decode cX8_hoursOf 89 = .ok (.aload_n 0, 1) := by decide +kernel
theorem dX8_hoursOf_90 : decode cX8_hoursOf 90 = .ok (.iload_n 1, 1) := by decide +kernel
theorem dX8_hoursOf_91 : decode cX8_hoursOf 91 = .ok (.invokevirtual 83, 3) := by decide +kernel
theorem dX8_hoursOf_94 : decode cX8_hoursOf 94 = .ok (.iadd, 1) := by decide +kernel
theorem dX8_hoursOf_95 : decode cX8_hoursOf 95 = .ok (.istore 6, 2) := by decide +kernel
theorem dX8_hoursOf_97 : decode cX8_hoursOf 97 = .ok (.iload_n 3, 1) := by decide +kernel
theorem dX8_hoursOf_98 : decode cX8_hoursOf 98 = .ok (.iconst 2, 1) := by decide +kernel
theorem dX8_hoursOf_99 : decode cX8_hoursOf 99 = .ok (.if_icmp .eq 8, 3) := by decide +kernel
theorem dX8_hoursOf_102 : decode cX8_hoursOf 102 = .ok (.iload_n 3, 1) := by decide +kernel
theorem dX8_hoursOf_103 : decode cX8_hoursOf 103 = .ok (.iconst 4, 1) := by decide +kernel
theorem dX8_hoursOf_104 : decode cX8_hoursOf 104 = .ok (.if_icmp .ne 17, 3) := by decide +kernel
theorem dX8_hoursOf_107 : decode cX8_hoursOf 107 = .ok (.iload 6, 2) := by decide +kernel
theorem dX8_hoursOf_109 : decode cX8_hoursOf 109 = .ok (.iconst 2, 1) := by decide +kernel
theorem dX8_hoursOf_110 : decode cX8_hoursOf 110 = .ok (.if_icmp .le 7, 3) := by decide +kernel
theorem dX8_hoursOf_113 : decode cX8_hoursOf 113 = .ok (.iconst 2, 1) := by decide +kernel
theorem dX8_hoursOf_114 : decode cX8_hoursOf 114 = .ok (.goto 5, 3) := by decide +kernel
theorem dX8_hoursOf_117 : decode cX8_hoursOf 117 = .ok (.iload 6, 2) := by decide +kernel
theorem dX8_hoursOf_119 : decode cX8_hoursOf 119 = .ok (.istore 6, 2) := by decide +kernel
theorem dX8_hoursOf_121 : decode cX8_hoursOf 121 = .ok (.iload_n 3, 1) := by decide +kernel
theorem dX8_hoursOf_122 : decode cX8_hoursOf 122 = .ok (.iconst 4, 1) := by decide +kernel
theorem dX8_hoursOf_123 : decode cX8_hoursOf 123 = .ok (.if_icmp .ne 18, 3) := by decide +kernel
theorem dX8_hoursOf_126 : decode cX8_hoursOf 126 = .ok (.aload_n 0, 1) := by decide +kernel
theorem dX8_hoursOf_127 : decode cX8_hoursOf 127 = .ok (.getfield 19, 3) := by decide +kernel
theorem dX8_hoursOf_130 : decode cX8_hoursOf 130 = .ok (.bipush 29, 2) := by decide +kernel
theorem dX8_hoursOf_132 : decode cX8_hoursOf 132 = .ok (.iaload, 1) := by decide +kernel
theorem dX8_hoursOf_133 : decode cX8_hoursOf 133 = .ok (.iconst 2, 1) := by decide +kernel
theorem dX8_hoursOf_134 : decode cX8_hoursOf 134 = .ok (.irem, 1) := by decide +kernel
theorem dX8_hoursOf_135 : decode cX8_hoursOf 135 = .ok (.ifCond .ne 6, 3) := by decide +kernel
theorem dX8_hoursOf_138 : decode cX8_hoursOf 138 = .ok (.iinc 6 (-1), 3) := by decide +kernel
theorem dX8_hoursOf_141 : decode cX8_hoursOf 141 = .ok (.iload 6, 2) := by decide +kernel
theorem dX8_hoursOf_143 : decode cX8_hoursOf 143 = .ok (.iconst 1, 1) := by decide +kernel
theorem dX8_hoursOf_144 : decode cX8_hoursOf 144 = .ok (.if_icmp .ge 7, 3) := by decide +kernel
theorem dX8_hoursOf_147 : decode cX8_hoursOf 147 = .ok (.iconst 1, 1) := by decide +kernel
theorem dX8_hoursOf_148 : decode cX8_hoursOf 148 = .ok (.goto 5, 3) := by decide +kernel
theorem dX8_hoursOf_151 : decode cX8_hoursOf 151 = .ok (.iload 6, 2) := by decide +kernel
theorem dX8_hoursOf_153 : decode cX8_hoursOf 153 = .ok (.ireturn, 1) := by decide +kernel
theorem dX8_lowestLeft_0 : decode cX8_lowestLeft 0 = .ok (.bipush (-4), 2) := by decide +kernel
theorem dX8_lowestLeft_2 : decode cX8_lowestLeft 2 = .ok (.istore_n 1, 1) := by decide +kernel
theorem dX8_lowestLeft_3 : decode cX8_lowestLeft 3 = .ok (.aload_n 0, 1) := by decide +kernel
theorem dX8_lowestLeft_4 : decode cX8_lowestLeft 4 = .ok (.getfield 66, 3) := by decide +kernel
theorem dX8_lowestLeft_7 : decode cX8_lowestLeft 7 = .ok (.iconst 1, 1) := by decide +kernel
theorem dX8_lowestLeft_8 : decode cX8_lowestLeft 8 = .ok (.isub, 1) := by decide +kernel
theorem dX8_lowestLeft_9 : decode cX8_lowestLeft 9 = .ok (.istore_n 2, 1) := by decide +kernel
theorem dX8_lowestLeft_10 : decode cX8_lowestLeft 10 = .ok (.iload_n 2, 1) := by decide +kernel
theorem dX8_lowestLeft_11 : decode cX8_lowestLeft 11 = .ok (.ifCond .lt 28, 3) := by decide +kernel
theorem dX8_lowestLeft_14 : decode cX8_lowestLeft 14 = .ok (.aload_n 0, 1) := by decide +kernel
theorem dX8_lowestLeft_15 : decode cX8_lowestLeft 15 = .ok (.getfield 19, 3) := by decide +kernel
theorem dX8_lowestLeft_18 : decode cX8_lowestLeft 18 = .ok (.iconst 0, 1) := by decide +kernel
theorem dX8_lowestLeft_19 : decode cX8_lowestLeft 19 = .ok (.iaload, 1) := by decide +kernel
theorem dX8_lowestLeft_20 : decode cX8_lowestLeft 20 = .ok (.iload_n 2, 1) := by decide +kernel
theorem dX8_lowestLeft_21 : decode cX8_lowestLeft 21 = .ok (.invokestatic 79, 3) := by decide +kernel
theorem dX8_lowestLeft_24 : decode cX8_lowestLeft 24 = .ok (.ifCond .eq 7, 3) := by decide +kernel
theorem dX8_lowestLeft_27 : decode cX8_lowestLeft 27 = .ok (.iload_n 1, 1) := by decide +kernel
theorem dX8_lowestLeft_28 : decode cX8_lowestLeft 28 = .ok (.goto 4, 3) := by decide +kernel
theorem dX8_lowestLeft_31 : decode cX8_lowestLeft 31 = .ok (.iload_n 2, 1) := by decide +kernel
theorem dX8_lowestLeft_32 : decode cX8_lowestLeft 32 = .ok (.istore_n 1, 1) := by decide +kernel
theorem dX8_lowestLeft_33 : decode cX8_lowestLeft 33 = .ok (.iinc 2 (-1), 3) := by decide +kernel
theorem dX8_lowestLeft_36 : decode cX8_lowestLeft 36 = .ok (.goto (-26), 3) := by decide +kernel
theorem dX8_lowestLeft_39 : decode cX8_lowestLeft 39 = .ok (.iload_n 1, 1) := by decide +kernel
theorem dX8_lowestLeft_40 : decode cX8_lowestLeft 40 = .ok (.ireturn, 1) := by decide +kernel
theorem dX8_goComes_0 : decode cX8_goComes 0 = .ok (.aload_n 0, 1) := by decide +kernel
theorem dX8_goComes_1 : decode cX8_goComes 1 = .ok (.getfield 87, 3) := by decide +kernel
theorem dX8_goComes_4 : decode cX8_goComes 4 = .ok (.ifCond .eq 12, 3) := by decide +kernel
theorem dX8_goComes_7 : decode cX8_goComes 7 = .ok (.aload_n 0, 1) := by decide +kernel
theorem dX8_goComes_8 : decode cX8_goComes 8 = .ok (.getfield 51, 3) := by decide +kernel
theorem dX8_goComes_11 : decode cX8_goComes 11 = .ok (.iload_n 1, 1) := by decide +kernel
theorem dX8_goComes_12 : decode cX8_goComes 12 = .ok (.iaload, 1) := by decide +kernel
theorem dX8_goComes_13 : decode cX8_goComes 13 = .ok (.goto 7, 3) := by decide +kernel
theorem dX8_goComes_16 : decode cX8_goComes 16 = .ok (.aload_n 0, 1) := by decide +kernel
theorem dX8_goComes_17 : decode cX8_goComes 17 = .ok (.invokevirtual 91, 3) := by decide +kernel
theorem dX8_goComes_20 : decode cX8_goComes 20 = .ok (.istore_n 2, 1) := by decide +kernel
theorem dX8_goComes_21 : decode cX8_goComes 21 = .ok (.iload_n 2, 1) := by decide +kernel
theorem dX8_goComes_22 : decode cX8_goComes 22 = .ok (.bipush (-4), 2) := by decide +kernel
theorem dX8_goComes_24 : decode cX8_goComes 24 = .ok (.if_icmp .ne 14, 3) := by decide +kernel
theorem dX8_goComes_27 : decode cX8_goComes 27 = .ok (.aload_n 0, 1) := by decide +kernel
theorem dX8_goComes_28 : decode cX8_goComes 28 = .ok (.getfield 19, 3) := by decide +kernel
theorem dX8_goComes_31 : decode cX8_goComes 31 = .ok (.bipush 19, 2) := by decide +kernel
theorem dX8_goComes_33 : decode cX8_goComes 33 = .ok (.iload_n 1, 1) := by decide +kernel
theorem dX8_goComes_34 : decode cX8_goComes 34 = .ok (.iadd, 1) := by decide +kernel
theorem dX8_goComes_35 : decode cX8_goComes 35 = .ok (.iconst 2, 1) := by decide +kernel
theorem dX8_goComes_36 : decode cX8_goComes 36 = .ok (.iastore, 1) := by decide +kernel
theorem dX8_goComes_37 : decode cX8_goComes 37 = .ok (.return_, 1) := by decide +kernel
theorem dX8_goComes_38 : decode cX8_goComes 38 = .ok (.aload_n 0, 1) := by decide +kernel
theorem dX8_goComes_39 : decode cX8_goComes 39 = .ok (.getfield 19, 3) := by decide +kernel
theorem dX8_goComes_42 : decode cX8_goComes 42 = .ok (.bipush 24, 2) := by decide +kernel
theorem dX8_goComes_44 : decode cX8_goComes 44 = .ok (.iload_n 1, 1) := by decide +kernel
theorem dX8_goComes_45 : decode cX8_goComes 45 = .ok (.iadd, 1) := by decide +kernel
theorem dX8_goComes_46 : decode cX8_goComes 46 = .ok (.aload_n 0, 1) := by decide +kernel
theorem dX8_goComes_47 : decode cX8_goComes 47 = .ok (.getfield 19, 3) := by decide +kernel
theorem dX8_goComes_50 : decode cX8_goComes 50 = .ok (.bipush 29, 2) := by decide +kernel
theorem dX8_goComes_52 : decode cX8_goComes 52 = .ok (.iaload, 1) := by decide +kernel
theorem dX8_goComes_53 : decode cX8_goComes 53 = .ok (.aload_n 0, 1) := by decide +kernel
theorem dX8_goComes_54 : decode cX8_goComes 54 = .ok (.iload_n 1, 1) := by decide +kernel
theorem dX8_goComes_55 : decode cX8_goComes 55 = .ok (.iload_n 2, 1) := by decide +kernel
theorem dX8_goComes_56 : decode cX8_goComes 56 = .ok (.invokevirtual 95, 3) := by decide +kernel
theorem dX8_goComes_59 : decode cX8_goComes 59 = .ok (.iadd, 1) := by decide +kernel
theorem dX8_goComes_60 : decode cX8_goComes 60 = .ok (.iastore, 1) := by decide +kernel
theorem dX8_goComes_61 : decode cX8_goComes 61 = .ok (.aload_n 0, 1) := by decide +kernel
theorem dX8_goComes_62 : decode cX8_goComes 62 = .ok (.getfield 19, 3) := by decide +kernel
theorem dX8_goComes_65 : decode cX8_goComes 65 = .ok (.iconst 0, 1) := by decide +kernel
theorem dX8_goComes_66 : decode cX8_goComes 66 = .ok (.dup2, 1) := by decide +kernel
theorem dX8_goComes_67 : decode cX8_goComes 67 = .ok (.iaload, 1) := by decide +kernel
theorem dX8_goComes_68 : decode cX8_goComes 68 = .ok (.iconst 1, 1) := by decide +kernel
theorem dX8_goComes_69 : decode cX8_goComes 69 = .ok (.iload_n 2, 1) := by decide +kernel
theorem dX8_goComes_70 : decode cX8_goComes 70 = .ok (.ishl, 1) := by decide +kernel
theorem dX8_goComes_71 : decode cX8_goComes 71 = .ok (.ior, 1) := by decide +kernel
theorem dX8_goComes_72 : decode cX8_goComes 72 = .ok (.iastore, 1) := by decide +kernel
theorem dX8_goComes_73 : decode cX8_goComes 73 = .ok (.aload_n 0, 1) := by decide +kernel
theorem dX8_goComes_74 : decode cX8_goComes 74 = .ok (.getfield 19, 3) := by decide +kernel
theorem dX8_goComes_77 : decode cX8_goComes 77 = .ok (.bipush 19, 2) := by decide +kernel
theorem dX8_goComes_79 : decode cX8_goComes 79 = .ok (.iload_n 1, 1) := by decide +kernel
theorem dX8_goComes_80 : decode cX8_goComes 80 = .ok (.iadd, 1) := by decide +kernel
theorem dX8_goComes_81 : decode cX8_goComes 81 = .ok (.iconst 1, 1) := by decide +kernel
theorem dX8_goComes_82 : decode cX8_goComes 82 = .ok (.iastore, 1) := by decide +kernel
theorem dX8_goComes_83 : decode cX8_goComes 83 = .ok (.return_, 1) := by decide +kernel
theorem dX8_goHour_0 : decode cX8_goHour 0 = .ok (.iconst 0, 1) := by decide +kernel
theorem dX8_goHour_1 : decode cX8_goHour 1 = .ok (.istore_n 1, 1) := by decide +kernel
theorem dX8_goHour_2 : decode cX8_goHour 2 = .ok (.iload_n 1, 1) := by decide +kernel
theorem dX8_goHour_3 : decode cX8_goHour 3 = .ok (.aload_n 0, 1) := by decide +kernel
theorem dX8_goHour_4 : decode cX8_goHour 4 = .ok (.getfield 73, 3) := by decide +kernel
theorem dX8_goHour_7 : decode cX8_goHour 7 = .ok (.if_icmp .ge 45, 3) := by decide +kernel
theorem dX8_goHour_10 : decode cX8_goHour 10 = .ok (.aload_n 0, 1) := by decide +kernel
theorem dX8_goHour_11 : decode cX8_goHour 11 = .ok (.getfield 19, 3) := by decide +kernel
theorem dX8_goHour_14 : decode cX8_goHour 14 = .ok (.bipush 19, 2) := by decide +kernel
theorem dX8_goHour_16 : decode cX8_goHour 16 = .ok (.iload_n 1, 1) := by decide +kernel
theorem dX8_goHour_17 : decode cX8_goHour 17 = .ok (.iadd, 1) := by decide +kernel
theorem dX8_goHour_18 : decode cX8_goHour 18 = .ok (.iaload, 1) := by decide +kernel
theorem dX8_goHour_19 : decode cX8_goHour 19 = .ok (.ifCond .ne 27, 3) := by decide +kernel
theorem dX8_goHour_22 : decode cX8_goHour 22 = .ok (.aload_n 0, 1) := by decide +kernel
theorem dX8_goHour_23 : decode cX8_goHour 23 = .ok (.getfield 19, 3) := by decide +kernel
theorem dX8_goHour_26 : decode cX8_goHour 26 = .ok (.bipush 14, 2) := by decide +kernel
theorem dX8_goHour_28 : decode cX8_goHour 28 = .ok (.iload_n 1, 1) := by decide +kernel
theorem dX8_goHour_29 : decode cX8_goHour 29 = .ok (.iadd, 1) := by decide +kernel
theorem dX8_goHour_30 : decode cX8_goHour 30 = .ok (.iaload, 1) := by decide +kernel
theorem dX8_goHour_31 : decode cX8_goHour 31 = .ok (.aload_n 0, 1) := by decide +kernel
theorem dX8_goHour_32 : decode cX8_goHour 32 = .ok (.getfield 19, 3) := by decide +kernel
theorem dX8_goHour_35 : decode cX8_goHour 35 = .ok (.bipush 29, 2) := by decide +kernel
theorem dX8_goHour_37 : decode cX8_goHour 37 = .ok (.iaload, 1) := by decide +kernel
theorem dX8_goHour_38 : decode cX8_goHour 38 = .ok (.if_icmp .gt 8, 3) := by decide +kernel
theorem dX8_goHour_41 : decode cX8_goHour 41 = .ok (.aload_n 0, 1) := by decide +kernel
theorem dX8_goHour_42 : decode cX8_goHour 42 = .ok (.iload_n 1, 1) := by decide +kernel
theorem dX8_goHour_43 : decode cX8_goHour 43 = .ok (.invokevirtual 99, 3) := by decide +kernel
theorem dX8_goHour_46 : decode cX8_goHour 46 = .ok (.iinc 1 1, 3) := by decide +kernel
theorem dX8_goHour_49 : decode cX8_goHour 49 = .ok (.goto (-47), 3) := by decide +kernel
theorem dX8_goHour_52 : decode cX8_goHour 52 = .ok (.aload_n 0, 1) := by decide +kernel
theorem dX8_goHour_53 : decode cX8_goHour 53 = .ok (.getfield 19, 3) := by decide +kernel
theorem dX8_goHour_56 : decode cX8_goHour 56 = .ok (.bipush 29, 2) := by decide +kernel
theorem dX8_goHour_58 : decode cX8_goHour 58 = .ok (.dup2, 1) := by decide +kernel
theorem dX8_goHour_59 : decode cX8_goHour 59 = .ok (.iaload, 1) := by decide +kernel
theorem dX8_goHour_60 : decode cX8_goHour 60 = .ok (.iconst 1, 1) := by decide +kernel
theorem dX8_goHour_61 : decode cX8_goHour 61 = .ok (.iadd, 1) := by decide +kernel
theorem dX8_goHour_62 : decode cX8_goHour 62 = .ok (.iastore, 1) := by decide +kernel
theorem dX8_goHour_63 : decode cX8_goHour 63 = .ok (.iconst 0, 1) := by decide +kernel
theorem dX8_goHour_64 : decode cX8_goHour 64 = .ok (.istore_n 1, 1) := by decide +kernel
theorem dX8_goHour_65 : decode cX8_goHour 65 = .ok (.iload_n 1, 1) := by decide +kernel
theorem dX8_goHour_66 : decode cX8_goHour 66 = .ok (.aload_n 0, 1) := by decide +kernel
theorem dX8_goHour_67 : decode cX8_goHour 67 = .ok (.getfield 73, 3) := by decide +kernel
theorem dX8_goHour_70 : decode cX8_goHour 70 = .ok (.if_icmp .ge 61, 3) := by decide +kernel
theorem dX8_goHour_73 : decode cX8_goHour 73 = .ok (.aload_n 0, 1) := by decide +kernel
theorem dX8_goHour_74 : decode cX8_goHour 74 = .ok (.getfield 19, 3) := by decide +kernel
theorem dX8_goHour_77 : decode cX8_goHour 77 = .ok (.bipush 19, 2) := by decide +kernel
theorem dX8_goHour_79 : decode cX8_goHour 79 = .ok (.iload_n 1, 1) := by decide +kernel
theorem dX8_goHour_80 : decode cX8_goHour 80 = .ok (.iadd, 1) := by decide +kernel
theorem dX8_goHour_81 : decode cX8_goHour 81 = .ok (.iaload, 1) := by decide +kernel
theorem dX8_goHour_82 : decode cX8_goHour 82 = .ok (.iconst 1, 1) := by decide +kernel
theorem dX8_goHour_83 : decode cX8_goHour 83 = .ok (.if_icmp .ne 42, 3) := by decide +kernel
theorem dX8_goHour_86 : decode cX8_goHour 86 = .ok (.aload_n 0, 1) := by decide +kernel
theorem dX8_goHour_87 : decode cX8_goHour 87 = .ok (.getfield 19, 3) := by decide +kernel
theorem dX8_goHour_90 : decode cX8_goHour 90 = .ok (.bipush 24, 2) := by decide +kernel
theorem dX8_goHour_92 : decode cX8_goHour 92 = .ok (.iload_n 1, 1) := by decide +kernel
theorem dX8_goHour_93 : decode cX8_goHour 93 = .ok (.iadd, 1) := by decide +kernel
theorem dX8_goHour_94 : decode cX8_goHour 94 = .ok (.iaload, 1) := by decide +kernel
theorem dX8_goHour_95 : decode cX8_goHour 95 = .ok (.aload_n 0, 1) := by decide +kernel
theorem dX8_goHour_96 : decode cX8_goHour 96 = .ok (.getfield 19, 3) := by decide +kernel
theorem dX8_goHour_99 : decode cX8_goHour 99 = .ok (.bipush 29, 2) := by decide +kernel
theorem dX8_goHour_101 : decode cX8_goHour 101 = .ok (.iaload, 1) := by decide +kernel
theorem dX8_goHour_102 : decode cX8_goHour 102 = .ok (.if_icmp .gt 23, 3) := by decide +kernel
theorem dX8_goHour_105 : decode cX8_goHour 105 = .ok (.aload_n 0, 1) := by decide +kernel
theorem dX8_goHour_106 : decode cX8_goHour 106 = .ok (.getfield 19, 3) := by decide +kernel
theorem dX8_goHour_109 : decode cX8_goHour 109 = .ok (.bipush 19, 2) := by decide +kernel
theorem dX8_goHour_111 : decode cX8_goHour 111 = .ok (.iload_n 1, 1) := by decide +kernel
theorem dX8_goHour_112 : decode cX8_goHour 112 = .ok (.iadd, 1) := by decide +kernel
theorem dX8_goHour_113 : decode cX8_goHour 113 = .ok (.iconst 2, 1) := by decide +kernel
theorem dX8_goHour_114 : decode cX8_goHour 114 = .ok (.iastore, 1) := by decide +kernel
theorem dX8_goHour_115 : decode cX8_goHour 115 = .ok (.aload_n 0, 1) := by decide +kernel
theorem dX8_goHour_116 : decode cX8_goHour 116 = .ok (.getfield 19, 3) := by decide +kernel
theorem dX8_goHour_119 : decode cX8_goHour 119 = .ok (.bipush 24, 2) := by decide +kernel
theorem dX8_goHour_121 : decode cX8_goHour 121 = .ok (.iload_n 1, 1) := by decide +kernel
theorem dX8_goHour_122 : decode cX8_goHour 122 = .ok (.iadd, 1) := by decide +kernel
theorem dX8_goHour_123 : decode cX8_goHour 123 = .ok (.iconst 0, 1) := by decide +kernel
theorem dX8_goHour_124 : decode cX8_goHour 124 = .ok (.iastore, 1) := by decide +kernel
theorem dX8_goHour_125 : decode cX8_goHour 125 = .ok (.iinc 1 1, 3) := by decide +kernel
theorem dX8_goHour_128 : decode cX8_goHour 128 = .ok (.goto (-63), 3) := by decide +kernel
theorem dX8_goHour_131 : decode cX8_goHour 131 = .ok (.return_, 1) := by decide +kernel
theorem dX8_goHours_0 : decode cX8_goHours 0 = .ok (.iconst 0, 1) := by decide +kernel
theorem dX8_goHours_1 : decode cX8_goHours 1 = .ok (.istore_n 2, 1) := by decide +kernel
theorem dX8_goHours_2 : decode cX8_goHours 2 = .ok (.iload_n 2, 1) := by decide +kernel
theorem dX8_goHours_3 : decode cX8_goHours 3 = .ok (.iload_n 1, 1) := by decide +kernel
theorem dX8_goHours_4 : decode cX8_goHours 4 = .ok (.if_icmp .ge 13, 3) := by decide +kernel
theorem dX8_goHours_7 : decode cX8_goHours 7 = .ok (.aload_n 0, 1) := by decide +kernel
theorem dX8_goHours_8 : decode cX8_goHours 8 = .ok (.invokevirtual 103, 3) := by decide +kernel
theorem dX8_goHours_11 : decode cX8_goHours 11 = .ok (.iinc 2 1, 3) := by decide +kernel
theorem dX8_goHours_14 : decode cX8_goHours 14 = .ok (.goto (-12), 3) := by decide +kernel
theorem dX8_goHours_17 : decode cX8_goHours 17 = .ok (.return_, 1) := by decide +kernel
theorem dX8_placed_0 : decode cX8_placed 0 = .ok (.iconst 0, 1) := by decide +kernel
theorem dX8_placed_1 : decode cX8_placed 1 = .ok (.istore_n 2, 1) := by decide +kernel
theorem dX8_placed_2 : decode cX8_placed 2 = .ok (.iconst 0, 1) := by decide +kernel
theorem dX8_placed_3 : decode cX8_placed 3 = .ok (.istore_n 3, 1) := by decide +kernel
theorem dX8_placed_4 : decode cX8_placed 4 = .ok (.iload_n 3, 1) := by decide +kernel
theorem dX8_placed_5 : decode cX8_placed 5 = .ok (.aload_n 0, 1) := by decide +kernel
theorem dX8_placed_6 : decode cX8_placed 6 = .ok (.getfield 73, 3) := by decide +kernel
theorem dX8_placed_9 : decode cX8_placed 9 = .ok (.if_icmp .ge 32, 3) := by decide +kernel
theorem dX8_placed_12 : decode cX8_placed 12 = .ok (.iload_n 2, 1) := by decide +kernel
theorem dX8_placed_13 : decode cX8_placed 13 = .ok (.aload_n 0, 1) := by decide +kernel
theorem dX8_placed_14 : decode cX8_placed 14 = .ok (.getfield 19, 3) := by decide +kernel
theorem dX8_placed_17 : decode cX8_placed 17 = .ok (.bipush 19, 2) := by decide +kernel
theorem dX8_placed_19 : decode cX8_placed 19 = .ok (.iload_n 3, 1) := by decide +kernel
theorem dX8_placed_20 : decode cX8_placed 20 = .ok (.iadd, 1) := by decide +kernel
theorem dX8_placed_21 : decode cX8_placed 21 = .ok (.iaload, 1) := by decide +kernel
theorem dX8_placed_22 : decode cX8_placed 22 = .ok (.iload_n 1, 1) := by decide +kernel
theorem dX8_placed_23 : decode cX8_placed 23 = .ok (.if_icmp .ne 9, 3) := by decide +kernel
theorem dX8_placed_26 : decode cX8_placed 26 = .ok (.iconst 1, 1) := by decide +kernel
theorem dX8_placed_27 : decode cX8_placed 27 = .ok (.iload_n 3, 1) := by decide +kernel
theorem dX8_placed_28 : decode cX8_placed 28 = .ok (.ishl, 1) := by decide +kernel
theorem dX8_placed_29 : decode cX8_placed 29 = .ok (.goto 4, 3) := by decide +kernel
theorem dX8_placed_32 : decode cX8_placed 32 = .ok (.iconst 0, 1) := by decide +kernel
theorem dX8_placed_33 : decode cX8_placed 33 = .ok (.ior, 1) := by decide +kernel
theorem dX8_placed_34 : decode cX8_placed 34 = .ok (.istore_n 2, 1) := by decide +kernel
theorem dX8_placed_35 : decode cX8_placed 35 = .ok (.iinc 3 1, 3) := by decide +kernel
theorem dX8_placed_38 : decode cX8_placed 38 = .ok (.goto (-34), 3) := by decide +kernel
theorem dX8_placed_41 : decode cX8_placed 41 = .ok (.iload_n 2, 1) := by decide +kernel
theorem dX8_placed_42 : decode cX8_placed 42 = .ok (.ireturn, 1) := by decide +kernel
theorem dX8_inMany_0 : decode cX8_inMany 0 = .ok (.iconst 0, 1) := by decide +kernel
theorem dX8_inMany_1 : decode cX8_inMany 1 = .ok (.istore_n 1, 1) := by decide +kernel
theorem dX8_inMany_2 : decode cX8_inMany 2 = .ok (.iconst 0, 1) := by decide +kernel
theorem dX8_inMany_3 : decode cX8_inMany 3 = .ok (.istore_n 2, 1) := by decide +kernel
theorem dX8_inMany_4 : decode cX8_inMany 4 = .ok (.iload_n 2, 1) := by decide +kernel
theorem dX8_inMany_5 : decode cX8_inMany 5 = .ok (.aload_n 0, 1) := by decide +kernel
theorem dX8_inMany_6 : decode cX8_inMany 6 = .ok (.getfield 73, 3) := by decide +kernel
theorem dX8_inMany_9 : decode cX8_inMany 9 = .ok (.if_icmp .ge 30, 3) := by decide +kernel
theorem dX8_inMany_12 : decode cX8_inMany 12 = .ok (.iload_n 1, 1) := by decide +kernel
theorem dX8_inMany_13 : decode cX8_inMany 13 = .ok (.aload_n 0, 1) := by decide +kernel
theorem dX8_inMany_14 : decode cX8_inMany 14 = .ok (.getfield 19, 3) := by decide +kernel
theorem dX8_inMany_17 : decode cX8_inMany 17 = .ok (.bipush 19, 2) := by decide +kernel
theorem dX8_inMany_19 : decode cX8_inMany 19 = .ok (.iload_n 2, 1) := by decide +kernel
theorem dX8_inMany_20 : decode cX8_inMany 20 = .ok (.iadd, 1) := by decide +kernel
theorem dX8_inMany_21 : decode cX8_inMany 21 = .ok (.iaload, 1) := by decide +kernel
theorem dX8_inMany_22 : decode cX8_inMany 22 = .ok (.iconst 1, 1) := by decide +kernel
theorem dX8_inMany_23 : decode cX8_inMany 23 = .ok (.if_icmp .ne 7, 3) := by decide +kernel
theorem dX8_inMany_26 : decode cX8_inMany 26 = .ok (.iconst 1, 1) := by decide +kernel
theorem dX8_inMany_27 : decode cX8_inMany 27 = .ok (.goto 4, 3) := by decide +kernel
theorem dX8_inMany_30 : decode cX8_inMany 30 = .ok (.iconst 0, 1) := by decide +kernel
theorem dX8_inMany_31 : decode cX8_inMany 31 = .ok (.iadd, 1) := by decide +kernel
theorem dX8_inMany_32 : decode cX8_inMany 32 = .ok (.istore_n 1, 1) := by decide +kernel
theorem dX8_inMany_33 : decode cX8_inMany 33 = .ok (.iinc 2 1, 3) := by decide +kernel
theorem dX8_inMany_36 : decode cX8_inMany 36 = .ok (.goto (-32), 3) := by decide +kernel
theorem dX8_inMany_39 : decode cX8_inMany 39 = .ok (.iload_n 1, 1) := by decide +kernel
theorem dX8_inMany_40 : decode cX8_inMany 40 = .ok (.ireturn, 1) := by decide +kernel
theorem dX8_lastHour_0 : decode cX8_lastHour 0 = .ok (.iconst 0, 1) := by decide +kernel
theorem dX8_lastHour_1 : decode cX8_lastHour 1 = .ok (.istore_n 1, 1) := by decide +kernel
theorem dX8_lastHour_2 : decode cX8_lastHour 2 = .ok (.iload_n 1, 1) := by decide +kernel
theorem dX8_lastHour_3 : decode cX8_lastHour 3 = .ok (.bipush 101, 2) := by decide +kernel
theorem dX8_lastHour_5 : decode cX8_lastHour 5 = .ok (.if_icmp .ge 31, 3) := by decide +kernel
theorem dX8_lastHour_8 : decode cX8_lastHour 8 = .ok (.aload_n 0, 1) := by decide +kernel
theorem dX8_lastHour_9 : decode cX8_lastHour 9 = .ok (.iconst 2, 1) := by decide +kernel
theorem dX8_lastHour_10 : decode cX8_lastHour 10 = .ok (.invokevirtual 106, 3) := by decide +kernel
theorem dX8_lastHour_13 : decode cX8_lastHour 13 = .ok (.iconst 1, 1) := by decide +kernel
theorem dX8_lastHour_14 : decode cX8_lastHour 14 = .ok (.aload_n 0, 1) := by decide +kernel
theorem dX8_lastHour_15 : decode cX8_lastHour 15 = .ok (.getfield 73, 3) := by decide +kernel
theorem dX8_lastHour_18 : decode cX8_lastHour 18 = .ok (.ishl, 1) := by decide +kernel
theorem dX8_lastHour_19 : decode cX8_lastHour 19 = .ok (.iconst 1, 1) := by decide +kernel
theorem dX8_lastHour_20 : decode cX8_lastHour 20 = .ok (.isub, 1) := by decide +kernel
theorem dX8_lastHour_21 : decode cX8_lastHour 21 = .ok (.if_icmp .ne 5, 3) := by decide +kernel
theorem dX8_lastHour_24 : decode cX8_lastHour 24 = .ok (.iload_n 1, 1) := by decide +kernel
theorem dX8_lastHour_25 : decode cX8_lastHour 25 = .ok (.ireturn, 1) := by decide +kernel
theorem dX8_lastHour_26 : decode cX8_lastHour 26 = .ok (.aload_n 0, 1) := by decide +kernel
theorem dX8_lastHour_27 : decode cX8_lastHour 27 = .ok (.invokevirtual 103, 3) := by decide +kernel
theorem dX8_lastHour_30 : decode cX8_lastHour 30 = .ok (.iinc 1 1, 3) := by decide +kernel
theorem dX8_lastHour_33 : decode cX8_lastHour 33 = .ok (.goto (-31), 3) := by decide +kernel
theorem dX8_lastHour_36 : decode cX8_lastHour 36 = .ok (.bipush (-4), 2) := by decide +kernel
theorem dX8_lastHour_38 : decode cX8_lastHour 38 = .ok (.ireturn, 1) := by decide +kernel
theorem dX8_isSooner_0 : decode cX8_isSooner 0 = .ok (.iload_n 0, 1) := by decide +kernel
theorem dX8_isSooner_1 : decode cX8_isSooner 1 = .ok (.bipush (-4), 2) := by decide +kernel
theorem dX8_isSooner_3 : decode cX8_isSooner 3 = .ok (.if_icmp .ne 8, 3) := by decide +kernel
theorem dX8_isSooner_6 : decode cX8_isSooner 6 = .ok (.bipush 101, 2) := by decide +kernel
theorem dX8_isSooner_8 : decode cX8_isSooner 8 = .ok (.goto 4, 3) := by decide +kernel
theorem dX8_isSooner_11 : decode cX8_isSooner 11 = .ok (.iload_n 0, 1) := by decide +kernel
theorem dX8_isSooner_12 : decode cX8_isSooner 12 = .ok (.iload_n 1, 1) := by decide +kernel
theorem dX8_isSooner_13 : decode cX8_isSooner 13 = .ok (.bipush (-4), 2) := by decide +kernel
theorem dX8_isSooner_15 : decode cX8_isSooner 15 = .ok (.if_icmp .ne 8, 3) := by decide +kernel
theorem dX8_isSooner_18 : decode cX8_isSooner 18 = .ok (.bipush 101, 2) := by decide +kernel
theorem dX8_isSooner_20 : decode cX8_isSooner 20 = .ok (.goto 4, 3) := by decide +kernel
theorem dX8_isSooner_23 : decode cX8_isSooner 23 = .ok (.iload_n 1, 1) := by decide +kernel
theorem dX8_isSooner_24 : decode cX8_isSooner 24 = .ok (.if_icmp .ge 7, 3) := by decide +kernel
theorem dX8_isSooner_27 : decode cX8_isSooner 27 = .ok (.iconst 1, 1) := by decide +kernel
theorem dX8_isSooner_28 : decode cX8_isSooner 28 = .ok (.goto 4, 3) := by decide +kernel
theorem dX8_isSooner_31 : decode cX8_isSooner 31 = .ok (.iconst 0, 1) := by decide +kernel
theorem dX8_isSooner_32 : decode cX8_isSooner 32 = .ok (.ireturn, 1) := by decide +kernel
theorem dX8_question_0 : decode cX8_question 0 = .ok (.iload_n 1, 1) := by decide +kernel
theorem dX8_question_1 : decode cX8_question 1 = .ok (.i2l, 1) := by decide +kernel
theorem dX8_question_2 : decode cX8_question 2 = .ok (.lconst 0, 1) := by decide +kernel
theorem dX8_question_3 : decode cX8_question 3 = .ok (.ldc2_w 109, 3) := by decide +kernel
theorem dX8_question_6 : decode cX8_question 6 = .ok (.invokestatic 69, 3) := by decide +kernel
theorem dX8_question_9 : decode cX8_question 9 = .ok (.ifCond .eq 15, 3) := by decide +kernel
theorem dX8_question_12 : decode cX8_question 12 = .ok (.iload_n 2, 1) := by decide +kernel
theorem dX8_question_13 : decode cX8_question 13 = .ok (.i2l, 1) := by decide +kernel
theorem dX8_question_14 : decode cX8_question 14 = .ok (.lconst 1, 1) := by decide +kernel
theorem dX8_question_15 : decode cX8_question 15 = .ok (.ldc2_w 111, 3) := by decide +kernel
theorem dX8_question_18 : decode cX8_question 18 = .ok (.invokestatic 69, 3) := by decide +kernel
theorem dX8_question_21 : decode cX8_question 21 = .ok (.ifCond .ne 5, 3) := by decide +kernel
theorem dX8_question_24 : decode cX8_question 24 = .ok (.iconst (-1), 1) := by decide +kernel
theorem dX8_question_25 : decode cX8_question 25 = .ok (.ireturn, 1) := by decide +kernel
theorem dX8_question_26 : decode cX8_question 26 = .ok (.aload_n 0, 1) := by decide +kernel
theorem dX8_question_27 : decode cX8_question 27 = .ok (.getfield 66, 3) := by decide +kernel
theorem dX8_question_30 : decode cX8_question 30 = .ok (.bipush 8, 2) := by decide +kernel
theorem dX8_question_32 : decode cX8_question 32 = .ok (.if_icmp .ne 6, 3) := by decide +kernel
theorem dX8_question_35 : decode cX8_question 35 = .ok (.bipush (-3), 2) := by decide +kernel
theorem dX8_question_37 : decode cX8_question 37 = .ok (.ireturn, 1) := by decide +kernel
theorem dX8_question_38 : decode cX8_question 38 = .ok (.aload_n 0, 1) := by decide +kernel
theorem dX8_question_39 : decode cX8_question 39 = .ok (.getfield 7, 3) := by decide +kernel
theorem dX8_question_42 : decode cX8_question 42 = .ok (.aload_n 0, 1) := by decide +kernel
theorem dX8_question_43 : decode cX8_question 43 = .ok (.getfield 66, 3) := by decide +kernel
theorem dX8_question_46 : decode cX8_question 46 = .ok (.iload_n 1, 1) := by decide +kernel
theorem dX8_question_47 : decode cX8_question 47 = .ok (.iastore, 1) := by decide +kernel
theorem dX8_question_48 : decode cX8_question 48 = .ok (.aload_n 0, 1) := by decide +kernel
theorem dX8_question_49 : decode cX8_question 49 = .ok (.getfield 16, 3) := by decide +kernel
theorem dX8_question_52 : decode cX8_question 52 = .ok (.iconst 1, 1) := by decide +kernel
theorem dX8_question_53 : decode cX8_question 53 = .ok (.aload_n 0, 1) := by decide +kernel
theorem dX8_question_54 : decode cX8_question 54 = .ok (.getfield 66, 3) := by decide +kernel
theorem dX8_question_57 : decode cX8_question 57 = .ok (.iadd, 1) := by decide +kernel
theorem dX8_question_58 : decode cX8_question 58 = .ok (.iload_n 2, 1) := by decide +kernel
theorem dX8_question_59 : decode cX8_question 59 = .ok (.iastore, 1) := by decide +kernel
theorem dX8_question_60 : decode cX8_question 60 = .ok (.aload_n 0, 1) := by decide +kernel
theorem dX8_question_61 : decode cX8_question 61 = .ok (.dup, 1) := by decide +kernel
theorem dX8_question_62 : decode cX8_question 62 = .ok (.getfield 66, 3) := by decide +kernel
theorem dX8_question_65 : decode cX8_question 65 = .ok (.iconst 1, 1) := by decide +kernel
theorem dX8_question_66 : decode cX8_question 66 = .ok (.iadd, 1) := by decide +kernel
theorem dX8_question_67 : decode cX8_question 67 = .ok (.putfield 66, 3) := by decide +kernel
theorem dX8_question_70 : decode cX8_question 70 = .ok (.aload_n 0, 1) := by decide +kernel
theorem dX8_question_71 : decode cX8_question 71 = .ok (.iconst 0, 1) := by decide +kernel
theorem dX8_question_72 : decode cX8_question 72 = .ok (.putfield 113, 3) := by decide +kernel
theorem dX8_question_75 : decode cX8_question 75 = .ok (.aload_n 0, 1) := by decide +kernel
theorem dX8_question_76 : decode cX8_question 76 = .ok (.getfield 66, 3) := by decide +kernel
theorem dX8_question_79 : decode cX8_question 79 = .ok (.iconst 1, 1) := by decide +kernel
theorem dX8_question_80 : decode cX8_question 80 = .ok (.isub, 1) := by decide +kernel
theorem dX8_question_81 : decode cX8_question 81 = .ok (.ireturn, 1) := by decide +kernel
theorem dX8_crosser_0 : decode cX8_crosser 0 = .ok (.iload_n 1, 1) := by decide +kernel
theorem dX8_crosser_1 : decode cX8_crosser 1 = .ok (.i2l, 1) := by decide +kernel
theorem dX8_crosser_2 : decode cX8_crosser 2 = .ok (.lconst 0, 1) := by decide +kernel
theorem dX8_crosser_3 : decode cX8_crosser 3 = .ok (.ldc2_w 116, 3) := by decide +kernel
theorem dX8_crosser_6 : decode cX8_crosser 6 = .ok (.invokestatic 69, 3) := by decide +kernel
theorem dX8_crosser_9 : decode cX8_crosser 9 = .ok (.ifCond .eq 27, 3) := by decide +kernel
theorem dX8_crosser_12 : decode cX8_crosser 12 = .ok (.iload_n 2, 1) := by decide +kernel
theorem dX8_crosser_13 : decode cX8_crosser 13 = .ok (.i2l, 1) := by decide +kernel
theorem dX8_crosser_14 : decode cX8_crosser 14 = .ok (.lconst 0, 1) := by decide +kernel
theorem dX8_crosser_15 : decode cX8_crosser 15 = .ok (.ldc2_w 118, 3) := by decide +kernel
theorem dX8_crosser_18 : decode cX8_crosser 18 = .ok (.invokestatic 69, 3) := by decide +kernel
theorem dX8_crosser_21 : decode cX8_crosser 21 = .ok (.ifCond .eq 15, 3) := by decide +kernel
theorem dX8_crosser_24 : decode cX8_crosser 24 = .ok (.iload_n 3, 1) := by decide +kernel
theorem dX8_crosser_25 : decode cX8_crosser 25 = .ok (.i2l, 1) := by decide +kernel
theorem dX8_crosser_26 : decode cX8_crosser 26 = .ok (.lconst 0, 1) := by decide +kernel
theorem dX8_crosser_27 : decode cX8_crosser 27 = .ok (.ldc2_w 120, 3) := by decide +kernel
theorem dX8_crosser_30 : decode cX8_crosser 30 = .ok (.invokestatic 69, 3) := by decide +kernel
theorem dX8_crosser_33 : decode cX8_crosser 33 = .ok (.ifCond .ne 5, 3) := by decide +kernel
theorem dX8_crosser_36 : decode cX8_crosser 36 = .ok (.iconst (-1), 1) := by decide +kernel
theorem dX8_crosser_37 : decode cX8_crosser 37 = .ok (.ireturn, 1) := by decide +kernel
theorem dX8_crosser_38 : decode cX8_crosser 38 = .ok (.aload_n 0, 1) := by decide +kernel
theorem dX8_crosser_39 : decode cX8_crosser 39 = .ok (.getfield 73, 3) := by decide +kernel
theorem dX8_crosser_42 : decode cX8_crosser 42 = .ok (.iconst 5, 1) := by decide +kernel
theorem dX8_crosser_43 : decode cX8_crosser 43 = .ok (.if_icmp .ne 6, 3) := by decide +kernel
theorem dX8_crosser_46 : decode cX8_crosser 46 = .ok (.bipush (-3), 2) := by decide +kernel
theorem dX8_crosser_48 : decode cX8_crosser 48 = .ok (.ireturn, 1) := by decide +kernel
theorem dX8_crosser_49 : decode cX8_crosser 49 = .ok (.aload_n 0, 1) := by decide +kernel
theorem dX8_crosser_50 : decode cX8_crosser 50 = .ok (.getfield 13, 3) := by decide +kernel
theorem dX8_crosser_53 : decode cX8_crosser 53 = .ok (.aload_n 0, 1) := by decide +kernel
theorem dX8_crosser_54 : decode cX8_crosser 54 = .ok (.getfield 73, 3) := by decide +kernel
theorem dX8_crosser_57 : decode cX8_crosser 57 = .ok (.iload_n 1, 1) := by decide +kernel
theorem dX8_crosser_58 : decode cX8_crosser 58 = .ok (.iastore, 1) := by decide +kernel
theorem dX8_crosser_59 : decode cX8_crosser 59 = .ok (.aload_n 0, 1) := by decide +kernel
theorem dX8_crosser_60 : decode cX8_crosser 60 = .ok (.getfield 16, 3) := by decide +kernel
theorem dX8_crosser_63 : decode cX8_crosser 63 = .ok (.bipush 9, 2) := by decide +kernel
theorem dX8_crosser_65 : decode cX8_crosser 65 = .ok (.aload_n 0, 1) := by decide +kernel
theorem dX8_crosser_66 : decode cX8_crosser 66 = .ok (.getfield 73, 3) := by decide +kernel
theorem dX8_crosser_69 : decode cX8_crosser 69 = .ok (.iadd, 1) := by decide +kernel
theorem dX8_crosser_70 : decode cX8_crosser 70 = .ok (.iload_n 2, 1) := by decide +kernel
theorem dX8_crosser_71 : decode cX8_crosser 71 = .ok (.iastore, 1) := by decide +kernel
theorem dX8_crosser_72 : decode cX8_crosser 72 = .ok (.aload_n 0, 1) := by decide +kernel
theorem dX8_crosser_73 : decode cX8_crosser 73 = .ok (.getfield 16, 3) := by decide +kernel
theorem dX8_crosser_76 : decode cX8_crosser 76 = .ok (.bipush 14, 2) := by decide +kernel
theorem dX8_crosser_78 : decode cX8_crosser 78 = .ok (.aload_n 0, 1) := by decide +kernel
theorem dX8_crosser_79 : decode cX8_crosser 79 = .ok (.getfield 73, 3) := by decide +kernel
theorem dX8_crosser_82 : decode cX8_crosser 82 = .ok (.iadd, 1) := by decide +kernel
theorem dX8_crosser_83 : decode cX8_crosser 83 = .ok (.iload_n 3, 1) := by decide +kernel
theorem dX8_crosser_84 : decode cX8_crosser 84 = .ok (.iastore, 1) := by decide +kernel
theorem dX8_crosser_85 : decode cX8_crosser 85 = .ok (.aload_n 0, 1) := by decide +kernel
theorem dX8_crosser_86 : decode cX8_crosser 86 = .ok (.dup, 1) := by decide +kernel
theorem dX8_crosser_87 : decode cX8_crosser 87 = .ok (.getfield 73, 3) := by decide +kernel
theorem dX8_crosser_90 : decode cX8_crosser 90 = .ok (.iconst 1, 1) := by decide +kernel
theorem dX8_crosser_91 : decode cX8_crosser 91 = .ok (.iadd, 1) := by decide +kernel
theorem dX8_crosser_92 : decode cX8_crosser 92 = .ok (.putfield 73, 3) := by decide +kernel
theorem dX8_crosser_95 : decode cX8_crosser 95 = .ok (.aload_n 0, 1) := by decide +kernel
theorem dX8_crosser_96 : decode cX8_crosser 96 = .ok (.iconst 0, 1) := by decide +kernel
theorem dX8_crosser_97 : decode cX8_crosser 97 = .ok (.putfield 113, 3) := by decide +kernel
theorem dX8_crosser_100 : decode cX8_crosser 100 = .ok (.aload_n 0, 1) := by decide +kernel
theorem dX8_crosser_101 : decode cX8_crosser 101 = .ok (.getfield 73, 3) := by decide +kernel
theorem dX8_crosser_104 : decode cX8_crosser 104 = .ok (.iconst 1, 1) := by decide +kernel
theorem dX8_crosser_105 : decode cX8_crosser 105 = .ok (.isub, 1) := by decide +kernel
theorem dX8_crosser_106 : decode cX8_crosser 106 = .ok (.ireturn, 1) := by decide +kernel
theorem dX8_of_0 : decode cX8_of 0 = .ok (.aload_n 0, 1) := by decide +kernel
theorem dX8_of_1 : decode cX8_of 1 = .ok (.iload_n 1, 1) := by decide +kernel
theorem dX8_of_2 : decode cX8_of 2 = .ok (.invokevirtual 122, 3) := by decide +kernel
theorem dX8_of_5 : decode cX8_of 5 = .ok (.ifCond .eq 15, 3) := by decide +kernel
theorem dX8_of_8 : decode cX8_of 8 = .ok (.iload_n 2, 1) := by decide +kernel
theorem dX8_of_9 : decode cX8_of 9 = .ok (.i2l, 1) := by decide +kernel
theorem dX8_of_10 : decode cX8_of 10 = .ok (.lconst 0, 1) := by decide +kernel
theorem dX8_of_11 : decode cX8_of 11 = .ok (.ldc2_w 126, 3) := by decide +kernel
theorem dX8_of_14 : decode cX8_of 14 = .ok (.invokestatic 69, 3) := by decide +kernel
theorem dX8_of_17 : decode cX8_of 17 = .ok (.ifCond .ne 5, 3) := by decide +kernel
theorem dX8_of_20 : decode cX8_of 20 = .ok (.iconst (-1), 1) := by decide +kernel
theorem dX8_of_21 : decode cX8_of 21 = .ok (.ireturn, 1) := by decide +kernel
theorem dX8_of_22 : decode cX8_of 22 = .ok (.iload_n 2, 1) := by decide +kernel
theorem dX8_of_23 : decode cX8_of 23 = .ok (.ifCond .ne 12, 3) := by decide +kernel
theorem dX8_of_26 : decode cX8_of 26 = .ok (.aload_n 0, 1) := by decide +kernel
theorem dX8_of_27 : decode cX8_of 27 = .ok (.getfield 7, 3) := by decide +kernel
theorem dX8_of_30 : decode cX8_of 30 = .ok (.iload_n 1, 1) := by decide +kernel
theorem dX8_of_31 : decode cX8_of 31 = .ok (.iaload, 1) := by decide +kernel
theorem dX8_of_32 : decode cX8_of 32 = .ok (.goto 29, 3) := by decide +kernel
theorem dX8_of_35 : decode cX8_of 35 = .ok (.iload_n 2, 1) := by decide +kernel
theorem dX8_of_36 : decode cX8_of 36 = .ok (.iconst 1, 1) := by decide +kernel
theorem dX8_of_37 : decode cX8_of 37 = .ok (.if_icmp .ne 14, 3) := by decide +kernel
theorem dX8_of_40 : decode cX8_of 40 = .ok (.aload_n 0, 1) := by decide +kernel
theorem dX8_of_41 : decode cX8_of 41 = .ok (.getfield 16, 3) := by decide +kernel
theorem dX8_of_44 : decode cX8_of 44 = .ok (.iconst 1, 1) := by decide +kernel
theorem dX8_of_45 : decode cX8_of 45 = .ok (.iload_n 1, 1) := by decide +kernel
theorem dX8_of_46 : decode cX8_of 46 = .ok (.iadd, 1) := by decide +kernel
theorem dX8_of_47 : decode cX8_of 47 = .ok (.iaload, 1) := by decide +kernel
theorem dX8_of_48 : decode cX8_of 48 = .ok (.goto 13, 3) := by decide +kernel
theorem dX8_of_51 : decode cX8_of 51 = .ok (.aload_n 0, 1) := by decide +kernel
theorem dX8_of_52 : decode cX8_of 52 = .ok (.getfield 16, 3) := by decide +kernel
theorem dX8_of_55 : decode cX8_of 55 = .ok (.iconst 0, 1) := by decide +kernel
theorem dX8_of_56 : decode cX8_of 56 = .ok (.iaload, 1) := by decide +kernel
theorem dX8_of_57 : decode cX8_of 57 = .ok (.iload_n 1, 1) := by decide +kernel
theorem dX8_of_58 : decode cX8_of 58 = .ok (.ishr, 1) := by decide +kernel
theorem dX8_of_59 : decode cX8_of 59 = .ok (.iconst 1, 1) := by decide +kernel
theorem dX8_of_60 : decode cX8_of 60 = .ok (.iand, 1) := by decide +kernel
theorem dX8_of_61 : decode cX8_of 61 = .ok (.ireturn, 1) := by decide +kernel
theorem dX8_at_0 : decode cX8_at 0 = .ok (.aload_n 0, 1) := by decide +kernel
theorem dX8_at_1 : decode cX8_at 1 = .ok (.iload_n 1, 1) := by decide +kernel
theorem dX8_at_2 : decode cX8_at 2 = .ok (.invokevirtual 128, 3) := by decide +kernel
theorem dX8_at_5 : decode cX8_at 5 = .ok (.ifCond .eq 15, 3) := by decide +kernel
theorem dX8_at_8 : decode cX8_at 8 = .ok (.iload_n 2, 1) := by decide +kernel
theorem dX8_at_9 : decode cX8_at 9 = .ok (.i2l, 1) := by decide +kernel
theorem dX8_at_10 : decode cX8_at 10 = .ok (.lconst 0, 1) := by decide +kernel
theorem dX8_at_11 : decode cX8_at 11 = .ok (.ldc2_w 116, 3) := by decide +kernel
theorem dX8_at_14 : decode cX8_at 14 = .ok (.invokestatic 69, 3) := by decide +kernel
theorem dX8_at_17 : decode cX8_at 17 = .ok (.ifCond .ne 5, 3) := by decide +kernel
theorem dX8_at_20 : decode cX8_at 20 = .ok (.iconst (-1), 1) := by decide +kernel
theorem dX8_at_21 : decode cX8_at 21 = .ok (.ireturn, 1) := by decide +kernel
theorem dX8_at_22 : decode cX8_at 22 = .ok (.iload_n 2, 1) := by decide +kernel
theorem dX8_at_23 : decode cX8_at 23 = .ok (.tableswitch 66 0 3 #[29, 36, 46, 56], 29) := by decide +kernel
theorem dX8_at_52 : decode cX8_at 52 = .ok (.aload_n 0, 1) := by decide +kernel
theorem dX8_at_53 : decode cX8_at 53 = .ok (.getfield 13, 3) := by decide +kernel
theorem dX8_at_56 : decode cX8_at 56 = .ok (.iload_n 1, 1) := by decide +kernel
theorem dX8_at_57 : decode cX8_at 57 = .ok (.iaload, 1) := by decide +kernel
theorem dX8_at_58 : decode cX8_at 58 = .ok (.ireturn, 1) := by decide +kernel
theorem dX8_at_59 : decode cX8_at 59 = .ok (.aload_n 0, 1) := by decide +kernel
theorem dX8_at_60 : decode cX8_at 60 = .ok (.getfield 16, 3) := by decide +kernel
theorem dX8_at_63 : decode cX8_at 63 = .ok (.bipush 9, 2) := by decide +kernel
theorem dX8_at_65 : decode cX8_at 65 = .ok (.iload_n 1, 1) := by decide +kernel
theorem dX8_at_66 : decode cX8_at 66 = .ok (.iadd, 1) := by decide +kernel
theorem dX8_at_67 : decode cX8_at 67 = .ok (.iaload, 1) := by decide +kernel
theorem dX8_at_68 : decode cX8_at 68 = .ok (.ireturn, 1) := by decide +kernel
theorem dX8_at_69 : decode cX8_at 69 = .ok (.aload_n 0, 1) := by decide +kernel
theorem dX8_at_70 : decode cX8_at 70 = .ok (.getfield 16, 3) := by decide +kernel
theorem dX8_at_73 : decode cX8_at 73 = .ok (.bipush 14, 2) := by decide +kernel
theorem dX8_at_75 : decode cX8_at 75 = .ok (.iload_n 1, 1) := by decide +kernel
theorem dX8_at_76 : decode cX8_at 76 = .ok (.iadd, 1) := by decide +kernel
theorem dX8_at_77 : decode cX8_at 77 = .ok (.iaload, 1) := by decide +kernel
theorem dX8_at_78 : decode cX8_at 78 = .ok (.ireturn, 1) := by decide +kernel
theorem dX8_at_79 : decode cX8_at 79 = .ok (.aload_n 0, 1) := by decide +kernel
theorem dX8_at_80 : decode cX8_at 80 = .ok (.getfield 16, 3) := by decide +kernel
theorem dX8_at_83 : decode cX8_at 83 = .ok (.bipush 19, 2) := by decide +kernel
theorem dX8_at_85 : decode cX8_at 85 = .ok (.iload_n 1, 1) := by decide +kernel
theorem dX8_at_86 : decode cX8_at 86 = .ok (.iadd, 1) := by decide +kernel
theorem dX8_at_87 : decode cX8_at 87 = .ok (.iaload, 1) := by decide +kernel
theorem dX8_at_88 : decode cX8_at 88 = .ok (.ireturn, 1) := by decide +kernel
theorem dX8_at_89 : decode cX8_at 89 = .ok (.aload_n 0, 1) := by decide +kernel
theorem dX8_at_90 : decode cX8_at 90 = .ok (.getfield 16, 3) := by decide +kernel
theorem dX8_at_93 : decode cX8_at 93 = .ok (.bipush 19, 2) := by decide +kernel
theorem dX8_at_95 : decode cX8_at 95 = .ok (.iload_n 1, 1) := by decide +kernel
theorem dX8_at_96 : decode cX8_at 96 = .ok (.iadd, 1) := by decide +kernel
theorem dX8_at_97 : decode cX8_at 97 = .ok (.iaload, 1) := by decide +kernel
theorem dX8_at_98 : decode cX8_at 98 = .ok (.iconst 1, 1) := by decide +kernel
theorem dX8_at_99 : decode cX8_at 99 = .ok (.if_icmp .ne 15, 3) := by decide +kernel
theorem dX8_at_102 : decode cX8_at 102 = .ok (.aload_n 0, 1) := by decide +kernel
theorem dX8_at_103 : decode cX8_at 103 = .ok (.getfield 16, 3) := by decide +kernel
theorem dX8_at_106 : decode cX8_at 106 = .ok (.bipush 24, 2) := by decide +kernel
theorem dX8_at_108 : decode cX8_at 108 = .ok (.iload_n 1, 1) := by decide +kernel
theorem dX8_at_109 : decode cX8_at 109 = .ok (.iadd, 1) := by decide +kernel
theorem dX8_at_110 : decode cX8_at 110 = .ok (.iaload, 1) := by decide +kernel
theorem dX8_at_111 : decode cX8_at 111 = .ok (.goto 5, 3) := by decide +kernel
theorem dX8_at_114 : decode cX8_at 114 = .ok (.bipush (-4), 2) := by decide +kernel
theorem dX8_at_116 : decode cX8_at 116 = .ok (.ireturn, 1) := by decide +kernel
theorem dX8_takes_0 : decode cX8_takes 0 = .ok (.aload_n 0, 1) := by decide +kernel
theorem dX8_takes_1 : decode cX8_takes 1 = .ok (.iload_n 1, 1) := by decide +kernel
theorem dX8_takes_2 : decode cX8_takes 2 = .ok (.invokevirtual 128, 3) := by decide +kernel
theorem dX8_takes_5 : decode cX8_takes 5 = .ok (.ifCond .eq 11, 3) := by decide +kernel
theorem dX8_takes_8 : decode cX8_takes 8 = .ok (.aload_n 0, 1) := by decide +kernel
theorem dX8_takes_9 : decode cX8_takes 9 = .ok (.iload_n 2, 1) := by decide +kernel
theorem dX8_takes_10 : decode cX8_takes 10 = .ok (.invokevirtual 122, 3) := by decide +kernel
theorem dX8_takes_13 : decode cX8_takes 13 = .ok (.ifCond .ne 5, 3) := by decide +kernel
theorem dX8_takes_16 : decode cX8_takes 16 = .ok (.iconst (-1), 1) := by decide +kernel
theorem dX8_takes_17 : decode cX8_takes 17 = .ok (.ireturn, 1) := by decide +kernel
theorem dX8_takes_18 : decode cX8_takes 18 = .ok (.aload_n 0, 1) := by decide +kernel
theorem dX8_takes_19 : decode cX8_takes 19 = .ok (.invokevirtual 131, 3) := by decide +kernel
theorem dX8_takes_22 : decode cX8_takes 22 = .ok (.aload_n 0, 1) := by decide +kernel
theorem dX8_takes_23 : decode cX8_takes 23 = .ok (.iload_n 1, 1) := by decide +kernel
theorem dX8_takes_24 : decode cX8_takes 24 = .ok (.iload_n 2, 1) := by decide +kernel
theorem dX8_takes_25 : decode cX8_takes 25 = .ok (.invokevirtual 95, 3) := by decide +kernel
theorem dX8_takes_28 : decode cX8_takes 28 = .ok (.ireturn, 1) := by decide +kernel
theorem dX8_type_0 : decode cX8_type 0 = .ok (.iload_n 1, 1) := by decide +kernel
theorem dX8_type_1 : decode cX8_type 1 = .ok (.i2l, 1) := by decide +kernel
theorem dX8_type_2 : decode cX8_type 2 = .ok (.ldc2_w 134, 3) := by decide +kernel
theorem dX8_type_5 : decode cX8_type 5 = .ok (.ldc2_w 136, 3) := by decide +kernel
theorem dX8_type_8 : decode cX8_type 8 = .ok (.invokestatic 69, 3) := by decide +kernel
theorem dX8_type_11 : decode cX8_type 11 = .ok (.ifCond .ne 5, 3) := by decide +kernel
theorem dX8_type_14 : decode cX8_type 14 = .ok (.iconst (-1), 1) := by decide +kernel
theorem dX8_type_15 : decode cX8_type 15 = .ok (.ireturn, 1) := by decide +kernel
theorem dX8_type_16 : decode cX8_type 16 = .ok (.aload_n 0, 1) := by decide +kernel
theorem dX8_type_17 : decode cX8_type 17 = .ok (.getfield 138, 3) := by decide +kernel
theorem dX8_type_20 : decode cX8_type 20 = .ok (.bipush 90, 2) := by decide +kernel
theorem dX8_type_22 : decode cX8_type 22 = .ok (.if_icmp .ne 6, 3) := by decide +kernel
theorem dX8_type_25 : decode cX8_type 25 = .ok (.bipush (-3), 2) := by decide +kernel
theorem dX8_type_27 : decode cX8_type 27 = .ok (.ireturn, 1) := by decide +kernel
theorem dX8_type_28 : decode cX8_type 28 = .ok (.aload_n 0, 1) := by decide +kernel
theorem dX8_type_29 : decode cX8_type 29 = .ok (.getfield 44, 3) := by decide +kernel
theorem dX8_type_32 : decode cX8_type 32 = .ok (.aload_n 0, 1) := by decide +kernel
theorem dX8_type_33 : decode cX8_type 33 = .ok (.getfield 138, 3) := by decide +kernel
theorem dX8_type_36 : decode cX8_type 36 = .ok (.iload_n 1, 1) := by decide +kernel
theorem dX8_type_37 : decode cX8_type 37 = .ok (.iastore, 1) := by decide +kernel
theorem dX8_type_38 : decode cX8_type 38 = .ok (.aload_n 0, 1) := by decide +kernel
theorem dX8_type_39 : decode cX8_type 39 = .ok (.dup, 1) := by decide +kernel
theorem dX8_type_40 : decode cX8_type 40 = .ok (.getfield 138, 3) := by decide +kernel
theorem dX8_type_43 : decode cX8_type 43 = .ok (.iconst 1, 1) := by decide +kernel
theorem dX8_type_44 : decode cX8_type 44 = .ok (.iadd, 1) := by decide +kernel
theorem dX8_type_45 : decode cX8_type 45 = .ok (.putfield 138, 3) := by decide +kernel
theorem dX8_type_48 : decode cX8_type 48 = .ok (.aload_n 0, 1) := by decide +kernel
theorem dX8_type_49 : decode cX8_type 49 = .ok (.getfield 138, 3) := by decide +kernel
theorem dX8_type_52 : decode cX8_type 52 = .ok (.ireturn, 1) := by decide +kernel
theorem dX8_next_0 : decode cX8_next 0 = .ok (.aload_n 0, 1) := by decide +kernel
theorem dX8_next_1 : decode cX8_next 1 = .ok (.getfield 141, 3) := by decide +kernel
theorem dX8_next_4 : decode cX8_next 4 = .ok (.aload_n 0, 1) := by decide +kernel
theorem dX8_next_5 : decode cX8_next 5 = .ok (.getfield 138, 3) := by decide +kernel
theorem dX8_next_8 : decode cX8_next 8 = .ok (.if_icmp .ge 30, 3) := by decide +kernel
end
section
theorem dX8_next_11 : decode cX8_next 11 = .ok (.aload_n 0, 1) := by decide +kernel
theorem dX8_next_12 : decode cX8_next 12 = .ok (.getfield 44, 3) := by decide +kernel
theorem dX8_next_15 : decode cX8_next 15 = .ok (.aload_n 0, 1) := by decide +kernel
theorem dX8_next_16 : decode cX8_next 16 = .ok (.getfield 141, 3) := by decide +kernel
theorem dX8_next_19 : decode cX8_next 19 = .ok (.iaload, 1) := by decide +kernel
theorem dX8_next_20 : decode cX8_next 20 = .ok (.bipush 32, 2) := by decide +kernel
theorem dX8_next_22 : decode cX8_next 22 = .ok (.if_icmp .ne 16, 3) := by decide +kernel
theorem dX8_next_25 : decode cX8_next 25 = .ok (.aload_n 0, 1) := by decide +kernel
theorem dX8_next_26 : decode cX8_next 26 = .ok (.dup, 1) := by decide +kernel
theorem dX8_next_27 : decode cX8_next 27 = .ok (.getfield 141, 3) := by decide +kernel
theorem dX8_next_30 : decode cX8_next 30 = .ok (.iconst 1, 1) := by decide +kernel
theorem dX8_next_31 : decode cX8_next 31 = .ok (.iadd, 1) := by decide +kernel
theorem dX8_next_32 : decode cX8_next 32 = .ok (.putfield 141, 3) := by decide +kernel
theorem dX8_next_35 : decode cX8_next 35 = .ok (.goto (-35), 3) := by decide +kernel
theorem dX8_next_38 : decode cX8_next 38 = .ok (.aload_n 0, 1) := by decide +kernel
theorem dX8_next_39 : decode cX8_next 39 = .ok (.aload_n 0, 1) := by decide +kernel
theorem dX8_next_40 : decode cX8_next 40 = .ok (.getfield 141, 3) := by decide +kernel
theorem dX8_next_43 : decode cX8_next 43 = .ok (.putfield 144, 3) := by decide +kernel
theorem dX8_next_46 : decode cX8_next 46 = .ok (.aload_n 0, 1) := by decide +kernel
theorem dX8_next_47 : decode cX8_next 47 = .ok (.dup, 1) := by decide +kernel
theorem dX8_next_48 : decode cX8_next 48 = .ok (.getfield 141, 3) := by decide +kernel
theorem dX8_next_51 : decode cX8_next 51 = .ok (.iconst 1, 1) := by decide +kernel
theorem dX8_next_52 : decode cX8_next 52 = .ok (.iadd, 1) := by decide +kernel
theorem dX8_next_53 : decode cX8_next 53 = .ok (.putfield 141, 3) := by decide +kernel
theorem dX8_next_56 : decode cX8_next 56 = .ok (.aload_n 0, 1) := by decide +kernel
theorem dX8_next_57 : decode cX8_next 57 = .ok (.getfield 144, 3) := by decide +kernel
theorem dX8_next_60 : decode cX8_next 60 = .ok (.aload_n 0, 1) := by decide +kernel
theorem dX8_next_61 : decode cX8_next 61 = .ok (.getfield 138, 3) := by decide +kernel
theorem dX8_next_64 : decode cX8_next 64 = .ok (.if_icmp .ge 15, 3) := by decide +kernel
theorem dX8_next_67 : decode cX8_next 67 = .ok (.aload_n 0, 1) := by decide +kernel
theorem dX8_next_68 : decode cX8_next 68 = .ok (.getfield 44, 3) := by decide +kernel
theorem dX8_next_71 : decode cX8_next 71 = .ok (.aload_n 0, 1) := by decide +kernel
theorem dX8_next_72 : decode cX8_next 72 = .ok (.getfield 144, 3) := by decide +kernel
theorem dX8_next_75 : decode cX8_next 75 = .ok (.iaload, 1) := by decide +kernel
theorem dX8_next_76 : decode cX8_next 76 = .ok (.goto 4, 3) := by decide +kernel
theorem dX8_next_79 : decode cX8_next 79 = .ok (.iconst 0, 1) := by decide +kernel
theorem dX8_next_80 : decode cX8_next 80 = .ok (.ireturn, 1) := by decide +kernel
theorem dX8_isDigit_0 : decode cX8_isDigit 0 = .ok (.iload_n 0, 1) := by decide +kernel
theorem dX8_isDigit_1 : decode cX8_isDigit 1 = .ok (.i2l, 1) := by decide +kernel
theorem dX8_isDigit_2 : decode cX8_isDigit 2 = .ok (.ldc2_w 147, 3) := by decide +kernel
theorem dX8_isDigit_5 : decode cX8_isDigit 5 = .ok (.ldc2_w 149, 3) := by decide +kernel
theorem dX8_isDigit_8 : decode cX8_isDigit 8 = .ok (.invokestatic 69, 3) := by decide +kernel
theorem dX8_isDigit_11 : decode cX8_isDigit 11 = .ok (.ireturn, 1) := by decide +kernel
theorem dX8_isTopic_0 : decode cX8_isTopic 0 = .ok (.iload_n 0, 1) := by decide +kernel
theorem dX8_isTopic_1 : decode cX8_isTopic 1 = .ok (.i2l, 1) := by decide +kernel
theorem dX8_isTopic_2 : decode cX8_isTopic 2 = .ok (.ldc2_w 151, 3) := by decide +kernel
theorem dX8_isTopic_5 : decode cX8_isTopic 5 = .ok (.ldc2_w 153, 3) := by decide +kernel
theorem dX8_isTopic_8 : decode cX8_isTopic 8 = .ok (.invokestatic 69, 3) := by decide +kernel
theorem dX8_isTopic_11 : decode cX8_isTopic 11 = .ok (.ireturn, 1) := by decide +kernel
theorem dX8_kindBy_0 : decode cX8_kindBy 0 = .ok (.iload_n 0, 1) := by decide +kernel
theorem dX8_kindBy_1 : decode cX8_kindBy 1 = .ok (.bipush 112, 2) := by decide +kernel
theorem dX8_kindBy_3 : decode cX8_kindBy 3 = .ok (.if_icmp .ne 7, 3) := by decide +kernel
theorem dX8_kindBy_6 : decode cX8_kindBy 6 = .ok (.iconst 0, 1) := by decide +kernel
theorem dX8_kindBy_7 : decode cX8_kindBy 7 = .ok (.goto 45, 3) := by decide +kernel
theorem dX8_kindBy_10 : decode cX8_kindBy 10 = .ok (.iload_n 0, 1) := by decide +kernel
theorem dX8_kindBy_11 : decode cX8_kindBy 11 = .ok (.bipush 115, 2) := by decide +kernel
theorem dX8_kindBy_13 : decode cX8_kindBy 13 = .ok (.if_icmp .ne 7, 3) := by decide +kernel
theorem dX8_kindBy_16 : decode cX8_kindBy 16 = .ok (.iconst 1, 1) := by decide +kernel
theorem dX8_kindBy_17 : decode cX8_kindBy 17 = .ok (.goto 35, 3) := by decide +kernel
theorem dX8_kindBy_20 : decode cX8_kindBy 20 = .ok (.iload_n 0, 1) := by decide +kernel
theorem dX8_kindBy_21 : decode cX8_kindBy 21 = .ok (.bipush 114, 2) := by decide +kernel
theorem dX8_kindBy_23 : decode cX8_kindBy 23 = .ok (.if_icmp .ne 7, 3) := by decide +kernel
theorem dX8_kindBy_26 : decode cX8_kindBy 26 = .ok (.iconst 2, 1) := by decide +kernel
theorem dX8_kindBy_27 : decode cX8_kindBy 27 = .ok (.goto 25, 3) := by decide +kernel
theorem dX8_kindBy_30 : decode cX8_kindBy 30 = .ok (.iload_n 0, 1) := by decide +kernel
theorem dX8_kindBy_31 : decode cX8_kindBy 31 = .ok (.bipush 100, 2) := by decide +kernel
theorem dX8_kindBy_33 : decode cX8_kindBy 33 = .ok (.if_icmp .ne 7, 3) := by decide +kernel
theorem dX8_kindBy_36 : decode cX8_kindBy 36 = .ok (.iconst 3, 1) := by decide +kernel
theorem dX8_kindBy_37 : decode cX8_kindBy 37 = .ok (.goto 15, 3) := by decide +kernel
theorem dX8_kindBy_40 : decode cX8_kindBy 40 = .ok (.iload_n 0, 1) := by decide +kernel
theorem dX8_kindBy_41 : decode cX8_kindBy 41 = .ok (.bipush 103, 2) := by decide +kernel
theorem dX8_kindBy_43 : decode cX8_kindBy 43 = .ok (.if_icmp .ne 7, 3) := by decide +kernel
theorem dX8_kindBy_46 : decode cX8_kindBy 46 = .ok (.iconst 4, 1) := by decide +kernel
theorem dX8_kindBy_47 : decode cX8_kindBy 47 = .ok (.goto 5, 3) := by decide +kernel
theorem dX8_kindBy_50 : decode cX8_kindBy 50 = .ok (.bipush (-4), 2) := by decide +kernel
theorem dX8_kindBy_52 : decode cX8_kindBy 52 = .ok (.ireturn, 1) := by decide +kernel
theorem dX8_questionsAll_0 : decode cX8_questionsAll 0 = .ok (.aload_n 0, 1) := by decide +kernel
theorem dX8_questionsAll_1 : decode cX8_questionsAll 1 = .ok (.aload_n 0, 1) := by decide +kernel
theorem dX8_questionsAll_2 : decode cX8_questionsAll 2 = .ok (.invokevirtual 155, 3) := by decide +kernel
theorem dX8_questionsAll_5 : decode cX8_questionsAll 5 = .ok (.putfield 158, 3) := by decide +kernel
theorem dX8_questionsAll_8 : decode cX8_questionsAll 8 = .ok (.aload_n 0, 1) := by decide +kernel
theorem dX8_questionsAll_9 : decode cX8_questionsAll 9 = .ok (.getfield 158, 3) := by decide +kernel
theorem dX8_questionsAll_12 : decode cX8_questionsAll 12 = .ok (.invokestatic 161, 3) := by decide +kernel
theorem dX8_questionsAll_15 : decode cX8_questionsAll 15 = .ok (.ifCond .eq 126, 3) := by decide +kernel
theorem dX8_questionsAll_18 : decode cX8_questionsAll 18 = .ok (.aload_n 0, 1) := by decide +kernel
theorem dX8_questionsAll_19 : decode cX8_questionsAll 19 = .ok (.getfield 164, 3) := by decide +kernel
theorem dX8_questionsAll_22 : decode cX8_questionsAll 22 = .ok (.bipush 8, 2) := by decide +kernel
theorem dX8_questionsAll_24 : decode cX8_questionsAll 24 = .ok (.if_icmp .ge 117, 3) := by decide +kernel
theorem dX8_questionsAll_27 : decode cX8_questionsAll 27 = .ok (.aload_n 0, 1) := by decide +kernel
theorem dX8_questionsAll_28 : decode cX8_questionsAll 28 = .ok (.getfield 54, 3) := by decide +kernel
theorem dX8_questionsAll_31 : decode cX8_questionsAll 31 = .ok (.aload_n 0, 1) := by decide +kernel
theorem dX8_questionsAll_32 : decode cX8_questionsAll 32 = .ok (.getfield 164, 3) := by decide +kernel
theorem dX8_questionsAll_35 : decode cX8_questionsAll 35 = .ok (.aload_n 0, 1) := by decide +kernel
theorem dX8_questionsAll_36 : decode cX8_questionsAll 36 = .ok (.getfield 158, 3) := by decide +kernel
theorem dX8_questionsAll_39 : decode cX8_questionsAll 39 = .ok (.bipush 97, 2) := by decide +kernel
theorem dX8_questionsAll_41 : decode cX8_questionsAll 41 = .ok (.isub, 1) := by decide +kernel
theorem dX8_questionsAll_42 : decode cX8_questionsAll 42 = .ok (.iastore, 1) := by decide +kernel
theorem dX8_questionsAll_43 : decode cX8_questionsAll 43 = .ok (.aload_n 0, 1) := by decide +kernel
theorem dX8_questionsAll_44 : decode cX8_questionsAll 44 = .ok (.aload_n 0, 1) := by decide +kernel
theorem dX8_questionsAll_45 : decode cX8_questionsAll 45 = .ok (.invokevirtual 155, 3) := by decide +kernel
theorem dX8_questionsAll_48 : decode cX8_questionsAll 48 = .ok (.putfield 158, 3) := by decide +kernel
theorem dX8_questionsAll_51 : decode cX8_questionsAll 51 = .ok (.aload_n 0, 1) := by decide +kernel
theorem dX8_questionsAll_52 : decode cX8_questionsAll 52 = .ok (.getfield 158, 3) := by decide +kernel
theorem dX8_questionsAll_55 : decode cX8_questionsAll 55 = .ok (.i2l, 1) := by decide +kernel
theorem dX8_questionsAll_56 : decode cX8_questionsAll 56 = .ok (.ldc2_w 167, 3) := by decide +kernel
theorem dX8_questionsAll_59 : decode cX8_questionsAll 59 = .ok (.ldc2_w 149, 3) := by decide +kernel
theorem dX8_questionsAll_62 : decode cX8_questionsAll 62 = .ok (.invokestatic 69, 3) := by decide +kernel
theorem dX8_questionsAll_65 : decode cX8_questionsAll 65 = .ok (.ifCond .ne 5, 3) := by decide +kernel
theorem dX8_questionsAll_68 : decode cX8_questionsAll 68 = .ok (.iconst 0, 1) := by decide +kernel
theorem dX8_questionsAll_69 : decode cX8_questionsAll 69 = .ok (.ireturn, 1) := by decide +kernel
theorem dX8_questionsAll_70 : decode cX8_questionsAll 70 = .ok (.aload_n 0, 1) := by decide +kernel
theorem dX8_questionsAll_71 : decode cX8_questionsAll 71 = .ok (.getfield 60, 3) := by decide +kernel
theorem dX8_questionsAll_74 : decode cX8_questionsAll 74 = .ok (.iconst 1, 1) := by decide +kernel
theorem dX8_questionsAll_75 : decode cX8_questionsAll 75 = .ok (.aload_n 0, 1) := by decide +kernel
theorem dX8_questionsAll_76 : decode cX8_questionsAll 76 = .ok (.getfield 164, 3) := by decide +kernel
theorem dX8_questionsAll_79 : decode cX8_questionsAll 79 = .ok (.iadd, 1) := by decide +kernel
theorem dX8_questionsAll_80 : decode cX8_questionsAll 80 = .ok (.aload_n 0, 1) := by decide +kernel
theorem dX8_questionsAll_81 : decode cX8_questionsAll 81 = .ok (.getfield 158, 3) := by decide +kernel
theorem dX8_questionsAll_84 : decode cX8_questionsAll 84 = .ok (.bipush 48, 2) := by decide +kernel
theorem dX8_questionsAll_86 : decode cX8_questionsAll 86 = .ok (.isub, 1) := by decide +kernel
theorem dX8_questionsAll_87 : decode cX8_questionsAll 87 = .ok (.iastore, 1) := by decide +kernel
theorem dX8_questionsAll_88 : decode cX8_questionsAll 88 = .ok (.aload_n 0, 1) := by decide +kernel
theorem dX8_questionsAll_89 : decode cX8_questionsAll 89 = .ok (.aload_n 0, 1) := by decide +kernel
theorem dX8_questionsAll_90 : decode cX8_questionsAll 90 = .ok (.invokevirtual 155, 3) := by decide +kernel
theorem dX8_questionsAll_93 : decode cX8_questionsAll 93 = .ok (.putfield 158, 3) := by decide +kernel
theorem dX8_questionsAll_96 : decode cX8_questionsAll 96 = .ok (.aload_n 0, 1) := by decide +kernel
theorem dX8_questionsAll_97 : decode cX8_questionsAll 97 = .ok (.getfield 158, 3) := by decide +kernel
theorem dX8_questionsAll_100 : decode cX8_questionsAll 100 = .ok (.bipush 33, 2) := by decide +kernel
theorem dX8_questionsAll_102 : decode cX8_questionsAll 102 = .ok (.if_icmp .ne 26, 3) := by decide +kernel
theorem dX8_questionsAll_105 : decode cX8_questionsAll 105 = .ok (.aload_n 0, 1) := by decide +kernel
theorem dX8_questionsAll_106 : decode cX8_questionsAll 106 = .ok (.getfield 60, 3) := by decide +kernel
theorem dX8_questionsAll_109 : decode cX8_questionsAll 109 = .ok (.iconst 0, 1) := by decide +kernel
theorem dX8_questionsAll_110 : decode cX8_questionsAll 110 = .ok (.dup2, 1) := by decide +kernel
theorem dX8_questionsAll_111 : decode cX8_questionsAll 111 = .ok (.iaload, 1) := by decide +kernel
theorem dX8_questionsAll_112 : decode cX8_questionsAll 112 = .ok (.iconst 1, 1) := by decide +kernel
theorem dX8_questionsAll_113 : decode cX8_questionsAll 113 = .ok (.aload_n 0, 1) := by decide +kernel
theorem dX8_questionsAll_114 : decode cX8_questionsAll 114 = .ok (.getfield 164, 3) := by decide +kernel
theorem dX8_questionsAll_117 : decode cX8_questionsAll 117 = .ok (.ishl, 1) := by decide +kernel
theorem dX8_questionsAll_118 : decode cX8_questionsAll 118 = .ok (.ior, 1) := by decide +kernel
theorem dX8_questionsAll_119 : decode cX8_questionsAll 119 = .ok (.iastore, 1) := by decide +kernel
theorem dX8_questionsAll_120 : decode cX8_questionsAll 120 = .ok (.aload_n 0, 1) := by decide +kernel
theorem dX8_questionsAll_121 : decode cX8_questionsAll 121 = .ok (.aload_n 0, 1) := by decide +kernel
theorem dX8_questionsAll_122 : decode cX8_questionsAll 122 = .ok (.invokevirtual 155, 3) := by decide +kernel
theorem dX8_questionsAll_125 : decode cX8_questionsAll 125 = .ok (.putfield 158, 3) := by decide +kernel
theorem dX8_questionsAll_128 : decode cX8_questionsAll 128 = .ok (.aload_n 0, 1) := by decide +kernel
theorem dX8_questionsAll_129 : decode cX8_questionsAll 129 = .ok (.dup, 1) := by decide +kernel
theorem dX8_questionsAll_130 : decode cX8_questionsAll 130 = .ok (.getfield 164, 3) := by decide +kernel
theorem dX8_questionsAll_133 : decode cX8_questionsAll 133 = .ok (.iconst 1, 1) := by decide +kernel
theorem dX8_questionsAll_134 : decode cX8_questionsAll 134 = .ok (.iadd, 1) := by decide +kernel
theorem dX8_questionsAll_135 : decode cX8_questionsAll 135 = .ok (.putfield 164, 3) := by decide +kernel
theorem dX8_questionsAll_138 : decode cX8_questionsAll 138 = .ok (.goto (-130), 3) := by decide +kernel
theorem dX8_questionsAll_141 : decode cX8_questionsAll 141 = .ok (.aload_n 0, 1) := by decide +kernel
theorem dX8_questionsAll_142 : decode cX8_questionsAll 142 = .ok (.getfield 164, 3) := by decide +kernel
theorem dX8_questionsAll_145 : decode cX8_questionsAll 145 = .ok (.ifCond .le 7, 3) := by decide +kernel
theorem dX8_questionsAll_148 : decode cX8_questionsAll 148 = .ok (.iconst 1, 1) := by decide +kernel
theorem dX8_questionsAll_149 : decode cX8_questionsAll 149 = .ok (.goto 4, 3) := by decide +kernel
theorem dX8_questionsAll_152 : decode cX8_questionsAll 152 = .ok (.iconst 0, 1) := by decide +kernel
theorem dX8_questionsAll_153 : decode cX8_questionsAll 153 = .ok (.ireturn, 1) := by decide +kernel
theorem dX8_knowsAll_0 : decode cX8_knowsAll 0 = .ok (.aload_n 0, 1) := by decide +kernel
theorem dX8_knowsAll_1 : decode cX8_knowsAll 1 = .ok (.aload_n 0, 1) := by decide +kernel
theorem dX8_knowsAll_2 : decode cX8_knowsAll 2 = .ok (.invokevirtual 155, 3) := by decide +kernel
theorem dX8_knowsAll_5 : decode cX8_knowsAll 5 = .ok (.putfield 158, 3) := by decide +kernel
theorem dX8_knowsAll_8 : decode cX8_knowsAll 8 = .ok (.aload_n 0, 1) := by decide +kernel
theorem dX8_knowsAll_9 : decode cX8_knowsAll 9 = .ok (.getfield 158, 3) := by decide +kernel
theorem dX8_knowsAll_12 : decode cX8_knowsAll 12 = .ok (.invokestatic 161, 3) := by decide +kernel
theorem dX8_knowsAll_15 : decode cX8_knowsAll 15 = .ok (.ifCond .ne 5, 3) := by decide +kernel
theorem dX8_knowsAll_18 : decode cX8_knowsAll 18 = .ok (.iconst 0, 1) := by decide +kernel
theorem dX8_knowsAll_19 : decode cX8_knowsAll 19 = .ok (.ireturn, 1) := by decide +kernel
theorem dX8_knowsAll_20 : decode cX8_knowsAll 20 = .ok (.iconst 0, 1) := by decide +kernel
theorem dX8_knowsAll_21 : decode cX8_knowsAll 21 = .ok (.istore_n 1, 1) := by decide +kernel
theorem dX8_knowsAll_22 : decode cX8_knowsAll 22 = .ok (.iconst 0, 1) := by decide +kernel
theorem dX8_knowsAll_23 : decode cX8_knowsAll 23 = .ok (.istore_n 2, 1) := by decide +kernel
theorem dX8_knowsAll_24 : decode cX8_knowsAll 24 = .ok (.aload_n 0, 1) := by decide +kernel
theorem dX8_knowsAll_25 : decode cX8_knowsAll 25 = .ok (.getfield 158, 3) := by decide +kernel
theorem dX8_knowsAll_28 : decode cX8_knowsAll 28 = .ok (.invokestatic 161, 3) := by decide +kernel
theorem dX8_knowsAll_31 : decode cX8_knowsAll 31 = .ok (.ifCond .eq 39, 3) := by decide +kernel
theorem dX8_knowsAll_34 : decode cX8_knowsAll 34 = .ok (.aload_n 0, 1) := by decide +kernel
theorem dX8_knowsAll_35 : decode cX8_knowsAll 35 = .ok (.getfield 158, 3) := by decide +kernel
theorem dX8_knowsAll_38 : decode cX8_knowsAll 38 = .ok (.iload_n 1, 1) := by decide +kernel
theorem dX8_knowsAll_39 : decode cX8_knowsAll 39 = .ok (.if_icmp .le 31, 3) := by decide +kernel
theorem dX8_knowsAll_42 : decode cX8_knowsAll 42 = .ok (.iload_n 2, 1) := by decide +kernel
theorem dX8_knowsAll_43 : decode cX8_knowsAll 43 = .ok (.iconst 1, 1) := by decide +kernel
theorem dX8_knowsAll_44 : decode cX8_knowsAll 44 = .ok (.aload_n 0, 1) := by decide +kernel
theorem dX8_knowsAll_45 : decode cX8_knowsAll 45 = .ok (.getfield 158, 3) := by decide +kernel
theorem dX8_knowsAll_48 : decode cX8_knowsAll 48 = .ok (.bipush 97, 2) := by decide +kernel
theorem dX8_knowsAll_50 : decode cX8_knowsAll 50 = .ok (.isub, 1) := by decide +kernel
theorem dX8_knowsAll_51 : decode cX8_knowsAll 51 = .ok (.ishl, 1) := by decide +kernel
theorem dX8_knowsAll_52 : decode cX8_knowsAll 52 = .ok (.ior, 1) := by decide +kernel
theorem dX8_knowsAll_53 : decode cX8_knowsAll 53 = .ok (.istore_n 2, 1) := by decide +kernel
theorem dX8_knowsAll_54 : decode cX8_knowsAll 54 = .ok (.aload_n 0, 1) := by decide +kernel
theorem dX8_knowsAll_55 : decode cX8_knowsAll 55 = .ok (.getfield 158, 3) := by decide +kernel
theorem dX8_knowsAll_58 : decode cX8_knowsAll 58 = .ok (.istore_n 1, 1) := by decide +kernel
theorem dX8_knowsAll_59 : decode cX8_knowsAll 59 = .ok (.aload_n 0, 1) := by decide +kernel
theorem dX8_knowsAll_60 : decode cX8_knowsAll 60 = .ok (.aload_n 0, 1) := by decide +kernel
theorem dX8_knowsAll_61 : decode cX8_knowsAll 61 = .ok (.invokevirtual 155, 3) := by decide +kernel
theorem dX8_knowsAll_64 : decode cX8_knowsAll 64 = .ok (.putfield 158, 3) := by decide +kernel
theorem dX8_knowsAll_67 : decode cX8_knowsAll 67 = .ok (.goto (-43), 3) := by decide +kernel
theorem dX8_knowsAll_70 : decode cX8_knowsAll 70 = .ok (.aload_n 0, 1) := by decide +kernel
theorem dX8_knowsAll_71 : decode cX8_knowsAll 71 = .ok (.getfield 60, 3) := by decide +kernel
theorem dX8_knowsAll_74 : decode cX8_knowsAll 74 = .ok (.bipush 9, 2) := by decide +kernel
theorem dX8_knowsAll_76 : decode cX8_knowsAll 76 = .ok (.aload_n 0, 1) := by decide +kernel
theorem dX8_knowsAll_77 : decode cX8_knowsAll 77 = .ok (.getfield 169, 3) := by decide +kernel
theorem dX8_knowsAll_80 : decode cX8_knowsAll 80 = .ok (.iadd, 1) := by decide +kernel
theorem dX8_knowsAll_81 : decode cX8_knowsAll 81 = .ok (.iload_n 2, 1) := by decide +kernel
theorem dX8_knowsAll_82 : decode cX8_knowsAll 82 = .ok (.iastore, 1) := by decide +kernel
theorem dX8_knowsAll_83 : decode cX8_knowsAll 83 = .ok (.iconst 1, 1) := by decide +kernel
theorem dX8_knowsAll_84 : decode cX8_knowsAll 84 = .ok (.ireturn, 1) := by decide +kernel
theorem dX8_comesAt_0 : decode cX8_comesAt 0 = .ok (.aload_n 0, 1) := by decide +kernel
theorem dX8_comesAt_1 : decode cX8_comesAt 1 = .ok (.aload_n 0, 1) := by decide +kernel
theorem dX8_comesAt_2 : decode cX8_comesAt 2 = .ok (.invokevirtual 155, 3) := by decide +kernel
theorem dX8_comesAt_5 : decode cX8_comesAt 5 = .ok (.putfield 158, 3) := by decide +kernel
theorem dX8_comesAt_8 : decode cX8_comesAt 8 = .ok (.aload_n 0, 1) := by decide +kernel
theorem dX8_comesAt_9 : decode cX8_comesAt 9 = .ok (.getfield 158, 3) := by decide +kernel
theorem dX8_comesAt_12 : decode cX8_comesAt 12 = .ok (.invokestatic 172, 3) := by decide +kernel
theorem dX8_comesAt_15 : decode cX8_comesAt 15 = .ok (.ifCond .ne 5, 3) := by decide +kernel
theorem dX8_comesAt_18 : decode cX8_comesAt 18 = .ok (.iconst 0, 1) := by decide +kernel
theorem dX8_comesAt_19 : decode cX8_comesAt 19 = .ok (.ireturn, 1) := by decide +kernel
theorem dX8_comesAt_20 : decode cX8_comesAt 20 = .ok (.aload_n 0, 1) := by decide +kernel
theorem dX8_comesAt_21 : decode cX8_comesAt 21 = .ok (.getfield 158, 3) := by decide +kernel
theorem dX8_comesAt_24 : decode cX8_comesAt 24 = .ok (.bipush 48, 2) := by decide +kernel
theorem dX8_comesAt_26 : decode cX8_comesAt 26 = .ok (.isub, 1) := by decide +kernel
theorem dX8_comesAt_27 : decode cX8_comesAt 27 = .ok (.istore_n 1, 1) := by decide +kernel
theorem dX8_comesAt_28 : decode cX8_comesAt 28 = .ok (.aload_n 0, 1) := by decide +kernel
theorem dX8_comesAt_29 : decode cX8_comesAt 29 = .ok (.getfield 141, 3) := by decide +kernel
theorem dX8_comesAt_32 : decode cX8_comesAt 32 = .ok (.aload_n 0, 1) := by decide +kernel
theorem dX8_comesAt_33 : decode cX8_comesAt 33 = .ok (.getfield 138, 3) := by decide +kernel
theorem dX8_comesAt_36 : decode cX8_comesAt 36 = .ok (.if_icmp .ge 46, 3) := by decide +kernel
theorem dX8_comesAt_39 : decode cX8_comesAt 39 = .ok (.aload_n 0, 1) := by decide +kernel
theorem dX8_comesAt_40 : decode cX8_comesAt 40 = .ok (.getfield 44, 3) := by decide +kernel
theorem dX8_comesAt_43 : decode cX8_comesAt 43 = .ok (.aload_n 0, 1) := by decide +kernel
theorem dX8_comesAt_44 : decode cX8_comesAt 44 = .ok (.getfield 141, 3) := by decide +kernel
theorem dX8_comesAt_47 : decode cX8_comesAt 47 = .ok (.iaload, 1) := by decide +kernel
theorem dX8_comesAt_48 : decode cX8_comesAt 48 = .ok (.invokestatic 172, 3) := by decide +kernel
theorem dX8_comesAt_51 : decode cX8_comesAt 51 = .ok (.ifCond .eq 31, 3) := by decide +kernel
theorem dX8_comesAt_54 : decode cX8_comesAt 54 = .ok (.bipush 10, 2) := by decide +kernel
theorem dX8_comesAt_56 : decode cX8_comesAt 56 = .ok (.iload_n 1, 1) := by decide +kernel
theorem dX8_comesAt_57 : decode cX8_comesAt 57 = .ok (.imul, 1) := by decide +kernel
theorem dX8_comesAt_58 : decode cX8_comesAt 58 = .ok (.aload_n 0, 1) := by decide +kernel
theorem dX8_comesAt_59 : decode cX8_comesAt 59 = .ok (.getfield 44, 3) := by decide +kernel
theorem dX8_comesAt_62 : decode cX8_comesAt 62 = .ok (.aload_n 0, 1) := by decide +kernel
theorem dX8_comesAt_63 : decode cX8_comesAt 63 = .ok (.getfield 141, 3) := by decide +kernel
theorem dX8_comesAt_66 : decode cX8_comesAt 66 = .ok (.iaload, 1) := by decide +kernel
theorem dX8_comesAt_67 : decode cX8_comesAt 67 = .ok (.iadd, 1) := by decide +kernel
theorem dX8_comesAt_68 : decode cX8_comesAt 68 = .ok (.bipush 48, 2) := by decide +kernel
theorem dX8_comesAt_70 : decode cX8_comesAt 70 = .ok (.isub, 1) := by decide +kernel
theorem dX8_comesAt_71 : decode cX8_comesAt 71 = .ok (.istore_n 1, 1) := by decide +kernel
theorem dX8_comesAt_72 : decode cX8_comesAt 72 = .ok (.aload_n 0, 1) := by decide +kernel
theorem dX8_comesAt_73 : decode cX8_comesAt 73 = .ok (.dup, 1) := by decide +kernel
theorem dX8_comesAt_74 : decode cX8_comesAt 74 = .ok (.getfield 141, 3) := by decide +kernel
theorem dX8_comesAt_77 : decode cX8_comesAt 77 = .ok (.iconst 1, 1) := by decide +kernel
theorem dX8_comesAt_78 : decode cX8_comesAt 78 = .ok (.iadd, 1) := by decide +kernel
theorem dX8_comesAt_79 : decode cX8_comesAt 79 = .ok (.putfield 141, 3) := by decide +kernel
theorem dX8_comesAt_82 : decode cX8_comesAt 82 = .ok (.aload_n 0, 1) := by decide +kernel
theorem dX8_comesAt_83 : decode cX8_comesAt 83 = .ok (.getfield 60, 3) := by decide +kernel
theorem dX8_comesAt_86 : decode cX8_comesAt 86 = .ok (.bipush 14, 2) := by decide +kernel
theorem dX8_comesAt_88 : decode cX8_comesAt 88 = .ok (.aload_n 0, 1) := by decide +kernel
theorem dX8_comesAt_89 : decode cX8_comesAt 89 = .ok (.getfield 169, 3) := by decide +kernel
theorem dX8_comesAt_92 : decode cX8_comesAt 92 = .ok (.iadd, 1) := by decide +kernel
theorem dX8_comesAt_93 : decode cX8_comesAt 93 = .ok (.iload_n 1, 1) := by decide +kernel
theorem dX8_comesAt_94 : decode cX8_comesAt 94 = .ok (.iastore, 1) := by decide +kernel
theorem dX8_comesAt_95 : decode cX8_comesAt 95 = .ok (.iload_n 1, 1) := by decide +kernel
theorem dX8_comesAt_96 : decode cX8_comesAt 96 = .ok (.bipush 40, 2) := by decide +kernel
theorem dX8_comesAt_98 : decode cX8_comesAt 98 = .ok (.if_icmp .le 5, 3) := by decide +kernel
theorem dX8_comesAt_101 : decode cX8_comesAt 101 = .ok (.iconst 0, 1) := by decide +kernel
theorem dX8_comesAt_102 : decode cX8_comesAt 102 = .ok (.ireturn, 1) := by decide +kernel
theorem dX8_comesAt_103 : decode cX8_comesAt 103 = .ok (.aload_n 0, 1) := by decide +kernel
theorem dX8_comesAt_104 : decode cX8_comesAt 104 = .ok (.aload_n 0, 1) := by decide +kernel
theorem dX8_comesAt_105 : decode cX8_comesAt 105 = .ok (.invokevirtual 155, 3) := by decide +kernel
theorem dX8_comesAt_108 : decode cX8_comesAt 108 = .ok (.putfield 158, 3) := by decide +kernel
theorem dX8_comesAt_111 : decode cX8_comesAt 111 = .ok (.iconst 1, 1) := by decide +kernel
theorem dX8_comesAt_112 : decode cX8_comesAt 112 = .ok (.ireturn, 1) := by decide +kernel
theorem dX8_crosserOne_0 : decode cX8_crosserOne 0 = .ok (.aload_n 0, 1) := by decide +kernel
theorem dX8_crosserOne_1 : decode cX8_crosserOne 1 = .ok (.invokevirtual 155, 3) := by decide +kernel
theorem dX8_crosserOne_4 : decode cX8_crosserOne 4 = .ok (.invokestatic 175, 3) := by decide +kernel
theorem dX8_crosserOne_7 : decode cX8_crosserOne 7 = .ok (.istore_n 1, 1) := by decide +kernel
theorem dX8_crosserOne_8 : decode cX8_crosserOne 8 = .ok (.iload_n 1, 1) := by decide +kernel
theorem dX8_crosserOne_9 : decode cX8_crosserOne 9 = .ok (.bipush (-4), 2) := by decide +kernel
theorem dX8_crosserOne_11 : decode cX8_crosserOne 11 = .ok (.if_icmp .ne 5, 3) := by decide +kernel
theorem dX8_crosserOne_14 : decode cX8_crosserOne 14 = .ok (.iconst 0, 1) := by decide +kernel
theorem dX8_crosserOne_15 : decode cX8_crosserOne 15 = .ok (.ireturn, 1) := by decide +kernel
theorem dX8_crosserOne_16 : decode cX8_crosserOne 16 = .ok (.aload_n 0, 1) := by decide +kernel
theorem dX8_crosserOne_17 : decode cX8_crosserOne 17 = .ok (.getfield 57, 3) := by decide +kernel
theorem dX8_crosserOne_20 : decode cX8_crosserOne 20 = .ok (.aload_n 0, 1) := by decide +kernel
theorem dX8_crosserOne_21 : decode cX8_crosserOne 21 = .ok (.getfield 169, 3) := by decide +kernel
theorem dX8_crosserOne_24 : decode cX8_crosserOne 24 = .ok (.iload_n 1, 1) := by decide +kernel
theorem dX8_crosserOne_25 : decode cX8_crosserOne 25 = .ok (.iastore, 1) := by decide +kernel
theorem dX8_crosserOne_26 : decode cX8_crosserOne 26 = .ok (.aload_n 0, 1) := by decide +kernel
theorem dX8_crosserOne_27 : decode cX8_crosserOne 27 = .ok (.getfield 60, 3) := by decide +kernel
theorem dX8_crosserOne_30 : decode cX8_crosserOne 30 = .ok (.bipush 9, 2) := by decide +kernel
theorem dX8_crosserOne_32 : decode cX8_crosserOne 32 = .ok (.aload_n 0, 1) := by decide +kernel
theorem dX8_crosserOne_33 : decode cX8_crosserOne 33 = .ok (.getfield 169, 3) := by decide +kernel
theorem dX8_crosserOne_36 : decode cX8_crosserOne 36 = .ok (.iadd, 1) := by decide +kernel
theorem dX8_crosserOne_37 : decode cX8_crosserOne 37 = .ok (.iconst 0, 1) := by decide +kernel
theorem dX8_crosserOne_38 : decode cX8_crosserOne 38 = .ok (.iastore, 1) := by decide +kernel
theorem dX8_crosserOne_39 : decode cX8_crosserOne 39 = .ok (.aload_n 0, 1) := by decide +kernel
theorem dX8_crosserOne_40 : decode cX8_crosserOne 40 = .ok (.getfield 60, 3) := by decide +kernel
theorem dX8_crosserOne_43 : decode cX8_crosserOne 43 = .ok (.bipush 14, 2) := by decide +kernel
theorem dX8_crosserOne_45 : decode cX8_crosserOne 45 = .ok (.aload_n 0, 1) := by decide +kernel
theorem dX8_crosserOne_46 : decode cX8_crosserOne 46 = .ok (.getfield 169, 3) := by decide +kernel
theorem dX8_crosserOne_49 : decode cX8_crosserOne 49 = .ok (.iadd, 1) := by decide +kernel
theorem dX8_crosserOne_50 : decode cX8_crosserOne 50 = .ok (.iconst 0, 1) := by decide +kernel
theorem dX8_crosserOne_51 : decode cX8_crosserOne 51 = .ok (.iastore, 1) := by decide +kernel
theorem dX8_crosserOne_52 : decode cX8_crosserOne 52 = .ok (.aload_n 0, 1) := by decide +kernel
theorem dX8_crosserOne_53 : decode cX8_crosserOne 53 = .ok (.aload_n 0, 1) := by decide +kernel
theorem dX8_crosserOne_54 : decode cX8_crosserOne 54 = .ok (.invokevirtual 155, 3) := by decide +kernel
theorem dX8_crosserOne_57 : decode cX8_crosserOne 57 = .ok (.putfield 158, 3) := by decide +kernel
theorem dX8_crosserOne_60 : decode cX8_crosserOne 60 = .ok (.aload_n 0, 1) := by decide +kernel
theorem dX8_crosserOne_61 : decode cX8_crosserOne 61 = .ok (.getfield 158, 3) := by decide +kernel
theorem dX8_crosserOne_64 : decode cX8_crosserOne 64 = .ok (.bipush 58, 2) := by decide +kernel
theorem dX8_crosserOne_66 : decode cX8_crosserOne 66 = .ok (.if_icmp .ne 12, 3) := by decide +kernel
theorem dX8_crosserOne_69 : decode cX8_crosserOne 69 = .ok (.aload_n 0, 1) := by decide +kernel
theorem dX8_crosserOne_70 : decode cX8_crosserOne 70 = .ok (.invokevirtual 178, 3) := by decide +kernel
theorem dX8_crosserOne_73 : decode cX8_crosserOne 73 = .ok (.ifCond .ne 5, 3) := by decide +kernel
theorem dX8_crosserOne_76 : decode cX8_crosserOne 76 = .ok (.iconst 0, 1) := by decide +kernel
theorem dX8_crosserOne_77 : decode cX8_crosserOne 77 = .ok (.ireturn, 1) := by decide +kernel
theorem dX8_crosserOne_78 : decode cX8_crosserOne 78 = .ok (.aload_n 0, 1) := by decide +kernel
theorem dX8_crosserOne_79 : decode cX8_crosserOne 79 = .ok (.getfield 158, 3) := by decide +kernel
theorem dX8_crosserOne_82 : decode cX8_crosserOne 82 = .ok (.bipush 64, 2) := by decide +kernel
theorem dX8_crosserOne_84 : decode cX8_crosserOne 84 = .ok (.if_icmp .ne 12, 3) := by decide +kernel
theorem dX8_crosserOne_87 : decode cX8_crosserOne 87 = .ok (.aload_n 0, 1) := by decide +kernel
theorem dX8_crosserOne_88 : decode cX8_crosserOne 88 = .ok (.invokevirtual 182, 3) := by decide +kernel
theorem dX8_crosserOne_91 : decode cX8_crosserOne 91 = .ok (.ifCond .ne 5, 3) := by decide +kernel
theorem dX8_crosserOne_94 : decode cX8_crosserOne 94 = .ok (.iconst 0, 1) := by decide +kernel
theorem dX8_crosserOne_95 : decode cX8_crosserOne 95 = .ok (.ireturn, 1) := by decide +kernel
theorem dX8_crosserOne_96 : decode cX8_crosserOne 96 = .ok (.aload_n 0, 1) := by decide +kernel
theorem dX8_crosserOne_97 : decode cX8_crosserOne 97 = .ok (.dup, 1) := by decide +kernel
theorem dX8_crosserOne_98 : decode cX8_crosserOne 98 = .ok (.getfield 169, 3) := by decide +kernel
theorem dX8_crosserOne_101 : decode cX8_crosserOne 101 = .ok (.iconst 1, 1) := by decide +kernel
theorem dX8_crosserOne_102 : decode cX8_crosserOne 102 = .ok (.iadd, 1) := by decide +kernel
theorem dX8_crosserOne_103 : decode cX8_crosserOne 103 = .ok (.putfield 169, 3) := by decide +kernel
theorem dX8_crosserOne_106 : decode cX8_crosserOne 106 = .ok (.iconst 1, 1) := by decide +kernel
theorem dX8_crosserOne_107 : decode cX8_crosserOne 107 = .ok (.ireturn, 1) := by decide +kernel
theorem dX8_isFord_0 : decode cX8_isFord 0 = .ok (.aload_n 0, 1) := by decide +kernel
theorem dX8_isFord_1 : decode cX8_isFord 1 = .ok (.iconst 0, 1) := by decide +kernel
theorem dX8_isFord_2 : decode cX8_isFord 2 = .ok (.putfield 164, 3) := by decide +kernel
theorem dX8_isFord_5 : decode cX8_isFord 5 = .ok (.aload_n 0, 1) := by decide +kernel
theorem dX8_isFord_6 : decode cX8_isFord 6 = .ok (.iconst 0, 1) := by decide +kernel
theorem dX8_isFord_7 : decode cX8_isFord 7 = .ok (.putfield 169, 3) := by decide +kernel
theorem dX8_isFord_10 : decode cX8_isFord 10 = .ok (.iconst 0, 1) := by decide +kernel
theorem dX8_isFord_11 : decode cX8_isFord 11 = .ok (.istore_n 1, 1) := by decide +kernel
theorem dX8_isFord_12 : decode cX8_isFord 12 = .ok (.iload_n 1, 1) := by decide +kernel
theorem dX8_isFord_13 : decode cX8_isFord 13 = .ok (.bipush 31, 2) := by decide +kernel
theorem dX8_isFord_15 : decode cX8_isFord 15 = .ok (.if_icmp .ge 16, 3) := by decide +kernel
theorem dX8_isFord_18 : decode cX8_isFord 18 = .ok (.aload_n 0, 1) := by decide +kernel
theorem dX8_isFord_19 : decode cX8_isFord 19 = .ok (.getfield 60, 3) := by decide +kernel
theorem dX8_isFord_22 : decode cX8_isFord 22 = .ok (.iload_n 1, 1) := by decide +kernel
theorem dX8_isFord_23 : decode cX8_isFord 23 = .ok (.iconst 0, 1) := by decide +kernel
theorem dX8_isFord_24 : decode cX8_isFord 24 = .ok (.iastore, 1) := by decide +kernel
theorem dX8_isFord_25 : decode cX8_isFord 25 = .ok (.iinc 1 1, 3) := by decide +kernel
theorem dX8_isFord_28 : decode cX8_isFord 28 = .ok (.goto (-16), 3) := by decide +kernel
theorem dX8_isFord_31 : decode cX8_isFord 31 = .ok (.aload_n 0, 1) := by decide +kernel
theorem dX8_isFord_32 : decode cX8_isFord 32 = .ok (.iconst 0, 1) := by decide +kernel
theorem dX8_isFord_33 : decode cX8_isFord 33 = .ok (.putfield 141, 3) := by decide +kernel
theorem dX8_isFord_36 : decode cX8_isFord 36 = .ok (.aload_n 0, 1) := by decide +kernel
theorem dX8_isFord_37 : decode cX8_isFord 37 = .ok (.invokevirtual 185, 3) := by decide +kernel
theorem dX8_isFord_40 : decode cX8_isFord 40 = .ok (.ifCond .ne 5, 3) := by decide +kernel
theorem dX8_isFord_43 : decode cX8_isFord 43 = .ok (.iconst 0, 1) := by decide +kernel
theorem dX8_isFord_44 : decode cX8_isFord 44 = .ok (.ireturn, 1) := by decide +kernel
theorem dX8_isFord_45 : decode cX8_isFord 45 = .ok (.aload_n 0, 1) := by decide +kernel
theorem dX8_isFord_46 : decode cX8_isFord 46 = .ok (.getfield 158, 3) := by decide +kernel
theorem dX8_isFord_49 : decode cX8_isFord 49 = .ok (.bipush 59, 2) := by decide +kernel
theorem dX8_isFord_51 : decode cX8_isFord 51 = .ok (.if_icmp .ne 7, 3) := by decide +kernel
theorem dX8_isFord_54 : decode cX8_isFord 54 = .ok (.iconst 1, 1) := by decide +kernel
theorem dX8_isFord_55 : decode cX8_isFord 55 = .ok (.goto 4, 3) := by decide +kernel
theorem dX8_isFord_58 : decode cX8_isFord 58 = .ok (.iconst 0, 1) := by decide +kernel
theorem dX8_isFord_59 : decode cX8_isFord 59 = .ok (.istore_n 1, 1) := by decide +kernel
theorem dX8_isFord_60 : decode cX8_isFord 60 = .ok (.iload_n 1, 1) := by decide +kernel
theorem dX8_isFord_61 : decode cX8_isFord 61 = .ok (.ifCond .eq 38, 3) := by decide +kernel
theorem dX8_isFord_64 : decode cX8_isFord 64 = .ok (.aload_n 0, 1) := by decide +kernel
theorem dX8_isFord_65 : decode cX8_isFord 65 = .ok (.invokevirtual 188, 3) := by decide +kernel
theorem dX8_isFord_68 : decode cX8_isFord 68 = .ok (.ifCond .ne 5, 3) := by decide +kernel
theorem dX8_isFord_71 : decode cX8_isFord 71 = .ok (.iconst 0, 1) := by decide +kernel
theorem dX8_isFord_72 : decode cX8_isFord 72 = .ok (.ireturn, 1) := by decide +kernel
theorem dX8_isFord_73 : decode cX8_isFord 73 = .ok (.aload_n 0, 1) := by decide +kernel
theorem dX8_isFord_74 : decode cX8_isFord 74 = .ok (.getfield 158, 3) := by decide +kernel
theorem dX8_isFord_77 : decode cX8_isFord 77 = .ok (.bipush 44, 2) := by decide +kernel
theorem dX8_isFord_79 : decode cX8_isFord 79 = .ok (.if_icmp .ne 15, 3) := by decide +kernel
theorem dX8_isFord_82 : decode cX8_isFord 82 = .ok (.aload_n 0, 1) := by decide +kernel
theorem dX8_isFord_83 : decode cX8_isFord 83 = .ok (.getfield 169, 3) := by decide +kernel
theorem dX8_isFord_86 : decode cX8_isFord 86 = .ok (.iconst 5, 1) := by decide +kernel
theorem dX8_isFord_87 : decode cX8_isFord 87 = .ok (.if_icmp .ge 7, 3) := by decide +kernel
theorem dX8_isFord_90 : decode cX8_isFord 90 = .ok (.iconst 1, 1) := by decide +kernel
theorem dX8_isFord_91 : decode cX8_isFord 91 = .ok (.goto 4, 3) := by decide +kernel
theorem dX8_isFord_94 : decode cX8_isFord 94 = .ok (.iconst 0, 1) := by decide +kernel
theorem dX8_isFord_95 : decode cX8_isFord 95 = .ok (.istore_n 1, 1) := by decide +kernel
theorem dX8_isFord_96 : decode cX8_isFord 96 = .ok (.goto (-36), 3) := by decide +kernel
theorem dX8_isFord_99 : decode cX8_isFord 99 = .ok (.aload_n 0, 1) := by decide +kernel
theorem dX8_isFord_100 : decode cX8_isFord 100 = .ok (.getfield 158, 3) := by decide +kernel
theorem dX8_isFord_103 : decode cX8_isFord 103 = .ok (.ifCond .ne 7, 3) := by decide +kernel
theorem dX8_isFord_106 : decode cX8_isFord 106 = .ok (.iconst 1, 1) := by decide +kernel
theorem dX8_isFord_107 : decode cX8_isFord 107 = .ok (.goto 4, 3) := by decide +kernel
theorem dX8_isFord_110 : decode cX8_isFord 110 = .ok (.iconst 0, 1) := by decide +kernel
theorem dX8_isFord_111 : decode cX8_isFord 111 = .ok (.ireturn, 1) := by decide +kernel
theorem dX8_ford_0 : decode cX8_ford 0 = .ok (.aload_n 0, 1) := by decide +kernel
theorem dX8_ford_1 : decode cX8_ford 1 = .ok (.invokevirtual 191, 3) := by decide +kernel
theorem dX8_ford_4 : decode cX8_ford 4 = .ok (.istore_n 1, 1) := by decide +kernel
theorem dX8_ford_5 : decode cX8_ford 5 = .ok (.aload_n 0, 1) := by decide +kernel
theorem dX8_ford_6 : decode cX8_ford 6 = .ok (.getfield 144, 3) := by decide +kernel
theorem dX8_ford_9 : decode cX8_ford 9 = .ok (.aload_n 0, 1) := by decide +kernel
theorem dX8_ford_10 : decode cX8_ford 10 = .ok (.getfield 138, 3) := by decide +kernel
theorem dX8_ford_13 : decode cX8_ford 13 = .ok (.if_icmp .ge 10, 3) := by decide +kernel
theorem dX8_ford_16 : decode cX8_ford 16 = .ok (.aload_n 0, 1) := by decide +kernel
theorem dX8_ford_17 : decode cX8_ford 17 = .ok (.getfield 144, 3) := by decide +kernel
theorem dX8_ford_20 : decode cX8_ford 20 = .ok (.goto 7, 3) := by decide +kernel
theorem dX8_ford_23 : decode cX8_ford 23 = .ok (.aload_n 0, 1) := by decide +kernel
theorem dX8_ford_24 : decode cX8_ford 24 = .ok (.getfield 138, 3) := by decide +kernel
theorem dX8_ford_27 : decode cX8_ford 27 = .ok (.istore_n 2, 1) := by decide +kernel
theorem dX8_ford_28 : decode cX8_ford 28 = .ok (.aload_n 0, 1) := by decide +kernel
theorem dX8_ford_29 : decode cX8_ford 29 = .ok (.iconst 0, 1) := by decide +kernel
theorem dX8_ford_30 : decode cX8_ford 30 = .ok (.putfield 138, 3) := by decide +kernel
theorem dX8_ford_33 : decode cX8_ford 33 = .ok (.iload_n 1, 1) := by decide +kernel
theorem dX8_ford_34 : decode cX8_ford 34 = .ok (.ifCond .ne 8, 3) := by decide +kernel
theorem dX8_ford_37 : decode cX8_ford 37 = .ok (.bipush (-20), 2) := by decide +kernel
theorem dX8_ford_39 : decode cX8_ford 39 = .ok (.iload_n 2, 1) := by decide +kernel
theorem dX8_ford_40 : decode cX8_ford 40 = .ok (.isub, 1) := by decide +kernel
theorem dX8_ford_41 : decode cX8_ford 41 = .ok (.ireturn, 1) := by decide +kernel
theorem dX8_ford_42 : decode cX8_ford 42 = .ok (.aload_n 0, 1) := by decide +kernel
theorem dX8_ford_43 : decode cX8_ford 43 = .ok (.aload_n 0, 1) := by decide +kernel
theorem dX8_ford_44 : decode cX8_ford 44 = .ok (.getfield 164, 3) := by decide +kernel
theorem dX8_ford_47 : decode cX8_ford 47 = .ok (.putfield 66, 3) := by decide +kernel
theorem dX8_ford_50 : decode cX8_ford 50 = .ok (.aload_n 0, 1) := by decide +kernel
theorem dX8_ford_51 : decode cX8_ford 51 = .ok (.aload_n 0, 1) := by decide +kernel
theorem dX8_ford_52 : decode cX8_ford 52 = .ok (.getfield 169, 3) := by decide +kernel
theorem dX8_ford_55 : decode cX8_ford 55 = .ok (.putfield 73, 3) := by decide +kernel
theorem dX8_ford_58 : decode cX8_ford 58 = .ok (.iconst 0, 1) := by decide +kernel
theorem dX8_ford_59 : decode cX8_ford 59 = .ok (.istore_n 3, 1) := by decide +kernel
theorem dX8_ford_60 : decode cX8_ford 60 = .ok (.iload_n 3, 1) := by decide +kernel
theorem dX8_ford_61 : decode cX8_ford 61 = .ok (.bipush 8, 2) := by decide +kernel
theorem dX8_ford_63 : decode cX8_ford 63 = .ok (.if_icmp .ge 21, 3) := by decide +kernel
theorem dX8_ford_66 : decode cX8_ford 66 = .ok (.aload_n 0, 1) := by decide +kernel
theorem dX8_ford_67 : decode cX8_ford 67 = .ok (.getfield 7, 3) := by decide +kernel
theorem dX8_ford_70 : decode cX8_ford 70 = .ok (.iload_n 3, 1) := by decide +kernel
theorem dX8_ford_71 : decode cX8_ford 71 = .ok (.aload_n 0, 1) := by decide +kernel
theorem dX8_ford_72 : decode cX8_ford 72 = .ok (.getfield 54, 3) := by decide +kernel
theorem dX8_ford_75 : decode cX8_ford 75 = .ok (.iload_n 3, 1) := by decide +kernel
theorem dX8_ford_76 : decode cX8_ford 76 = .ok (.iaload, 1) := by decide +kernel
theorem dX8_ford_77 : decode cX8_ford 77 = .ok (.iastore, 1) := by decide +kernel
theorem dX8_ford_78 : decode cX8_ford 78 = .ok (.iinc 3 1, 3) := by decide +kernel
theorem dX8_ford_81 : decode cX8_ford 81 = .ok (.goto (-21), 3) := by decide +kernel
theorem dX8_ford_84 : decode cX8_ford 84 = .ok (.iconst 0, 1) := by decide +kernel
theorem dX8_ford_85 : decode cX8_ford 85 = .ok (.istore_n 3, 1) := by decide +kernel
theorem dX8_ford_86 : decode cX8_ford 86 = .ok (.iload_n 3, 1) := by decide +kernel
theorem dX8_ford_87 : decode cX8_ford 87 = .ok (.iconst 5, 1) := by decide +kernel
theorem dX8_ford_88 : decode cX8_ford 88 = .ok (.if_icmp .ge 21, 3) := by decide +kernel
theorem dX8_ford_91 : decode cX8_ford 91 = .ok (.aload_n 0, 1) := by decide +kernel
theorem dX8_ford_92 : decode cX8_ford 92 = .ok (.getfield 13, 3) := by decide +kernel
theorem dX8_ford_95 : decode cX8_ford 95 = .ok (.iload_n 3, 1) := by decide +kernel
theorem dX8_ford_96 : decode cX8_ford 96 = .ok (.aload_n 0, 1) := by decide +kernel
theorem dX8_ford_97 : decode cX8_ford 97 = .ok (.getfield 57, 3) := by decide +kernel
theorem dX8_ford_100 : decode cX8_ford 100 = .ok (.iload_n 3, 1) := by decide +kernel
theorem dX8_ford_101 : decode cX8_ford 101 = .ok (.iaload, 1) := by decide +kernel
theorem dX8_ford_102 : decode cX8_ford 102 = .ok (.iastore, 1) := by decide +kernel
theorem dX8_ford_103 : decode cX8_ford 103 = .ok (.iinc 3 1, 3) := by decide +kernel
theorem dX8_ford_106 : decode cX8_ford 106 = .ok (.goto (-20), 3) := by decide +kernel
theorem dX8_ford_109 : decode cX8_ford 109 = .ok (.iconst 0, 1) := by decide +kernel
theorem dX8_ford_110 : decode cX8_ford 110 = .ok (.istore_n 3, 1) := by decide +kernel
theorem dX8_ford_111 : decode cX8_ford 111 = .ok (.iload_n 3, 1) := by decide +kernel
theorem dX8_ford_112 : decode cX8_ford 112 = .ok (.bipush 30, 2) := by decide +kernel
theorem dX8_ford_114 : decode cX8_ford 114 = .ok (.if_icmp .ge 21, 3) := by decide +kernel
theorem dX8_ford_117 : decode cX8_ford 117 = .ok (.aload_n 0, 1) := by decide +kernel
theorem dX8_ford_118 : decode cX8_ford 118 = .ok (.getfield 16, 3) := by decide +kernel
theorem dX8_ford_121 : decode cX8_ford 121 = .ok (.iload_n 3, 1) := by decide +kernel
theorem dX8_ford_122 : decode cX8_ford 122 = .ok (.aload_n 0, 1) := by decide +kernel
theorem dX8_ford_123 : decode cX8_ford 123 = .ok (.getfield 60, 3) := by decide +kernel
theorem dX8_ford_126 : decode cX8_ford 126 = .ok (.iload_n 3, 1) := by decide +kernel
theorem dX8_ford_127 : decode cX8_ford 127 = .ok (.iaload, 1) := by decide +kernel
theorem dX8_ford_128 : decode cX8_ford 128 = .ok (.iastore, 1) := by decide +kernel
theorem dX8_ford_129 : decode cX8_ford 129 = .ok (.iinc 3 1, 3) := by decide +kernel
theorem dX8_ford_132 : decode cX8_ford 132 = .ok (.goto (-21), 3) := by decide +kernel
theorem dX8_ford_135 : decode cX8_ford 135 = .ok (.aload_n 0, 1) := by decide +kernel
theorem dX8_ford_136 : decode cX8_ford 136 = .ok (.iconst 0, 1) := by decide +kernel
theorem dX8_ford_137 : decode cX8_ford 137 = .ok (.putfield 113, 3) := by decide +kernel
theorem dX8_ford_140 : decode cX8_ford 140 = .ok (.aload_n 0, 1) := by decide +kernel
theorem dX8_ford_141 : decode cX8_ford 141 = .ok (.getfield 66, 3) := by decide +kernel
theorem dX8_ford_144 : decode cX8_ford 144 = .ok (.ireturn, 1) := by decide +kernel
theorem dX8_count_0 : decode cX8_count 0 = .ok (.aload_n 0, 1) := by decide +kernel
theorem dX8_count_1 : decode cX8_count 1 = .ok (.invokevirtual 131, 3) := by decide +kernel
theorem dX8_count_4 : decode cX8_count 4 = .ok (.iload_n 1, 1) := by decide +kernel
theorem dX8_count_5 : decode cX8_count 5 = .ok (.tableswitch 85 0 7 #[47, 52, 57, 65, 72, 72, 72, 80], 47) := by decide +kernel
theorem dX8_count_52 : decode cX8_count 52 = .ok (.aload_n 0, 1) := by decide +kernel
theorem dX8_count_53 : decode cX8_count 53 = .ok (.getfield 66, 3) := by decide +kernel
theorem dX8_count_56 : decode cX8_count 56 = .ok (.ireturn, 1) := by decide +kernel
theorem dX8_count_57 : decode cX8_count 57 = .ok (.aload_n 0, 1) := by decide +kernel
theorem dX8_count_58 : decode cX8_count 58 = .ok (.getfield 73, 3) := by decide +kernel
theorem dX8_count_61 : decode cX8_count 61 = .ok (.ireturn, 1) := by decide +kernel
theorem dX8_count_62 : decode cX8_count 62 = .ok (.aload_n 0, 1) := by decide +kernel
theorem dX8_count_63 : decode cX8_count 63 = .ok (.getfield 16, 3) := by decide +kernel
theorem dX8_count_66 : decode cX8_count 66 = .ok (.bipush 29, 2) := by decide +kernel
theorem dX8_count_68 : decode cX8_count 68 = .ok (.iaload, 1) := by decide +kernel
theorem dX8_count_69 : decode cX8_count 69 = .ok (.ireturn, 1) := by decide +kernel
theorem dX8_count_70 : decode cX8_count 70 = .ok (.aload_n 0, 1) := by decide +kernel
theorem dX8_count_71 : decode cX8_count 71 = .ok (.getfield 16, 3) := by decide +kernel
theorem dX8_count_74 : decode cX8_count 74 = .ok (.iconst 0, 1) := by decide +kernel
theorem dX8_count_75 : decode cX8_count 75 = .ok (.iaload, 1) := by decide +kernel
theorem dX8_count_76 : decode cX8_count 76 = .ok (.ireturn, 1) := by decide +kernel
theorem dX8_count_77 : decode cX8_count 77 = .ok (.aload_n 0, 1) := by decide +kernel
theorem dX8_count_78 : decode cX8_count 78 = .ok (.iload_n 1, 1) := by decide +kernel
theorem dX8_count_79 : decode cX8_count 79 = .ok (.iconst 4, 1) := by decide +kernel
theorem dX8_count_80 : decode cX8_count 80 = .ok (.isub, 1) := by decide +kernel
theorem dX8_count_81 : decode cX8_count 81 = .ok (.invokevirtual 106, 3) := by decide +kernel
theorem dX8_count_84 : decode cX8_count 84 = .ok (.ireturn, 1) := by decide +kernel
theorem dX8_count_85 : decode cX8_count 85 = .ok (.aload_n 0, 1) := by decide +kernel
theorem dX8_count_86 : decode cX8_count 86 = .ok (.getfield 113, 3) := by decide +kernel
theorem dX8_count_89 : decode cX8_count 89 = .ok (.ireturn, 1) := by decide +kernel
theorem dX8_count_90 : decode cX8_count 90 = .ok (.iconst (-1), 1) := by decide +kernel
theorem dX8_count_91 : decode cX8_count 91 = .ok (.ireturn, 1) := by decide +kernel
theorem dX8_note_0 : decode cX8_note 0 = .ok (.aload_n 0, 1) := by decide +kernel
theorem dX8_note_1 : decode cX8_note 1 = .ok (.getfield 113, 3) := by decide +kernel
theorem dX8_note_4 : decode cX8_note 4 = .ok (.bipush 8, 2) := by decide +kernel
theorem dX8_note_6 : decode cX8_note 6 = .ok (.if_icmp .ne 43, 3) := by decide +kernel
theorem dX8_note_9 : decode cX8_note 9 = .ok (.iconst 0, 1) := by decide +kernel
theorem dX8_note_10 : decode cX8_note 10 = .ok (.istore_n 1, 1) := by decide +kernel
theorem dX8_note_11 : decode cX8_note 11 = .ok (.iload_n 1, 1) := by decide +kernel
theorem dX8_note_12 : decode cX8_note 12 = .ok (.sipush 217, 3) := by decide +kernel
theorem dX8_note_15 : decode cX8_note 15 = .ok (.if_icmp .ge 24, 3) := by decide +kernel
theorem dX8_note_18 : decode cX8_note 18 = .ok (.aload_n 0, 1) := by decide +kernel
theorem dX8_note_19 : decode cX8_note 19 = .ok (.getfield 22, 3) := by decide +kernel
theorem dX8_note_22 : decode cX8_note 22 = .ok (.iload_n 1, 1) := by decide +kernel
theorem dX8_note_23 : decode cX8_note 23 = .ok (.aload_n 0, 1) := by decide +kernel
theorem dX8_note_24 : decode cX8_note 24 = .ok (.getfield 22, 3) := by decide +kernel
theorem dX8_note_27 : decode cX8_note 27 = .ok (.bipush 31, 2) := by decide +kernel
theorem dX8_note_29 : decode cX8_note 29 = .ok (.iload_n 1, 1) := by decide +kernel
theorem dX8_note_30 : decode cX8_note 30 = .ok (.iadd, 1) := by decide +kernel
theorem dX8_note_31 : decode cX8_note 31 = .ok (.iaload, 1) := by decide +kernel
theorem dX8_note_32 : decode cX8_note 32 = .ok (.iastore, 1) := by decide +kernel
theorem dX8_note_33 : decode cX8_note 33 = .ok (.iinc 1 1, 3) := by decide +kernel
theorem dX8_note_36 : decode cX8_note 36 = .ok (.goto (-25), 3) := by decide +kernel
theorem dX8_note_39 : decode cX8_note 39 = .ok (.aload_n 0, 1) := by decide +kernel
theorem dX8_note_40 : decode cX8_note 40 = .ok (.dup, 1) := by decide +kernel
theorem dX8_note_41 : decode cX8_note 41 = .ok (.getfield 113, 3) := by decide +kernel
theorem dX8_note_44 : decode cX8_note 44 = .ok (.iconst 1, 1) := by decide +kernel
theorem dX8_note_45 : decode cX8_note 45 = .ok (.isub, 1) := by decide +kernel
theorem dX8_note_46 : decode cX8_note 46 = .ok (.putfield 113, 3) := by decide +kernel
theorem dX8_note_49 : decode cX8_note 49 = .ok (.iconst 0, 1) := by decide +kernel
theorem dX8_note_50 : decode cX8_note 50 = .ok (.istore_n 1, 1) := by decide +kernel
theorem dX8_note_51 : decode cX8_note 51 = .ok (.iload_n 1, 1) := by decide +kernel
theorem dX8_note_52 : decode cX8_note 52 = .ok (.bipush 31, 2) := by decide +kernel
theorem dX8_note_54 : decode cX8_note 54 = .ok (.if_icmp .ge 29, 3) := by decide +kernel
theorem dX8_note_57 : decode cX8_note 57 = .ok (.aload_n 0, 1) := by decide +kernel
theorem dX8_note_58 : decode cX8_note 58 = .ok (.getfield 22, 3) := by decide +kernel
theorem dX8_note_61 : decode cX8_note 61 = .ok (.bipush 31, 2) := by decide +kernel
theorem dX8_note_63 : decode cX8_note 63 = .ok (.aload_n 0, 1) := by decide +kernel
theorem dX8_note_64 : decode cX8_note 64 = .ok (.getfield 113, 3) := by decide +kernel
theorem dX8_note_67 : decode cX8_note 67 = .ok (.imul, 1) := by decide +kernel
theorem dX8_note_68 : decode cX8_note 68 = .ok (.iload_n 1, 1) := by decide +kernel
theorem dX8_note_69 : decode cX8_note 69 = .ok (.iadd, 1) := by decide +kernel
theorem dX8_note_70 : decode cX8_note 70 = .ok (.aload_n 0, 1) := by decide +kernel
theorem dX8_note_71 : decode cX8_note 71 = .ok (.getfield 16, 3) := by decide +kernel
theorem dX8_note_74 : decode cX8_note 74 = .ok (.iload_n 1, 1) := by decide +kernel
theorem dX8_note_75 : decode cX8_note 75 = .ok (.iaload, 1) := by decide +kernel
theorem dX8_note_76 : decode cX8_note 76 = .ok (.iastore, 1) := by decide +kernel
theorem dX8_note_77 : decode cX8_note 77 = .ok (.iinc 1 1, 3) := by decide +kernel
theorem dX8_note_80 : decode cX8_note 80 = .ok (.goto (-29), 3) := by decide +kernel
theorem dX8_note_83 : decode cX8_note 83 = .ok (.aload_n 0, 1) := by decide +kernel
theorem dX8_note_84 : decode cX8_note 84 = .ok (.dup, 1) := by decide +kernel
theorem dX8_note_85 : decode cX8_note 85 = .ok (.getfield 113, 3) := by decide +kernel
theorem dX8_note_88 : decode cX8_note 88 = .ok (.iconst 1, 1) := by decide +kernel
theorem dX8_note_89 : decode cX8_note 89 = .ok (.iadd, 1) := by decide +kernel
theorem dX8_note_90 : decode cX8_note 90 = .ok (.putfield 113, 3) := by decide +kernel
theorem dX8_note_93 : decode cX8_note 93 = .ok (.return_, 1) := by decide +kernel
theorem dX8_hours_0 : decode cX8_hours 0 = .ok (.iload_n 1, 1) := by decide +kernel
theorem dX8_hours_1 : decode cX8_hours 1 = .ok (.i2l, 1) := by decide +kernel
theorem dX8_hours_2 : decode cX8_hours 2 = .ok (.lconst 1, 1) := by decide +kernel
theorem dX8_hours_3 : decode cX8_hours 3 = .ok (.ldc2_w 120, 3) := by decide +kernel
theorem dX8_hours_6 : decode cX8_hours 6 = .ok (.invokestatic 69, 3) := by decide +kernel
theorem dX8_hours_9 : decode cX8_hours 9 = .ok (.ifCond .ne 5, 3) := by decide +kernel
theorem dX8_hours_12 : decode cX8_hours 12 = .ok (.iconst (-1), 1) := by decide +kernel
theorem dX8_hours_13 : decode cX8_hours 13 = .ok (.ireturn, 1) := by decide +kernel
theorem dX8_hours_14 : decode cX8_hours 14 = .ok (.aload_n 0, 1) := by decide +kernel
theorem dX8_hours_15 : decode cX8_hours 15 = .ok (.getfield 16, 3) := by decide +kernel
theorem dX8_hours_18 : decode cX8_hours 18 = .ok (.bipush 29, 2) := by decide +kernel
theorem dX8_hours_20 : decode cX8_hours 20 = .ok (.iaload, 1) := by decide +kernel
theorem dX8_hours_21 : decode cX8_hours 21 = .ok (.iload_n 1, 1) := by decide +kernel
theorem dX8_hours_22 : decode cX8_hours 22 = .ok (.iadd, 1) := by decide +kernel
theorem dX8_hours_23 : decode cX8_hours 23 = .ok (.sipush 9999, 3) := by decide +kernel
theorem dX8_hours_26 : decode cX8_hours 26 = .ok (.if_icmp .le 6, 3) := by decide +kernel
theorem dX8_hours_29 : decode cX8_hours 29 = .ok (.bipush (-3), 2) := by decide +kernel
theorem dX8_hours_31 : decode cX8_hours 31 = .ok (.ireturn, 1) := by decide +kernel
theorem dX8_hours_32 : decode cX8_hours 32 = .ok (.iconst 0, 1) := by decide +kernel
theorem dX8_hours_33 : decode cX8_hours 33 = .ok (.istore_n 2, 1) := by decide +kernel
theorem dX8_hours_34 : decode cX8_hours 34 = .ok (.iload_n 2, 1) := by decide +kernel
theorem dX8_hours_35 : decode cX8_hours 35 = .ok (.iload_n 1, 1) := by decide +kernel
theorem dX8_hours_36 : decode cX8_hours 36 = .ok (.if_icmp .ge 25, 3) := by decide +kernel
theorem dX8_hours_39 : decode cX8_hours 39 = .ok (.aload_n 0, 1) := by decide +kernel
theorem dX8_hours_40 : decode cX8_hours 40 = .ok (.invokevirtual 194, 3) := by decide +kernel
theorem dX8_hours_43 : decode cX8_hours 43 = .ok (.aload_n 0, 1) := by decide +kernel
theorem dX8_hours_44 : decode cX8_hours 44 = .ok (.invokevirtual 131, 3) := by decide +kernel
theorem dX8_hours_47 : decode cX8_hours 47 = .ok (.aload_n 0, 1) := by decide +kernel
theorem dX8_hours_48 : decode cX8_hours 48 = .ok (.invokevirtual 103, 3) := by decide +kernel
theorem dX8_hours_51 : decode cX8_hours 51 = .ok (.aload_n 0, 1) := by decide +kernel
theorem dX8_hours_52 : decode cX8_hours 52 = .ok (.invokevirtual 197, 3) := by decide +kernel
theorem dX8_hours_55 : decode cX8_hours 55 = .ok (.iinc 2 1, 3) := by decide +kernel
theorem dX8_hours_58 : decode cX8_hours 58 = .ok (.goto (-24), 3) := by decide +kernel
theorem dX8_hours_61 : decode cX8_hours 61 = .ok (.aload_n 0, 1) := by decide +kernel
theorem dX8_hours_62 : decode cX8_hours 62 = .ok (.iconst 2, 1) := by decide +kernel
theorem dX8_hours_63 : decode cX8_hours 63 = .ok (.invokevirtual 106, 3) := by decide +kernel
theorem dX8_hours_66 : decode cX8_hours 66 = .ok (.ireturn, 1) := by decide +kernel
theorem dX8_teach_0 : decode cX8_teach 0 = .ok (.aload_n 0, 1) := by decide +kernel
theorem dX8_teach_1 : decode cX8_teach 1 = .ok (.iload_n 1, 1) := by decide +kernel
theorem dX8_teach_2 : decode cX8_teach 2 = .ok (.invokevirtual 128, 3) := by decide +kernel
theorem dX8_teach_5 : decode cX8_teach 5 = .ok (.ifCond .eq 15, 3) := by decide +kernel
theorem dX8_teach_8 : decode cX8_teach 8 = .ok (.iload_n 2, 1) := by decide +kernel
theorem dX8_teach_9 : decode cX8_teach 9 = .ok (.i2l, 1) := by decide +kernel
theorem dX8_teach_10 : decode cX8_teach 10 = .ok (.lconst 0, 1) := by decide +kernel
theorem dX8_teach_11 : decode cX8_teach 11 = .ok (.ldc2_w 109, 3) := by decide +kernel
theorem dX8_teach_14 : decode cX8_teach 14 = .ok (.invokestatic 69, 3) := by decide +kernel
theorem dX8_teach_17 : decode cX8_teach 17 = .ok (.ifCond .ne 5, 3) := by decide +kernel
theorem dX8_teach_20 : decode cX8_teach 20 = .ok (.iconst (-1), 1) := by decide +kernel
theorem dX8_teach_21 : decode cX8_teach 21 = .ok (.ireturn, 1) := by decide +kernel
theorem dX8_teach_22 : decode cX8_teach 22 = .ok (.aload_n 0, 1) := by decide +kernel
theorem dX8_teach_23 : decode cX8_teach 23 = .ok (.getfield 16, 3) := by decide +kernel
theorem dX8_teach_26 : decode cX8_teach 26 = .ok (.bipush 9, 2) := by decide +kernel
theorem dX8_teach_28 : decode cX8_teach 28 = .ok (.iload_n 1, 1) := by decide +kernel
theorem dX8_teach_29 : decode cX8_teach 29 = .ok (.iadd, 1) := by decide +kernel
theorem dX8_teach_30 : decode cX8_teach 30 = .ok (.iaload, 1) := by decide +kernel
theorem dX8_teach_31 : decode cX8_teach 31 = .ok (.iload_n 2, 1) := by decide +kernel
theorem dX8_teach_32 : decode cX8_teach 32 = .ok (.invokestatic 79, 3) := by decide +kernel
theorem dX8_teach_35 : decode cX8_teach 35 = .ok (.ifCond .eq 6, 3) := by decide +kernel
theorem dX8_teach_38 : decode cX8_teach 38 = .ok (.bipush (-2), 2) := by decide +kernel
theorem dX8_teach_40 : decode cX8_teach 40 = .ok (.ireturn, 1) := by decide +kernel
theorem dX8_teach_41 : decode cX8_teach 41 = .ok (.aload_n 0, 1) := by decide +kernel
theorem dX8_teach_42 : decode cX8_teach 42 = .ok (.invokevirtual 194, 3) := by decide +kernel
theorem dX8_teach_45 : decode cX8_teach 45 = .ok (.aload_n 0, 1) := by decide +kernel
theorem dX8_teach_46 : decode cX8_teach 46 = .ok (.getfield 16, 3) := by decide +kernel
theorem dX8_teach_49 : decode cX8_teach 49 = .ok (.bipush 9, 2) := by decide +kernel
theorem dX8_teach_51 : decode cX8_teach 51 = .ok (.iload_n 1, 1) := by decide +kernel
theorem dX8_teach_52 : decode cX8_teach 52 = .ok (.iadd, 1) := by decide +kernel
theorem dX8_teach_53 : decode cX8_teach 53 = .ok (.dup2, 1) := by decide +kernel
theorem dX8_teach_54 : decode cX8_teach 54 = .ok (.iaload, 1) := by decide +kernel
theorem dX8_teach_55 : decode cX8_teach 55 = .ok (.iconst 1, 1) := by decide +kernel
theorem dX8_teach_56 : decode cX8_teach 56 = .ok (.iload_n 2, 1) := by decide +kernel
theorem dX8_teach_57 : decode cX8_teach 57 = .ok (.ishl, 1) := by decide +kernel
theorem dX8_teach_58 : decode cX8_teach 58 = .ok (.ior, 1) := by decide +kernel
theorem dX8_teach_59 : decode cX8_teach 59 = .ok (.iastore, 1) := by decide +kernel
theorem dX8_teach_60 : decode cX8_teach 60 = .ok (.aload_n 0, 1) := by decide +kernel
theorem dX8_teach_61 : decode cX8_teach 61 = .ok (.getfield 16, 3) := by decide +kernel
theorem dX8_teach_64 : decode cX8_teach 64 = .ok (.bipush 9, 2) := by decide +kernel
theorem dX8_teach_66 : decode cX8_teach 66 = .ok (.iload_n 1, 1) := by decide +kernel
theorem dX8_teach_67 : decode cX8_teach 67 = .ok (.iadd, 1) := by decide +kernel
theorem dX8_teach_68 : decode cX8_teach 68 = .ok (.iaload, 1) := by decide +kernel
theorem dX8_teach_69 : decode cX8_teach 69 = .ok (.ireturn, 1) := by decide +kernel
theorem dX8_later_0 : decode cX8_later 0 = .ok (.aload_n 0, 1) := by decide +kernel
theorem dX8_later_1 : decode cX8_later 1 = .ok (.iload_n 1, 1) := by decide +kernel
theorem dX8_later_2 : decode cX8_later 2 = .ok (.invokevirtual 128, 3) := by decide +kernel
theorem dX8_later_5 : decode cX8_later 5 = .ok (.ifCond .eq 15, 3) := by decide +kernel
theorem dX8_later_8 : decode cX8_later 8 = .ok (.iload_n 2, 1) := by decide +kernel
theorem dX8_later_9 : decode cX8_later 9 = .ok (.i2l, 1) := by decide +kernel
theorem dX8_later_10 : decode cX8_later 10 = .ok (.lconst 0, 1) := by decide +kernel
theorem dX8_later_11 : decode cX8_later 11 = .ok (.ldc2_w 120, 3) := by decide +kernel
theorem dX8_later_14 : decode cX8_later 14 = .ok (.invokestatic 69, 3) := by decide +kernel
theorem dX8_later_17 : decode cX8_later 17 = .ok (.ifCond .ne 5, 3) := by decide +kernel
theorem dX8_later_20 : decode cX8_later 20 = .ok (.iconst (-1), 1) := by decide +kernel
theorem dX8_later_21 : decode cX8_later 21 = .ok (.ireturn, 1) := by decide +kernel
theorem dX8_later_22 : decode cX8_later 22 = .ok (.aload_n 0, 1) := by decide +kernel
theorem dX8_later_23 : decode cX8_later 23 = .ok (.getfield 16, 3) := by decide +kernel
theorem dX8_later_26 : decode cX8_later 26 = .ok (.bipush 19, 2) := by decide +kernel
theorem dX8_later_28 : decode cX8_later 28 = .ok (.iload_n 1, 1) := by decide +kernel
theorem dX8_later_29 : decode cX8_later 29 = .ok (.iadd, 1) := by decide +kernel
theorem dX8_later_30 : decode cX8_later 30 = .ok (.iaload, 1) := by decide +kernel
theorem dX8_later_31 : decode cX8_later 31 = .ok (.ifCond .ne 16, 3) := by decide +kernel
theorem dX8_later_34 : decode cX8_later 34 = .ok (.aload_n 0, 1) := by decide +kernel
theorem dX8_later_35 : decode cX8_later 35 = .ok (.getfield 16, 3) := by decide +kernel
theorem dX8_later_38 : decode cX8_later 38 = .ok (.bipush 14, 2) := by decide +kernel
theorem dX8_later_40 : decode cX8_later 40 = .ok (.iload_n 1, 1) := by decide +kernel
theorem dX8_later_41 : decode cX8_later 41 = .ok (.iadd, 1) := by decide +kernel
theorem dX8_later_42 : decode cX8_later 42 = .ok (.iaload, 1) := by decide +kernel
theorem dX8_later_43 : decode cX8_later 43 = .ok (.iload_n 2, 1) := by decide +kernel
theorem dX8_later_44 : decode cX8_later 44 = .ok (.if_icmp .ne 6, 3) := by decide +kernel
theorem dX8_later_47 : decode cX8_later 47 = .ok (.bipush (-2), 2) := by decide +kernel
theorem dX8_later_49 : decode cX8_later 49 = .ok (.ireturn, 1) := by decide +kernel
theorem dX8_later_50 : decode cX8_later 50 = .ok (.aload_n 0, 1) := by decide +kernel
theorem dX8_later_51 : decode cX8_later 51 = .ok (.invokevirtual 194, 3) := by decide +kernel
theorem dX8_later_54 : decode cX8_later 54 = .ok (.aload_n 0, 1) := by decide +kernel
theorem dX8_later_55 : decode cX8_later 55 = .ok (.getfield 16, 3) := by decide +kernel
theorem dX8_later_58 : decode cX8_later 58 = .ok (.bipush 14, 2) := by decide +kernel
theorem dX8_later_60 : decode cX8_later 60 = .ok (.iload_n 1, 1) := by decide +kernel
theorem dX8_later_61 : decode cX8_later 61 = .ok (.iadd, 1) := by decide +kernel
theorem dX8_later_62 : decode cX8_later 62 = .ok (.iaload, 1) := by decide +kernel
theorem dX8_later_63 : decode cX8_later 63 = .ok (.istore_n 3, 1) := by decide +kernel
theorem dX8_later_64 : decode cX8_later 64 = .ok (.aload_n 0, 1) := by decide +kernel
theorem dX8_later_65 : decode cX8_later 65 = .ok (.getfield 16, 3) := by decide +kernel
theorem dX8_later_68 : decode cX8_later 68 = .ok (.bipush 14, 2) := by decide +kernel
theorem dX8_later_70 : decode cX8_later 70 = .ok (.iload_n 1, 1) := by decide +kernel
theorem dX8_later_71 : decode cX8_later 71 = .ok (.iadd, 1) := by decide +kernel
theorem dX8_later_72 : decode cX8_later 72 = .ok (.iload_n 2, 1) := by decide +kernel
theorem dX8_later_73 : decode cX8_later 73 = .ok (.iastore, 1) := by decide +kernel
theorem dX8_later_74 : decode cX8_later 74 = .ok (.iload_n 3, 1) := by decide +kernel
theorem dX8_later_75 : decode cX8_later 75 = .ok (.ireturn, 1) := by decide +kernel
theorem dX8_again_0 : decode cX8_again 0 = .ok (.aload_n 0, 1) := by decide +kernel
theorem dX8_again_1 : decode cX8_again 1 = .ok (.iload_n 1, 1) := by decide +kernel
theorem dX8_again_2 : decode cX8_again 2 = .ok (.invokevirtual 122, 3) := by decide +kernel
theorem dX8_again_5 : decode cX8_again 5 = .ok (.ifCond .ne 5, 3) := by decide +kernel
theorem dX8_again_8 : decode cX8_again 8 = .ok (.iconst (-1), 1) := by decide +kernel
theorem dX8_again_9 : decode cX8_again 9 = .ok (.ireturn, 1) := by decide +kernel
theorem dX8_again_10 : decode cX8_again 10 = .ok (.aload_n 0, 1) := by decide +kernel
theorem dX8_again_11 : decode cX8_again 11 = .ok (.getfield 16, 3) := by decide +kernel
theorem dX8_again_14 : decode cX8_again 14 = .ok (.iconst 0, 1) := by decide +kernel
theorem dX8_again_15 : decode cX8_again 15 = .ok (.iaload, 1) := by decide +kernel
theorem dX8_again_16 : decode cX8_again 16 = .ok (.iload_n 1, 1) := by decide +kernel
theorem dX8_again_17 : decode cX8_again 17 = .ok (.invokestatic 79, 3) := by decide +kernel
theorem dX8_again_20 : decode cX8_again 20 = .ok (.ifCond .ne 6, 3) := by decide +kernel
theorem dX8_again_23 : decode cX8_again 23 = .ok (.bipush (-2), 2) := by decide +kernel
theorem dX8_again_25 : decode cX8_again 25 = .ok (.ireturn, 1) := by decide +kernel
theorem dX8_again_26 : decode cX8_again 26 = .ok (.aload_n 0, 1) := by decide +kernel
theorem dX8_again_27 : decode cX8_again 27 = .ok (.invokevirtual 194, 3) := by decide +kernel
theorem dX8_again_30 : decode cX8_again 30 = .ok (.aload_n 0, 1) := by decide +kernel
theorem dX8_again_31 : decode cX8_again 31 = .ok (.getfield 16, 3) := by decide +kernel
theorem dX8_again_34 : decode cX8_again 34 = .ok (.iconst 0, 1) := by decide +kernel
theorem dX8_again_35 : decode cX8_again 35 = .ok (.dup2, 1) := by decide +kernel
theorem dX8_again_36 : decode cX8_again 36 = .ok (.iaload, 1) := by decide +kernel
theorem dX8_again_37 : decode cX8_again 37 = .ok (.iconst 1, 1) := by decide +kernel
theorem dX8_again_38 : decode cX8_again 38 = .ok (.iload_n 1, 1) := by decide +kernel
theorem dX8_again_39 : decode cX8_again 39 = .ok (.ishl, 1) := by decide +kernel
theorem dX8_again_40 : decode cX8_again 40 = .ok (.iconst (-1), 1) := by decide +kernel
theorem dX8_again_41 : decode cX8_again 41 = .ok (.ixor, 1) := by decide +kernel
theorem dX8_again_42 : decode cX8_again 42 = .ok (.iand, 1) := by decide +kernel
theorem dX8_again_43 : decode cX8_again 43 = .ok (.iastore, 1) := by decide +kernel
theorem dX8_again_44 : decode cX8_again 44 = .ok (.aload_n 0, 1) := by decide +kernel
theorem dX8_again_45 : decode cX8_again 45 = .ok (.getfield 16, 3) := by decide +kernel
theorem dX8_again_48 : decode cX8_again 48 = .ok (.iconst 0, 1) := by decide +kernel
theorem dX8_again_49 : decode cX8_again 49 = .ok (.iaload, 1) := by decide +kernel
theorem dX8_again_50 : decode cX8_again 50 = .ok (.ireturn, 1) := by decide +kernel
theorem dX8_put_0 : decode cX8_put 0 = .ok (.aload_n 0, 1) := by decide +kernel
theorem dX8_put_1 : decode cX8_put 1 = .ok (.iload_n 1, 1) := by decide +kernel
theorem dX8_put_2 : decode cX8_put 2 = .ok (.invokevirtual 122, 3) := by decide +kernel
theorem dX8_put_5 : decode cX8_put 5 = .ok (.ifCond .eq 15, 3) := by decide +kernel
theorem dX8_put_8 : decode cX8_put 8 = .ok (.iload_n 2, 1) := by decide +kernel
theorem dX8_put_9 : decode cX8_put 9 = .ok (.i2l, 1) := by decide +kernel
theorem dX8_put_10 : decode cX8_put 10 = .ok (.lconst 1, 1) := by decide +kernel
theorem dX8_put_11 : decode cX8_put 11 = .ok (.ldc2_w 111, 3) := by decide +kernel
theorem dX8_put_14 : decode cX8_put 14 = .ok (.invokestatic 69, 3) := by decide +kernel
theorem dX8_put_17 : decode cX8_put 17 = .ok (.ifCond .ne 5, 3) := by decide +kernel
theorem dX8_put_20 : decode cX8_put 20 = .ok (.iconst (-1), 1) := by decide +kernel
theorem dX8_put_21 : decode cX8_put 21 = .ok (.ireturn, 1) := by decide +kernel
theorem dX8_put_22 : decode cX8_put 22 = .ok (.aload_n 0, 1) := by decide +kernel
theorem dX8_put_23 : decode cX8_put 23 = .ok (.getfield 16, 3) := by decide +kernel
theorem dX8_put_26 : decode cX8_put 26 = .ok (.iconst 1, 1) := by decide +kernel
theorem dX8_put_27 : decode cX8_put 27 = .ok (.iload_n 1, 1) := by decide +kernel
theorem dX8_put_28 : decode cX8_put 28 = .ok (.iadd, 1) := by decide +kernel
theorem dX8_put_29 : decode cX8_put 29 = .ok (.iaload, 1) := by decide +kernel
theorem dX8_put_30 : decode cX8_put 30 = .ok (.istore_n 3, 1) := by decide +kernel
theorem dX8_put_31 : decode cX8_put 31 = .ok (.iload_n 3, 1) := by decide +kernel
theorem dX8_put_32 : decode cX8_put 32 = .ok (.iload_n 2, 1) := by decide +kernel
theorem dX8_put_33 : decode cX8_put 33 = .ok (.if_icmp .ne 6, 3) := by decide +kernel
theorem dX8_put_36 : decode cX8_put 36 = .ok (.bipush (-2), 2) := by decide +kernel
theorem dX8_put_38 : decode cX8_put 38 = .ok (.ireturn, 1) := by decide +kernel
theorem dX8_put_39 : decode cX8_put 39 = .ok (.aload_n 0, 1) := by decide +kernel
theorem dX8_put_40 : decode cX8_put 40 = .ok (.invokevirtual 194, 3) := by decide +kernel
theorem dX8_put_43 : decode cX8_put 43 = .ok (.aload_n 0, 1) := by decide +kernel
theorem dX8_put_44 : decode cX8_put 44 = .ok (.getfield 16, 3) := by decide +kernel
theorem dX8_put_47 : decode cX8_put 47 = .ok (.iconst 1, 1) := by decide +kernel
theorem dX8_put_48 : decode cX8_put 48 = .ok (.iload_n 1, 1) := by decide +kernel
theorem dX8_put_49 : decode cX8_put 49 = .ok (.iadd, 1) := by decide +kernel
theorem dX8_put_50 : decode cX8_put 50 = .ok (.iload_n 2, 1) := by decide +kernel
theorem dX8_put_51 : decode cX8_put 51 = .ok (.iastore, 1) := by decide +kernel
theorem dX8_put_52 : decode cX8_put 52 = .ok (.iload_n 3, 1) := by decide +kernel
theorem dX8_put_53 : decode cX8_put 53 = .ok (.ireturn, 1) := by decide +kernel
theorem dX8_drift_0 : decode cX8_drift 0 = .ok (.iload_n 1, 1) := by decide +kernel
theorem dX8_drift_1 : decode cX8_drift 1 = .ok (.i2l, 1) := by decide +kernel
theorem dX8_drift_2 : decode cX8_drift 2 = .ok (.lconst 1, 1) := by decide +kernel
theorem dX8_drift_3 : decode cX8_drift 3 = .ok (.ldc2_w 120, 3) := by decide +kernel
theorem dX8_drift_6 : decode cX8_drift 6 = .ok (.invokestatic 69, 3) := by decide +kernel
theorem dX8_drift_9 : decode cX8_drift 9 = .ok (.ifCond .ne 5, 3) := by decide +kernel
theorem dX8_drift_12 : decode cX8_drift 12 = .ok (.iconst (-1), 1) := by decide +kernel
theorem dX8_drift_13 : decode cX8_drift 13 = .ok (.ireturn, 1) := by decide +kernel
theorem dX8_drift_14 : decode cX8_drift 14 = .ok (.aload_n 0, 1) := by decide +kernel
theorem dX8_drift_15 : decode cX8_drift 15 = .ok (.getfield 16, 3) := by decide +kernel
theorem dX8_drift_18 : decode cX8_drift 18 = .ok (.bipush 29, 2) := by decide +kernel
theorem dX8_drift_20 : decode cX8_drift 20 = .ok (.iaload, 1) := by decide +kernel
theorem dX8_drift_21 : decode cX8_drift 21 = .ok (.iload_n 1, 1) := by decide +kernel
theorem dX8_drift_22 : decode cX8_drift 22 = .ok (.iadd, 1) := by decide +kernel
theorem dX8_drift_23 : decode cX8_drift 23 = .ok (.sipush 9999, 3) := by decide +kernel
theorem dX8_drift_26 : decode cX8_drift 26 = .ok (.if_icmp .le 6, 3) := by decide +kernel
theorem dX8_drift_29 : decode cX8_drift 29 = .ok (.bipush (-3), 2) := by decide +kernel
theorem dX8_drift_31 : decode cX8_drift 31 = .ok (.ireturn, 1) := by decide +kernel
theorem dX8_drift_32 : decode cX8_drift 32 = .ok (.iconst 0, 1) := by decide +kernel
theorem dX8_drift_33 : decode cX8_drift 33 = .ok (.istore_n 2, 1) := by decide +kernel
theorem dX8_drift_34 : decode cX8_drift 34 = .ok (.iload_n 2, 1) := by decide +kernel
theorem dX8_drift_35 : decode cX8_drift 35 = .ok (.iload_n 1, 1) := by decide +kernel
theorem dX8_drift_36 : decode cX8_drift 36 = .ok (.if_icmp .ge 94, 3) := by decide +kernel
theorem dX8_drift_39 : decode cX8_drift 39 = .ok (.aload_n 0, 1) := by decide +kernel
theorem dX8_drift_40 : decode cX8_drift 40 = .ok (.invokevirtual 194, 3) := by decide +kernel
theorem dX8_drift_43 : decode cX8_drift 43 = .ok (.aload_n 0, 1) := by decide +kernel
theorem dX8_drift_44 : decode cX8_drift 44 = .ok (.invokevirtual 131, 3) := by decide +kernel
theorem dX8_drift_47 : decode cX8_drift 47 = .ok (.aload_n 0, 1) := by decide +kernel
theorem dX8_drift_48 : decode cX8_drift 48 = .ok (.getfield 16, 3) := by decide +kernel
theorem dX8_drift_51 : decode cX8_drift 51 = .ok (.bipush 30, 2) := by decide +kernel
theorem dX8_drift_53 : decode cX8_drift 53 = .ok (.iaload, 1) := by decide +kernel
theorem dX8_drift_54 : decode cX8_drift 54 = .ok (.i2l, 1) := by decide +kernel
theorem dX8_drift_55 : decode cX8_drift 55 = .ok (.ldc2_w 200, 3) := by decide +kernel
theorem dX8_drift_58 : decode cX8_drift 58 = .ok (.lmul, 1) := by decide +kernel
theorem dX8_drift_59 : decode cX8_drift 59 = .ok (.ldc2_w 202, 3) := by decide +kernel
theorem dX8_drift_62 : decode cX8_drift 62 = .ok (.ladd, 1) := by decide +kernel
theorem dX8_drift_63 : decode cX8_drift 63 = .ok (.ldc2_w 204, 3) := by decide +kernel
theorem dX8_drift_66 : decode cX8_drift 66 = .ok (.land, 1) := by decide +kernel
theorem dX8_drift_67 : decode cX8_drift 67 = .ok (.l2i, 1) := by decide +kernel
theorem dX8_drift_68 : decode cX8_drift 68 = .ok (.istore_n 3, 1) := by decide +kernel
theorem dX8_drift_69 : decode cX8_drift 69 = .ok (.aload_n 0, 1) := by decide +kernel
theorem dX8_drift_70 : decode cX8_drift 70 = .ok (.getfield 19, 3) := by decide +kernel
theorem dX8_drift_73 : decode cX8_drift 73 = .ok (.bipush 30, 2) := by decide +kernel
end
section
theorem dX8_drift_75 : decode cX8_drift 75 = .ok (.iload_n 3, 1) := by decide +kernel
theorem dX8_drift_76 : decode cX8_drift 76 = .ok (.iastore, 1) := by decide +kernel
theorem dX8_drift_77 : decode cX8_drift 77 = .ok (.aload_n 0, 1) := by decide +kernel
theorem dX8_drift_78 : decode cX8_drift 78 = .ok (.getfield 66, 3) := by decide +kernel
theorem dX8_drift_81 : decode cX8_drift 81 = .ok (.ifCond .le 35, 3) := by decide +kernel
theorem dX8_drift_84 : decode cX8_drift 84 = .ok (.iload_n 3, 1) := by decide +kernel
theorem dX8_drift_85 : decode cX8_drift 85 = .ok (.sipush 128, 3) := by decide +kernel
theorem dX8_drift_88 : decode cX8_drift 88 = .ok (.idiv, 1) := by decide +kernel
theorem dX8_drift_89 : decode cX8_drift 89 = .ok (.iconst 3, 1) := by decide +kernel
theorem dX8_drift_90 : decode cX8_drift 90 = .ok (.irem, 1) := by decide +kernel
theorem dX8_drift_91 : decode cX8_drift 91 = .ok (.ifCond .ne 25, 3) := by decide +kernel
theorem dX8_drift_94 : decode cX8_drift 94 = .ok (.aload_n 0, 1) := by decide +kernel
theorem dX8_drift_95 : decode cX8_drift 95 = .ok (.getfield 19, 3) := by decide +kernel
theorem dX8_drift_98 : decode cX8_drift 98 = .ok (.iconst 0, 1) := by decide +kernel
theorem dX8_drift_99 : decode cX8_drift 99 = .ok (.dup2, 1) := by decide +kernel
theorem dX8_drift_100 : decode cX8_drift 100 = .ok (.iaload, 1) := by decide +kernel
theorem dX8_drift_101 : decode cX8_drift 101 = .ok (.iconst 1, 1) := by decide +kernel
theorem dX8_drift_102 : decode cX8_drift 102 = .ok (.iload_n 3, 1) := by decide +kernel
theorem dX8_drift_103 : decode cX8_drift 103 = .ok (.ldc 206, 2) := by decide +kernel
theorem dX8_drift_105 : decode cX8_drift 105 = .ok (.idiv, 1) := by decide +kernel
theorem dX8_drift_106 : decode cX8_drift 106 = .ok (.aload_n 0, 1) := by decide +kernel
theorem dX8_drift_107 : decode cX8_drift 107 = .ok (.getfield 66, 3) := by decide +kernel
theorem dX8_drift_110 : decode cX8_drift 110 = .ok (.irem, 1) := by decide +kernel
theorem dX8_drift_111 : decode cX8_drift 111 = .ok (.ishl, 1) := by decide +kernel
theorem dX8_drift_112 : decode cX8_drift 112 = .ok (.iconst (-1), 1) := by decide +kernel
theorem dX8_drift_113 : decode cX8_drift 113 = .ok (.ixor, 1) := by decide +kernel
theorem dX8_drift_114 : decode cX8_drift 114 = .ok (.iand, 1) := by decide +kernel
theorem dX8_drift_115 : decode cX8_drift 115 = .ok (.iastore, 1) := by decide +kernel
theorem dX8_drift_116 : decode cX8_drift 116 = .ok (.aload_n 0, 1) := by decide +kernel
theorem dX8_drift_117 : decode cX8_drift 117 = .ok (.invokevirtual 103, 3) := by decide +kernel
theorem dX8_drift_120 : decode cX8_drift 120 = .ok (.aload_n 0, 1) := by decide +kernel
theorem dX8_drift_121 : decode cX8_drift 121 = .ok (.invokevirtual 197, 3) := by decide +kernel
theorem dX8_drift_124 : decode cX8_drift 124 = .ok (.iinc 2 1, 3) := by decide +kernel
theorem dX8_drift_127 : decode cX8_drift 127 = .ok (.goto (-93), 3) := by decide +kernel
theorem dX8_drift_130 : decode cX8_drift 130 = .ok (.aload_n 0, 1) := by decide +kernel
theorem dX8_drift_131 : decode cX8_drift 131 = .ok (.iconst 2, 1) := by decide +kernel
theorem dX8_drift_132 : decode cX8_drift 132 = .ok (.invokevirtual 106, 3) := by decide +kernel
theorem dX8_drift_135 : decode cX8_drift 135 = .ok (.ireturn, 1) := by decide +kernel
theorem dX8_undo_0 : decode cX8_undo 0 = .ok (.aload_n 0, 1) := by decide +kernel
theorem dX8_undo_1 : decode cX8_undo 1 = .ok (.getfield 113, 3) := by decide +kernel
theorem dX8_undo_4 : decode cX8_undo 4 = .ok (.ifCond .ne 6, 3) := by decide +kernel
theorem dX8_undo_7 : decode cX8_undo 7 = .ok (.bipush (-4), 2) := by decide +kernel
theorem dX8_undo_9 : decode cX8_undo 9 = .ok (.ireturn, 1) := by decide +kernel
theorem dX8_undo_10 : decode cX8_undo 10 = .ok (.aload_n 0, 1) := by decide +kernel
theorem dX8_undo_11 : decode cX8_undo 11 = .ok (.dup, 1) := by decide +kernel
theorem dX8_undo_12 : decode cX8_undo 12 = .ok (.getfield 113, 3) := by decide +kernel
theorem dX8_undo_15 : decode cX8_undo 15 = .ok (.iconst 1, 1) := by decide +kernel
theorem dX8_undo_16 : decode cX8_undo 16 = .ok (.isub, 1) := by decide +kernel
theorem dX8_undo_17 : decode cX8_undo 17 = .ok (.putfield 113, 3) := by decide +kernel
theorem dX8_undo_20 : decode cX8_undo 20 = .ok (.iconst 0, 1) := by decide +kernel
theorem dX8_undo_21 : decode cX8_undo 21 = .ok (.istore_n 1, 1) := by decide +kernel
theorem dX8_undo_22 : decode cX8_undo 22 = .ok (.iload_n 1, 1) := by decide +kernel
theorem dX8_undo_23 : decode cX8_undo 23 = .ok (.bipush 31, 2) := by decide +kernel
theorem dX8_undo_25 : decode cX8_undo 25 = .ok (.if_icmp .ge 29, 3) := by decide +kernel
theorem dX8_undo_28 : decode cX8_undo 28 = .ok (.aload_n 0, 1) := by decide +kernel
theorem dX8_undo_29 : decode cX8_undo 29 = .ok (.getfield 16, 3) := by decide +kernel
theorem dX8_undo_32 : decode cX8_undo 32 = .ok (.iload_n 1, 1) := by decide +kernel
theorem dX8_undo_33 : decode cX8_undo 33 = .ok (.aload_n 0, 1) := by decide +kernel
theorem dX8_undo_34 : decode cX8_undo 34 = .ok (.getfield 22, 3) := by decide +kernel
theorem dX8_undo_37 : decode cX8_undo 37 = .ok (.bipush 31, 2) := by decide +kernel
theorem dX8_undo_39 : decode cX8_undo 39 = .ok (.aload_n 0, 1) := by decide +kernel
theorem dX8_undo_40 : decode cX8_undo 40 = .ok (.getfield 113, 3) := by decide +kernel
theorem dX8_undo_43 : decode cX8_undo 43 = .ok (.imul, 1) := by decide +kernel
theorem dX8_undo_44 : decode cX8_undo 44 = .ok (.iload_n 1, 1) := by decide +kernel
theorem dX8_undo_45 : decode cX8_undo 45 = .ok (.iadd, 1) := by decide +kernel
theorem dX8_undo_46 : decode cX8_undo 46 = .ok (.iaload, 1) := by decide +kernel
theorem dX8_undo_47 : decode cX8_undo 47 = .ok (.iastore, 1) := by decide +kernel
theorem dX8_undo_48 : decode cX8_undo 48 = .ok (.iinc 1 1, 3) := by decide +kernel
theorem dX8_undo_51 : decode cX8_undo 51 = .ok (.goto (-29), 3) := by decide +kernel
theorem dX8_undo_54 : decode cX8_undo 54 = .ok (.aload_n 0, 1) := by decide +kernel
theorem dX8_undo_55 : decode cX8_undo 55 = .ok (.getfield 113, 3) := by decide +kernel
theorem dX8_undo_58 : decode cX8_undo 58 = .ok (.ireturn, 1) := by decide +kernel
theorem dX8_seed_0 : decode cX8_seed 0 = .ok (.iload_n 1, 1) := by decide +kernel
theorem dX8_seed_1 : decode cX8_seed 1 = .ok (.ifCond .ge 5, 3) := by decide +kernel
theorem dX8_seed_4 : decode cX8_seed 4 = .ok (.iconst (-1), 1) := by decide +kernel
theorem dX8_seed_5 : decode cX8_seed 5 = .ok (.ireturn, 1) := by decide +kernel
theorem dX8_seed_6 : decode cX8_seed 6 = .ok (.aload_n 0, 1) := by decide +kernel
theorem dX8_seed_7 : decode cX8_seed 7 = .ok (.getfield 16, 3) := by decide +kernel
theorem dX8_seed_10 : decode cX8_seed 10 = .ok (.bipush 30, 2) := by decide +kernel
theorem dX8_seed_12 : decode cX8_seed 12 = .ok (.iaload, 1) := by decide +kernel
theorem dX8_seed_13 : decode cX8_seed 13 = .ok (.istore_n 2, 1) := by decide +kernel
theorem dX8_seed_14 : decode cX8_seed 14 = .ok (.aload_n 0, 1) := by decide +kernel
theorem dX8_seed_15 : decode cX8_seed 15 = .ok (.getfield 16, 3) := by decide +kernel
theorem dX8_seed_18 : decode cX8_seed 18 = .ok (.bipush 30, 2) := by decide +kernel
theorem dX8_seed_20 : decode cX8_seed 20 = .ok (.iload_n 1, 1) := by decide +kernel
theorem dX8_seed_21 : decode cX8_seed 21 = .ok (.iastore, 1) := by decide +kernel
theorem dX8_seed_22 : decode cX8_seed 22 = .ok (.iload_n 2, 1) := by decide +kernel
theorem dX8_seed_23 : decode cX8_seed 23 = .ok (.ireturn, 1) := by decide +kernel
theorem dX8_then_0 : decode cX8_then 0 = .ok (.iload_n 1, 1) := by decide +kernel
theorem dX8_then_1 : decode cX8_then 1 = .ok (.i2l, 1) := by decide +kernel
theorem dX8_then_2 : decode cX8_then 2 = .ok (.lconst 0, 1) := by decide +kernel
theorem dX8_then_3 : decode cX8_then 3 = .ok (.ldc2_w 207, 3) := by decide +kernel
theorem dX8_then_6 : decode cX8_then 6 = .ok (.invokestatic 69, 3) := by decide +kernel
theorem dX8_then_9 : decode cX8_then 9 = .ok (.ifCond .eq 15, 3) := by decide +kernel
theorem dX8_then_12 : decode cX8_then 12 = .ok (.iload_n 2, 1) := by decide +kernel
theorem dX8_then_13 : decode cX8_then 13 = .ok (.i2l, 1) := by decide +kernel
theorem dX8_then_14 : decode cX8_then 14 = .ok (.lconst 0, 1) := by decide +kernel
theorem dX8_then_15 : decode cX8_then 15 = .ok (.ldc2_w 126, 3) := by decide +kernel
theorem dX8_then_18 : decode cX8_then 18 = .ok (.invokestatic 69, 3) := by decide +kernel
theorem dX8_then_21 : decode cX8_then 21 = .ok (.ifCond .ne 5, 3) := by decide +kernel
theorem dX8_then_24 : decode cX8_then 24 = .ok (.iconst (-1), 1) := by decide +kernel
theorem dX8_then_25 : decode cX8_then 25 = .ok (.ireturn, 1) := by decide +kernel
theorem dX8_then_26 : decode cX8_then 26 = .ok (.aload_n 0, 1) := by decide +kernel
theorem dX8_then_27 : decode cX8_then 27 = .ok (.invokevirtual 131, 3) := by decide +kernel
theorem dX8_then_30 : decode cX8_then 30 = .ok (.aload_n 0, 1) := by decide +kernel
theorem dX8_then_31 : decode cX8_then 31 = .ok (.iload_n 1, 1) := by decide +kernel
theorem dX8_then_32 : decode cX8_then 32 = .ok (.invokevirtual 209, 3) := by decide +kernel
theorem dX8_then_35 : decode cX8_then 35 = .ok (.iload_n 2, 1) := by decide +kernel
theorem dX8_then_36 : decode cX8_then 36 = .ok (.iconst 2, 1) := by decide +kernel
theorem dX8_then_37 : decode cX8_then 37 = .ok (.if_icmp .ne 12, 3) := by decide +kernel
theorem dX8_then_40 : decode cX8_then 40 = .ok (.aload_n 0, 1) := by decide +kernel
theorem dX8_then_41 : decode cX8_then 41 = .ok (.getfield 19, 3) := by decide +kernel
theorem dX8_then_44 : decode cX8_then 44 = .ok (.iconst 0, 1) := by decide +kernel
theorem dX8_then_45 : decode cX8_then 45 = .ok (.iaload, 1) := by decide +kernel
theorem dX8_then_46 : decode cX8_then 46 = .ok (.goto 10, 3) := by decide +kernel
theorem dX8_then_49 : decode cX8_then 49 = .ok (.aload_n 0, 1) := by decide +kernel
theorem dX8_then_50 : decode cX8_then 50 = .ok (.iload_n 2, 1) := by decide +kernel
theorem dX8_then_51 : decode cX8_then 51 = .ok (.iconst 1, 1) := by decide +kernel
theorem dX8_then_52 : decode cX8_then 52 = .ok (.iadd, 1) := by decide +kernel
theorem dX8_then_53 : decode cX8_then 53 = .ok (.invokevirtual 106, 3) := by decide +kernel
theorem dX8_then_56 : decode cX8_then 56 = .ok (.ireturn, 1) := by decide +kernel
theorem dX8_overHour_0 : decode cX8_overHour 0 = .ok (.iconst 0, 1) := by decide +kernel
theorem dX8_overHour_1 : decode cX8_overHour 1 = .ok (.istore_n 2, 1) := by decide +kernel
theorem dX8_overHour_2 : decode cX8_overHour 2 = .ok (.iload_n 2, 1) := by decide +kernel
theorem dX8_overHour_3 : decode cX8_overHour 3 = .ok (.bipush 101, 2) := by decide +kernel
theorem dX8_overHour_5 : decode cX8_overHour 5 = .ok (.if_icmp .ge 28, 3) := by decide +kernel
theorem dX8_overHour_8 : decode cX8_overHour 8 = .ok (.aload_n 0, 1) := by decide +kernel
theorem dX8_overHour_9 : decode cX8_overHour 9 = .ok (.getfield 19, 3) := by decide +kernel
theorem dX8_overHour_12 : decode cX8_overHour 12 = .ok (.bipush 19, 2) := by decide +kernel
theorem dX8_overHour_14 : decode cX8_overHour 14 = .ok (.iload_n 1, 1) := by decide +kernel
theorem dX8_overHour_15 : decode cX8_overHour 15 = .ok (.iadd, 1) := by decide +kernel
theorem dX8_overHour_16 : decode cX8_overHour 16 = .ok (.iaload, 1) := by decide +kernel
theorem dX8_overHour_17 : decode cX8_overHour 17 = .ok (.iconst 2, 1) := by decide +kernel
theorem dX8_overHour_18 : decode cX8_overHour 18 = .ok (.if_icmp .ne 5, 3) := by decide +kernel
theorem dX8_overHour_21 : decode cX8_overHour 21 = .ok (.iload_n 2, 1) := by decide +kernel
theorem dX8_overHour_22 : decode cX8_overHour 22 = .ok (.ireturn, 1) := by decide +kernel
theorem dX8_overHour_23 : decode cX8_overHour 23 = .ok (.aload_n 0, 1) := by decide +kernel
theorem dX8_overHour_24 : decode cX8_overHour 24 = .ok (.invokevirtual 103, 3) := by decide +kernel
theorem dX8_overHour_27 : decode cX8_overHour 27 = .ok (.iinc 2 1, 3) := by decide +kernel
theorem dX8_overHour_30 : decode cX8_overHour 30 = .ok (.goto (-28), 3) := by decide +kernel
theorem dX8_overHour_33 : decode cX8_overHour 33 = .ok (.bipush (-4), 2) := by decide +kernel
theorem dX8_overHour_35 : decode cX8_overHour 35 = .ok (.ireturn, 1) := by decide +kernel
theorem dX8_crosses_0 : decode cX8_crosses 0 = .ok (.aload_n 0, 1) := by decide +kernel
theorem dX8_crosses_1 : decode cX8_crosses 1 = .ok (.iload_n 1, 1) := by decide +kernel
theorem dX8_crosses_2 : decode cX8_crosses 2 = .ok (.invokevirtual 128, 3) := by decide +kernel
theorem dX8_crosses_5 : decode cX8_crosses 5 = .ok (.ifCond .ne 5, 3) := by decide +kernel
theorem dX8_crosses_8 : decode cX8_crosses 8 = .ok (.iconst (-1), 1) := by decide +kernel
theorem dX8_crosses_9 : decode cX8_crosses 9 = .ok (.ireturn, 1) := by decide +kernel
theorem dX8_crosses_10 : decode cX8_crosses 10 = .ok (.aload_n 0, 1) := by decide +kernel
theorem dX8_crosses_11 : decode cX8_crosses 11 = .ok (.invokevirtual 131, 3) := by decide +kernel
theorem dX8_crosses_14 : decode cX8_crosses 14 = .ok (.aload_n 0, 1) := by decide +kernel
theorem dX8_crosses_15 : decode cX8_crosses 15 = .ok (.iload_n 1, 1) := by decide +kernel
theorem dX8_crosses_16 : decode cX8_crosses 16 = .ok (.invokevirtual 212, 3) := by decide +kernel
theorem dX8_crosses_19 : decode cX8_crosses 19 = .ok (.ireturn, 1) := by decide +kernel
theorem dX8_last_0 : decode cX8_last 0 = .ok (.aload_n 0, 1) := by decide +kernel
theorem dX8_last_1 : decode cX8_last 1 = .ok (.invokevirtual 131, 3) := by decide +kernel
theorem dX8_last_4 : decode cX8_last 4 = .ok (.aload_n 0, 1) := by decide +kernel
theorem dX8_last_5 : decode cX8_last 5 = .ok (.invokevirtual 215, 3) := by decide +kernel
theorem dX8_last_8 : decode cX8_last 8 = .ok (.ireturn, 1) := by decide +kernel
theorem dX8_most_0 : decode cX8_most 0 = .ok (.iload_n 1, 1) := by decide +kernel
theorem dX8_most_1 : decode cX8_most 1 = .ok (.i2l, 1) := by decide +kernel
theorem dX8_most_2 : decode cX8_most 2 = .ok (.lconst 0, 1) := by decide +kernel
theorem dX8_most_3 : decode cX8_most 3 = .ok (.lconst 1, 1) := by decide +kernel
theorem dX8_most_4 : decode cX8_most 4 = .ok (.invokestatic 69, 3) := by decide +kernel
theorem dX8_most_7 : decode cX8_most 7 = .ok (.ifCond .ne 5, 3) := by decide +kernel
theorem dX8_most_10 : decode cX8_most 10 = .ok (.iconst (-1), 1) := by decide +kernel
theorem dX8_most_11 : decode cX8_most 11 = .ok (.ireturn, 1) := by decide +kernel
theorem dX8_most_12 : decode cX8_most 12 = .ok (.aload_n 0, 1) := by decide +kernel
theorem dX8_most_13 : decode cX8_most 13 = .ok (.invokevirtual 131, 3) := by decide +kernel
theorem dX8_most_16 : decode cX8_most 16 = .ok (.bipush (-4), 2) := by decide +kernel
theorem dX8_most_18 : decode cX8_most 18 = .ok (.istore_n 2, 1) := by decide +kernel
theorem dX8_most_19 : decode cX8_most 19 = .ok (.iconst 0, 1) := by decide +kernel
theorem dX8_most_20 : decode cX8_most 20 = .ok (.istore_n 3, 1) := by decide +kernel
theorem dX8_most_21 : decode cX8_most 21 = .ok (.iconst 0, 1) := by decide +kernel
theorem dX8_most_22 : decode cX8_most 22 = .ok (.istore 4, 2) := by decide +kernel
theorem dX8_most_24 : decode cX8_most 24 = .ok (.iload 4, 2) := by decide +kernel
theorem dX8_most_26 : decode cX8_most 26 = .ok (.bipush 101, 2) := by decide +kernel
theorem dX8_most_28 : decode cX8_most 28 = .ok (.if_icmp .ge 45, 3) := by decide +kernel
theorem dX8_most_31 : decode cX8_most 31 = .ok (.aload_n 0, 1) := by decide +kernel
theorem dX8_most_32 : decode cX8_most 32 = .ok (.invokevirtual 218, 3) := by decide +kernel
theorem dX8_most_35 : decode cX8_most 35 = .ok (.istore 5, 2) := by decide +kernel
theorem dX8_most_37 : decode cX8_most 37 = .ok (.iload 5, 2) := by decide +kernel
theorem dX8_most_39 : decode cX8_most 39 = .ok (.iload_n 2, 1) := by decide +kernel
theorem dX8_most_40 : decode cX8_most 40 = .ok (.if_icmp .le 8, 3) := by decide +kernel
theorem dX8_most_43 : decode cX8_most 43 = .ok (.iload 4, 2) := by decide +kernel
theorem dX8_most_45 : decode cX8_most 45 = .ok (.goto 4, 3) := by decide +kernel
theorem dX8_most_48 : decode cX8_most 48 = .ok (.iload_n 3, 1) := by decide +kernel
theorem dX8_most_49 : decode cX8_most 49 = .ok (.istore_n 3, 1) := by decide +kernel
theorem dX8_most_50 : decode cX8_most 50 = .ok (.iload 5, 2) := by decide +kernel
theorem dX8_most_52 : decode cX8_most 52 = .ok (.iload_n 2, 1) := by decide +kernel
theorem dX8_most_53 : decode cX8_most 53 = .ok (.if_icmp .le 8, 3) := by decide +kernel
theorem dX8_most_56 : decode cX8_most 56 = .ok (.iload 5, 2) := by decide +kernel
theorem dX8_most_58 : decode cX8_most 58 = .ok (.goto 4, 3) := by decide +kernel
theorem dX8_most_61 : decode cX8_most 61 = .ok (.iload_n 2, 1) := by decide +kernel
theorem dX8_most_62 : decode cX8_most 62 = .ok (.istore_n 2, 1) := by decide +kernel
theorem dX8_most_63 : decode cX8_most 63 = .ok (.aload_n 0, 1) := by decide +kernel
theorem dX8_most_64 : decode cX8_most 64 = .ok (.invokevirtual 103, 3) := by decide +kernel
theorem dX8_most_67 : decode cX8_most 67 = .ok (.iinc 4 1, 3) := by decide +kernel
theorem dX8_most_70 : decode cX8_most 70 = .ok (.goto (-46), 3) := by decide +kernel
theorem dX8_most_73 : decode cX8_most 73 = .ok (.iload_n 1, 1) := by decide +kernel
theorem dX8_most_74 : decode cX8_most 74 = .ok (.ifCond .ne 7, 3) := by decide +kernel
theorem dX8_most_77 : decode cX8_most 77 = .ok (.iload_n 2, 1) := by decide +kernel
theorem dX8_most_78 : decode cX8_most 78 = .ok (.goto 4, 3) := by decide +kernel
theorem dX8_most_81 : decode cX8_most 81 = .ok (.iload_n 3, 1) := by decide +kernel
theorem dX8_most_82 : decode cX8_most 82 = .ok (.ireturn, 1) := by decide +kernel
theorem dX8_leftMany_0 : decode cX8_leftMany 0 = .ok (.iconst 0, 1) := by decide +kernel
theorem dX8_leftMany_1 : decode cX8_leftMany 1 = .ok (.istore_n 1, 1) := by decide +kernel
theorem dX8_leftMany_2 : decode cX8_leftMany 2 = .ok (.iconst 0, 1) := by decide +kernel
theorem dX8_leftMany_3 : decode cX8_leftMany 3 = .ok (.istore_n 2, 1) := by decide +kernel
theorem dX8_leftMany_4 : decode cX8_leftMany 4 = .ok (.iload_n 2, 1) := by decide +kernel
theorem dX8_leftMany_5 : decode cX8_leftMany 5 = .ok (.aload_n 0, 1) := by decide +kernel
theorem dX8_leftMany_6 : decode cX8_leftMany 6 = .ok (.getfield 66, 3) := by decide +kernel
theorem dX8_leftMany_9 : decode cX8_leftMany 9 = .ok (.if_icmp .ge 30, 3) := by decide +kernel
theorem dX8_leftMany_12 : decode cX8_leftMany 12 = .ok (.iload_n 1, 1) := by decide +kernel
theorem dX8_leftMany_13 : decode cX8_leftMany 13 = .ok (.aload_n 0, 1) := by decide +kernel
theorem dX8_leftMany_14 : decode cX8_leftMany 14 = .ok (.getfield 16, 3) := by decide +kernel
theorem dX8_leftMany_17 : decode cX8_leftMany 17 = .ok (.iconst 0, 1) := by decide +kernel
theorem dX8_leftMany_18 : decode cX8_leftMany 18 = .ok (.iaload, 1) := by decide +kernel
theorem dX8_leftMany_19 : decode cX8_leftMany 19 = .ok (.iload_n 2, 1) := by decide +kernel
theorem dX8_leftMany_20 : decode cX8_leftMany 20 = .ok (.invokestatic 79, 3) := by decide +kernel
theorem dX8_leftMany_23 : decode cX8_leftMany 23 = .ok (.ifCond .eq 7, 3) := by decide +kernel
theorem dX8_leftMany_26 : decode cX8_leftMany 26 = .ok (.iconst 0, 1) := by decide +kernel
theorem dX8_leftMany_27 : decode cX8_leftMany 27 = .ok (.goto 4, 3) := by decide +kernel
theorem dX8_leftMany_30 : decode cX8_leftMany 30 = .ok (.iconst 1, 1) := by decide +kernel
theorem dX8_leftMany_31 : decode cX8_leftMany 31 = .ok (.iadd, 1) := by decide +kernel
theorem dX8_leftMany_32 : decode cX8_leftMany 32 = .ok (.istore_n 1, 1) := by decide +kernel
theorem dX8_leftMany_33 : decode cX8_leftMany 33 = .ok (.iinc 2 1, 3) := by decide +kernel
theorem dX8_leftMany_36 : decode cX8_leftMany 36 = .ok (.goto (-32), 3) := by decide +kernel
theorem dX8_leftMany_39 : decode cX8_leftMany 39 = .ok (.iload_n 1, 1) := by decide +kernel
theorem dX8_leftMany_40 : decode cX8_leftMany 40 = .ok (.ireturn, 1) := by decide +kernel
theorem dX8_layAsked_0 : decode cX8_layAsked 0 = .ok (.aload_n 0, 1) := by decide +kernel
theorem dX8_layAsked_1 : decode cX8_layAsked 1 = .ok (.iconst 0, 1) := by decide +kernel
theorem dX8_layAsked_2 : decode cX8_layAsked 2 = .ok (.putfield 221, 3) := by decide +kernel
theorem dX8_layAsked_5 : decode cX8_layAsked 5 = .ok (.aload_n 0, 1) := by decide +kernel
theorem dX8_layAsked_6 : decode cX8_layAsked 6 = .ok (.invokevirtual 224, 3) := by decide +kernel
theorem dX8_layAsked_9 : decode cX8_layAsked 9 = .ok (.istore_n 1, 1) := by decide +kernel
theorem dX8_layAsked_10 : decode cX8_layAsked 10 = .ok (.iload_n 1, 1) := by decide +kernel
theorem dX8_layAsked_11 : decode cX8_layAsked 11 = .ok (.ifCond .le 118, 3) := by decide +kernel
theorem dX8_layAsked_14 : decode cX8_layAsked 14 = .ok (.bipush (-4), 2) := by decide +kernel
theorem dX8_layAsked_16 : decode cX8_layAsked 16 = .ok (.istore_n 2, 1) := by decide +kernel
theorem dX8_layAsked_17 : decode cX8_layAsked 17 = .ok (.iconst 0, 1) := by decide +kernel
theorem dX8_layAsked_18 : decode cX8_layAsked 18 = .ok (.istore_n 3, 1) := by decide +kernel
theorem dX8_layAsked_19 : decode cX8_layAsked 19 = .ok (.iload_n 3, 1) := by decide +kernel
theorem dX8_layAsked_20 : decode cX8_layAsked 20 = .ok (.aload_n 0, 1) := by decide +kernel
theorem dX8_layAsked_21 : decode cX8_layAsked 21 = .ok (.getfield 73, 3) := by decide +kernel
theorem dX8_layAsked_24 : decode cX8_layAsked 24 = .ok (.if_icmp .ge 77, 3) := by decide +kernel
theorem dX8_layAsked_27 : decode cX8_layAsked 27 = .ok (.aload_n 0, 1) := by decide +kernel
theorem dX8_layAsked_28 : decode cX8_layAsked 28 = .ok (.getfield 16, 3) := by decide +kernel
theorem dX8_layAsked_31 : decode cX8_layAsked 31 = .ok (.bipush 19, 2) := by decide +kernel
theorem dX8_layAsked_33 : decode cX8_layAsked 33 = .ok (.iload_n 3, 1) := by decide +kernel
theorem dX8_layAsked_34 : decode cX8_layAsked 34 = .ok (.iadd, 1) := by decide +kernel
theorem dX8_layAsked_35 : decode cX8_layAsked 35 = .ok (.iaload, 1) := by decide +kernel
theorem dX8_layAsked_36 : decode cX8_layAsked 36 = .ok (.ifCond .ne 18, 3) := by decide +kernel
theorem dX8_layAsked_39 : decode cX8_layAsked 39 = .ok (.aload_n 0, 1) := by decide +kernel
theorem dX8_layAsked_40 : decode cX8_layAsked 40 = .ok (.getfield 221, 3) := by decide +kernel
theorem dX8_layAsked_43 : decode cX8_layAsked 43 = .ok (.iload_n 3, 1) := by decide +kernel
theorem dX8_layAsked_44 : decode cX8_layAsked 44 = .ok (.invokestatic 79, 3) := by decide +kernel
theorem dX8_layAsked_47 : decode cX8_layAsked 47 = .ok (.ifCond .ne 7, 3) := by decide +kernel
theorem dX8_layAsked_50 : decode cX8_layAsked 50 = .ok (.iconst 1, 1) := by decide +kernel
theorem dX8_layAsked_51 : decode cX8_layAsked 51 = .ok (.goto 4, 3) := by decide +kernel
theorem dX8_layAsked_54 : decode cX8_layAsked 54 = .ok (.iconst 0, 1) := by decide +kernel
theorem dX8_layAsked_55 : decode cX8_layAsked 55 = .ok (.istore 4, 2) := by decide +kernel
theorem dX8_layAsked_57 : decode cX8_layAsked 57 = .ok (.iload 4, 2) := by decide +kernel
theorem dX8_layAsked_59 : decode cX8_layAsked 59 = .ok (.ifCond .eq 34, 3) := by decide +kernel
theorem dX8_layAsked_62 : decode cX8_layAsked 62 = .ok (.iload_n 2, 1) := by decide +kernel
theorem dX8_layAsked_63 : decode cX8_layAsked 63 = .ok (.bipush (-4), 2) := by decide +kernel
theorem dX8_layAsked_65 : decode cX8_layAsked 65 = .ok (.if_icmp .eq 24, 3) := by decide +kernel
theorem dX8_layAsked_68 : decode cX8_layAsked 68 = .ok (.aload_n 0, 1) := by decide +kernel
theorem dX8_layAsked_69 : decode cX8_layAsked 69 = .ok (.getfield 16, 3) := by decide +kernel
theorem dX8_layAsked_72 : decode cX8_layAsked 72 = .ok (.bipush 14, 2) := by decide +kernel
theorem dX8_layAsked_74 : decode cX8_layAsked 74 = .ok (.iload_n 3, 1) := by decide +kernel
theorem dX8_layAsked_75 : decode cX8_layAsked 75 = .ok (.iadd, 1) := by decide +kernel
theorem dX8_layAsked_76 : decode cX8_layAsked 76 = .ok (.iaload, 1) := by decide +kernel
theorem dX8_layAsked_77 : decode cX8_layAsked 77 = .ok (.aload_n 0, 1) := by decide +kernel
theorem dX8_layAsked_78 : decode cX8_layAsked 78 = .ok (.getfield 16, 3) := by decide +kernel
theorem dX8_layAsked_81 : decode cX8_layAsked 81 = .ok (.bipush 14, 2) := by decide +kernel
theorem dX8_layAsked_83 : decode cX8_layAsked 83 = .ok (.iload_n 2, 1) := by decide +kernel
theorem dX8_layAsked_84 : decode cX8_layAsked 84 = .ok (.iadd, 1) := by decide +kernel
theorem dX8_layAsked_85 : decode cX8_layAsked 85 = .ok (.iaload, 1) := by decide +kernel
theorem dX8_layAsked_86 : decode cX8_layAsked 86 = .ok (.if_icmp .ge 7, 3) := by decide +kernel
theorem dX8_layAsked_89 : decode cX8_layAsked 89 = .ok (.iload_n 3, 1) := by decide +kernel
theorem dX8_layAsked_90 : decode cX8_layAsked 90 = .ok (.goto 4, 3) := by decide +kernel
theorem dX8_layAsked_93 : decode cX8_layAsked 93 = .ok (.iload_n 2, 1) := by decide +kernel
theorem dX8_layAsked_94 : decode cX8_layAsked 94 = .ok (.istore_n 2, 1) := by decide +kernel
theorem dX8_layAsked_95 : decode cX8_layAsked 95 = .ok (.iinc 3 1, 3) := by decide +kernel
theorem dX8_layAsked_98 : decode cX8_layAsked 98 = .ok (.goto (-79), 3) := by decide +kernel
theorem dX8_layAsked_101 : decode cX8_layAsked 101 = .ok (.aload_n 0, 1) := by decide +kernel
theorem dX8_layAsked_102 : decode cX8_layAsked 102 = .ok (.dup, 1) := by decide +kernel
theorem dX8_layAsked_103 : decode cX8_layAsked 103 = .ok (.getfield 221, 3) := by decide +kernel
theorem dX8_layAsked_106 : decode cX8_layAsked 106 = .ok (.iload_n 2, 1) := by decide +kernel
theorem dX8_layAsked_107 : decode cX8_layAsked 107 = .ok (.bipush (-4), 2) := by decide +kernel
theorem dX8_layAsked_109 : decode cX8_layAsked 109 = .ok (.if_icmp .ne 7, 3) := by decide +kernel
theorem dX8_layAsked_112 : decode cX8_layAsked 112 = .ok (.iconst 0, 1) := by decide +kernel
theorem dX8_layAsked_113 : decode cX8_layAsked 113 = .ok (.goto 6, 3) := by decide +kernel
theorem dX8_layAsked_116 : decode cX8_layAsked 116 = .ok (.iconst 1, 1) := by decide +kernel
theorem dX8_layAsked_117 : decode cX8_layAsked 117 = .ok (.iload_n 2, 1) := by decide +kernel
theorem dX8_layAsked_118 : decode cX8_layAsked 118 = .ok (.ishl, 1) := by decide +kernel
theorem dX8_layAsked_119 : decode cX8_layAsked 119 = .ok (.ior, 1) := by decide +kernel
theorem dX8_layAsked_120 : decode cX8_layAsked 120 = .ok (.putfield 221, 3) := by decide +kernel
theorem dX8_layAsked_123 : decode cX8_layAsked 123 = .ok (.iinc 1 (-1), 3) := by decide +kernel
theorem dX8_layAsked_126 : decode cX8_layAsked 126 = .ok (.goto (-116), 3) := by decide +kernel
theorem dX8_layAsked_129 : decode cX8_layAsked 129 = .ok (.return_, 1) := by decide +kernel
theorem dX8_isTelling_0 : decode cX8_isTelling 0 = .ok (.aload_n 0, 1) := by decide +kernel
theorem dX8_isTelling_1 : decode cX8_isTelling 1 = .ok (.getfield 16, 3) := by decide +kernel
theorem dX8_isTelling_4 : decode cX8_isTelling 4 = .ok (.iconst 0, 1) := by decide +kernel
theorem dX8_isTelling_5 : decode cX8_isTelling 5 = .ok (.iaload, 1) := by decide +kernel
theorem dX8_isTelling_6 : decode cX8_isTelling 6 = .ok (.istore_n 2, 1) := by decide +kernel
theorem dX8_isTelling_7 : decode cX8_isTelling 7 = .ok (.iload_n 1, 1) := by decide +kernel
theorem dX8_isTelling_8 : decode cX8_isTelling 8 = .ok (.istore_n 3, 1) := by decide +kernel
theorem dX8_isTelling_9 : decode cX8_isTelling 9 = .ok (.iconst 1, 1) := by decide +kernel
theorem dX8_isTelling_10 : decode cX8_isTelling 10 = .ok (.istore 4, 2) := by decide +kernel
theorem dX8_isTelling_12 : decode cX8_isTelling 12 = .ok (.aload_n 0, 1) := by decide +kernel
theorem dX8_isTelling_13 : decode cX8_isTelling 13 = .ok (.getfield 73, 3) := by decide +kernel
theorem dX8_isTelling_16 : decode cX8_isTelling 16 = .ok (.iconst 1, 1) := by decide +kernel
theorem dX8_isTelling_17 : decode cX8_isTelling 17 = .ok (.isub, 1) := by decide +kernel
theorem dX8_isTelling_18 : decode cX8_isTelling 18 = .ok (.istore 5, 2) := by decide +kernel
theorem dX8_isTelling_20 : decode cX8_isTelling 20 = .ok (.iload 5, 2) := by decide +kernel
theorem dX8_isTelling_22 : decode cX8_isTelling 22 = .ok (.ifCond .lt 88, 3) := by decide +kernel
theorem dX8_isTelling_25 : decode cX8_isTelling 25 = .ok (.aload_n 0, 1) := by decide +kernel
theorem dX8_isTelling_26 : decode cX8_isTelling 26 = .ok (.getfield 51, 3) := by decide +kernel
theorem dX8_isTelling_29 : decode cX8_isTelling 29 = .ok (.iload 5, 2) := by decide +kernel
theorem dX8_isTelling_31 : decode cX8_isTelling 31 = .ok (.bipush (-4), 2) := by decide +kernel
theorem dX8_isTelling_33 : decode cX8_isTelling 33 = .ok (.iastore, 1) := by decide +kernel
theorem dX8_isTelling_34 : decode cX8_isTelling 34 = .ok (.aload_n 0, 1) := by decide +kernel
theorem dX8_isTelling_35 : decode cX8_isTelling 35 = .ok (.getfield 221, 3) := by decide +kernel
theorem dX8_isTelling_38 : decode cX8_isTelling 38 = .ok (.iload 5, 2) := by decide +kernel
theorem dX8_isTelling_40 : decode cX8_isTelling 40 = .ok (.invokestatic 79, 3) := by decide +kernel
theorem dX8_isTelling_43 : decode cX8_isTelling 43 = .ok (.ifCond .eq 61, 3) := by decide +kernel
theorem dX8_isTelling_46 : decode cX8_isTelling 46 = .ok (.aload_n 0, 1) := by decide +kernel
theorem dX8_isTelling_47 : decode cX8_isTelling 47 = .ok (.getfield 51, 3) := by decide +kernel
theorem dX8_isTelling_50 : decode cX8_isTelling 50 = .ok (.iload 5, 2) := by decide +kernel
theorem dX8_isTelling_52 : decode cX8_isTelling 52 = .ok (.iload_n 3, 1) := by decide +kernel
theorem dX8_isTelling_53 : decode cX8_isTelling 53 = .ok (.aload_n 0, 1) := by decide +kernel
theorem dX8_isTelling_54 : decode cX8_isTelling 54 = .ok (.getfield 66, 3) := by decide +kernel
theorem dX8_isTelling_57 : decode cX8_isTelling 57 = .ok (.irem, 1) := by decide +kernel
theorem dX8_isTelling_58 : decode cX8_isTelling 58 = .ok (.iastore, 1) := by decide +kernel
theorem dX8_isTelling_59 : decode cX8_isTelling 59 = .ok (.iload 4, 2) := by decide +kernel
theorem dX8_isTelling_61 : decode cX8_isTelling 61 = .ok (.ifCond .eq 21, 3) := by decide +kernel
theorem dX8_isTelling_64 : decode cX8_isTelling 64 = .ok (.iload_n 2, 1) := by decide +kernel
theorem dX8_isTelling_65 : decode cX8_isTelling 65 = .ok (.aload_n 0, 1) := by decide +kernel
theorem dX8_isTelling_66 : decode cX8_isTelling 66 = .ok (.getfield 51, 3) := by decide +kernel
theorem dX8_isTelling_69 : decode cX8_isTelling 69 = .ok (.iload 5, 2) := by decide +kernel
theorem dX8_isTelling_71 : decode cX8_isTelling 71 = .ok (.iaload, 1) := by decide +kernel
theorem dX8_isTelling_72 : decode cX8_isTelling 72 = .ok (.invokestatic 79, 3) := by decide +kernel
theorem dX8_isTelling_75 : decode cX8_isTelling 75 = .ok (.ifCond .ne 7, 3) := by decide +kernel
theorem dX8_isTelling_78 : decode cX8_isTelling 78 = .ok (.iconst 1, 1) := by decide +kernel
theorem dX8_isTelling_79 : decode cX8_isTelling 79 = .ok (.goto 4, 3) := by decide +kernel
theorem dX8_isTelling_82 : decode cX8_isTelling 82 = .ok (.iconst 0, 1) := by decide +kernel
theorem dX8_isTelling_83 : decode cX8_isTelling 83 = .ok (.istore 4, 2) := by decide +kernel
theorem dX8_isTelling_85 : decode cX8_isTelling 85 = .ok (.iload_n 2, 1) := by decide +kernel
theorem dX8_isTelling_86 : decode cX8_isTelling 86 = .ok (.iconst 1, 1) := by decide +kernel
theorem dX8_isTelling_87 : decode cX8_isTelling 87 = .ok (.aload_n 0, 1) := by decide +kernel
theorem dX8_isTelling_88 : decode cX8_isTelling 88 = .ok (.getfield 51, 3) := by decide +kernel
theorem dX8_isTelling_91 : decode cX8_isTelling 91 = .ok (.iload 5, 2) := by decide +kernel
theorem dX8_isTelling_93 : decode cX8_isTelling 93 = .ok (.iaload, 1) := by decide +kernel
theorem dX8_isTelling_94 : decode cX8_isTelling 94 = .ok (.ishl, 1) := by decide +kernel
theorem dX8_isTelling_95 : decode cX8_isTelling 95 = .ok (.ior, 1) := by decide +kernel
theorem dX8_isTelling_96 : decode cX8_isTelling 96 = .ok (.istore_n 2, 1) := by decide +kernel
theorem dX8_isTelling_97 : decode cX8_isTelling 97 = .ok (.iload_n 3, 1) := by decide +kernel
theorem dX8_isTelling_98 : decode cX8_isTelling 98 = .ok (.aload_n 0, 1) := by decide +kernel
theorem dX8_isTelling_99 : decode cX8_isTelling 99 = .ok (.getfield 66, 3) := by decide +kernel
theorem dX8_isTelling_102 : decode cX8_isTelling 102 = .ok (.idiv, 1) := by decide +kernel
theorem dX8_isTelling_103 : decode cX8_isTelling 103 = .ok (.istore_n 3, 1) := by decide +kernel
theorem dX8_isTelling_104 : decode cX8_isTelling 104 = .ok (.iinc 5 (-1), 3) := by decide +kernel
theorem dX8_isTelling_107 : decode cX8_isTelling 107 = .ok (.goto (-87), 3) := by decide +kernel
theorem dX8_isTelling_110 : decode cX8_isTelling 110 = .ok (.iload 4, 2) := by decide +kernel
theorem dX8_isTelling_112 : decode cX8_isTelling 112 = .ok (.ireturn, 1) := by decide +kernel
theorem dX8_best_0 : decode cX8_best 0 = .ok (.iload_n 1, 1) := by decide +kernel
theorem dX8_best_1 : decode cX8_best 1 = .ok (.i2l, 1) := by decide +kernel
theorem dX8_best_2 : decode cX8_best 2 = .ok (.ldc2_w 227, 3) := by decide +kernel
theorem dX8_best_5 : decode cX8_best 5 = .ok (.aload_n 0, 1) := by decide +kernel
theorem dX8_best_6 : decode cX8_best 6 = .ok (.getfield 73, 3) := by decide +kernel
theorem dX8_best_9 : decode cX8_best 9 = .ok (.iconst 1, 1) := by decide +kernel
theorem dX8_best_10 : decode cX8_best 10 = .ok (.isub, 1) := by decide +kernel
theorem dX8_best_11 : decode cX8_best 11 = .ok (.i2l, 1) := by decide +kernel
theorem dX8_best_12 : decode cX8_best 12 = .ok (.invokestatic 69, 3) := by decide +kernel
theorem dX8_best_15 : decode cX8_best 15 = .ok (.ifCond .ne 5, 3) := by decide +kernel
theorem dX8_best_18 : decode cX8_best 18 = .ok (.iconst (-1), 1) := by decide +kernel
theorem dX8_best_19 : decode cX8_best 19 = .ok (.ireturn, 1) := by decide +kernel
theorem dX8_best_20 : decode cX8_best 20 = .ok (.aload_n 0, 1) := by decide +kernel
theorem dX8_best_21 : decode cX8_best 21 = .ok (.invokevirtual 229, 3) := by decide +kernel
theorem dX8_best_24 : decode cX8_best 24 = .ok (.iconst 1, 1) := by decide +kernel
theorem dX8_best_25 : decode cX8_best 25 = .ok (.istore_n 2, 1) := by decide +kernel
theorem dX8_best_26 : decode cX8_best 26 = .ok (.iconst 0, 1) := by decide +kernel
theorem dX8_best_27 : decode cX8_best 27 = .ok (.istore_n 3, 1) := by decide +kernel
theorem dX8_best_28 : decode cX8_best 28 = .ok (.iload_n 3, 1) := by decide +kernel
theorem dX8_best_29 : decode cX8_best 29 = .ok (.aload_n 0, 1) := by decide +kernel
theorem dX8_best_30 : decode cX8_best 30 = .ok (.getfield 73, 3) := by decide +kernel
theorem dX8_best_33 : decode cX8_best 33 = .ok (.if_icmp .ge 31, 3) := by decide +kernel
theorem dX8_best_36 : decode cX8_best 36 = .ok (.iload_n 2, 1) := by decide +kernel
theorem dX8_best_37 : decode cX8_best 37 = .ok (.aload_n 0, 1) := by decide +kernel
theorem dX8_best_38 : decode cX8_best 38 = .ok (.getfield 221, 3) := by decide +kernel
theorem dX8_best_41 : decode cX8_best 41 = .ok (.iload_n 3, 1) := by decide +kernel
theorem dX8_best_42 : decode cX8_best 42 = .ok (.invokestatic 79, 3) := by decide +kernel
theorem dX8_best_45 : decode cX8_best 45 = .ok (.ifCond .eq 10, 3) := by decide +kernel
theorem dX8_best_48 : decode cX8_best 48 = .ok (.aload_n 0, 1) := by decide +kernel
theorem dX8_best_49 : decode cX8_best 49 = .ok (.getfield 66, 3) := by decide +kernel
theorem dX8_best_52 : decode cX8_best 52 = .ok (.goto 4, 3) := by decide +kernel
theorem dX8_best_55 : decode cX8_best 55 = .ok (.iconst 1, 1) := by decide +kernel
theorem dX8_best_56 : decode cX8_best 56 = .ok (.imul, 1) := by decide +kernel
theorem dX8_best_57 : decode cX8_best 57 = .ok (.istore_n 2, 1) := by decide +kernel
theorem dX8_best_58 : decode cX8_best 58 = .ok (.iinc 3 1, 3) := by decide +kernel
theorem dX8_best_61 : decode cX8_best 61 = .ok (.goto (-33), 3) := by decide +kernel
theorem dX8_best_64 : decode cX8_best 64 = .ok (.bipush (-4), 2) := by decide +kernel
theorem dX8_best_66 : decode cX8_best 66 = .ok (.istore_n 3, 1) := by decide +kernel
theorem dX8_best_67 : decode cX8_best 67 = .ok (.iconst 0, 1) := by decide +kernel
theorem dX8_best_68 : decode cX8_best 68 = .ok (.istore 4, 2) := by decide +kernel
theorem dX8_best_70 : decode cX8_best 70 = .ok (.iconst 0, 1) := by decide +kernel
theorem dX8_best_71 : decode cX8_best 71 = .ok (.istore 5, 2) := by decide +kernel
theorem dX8_best_73 : decode cX8_best 73 = .ok (.iload 5, 2) := by decide +kernel
theorem dX8_best_75 : decode cX8_best 75 = .ok (.iload_n 2, 1) := by decide +kernel
theorem dX8_best_76 : decode cX8_best 76 = .ok (.if_icmp .ge 121, 3) := by decide +kernel
theorem dX8_best_79 : decode cX8_best 79 = .ok (.aload_n 0, 1) := by decide +kernel
theorem dX8_best_80 : decode cX8_best 80 = .ok (.iload 5, 2) := by decide +kernel
theorem dX8_best_82 : decode cX8_best 82 = .ok (.invokevirtual 232, 3) := by decide +kernel
theorem dX8_best_85 : decode cX8_best 85 = .ok (.ifCond .eq 106, 3) := by decide +kernel
theorem dX8_best_88 : decode cX8_best 88 = .ok (.aload_n 0, 1) := by decide +kernel
theorem dX8_best_89 : decode cX8_best 89 = .ok (.invokevirtual 131, 3) := by decide +kernel
theorem dX8_best_92 : decode cX8_best 92 = .ok (.aload_n 0, 1) := by decide +kernel
theorem dX8_best_93 : decode cX8_best 93 = .ok (.iconst 1, 1) := by decide +kernel
theorem dX8_best_94 : decode cX8_best 94 = .ok (.putfield 87, 3) := by decide +kernel
theorem dX8_best_97 : decode cX8_best 97 = .ok (.aload_n 0, 1) := by decide +kernel
theorem dX8_best_98 : decode cX8_best 98 = .ok (.invokevirtual 215, 3) := by decide +kernel
theorem dX8_best_101 : decode cX8_best 101 = .ok (.istore 6, 2) := by decide +kernel
theorem dX8_best_103 : decode cX8_best 103 = .ok (.aload_n 0, 1) := by decide +kernel
theorem dX8_best_104 : decode cX8_best 104 = .ok (.iconst 0, 1) := by decide +kernel
theorem dX8_best_105 : decode cX8_best 105 = .ok (.putfield 87, 3) := by decide +kernel
theorem dX8_best_108 : decode cX8_best 108 = .ok (.iload 4, 2) := by decide +kernel
theorem dX8_best_110 : decode cX8_best 110 = .ok (.ifCond .eq 12, 3) := by decide +kernel
theorem dX8_best_113 : decode cX8_best 113 = .ok (.iload 6, 2) := by decide +kernel
theorem dX8_best_115 : decode cX8_best 115 = .ok (.iload_n 3, 1) := by decide +kernel
theorem dX8_best_116 : decode cX8_best 116 = .ok (.invokestatic 235, 3) := by decide +kernel
theorem dX8_best_119 : decode cX8_best 119 = .ok (.ifCond .eq 7, 3) := by decide +kernel
theorem dX8_best_122 : decode cX8_best 122 = .ok (.iconst 1, 1) := by decide +kernel
theorem dX8_best_123 : decode cX8_best 123 = .ok (.goto 4, 3) := by decide +kernel
theorem dX8_best_126 : decode cX8_best 126 = .ok (.iconst 0, 1) := by decide +kernel
theorem dX8_best_127 : decode cX8_best 127 = .ok (.istore 7, 2) := by decide +kernel
theorem dX8_best_129 : decode cX8_best 129 = .ok (.iconst 0, 1) := by decide +kernel
theorem dX8_best_130 : decode cX8_best 130 = .ok (.istore 8, 2) := by decide +kernel
theorem dX8_best_132 : decode cX8_best 132 = .ok (.iload 8, 2) := by decide +kernel
theorem dX8_best_134 : decode cX8_best 134 = .ok (.aload_n 0, 1) := by decide +kernel
theorem dX8_best_135 : decode cX8_best 135 = .ok (.getfield 73, 3) := by decide +kernel
theorem dX8_best_138 : decode cX8_best 138 = .ok (.if_icmp .ge 38, 3) := by decide +kernel
theorem dX8_best_141 : decode cX8_best 141 = .ok (.aload_n 0, 1) := by decide +kernel
theorem dX8_best_142 : decode cX8_best 142 = .ok (.getfield 63, 3) := by decide +kernel
theorem dX8_best_145 : decode cX8_best 145 = .ok (.iload 8, 2) := by decide +kernel
theorem dX8_best_147 : decode cX8_best 147 = .ok (.iload 7, 2) := by decide +kernel
theorem dX8_best_149 : decode cX8_best 149 = .ok (.ifCond .eq 13, 3) := by decide +kernel
theorem dX8_best_152 : decode cX8_best 152 = .ok (.aload_n 0, 1) := by decide +kernel
theorem dX8_best_153 : decode cX8_best 153 = .ok (.getfield 51, 3) := by decide +kernel
theorem dX8_best_156 : decode cX8_best 156 = .ok (.iload 8, 2) := by decide +kernel
theorem dX8_best_158 : decode cX8_best 158 = .ok (.iaload, 1) := by decide +kernel
theorem dX8_best_159 : decode cX8_best 159 = .ok (.goto 10, 3) := by decide +kernel
theorem dX8_best_162 : decode cX8_best 162 = .ok (.aload_n 0, 1) := by decide +kernel
theorem dX8_best_163 : decode cX8_best 163 = .ok (.getfield 63, 3) := by decide +kernel
theorem dX8_best_166 : decode cX8_best 166 = .ok (.iload 8, 2) := by decide +kernel
theorem dX8_best_168 : decode cX8_best 168 = .ok (.iaload, 1) := by decide +kernel
theorem dX8_best_169 : decode cX8_best 169 = .ok (.iastore, 1) := by decide +kernel
theorem dX8_best_170 : decode cX8_best 170 = .ok (.iinc 8 1, 3) := by decide +kernel
theorem dX8_best_173 : decode cX8_best 173 = .ok (.goto (-41), 3) := by decide +kernel
theorem dX8_best_176 : decode cX8_best 176 = .ok (.iload 7, 2) := by decide +kernel
theorem dX8_best_178 : decode cX8_best 178 = .ok (.ifCond .eq 8, 3) := by decide +kernel
theorem dX8_best_181 : decode cX8_best 181 = .ok (.iload 6, 2) := by decide +kernel
theorem dX8_best_183 : decode cX8_best 183 = .ok (.goto 4, 3) := by decide +kernel
theorem dX8_best_186 : decode cX8_best 186 = .ok (.iload_n 3, 1) := by decide +kernel
theorem dX8_best_187 : decode cX8_best 187 = .ok (.istore_n 3, 1) := by decide +kernel
theorem dX8_best_188 : decode cX8_best 188 = .ok (.iconst 1, 1) := by decide +kernel
theorem dX8_best_189 : decode cX8_best 189 = .ok (.istore 4, 2) := by decide +kernel
theorem dX8_best_191 : decode cX8_best 191 = .ok (.iinc 5 1, 3) := by decide +kernel
theorem dX8_best_194 : decode cX8_best 194 = .ok (.goto (-121), 3) := by decide +kernel
theorem dX8_best_197 : decode cX8_best 197 = .ok (.iload_n 1, 1) := by decide +kernel
theorem dX8_best_198 : decode cX8_best 198 = .ok (.ifCond .ge 7, 3) := by decide +kernel
theorem dX8_best_201 : decode cX8_best 201 = .ok (.iload_n 3, 1) := by decide +kernel
theorem dX8_best_202 : decode cX8_best 202 = .ok (.goto 9, 3) := by decide +kernel
theorem dX8_best_205 : decode cX8_best 205 = .ok (.aload_n 0, 1) := by decide +kernel
theorem dX8_best_206 : decode cX8_best 206 = .ok (.getfield 63, 3) := by decide +kernel
theorem dX8_best_209 : decode cX8_best 209 = .ok (.iload_n 1, 1) := by decide +kernel
theorem dX8_best_210 : decode cX8_best 210 = .ok (.iaload, 1) := by decide +kernel
theorem dX8_best_211 : decode cX8_best 211 = .ok (.ireturn, 1) := by decide +kernel
theorem dX8_teaches_0 : decode cX8_teaches 0 = .ok (.iload_n 1, 1) := by decide +kernel
theorem dX8_teaches_1 : decode cX8_teaches 1 = .ok (.i2l, 1) := by decide +kernel
theorem dX8_teaches_2 : decode cX8_teaches 2 = .ok (.lconst 0, 1) := by decide +kernel
theorem dX8_teaches_3 : decode cX8_teaches 3 = .ok (.lconst 1, 1) := by decide +kernel
theorem dX8_teaches_4 : decode cX8_teaches 4 = .ok (.invokestatic 69, 3) := by decide +kernel
theorem dX8_teaches_7 : decode cX8_teaches 7 = .ok (.ifCond .ne 5, 3) := by decide +kernel
theorem dX8_teaches_10 : decode cX8_teaches 10 = .ok (.iconst (-1), 1) := by decide +kernel
theorem dX8_teaches_11 : decode cX8_teaches 11 = .ok (.ireturn, 1) := by decide +kernel
theorem dX8_teaches_12 : decode cX8_teaches 12 = .ok (.bipush (-4), 2) := by decide +kernel
theorem dX8_teaches_14 : decode cX8_teaches 14 = .ok (.istore_n 2, 1) := by decide +kernel
theorem dX8_teaches_15 : decode cX8_teaches 15 = .ok (.bipush (-4), 2) := by decide +kernel
theorem dX8_teaches_17 : decode cX8_teaches 17 = .ok (.istore_n 3, 1) := by decide +kernel
theorem dX8_teaches_18 : decode cX8_teaches 18 = .ok (.iconst 0, 1) := by decide +kernel
theorem dX8_teaches_19 : decode cX8_teaches 19 = .ok (.istore 4, 2) := by decide +kernel
theorem dX8_teaches_21 : decode cX8_teaches 21 = .ok (.iload 4, 2) := by decide +kernel
theorem dX8_teaches_23 : decode cX8_teaches 23 = .ok (.aload_n 0, 1) := by decide +kernel
theorem dX8_teaches_24 : decode cX8_teaches 24 = .ok (.getfield 73, 3) := by decide +kernel
theorem dX8_teaches_27 : decode cX8_teaches 27 = .ok (.if_icmp .ge 135, 3) := by decide +kernel
theorem dX8_teaches_30 : decode cX8_teaches 30 = .ok (.iconst 0, 1) := by decide +kernel
theorem dX8_teaches_31 : decode cX8_teaches 31 = .ok (.istore 5, 2) := by decide +kernel
theorem dX8_teaches_33 : decode cX8_teaches 33 = .ok (.iload 5, 2) := by decide +kernel
theorem dX8_teaches_35 : decode cX8_teaches 35 = .ok (.bipush 8, 2) := by decide +kernel
theorem dX8_teaches_37 : decode cX8_teaches 37 = .ok (.if_icmp .ge 119, 3) := by decide +kernel
theorem dX8_teaches_40 : decode cX8_teaches 40 = .ok (.aload_n 0, 1) := by decide +kernel
theorem dX8_teaches_41 : decode cX8_teaches 41 = .ok (.getfield 16, 3) := by decide +kernel
theorem dX8_teaches_44 : decode cX8_teaches 44 = .ok (.bipush 19, 2) := by decide +kernel
theorem dX8_teaches_46 : decode cX8_teaches 46 = .ok (.iload 4, 2) := by decide +kernel
theorem dX8_teaches_48 : decode cX8_teaches 48 = .ok (.iadd, 1) := by decide +kernel
theorem dX8_teaches_49 : decode cX8_teaches 49 = .ok (.iaload, 1) := by decide +kernel
theorem dX8_teaches_50 : decode cX8_teaches 50 = .ok (.ifCond .ne 100, 3) := by decide +kernel
theorem dX8_teaches_53 : decode cX8_teaches 53 = .ok (.aload_n 0, 1) := by decide +kernel
theorem dX8_teaches_54 : decode cX8_teaches 54 = .ok (.getfield 16, 3) := by decide +kernel
theorem dX8_teaches_57 : decode cX8_teaches 57 = .ok (.bipush 9, 2) := by decide +kernel
theorem dX8_teaches_59 : decode cX8_teaches 59 = .ok (.iload 4, 2) := by decide +kernel
theorem dX8_teaches_61 : decode cX8_teaches 61 = .ok (.iadd, 1) := by decide +kernel
theorem dX8_teaches_62 : decode cX8_teaches 62 = .ok (.iaload, 1) := by decide +kernel
theorem dX8_teaches_63 : decode cX8_teaches 63 = .ok (.iload 5, 2) := by decide +kernel
theorem dX8_teaches_65 : decode cX8_teaches 65 = .ok (.invokestatic 79, 3) := by decide +kernel
theorem dX8_teaches_68 : decode cX8_teaches 68 = .ok (.ifCond .ne 82, 3) := by decide +kernel
theorem dX8_teaches_71 : decode cX8_teaches 71 = .ok (.aload_n 0, 1) := by decide +kernel
theorem dX8_teaches_72 : decode cX8_teaches 72 = .ok (.invokevirtual 131, 3) := by decide +kernel
theorem dX8_teaches_75 : decode cX8_teaches 75 = .ok (.aload_n 0, 1) := by decide +kernel
theorem dX8_teaches_76 : decode cX8_teaches 76 = .ok (.getfield 19, 3) := by decide +kernel
theorem dX8_teaches_79 : decode cX8_teaches 79 = .ok (.bipush 9, 2) := by decide +kernel
theorem dX8_teaches_81 : decode cX8_teaches 81 = .ok (.iload 4, 2) := by decide +kernel
theorem dX8_teaches_83 : decode cX8_teaches 83 = .ok (.iadd, 1) := by decide +kernel
theorem dX8_teaches_84 : decode cX8_teaches 84 = .ok (.dup2, 1) := by decide +kernel
theorem dX8_teaches_85 : decode cX8_teaches 85 = .ok (.iaload, 1) := by decide +kernel
theorem dX8_teaches_86 : decode cX8_teaches 86 = .ok (.iconst 1, 1) := by decide +kernel
theorem dX8_teaches_87 : decode cX8_teaches 87 = .ok (.iload 5, 2) := by decide +kernel
theorem dX8_teaches_89 : decode cX8_teaches 89 = .ok (.ishl, 1) := by decide +kernel
theorem dX8_teaches_90 : decode cX8_teaches 90 = .ok (.ior, 1) := by decide +kernel
theorem dX8_teaches_91 : decode cX8_teaches 91 = .ok (.iastore, 1) := by decide +kernel
theorem dX8_teaches_92 : decode cX8_teaches 92 = .ok (.aload_n 0, 1) := by decide +kernel
theorem dX8_teaches_93 : decode cX8_teaches 93 = .ok (.invokevirtual 215, 3) := by decide +kernel
theorem dX8_teaches_96 : decode cX8_teaches 96 = .ok (.istore 6, 2) := by decide +kernel
theorem dX8_teaches_98 : decode cX8_teaches 98 = .ok (.iload_n 2, 1) := by decide +kernel
theorem dX8_teaches_99 : decode cX8_teaches 99 = .ok (.bipush (-4), 2) := by decide +kernel
theorem dX8_teaches_101 : decode cX8_teaches 101 = .ok (.if_icmp .eq 12, 3) := by decide +kernel
theorem dX8_teaches_104 : decode cX8_teaches 104 = .ok (.iload 6, 2) := by decide +kernel
theorem dX8_teaches_106 : decode cX8_teaches 106 = .ok (.iload_n 3, 1) := by decide +kernel
theorem dX8_teaches_107 : decode cX8_teaches 107 = .ok (.invokestatic 235, 3) := by decide +kernel
theorem dX8_teaches_110 : decode cX8_teaches 110 = .ok (.ifCond .eq 7, 3) := by decide +kernel
theorem dX8_teaches_113 : decode cX8_teaches 113 = .ok (.iconst 1, 1) := by decide +kernel
theorem dX8_teaches_114 : decode cX8_teaches 114 = .ok (.goto 4, 3) := by decide +kernel
theorem dX8_teaches_117 : decode cX8_teaches 117 = .ok (.iconst 0, 1) := by decide +kernel
theorem dX8_teaches_118 : decode cX8_teaches 118 = .ok (.istore 7, 2) := by decide +kernel
theorem dX8_teaches_120 : decode cX8_teaches 120 = .ok (.iload 7, 2) := by decide +kernel
theorem dX8_teaches_122 : decode cX8_teaches 122 = .ok (.ifCond .eq 14, 3) := by decide +kernel
theorem dX8_teaches_125 : decode cX8_teaches 125 = .ok (.bipush 10, 2) := by decide +kernel
theorem dX8_teaches_127 : decode cX8_teaches 127 = .ok (.iload 4, 2) := by decide +kernel
theorem dX8_teaches_129 : decode cX8_teaches 129 = .ok (.imul, 1) := by decide +kernel
theorem dX8_teaches_130 : decode cX8_teaches 130 = .ok (.iload 5, 2) := by decide +kernel
theorem dX8_teaches_132 : decode cX8_teaches 132 = .ok (.iadd, 1) := by decide +kernel
theorem dX8_teaches_133 : decode cX8_teaches 133 = .ok (.goto 4, 3) := by decide +kernel
theorem dX8_teaches_136 : decode cX8_teaches 136 = .ok (.iload_n 2, 1) := by decide +kernel
theorem dX8_teaches_137 : decode cX8_teaches 137 = .ok (.istore_n 2, 1) := by decide +kernel
theorem dX8_teaches_138 : decode cX8_teaches 138 = .ok (.iload 7, 2) := by decide +kernel
theorem dX8_teaches_140 : decode cX8_teaches 140 = .ok (.ifCond .eq 8, 3) := by decide +kernel
theorem dX8_teaches_143 : decode cX8_teaches 143 = .ok (.iload 6, 2) := by decide +kernel
theorem dX8_teaches_145 : decode cX8_teaches 145 = .ok (.goto 4, 3) := by decide +kernel
theorem dX8_teaches_148 : decode cX8_teaches 148 = .ok (.iload_n 3, 1) := by decide +kernel
theorem dX8_teaches_149 : decode cX8_teaches 149 = .ok (.istore_n 3, 1) := by decide +kernel
theorem dX8_teaches_150 : decode cX8_teaches 150 = .ok (.iinc 5 1, 3) := by decide +kernel
theorem dX8_teaches_153 : decode cX8_teaches 153 = .ok (.goto (-120), 3) := by decide +kernel
theorem dX8_teaches_156 : decode cX8_teaches 156 = .ok (.iinc 4 1, 3) := by decide +kernel
theorem dX8_teaches_159 : decode cX8_teaches 159 = .ok (.goto (-138), 3) := by decide +kernel
theorem dX8_teaches_162 : decode cX8_teaches 162 = .ok (.iload_n 1, 1) := by decide +kernel
theorem dX8_teaches_163 : decode cX8_teaches 163 = .ok (.ifCond .ne 7, 3) := by decide +kernel
theorem dX8_teaches_166 : decode cX8_teaches 166 = .ok (.iload_n 2, 1) := by decide +kernel
theorem dX8_teaches_167 : decode cX8_teaches 167 = .ok (.goto 4, 3) := by decide +kernel
theorem dX8_teaches_170 : decode cX8_teaches 170 = .ok (.iload_n 3, 1) := by decide +kernel
theorem dX8_teaches_171 : decode cX8_teaches 171 = .ok (.ireturn, 1) := by decide +kernel
theorem dX8_spare_0 : decode cX8_spare 0 = .ok (.iload_n 1, 1) := by decide +kernel
theorem dX8_spare_1 : decode cX8_spare 1 = .ok (.i2l, 1) := by decide +kernel
theorem dX8_spare_2 : decode cX8_spare 2 = .ok (.lconst 0, 1) := by decide +kernel
theorem dX8_spare_3 : decode cX8_spare 3 = .ok (.lconst 1, 1) := by decide +kernel
theorem dX8_spare_4 : decode cX8_spare 4 = .ok (.invokestatic 69, 3) := by decide +kernel
theorem dX8_spare_7 : decode cX8_spare 7 = .ok (.ifCond .ne 5, 3) := by decide +kernel
theorem dX8_spare_10 : decode cX8_spare 10 = .ok (.iconst (-1), 1) := by decide +kernel
theorem dX8_spare_11 : decode cX8_spare 11 = .ok (.ireturn, 1) := by decide +kernel
theorem dX8_spare_12 : decode cX8_spare 12 = .ok (.bipush (-4), 2) := by decide +kernel
theorem dX8_spare_14 : decode cX8_spare 14 = .ok (.istore_n 2, 1) := by decide +kernel
theorem dX8_spare_15 : decode cX8_spare 15 = .ok (.bipush (-4), 2) := by decide +kernel
theorem dX8_spare_17 : decode cX8_spare 17 = .ok (.istore_n 3, 1) := by decide +kernel
theorem dX8_spare_18 : decode cX8_spare 18 = .ok (.iconst 0, 1) := by decide +kernel
theorem dX8_spare_19 : decode cX8_spare 19 = .ok (.istore 4, 2) := by decide +kernel
theorem dX8_spare_21 : decode cX8_spare 21 = .ok (.iload 4, 2) := by decide +kernel
theorem dX8_spare_23 : decode cX8_spare 23 = .ok (.aload_n 0, 1) := by decide +kernel
theorem dX8_spare_24 : decode cX8_spare 24 = .ok (.getfield 66, 3) := by decide +kernel
theorem dX8_spare_27 : decode cX8_spare 27 = .ok (.if_icmp .ge 92, 3) := by decide +kernel
theorem dX8_spare_30 : decode cX8_spare 30 = .ok (.aload_n 0, 1) := by decide +kernel
theorem dX8_spare_31 : decode cX8_spare 31 = .ok (.getfield 16, 3) := by decide +kernel
theorem dX8_spare_34 : decode cX8_spare 34 = .ok (.iconst 0, 1) := by decide +kernel
theorem dX8_spare_35 : decode cX8_spare 35 = .ok (.iaload, 1) := by decide +kernel
theorem dX8_spare_36 : decode cX8_spare 36 = .ok (.iload 4, 2) := by decide +kernel
theorem dX8_spare_38 : decode cX8_spare 38 = .ok (.invokestatic 79, 3) := by decide +kernel
theorem dX8_spare_41 : decode cX8_spare 41 = .ok (.ifCond .ne 72, 3) := by decide +kernel
theorem dX8_spare_44 : decode cX8_spare 44 = .ok (.aload_n 0, 1) := by decide +kernel
theorem dX8_spare_45 : decode cX8_spare 45 = .ok (.invokevirtual 131, 3) := by decide +kernel
theorem dX8_spare_48 : decode cX8_spare 48 = .ok (.aload_n 0, 1) := by decide +kernel
theorem dX8_spare_49 : decode cX8_spare 49 = .ok (.getfield 19, 3) := by decide +kernel
theorem dX8_spare_52 : decode cX8_spare 52 = .ok (.iconst 0, 1) := by decide +kernel
theorem dX8_spare_53 : decode cX8_spare 53 = .ok (.dup2, 1) := by decide +kernel
theorem dX8_spare_54 : decode cX8_spare 54 = .ok (.iaload, 1) := by decide +kernel
theorem dX8_spare_55 : decode cX8_spare 55 = .ok (.iconst 1, 1) := by decide +kernel
theorem dX8_spare_56 : decode cX8_spare 56 = .ok (.iload 4, 2) := by decide +kernel
theorem dX8_spare_58 : decode cX8_spare 58 = .ok (.ishl, 1) := by decide +kernel
theorem dX8_spare_59 : decode cX8_spare 59 = .ok (.ior, 1) := by decide +kernel
theorem dX8_spare_60 : decode cX8_spare 60 = .ok (.iastore, 1) := by decide +kernel
theorem dX8_spare_61 : decode cX8_spare 61 = .ok (.aload_n 0, 1) := by decide +kernel
theorem dX8_spare_62 : decode cX8_spare 62 = .ok (.invokevirtual 215, 3) := by decide +kernel
theorem dX8_spare_65 : decode cX8_spare 65 = .ok (.istore 5, 2) := by decide +kernel
theorem dX8_spare_67 : decode cX8_spare 67 = .ok (.iload_n 2, 1) := by decide +kernel
theorem dX8_spare_68 : decode cX8_spare 68 = .ok (.bipush (-4), 2) := by decide +kernel
theorem dX8_spare_70 : decode cX8_spare 70 = .ok (.if_icmp .eq 12, 3) := by decide +kernel
theorem dX8_spare_73 : decode cX8_spare 73 = .ok (.iload 5, 2) := by decide +kernel
theorem dX8_spare_75 : decode cX8_spare 75 = .ok (.iload_n 3, 1) := by decide +kernel
theorem dX8_spare_76 : decode cX8_spare 76 = .ok (.invokestatic 235, 3) := by decide +kernel
theorem dX8_spare_79 : decode cX8_spare 79 = .ok (.ifCond .eq 7, 3) := by decide +kernel
theorem dX8_spare_82 : decode cX8_spare 82 = .ok (.iconst 1, 1) := by decide +kernel
theorem dX8_spare_83 : decode cX8_spare 83 = .ok (.goto 4, 3) := by decide +kernel
theorem dX8_spare_86 : decode cX8_spare 86 = .ok (.iconst 0, 1) := by decide +kernel
theorem dX8_spare_87 : decode cX8_spare 87 = .ok (.istore 6, 2) := by decide +kernel
theorem dX8_spare_89 : decode cX8_spare 89 = .ok (.iload 6, 2) := by decide +kernel
theorem dX8_spare_91 : decode cX8_spare 91 = .ok (.ifCond .eq 8, 3) := by decide +kernel
theorem dX8_spare_94 : decode cX8_spare 94 = .ok (.iload 4, 2) := by decide +kernel
theorem dX8_spare_96 : decode cX8_spare 96 = .ok (.goto 4, 3) := by decide +kernel
theorem dX8_spare_99 : decode cX8_spare 99 = .ok (.iload_n 2, 1) := by decide +kernel
theorem dX8_spare_100 : decode cX8_spare 100 = .ok (.istore_n 2, 1) := by decide +kernel
theorem dX8_spare_101 : decode cX8_spare 101 = .ok (.iload 6, 2) := by decide +kernel
theorem dX8_spare_103 : decode cX8_spare 103 = .ok (.ifCond .eq 8, 3) := by decide +kernel
theorem dX8_spare_106 : decode cX8_spare 106 = .ok (.iload 5, 2) := by decide +kernel
theorem dX8_spare_108 : decode cX8_spare 108 = .ok (.goto 4, 3) := by decide +kernel
theorem dX8_spare_111 : decode cX8_spare 111 = .ok (.iload_n 3, 1) := by decide +kernel
theorem dX8_spare_112 : decode cX8_spare 112 = .ok (.istore_n 3, 1) := by decide +kernel
theorem dX8_spare_113 : decode cX8_spare 113 = .ok (.iinc 4 1, 3) := by decide +kernel
theorem dX8_spare_116 : decode cX8_spare 116 = .ok (.goto (-95), 3) := by decide +kernel
theorem dX8_spare_119 : decode cX8_spare 119 = .ok (.iload_n 1, 1) := by decide +kernel
theorem dX8_spare_120 : decode cX8_spare 120 = .ok (.ifCond .ne 7, 3) := by decide +kernel
theorem dX8_spare_123 : decode cX8_spare 123 = .ok (.iload_n 2, 1) := by decide +kernel
theorem dX8_spare_124 : decode cX8_spare 124 = .ok (.goto 4, 3) := by decide +kernel
theorem dX8_spare_127 : decode cX8_spare 127 = .ok (.iload_n 3, 1) := by decide +kernel
theorem dX8_spare_128 : decode cX8_spare 128 = .ok (.ireturn, 1) := by decide +kernel
theorem dX8_before_0 : decode cX8_before 0 = .ok (.aload_n 0, 1) := by decide +kernel
theorem dX8_before_1 : decode cX8_before 1 = .ok (.iload_n 1, 1) := by decide +kernel
theorem dX8_before_2 : decode cX8_before 2 = .ok (.invokevirtual 128, 3) := by decide +kernel
theorem dX8_before_5 : decode cX8_before 5 = .ok (.ifCond .ne 5, 3) := by decide +kernel
theorem dX8_before_8 : decode cX8_before 8 = .ok (.iconst (-1), 1) := by decide +kernel
theorem dX8_before_9 : decode cX8_before 9 = .ok (.ireturn, 1) := by decide +kernel
theorem dX8_before_10 : decode cX8_before 10 = .ok (.bipush (-4), 2) := by decide +kernel
theorem dX8_before_12 : decode cX8_before 12 = .ok (.istore_n 2, 1) := by decide +kernel
theorem dX8_before_13 : decode cX8_before 13 = .ok (.bipush (-4), 2) := by decide +kernel
theorem dX8_before_15 : decode cX8_before 15 = .ok (.istore_n 3, 1) := by decide +kernel
theorem dX8_before_16 : decode cX8_before 16 = .ok (.aload_n 0, 1) := by decide +kernel
theorem dX8_before_17 : decode cX8_before 17 = .ok (.getfield 16, 3) := by decide +kernel
theorem dX8_before_20 : decode cX8_before 20 = .ok (.bipush 29, 2) := by decide +kernel
theorem dX8_before_22 : decode cX8_before 22 = .ok (.iaload, 1) := by decide +kernel
theorem dX8_before_23 : decode cX8_before 23 = .ok (.istore 4, 2) := by decide +kernel
theorem dX8_before_25 : decode cX8_before 25 = .ok (.iload 4, 2) := by decide +kernel
theorem dX8_before_27 : decode cX8_before 27 = .ok (.bipush 41, 2) := by decide +kernel
theorem dX8_before_29 : decode cX8_before 29 = .ok (.if_icmp .ge 90, 3) := by decide +kernel
theorem dX8_before_32 : decode cX8_before 32 = .ok (.aload_n 0, 1) := by decide +kernel
theorem dX8_before_33 : decode cX8_before 33 = .ok (.getfield 16, 3) := by decide +kernel
theorem dX8_before_36 : decode cX8_before 36 = .ok (.bipush 19, 2) := by decide +kernel
theorem dX8_before_38 : decode cX8_before 38 = .ok (.iload_n 1, 1) := by decide +kernel
theorem dX8_before_39 : decode cX8_before 39 = .ok (.iadd, 1) := by decide +kernel
theorem dX8_before_40 : decode cX8_before 40 = .ok (.iaload, 1) := by decide +kernel
theorem dX8_before_41 : decode cX8_before 41 = .ok (.ifCond .ne 78, 3) := by decide +kernel
theorem dX8_before_44 : decode cX8_before 44 = .ok (.aload_n 0, 1) := by decide +kernel
theorem dX8_before_45 : decode cX8_before 45 = .ok (.invokevirtual 131, 3) := by decide +kernel
theorem dX8_before_48 : decode cX8_before 48 = .ok (.aload_n 0, 1) := by decide +kernel
theorem dX8_before_49 : decode cX8_before 49 = .ok (.getfield 19, 3) := by decide +kernel
theorem dX8_before_52 : decode cX8_before 52 = .ok (.bipush 14, 2) := by decide +kernel
theorem dX8_before_54 : decode cX8_before 54 = .ok (.iload_n 1, 1) := by decide +kernel
theorem dX8_before_55 : decode cX8_before 55 = .ok (.iadd, 1) := by decide +kernel
theorem dX8_before_56 : decode cX8_before 56 = .ok (.iload 4, 2) := by decide +kernel
theorem dX8_before_58 : decode cX8_before 58 = .ok (.iastore, 1) := by decide +kernel
theorem dX8_before_59 : decode cX8_before 59 = .ok (.aload_n 0, 1) := by decide +kernel
theorem dX8_before_60 : decode cX8_before 60 = .ok (.iload_n 1, 1) := by decide +kernel
theorem dX8_before_61 : decode cX8_before 61 = .ok (.invokevirtual 212, 3) := by decide +kernel
theorem dX8_before_64 : decode cX8_before 64 = .ok (.istore 5, 2) := by decide +kernel
theorem dX8_before_66 : decode cX8_before 66 = .ok (.iload 5, 2) := by decide +kernel
theorem dX8_before_68 : decode cX8_before 68 = .ok (.bipush (-4), 2) := by decide +kernel
theorem dX8_before_70 : decode cX8_before 70 = .ok (.if_icmp .eq 16, 3) := by decide +kernel
theorem dX8_before_73 : decode cX8_before 73 = .ok (.iload_n 3, 1) := by decide +kernel
theorem dX8_before_74 : decode cX8_before 74 = .ok (.iload 5, 2) := by decide +kernel
theorem dX8_before_76 : decode cX8_before 76 = .ok (.invokestatic 235, 3) := by decide +kernel
theorem dX8_before_79 : decode cX8_before 79 = .ok (.ifCond .ne 7, 3) := by decide +kernel
theorem dX8_before_82 : decode cX8_before 82 = .ok (.iconst 1, 1) := by decide +kernel
theorem dX8_before_83 : decode cX8_before 83 = .ok (.goto 4, 3) := by decide +kernel
theorem dX8_before_86 : decode cX8_before 86 = .ok (.iconst 0, 1) := by decide +kernel
theorem dX8_before_87 : decode cX8_before 87 = .ok (.istore 6, 2) := by decide +kernel
theorem dX8_before_89 : decode cX8_before 89 = .ok (.iload 6, 2) := by decide +kernel
theorem dX8_before_91 : decode cX8_before 91 = .ok (.ifCond .eq 8, 3) := by decide +kernel
theorem dX8_before_94 : decode cX8_before 94 = .ok (.iload 4, 2) := by decide +kernel
theorem dX8_before_96 : decode cX8_before 96 = .ok (.goto 4, 3) := by decide +kernel
theorem dX8_before_99 : decode cX8_before 99 = .ok (.iload_n 2, 1) := by decide +kernel
theorem dX8_before_100 : decode cX8_before 100 = .ok (.istore_n 2, 1) := by decide +kernel
theorem dX8_before_101 : decode cX8_before 101 = .ok (.iload 6, 2) := by decide +kernel
theorem dX8_before_103 : decode cX8_before 103 = .ok (.ifCond .eq 8, 3) := by decide +kernel
theorem dX8_before_106 : decode cX8_before 106 = .ok (.iload 5, 2) := by decide +kernel
theorem dX8_before_108 : decode cX8_before 108 = .ok (.goto 4, 3) := by decide +kernel
theorem dX8_before_111 : decode cX8_before 111 = .ok (.iload_n 3, 1) := by decide +kernel
theorem dX8_before_112 : decode cX8_before 112 = .ok (.istore_n 3, 1) := by decide +kernel
theorem dX8_before_113 : decode cX8_before 113 = .ok (.iinc 4 1, 3) := by decide +kernel
theorem dX8_before_116 : decode cX8_before 116 = .ok (.goto (-91), 3) := by decide +kernel
theorem dX8_before_119 : decode cX8_before 119 = .ok (.iload_n 2, 1) := by decide +kernel
theorem dX8_before_120 : decode cX8_before 120 = .ok (.ireturn, 1) := by decide +kernel
theorem dX8_cramp_0 : decode cX8_cramp 0 = .ok (.iload_n 1, 1) := by decide +kernel
theorem dX8_cramp_1 : decode cX8_cramp 1 = .ok (.i2l, 1) := by decide +kernel
theorem dX8_cramp_2 : decode cX8_cramp 2 = .ok (.lconst 0, 1) := by decide +kernel
theorem dX8_cramp_3 : decode cX8_cramp 3 = .ok (.ldc2_w 238, 3) := by decide +kernel
theorem dX8_cramp_6 : decode cX8_cramp 6 = .ok (.invokestatic 69, 3) := by decide +kernel
theorem dX8_cramp_9 : decode cX8_cramp 9 = .ok (.ifCond .eq 25, 3) := by decide +kernel
theorem dX8_cramp_12 : decode cX8_cramp 12 = .ok (.iload_n 2, 1) := by decide +kernel
theorem dX8_cramp_13 : decode cX8_cramp 13 = .ok (.i2l, 1) := by decide +kernel
theorem dX8_cramp_14 : decode cX8_cramp 14 = .ok (.lconst 0, 1) := by decide +kernel
theorem dX8_cramp_15 : decode cX8_cramp 15 = .ok (.ldc2_w 240, 3) := by decide +kernel
theorem dX8_cramp_18 : decode cX8_cramp 18 = .ok (.invokestatic 69, 3) := by decide +kernel
theorem dX8_cramp_21 : decode cX8_cramp 21 = .ok (.ifCond .eq 13, 3) := by decide +kernel
theorem dX8_cramp_24 : decode cX8_cramp 24 = .ok (.iload_n 3, 1) := by decide +kernel
theorem dX8_cramp_25 : decode cX8_cramp 25 = .ok (.i2l, 1) := by decide +kernel
theorem dX8_cramp_26 : decode cX8_cramp 26 = .ok (.lconst 0, 1) := by decide +kernel
theorem dX8_cramp_27 : decode cX8_cramp 27 = .ok (.lconst 1, 1) := by decide +kernel
theorem dX8_cramp_28 : decode cX8_cramp 28 = .ok (.invokestatic 69, 3) := by decide +kernel
theorem dX8_cramp_31 : decode cX8_cramp 31 = .ok (.ifCond .ne 5, 3) := by decide +kernel
theorem dX8_cramp_34 : decode cX8_cramp 34 = .ok (.iconst (-1), 1) := by decide +kernel
theorem dX8_cramp_35 : decode cX8_cramp 35 = .ok (.ireturn, 1) := by decide +kernel
theorem dX8_cramp_36 : decode cX8_cramp 36 = .ok (.iconst 0, 1) := by decide +kernel
theorem dX8_cramp_37 : decode cX8_cramp 37 = .ok (.istore 4, 2) := by decide +kernel
theorem dX8_cramp_39 : decode cX8_cramp 39 = .ok (.iconst 0, 1) := by decide +kernel
theorem dX8_cramp_40 : decode cX8_cramp 40 = .ok (.istore 5, 2) := by decide +kernel
theorem dX8_cramp_42 : decode cX8_cramp 42 = .ok (.iconst 0, 1) := by decide +kernel
theorem dX8_cramp_43 : decode cX8_cramp 43 = .ok (.istore 6, 2) := by decide +kernel
theorem dX8_cramp_45 : decode cX8_cramp 45 = .ok (.iload 6, 2) := by decide +kernel
theorem dX8_cramp_47 : decode cX8_cramp 47 = .ok (.iconst 1, 1) := by decide +kernel
theorem dX8_cramp_48 : decode cX8_cramp 48 = .ok (.aload_n 0, 1) := by decide +kernel
theorem dX8_cramp_49 : decode cX8_cramp 49 = .ok (.getfield 73, 3) := by decide +kernel
theorem dX8_cramp_52 : decode cX8_cramp 52 = .ok (.ishl, 1) := by decide +kernel
theorem dX8_cramp_53 : decode cX8_cramp 53 = .ok (.if_icmp .ge 171, 3) := by decide +kernel
theorem dX8_cramp_56 : decode cX8_cramp 56 = .ok (.iconst 1, 1) := by decide +kernel
theorem dX8_cramp_57 : decode cX8_cramp 57 = .ok (.istore 7, 2) := by decide +kernel
theorem dX8_cramp_59 : decode cX8_cramp 59 = .ok (.iconst 0, 1) := by decide +kernel
theorem dX8_cramp_60 : decode cX8_cramp 60 = .ok (.istore 8, 2) := by decide +kernel
theorem dX8_cramp_62 : decode cX8_cramp 62 = .ok (.iconst 0, 1) := by decide +kernel
theorem dX8_cramp_63 : decode cX8_cramp 63 = .ok (.istore 9, 2) := by decide +kernel
theorem dX8_cramp_65 : decode cX8_cramp 65 = .ok (.iload 9, 2) := by decide +kernel
theorem dX8_cramp_67 : decode cX8_cramp 67 = .ok (.aload_n 0, 1) := by decide +kernel
theorem dX8_cramp_68 : decode cX8_cramp 68 = .ok (.getfield 73, 3) := by decide +kernel
theorem dX8_cramp_71 : decode cX8_cramp 71 = .ok (.if_icmp .ge 123, 3) := by decide +kernel
theorem dX8_cramp_74 : decode cX8_cramp 74 = .ok (.aload_n 0, 1) := by decide +kernel
theorem dX8_cramp_75 : decode cX8_cramp 75 = .ok (.getfield 16, 3) := by decide +kernel
theorem dX8_cramp_78 : decode cX8_cramp 78 = .ok (.bipush 19, 2) := by decide +kernel
theorem dX8_cramp_80 : decode cX8_cramp 80 = .ok (.iload 9, 2) := by decide +kernel
theorem dX8_cramp_82 : decode cX8_cramp 82 = .ok (.iadd, 1) := by decide +kernel
theorem dX8_cramp_83 : decode cX8_cramp 83 = .ok (.iaload, 1) := by decide +kernel
theorem dX8_cramp_84 : decode cX8_cramp 84 = .ok (.iconst 1, 1) := by decide +kernel
theorem dX8_cramp_85 : decode cX8_cramp 85 = .ok (.if_icmp .ne 7, 3) := by decide +kernel
theorem dX8_cramp_88 : decode cX8_cramp 88 = .ok (.iconst 1, 1) := by decide +kernel
theorem dX8_cramp_89 : decode cX8_cramp 89 = .ok (.goto 4, 3) := by decide +kernel
theorem dX8_cramp_92 : decode cX8_cramp 92 = .ok (.iconst 0, 1) := by decide +kernel
theorem dX8_cramp_93 : decode cX8_cramp 93 = .ok (.istore 10, 2) := by decide +kernel
theorem dX8_cramp_95 : decode cX8_cramp 95 = .ok (.iload 6, 2) := by decide +kernel
theorem dX8_cramp_97 : decode cX8_cramp 97 = .ok (.iload 9, 2) := by decide +kernel
theorem dX8_cramp_99 : decode cX8_cramp 99 = .ok (.invokestatic 79, 3) := by decide +kernel
theorem dX8_cramp_102 : decode cX8_cramp 102 = .ok (.istore 11, 2) := by decide +kernel
theorem dX8_cramp_104 : decode cX8_cramp 104 = .ok (.iload 7, 2) := by decide +kernel
theorem dX8_cramp_106 : decode cX8_cramp 106 = .ok (.iload 10, 2) := by decide +kernel
theorem dX8_cramp_108 : decode cX8_cramp 108 = .ok (.ifCond .eq 19, 3) := by decide +kernel
theorem dX8_cramp_111 : decode cX8_cramp 111 = .ok (.iload 11, 2) := by decide +kernel
theorem dX8_cramp_113 : decode cX8_cramp 113 = .ok (.ifCond .eq 7, 3) := by decide +kernel
theorem dX8_cramp_116 : decode cX8_cramp 116 = .ok (.iload_n 2, 1) := by decide +kernel
theorem dX8_cramp_117 : decode cX8_cramp 117 = .ok (.goto 20, 3) := by decide +kernel
theorem dX8_cramp_120 : decode cX8_cramp 120 = .ok (.bipush 10, 2) := by decide +kernel
theorem dX8_cramp_122 : decode cX8_cramp 122 = .ok (.iload_n 2, 1) := by decide +kernel
theorem dX8_cramp_123 : decode cX8_cramp 123 = .ok (.isub, 1) := by decide +kernel
theorem dX8_cramp_124 : decode cX8_cramp 124 = .ok (.goto 13, 3) := by decide +kernel
theorem dX8_cramp_127 : decode cX8_cramp 127 = .ok (.iload 11, 2) := by decide +kernel
theorem dX8_cramp_129 : decode cX8_cramp 129 = .ok (.ifCond .eq 7, 3) := by decide +kernel
theorem dX8_cramp_132 : decode cX8_cramp 132 = .ok (.iconst 0, 1) := by decide +kernel
theorem dX8_cramp_133 : decode cX8_cramp 133 = .ok (.goto 4, 3) := by decide +kernel
theorem dX8_cramp_136 : decode cX8_cramp 136 = .ok (.iconst 1, 1) := by decide +kernel
theorem dX8_cramp_137 : decode cX8_cramp 137 = .ok (.imul, 1) := by decide +kernel
theorem dX8_cramp_138 : decode cX8_cramp 138 = .ok (.istore 7, 2) := by decide +kernel
theorem dX8_cramp_140 : decode cX8_cramp 140 = .ok (.iload 8, 2) := by decide +kernel
theorem dX8_cramp_142 : decode cX8_cramp 142 = .ok (.iload 10, 2) := by decide +kernel
theorem dX8_cramp_144 : decode cX8_cramp 144 = .ok (.ifCond .eq 40, 3) := by decide +kernel
theorem dX8_cramp_147 : decode cX8_cramp 147 = .ok (.aload_n 0, 1) := by decide +kernel
theorem dX8_cramp_148 : decode cX8_cramp 148 = .ok (.getfield 16, 3) := by decide +kernel
theorem dX8_cramp_151 : decode cX8_cramp 151 = .ok (.bipush 24, 2) := by decide +kernel
theorem dX8_cramp_153 : decode cX8_cramp 153 = .ok (.iload 9, 2) := by decide +kernel
theorem dX8_cramp_155 : decode cX8_cramp 155 = .ok (.iadd, 1) := by decide +kernel
theorem dX8_cramp_156 : decode cX8_cramp 156 = .ok (.iaload, 1) := by decide +kernel
theorem dX8_cramp_157 : decode cX8_cramp 157 = .ok (.iload 11, 2) := by decide +kernel
theorem dX8_cramp_159 : decode cX8_cramp 159 = .ok (.ifCond .eq 7, 3) := by decide +kernel
theorem dX8_cramp_162 : decode cX8_cramp 162 = .ok (.iconst 1, 1) := by decide +kernel
theorem dX8_cramp_163 : decode cX8_cramp 163 = .ok (.goto 4, 3) := by decide +kernel
theorem dX8_cramp_166 : decode cX8_cramp 166 = .ok (.iconst 0, 1) := by decide +kernel
theorem dX8_cramp_167 : decode cX8_cramp 167 = .ok (.iadd, 1) := by decide +kernel
theorem dX8_cramp_168 : decode cX8_cramp 168 = .ok (.aload_n 0, 1) := by decide +kernel
end
section
theorem dX8_cramp_169 : decode cX8_cramp 169 = .ok (.getfield 16, 3) := by decide +kernel
theorem dX8_cramp_172 : decode cX8_cramp 172 = .ok (.bipush 29, 2) := by decide +kernel
theorem dX8_cramp_174 : decode cX8_cramp 174 = .ok (.iaload, 1) := by decide +kernel
theorem dX8_cramp_175 : decode cX8_cramp 175 = .ok (.iconst 1, 1) := by decide +kernel
theorem dX8_cramp_176 : decode cX8_cramp 176 = .ok (.iadd, 1) := by decide +kernel
theorem dX8_cramp_177 : decode cX8_cramp 177 = .ok (.if_icmp .le 7, 3) := by decide +kernel
theorem dX8_cramp_180 : decode cX8_cramp 180 = .ok (.iconst 1, 1) := by decide +kernel
theorem dX8_cramp_181 : decode cX8_cramp 181 = .ok (.goto 4, 3) := by decide +kernel
theorem dX8_cramp_184 : decode cX8_cramp 184 = .ok (.iconst 0, 1) := by decide +kernel
theorem dX8_cramp_185 : decode cX8_cramp 185 = .ok (.iadd, 1) := by decide +kernel
theorem dX8_cramp_186 : decode cX8_cramp 186 = .ok (.istore 8, 2) := by decide +kernel
theorem dX8_cramp_188 : decode cX8_cramp 188 = .ok (.iinc 9 1, 3) := by decide +kernel
theorem dX8_cramp_191 : decode cX8_cramp 191 = .ok (.goto (-126), 3) := by decide +kernel
theorem dX8_cramp_194 : decode cX8_cramp 194 = .ok (.iload 5, 2) := by decide +kernel
theorem dX8_cramp_196 : decode cX8_cramp 196 = .ok (.iload 7, 2) := by decide +kernel
theorem dX8_cramp_198 : decode cX8_cramp 198 = .ok (.iadd, 1) := by decide +kernel
theorem dX8_cramp_199 : decode cX8_cramp 199 = .ok (.istore 5, 2) := by decide +kernel
theorem dX8_cramp_201 : decode cX8_cramp 201 = .ok (.iload 4, 2) := by decide +kernel
theorem dX8_cramp_203 : decode cX8_cramp 203 = .ok (.iload 8, 2) := by decide +kernel
theorem dX8_cramp_205 : decode cX8_cramp 205 = .ok (.iload_n 1, 1) := by decide +kernel
theorem dX8_cramp_206 : decode cX8_cramp 206 = .ok (.if_icmp .lt 8, 3) := by decide +kernel
theorem dX8_cramp_209 : decode cX8_cramp 209 = .ok (.iload 7, 2) := by decide +kernel
theorem dX8_cramp_211 : decode cX8_cramp 211 = .ok (.goto 4, 3) := by decide +kernel
theorem dX8_cramp_214 : decode cX8_cramp 214 = .ok (.iconst 0, 1) := by decide +kernel
theorem dX8_cramp_215 : decode cX8_cramp 215 = .ok (.iadd, 1) := by decide +kernel
theorem dX8_cramp_216 : decode cX8_cramp 216 = .ok (.istore 4, 2) := by decide +kernel
theorem dX8_cramp_218 : decode cX8_cramp 218 = .ok (.iinc 6 1, 3) := by decide +kernel
theorem dX8_cramp_221 : decode cX8_cramp 221 = .ok (.goto (-176), 3) := by decide +kernel
theorem dX8_cramp_224 : decode cX8_cramp 224 = .ok (.iload 4, 2) := by decide +kernel
theorem dX8_cramp_226 : decode cX8_cramp 226 = .ok (.istore 6, 2) := by decide +kernel
theorem dX8_cramp_228 : decode cX8_cramp 228 = .ok (.iload 5, 2) := by decide +kernel
theorem dX8_cramp_230 : decode cX8_cramp 230 = .ok (.istore 7, 2) := by decide +kernel
theorem dX8_cramp_232 : decode cX8_cramp 232 = .ok (.iload 7, 2) := by decide +kernel
theorem dX8_cramp_234 : decode cX8_cramp 234 = .ok (.ifCond .eq 21, 3) := by decide +kernel
theorem dX8_cramp_237 : decode cX8_cramp 237 = .ok (.iload 6, 2) := by decide +kernel
theorem dX8_cramp_239 : decode cX8_cramp 239 = .ok (.iload 7, 2) := by decide +kernel
theorem dX8_cramp_241 : decode cX8_cramp 241 = .ok (.irem, 1) := by decide +kernel
theorem dX8_cramp_242 : decode cX8_cramp 242 = .ok (.istore 8, 2) := by decide +kernel
theorem dX8_cramp_244 : decode cX8_cramp 244 = .ok (.iload 7, 2) := by decide +kernel
theorem dX8_cramp_246 : decode cX8_cramp 246 = .ok (.istore 6, 2) := by decide +kernel
theorem dX8_cramp_248 : decode cX8_cramp 248 = .ok (.iload 8, 2) := by decide +kernel
theorem dX8_cramp_250 : decode cX8_cramp 250 = .ok (.istore 7, 2) := by decide +kernel
theorem dX8_cramp_252 : decode cX8_cramp 252 = .ok (.goto (-20), 3) := by decide +kernel
theorem dX8_cramp_255 : decode cX8_cramp 255 = .ok (.iload_n 3, 1) := by decide +kernel
theorem dX8_cramp_256 : decode cX8_cramp 256 = .ok (.ifCond .ne 11, 3) := by decide +kernel
theorem dX8_cramp_259 : decode cX8_cramp 259 = .ok (.iload 4, 2) := by decide +kernel
theorem dX8_cramp_261 : decode cX8_cramp 261 = .ok (.iload 6, 2) := by decide +kernel
theorem dX8_cramp_263 : decode cX8_cramp 263 = .ok (.idiv, 1) := by decide +kernel
theorem dX8_cramp_264 : decode cX8_cramp 264 = .ok (.goto 8, 3) := by decide +kernel
theorem dX8_cramp_267 : decode cX8_cramp 267 = .ok (.iload 5, 2) := by decide +kernel
theorem dX8_cramp_269 : decode cX8_cramp 269 = .ok (.iload 6, 2) := by decide +kernel
theorem dX8_cramp_271 : decode cX8_cramp 271 = .ok (.idiv, 1) := by decide +kernel
theorem dX8_cramp_272 : decode cX8_cramp 272 = .ok (.ireturn, 1) := by decide +kernel
theorem dX8_image_0 : decode cX8_image 0 = .ok (.aload_n 0, 1) := by decide +kernel
theorem dX8_image_1 : decode cX8_image 1 = .ok (.getfield 25, 3) := by decide +kernel
theorem dX8_image_4 : decode cX8_image 4 = .ok (.iconst 0, 1) := by decide +kernel
theorem dX8_image_5 : decode cX8_image 5 = .ok (.aload_n 0, 1) := by decide +kernel
theorem dX8_image_6 : decode cX8_image 6 = .ok (.getfield 66, 3) := by decide +kernel
theorem dX8_image_9 : decode cX8_image 9 = .ok (.iastore, 1) := by decide +kernel
theorem dX8_image_10 : decode cX8_image 10 = .ok (.aload_n 0, 1) := by decide +kernel
theorem dX8_image_11 : decode cX8_image 11 = .ok (.getfield 25, 3) := by decide +kernel
theorem dX8_image_14 : decode cX8_image 14 = .ok (.iconst 1, 1) := by decide +kernel
theorem dX8_image_15 : decode cX8_image 15 = .ok (.aload_n 0, 1) := by decide +kernel
theorem dX8_image_16 : decode cX8_image 16 = .ok (.getfield 73, 3) := by decide +kernel
theorem dX8_image_19 : decode cX8_image 19 = .ok (.iastore, 1) := by decide +kernel
theorem dX8_image_20 : decode cX8_image 20 = .ok (.aload_n 0, 1) := by decide +kernel
theorem dX8_image_21 : decode cX8_image 21 = .ok (.getfield 25, 3) := by decide +kernel
theorem dX8_image_24 : decode cX8_image 24 = .ok (.iconst 2, 1) := by decide +kernel
theorem dX8_image_25 : decode cX8_image 25 = .ok (.aload_n 0, 1) := by decide +kernel
theorem dX8_image_26 : decode cX8_image 26 = .ok (.getfield 113, 3) := by decide +kernel
theorem dX8_image_29 : decode cX8_image 29 = .ok (.iastore, 1) := by decide +kernel
theorem dX8_image_30 : decode cX8_image 30 = .ok (.iconst 0, 1) := by decide +kernel
theorem dX8_image_31 : decode cX8_image 31 = .ok (.istore_n 1, 1) := by decide +kernel
theorem dX8_image_32 : decode cX8_image 32 = .ok (.iload_n 1, 1) := by decide +kernel
theorem dX8_image_33 : decode cX8_image 33 = .ok (.bipush 8, 2) := by decide +kernel
theorem dX8_image_35 : decode cX8_image 35 = .ok (.if_icmp .ge 23, 3) := by decide +kernel
theorem dX8_image_38 : decode cX8_image 38 = .ok (.aload_n 0, 1) := by decide +kernel
theorem dX8_image_39 : decode cX8_image 39 = .ok (.getfield 25, 3) := by decide +kernel
theorem dX8_image_42 : decode cX8_image 42 = .ok (.iconst 3, 1) := by decide +kernel
theorem dX8_image_43 : decode cX8_image 43 = .ok (.iload_n 1, 1) := by decide +kernel
theorem dX8_image_44 : decode cX8_image 44 = .ok (.iadd, 1) := by decide +kernel
theorem dX8_image_45 : decode cX8_image 45 = .ok (.aload_n 0, 1) := by decide +kernel
theorem dX8_image_46 : decode cX8_image 46 = .ok (.getfield 7, 3) := by decide +kernel
theorem dX8_image_49 : decode cX8_image 49 = .ok (.iload_n 1, 1) := by decide +kernel
theorem dX8_image_50 : decode cX8_image 50 = .ok (.iaload, 1) := by decide +kernel
theorem dX8_image_51 : decode cX8_image 51 = .ok (.iastore, 1) := by decide +kernel
theorem dX8_image_52 : decode cX8_image 52 = .ok (.iinc 1 1, 3) := by decide +kernel
theorem dX8_image_55 : decode cX8_image 55 = .ok (.goto (-23), 3) := by decide +kernel
theorem dX8_image_58 : decode cX8_image 58 = .ok (.iconst 0, 1) := by decide +kernel
theorem dX8_image_59 : decode cX8_image 59 = .ok (.istore_n 1, 1) := by decide +kernel
theorem dX8_image_60 : decode cX8_image 60 = .ok (.iload_n 1, 1) := by decide +kernel
theorem dX8_image_61 : decode cX8_image 61 = .ok (.iconst 5, 1) := by decide +kernel
theorem dX8_image_62 : decode cX8_image 62 = .ok (.if_icmp .ge 24, 3) := by decide +kernel
theorem dX8_image_65 : decode cX8_image 65 = .ok (.aload_n 0, 1) := by decide +kernel
theorem dX8_image_66 : decode cX8_image 66 = .ok (.getfield 25, 3) := by decide +kernel
theorem dX8_image_69 : decode cX8_image 69 = .ok (.bipush 11, 2) := by decide +kernel
theorem dX8_image_71 : decode cX8_image 71 = .ok (.iload_n 1, 1) := by decide +kernel
theorem dX8_image_72 : decode cX8_image 72 = .ok (.iadd, 1) := by decide +kernel
theorem dX8_image_73 : decode cX8_image 73 = .ok (.aload_n 0, 1) := by decide +kernel
theorem dX8_image_74 : decode cX8_image 74 = .ok (.getfield 13, 3) := by decide +kernel
theorem dX8_image_77 : decode cX8_image 77 = .ok (.iload_n 1, 1) := by decide +kernel
theorem dX8_image_78 : decode cX8_image 78 = .ok (.iaload, 1) := by decide +kernel
theorem dX8_image_79 : decode cX8_image 79 = .ok (.iastore, 1) := by decide +kernel
theorem dX8_image_80 : decode cX8_image 80 = .ok (.iinc 1 1, 3) := by decide +kernel
theorem dX8_image_83 : decode cX8_image 83 = .ok (.goto (-23), 3) := by decide +kernel
theorem dX8_image_86 : decode cX8_image 86 = .ok (.iconst 0, 1) := by decide +kernel
theorem dX8_image_87 : decode cX8_image 87 = .ok (.istore_n 1, 1) := by decide +kernel
theorem dX8_image_88 : decode cX8_image 88 = .ok (.iload_n 1, 1) := by decide +kernel
theorem dX8_image_89 : decode cX8_image 89 = .ok (.bipush 31, 2) := by decide +kernel
theorem dX8_image_91 : decode cX8_image 91 = .ok (.if_icmp .ge 21, 3) := by decide +kernel
theorem dX8_image_94 : decode cX8_image 94 = .ok (.aload_n 0, 1) := by decide +kernel
theorem dX8_image_95 : decode cX8_image 95 = .ok (.getfield 28, 3) := by decide +kernel
theorem dX8_image_98 : decode cX8_image 98 = .ok (.iload_n 1, 1) := by decide +kernel
theorem dX8_image_99 : decode cX8_image 99 = .ok (.aload_n 0, 1) := by decide +kernel
theorem dX8_image_100 : decode cX8_image 100 = .ok (.getfield 16, 3) := by decide +kernel
theorem dX8_image_103 : decode cX8_image 103 = .ok (.iload_n 1, 1) := by decide +kernel
theorem dX8_image_104 : decode cX8_image 104 = .ok (.iaload, 1) := by decide +kernel
theorem dX8_image_105 : decode cX8_image 105 = .ok (.iastore, 1) := by decide +kernel
theorem dX8_image_106 : decode cX8_image 106 = .ok (.iinc 1 1, 3) := by decide +kernel
theorem dX8_image_109 : decode cX8_image 109 = .ok (.goto (-21), 3) := by decide +kernel
theorem dX8_image_112 : decode cX8_image 112 = .ok (.iconst 0, 1) := by decide +kernel
theorem dX8_image_113 : decode cX8_image 113 = .ok (.istore_n 1, 1) := by decide +kernel
theorem dX8_image_114 : decode cX8_image 114 = .ok (.iload_n 1, 1) := by decide +kernel
theorem dX8_image_115 : decode cX8_image 115 = .ok (.sipush 248, 3) := by decide +kernel
theorem dX8_image_118 : decode cX8_image 118 = .ok (.if_icmp .ge 21, 3) := by decide +kernel
theorem dX8_image_121 : decode cX8_image 121 = .ok (.aload_n 0, 1) := by decide +kernel
theorem dX8_image_122 : decode cX8_image 122 = .ok (.getfield 31, 3) := by decide +kernel
theorem dX8_image_125 : decode cX8_image 125 = .ok (.iload_n 1, 1) := by decide +kernel
theorem dX8_image_126 : decode cX8_image 126 = .ok (.aload_n 0, 1) := by decide +kernel
theorem dX8_image_127 : decode cX8_image 127 = .ok (.getfield 22, 3) := by decide +kernel
theorem dX8_image_130 : decode cX8_image 130 = .ok (.iload_n 1, 1) := by decide +kernel
theorem dX8_image_131 : decode cX8_image 131 = .ok (.iaload, 1) := by decide +kernel
theorem dX8_image_132 : decode cX8_image 132 = .ok (.iastore, 1) := by decide +kernel
theorem dX8_image_133 : decode cX8_image 133 = .ok (.iinc 1 1, 3) := by decide +kernel
theorem dX8_image_136 : decode cX8_image 136 = .ok (.goto (-22), 3) := by decide +kernel
theorem dX8_image_139 : decode cX8_image 139 = .ok (.aload_n 0, 1) := by decide +kernel
theorem dX8_image_140 : decode cX8_image 140 = .ok (.iconst 1, 1) := by decide +kernel
theorem dX8_image_141 : decode cX8_image 141 = .ok (.putfield 242, 3) := by decide +kernel
theorem dX8_image_144 : decode cX8_image 144 = .ok (.iconst 1, 1) := by decide +kernel
theorem dX8_image_145 : decode cX8_image 145 = .ok (.ireturn, 1) := by decide +kernel
theorem dX8_restore_0 : decode cX8_restore 0 = .ok (.aload_n 0, 1) := by decide +kernel
theorem dX8_restore_1 : decode cX8_restore 1 = .ok (.getfield 242, 3) := by decide +kernel
theorem dX8_restore_4 : decode cX8_restore 4 = .ok (.ifCond .ne 6, 3) := by decide +kernel
theorem dX8_restore_7 : decode cX8_restore 7 = .ok (.bipush (-4), 2) := by decide +kernel
theorem dX8_restore_9 : decode cX8_restore 9 = .ok (.ireturn, 1) := by decide +kernel
theorem dX8_restore_10 : decode cX8_restore 10 = .ok (.aload_n 0, 1) := by decide +kernel
theorem dX8_restore_11 : decode cX8_restore 11 = .ok (.aload_n 0, 1) := by decide +kernel
theorem dX8_restore_12 : decode cX8_restore 12 = .ok (.getfield 25, 3) := by decide +kernel
theorem dX8_restore_15 : decode cX8_restore 15 = .ok (.iconst 0, 1) := by decide +kernel
theorem dX8_restore_16 : decode cX8_restore 16 = .ok (.iaload, 1) := by decide +kernel
theorem dX8_restore_17 : decode cX8_restore 17 = .ok (.putfield 66, 3) := by decide +kernel
theorem dX8_restore_20 : decode cX8_restore 20 = .ok (.aload_n 0, 1) := by decide +kernel
theorem dX8_restore_21 : decode cX8_restore 21 = .ok (.aload_n 0, 1) := by decide +kernel
theorem dX8_restore_22 : decode cX8_restore 22 = .ok (.getfield 25, 3) := by decide +kernel
theorem dX8_restore_25 : decode cX8_restore 25 = .ok (.iconst 1, 1) := by decide +kernel
theorem dX8_restore_26 : decode cX8_restore 26 = .ok (.iaload, 1) := by decide +kernel
theorem dX8_restore_27 : decode cX8_restore 27 = .ok (.putfield 73, 3) := by decide +kernel
theorem dX8_restore_30 : decode cX8_restore 30 = .ok (.aload_n 0, 1) := by decide +kernel
theorem dX8_restore_31 : decode cX8_restore 31 = .ok (.aload_n 0, 1) := by decide +kernel
theorem dX8_restore_32 : decode cX8_restore 32 = .ok (.getfield 25, 3) := by decide +kernel
theorem dX8_restore_35 : decode cX8_restore 35 = .ok (.iconst 2, 1) := by decide +kernel
theorem dX8_restore_36 : decode cX8_restore 36 = .ok (.iaload, 1) := by decide +kernel
theorem dX8_restore_37 : decode cX8_restore 37 = .ok (.putfield 113, 3) := by decide +kernel
theorem dX8_restore_40 : decode cX8_restore 40 = .ok (.iconst 0, 1) := by decide +kernel
theorem dX8_restore_41 : decode cX8_restore 41 = .ok (.istore_n 1, 1) := by decide +kernel
theorem dX8_restore_42 : decode cX8_restore 42 = .ok (.iload_n 1, 1) := by decide +kernel
theorem dX8_restore_43 : decode cX8_restore 43 = .ok (.bipush 8, 2) := by decide +kernel
theorem dX8_restore_45 : decode cX8_restore 45 = .ok (.if_icmp .ge 23, 3) := by decide +kernel
theorem dX8_restore_48 : decode cX8_restore 48 = .ok (.aload_n 0, 1) := by decide +kernel
theorem dX8_restore_49 : decode cX8_restore 49 = .ok (.getfield 7, 3) := by decide +kernel
theorem dX8_restore_52 : decode cX8_restore 52 = .ok (.iload_n 1, 1) := by decide +kernel
theorem dX8_restore_53 : decode cX8_restore 53 = .ok (.aload_n 0, 1) := by decide +kernel
theorem dX8_restore_54 : decode cX8_restore 54 = .ok (.getfield 25, 3) := by decide +kernel
theorem dX8_restore_57 : decode cX8_restore 57 = .ok (.iconst 3, 1) := by decide +kernel
theorem dX8_restore_58 : decode cX8_restore 58 = .ok (.iload_n 1, 1) := by decide +kernel
theorem dX8_restore_59 : decode cX8_restore 59 = .ok (.iadd, 1) := by decide +kernel
theorem dX8_restore_60 : decode cX8_restore 60 = .ok (.iaload, 1) := by decide +kernel
theorem dX8_restore_61 : decode cX8_restore 61 = .ok (.iastore, 1) := by decide +kernel
theorem dX8_restore_62 : decode cX8_restore 62 = .ok (.iinc 1 1, 3) := by decide +kernel
theorem dX8_restore_65 : decode cX8_restore 65 = .ok (.goto (-23), 3) := by decide +kernel
theorem dX8_restore_68 : decode cX8_restore 68 = .ok (.iconst 0, 1) := by decide +kernel
theorem dX8_restore_69 : decode cX8_restore 69 = .ok (.istore_n 1, 1) := by decide +kernel
theorem dX8_restore_70 : decode cX8_restore 70 = .ok (.iload_n 1, 1) := by decide +kernel
theorem dX8_restore_71 : decode cX8_restore 71 = .ok (.iconst 5, 1) := by decide +kernel
theorem dX8_restore_72 : decode cX8_restore 72 = .ok (.if_icmp .ge 24, 3) := by decide +kernel
theorem dX8_restore_75 : decode cX8_restore 75 = .ok (.aload_n 0, 1) := by decide +kernel
theorem dX8_restore_76 : decode cX8_restore 76 = .ok (.getfield 13, 3) := by decide +kernel
theorem dX8_restore_79 : decode cX8_restore 79 = .ok (.iload_n 1, 1) := by decide +kernel
theorem dX8_restore_80 : decode cX8_restore 80 = .ok (.aload_n 0, 1) := by decide +kernel
theorem dX8_restore_81 : decode cX8_restore 81 = .ok (.getfield 25, 3) := by decide +kernel
theorem dX8_restore_84 : decode cX8_restore 84 = .ok (.bipush 11, 2) := by decide +kernel
theorem dX8_restore_86 : decode cX8_restore 86 = .ok (.iload_n 1, 1) := by decide +kernel
theorem dX8_restore_87 : decode cX8_restore 87 = .ok (.iadd, 1) := by decide +kernel
theorem dX8_restore_88 : decode cX8_restore 88 = .ok (.iaload, 1) := by decide +kernel
theorem dX8_restore_89 : decode cX8_restore 89 = .ok (.iastore, 1) := by decide +kernel
theorem dX8_restore_90 : decode cX8_restore 90 = .ok (.iinc 1 1, 3) := by decide +kernel
theorem dX8_restore_93 : decode cX8_restore 93 = .ok (.goto (-23), 3) := by decide +kernel
theorem dX8_restore_96 : decode cX8_restore 96 = .ok (.iconst 0, 1) := by decide +kernel
theorem dX8_restore_97 : decode cX8_restore 97 = .ok (.istore_n 1, 1) := by decide +kernel
theorem dX8_restore_98 : decode cX8_restore 98 = .ok (.iload_n 1, 1) := by decide +kernel
theorem dX8_restore_99 : decode cX8_restore 99 = .ok (.bipush 31, 2) := by decide +kernel
theorem dX8_restore_101 : decode cX8_restore 101 = .ok (.if_icmp .ge 21, 3) := by decide +kernel
theorem dX8_restore_104 : decode cX8_restore 104 = .ok (.aload_n 0, 1) := by decide +kernel
theorem dX8_restore_105 : decode cX8_restore 105 = .ok (.getfield 16, 3) := by decide +kernel
theorem dX8_restore_108 : decode cX8_restore 108 = .ok (.iload_n 1, 1) := by decide +kernel
theorem dX8_restore_109 : decode cX8_restore 109 = .ok (.aload_n 0, 1) := by decide +kernel
theorem dX8_restore_110 : decode cX8_restore 110 = .ok (.getfield 28, 3) := by decide +kernel
theorem dX8_restore_113 : decode cX8_restore 113 = .ok (.iload_n 1, 1) := by decide +kernel
theorem dX8_restore_114 : decode cX8_restore 114 = .ok (.iaload, 1) := by decide +kernel
theorem dX8_restore_115 : decode cX8_restore 115 = .ok (.iastore, 1) := by decide +kernel
theorem dX8_restore_116 : decode cX8_restore 116 = .ok (.iinc 1 1, 3) := by decide +kernel
theorem dX8_restore_119 : decode cX8_restore 119 = .ok (.goto (-21), 3) := by decide +kernel
theorem dX8_restore_122 : decode cX8_restore 122 = .ok (.iconst 0, 1) := by decide +kernel
theorem dX8_restore_123 : decode cX8_restore 123 = .ok (.istore_n 1, 1) := by decide +kernel
theorem dX8_restore_124 : decode cX8_restore 124 = .ok (.iload_n 1, 1) := by decide +kernel
theorem dX8_restore_125 : decode cX8_restore 125 = .ok (.sipush 248, 3) := by decide +kernel
theorem dX8_restore_128 : decode cX8_restore 128 = .ok (.if_icmp .ge 21, 3) := by decide +kernel
theorem dX8_restore_131 : decode cX8_restore 131 = .ok (.aload_n 0, 1) := by decide +kernel
theorem dX8_restore_132 : decode cX8_restore 132 = .ok (.getfield 22, 3) := by decide +kernel
theorem dX8_restore_135 : decode cX8_restore 135 = .ok (.iload_n 1, 1) := by decide +kernel
theorem dX8_restore_136 : decode cX8_restore 136 = .ok (.aload_n 0, 1) := by decide +kernel
theorem dX8_restore_137 : decode cX8_restore 137 = .ok (.getfield 31, 3) := by decide +kernel
theorem dX8_restore_140 : decode cX8_restore 140 = .ok (.iload_n 1, 1) := by decide +kernel
theorem dX8_restore_141 : decode cX8_restore 141 = .ok (.iaload, 1) := by decide +kernel
theorem dX8_restore_142 : decode cX8_restore 142 = .ok (.iastore, 1) := by decide +kernel
theorem dX8_restore_143 : decode cX8_restore 143 = .ok (.iinc 1 1, 3) := by decide +kernel
theorem dX8_restore_146 : decode cX8_restore 146 = .ok (.goto (-22), 3) := by decide +kernel
theorem dX8_restore_149 : decode cX8_restore 149 = .ok (.iconst 1, 1) := by decide +kernel
theorem dX8_restore_150 : decode cX8_restore 150 = .ok (.ireturn, 1) := by decide +kernel
theorem dX8_isSheet_0 : decode cX8_isSheet 0 = .ok (.iload_n 0, 1) := by decide +kernel
theorem dX8_isSheet_1 : decode cX8_isSheet 1 = .ok (.i2l, 1) := by decide +kernel
theorem dX8_isSheet_2 : decode cX8_isSheet 2 = .ok (.lconst 0, 1) := by decide +kernel
theorem dX8_isSheet_3 : decode cX8_isSheet 3 = .ok (.ldc2_w 245, 3) := by decide +kernel
theorem dX8_isSheet_6 : decode cX8_isSheet 6 = .ok (.invokestatic 69, 3) := by decide +kernel
theorem dX8_isSheet_9 : decode cX8_isSheet 9 = .ok (.ireturn, 1) := by decide +kernel
theorem dX8_isLane_0 : decode cX8_isLane 0 = .ok (.iload_n 0, 1) := by decide +kernel
theorem dX8_isLane_1 : decode cX8_isLane 1 = .ok (.i2l, 1) := by decide +kernel
theorem dX8_isLane_2 : decode cX8_isLane 2 = .ok (.lconst 0, 1) := by decide +kernel
theorem dX8_isLane_3 : decode cX8_isLane 3 = .ok (.ldc2_w 245, 3) := by decide +kernel
theorem dX8_isLane_6 : decode cX8_isLane 6 = .ok (.invokestatic 69, 3) := by decide +kernel
theorem dX8_isLane_9 : decode cX8_isLane 9 = .ok (.ireturn, 1) := by decide +kernel
theorem dX8_isSpan_0 : decode cX8_isSpan 0 = .ok (.iload_n 2, 1) := by decide +kernel
theorem dX8_isSpan_1 : decode cX8_isSpan 1 = .ok (.ifCond .lt 27, 3) := by decide +kernel
theorem dX8_isSpan_4 : decode cX8_isSpan 4 = .ok (.iload_n 3, 1) := by decide +kernel
theorem dX8_isSpan_5 : decode cX8_isSpan 5 = .ok (.ifCond .lt 23, 3) := by decide +kernel
theorem dX8_isSpan_8 : decode cX8_isSpan 8 = .ok (.iload_n 2, 1) := by decide +kernel
theorem dX8_isSpan_9 : decode cX8_isSpan 9 = .ok (.i2l, 1) := by decide +kernel
theorem dX8_isSpan_10 : decode cX8_isSpan 10 = .ok (.iload_n 3, 1) := by decide +kernel
theorem dX8_isSpan_11 : decode cX8_isSpan 11 = .ok (.i2l, 1) := by decide +kernel
theorem dX8_isSpan_12 : decode cX8_isSpan 12 = .ok (.ladd, 1) := by decide +kernel
theorem dX8_isSpan_13 : decode cX8_isSpan 13 = .ok (.aload_n 0, 1) := by decide +kernel
theorem dX8_isSpan_14 : decode cX8_isSpan 14 = .ok (.getfield 41, 3) := by decide +kernel
theorem dX8_isSpan_17 : decode cX8_isSpan 17 = .ok (.iload_n 1, 1) := by decide +kernel
theorem dX8_isSpan_18 : decode cX8_isSpan 18 = .ok (.iaload, 1) := by decide +kernel
theorem dX8_isSpan_19 : decode cX8_isSpan 19 = .ok (.i2l, 1) := by decide +kernel
theorem dX8_isSpan_20 : decode cX8_isSpan 20 = .ok (.lcmp, 1) := by decide +kernel
theorem dX8_isSpan_21 : decode cX8_isSpan 21 = .ok (.ifCond .gt 7, 3) := by decide +kernel
theorem dX8_isSpan_24 : decode cX8_isSpan 24 = .ok (.iconst 1, 1) := by decide +kernel
theorem dX8_isSpan_25 : decode cX8_isSpan 25 = .ok (.goto 4, 3) := by decide +kernel
theorem dX8_isSpan_28 : decode cX8_isSpan 28 = .ok (.iconst 0, 1) := by decide +kernel
theorem dX8_isSpan_29 : decode cX8_isSpan 29 = .ok (.ireturn, 1) := by decide +kernel
theorem dX8_lacks_0 : decode cX8_lacks 0 = .ok (.aload_n 0, 1) := by decide +kernel
theorem dX8_lacks_1 : decode cX8_lacks 1 = .ok (.getfield 41, 3) := by decide +kernel
theorem dX8_lacks_4 : decode cX8_lacks 4 = .ok (.iload_n 1, 1) := by decide +kernel
theorem dX8_lacks_5 : decode cX8_lacks 5 = .ok (.iaload, 1) := by decide +kernel
theorem dX8_lacks_6 : decode cX8_lacks 6 = .ok (.ifCond .ge 8, 3) := by decide +kernel
theorem dX8_lacks_9 : decode cX8_lacks 9 = .ok (.bipush (-11), 2) := by decide +kernel
theorem dX8_lacks_11 : decode cX8_lacks 11 = .ok (.goto 35, 3) := by decide +kernel
theorem dX8_lacks_14 : decode cX8_lacks 14 = .ok (.aload_n 0, 1) := by decide +kernel
theorem dX8_lacks_15 : decode cX8_lacks 15 = .ok (.getfield 38, 3) := by decide +kernel
theorem dX8_lacks_18 : decode cX8_lacks 18 = .ok (.iload_n 1, 1) := by decide +kernel
theorem dX8_lacks_19 : decode cX8_lacks 19 = .ok (.iaload, 1) := by decide +kernel
theorem dX8_lacks_20 : decode cX8_lacks 20 = .ok (.iload_n 2, 1) := by decide +kernel
theorem dX8_lacks_21 : decode cX8_lacks 21 = .ok (.if_icmp .eq 8, 3) := by decide +kernel
theorem dX8_lacks_24 : decode cX8_lacks 24 = .ok (.bipush (-12), 2) := by decide +kernel
theorem dX8_lacks_26 : decode cX8_lacks 26 = .ok (.goto 20, 3) := by decide +kernel
theorem dX8_lacks_29 : decode cX8_lacks 29 = .ok (.aload_n 0, 1) := by decide +kernel
theorem dX8_lacks_30 : decode cX8_lacks 30 = .ok (.iload_n 1, 1) := by decide +kernel
theorem dX8_lacks_31 : decode cX8_lacks 31 = .ok (.iload_n 3, 1) := by decide +kernel
theorem dX8_lacks_32 : decode cX8_lacks 32 = .ok (.iload 4, 2) := by decide +kernel
theorem dX8_lacks_34 : decode cX8_lacks 34 = .ok (.invokevirtual 247, 3) := by decide +kernel
theorem dX8_lacks_37 : decode cX8_lacks 37 = .ok (.ifCond .eq 7, 3) := by decide +kernel
theorem dX8_lacks_40 : decode cX8_lacks 40 = .ok (.iconst 0, 1) := by decide +kernel
theorem dX8_lacks_41 : decode cX8_lacks 41 = .ok (.goto 5, 3) := by decide +kernel
theorem dX8_lacks_44 : decode cX8_lacks 44 = .ok (.bipush (-13), 2) := by decide +kernel
theorem dX8_lacks_46 : decode cX8_lacks 46 = .ok (.ireturn, 1) := by decide +kernel
theorem dX8_isSeen_0 : decode cX8_isSeen 0 = .ok (.iconst 1, 1) := by decide +kernel
theorem dX8_isSeen_1 : decode cX8_isSeen 1 = .ok (.istore 4, 2) := by decide +kernel
theorem dX8_isSeen_3 : decode cX8_isSeen 3 = .ok (.iconst 0, 1) := by decide +kernel
theorem dX8_isSeen_4 : decode cX8_isSeen 4 = .ok (.istore 5, 2) := by decide +kernel
theorem dX8_isSeen_6 : decode cX8_isSeen 6 = .ok (.iload 5, 2) := by decide +kernel
theorem dX8_isSeen_8 : decode cX8_isSeen 8 = .ok (.iload_n 3, 1) := by decide +kernel
theorem dX8_isSeen_9 : decode cX8_isSeen 9 = .ok (.if_icmp .ge 48, 3) := by decide +kernel
theorem dX8_isSeen_12 : decode cX8_isSeen 12 = .ok (.aload_n 0, 1) := by decide +kernel
theorem dX8_isSeen_13 : decode cX8_isSeen 13 = .ok (.invokevirtual 103, 3) := by decide +kernel
theorem dX8_isSeen_16 : decode cX8_isSeen 16 = .ok (.iload 4, 2) := by decide +kernel
theorem dX8_isSeen_18 : decode cX8_isSeen 18 = .ok (.ifCond .eq 30, 3) := by decide +kernel
theorem dX8_isSeen_21 : decode cX8_isSeen 21 = .ok (.aload_n 0, 1) := by decide +kernel
theorem dX8_isSeen_22 : decode cX8_isSeen 22 = .ok (.getfield 34, 3) := by decide +kernel
theorem dX8_isSeen_25 : decode cX8_isSeen 25 = .ok (.bipush 24, 2) := by decide +kernel
theorem dX8_isSeen_27 : decode cX8_isSeen 27 = .ok (.iload_n 1, 1) := by decide +kernel
theorem dX8_isSeen_28 : decode cX8_isSeen 28 = .ok (.imul, 1) := by decide +kernel
theorem dX8_isSeen_29 : decode cX8_isSeen 29 = .ok (.iload_n 2, 1) := by decide +kernel
theorem dX8_isSeen_30 : decode cX8_isSeen 30 = .ok (.iadd, 1) := by decide +kernel
theorem dX8_isSeen_31 : decode cX8_isSeen 31 = .ok (.iload 5, 2) := by decide +kernel
theorem dX8_isSeen_33 : decode cX8_isSeen 33 = .ok (.iadd, 1) := by decide +kernel
theorem dX8_isSeen_34 : decode cX8_isSeen 34 = .ok (.laload, 1) := by decide +kernel
theorem dX8_isSeen_35 : decode cX8_isSeen 35 = .ok (.aload_n 0, 1) := by decide +kernel
theorem dX8_isSeen_36 : decode cX8_isSeen 36 = .ok (.invokevirtual 218, 3) := by decide +kernel
theorem dX8_isSeen_39 : decode cX8_isSeen 39 = .ok (.i2l, 1) := by decide +kernel
theorem dX8_isSeen_40 : decode cX8_isSeen 40 = .ok (.lcmp, 1) := by decide +kernel
theorem dX8_isSeen_41 : decode cX8_isSeen 41 = .ok (.ifCond .ne 7, 3) := by decide +kernel
theorem dX8_isSeen_44 : decode cX8_isSeen 44 = .ok (.iconst 1, 1) := by decide +kernel
theorem dX8_isSeen_45 : decode cX8_isSeen 45 = .ok (.goto 4, 3) := by decide +kernel
theorem dX8_isSeen_48 : decode cX8_isSeen 48 = .ok (.iconst 0, 1) := by decide +kernel
theorem dX8_isSeen_49 : decode cX8_isSeen 49 = .ok (.istore 4, 2) := by decide +kernel
theorem dX8_isSeen_51 : decode cX8_isSeen 51 = .ok (.iinc 5 1, 3) := by decide +kernel
theorem dX8_isSeen_54 : decode cX8_isSeen 54 = .ok (.goto (-48), 3) := by decide +kernel
theorem dX8_isSeen_57 : decode cX8_isSeen 57 = .ok (.iload 4, 2) := by decide +kernel
theorem dX8_isSeen_59 : decode cX8_isSeen 59 = .ok (.ireturn, 1) := by decide +kernel
theorem dX8_seenKinds_0 : decode cX8_seenKinds 0 = .ok (.iconst 0, 1) := by decide +kernel
theorem dX8_seenKinds_1 : decode cX8_seenKinds 1 = .ok (.istore 5, 2) := by decide +kernel
theorem dX8_seenKinds_3 : decode cX8_seenKinds 3 = .ok (.aload_n 0, 1) := by decide +kernel
theorem dX8_seenKinds_4 : decode cX8_seenKinds 4 = .ok (.iload_n 1, 1) := by decide +kernel
theorem dX8_seenKinds_5 : decode cX8_seenKinds 5 = .ok (.putfield 47, 3) := by decide +kernel
theorem dX8_seenKinds_8 : decode cX8_seenKinds 8 = .ok (.aload_n 0, 1) := by decide +kernel
theorem dX8_seenKinds_9 : decode cX8_seenKinds 9 = .ok (.iconst 0, 1) := by decide +kernel
theorem dX8_seenKinds_10 : decode cX8_seenKinds 10 = .ok (.putfield 76, 3) := by decide +kernel
theorem dX8_seenKinds_13 : decode cX8_seenKinds 13 = .ok (.aload_n 0, 1) := by decide +kernel
theorem dX8_seenKinds_14 : decode cX8_seenKinds 14 = .ok (.getfield 76, 3) := by decide +kernel
theorem dX8_seenKinds_17 : decode cX8_seenKinds 17 = .ok (.iconst 5, 1) := by decide +kernel
theorem dX8_seenKinds_18 : decode cX8_seenKinds 18 = .ok (.if_icmp .ge 46, 3) := by decide +kernel
theorem dX8_seenKinds_21 : decode cX8_seenKinds 21 = .ok (.aload_n 0, 1) := by decide +kernel
theorem dX8_seenKinds_22 : decode cX8_seenKinds 22 = .ok (.invokevirtual 131, 3) := by decide +kernel
theorem dX8_seenKinds_25 : decode cX8_seenKinds 25 = .ok (.iload 5, 2) := by decide +kernel
theorem dX8_seenKinds_27 : decode cX8_seenKinds 27 = .ok (.aload_n 0, 1) := by decide +kernel
theorem dX8_seenKinds_28 : decode cX8_seenKinds 28 = .ok (.iload_n 2, 1) := by decide +kernel
theorem dX8_seenKinds_29 : decode cX8_seenKinds 29 = .ok (.iload_n 3, 1) := by decide +kernel
theorem dX8_seenKinds_30 : decode cX8_seenKinds 30 = .ok (.iload 4, 2) := by decide +kernel
theorem dX8_seenKinds_32 : decode cX8_seenKinds 32 = .ok (.invokevirtual 251, 3) := by decide +kernel
theorem dX8_seenKinds_35 : decode cX8_seenKinds 35 = .ok (.ifCond .eq 12, 3) := by decide +kernel
theorem dX8_seenKinds_38 : decode cX8_seenKinds 38 = .ok (.iconst 1, 1) := by decide +kernel
theorem dX8_seenKinds_39 : decode cX8_seenKinds 39 = .ok (.aload_n 0, 1) := by decide +kernel
theorem dX8_seenKinds_40 : decode cX8_seenKinds 40 = .ok (.getfield 76, 3) := by decide +kernel
theorem dX8_seenKinds_43 : decode cX8_seenKinds 43 = .ok (.ishl, 1) := by decide +kernel
theorem dX8_seenKinds_44 : decode cX8_seenKinds 44 = .ok (.goto 4, 3) := by decide +kernel
theorem dX8_seenKinds_47 : decode cX8_seenKinds 47 = .ok (.iconst 0, 1) := by decide +kernel
theorem dX8_seenKinds_48 : decode cX8_seenKinds 48 = .ok (.ior, 1) := by decide +kernel
theorem dX8_seenKinds_49 : decode cX8_seenKinds 49 = .ok (.istore 5, 2) := by decide +kernel
theorem dX8_seenKinds_51 : decode cX8_seenKinds 51 = .ok (.aload_n 0, 1) := by decide +kernel
theorem dX8_seenKinds_52 : decode cX8_seenKinds 52 = .ok (.dup, 1) := by decide +kernel
theorem dX8_seenKinds_53 : decode cX8_seenKinds 53 = .ok (.getfield 76, 3) := by decide +kernel
theorem dX8_seenKinds_56 : decode cX8_seenKinds 56 = .ok (.iconst 1, 1) := by decide +kernel
theorem dX8_seenKinds_57 : decode cX8_seenKinds 57 = .ok (.iadd, 1) := by decide +kernel
theorem dX8_seenKinds_58 : decode cX8_seenKinds 58 = .ok (.putfield 76, 3) := by decide +kernel
theorem dX8_seenKinds_61 : decode cX8_seenKinds 61 = .ok (.goto (-48), 3) := by decide +kernel
theorem dX8_seenKinds_64 : decode cX8_seenKinds 64 = .ok (.aload_n 0, 1) := by decide +kernel
theorem dX8_seenKinds_65 : decode cX8_seenKinds 65 = .ok (.bipush (-4), 2) := by decide +kernel
theorem dX8_seenKinds_67 : decode cX8_seenKinds 67 = .ok (.putfield 47, 3) := by decide +kernel
theorem dX8_seenKinds_70 : decode cX8_seenKinds 70 = .ok (.iload 5, 2) := by decide +kernel
theorem dX8_seenKinds_72 : decode cX8_seenKinds 72 = .ok (.ireturn, 1) := by decide +kernel
theorem dX8_seen_0 : decode cX8_seen 0 = .ok (.aload_n 0, 1) := by decide +kernel
theorem dX8_seen_1 : decode cX8_seen 1 = .ok (.iload_n 1, 1) := by decide +kernel
theorem dX8_seen_2 : decode cX8_seen 2 = .ok (.invokevirtual 128, 3) := by decide +kernel
theorem dX8_seen_5 : decode cX8_seen 5 = .ok (.ifCond .eq 43, 3) := by decide +kernel
theorem dX8_seen_8 : decode cX8_seen 8 = .ok (.iload_n 2, 1) := by decide +kernel
theorem dX8_seen_9 : decode cX8_seen 9 = .ok (.invokestatic 254, 3) := by decide +kernel
theorem dX8_seen_12 : decode cX8_seen 12 = .ok (.ifCond .eq 36, 3) := by decide +kernel
theorem dX8_seen_15 : decode cX8_seen 15 = .ok (.iload_n 3, 1) := by decide +kernel
theorem dX8_seen_16 : decode cX8_seen 16 = .ok (.invokestatic 257, 3) := by decide +kernel
theorem dX8_seen_19 : decode cX8_seen 19 = .ok (.ifCond .eq 29, 3) := by decide +kernel
theorem dX8_seen_22 : decode cX8_seen 22 = .ok (.iload 5, 2) := by decide +kernel
theorem dX8_seen_24 : decode cX8_seen 24 = .ok (.i2l, 1) := by decide +kernel
theorem dX8_seen_25 : decode cX8_seen 25 = .ok (.lconst 1, 1) := by decide +kernel
theorem dX8_seen_26 : decode cX8_seen 26 = .ok (.ldc2_w 260, 3) := by decide +kernel
theorem dX8_seen_29 : decode cX8_seen 29 = .ok (.invokestatic 69, 3) := by decide +kernel
theorem dX8_seen_32 : decode cX8_seen 32 = .ok (.ifCond .eq 16, 3) := by decide +kernel
theorem dX8_seen_35 : decode cX8_seen 35 = .ok (.iload 6, 2) := by decide +kernel
theorem dX8_seen_37 : decode cX8_seen 37 = .ok (.i2l, 1) := by decide +kernel
theorem dX8_seen_38 : decode cX8_seen 38 = .ok (.lconst 0, 1) := by decide +kernel
theorem dX8_seen_39 : decode cX8_seen 39 = .ok (.ldc2_w 126, 3) := by decide +kernel
theorem dX8_seen_42 : decode cX8_seen 42 = .ok (.invokestatic 69, 3) := by decide +kernel
theorem dX8_seen_45 : decode cX8_seen 45 = .ok (.ifCond .ne 5, 3) := by decide +kernel
theorem dX8_seen_48 : decode cX8_seen 48 = .ok (.iconst (-1), 1) := by decide +kernel
theorem dX8_seen_49 : decode cX8_seen 49 = .ok (.ireturn, 1) := by decide +kernel
theorem dX8_seen_50 : decode cX8_seen 50 = .ok (.aload_n 0, 1) := by decide +kernel
theorem dX8_seen_51 : decode cX8_seen 51 = .ok (.iload_n 2, 1) := by decide +kernel
theorem dX8_seen_52 : decode cX8_seen 52 = .ok (.iload_n 3, 1) := by decide +kernel
theorem dX8_seen_53 : decode cX8_seen 53 = .ok (.iload 4, 2) := by decide +kernel
theorem dX8_seen_55 : decode cX8_seen 55 = .ok (.iload 5, 2) := by decide +kernel
theorem dX8_seen_57 : decode cX8_seen 57 = .ok (.invokevirtual 262, 3) := by decide +kernel
theorem dX8_seen_60 : decode cX8_seen 60 = .ok (.istore 7, 2) := by decide +kernel
theorem dX8_seen_62 : decode cX8_seen 62 = .ok (.iload 7, 2) := by decide +kernel
theorem dX8_seen_64 : decode cX8_seen 64 = .ok (.ifCond .eq 6, 3) := by decide +kernel
theorem dX8_seen_67 : decode cX8_seen 67 = .ok (.iload 7, 2) := by decide +kernel
theorem dX8_seen_69 : decode cX8_seen 69 = .ok (.ireturn, 1) := by decide +kernel
theorem dX8_seen_70 : decode cX8_seen 70 = .ok (.iload 6, 2) := by decide +kernel
theorem dX8_seen_72 : decode cX8_seen 72 = .ok (.ifCond .ne 14, 3) := by decide +kernel
theorem dX8_seen_75 : decode cX8_seen 75 = .ok (.aload_n 0, 1) := by decide +kernel
theorem dX8_seen_76 : decode cX8_seen 76 = .ok (.iload_n 1, 1) := by decide +kernel
theorem dX8_seen_77 : decode cX8_seen 77 = .ok (.iload_n 2, 1) := by decide +kernel
theorem dX8_seen_78 : decode cX8_seen 78 = .ok (.iload 4, 2) := by decide +kernel
theorem dX8_seen_80 : decode cX8_seen 80 = .ok (.iload 5, 2) := by decide +kernel
theorem dX8_seen_82 : decode cX8_seen 82 = .ok (.invokevirtual 266, 3) := by decide +kernel
theorem dX8_seen_85 : decode cX8_seen 85 = .ok (.ireturn, 1) := by decide +kernel
theorem dX8_seen_86 : decode cX8_seen 86 = .ok (.iconst 0, 1) := by decide +kernel
theorem dX8_seen_87 : decode cX8_seen 87 = .ok (.istore 8, 2) := by decide +kernel
theorem dX8_seen_89 : decode cX8_seen 89 = .ok (.bipush (-4), 2) := by decide +kernel
theorem dX8_seen_91 : decode cX8_seen 91 = .ok (.istore 9, 2) := by decide +kernel
theorem dX8_seen_93 : decode cX8_seen 93 = .ok (.sipush 255, 3) := by decide +kernel
theorem dX8_seen_96 : decode cX8_seen 96 = .ok (.istore 10, 2) := by decide +kernel
theorem dX8_seen_98 : decode cX8_seen 98 = .ok (.iload 10, 2) := by decide +kernel
theorem dX8_seen_100 : decode cX8_seen 100 = .ok (.ifCond .lt 64, 3) := by decide +kernel
theorem dX8_seen_103 : decode cX8_seen 103 = .ok (.aload_n 0, 1) := by decide +kernel
theorem dX8_seen_104 : decode cX8_seen 104 = .ok (.invokevirtual 131, 3) := by decide +kernel
theorem dX8_seen_107 : decode cX8_seen 107 = .ok (.aload_n 0, 1) := by decide +kernel
theorem dX8_seen_108 : decode cX8_seen 108 = .ok (.getfield 19, 3) := by decide +kernel
theorem dX8_seen_111 : decode cX8_seen 111 = .ok (.bipush 9, 2) := by decide +kernel
theorem dX8_seen_113 : decode cX8_seen 113 = .ok (.iload_n 1, 1) := by decide +kernel
theorem dX8_seen_114 : decode cX8_seen 114 = .ok (.iadd, 1) := by decide +kernel
theorem dX8_seen_115 : decode cX8_seen 115 = .ok (.iload 10, 2) := by decide +kernel
theorem dX8_seen_117 : decode cX8_seen 117 = .ok (.iastore, 1) := by decide +kernel
theorem dX8_seen_118 : decode cX8_seen 118 = .ok (.aload_n 0, 1) := by decide +kernel
theorem dX8_seen_119 : decode cX8_seen 119 = .ok (.iload_n 2, 1) := by decide +kernel
theorem dX8_seen_120 : decode cX8_seen 120 = .ok (.iload 4, 2) := by decide +kernel
theorem dX8_seen_122 : decode cX8_seen 122 = .ok (.iload 5, 2) := by decide +kernel
theorem dX8_seen_124 : decode cX8_seen 124 = .ok (.invokevirtual 251, 3) := by decide +kernel
theorem dX8_seen_127 : decode cX8_seen 127 = .ok (.istore 11, 2) := by decide +kernel
theorem dX8_seen_129 : decode cX8_seen 129 = .ok (.iload 8, 2) := by decide +kernel
theorem dX8_seen_131 : decode cX8_seen 131 = .ok (.iload 11, 2) := by decide +kernel
theorem dX8_seen_133 : decode cX8_seen 133 = .ok (.ifCond .eq 7, 3) := by decide +kernel
theorem dX8_seen_136 : decode cX8_seen 136 = .ok (.iconst 1, 1) := by decide +kernel
theorem dX8_seen_137 : decode cX8_seen 137 = .ok (.goto 4, 3) := by decide +kernel
theorem dX8_seen_140 : decode cX8_seen 140 = .ok (.iconst 0, 1) := by decide +kernel
theorem dX8_seen_141 : decode cX8_seen 141 = .ok (.iadd, 1) := by decide +kernel
theorem dX8_seen_142 : decode cX8_seen 142 = .ok (.istore 8, 2) := by decide +kernel
theorem dX8_seen_144 : decode cX8_seen 144 = .ok (.iload 11, 2) := by decide +kernel
theorem dX8_seen_146 : decode cX8_seen 146 = .ok (.ifCond .eq 8, 3) := by decide +kernel
theorem dX8_seen_149 : decode cX8_seen 149 = .ok (.iload 10, 2) := by decide +kernel
theorem dX8_seen_151 : decode cX8_seen 151 = .ok (.goto 5, 3) := by decide +kernel
theorem dX8_seen_154 : decode cX8_seen 154 = .ok (.iload 9, 2) := by decide +kernel
theorem dX8_seen_156 : decode cX8_seen 156 = .ok (.istore 9, 2) := by decide +kernel
theorem dX8_seen_158 : decode cX8_seen 158 = .ok (.iinc 10 (-1), 3) := by decide +kernel
theorem dX8_seen_161 : decode cX8_seen 161 = .ok (.goto (-63), 3) := by decide +kernel
theorem dX8_seen_164 : decode cX8_seen 164 = .ok (.iload 6, 2) := by decide +kernel
theorem dX8_seen_166 : decode cX8_seen 166 = .ok (.iconst 1, 1) := by decide +kernel
theorem dX8_seen_167 : decode cX8_seen 167 = .ok (.if_icmp .ne 8, 3) := by decide +kernel
theorem dX8_seen_170 : decode cX8_seen 170 = .ok (.iload 8, 2) := by decide +kernel
theorem dX8_seen_172 : decode cX8_seen 172 = .ok (.goto 5, 3) := by decide +kernel
theorem dX8_seen_175 : decode cX8_seen 175 = .ok (.iload 9, 2) := by decide +kernel
theorem dX8_seen_177 : decode cX8_seen 177 = .ok (.ireturn, 1) := by decide +kernel
theorem dX8_film_0 : decode cX8_film 0 = .ok (.iload_n 1, 1) := by decide +kernel
theorem dX8_film_1 : decode cX8_film 1 = .ok (.i2l, 1) := by decide +kernel
theorem dX8_film_2 : decode cX8_film 2 = .ok (.lconst 1, 1) := by decide +kernel
theorem dX8_film_3 : decode cX8_film 3 = .ok (.ldc2_w 269, 3) := by decide +kernel
theorem dX8_film_6 : decode cX8_film 6 = .ok (.invokestatic 69, 3) := by decide +kernel
theorem dX8_film_9 : decode cX8_film 9 = .ok (.ifCond .eq 17, 3) := by decide +kernel
theorem dX8_film_12 : decode cX8_film 12 = .ok (.iload_n 2, 1) := by decide +kernel
theorem dX8_film_13 : decode cX8_film 13 = .ok (.invokestatic 254, 3) := by decide +kernel
theorem dX8_film_16 : decode cX8_film 16 = .ok (.ifCond .eq 10, 3) := by decide +kernel
theorem dX8_film_19 : decode cX8_film 19 = .ok (.iload_n 3, 1) := by decide +kernel
theorem dX8_film_20 : decode cX8_film 20 = .ok (.invokestatic 257, 3) := by decide +kernel
theorem dX8_film_23 : decode cX8_film 23 = .ok (.ifCond .ne 5, 3) := by decide +kernel
theorem dX8_film_26 : decode cX8_film 26 = .ok (.iconst (-1), 1) := by decide +kernel
theorem dX8_film_27 : decode cX8_film 27 = .ok (.ireturn, 1) := by decide +kernel
theorem dX8_film_28 : decode cX8_film 28 = .ok (.aload_n 0, 1) := by decide +kernel
theorem dX8_film_29 : decode cX8_film 29 = .ok (.iload_n 2, 1) := by decide +kernel
theorem dX8_film_30 : decode cX8_film 30 = .ok (.iload_n 3, 1) := by decide +kernel
theorem dX8_film_31 : decode cX8_film 31 = .ok (.iload 4, 2) := by decide +kernel
theorem dX8_film_33 : decode cX8_film 33 = .ok (.iload_n 1, 1) := by decide +kernel
theorem dX8_film_34 : decode cX8_film 34 = .ok (.invokevirtual 262, 3) := by decide +kernel
theorem dX8_film_37 : decode cX8_film 37 = .ok (.istore 5, 2) := by decide +kernel
theorem dX8_film_39 : decode cX8_film 39 = .ok (.iload 5, 2) := by decide +kernel
theorem dX8_film_41 : decode cX8_film 41 = .ok (.ifCond .eq 6, 3) := by decide +kernel
theorem dX8_film_44 : decode cX8_film 44 = .ok (.iload 5, 2) := by decide +kernel
theorem dX8_film_46 : decode cX8_film 46 = .ok (.ireturn, 1) := by decide +kernel
theorem dX8_film_47 : decode cX8_film 47 = .ok (.aload_n 0, 1) := by decide +kernel
theorem dX8_film_48 : decode cX8_film 48 = .ok (.invokevirtual 131, 3) := by decide +kernel
theorem dX8_film_51 : decode cX8_film 51 = .ok (.iconst 0, 1) := by decide +kernel
theorem dX8_film_52 : decode cX8_film 52 = .ok (.istore 6, 2) := by decide +kernel
theorem dX8_film_54 : decode cX8_film 54 = .ok (.iload 6, 2) := by decide +kernel
theorem dX8_film_56 : decode cX8_film 56 = .ok (.iload_n 1, 1) := by decide +kernel
theorem dX8_film_57 : decode cX8_film 57 = .ok (.if_icmp .ge 33, 3) := by decide +kernel
theorem dX8_film_60 : decode cX8_film 60 = .ok (.aload_n 0, 1) := by decide +kernel
theorem dX8_film_61 : decode cX8_film 61 = .ok (.invokevirtual 103, 3) := by decide +kernel
theorem dX8_film_64 : decode cX8_film 64 = .ok (.aload_n 0, 1) := by decide +kernel
theorem dX8_film_65 : decode cX8_film 65 = .ok (.getfield 34, 3) := by decide +kernel
theorem dX8_film_68 : decode cX8_film 68 = .ok (.bipush 24, 2) := by decide +kernel
theorem dX8_film_70 : decode cX8_film 70 = .ok (.iload_n 2, 1) := by decide +kernel
theorem dX8_film_71 : decode cX8_film 71 = .ok (.imul, 1) := by decide +kernel
theorem dX8_film_72 : decode cX8_film 72 = .ok (.iload 4, 2) := by decide +kernel
theorem dX8_film_74 : decode cX8_film 74 = .ok (.iadd, 1) := by decide +kernel
theorem dX8_film_75 : decode cX8_film 75 = .ok (.iload 6, 2) := by decide +kernel
theorem dX8_film_77 : decode cX8_film 77 = .ok (.iadd, 1) := by decide +kernel
theorem dX8_film_78 : decode cX8_film 78 = .ok (.aload_n 0, 1) := by decide +kernel
theorem dX8_film_79 : decode cX8_film 79 = .ok (.invokevirtual 218, 3) := by decide +kernel
theorem dX8_film_82 : decode cX8_film 82 = .ok (.i2l, 1) := by decide +kernel
theorem dX8_film_83 : decode cX8_film 83 = .ok (.lastore, 1) := by decide +kernel
theorem dX8_film_84 : decode cX8_film 84 = .ok (.iinc 6 1, 3) := by decide +kernel
theorem dX8_film_87 : decode cX8_film 87 = .ok (.goto (-33), 3) := by decide +kernel
theorem dX8_film_90 : decode cX8_film 90 = .ok (.iload_n 1, 1) := by decide +kernel
theorem dX8_film_91 : decode cX8_film 91 = .ok (.ireturn, 1) := by decide +kernel
theorem dX8_sheet_0 : decode cX8_sheet 0 = .ok (.iload_n 1, 1) := by decide +kernel
theorem dX8_sheet_1 : decode cX8_sheet 1 = .ok (.invokestatic 254, 3) := by decide +kernel
theorem dX8_sheet_4 : decode cX8_sheet 4 = .ok (.ifCond .eq 16, 3) := by decide +kernel
theorem dX8_sheet_7 : decode cX8_sheet 7 = .ok (.iload_n 2, 1) := by decide +kernel
theorem dX8_sheet_8 : decode cX8_sheet 8 = .ok (.invokestatic 257, 3) := by decide +kernel
theorem dX8_sheet_11 : decode cX8_sheet 11 = .ok (.ifCond .eq 9, 3) := by decide +kernel
theorem dX8_sheet_14 : decode cX8_sheet 14 = .ok (.iload_n 3, 1) := by decide +kernel
theorem dX8_sheet_15 : decode cX8_sheet 15 = .ok (.bipush 24, 2) := by decide +kernel
theorem dX8_sheet_17 : decode cX8_sheet 17 = .ok (.if_icmp .le 5, 3) := by decide +kernel
theorem dX8_sheet_20 : decode cX8_sheet 20 = .ok (.iconst (-1), 1) := by decide +kernel
theorem dX8_sheet_21 : decode cX8_sheet 21 = .ok (.ireturn, 1) := by decide +kernel
theorem dX8_sheet_22 : decode cX8_sheet 22 = .ok (.iload_n 3, 1) := by decide +kernel
theorem dX8_sheet_23 : decode cX8_sheet 23 = .ok (.ifCond .ge 6, 3) := by decide +kernel
theorem dX8_sheet_26 : decode cX8_sheet 26 = .ok (.bipush (-14), 2) := by decide +kernel
theorem dX8_sheet_28 : decode cX8_sheet 28 = .ok (.ireturn, 1) := by decide +kernel
theorem dX8_sheet_29 : decode cX8_sheet 29 = .ok (.aload_n 0, 1) := by decide +kernel
theorem dX8_sheet_30 : decode cX8_sheet 30 = .ok (.getfield 38, 3) := by decide +kernel
theorem dX8_sheet_33 : decode cX8_sheet 33 = .ok (.iload_n 1, 1) := by decide +kernel
theorem dX8_sheet_34 : decode cX8_sheet 34 = .ok (.iload_n 2, 1) := by decide +kernel
theorem dX8_sheet_35 : decode cX8_sheet 35 = .ok (.iastore, 1) := by decide +kernel
theorem dX8_sheet_36 : decode cX8_sheet 36 = .ok (.aload_n 0, 1) := by decide +kernel
theorem dX8_sheet_37 : decode cX8_sheet 37 = .ok (.getfield 41, 3) := by decide +kernel
theorem dX8_sheet_40 : decode cX8_sheet 40 = .ok (.iload_n 1, 1) := by decide +kernel
theorem dX8_sheet_41 : decode cX8_sheet 41 = .ok (.iload_n 3, 1) := by decide +kernel
theorem dX8_sheet_42 : decode cX8_sheet 42 = .ok (.iastore, 1) := by decide +kernel
theorem dX8_sheet_43 : decode cX8_sheet 43 = .ok (.iconst 0, 1) := by decide +kernel
theorem dX8_sheet_44 : decode cX8_sheet 44 = .ok (.istore 4, 2) := by decide +kernel
theorem dX8_sheet_46 : decode cX8_sheet 46 = .ok (.iload 4, 2) := by decide +kernel
theorem dX8_sheet_48 : decode cX8_sheet 48 = .ok (.iload_n 3, 1) := by decide +kernel
theorem dX8_sheet_49 : decode cX8_sheet 49 = .ok (.if_icmp .ge 22, 3) := by decide +kernel
theorem dX8_sheet_52 : decode cX8_sheet 52 = .ok (.aload_n 0, 1) := by decide +kernel
theorem dX8_sheet_53 : decode cX8_sheet 53 = .ok (.getfield 34, 3) := by decide +kernel
theorem dX8_sheet_56 : decode cX8_sheet 56 = .ok (.bipush 24, 2) := by decide +kernel
theorem dX8_sheet_58 : decode cX8_sheet 58 = .ok (.iload_n 1, 1) := by decide +kernel
theorem dX8_sheet_59 : decode cX8_sheet 59 = .ok (.imul, 1) := by decide +kernel
theorem dX8_sheet_60 : decode cX8_sheet 60 = .ok (.iload 4, 2) := by decide +kernel
theorem dX8_sheet_62 : decode cX8_sheet 62 = .ok (.iadd, 1) := by decide +kernel
theorem dX8_sheet_63 : decode cX8_sheet 63 = .ok (.lconst 0, 1) := by decide +kernel
theorem dX8_sheet_64 : decode cX8_sheet 64 = .ok (.lastore, 1) := by decide +kernel
theorem dX8_sheet_65 : decode cX8_sheet 65 = .ok (.iinc 4 1, 3) := by decide +kernel
theorem dX8_sheet_68 : decode cX8_sheet 68 = .ok (.goto (-22), 3) := by decide +kernel
theorem dX8_sheet_71 : decode cX8_sheet 71 = .ok (.iload_n 3, 1) := by decide +kernel
theorem dX8_sheet_72 : decode cX8_sheet 72 = .ok (.ireturn, 1) := by decide +kernel
theorem dX8_drop_0 : decode cX8_drop 0 = .ok (.iload_n 1, 1) := by decide +kernel
theorem dX8_drop_1 : decode cX8_drop 1 = .ok (.invokestatic 254, 3) := by decide +kernel
theorem dX8_drop_4 : decode cX8_drop 4 = .ok (.ifCond .ne 5, 3) := by decide +kernel
theorem dX8_drop_7 : decode cX8_drop 7 = .ok (.iconst (-1), 1) := by decide +kernel
theorem dX8_drop_8 : decode cX8_drop 8 = .ok (.ireturn, 1) := by decide +kernel
theorem dX8_drop_9 : decode cX8_drop 9 = .ok (.aload_n 0, 1) := by decide +kernel
theorem dX8_drop_10 : decode cX8_drop 10 = .ok (.getfield 41, 3) := by decide +kernel
theorem dX8_drop_13 : decode cX8_drop 13 = .ok (.iload_n 1, 1) := by decide +kernel
theorem dX8_drop_14 : decode cX8_drop 14 = .ok (.iaload, 1) := by decide +kernel
theorem dX8_drop_15 : decode cX8_drop 15 = .ok (.ifCond .ge 6, 3) := by decide +kernel
theorem dX8_drop_18 : decode cX8_drop 18 = .ok (.bipush (-11), 2) := by decide +kernel
theorem dX8_drop_20 : decode cX8_drop 20 = .ok (.ireturn, 1) := by decide +kernel
theorem dX8_drop_21 : decode cX8_drop 21 = .ok (.aload_n 0, 1) := by decide +kernel
theorem dX8_drop_22 : decode cX8_drop 22 = .ok (.getfield 41, 3) := by decide +kernel
theorem dX8_drop_25 : decode cX8_drop 25 = .ok (.iload_n 1, 1) := by decide +kernel
theorem dX8_drop_26 : decode cX8_drop 26 = .ok (.iaload, 1) := by decide +kernel
theorem dX8_drop_27 : decode cX8_drop 27 = .ok (.istore_n 2, 1) := by decide +kernel
theorem dX8_drop_28 : decode cX8_drop 28 = .ok (.aload_n 0, 1) := by decide +kernel
theorem dX8_drop_29 : decode cX8_drop 29 = .ok (.getfield 41, 3) := by decide +kernel
theorem dX8_drop_32 : decode cX8_drop 32 = .ok (.iload_n 1, 1) := by decide +kernel
theorem dX8_drop_33 : decode cX8_drop 33 = .ok (.iconst (-1), 1) := by decide +kernel
theorem dX8_drop_34 : decode cX8_drop 34 = .ok (.iastore, 1) := by decide +kernel
theorem dX8_drop_35 : decode cX8_drop 35 = .ok (.iload_n 2, 1) := by decide +kernel
theorem dX8_drop_36 : decode cX8_drop 36 = .ok (.ireturn, 1) := by decide +kernel
theorem dX8_item_0 : decode cX8_item 0 = .ok (.iload_n 1, 1) := by decide +kernel
theorem dX8_item_1 : decode cX8_item 1 = .ok (.invokestatic 254, 3) := by decide +kernel
theorem dX8_item_4 : decode cX8_item 4 = .ok (.ifCond .eq 10, 3) := by decide +kernel
theorem dX8_item_7 : decode cX8_item 7 = .ok (.iload_n 2, 1) := by decide +kernel
theorem dX8_item_8 : decode cX8_item 8 = .ok (.invokestatic 257, 3) := by decide +kernel
theorem dX8_item_11 : decode cX8_item 11 = .ok (.ifCond .ne 5, 3) := by decide +kernel
theorem dX8_item_14 : decode cX8_item 14 = .ok (.iconst (-1), 1) := by decide +kernel
theorem dX8_item_15 : decode cX8_item 15 = .ok (.ireturn, 1) := by decide +kernel
theorem dX8_item_16 : decode cX8_item 16 = .ok (.aload_n 0, 1) := by decide +kernel
theorem dX8_item_17 : decode cX8_item 17 = .ok (.iload_n 1, 1) := by decide +kernel
theorem dX8_item_18 : decode cX8_item 18 = .ok (.iload_n 2, 1) := by decide +kernel
theorem dX8_item_19 : decode cX8_item 19 = .ok (.iload_n 3, 1) := by decide +kernel
theorem dX8_item_20 : decode cX8_item 20 = .ok (.iconst 1, 1) := by decide +kernel
theorem dX8_item_21 : decode cX8_item 21 = .ok (.invokevirtual 262, 3) := by decide +kernel
theorem dX8_item_24 : decode cX8_item 24 = .ok (.istore 6, 2) := by decide +kernel
theorem dX8_item_26 : decode cX8_item 26 = .ok (.iload 6, 2) := by decide +kernel
theorem dX8_item_28 : decode cX8_item 28 = .ok (.ifCond .eq 6, 3) := by decide +kernel
theorem dX8_item_31 : decode cX8_item 31 = .ok (.iload 6, 2) := by decide +kernel
theorem dX8_item_33 : decode cX8_item 33 = .ok (.ireturn, 1) := by decide +kernel
theorem dX8_item_34 : decode cX8_item 34 = .ok (.aload_n 0, 1) := by decide +kernel
theorem dX8_item_35 : decode cX8_item 35 = .ok (.getfield 34, 3) := by decide +kernel
theorem dX8_item_38 : decode cX8_item 38 = .ok (.bipush 24, 2) := by decide +kernel
theorem dX8_item_40 : decode cX8_item 40 = .ok (.iload_n 1, 1) := by decide +kernel
theorem dX8_item_41 : decode cX8_item 41 = .ok (.imul, 1) := by decide +kernel
theorem dX8_item_42 : decode cX8_item 42 = .ok (.iload_n 3, 1) := by decide +kernel
theorem dX8_item_43 : decode cX8_item 43 = .ok (.iadd, 1) := by decide +kernel
theorem dX8_item_44 : decode cX8_item 44 = .ok (.iload_n 2, 1) := by decide +kernel
theorem dX8_item_45 : decode cX8_item 45 = .ok (.ifCond .ne 14, 3) := by decide +kernel
theorem dX8_item_48 : decode cX8_item 48 = .ok (.lload 4, 2) := by decide +kernel
theorem dX8_item_50 : decode cX8_item 50 = .ok (.bipush 56, 2) := by decide +kernel
theorem dX8_item_52 : decode cX8_item 52 = .ok (.lshl, 1) := by decide +kernel
theorem dX8_item_53 : decode cX8_item 53 = .ok (.bipush 56, 2) := by decide +kernel
theorem dX8_item_55 : decode cX8_item 55 = .ok (.lshr, 1) := by decide +kernel
theorem dX8_item_56 : decode cX8_item 56 = .ok (.goto 37, 3) := by decide +kernel
theorem dX8_item_59 : decode cX8_item 59 = .ok (.iload_n 2, 1) := by decide +kernel
theorem dX8_item_60 : decode cX8_item 60 = .ok (.iconst 1, 1) := by decide +kernel
theorem dX8_item_61 : decode cX8_item 61 = .ok (.if_icmp .ne 14, 3) := by decide +kernel
theorem dX8_item_64 : decode cX8_item 64 = .ok (.lload 4, 2) := by decide +kernel
theorem dX8_item_66 : decode cX8_item 66 = .ok (.bipush 48, 2) := by decide +kernel
theorem dX8_item_68 : decode cX8_item 68 = .ok (.lshl, 1) := by decide +kernel
theorem dX8_item_69 : decode cX8_item 69 = .ok (.bipush 48, 2) := by decide +kernel
theorem dX8_item_71 : decode cX8_item 71 = .ok (.lshr, 1) := by decide +kernel
theorem dX8_item_72 : decode cX8_item 72 = .ok (.goto 21, 3) := by decide +kernel
theorem dX8_item_75 : decode cX8_item 75 = .ok (.iload_n 2, 1) := by decide +kernel
theorem dX8_item_76 : decode cX8_item 76 = .ok (.iconst 2, 1) := by decide +kernel
theorem dX8_item_77 : decode cX8_item 77 = .ok (.if_icmp .ne 14, 3) := by decide +kernel
theorem dX8_item_80 : decode cX8_item 80 = .ok (.lload 4, 2) := by decide +kernel
theorem dX8_item_82 : decode cX8_item 82 = .ok (.bipush 32, 2) := by decide +kernel
theorem dX8_item_84 : decode cX8_item 84 = .ok (.lshl, 1) := by decide +kernel
theorem dX8_item_85 : decode cX8_item 85 = .ok (.bipush 32, 2) := by decide +kernel
theorem dX8_item_87 : decode cX8_item 87 = .ok (.lshr, 1) := by decide +kernel
theorem dX8_item_88 : decode cX8_item 88 = .ok (.goto 5, 3) := by decide +kernel
theorem dX8_item_91 : decode cX8_item 91 = .ok (.lload 4, 2) := by decide +kernel
theorem dX8_item_93 : decode cX8_item 93 = .ok (.lastore, 1) := by decide +kernel
theorem dX8_item_94 : decode cX8_item 94 = .ok (.iconst 1, 1) := by decide +kernel
theorem dX8_item_95 : decode cX8_item 95 = .ok (.ireturn, 1) := by decide +kernel
theorem dX8_copy_0 : decode cX8_copy 0 = .ok (.iload_n 1, 1) := by decide +kernel
theorem dX8_copy_1 : decode cX8_copy 1 = .ok (.invokestatic 254, 3) := by decide +kernel
theorem dX8_copy_4 : decode cX8_copy 4 = .ok (.ifCond .eq 10, 3) := by decide +kernel
theorem dX8_copy_7 : decode cX8_copy 7 = .ok (.iload_n 3, 1) := by decide +kernel
theorem dX8_copy_8 : decode cX8_copy 8 = .ok (.invokestatic 254, 3) := by decide +kernel
theorem dX8_copy_11 : decode cX8_copy 11 = .ok (.ifCond .ne 5, 3) := by decide +kernel
theorem dX8_copy_14 : decode cX8_copy 14 = .ok (.iconst (-1), 1) := by decide +kernel
theorem dX8_copy_15 : decode cX8_copy 15 = .ok (.ireturn, 1) := by decide +kernel
theorem dX8_copy_16 : decode cX8_copy 16 = .ok (.aload_n 0, 1) := by decide +kernel
theorem dX8_copy_17 : decode cX8_copy 17 = .ok (.getfield 41, 3) := by decide +kernel
theorem dX8_copy_20 : decode cX8_copy 20 = .ok (.iload_n 1, 1) := by decide +kernel
theorem dX8_copy_21 : decode cX8_copy 21 = .ok (.iaload, 1) := by decide +kernel
theorem dX8_copy_22 : decode cX8_copy 22 = .ok (.ifCond .lt 12, 3) := by decide +kernel
theorem dX8_copy_25 : decode cX8_copy 25 = .ok (.aload_n 0, 1) := by decide +kernel
theorem dX8_copy_26 : decode cX8_copy 26 = .ok (.getfield 41, 3) := by decide +kernel
theorem dX8_copy_29 : decode cX8_copy 29 = .ok (.iload_n 3, 1) := by decide +kernel
theorem dX8_copy_30 : decode cX8_copy 30 = .ok (.iaload, 1) := by decide +kernel
theorem dX8_copy_31 : decode cX8_copy 31 = .ok (.ifCond .ge 6, 3) := by decide +kernel
theorem dX8_copy_34 : decode cX8_copy 34 = .ok (.bipush (-11), 2) := by decide +kernel
theorem dX8_copy_36 : decode cX8_copy 36 = .ok (.ireturn, 1) := by decide +kernel
theorem dX8_copy_37 : decode cX8_copy 37 = .ok (.aload_n 0, 1) := by decide +kernel
theorem dX8_copy_38 : decode cX8_copy 38 = .ok (.getfield 38, 3) := by decide +kernel
theorem dX8_copy_41 : decode cX8_copy 41 = .ok (.iload_n 1, 1) := by decide +kernel
theorem dX8_copy_42 : decode cX8_copy 42 = .ok (.iaload, 1) := by decide +kernel
theorem dX8_copy_43 : decode cX8_copy 43 = .ok (.aload_n 0, 1) := by decide +kernel
theorem dX8_copy_44 : decode cX8_copy 44 = .ok (.getfield 38, 3) := by decide +kernel
theorem dX8_copy_47 : decode cX8_copy 47 = .ok (.iload_n 3, 1) := by decide +kernel
theorem dX8_copy_48 : decode cX8_copy 48 = .ok (.iaload, 1) := by decide +kernel
theorem dX8_copy_49 : decode cX8_copy 49 = .ok (.if_icmp .eq 6, 3) := by decide +kernel
theorem dX8_copy_52 : decode cX8_copy 52 = .ok (.bipush (-12), 2) := by decide +kernel
theorem dX8_copy_54 : decode cX8_copy 54 = .ok (.ireturn, 1) := by decide +kernel
theorem dX8_copy_55 : decode cX8_copy 55 = .ok (.aload_n 0, 1) := by decide +kernel
theorem dX8_copy_56 : decode cX8_copy 56 = .ok (.iload_n 1, 1) := by decide +kernel
theorem dX8_copy_57 : decode cX8_copy 57 = .ok (.iload_n 2, 1) := by decide +kernel
theorem dX8_copy_58 : decode cX8_copy 58 = .ok (.iload 5, 2) := by decide +kernel
theorem dX8_copy_60 : decode cX8_copy 60 = .ok (.invokevirtual 247, 3) := by decide +kernel
theorem dX8_copy_63 : decode cX8_copy 63 = .ok (.ifCond .eq 15, 3) := by decide +kernel
theorem dX8_copy_66 : decode cX8_copy 66 = .ok (.aload_n 0, 1) := by decide +kernel
theorem dX8_copy_67 : decode cX8_copy 67 = .ok (.iload_n 3, 1) := by decide +kernel
theorem dX8_copy_68 : decode cX8_copy 68 = .ok (.iload 4, 2) := by decide +kernel
theorem dX8_copy_70 : decode cX8_copy 70 = .ok (.iload 5, 2) := by decide +kernel
theorem dX8_copy_72 : decode cX8_copy 72 = .ok (.invokevirtual 247, 3) := by decide +kernel
theorem dX8_copy_75 : decode cX8_copy 75 = .ok (.ifCond .ne 6, 3) := by decide +kernel
theorem dX8_copy_78 : decode cX8_copy 78 = .ok (.bipush (-13), 2) := by decide +kernel
theorem dX8_copy_80 : decode cX8_copy 80 = .ok (.ireturn, 1) := by decide +kernel
theorem dX8_copy_81 : decode cX8_copy 81 = .ok (.iconst 0, 1) := by decide +kernel
theorem dX8_copy_82 : decode cX8_copy 82 = .ok (.istore 6, 2) := by decide +kernel
theorem dX8_copy_84 : decode cX8_copy 84 = .ok (.iload 6, 2) := by decide +kernel
theorem dX8_copy_86 : decode cX8_copy 86 = .ok (.iload 5, 2) := by decide +kernel
theorem dX8_copy_88 : decode cX8_copy 88 = .ok (.if_icmp .ge 58, 3) := by decide +kernel
theorem dX8_copy_91 : decode cX8_copy 91 = .ok (.iload_n 2, 1) := by decide +kernel
theorem dX8_copy_92 : decode cX8_copy 92 = .ok (.iload 4, 2) := by decide +kernel
theorem dX8_copy_94 : decode cX8_copy 94 = .ok (.if_icmp .lt 8, 3) := by decide +kernel
theorem dX8_copy_97 : decode cX8_copy 97 = .ok (.iload 6, 2) := by decide +kernel
theorem dX8_copy_99 : decode cX8_copy 99 = .ok (.goto 10, 3) := by decide +kernel
theorem dX8_copy_102 : decode cX8_copy 102 = .ok (.iload 5, 2) := by decide +kernel
theorem dX8_copy_104 : decode cX8_copy 104 = .ok (.iconst 1, 1) := by decide +kernel
theorem dX8_copy_105 : decode cX8_copy 105 = .ok (.isub, 1) := by decide +kernel
theorem dX8_copy_106 : decode cX8_copy 106 = .ok (.iload 6, 2) := by decide +kernel
theorem dX8_copy_108 : decode cX8_copy 108 = .ok (.isub, 1) := by decide +kernel
theorem dX8_copy_109 : decode cX8_copy 109 = .ok (.istore 7, 2) := by decide +kernel
theorem dX8_copy_111 : decode cX8_copy 111 = .ok (.aload_n 0, 1) := by decide +kernel
theorem dX8_copy_112 : decode cX8_copy 112 = .ok (.getfield 34, 3) := by decide +kernel
theorem dX8_copy_115 : decode cX8_copy 115 = .ok (.bipush 24, 2) := by decide +kernel
theorem dX8_copy_117 : decode cX8_copy 117 = .ok (.iload_n 3, 1) := by decide +kernel
theorem dX8_copy_118 : decode cX8_copy 118 = .ok (.imul, 1) := by decide +kernel
theorem dX8_copy_119 : decode cX8_copy 119 = .ok (.iload 4, 2) := by decide +kernel
theorem dX8_copy_121 : decode cX8_copy 121 = .ok (.iadd, 1) := by decide +kernel
theorem dX8_copy_122 : decode cX8_copy 122 = .ok (.iload 7, 2) := by decide +kernel
theorem dX8_copy_124 : decode cX8_copy 124 = .ok (.iadd, 1) := by decide +kernel
theorem dX8_copy_125 : decode cX8_copy 125 = .ok (.aload_n 0, 1) := by decide +kernel
theorem dX8_copy_126 : decode cX8_copy 126 = .ok (.getfield 34, 3) := by decide +kernel
theorem dX8_copy_129 : decode cX8_copy 129 = .ok (.bipush 24, 2) := by decide +kernel
theorem dX8_copy_131 : decode cX8_copy 131 = .ok (.iload_n 1, 1) := by decide +kernel
theorem dX8_copy_132 : decode cX8_copy 132 = .ok (.imul, 1) := by decide +kernel
theorem dX8_copy_133 : decode cX8_copy 133 = .ok (.iload_n 2, 1) := by decide +kernel
theorem dX8_copy_134 : decode cX8_copy 134 = .ok (.iadd, 1) := by decide +kernel
theorem dX8_copy_135 : decode cX8_copy 135 = .ok (.iload 7, 2) := by decide +kernel
theorem dX8_copy_137 : decode cX8_copy 137 = .ok (.iadd, 1) := by decide +kernel
theorem dX8_copy_138 : decode cX8_copy 138 = .ok (.laload, 1) := by decide +kernel
theorem dX8_copy_139 : decode cX8_copy 139 = .ok (.lastore, 1) := by decide +kernel
theorem dX8_copy_140 : decode cX8_copy 140 = .ok (.iinc 6 1, 3) := by decide +kernel
theorem dX8_copy_143 : decode cX8_copy 143 = .ok (.goto (-59), 3) := by decide +kernel
theorem dX8_copy_146 : decode cX8_copy 146 = .ok (.iload 5, 2) := by decide +kernel
theorem dX8_copy_148 : decode cX8_copy 148 = .ok (.ireturn, 1) := by decide +kernel
end
section
/-! the memory that class and reference are told in, and the rows of the kit over it -/
/-- a partial computation's pieces -/
def o_nm {α β : Type} (x : α) (k : α → β) : β := k x
def o_bd {α β : Type} (x : Option α) (k : α → Option β) : Option β := match x with
  | none => none
  | some a => k a
theorem o_bd_some {α β : Type} {a : α} {k : α → Option β} : o_bd (some a) k = k a := rfl
theorem o_bd_none {α β : Type} {k : α → Option β} : o_bd (none : Option α) k = none := rfl
theorem o_bd_inv {α β : Type} {x : Option α} {k : α → Option β} {y : β} (h : o_bd x k = some y) : ∃ a, x = some a ∧ k a = some y := by
  cases x with
  | none => cases h
  | some a => exact ⟨a, rfl, h⟩
theorem o_nm_inv {α β : Type} {x : α} {k : α → Option β} {y : β} (h : o_nm x k = some y) : ∃ a, a = x ∧ k a = some y := ⟨x, rfl, h⟩
theorem o_gd_inv {β : Type} {c : Prop} [Decidable c] {a : Option β} {y : β} (h : (if c then a else none) = some y) : c ∧ a = some y := by
  by_cases hc : c
  · rw [if_pos hc] at h; exact ⟨hc, h⟩
  · rw [if_neg hc] at h; cases h
theorem o_pos {β : Type} {c : Prop} [Decidable c] {a b y : β} (hc : c) (h : (if c then a else b) = y) : a = y := by rwa [if_pos hc] at h
theorem o_neg {β : Type} {c : Prop} [Decidable c] {a b y : β} (hc : ¬ c) (h : (if c then a else b) = y) : b = y := by rwa [if_neg hc] at h
theorem o_ret {α : Type} {x y : α} (h : some x = some y) : y = x := (Option.some.inj h).symm
/-- in range -/
def o_in (i : Int32) (n : Nat) : Prop := ¬ (i < 0) ∧ i.toNatClampNeg < n
def o_in_dec (i : Int32) (n : Nat) : Decidable (o_in i n) := inferInstanceAs (Decidable (¬ (i < 0) ∧ i.toNatClampNeg < n))
abbrev o_inb (i : Int32) (n : Nat) : Bool := !(decide (i < 0)) && decide (i.toNatClampNeg < n)
theorem o_inb_in {i : Int32} {n : Nat} (h : o_inb i n = true) : vp_in i n := by
  simp only [o_inb, Bool.and_eq_true, Bool.not_eq_true', decide_eq_false_iff_not, decide_eq_true_eq] at h
  intro q
  rcases q with q | q
  · exact h.1 q
  · exact absurd h.2 (Nat.not_lt.mpr q)
/-- keys of cells: kind, number, row -/
abbrev Ky : Type := Nat × Nat × Nat
/-- the memory: ints by kind, number, row, place; longs by number, place -/
abbrev Mm : Type := (Nat → Nat → Nat → Nat → Int32) × (Nat → Nat → Int64)
def sR (t : Mm) (a b c : Nat) (f : Nat → Int32) : Mm := (fun a' b' c' => if a' = a ∧ b' = b ∧ c' = c then f else t.1 a' b' c', t.2)
def sI (t : Mm) (a b c j : Nat) (x : Int32) : Mm := sR t a b c (upd (t.1 a b c) j x)
def sL (t : Mm) (b : Nat) (f : Nat → Int64) : Mm := (t.1, fun b' => if b' = b then f else t.2 b')
def sJ (t : Mm) (b j : Nat) (x : Int64) : Mm := sL t b (vp_updL (t.2 b) j x)
/-- where things lie: class numbers and slots, array classes, addresses -/
abbrev Ly : Type := va_G × (Nat → ClassId) × (Ky → Nat)
/-- a shape: the cell of each key, by its row of ints and its longs; and the keys -/
abbrev Sh : Type := (Ly → Nat → Nat → Nat → (Nat → Int32) → (Nat → Int64) → va_E) × List Ky
def x_ct (sh : Sh) (g : Ly) (t : Mm) (k : Ky) : va_E := sh.1 g k.1 k.2.1 k.2.2 (t.1 k.1 k.2.1 k.2.2) (t.2 k.2.1)
def x_ws (sh : Sh) (g : Ly) (t : Mm) : va_W := sh.2.map (fun k => (g.2.2 k, x_ct sh g t k))
def XP (sh : Sh) (g : Ly) (t : Mm) (H : Heap) : Prop := va_P g.1 vwCl (x_ws sh g t) H
/-- the addresses are apart -/
def XD (sh : Sh) (g : Ly) : Prop := ∀ k k' : Ky, k ∈ sh.2 → k' ∈ sh.2 → g.2.2 k = g.2.2 k' → k = k'
def XA (sh : Sh) (g : Ly) : Nat → Prop := fun q => ∃ k ∈ sh.2, g.2.2 k = q
theorem x_at {sh : Sh} {g : Ly} {t : Mm} {k : Ky} (h : k ∈ sh.2) : ∃ q : Nat, sh.2[q]? = some k ∧ (x_ws sh g t)[q]? = some (g.2.2 k, x_ct sh g t k) := by
  obtain ⟨q, hq⟩ := List.getElem?_of_mem h
  exact ⟨q, hq, by simp [x_ws, hq]⟩
theorem x_D {sh : Sh} {g : Ly} {t : Mm} (hn : sh.2.Nodup) (hD : XD sh g) : va_D (XA sh g) (x_ws sh g t) := by
  refine ⟨fun i j p q hi hj hpq => ?_, fun k q hk => ?_⟩
  · simp only [x_ws, List.getElem?_map, Option.map_eq_some_iff] at hi hj
    obtain ⟨a, ha, rfl⟩ := hi
    obtain ⟨b, hb, rfl⟩ := hj
    have e := hD a b (List.mem_of_getElem? ha) (List.mem_of_getElem? hb) hpq
    subst e
    have hl := (List.getElem?_eq_some_iff.mp ha).1
    exact (List.getElem?_inj hl hn).mp (ha.trans hb.symm)
  · simp only [x_ws, List.getElem?_map, Option.map_eq_some_iff] at hk
    obtain ⟨a, ha, rfl⟩ := hk
    exact ⟨a, List.mem_of_getElem? ha, rfl⟩
theorem x_set {sh : Sh} {g : Ly} {t t' : Mm} {k : Ky} {e : va_E} {q : Nat} (hn : sh.2.Nodup) (hq : sh.2[q]? = some k) (he : x_ct sh g t' k = e) (ho : ∀ k' : Ky, k' ≠ k → x_ct sh g t' k' = x_ct sh g t k') : (x_ws sh g t).set q (g.2.2 k, e) = x_ws sh g t' := by
  apply List.ext_getElem?
  intro n
  have hl := (List.getElem?_eq_some_iff.mp hq).1
  by_cases h : n = q
  · subst h
    rw [List.getElem?_set_self (by simp [x_ws]; exact hl)]
    simp [x_ws, hq, he]
  · rw [List.getElem?_set_ne (Ne.symm h)]
    simp only [x_ws, List.getElem?_map]
    cases hk : sh.2[n]? with
    | none => rfl
    | some k' =>
      have hne : k' ≠ k := fun z => h (by
        subst z
        exact ((List.getElem?_inj hl hn).mp (hq.trans hk.symm)).symm)
      simp [ho k' hne]
theorem x_ct_sR {sh : Sh} {g : Ly} {t : Mm} {a b c : Nat} {f : Nat → Int32} : x_ct sh g (sR t a b c f) (a, b, c) = sh.1 g a b c f (t.2 b) := by simp [x_ct, sR]
theorem x_ct_sR_ne {sh : Sh} {g : Ly} {t : Mm} {a b c : Nat} {f : Nat → Int32} {k : Ky} (h : k ≠ (a, b, c)) : x_ct sh g (sR t a b c f) k = x_ct sh g t k := by
  obtain ⟨x, y, z⟩ := k
  have h1 : ¬ (x = a ∧ y = b ∧ z = c) := fun ⟨h1, h2, h3⟩ => h (by rw [h1, h2, h3])
  simp [x_ct, sR, h1]
end
section
/-! the tables' words: those that a call hands on (gw), and the nest mates' (nw) -/
def gw : List Cond := lw_tbl.filter goodWord
def x_isN : Cond → Bool
  | .fieldLinkNest .. => true
  | .methodLinkNest .. => true
  | _ => false
def nw : List Cond := lw_tbl.filter x_isN
theorem gw_in {w : Cond} (i : Nat) (h : lw_tbl[i]? = some w) (hg : goodWord w = true) : w ∈ gw := List.mem_filter.mpr ⟨List.mem_of_getElem? h, hg⟩
theorem nw_in {w : Cond} (i : Nat) (h : lw_tbl[i]? = some w) (hg : x_isN w = true) : w ∈ nw := List.mem_filter.mpr ⟨List.mem_of_getElem? h, hg⟩
theorem gw_good {cw cw' : Cond} (h : cw' ∈ gw) : GoodIn (cw :: gw) (cw' :: gw) := by
  have key : ∀ w ∈ gw, w ∈ cw :: gw ∧ ((w.onTables && w.keeps) = true ∨ ∃ ty, w = .arrayClass ty) := fun w hw => ⟨List.mem_cons_of_mem _ hw, good_of_word (List.mem_filter.mp hw).2⟩
  intro w hw
  rcases List.mem_cons.mp hw with e | e
  · subst e; exact key _ h
  · exact key _ e
def x_tys (cA : Nat → ClassId) : List (ClassId × FieldType) := [(cA 0, .int), (cA 1, .char), (cA 2, .long), (cA 3, .object "FordQuestions$Ford"), (cA 4, .object "FordQuestions$Sheet")]
def XK (g : Ly) (U : State) : Prop := va_K g.1 vwCl (x_tys g.2.1) U ∧ ∀ w ∈ nw, va_Nw w U
theorem x_onT {w : Cond} (h : w ∈ nw) : w.onTables = true := by
  have h2 := (List.mem_filter.mp h).2
  cases w <;> first | rfl | (simp [x_isN] at h2)
theorem XK.warm {g : Ly} {s U : State} (hW : s.WarmedH U.vm) (h : XK g s) : XK g U := by
  refine ⟨va_K.moved hW.alike h.1, fun w hw => ?_⟩
  have h2 := (List.mem_filter.mp hw).2
  have h3 := h.2 w hw
  cases w <;> first | exact va_Nw.warmF hW h3 | exact va_Nw.warmM hW h3 | (simp [x_isN] at h2)
theorem XK.call {g : Ly} {U : State} {gf : JFrame} {mk : MethodId} {a : Array Value} (h : XK g U) : XK g (U.calling gf mk a) :=
  ⟨va_K.moved (u := U) (U := U.calling gf mk a) (Vm.Alike.refl U.vm) h.1, fun w hw => va_Nw.same (u := U) (U := U.calling gf mk a) (x_onT hw) rfl (h.2 w hw)⟩
def XPre (sh : Sh) (g : Ly) (t : Mm) (U : State) : Prop := XP sh g t U.heap ∧ XK g U
def rmv (d : Nat) : Room := { frames := d, cells := 0, slots := 0, locals := 40 * d }
def XQi (sh : Sh) (g : Ly) (r : Int32) (t : Mm) : Array Value → State → Outcome → State → Prop := va_Qi (fun r' (u : Mm) => r' = r ∧ u = t) (fun u T => XP sh g u T.heap) (XA sh g)
def XQl (sh : Sh) (g : Ly) (r : Int64) (t : Mm) : Array Value → State → Outcome → State → Prop := va_Ql (fun r' (u : Mm) => r' = r ∧ u = t) (fun u T => XP sh g u T.heap) (XA sh g)
def XQv (sh : Sh) (g : Ly) (t : Mm) : Array Value → State → Outcome → State → Prop := va_Qv (fun (u : Mm) => u = t) (fun u T => XP sh g u T.heap) (XA sh g)
def XQr (sh : Sh) (g : Ly) (a : Nat) (t : Mm) : Array Value → State → Outcome → State → Prop := va_Qr (fun (u : Mm) => u = t) (fun u a' T => a' = a ∧ XP sh g u T.heap) (XA sh g)
/-- the contract of a method y over a world of the shape sh, started in the memory t: it answers r and leaves t' -/
def MI (l : Launch) (y : MethodName) (cc : ByteArray) (maxL : Nat) (ret : Option FieldType) (d : Nat) (sh : Sh) (g : Ly) (as : List Value) (t : Mm) (Qc : Array Value → State → Outcome → State → Prop) : Prop :=
  Met l y (.code y cc maxL ret :: gw) (rmv d) (va_Pc as (XPre sh g t)) Qc 0 0 (XA sh g)
abbrev XG (sh : Sh) (g : Ly) : Prop := sh.2.Nodup ∧ XD sh g
/-- what stands while a method's body runs -/
abbrev XC (p : Program) (m : MethodId) (meth : Method) (c : Code) (cc : ByteArray) (nL : Nat) (s : State) (args : Array Value) (cw : Cond) (own : String) (ret : Option FieldType) (sh : Sh) (g : Ly) : Prop :=
  CallFix p m c cc nL s args (cw :: gw) own ∧ meth.sig.returnType = ret ∧ meth.locks = false ∧ XK g s ∧ XG sh g
theorem x_met {l : Launch} {y : MethodName} {cc : ByteArray} {maxL : Nat} {ret : Option FieldType} {d : Nat} {sh : Sh} {g : Ly} {as : List Value} {t : Mm} {Qc : Array Value → State → Outcome → State → Prop} (hG : XG sh g) (hy : plainName y.cls = true) (hn : (lg_sl as).length ≤ maxL)
    (body : ∀ (p : Program) (e : Env) (s : State) (m : MethodId) (below : List Frame) (meth : Method) (c : Code) (ls : Array Slot), XC p m meth c cc maxL s as.toArray (.code y cc maxL ret) y.cls ret sh g → XP sh g t s.heap → lv_has ls maxL (lv_args 0 as) →
      W p l e (rmv d) s m as.toArray below meth c s.heap [] 0 0 (MQ below Qc as.toArray s 0 0 (XA sh g)) (F0 m 0 ls [])) : MI l y cc maxL ret d sh g as t Qc := by
  refine Met.ofW (cc := cc) (maxL := maxL) (ret := ret) hy rfl ?_
  intro p e s m args below meth c s₁ B hml hv
  obtain ⟨rfl, hP, hK⟩ := hv
  have hl := lv_entry as (n := maxL) hn
  rw [lg_entry_eq]
  exact body p e s m below meth c _ ⟨⟨B.exec, B.bytes, hml, findClass_of_methodNamed B.named, atoms_spec (ws := .code y cc maxL ret :: gw) B.pre⟩, B.returns, B.notSynchronized, hK, hG⟩ hP hl
section XR
variable {p : Program} {l : Launch} {e : Env} {d : Nat} {s : State} {m : MethodId} {args : Array Value} {below : List Frame} {meth : Method} {c : Code} {H : Heap} {locs : List Loc} {Q : State → Prop}
variable {cc : ByteArray} {nL pc : Nat} {ls : Array Slot} {rest : List Value} {cw : Cond} {own : String} {ret : Option FieldType} {sh : Sh} {g : Ly} {t : Mm} {index : Nat}
theorem x_get {C ref nm ds : String} {T : u_T} {N ci a b k : Nat} {fs : List Value} {v : Value} (X : XC p m meth c cc nL s args cw own ret sh g) (hP : XP sh g t H) (hin : ∀ w ∈ u_ws C T N, w ∈ gw) (hcl : vwCl[ci]? = some (C, T, N)) (hk : (a, b, k) ∈ sh.2) (hc : x_ct sh g t (a, b, k) = .inr (ci, fs)) (j : Nat) (hj : j < N) (hT : T j = (ref, nm, ds, (T j).2.2.2)) (hv : fs[j]? = some v) (hl : Cond.fieldLink own index ref nm ds ∈ gw) (hdg : decode cc pc = .ok (.getfield index, 3))
    (kk : W p l e (rmv d) s m args below meth c H locs 0 0 Q (F0 m (pc + 3) ls (v :: rest))) : W p l e (rmv d) s m args below meth c H locs 0 0 Q (F0 m pc ls (.ref (g.2.2 (a, b, k)) :: rest)) := by
  obtain ⟨q, -, hq⟩ := x_at (g := g) (t := t) hk
  rw [hc] at hq
  exact va_get (D := g.1) (ref := ref) X.1.1 X.1.2.1 X.1.2.2.2.2 (fun w h => List.mem_cons_of_mem _ (hin w h)) X.1.2.2.2.1 X.2.2.2.1.1 hP q hq hcl j hj (by rw [hT]; exact X.1.2.2.2.2 _ (List.mem_cons_of_mem _ hl)) (fun x h => by rw [hT] at h ⊢; exact h) hv hdg kk
theorem x_getN {C ref nm ds host : String} {T : u_T} {N ci a b k : Nat} {fs : List Value} {v : Value} (X : XC p m meth c cc nL s args cw own ret sh g) (hP : XP sh g t H) (hin : ∀ w ∈ u_ws C T N, w ∈ gw) (hcl : vwCl[ci]? = some (C, T, N)) (hk : (a, b, k) ∈ sh.2) (hc : x_ct sh g t (a, b, k) = .inr (ci, fs)) (j : Nat) (hj : j < N) (hT : T j = (ref, nm, ds, (T j).2.2.2)) (hv : fs[j]? = some v) (hl : Cond.fieldLinkNest own index ref nm ds host ∈ nw) (hdg : decode cc pc = .ok (.getfield index, 3))
    (kk : W p l e (rmv d) s m args below meth c H locs 0 0 Q (F0 m (pc + 3) ls (v :: rest))) : W p l e (rmv d) s m args below meth c H locs 0 0 Q (F0 m pc ls (.ref (g.2.2 (a, b, k)) :: rest)) := by
  obtain ⟨q, -, hq⟩ := x_at (g := g) (t := t) hk
  rw [hc] at hq
  exact va_getN (D := g.1) (ref := ref) X.1.1 X.1.2.1 X.1.2.2.2.2 (fun w h => List.mem_cons_of_mem _ (hin w h)) X.1.2.2.2.1 X.2.2.2.1.1 hP q hq hcl j hj (by rw [hT]; exact va_Nw.use rfl (X.2.2.2.1.2 _ hl)) (fun x h => by rw [hT] at h ⊢; exact h) hv hdg kk
theorem x_upd {k : Ky} {q : Nat} {e' : va_E} {t' : Mm} {H1 : Heap} (hG : XG sh g) (hq : sh.2[q]? = some k) (he : x_ct sh g t' k = e') (ho : ∀ k' : Ky, k' ≠ k → x_ct sh g t' k' = x_ct sh g t k') (hP : va_P g.1 vwCl ((x_ws sh g t).set q (g.2.2 k, e')) H1) : XP sh g t' H1 := by
  rw [x_set hG.1 hq he ho] at hP
  exact hP
theorem x_put {C ref nm ds : String} {T : u_T} {N ci a b k : Nat} {fs : List Value} {x : Int32} {ty : FieldType} {ty0 : Nat → FieldType} (X : XC p m meth c cc nL s args cw own ret sh g) (hP : XP sh g t H) (hS : va_S (XA sh g) s.heap H locs) (hin : ∀ w ∈ u_ws C T N, w ∈ gw) (hty : ∀ k, k < N → parseFieldDescriptor (T k).2.2.1 = some (ty0 k)) (hnm : ∀ a, a < N → ∀ b, b < N → a ≠ b → (T a).2.1 ≠ (T b).2.1) (hcl : vwCl[ci]? = some (C, T, N)) (hk : (a, b, k) ∈ sh.2) (hc : x_ct sh g t (a, b, k) = .inr (ci, fs)) (j : Nat) (hj : j < N) (hT : T j = (ref, nm, ds, false)) (hty0 : ty0 j = ty) (hc2 : sh.1 g a b k (upd (t.1 a b k) j x) (t.2 b) = .inr (ci, fs.set j (.int x))) (hlen : j < fs.length) (hn : narrow ty (.int x) = .int x) (hfit : fits ty (.int x) = true) (hl : Cond.fieldLink own index ref nm ds ∈ gw) (hdg : decode cc pc = .ok (.putfield index, 3))
    (kk : ∀ (H1 : Heap) (locs1 : List Loc), XP sh g (sI t a b k j x) H1 → va_S (XA sh g) s.heap H1 locs1 → W p l e (rmv d) s m args below meth c H1 locs1 0 0 Q (F0 m (pc + 3) ls rest)) : W p l e (rmv d) s m args below meth c H locs 0 0 Q (F0 m pc ls (.int x :: .ref (g.2.2 (a, b, k)) :: rest)) := by
  obtain ⟨q, hq0, hq⟩ := x_at (g := g) (t := t) hk
  rw [hc] at hq
  refine va_put (D := g.1) (ref := ref) (ty := ty) X.1.1 X.1.2.1 X.1.2.2.2.2 (fun w h => List.mem_cons_of_mem _ (hin w h)) ty0 hty hnm X.1.2.2.2.1 X.2.2.2.1.1 hP (x_D X.2.2.2.2.1 X.2.2.2.2.2) hS q hq hcl j hj (by rw [hT]; exact X.1.2.2.2.2 _ (List.mem_cons_of_mem _ hl)) (fun x h => by rw [hT] at h ⊢; exact h) (by rw [hT]) (by rw [hty j hj, hty0]) hn hfit hlen hdg (fun H1 locs1 hP1 _ hS1 => kk H1 locs1 ?_ hS1)
  exact x_upd X.2.2.2.2 hq0 (by rw [sI, x_ct_sR]; exact hc2) (fun k' hk' => by rw [sI, x_ct_sR_ne hk']) hP1
theorem x_putN {C ref nm ds host : String} {T : u_T} {N ci a b k : Nat} {fs : List Value} {x : Int32} {ty : FieldType} {ty0 : Nat → FieldType} (X : XC p m meth c cc nL s args cw own ret sh g) (hP : XP sh g t H) (hS : va_S (XA sh g) s.heap H locs) (hin : ∀ w ∈ u_ws C T N, w ∈ gw) (hty : ∀ k, k < N → parseFieldDescriptor (T k).2.2.1 = some (ty0 k)) (hnm : ∀ a, a < N → ∀ b, b < N → a ≠ b → (T a).2.1 ≠ (T b).2.1) (hcl : vwCl[ci]? = some (C, T, N)) (hk : (a, b, k) ∈ sh.2) (hc : x_ct sh g t (a, b, k) = .inr (ci, fs)) (j : Nat) (hj : j < N) (hT : T j = (ref, nm, ds, false)) (hty0 : ty0 j = ty) (hc2 : sh.1 g a b k (upd (t.1 a b k) j x) (t.2 b) = .inr (ci, fs.set j (.int x))) (hlen : j < fs.length) (hn : narrow ty (.int x) = .int x) (hfit : fits ty (.int x) = true) (hl : Cond.fieldLinkNest own index ref nm ds host ∈ nw) (hdg : decode cc pc = .ok (.putfield index, 3))
    (kk : ∀ (H1 : Heap) (locs1 : List Loc), XP sh g (sI t a b k j x) H1 → va_S (XA sh g) s.heap H1 locs1 → W p l e (rmv d) s m args below meth c H1 locs1 0 0 Q (F0 m (pc + 3) ls rest)) : W p l e (rmv d) s m args below meth c H locs 0 0 Q (F0 m pc ls (.int x :: .ref (g.2.2 (a, b, k)) :: rest)) := by
  obtain ⟨q, hq0, hq⟩ := x_at (g := g) (t := t) hk
  rw [hc] at hq
  refine va_putN (D := g.1) (ref := ref) (ty := ty) X.1.1 X.1.2.1 X.1.2.2.2.2 (fun w h => List.mem_cons_of_mem _ (hin w h)) ty0 hty hnm X.1.2.2.2.1 X.2.2.2.1.1 hP (x_D X.2.2.2.2.1 X.2.2.2.2.2) hS q hq hcl j hj (by rw [hT]; exact va_Nw.use rfl (X.2.2.2.1.2 _ hl)) (fun x h => by rw [hT] at h ⊢; exact h) (by rw [hT]) (by rw [hty j hj, hty0]) hn hfit hlen hdg (fun H1 locs1 hP1 _ hS1 => kk H1 locs1 ?_ hS1)
  exact x_upd X.2.2.2.2 hq0 (by rw [sI, x_ct_sR]; exact hc2) (fun k' hk' => by rw [sI, x_ct_sR_ne hk']) hP1
theorem x_iald {a b k n : Nat} {i : Int32} (X : XC p m meth c cc nL s args cw own ret sh g) (hP : XP sh g t H) (hk : (a, b, k) ∈ sh.2) (hc : ∀ f h, sh.1 g a b k f h = .inl (g.2.1 0, n, .inl f)) (hi : o_inb i n = true) (hdg : decode cc pc = .ok (.iaload, 1))
    (kk : W p l e (rmv d) s m args below meth c H locs 0 0 Q (F0 m (pc + 1) ls (.int (t.1 a b k i.toNatClampNeg) :: rest))) : W p l e (rmv d) s m args below meth c H locs 0 0 Q (F0 m pc ls (.int i :: .ref (g.2.2 (a, b, k)) :: rest)) := by
  obtain ⟨q, -, hq⟩ := x_at (g := g) (t := t) hk
  rw [show x_ct sh g t (a, b, k) = .inl (g.2.1 0, n, .inl (t.1 a b k)) from hc _ _] at hq
  exact va_iald (D := g.1) X.1.1 X.1.2.1 X.2.2.2.1.1 hP q 0 hq rfl (o_inb_in hi) hdg kk
theorem x_iast {a b k n : Nat} {i x : Int32} (X : XC p m meth c cc nL s args cw own ret sh g) (hP : XP sh g t H) (hS : va_S (XA sh g) s.heap H locs) (hk : (a, b, k) ∈ sh.2) (hc : ∀ f h, sh.1 g a b k f h = .inl (g.2.1 0, n, .inl f)) (hi : o_inb i n = true) (hdg : decode cc pc = .ok (.iastore, 1))
    (kk : ∀ (H1 : Heap) (locs1 : List Loc), XP sh g (sI t a b k i.toNatClampNeg x) H1 → va_S (XA sh g) s.heap H1 locs1 → W p l e (rmv d) s m args below meth c H1 locs1 0 0 Q (F0 m (pc + 1) ls rest)) : W p l e (rmv d) s m args below meth c H locs 0 0 Q (F0 m pc ls (.int x :: .int i :: .ref (g.2.2 (a, b, k)) :: rest)) := by
  obtain ⟨q, hq0, hq⟩ := x_at (g := g) (t := t) hk
  rw [show x_ct sh g t (a, b, k) = .inl (g.2.1 0, n, .inl (t.1 a b k)) from hc _ _] at hq
  refine va_iast (D := g.1) X.1.1 X.1.2.1 X.2.2.2.1.1 hP (x_D X.2.2.2.2.1 X.2.2.2.2.2) hS q 0 hq rfl (o_inb_in hi) hdg (fun H1 locs1 hP1 _ hS1 => kk H1 locs1 ?_ hS1)
  exact x_upd X.2.2.2.2 hq0 (by rw [sI, x_ct_sR, hc]) (fun k' hk' => by rw [sI, x_ct_sR_ne hk']) hP1
theorem x_cald {a b k n : Nat} {i : Int32} (X : XC p m meth c cc nL s args cw own ret sh g) (hP : XP sh g t H) (hk : (a, b, k) ∈ sh.2) (hc : ∀ f h, sh.1 g a b k f h = .inl (g.2.1 1, n, .inl f)) (hi : o_inb i n = true) (hdg : decode cc pc = .ok (.caload, 1))
    (kk : W p l e (rmv d) s m args below meth c H locs 0 0 Q (F0 m (pc + 1) ls (.int (t.1 a b k i.toNatClampNeg) :: rest))) : W p l e (rmv d) s m args below meth c H locs 0 0 Q (F0 m pc ls (.int i :: .ref (g.2.2 (a, b, k)) :: rest)) := by
  obtain ⟨q, -, hq⟩ := x_at (g := g) (t := t) hk
  rw [show x_ct sh g t (a, b, k) = .inl (g.2.1 1, n, .inl (t.1 a b k)) from hc _ _] at hq
  exact va_cald (D := g.1) X.1.1 X.1.2.1 X.2.2.2.1.1 hP q 1 hq rfl (o_inb_in hi) hdg kk
theorem x_cast {a b k n : Nat} {i x : Int32} (X : XC p m meth c cc nL s args cw own ret sh g) (hP : XP sh g t H) (hS : va_S (XA sh g) s.heap H locs) (hk : (a, b, k) ∈ sh.2) (hc : ∀ f h, sh.1 g a b k f h = .inl (g.2.1 1, n, .inl f)) (hi : o_inb i n = true) (hdg : decode cc pc = .ok (.castore, 1))
    (kk : ∀ (H1 : Heap) (locs1 : List Loc), XP sh g (sI t a b k i.toNatClampNeg (vp_nar .char x)) H1 → va_S (XA sh g) s.heap H1 locs1 → W p l e (rmv d) s m args below meth c H1 locs1 0 0 Q (F0 m (pc + 1) ls rest)) : W p l e (rmv d) s m args below meth c H locs 0 0 Q (F0 m pc ls (.int x :: .int i :: .ref (g.2.2 (a, b, k)) :: rest)) := by
  obtain ⟨q, hq0, hq⟩ := x_at (g := g) (t := t) hk
  rw [show x_ct sh g t (a, b, k) = .inl (g.2.1 1, n, .inl (t.1 a b k)) from hc _ _] at hq
  refine va_cast (D := g.1) X.1.1 X.1.2.1 X.2.2.2.1.1 hP (x_D X.2.2.2.2.1 X.2.2.2.2.2) hS q 1 hq rfl (o_inb_in hi) hdg (fun H1 locs1 hP1 _ hS1 => kk H1 locs1 ?_ hS1)
  exact x_upd X.2.2.2.2 hq0 (by rw [sI, x_ct_sR, hc]) (fun k' hk' => by rw [sI, x_ct_sR_ne hk']) hP1
theorem x_ct_sL {b : Nat} {f : Nat → Int64} {a k : Nat} : x_ct sh g (sL t b f) (a, b, k) = sh.1 g a b k (t.1 a b k) f := by simp [x_ct, sL]
theorem x_ct_sL_ne {b a k : Nat} {f : Nat → Int64} (hL : ∀ g a' b' k' f' h h', ¬ (a' = a ∧ k' = k) → sh.1 g a' b' k' f' h = sh.1 g a' b' k' f' h') {k' : Ky} (h : k' ≠ (a, b, k)) : x_ct sh g (sL t b f) k' = x_ct sh g t k' := by
  obtain ⟨x, y, z⟩ := k'
  by_cases h1 : y = b
  · subst h1
    refine hL _ _ _ _ _ _ _ (fun ⟨h2, h3⟩ => h ?_)
    have h2 : x = a := h2
    have h3 : z = k := h3
    rw [h2, h3]
  · simp [x_ct, sL, h1]
theorem x_lald {a b k n : Nat} {i : Int32} (X : XC p m meth c cc nL s args cw own ret sh g) (hP : XP sh g t H) (hk : (a, b, k) ∈ sh.2) (hc : ∀ f h, sh.1 g a b k f h = .inl (g.2.1 2, n, .inr (.inl h))) (hi : o_inb i n = true) (hdg : decode cc pc = .ok (.laload, 1))
    (kk : W p l e (rmv d) s m args below meth c H locs 0 0 Q (F0 m (pc + 1) ls (.long (t.2 b i.toNatClampNeg) :: rest))) : W p l e (rmv d) s m args below meth c H locs 0 0 Q (F0 m pc ls (.int i :: .ref (g.2.2 (a, b, k)) :: rest)) := by
  obtain ⟨q, -, hq⟩ := x_at (g := g) (t := t) hk
  rw [show x_ct sh g t (a, b, k) = .inl (g.2.1 2, n, .inr (.inl (t.2 b))) from hc _ _] at hq
  exact va_lald (D := g.1) X.1.1 X.1.2.1 X.2.2.2.1.1 hP q 2 hq rfl (o_inb_in hi) hdg kk
theorem x_last {a b k n : Nat} {i : Int32} {x : Int64} (X : XC p m meth c cc nL s args cw own ret sh g) (hP : XP sh g t H) (hS : va_S (XA sh g) s.heap H locs) (hk : (a, b, k) ∈ sh.2) (hc : ∀ f h, sh.1 g a b k f h = .inl (g.2.1 2, n, .inr (.inl h))) (hL : ∀ g a' b' k' f' h h', ¬ (a' = a ∧ k' = k) → sh.1 g a' b' k' f' h = sh.1 g a' b' k' f' h') (hi : o_inb i n = true) (hdg : decode cc pc = .ok (.lastore, 1))
    (kk : ∀ (H1 : Heap) (locs1 : List Loc), XP sh g (sJ t b i.toNatClampNeg x) H1 → va_S (XA sh g) s.heap H1 locs1 → W p l e (rmv d) s m args below meth c H1 locs1 0 0 Q (F0 m (pc + 1) ls rest)) : W p l e (rmv d) s m args below meth c H locs 0 0 Q (F0 m pc ls (.long x :: .int i :: .ref (g.2.2 (a, b, k)) :: rest)) := by
  obtain ⟨q, hq0, hq⟩ := x_at (g := g) (t := t) hk
  rw [show x_ct sh g t (a, b, k) = .inl (g.2.1 2, n, .inr (.inl (t.2 b))) from hc _ _] at hq
  refine va_last (D := g.1) X.1.1 X.1.2.1 X.2.2.2.1.1 hP (x_D X.2.2.2.2.1 X.2.2.2.2.2) hS q 2 hq rfl (o_inb_in hi) hdg (fun H1 locs1 hP1 _ hS1 => kk H1 locs1 ?_ hS1)
  exact x_upd X.2.2.2.2 hq0 (by rw [sJ, x_ct_sL, hc]) (fun k' hk' => by rw [sJ, x_ct_sL_ne hL hk']) hP1
theorem x_aald {C : String} {a b k n ti : Nat} {i : Int32} {f : Nat → Option Nat} {z : Nat} (X : XC p m meth c cc nL s args cw own ret sh g) (hP : XP sh g t H) (hk : (a, b, k) ∈ sh.2) (ht : (x_tys g.2.1)[ti]? = some (g.2.1 ti, .object C)) (hc : x_ct sh g t (a, b, k) = .inl (g.2.1 ti, n, .inr (.inr (.inr (.inr f))))) (hi : o_inb i n = true) (hz : f i.toNatClampNeg = some z) (hdg : decode cc pc = .ok (.aaload, 1))
    (kk : W p l e (rmv d) s m args below meth c H locs 0 0 Q (F0 m (pc + 1) ls (.ref z :: rest))) : W p l e (rmv d) s m args below meth c H locs 0 0 Q (F0 m pc ls (.int i :: .ref (g.2.2 (a, b, k)) :: rest)) := by
  obtain ⟨q, -, hq⟩ := x_at (g := g) (t := t) hk
  rw [hc] at hq
  exact va_aldq (D := g.1) X.1.1 X.1.2.1 X.2.2.2.1.1 hP q ti hq ht (o_inb_in hi) hdg (by rw [hz]; exact kk)
end XR
end
section
section XS
variable {p : Program} {l : Launch} {e : Env} {d : Nat} {s : State} {m : MethodId} {args : Array Value} {below : List Frame} {meth : Method} {c : Code} {H : Heap} {locs : List Loc} {Q : State → Prop}
variable {cc : ByteArray} {nL pc : Nat} {ls : Array Slot} {rest : List Value} {cw : Cond} {own : String} {ret : Option FieldType} {sh : Sh} {g : Ly} {t : Mm} {index : Nat}
/-- the ends of a method -/
theorem x_iret {x : Int32} (X : XC p m meth c cc nL s args cw own (some .int) sh g) (hP : XP sh g t H) (hS : va_S (XA sh g) s.heap H locs) (hdg : decode cc pc = .ok (.ireturn, 1)) : W p l e (rmv d) s m args below meth c H locs 0 0 (MQ below (XQi sh g x t) args s 0 0 (XA sh g)) (F0 m pc ls [.int x]) :=
  W.iret (hlocks := X.2.2.1) X.1.1 X.1.2.1 X.2.1 (fun T hT _ => ⟨⟨x, t, rfl, ⟨rfl, rfl⟩, show XP sh g t T.heap by rw [hT]; exact hP⟩, hS.F hT⟩) hS.2.2 hdg
theorem x_zret {x : Int32} {ty : FieldType} (hn : narrow ty (.int x) = .int x) (X : XC p m meth c cc nL s args cw own (some ty) sh g) (hP : XP sh g t H) (hS : va_S (XA sh g) s.heap H locs) (hdg : decode cc pc = .ok (.ireturn, 1)) : W p l e (rmv d) s m args below meth c H locs 0 0 (MQ below (XQi sh g x t) args s 0 0 (XA sh g)) (F0 m pc ls [.int x]) :=
  W.zret (hlocks := X.2.2.1) X.1.1 X.1.2.1 X.2.1 hn (fun T hT _ => ⟨⟨x, t, rfl, ⟨rfl, rfl⟩, show XP sh g t T.heap by rw [hT]; exact hP⟩, hS.F hT⟩) hS.2.2 hdg
theorem x_lret {x : Int64} (X : XC p m meth c cc nL s args cw own (some .long) sh g) (hP : XP sh g t H) (hS : va_S (XA sh g) s.heap H locs) (hdg : decode cc pc = .ok (.lreturn, 1)) : W p l e (rmv d) s m args below meth c H locs 0 0 (MQ below (XQl sh g x t) args s 0 0 (XA sh g)) (F0 m pc ls [.long x]) :=
  W.lret (hlocks := X.2.2.1) X.1.1 X.1.2.1 X.2.1 (fun T hT _ => ⟨⟨x, t, rfl, ⟨rfl, rfl⟩, show XP sh g t T.heap by rw [hT]; exact hP⟩, hS.F hT⟩) hS.2.2 hdg
theorem x_vret (X : XC p m meth c cc nL s args cw own none sh g) (hP : XP sh g t H) (hS : va_S (XA sh g) s.heap H locs) (hdg : decode cc pc = .ok (.return_, 1)) : W p l e (rmv d) s m args below meth c H locs 0 0 (MQ below (XQv sh g t) args s 0 0 (XA sh g)) (F0 m pc ls []) :=
  W.vret (hlocks := X.2.2.1) X.1.1 X.1.2.1 X.2.1 (fun T hT _ => ⟨⟨t, rfl, rfl, show XP sh g t T.heap by rw [hT]; exact hP⟩, hS.F hT⟩) hS.2.2 hdg
theorem x_aret {a : Nat} {nm : String} (X : XC p m meth c cc nL s args cw own (some (.object nm)) sh g) (hP : XP sh g t H) (hS : va_S (XA sh g) s.heap H locs) (hdg : decode cc pc = .ok (.areturn, 1)) : W p l e (rmv d) s m args below meth c H locs 0 0 (MQ below (XQr sh g a t) args s 0 0 (XA sh g)) (F0 m pc ls [.ref a]) :=
  W.aret (hlocks := X.2.2.1) X.1.1 X.1.2.1 X.2.1 (Or.inl ⟨_, rfl⟩) (Or.inr ⟨_, rfl⟩) (fun T hT _ => ⟨⟨t, a, rfl, rfl, rfl, show XP sh g t T.heap by rw [hT]; exact hP⟩, hS.F hT⟩) hS.2.2 hdg
/-- how a call is run: virtual (also private), static; of a nest mate -/
abbrev x_Run (p : Program) (l : Launch) (e : Env) (d : Nat) (s : State) (m : MethodId) (args : Array Value) (below : List Frame) (meth : Method) (c : Code) (H : Heap) (locs : List Loc) (g : JFrame) (rest : List Value) (Qa : State → Outcome → State → Prop) (free : Addr → Prop) : Prop :=
  va_Run p l e (rmv d) s m args below meth c H locs 0 0 0 0 g rest Qa free
theorem x_blind {as : List Value} : FrameBlind (va_Pc as (XPre sh g t)) := fun _ _ _ _ h => ⟨h.1, h.2.1, h.2.2.call⟩
theorem x_preS (X : XC p m meth c cc nL s args cw own ret sh g) (hP : XP sh g t H) (as : List Value) : PreS s H (va_Pc as (XPre sh g t)) as :=
  ⟨x_blind, fun U hU hW => ⟨rfl, by rw [hU]; exact hP, X.2.2.2.1.warm hW⟩⟩
theorem x_recv {C : String} {T : u_T} {N ci a b k : Nat} {fs : List Value} (X : XC p m meth c cc nL s args cw own ret sh g) (hP : XP sh g t H) (hcl : vwCl[ci]? = some (C, T, N)) (hk : (a, b, k) ∈ sh.2) (hc : x_ct sh g t (a, b, k) = .inr (ci, fs)) : ∃ cell : Cell, H[g.2.2 (a, b, k)]? = some cell ∧ cell.vm.isStatics = false ∧ s.vm.findClass C = some cell.cls := by
  obtain ⟨q, -, hq⟩ := x_at (g := g) (t := t) hk
  rw [hc] at hq
  exact va_recv X.2.2.2.1.1 hP hcl hq
variable {y : MethodName} {bytes : ByteArray} {maxL d' n b : Nat} {ret' : Option FieldType} {As : List Value} {Qc : Array Value → State → Outcome → State → Prop}
/-- a callee's words -/
abbrev x_wV (own : String) (index : Nat) (y : MethodName) (bytes : ByteArray) (maxL : Nat) (ret' : Option FieldType) : Prop := Cond.code y bytes maxL ret' ∈ gw ∧ Cond.methodLink own index y ∈ gw ∧ Cond.instanceMethod y ∈ gw ∧ Cond.selects y.cls y y ∈ gw ∧ Cond.initialized y.cls ∈ gw
abbrev x_wS (own : String) (index : Nat) (y : MethodName) (bytes : ByteArray) (maxL : Nat) (ret' : Option FieldType) : Prop := Cond.code y bytes maxL ret' ∈ gw ∧ Cond.methodLink own index y ∈ gw ∧ Cond.static y ∈ gw ∧ Cond.initialized y.cls ∈ gw
abbrev x_wSN (own : String) (index : Nat) (y : MethodName) (host : String) (bytes : ByteArray) (maxL : Nat) (ret' : Option FieldType) : Prop := Cond.code y bytes maxL ret' ∈ gw ∧ Cond.methodLinkNest own index y host ∈ nw ∧ Cond.static y ∈ gw ∧ Cond.initialized y.cls ∈ gw
abbrev x_hd (y : MethodName) (n : Nat) : Prop := y.cls ≠ "java/lang/invoke/MethodHandle" ∧ y.cls ≠ "java/lang/invoke/VarHandle" ∧ (parseMethodDescriptor y.desc).map (fun d => d.parameters.length) = some n
theorem x_rm (hd : d' + 1 ≤ d) (hL : maxL ≤ 21) : (rmv d').frames + 1 ≤ (rmv d).frames ∧ 8 + (maxL + 11) + (rmv d').locals ≤ (rmv d).locals := by
  refine ⟨hd, ?_⟩
  show 8 + (maxL + 11) + 40 * d' ≤ 40 * d
  omega
theorem x_runV (X : XC p m meth c cc nL s args cw own ret sh g) (hP : XP sh g t H) (hM : MI l y bytes maxL ret' d' sh g (.ref b :: As) t Qc) (hw : x_wV own index y bytes maxL ret') (hy : x_hd y n) (hd : d' + 1 ≤ d ∧ maxL ≤ 21) (hr : ∃ cell : Cell, H[b]? = some cell ∧ cell.vm.isStatics = false ∧ s.vm.findClass y.cls = some cell.cls)
    (hn : As.length = n) (hsize : ls.size = nL) {st : List Value} (hstack : st = As.reverse ++ .ref b :: rest) (hW : (rest.map fun v => v.category).sum ≤ 8) (hdg : decode cc pc = .ok (.invokevirtual index, 3)) :
    x_Run p l e d s m args below meth c H locs (F0 m pc ls st) rest (Qc (Value.ref b :: As).toArray) (XA sh g) := by
  obtain ⟨w1, w2, w3, w4, w5⟩ := hw
  have ok : ∀ w ∈ gw, w.before args s = true := fun w h => X.1.2.2.2.2 w (List.mem_cons_of_mem _ h)
  refine va_runV X.1 hM ⟨callB_of n X.1.2.2.2.2 (gw_good w1) rfl rfl rfl (ok _ w5) (ok _ w2) hy (x_rm hd.1 hd.2), ok _ w3, ok _ w4⟩ ⟨x_blind, hr, (x_preS X hP _).2⟩ rfl hn hsize hstack (lv_room (m := m) (pc := pc) (ls := ls) (rest := st) hW) hdg ⟨Nat.le_refl 0, Nat.le_refl 0⟩
theorem x_runS (X : XC p m meth c cc nL s args cw own ret sh g) (hP : XP sh g t H) (hM : MI l y bytes maxL ret' d' sh g As t Qc) (hw : x_wS own index y bytes maxL ret') (hy : x_hd y n) (hd : d' + 1 ≤ d ∧ maxL ≤ 21)
    (hn : As.length = n) (hsize : ls.size = nL) {st : List Value} (hstack : st = As.reverse ++ rest) (hW : (rest.map fun v => v.category).sum ≤ 8) (hdg : decode cc pc = .ok (.invokestatic index, 3)) :
    x_Run p l e d s m args below meth c H locs (F0 m pc ls st) rest (Qc As.toArray) (XA sh g) := by
  obtain ⟨w1, w2, w3, w5⟩ := hw
  have ok : ∀ w ∈ gw, w.before args s = true := fun w h => X.1.2.2.2.2 w (List.mem_cons_of_mem _ h)
  exact va_runS X.1 hM ⟨callB_of n X.1.2.2.2.2 (gw_good w1) rfl rfl rfl (ok _ w5) (ok _ w2) hy (x_rm hd.1 hd.2), ok _ w3⟩ (x_preS X hP _) rfl hn hsize hstack (lv_room (m := m) (pc := pc) (ls := ls) (rest := st) hW) hdg ⟨Nat.le_refl 0, Nat.le_refl 0⟩
theorem x_runSN {host : String} (X : XC p m meth c cc nL s args cw own ret sh g) (hP : XP sh g t H) (hM : MI l y bytes maxL ret' d' sh g As t Qc) (hw : x_wSN own index y host bytes maxL ret') (hy : x_hd y n) (hd : d' + 1 ≤ d ∧ maxL ≤ 21)
    (hn : As.length = n) (hsize : ls.size = nL) {st : List Value} (hstack : st = As.reverse ++ rest) (hW : (rest.map fun v => v.category).sum ≤ 8) (hdg : decode cc pc = .ok (.invokestatic index, 3)) :
    x_Run p l e d s m args below meth c H locs (F0 m pc ls st) rest (Qc As.toArray) (XA sh g) := by
  obtain ⟨w1, w2, w3, w5⟩ := hw
  have ok : ∀ w ∈ gw, w.before args s = true := fun w h => X.1.2.2.2.2 w (List.mem_cons_of_mem _ h)
  exact va_runSN (host := host) X.1 hM ⟨va_cnB n X.1.2.2.2.2 (gw_good w1) rfl rfl rfl (X.2.2.2.1.2 _ w2) (ok _ w5) hy (x_rm hd.1 hd.2), ok _ w3, trivial⟩ (x_preS X hP _) rfl hn hsize hstack (lv_room (m := m) (pc := pc) (ls := ls) (rest := st) hW) hdg ⟨Nat.le_refl 0, Nat.le_refl 0⟩
/-- behind a call -/
theorem x_calli {r : Int32} {t' : Mm} {st : List Value} {as : Array Value} (hr : x_Run p l e d s m args below meth c H locs (F0 m pc ls st) rest (XQi sh g r t' as) (XA sh g)) (hS : va_S (XA sh g) s.heap H locs)
    (kk : ∀ (H1 : Heap) (locs1 : List Loc), XP sh g t' H1 → va_S (XA sh g) s.heap H1 locs1 → W p l e (rmv d) s m args below meth c H1 locs1 0 0 Q (F0 m (pc + 3) ls (.int r :: rest))) : W p l e (rmv d) s m args below meth c H locs 0 0 Q (F0 m pc ls st) := by
  refine va_calli hr hS (fun q _ h => h) (fun q h => h) (fun r' u T H1 locs1 hT _ hp hB _ _ hS1 => ?_)
  obtain ⟨rfl, rfl⟩ := hp
  exact kk H1 locs1 (hT ▸ hB) hS1
theorem x_calll {r : Int64} {t' : Mm} {st : List Value} {as : Array Value} (hr : x_Run p l e d s m args below meth c H locs (F0 m pc ls st) rest (XQl sh g r t' as) (XA sh g)) (hS : va_S (XA sh g) s.heap H locs)
    (kk : ∀ (H1 : Heap) (locs1 : List Loc), XP sh g t' H1 → va_S (XA sh g) s.heap H1 locs1 → W p l e (rmv d) s m args below meth c H1 locs1 0 0 Q (F0 m (pc + 3) ls (.long r :: rest))) : W p l e (rmv d) s m args below meth c H locs 0 0 Q (F0 m pc ls st) := by
  refine va_calll hr hS (fun q _ h => h) (fun q h => h) (fun r' u T H1 locs1 hT _ hp hB _ _ hS1 => ?_)
  obtain ⟨rfl, rfl⟩ := hp
  exact kk H1 locs1 (hT ▸ hB) hS1
theorem x_callv {t' : Mm} {st : List Value} {as : Array Value} (hr : x_Run p l e d s m args below meth c H locs (F0 m pc ls st) rest (XQv sh g t' as) (XA sh g)) (hS : va_S (XA sh g) s.heap H locs)
    (kk : ∀ (H1 : Heap) (locs1 : List Loc), XP sh g t' H1 → va_S (XA sh g) s.heap H1 locs1 → W p l e (rmv d) s m args below meth c H1 locs1 0 0 Q (F0 m (pc + 3) ls rest)) : W p l e (rmv d) s m args below meth c H locs 0 0 Q (F0 m pc ls st) := by
  refine va_callv hr hS (fun q _ h => h) (fun q h => h) (fun u T H1 locs1 hT _ hp hB _ _ hS1 => ?_)
  have hp : u = t' := hp
  subst hp
  exact kk H1 locs1 (hT ▸ hB) hS1
theorem x_callr {a : Nat} {t' : Mm} {st : List Value} {as : Array Value} (hr : x_Run p l e d s m args below meth c H locs (F0 m pc ls st) rest (XQr sh g a t' as) (XA sh g)) (hS : va_S (XA sh g) s.heap H locs)
    (kk : ∀ (H1 : Heap) (locs1 : List Loc), XP sh g t' H1 → va_S (XA sh g) s.heap H1 locs1 → W p l e (rmv d) s m args below meth c H1 locs1 0 0 Q (F0 m (pc + 3) ls (.ref a :: rest))) : W p l e (rmv d) s m args below meth c H locs 0 0 Q (F0 m pc ls st) := by
  refine va_callr hr hS (fun q _ h => h) (fun q h => h) (fun u a' T H1 locs1 hT _ hp hB _ _ hS1 => ?_)
  have hp : u = t' := hp
  subst hp
  obtain ⟨rfl, hB⟩ := hB
  exact kk H1 locs1 (hT ▸ hB) hS1
/-- System.arraycopy of ints, of longs; Math.max, Math.min -/
theorem x_copyi {a b k a' b' k' n0 n1 : Nat} {sp dp n : Int32} (X : XC p m meth c cc nL s args cw own ret sh g) (hP : XP sh g t H) (hS : va_S (XA sh g) s.heap H locs) (hw : Cond.methodLink own index arraycopyName ∈ gw ∧ Cond.native arraycopyName ∈ gw ∧ Cond.static arraycopyName ∈ gw ∧ Cond.initialized "java/lang/System" ∈ gw) (hk : (a, b, k) ∈ sh.2) (hc : ∀ f h, sh.1 g a b k f h = .inl (g.2.1 0, n0, .inl f)) (hk' : (a', b', k') ∈ sh.2) (hc' : ∀ f h, sh.1 g a' b' k' f h = .inl (g.2.1 0, n1, .inl f))
    (hr : (decide (¬ sp < 0) && decide (¬ dp < 0) && decide (¬ n < 0) && decide (sp.toNatClampNeg + n.toNatClampNeg ≤ n0) && decide (dp.toNatClampNeg + n.toNatClampNeg ≤ n1)) = true) (hsize : ls.size = nL) (hd : 1 ≤ d) (hrest : (rest.map fun v => v.category).sum ≤ 8) (hdg : decode cc pc = .ok (.invokestatic index, 3))
    (kk : ∀ (H1 : Heap) (locs1 : List Loc), XP sh g (sR t a' b' k' (va_cpy (t.1 a b k) (t.1 a' b' k') sp.toNatClampNeg dp.toNatClampNeg n.toNatClampNeg)) H1 → va_S (XA sh g) s.heap H1 locs1 → W p l e (rmv d) s m args below meth c H1 locs1 0 0 Q (F0 m (pc + 3) ls rest)) : W p l e (rmv d) s m args below meth c H locs 0 0 Q (F0 m pc ls (.int n :: .int dp :: .ref (g.2.2 (a', b', k')) :: .int sp :: .ref (g.2.2 (a, b, k)) :: rest)) := by
  obtain ⟨w1, w2, w3, w4⟩ := hw
  have ok : ∀ w ∈ gw, w.before args s = true := fun w h => X.1.2.2.2.2 w (List.mem_cons_of_mem _ h)
  obtain ⟨q, hq0, hq⟩ := x_at (g := g) (t := t) hk
  obtain ⟨q', hq0', hq'⟩ := x_at (g := g) (t := t) hk'
  rw [show x_ct sh g t (a, b, k) = .inl (g.2.1 0, n0, .inl (t.1 a b k)) from hc _ _] at hq
  rw [show x_ct sh g t (a', b', k') = .inl (g.2.1 0, n1, .inl (t.1 a' b' k')) from hc' _ _] at hq'
  simp only [Bool.and_eq_true, decide_eq_true_eq] at hr
  obtain ⟨⟨⟨⟨h1, h2⟩, h3⟩, h4⟩, h5⟩ := hr
  refine va_copyi (D := g.1) X.1.1 X.1.2.1 (X.1.2.2.1.trans hsize.symm) X.1.2.2.2.1 (ok _ w1) (ok _ w2) (ok _ w3) (ok _ w4) X.2.2.2.1.1 hP (x_D X.2.2.2.2.1 X.2.2.2.2.2) hS q q' 0 0 hq hq' rfl rfl rfl h1 h2 h3 h4 h5 (fun _ _ => rfl) hd ?_ hdg (fun H1 locs1 hP1 _ hS1 => kk H1 locs1 ?_ hS1)
  · show _ + (nativeFrameWords "java/lang/System" "arraycopy" 5 + 11) ≤ 40 * d
    have : nativeFrameWords "java/lang/System" "arraycopy" 5 + 11 ≤ 32 := by decide +kernel
    omega
  · exact x_upd X.2.2.2.2 hq0' (by rw [x_ct_sR, hc']) (fun k' hk' => by rw [x_ct_sR_ne hk']) hP1
theorem x_copyl {a b k b' n0 n1 : Nat} {sp dp n : Int32} (X : XC p m meth c cc nL s args cw own ret sh g) (hP : XP sh g t H) (hS : va_S (XA sh g) s.heap H locs) (hw : Cond.methodLink own index arraycopyName ∈ gw ∧ Cond.native arraycopyName ∈ gw ∧ Cond.static arraycopyName ∈ gw ∧ Cond.initialized "java/lang/System" ∈ gw) (hk : (a, b, k) ∈ sh.2) (hc : ∀ f h, sh.1 g a b k f h = .inl (g.2.1 2, n0, .inr (.inl h))) (hk' : (a, b', k) ∈ sh.2) (hc' : ∀ f h, sh.1 g a b' k f h = .inl (g.2.1 2, n1, .inr (.inl h))) (hL : ∀ g a' b' k' f' h h', ¬ (a' = a ∧ k' = k) → sh.1 g a' b' k' f' h = sh.1 g a' b' k' f' h')
    (hr : (decide (¬ sp < 0) && decide (¬ dp < 0) && decide (¬ n < 0) && decide (sp.toNatClampNeg + n.toNatClampNeg ≤ n0) && decide (dp.toNatClampNeg + n.toNatClampNeg ≤ n1)) = true) (hsize : ls.size = nL) (hd : 1 ≤ d) (hrest : (rest.map fun v => v.category).sum ≤ 8) (hdg : decode cc pc = .ok (.invokestatic index, 3))
    (kk : ∀ (H1 : Heap) (locs1 : List Loc), XP sh g (sL t b' (va_cpy (t.2 b) (t.2 b') sp.toNatClampNeg dp.toNatClampNeg n.toNatClampNeg)) H1 → va_S (XA sh g) s.heap H1 locs1 → W p l e (rmv d) s m args below meth c H1 locs1 0 0 Q (F0 m (pc + 3) ls rest)) : W p l e (rmv d) s m args below meth c H locs 0 0 Q (F0 m pc ls (.int n :: .int dp :: .ref (g.2.2 (a, b', k)) :: .int sp :: .ref (g.2.2 (a, b, k)) :: rest)) := by
  obtain ⟨w1, w2, w3, w4⟩ := hw
  have ok : ∀ w ∈ gw, w.before args s = true := fun w h => X.1.2.2.2.2 w (List.mem_cons_of_mem _ h)
  obtain ⟨q, hq0, hq⟩ := x_at (g := g) (t := t) hk
  obtain ⟨q', hq0', hq'⟩ := x_at (g := g) (t := t) hk'
  rw [show x_ct sh g t (a, b, k) = .inl (g.2.1 2, n0, .inr (.inl (t.2 b))) from hc _ _] at hq
  rw [show x_ct sh g t (a, b', k) = .inl (g.2.1 2, n1, .inr (.inl (t.2 b'))) from hc' _ _] at hq'
  simp only [Bool.and_eq_true, decide_eq_true_eq] at hr
  obtain ⟨⟨⟨⟨h1, h2⟩, h3⟩, h4⟩, h5⟩ := hr
  refine va_copyl (D := g.1) X.1.1 X.1.2.1 (X.1.2.2.1.trans hsize.symm) X.1.2.2.2.1 (ok _ w1) (ok _ w2) (ok _ w3) (ok _ w4) X.2.2.2.1.1 hP (x_D X.2.2.2.2.1 X.2.2.2.2.2) hS q q' 2 2 hq hq' rfl rfl rfl h1 h2 h3 h4 h5 (fun _ _ => rfl) hd ?_ hdg (fun H1 locs1 hP1 _ hS1 => kk H1 locs1 ?_ hS1)
  · show _ + (nativeFrameWords "java/lang/System" "arraycopy" 5 + 11) ≤ 40 * d
    have : nativeFrameWords "java/lang/System" "arraycopy" 5 + 11 ≤ 32 := by decide +kernel
    omega
  · exact x_upd X.2.2.2.2 hq0' (by rw [x_ct_sL, hc']) (fun k' hk' => by rw [x_ct_sL_ne hL hk']) hP1
theorem x_max {x y : Int32} (X : XC p m meth c cc nL s args cw own ret sh g) (hw : Cond.methodLink own index Lib.Math.max.name ∈ gw ∧ Cond.static Lib.Math.max.name ∈ gw ∧ Cond.initialized "java/lang/Math" ∈ gw ∧ Cond.code Lib.Math.max.name Lib.Math.max.code 2 (some .int) ∈ gw) (hsize : ls.size = nL) (hd : 1 ≤ d) (hrest : (rest.map fun v => v.category).sum ≤ 8) (hdg : decode cc pc = .ok (.invokestatic index, 3))
    (kk : W p l e (rmv d) s m args below meth c H locs 0 0 Q (F0 m (pc + 3) ls (.int (if x < y then y else x) :: rest))) : W p l e (rmv d) s m args below meth c H locs 0 0 Q (F0 m pc ls (.int y :: .int x :: rest)) := by
  obtain ⟨w1, w2, w3, w4⟩ := hw
  have ok : ∀ w ∈ gw, w.before args s = true := fun w h => X.1.2.2.2.2 w (List.mem_cons_of_mem _ h)
  exact va_mmax X.1.1 X.1.2.1 (X.1.2.2.1.trans hsize.symm) X.1.2.2.2.1 (ok _ w1) (ok _ w2) (ok _ w3) (ok _ w4) hd (by show _ + 13 ≤ 40 * d; omega) (Nat.le_refl 0) (Nat.le_refl 0) hdg kk
theorem x_min {x y : Int32} (X : XC p m meth c cc nL s args cw own ret sh g) (hw : Cond.methodLink own index Lib.Math.min.name ∈ gw ∧ Cond.static Lib.Math.min.name ∈ gw ∧ Cond.initialized "java/lang/Math" ∈ gw ∧ Cond.code Lib.Math.min.name Lib.Math.min.code 2 (some .int) ∈ gw) (hsize : ls.size = nL) (hd : 1 ≤ d) (hrest : (rest.map fun v => v.category).sum ≤ 8) (hdg : decode cc pc = .ok (.invokestatic index, 3))
    (kk : W p l e (rmv d) s m args below meth c H locs 0 0 Q (F0 m (pc + 3) ls (.int (if y < x then y else x) :: rest))) : W p l e (rmv d) s m args below meth c H locs 0 0 Q (F0 m pc ls (.int y :: .int x :: rest)) := by
  obtain ⟨w1, w2, w3, w4⟩ := hw
  have ok : ∀ w ∈ gw, w.before args s = true := fun w h => X.1.2.2.2.2 w (List.mem_cons_of_mem _ h)
  exact va_mmin X.1.1 X.1.2.1 (X.1.2.2.1.trans hsize.symm) X.1.2.2.2.1 (ok _ w1) (ok _ w2) (ok _ w3) (ok _ w4) hd (by show _ + 13 ≤ 40 * d; omega) (Nat.le_refl 0) (Nat.le_refl 0) hdg kk
/-- a branch, a number at a switch -/
theorem x_fix {g1 g2 : JFrame} (h : g1 = g2) (k : W p l e (rmv d) s m args below meth c H locs 0 0 Q g2) : W p l e (rmv d) s m args below meth c H locs 0 0 Q g1 := W.eq h k
end XS
/-- a loop with a budget -/
def o_lp {σ ρ : Type} (body : (σ → Option ρ) → σ → Option ρ) : Nat → σ → Option ρ
  | 0, _ => none
  | n + 1, x => body (o_lp body n) x
theorem o_lp_ind {σ ρ : Type} {y : ρ} {P : σ → Prop} {body : (σ → Option ρ) → σ → Option ρ} (hb : ∀ k : σ → Option ρ, (∀ x, k x = some y → P x) → ∀ x, body k x = some y → P x) : ∀ (n : Nat) (x : σ), o_lp body n x = some y → P x
  | 0, _, h => by cases h
  | n + 1, x, h => hb (o_lp body n) (o_lp_ind hb n) x h
end
section
/-! the shape of the class's world (shC) and of the reference's (shR) -/
def cellC (g : Ly) (a b c : Nat) (f : Nat → Int32) (h : Nat → Int64) : va_E := match a with
  | 0 => match c with
    | 0 => .inr (0, [.int (f 0), .int (f 1), .int (f 2), .int (f 3), .int (f 4), .ref (g.2.2 (0, b, 1)), .ref (g.2.2 (0, b, 2)), .ref (g.2.2 (0, b, 3)), .ref (g.2.2 (0, b, 4)), .ref (g.2.2 (0, b, 5)), .ref (g.2.2 (0, b, 6)), .ref (g.2.2 (0, b, 7))])
    | 1 => .inl (g.2.1 0, 8, .inl f)
    | 2 => .inl (g.2.1 0, 8, .inl f)
    | _ => .inl (g.2.1 0, 5, .inl f)
  | 1 => match c with
    | 0 => .inr (4, [.ref (g.2.2 (0, (9 * b), 0)), .ref (g.2.2 (1, b, 1)), .int (f 2), .int (f 3)])
    | _ => .inl (g.2.1 3, 8, .inr (.inr (.inr (.inr (fun j => some (g.2.2 (0, (9 * b + 1 + j), 0)))))))
  | 2 => match c with
    | 0 => .inr (3, [.int (f 0), .int (f 1), .ref (g.2.2 (2, b, 1))])
    | 1 => .inl (g.2.1 2, 24, .inr (.inl h))
    | _ => .inr (3, [])
  | _ => match b with
    | 0 => .inr (7, [.ref (g.2.2 (1, 0, 0)), .ref (g.2.2 (1, 1, 0)), .int (f 2), .ref (g.2.2 (3, 1, 0)), .ref (g.2.2 (3, 3, 0)), .ref (g.2.2 (3, 4, 0)), .ref (g.2.2 (3, 5, 0)), .ref (g.2.2 (3, 8, 0))])
    | 1 => .inr (5, [.ref (g.2.2 (3, 2, 0)), .int (f 1)])
    | 2 => .inl (g.2.1 1, 90, .inl f)
    | 3 => .inr (2, [.ref (g.2.2 (3, 1, 0)), .ref (g.2.2 (0, 20, 0)), .int (f 2)])
    | 4 => .inr (1, [.ref (g.2.2 (0, 18, 0)), .int (f 1), .int (f 2), .int (f 3)])
    | 5 => .inr (6, [.ref (g.2.2 (0, 19, 0)), .ref (g.2.2 (3, 6, 0)), .int (f 2), .int (f 3), .ref (g.2.2 (3, 7, 0)), .int (f 5), .int (f 6)])
    | 6 => .inl (g.2.1 0, 5, .inl f)
    | 7 => .inl (g.2.1 0, 5, .inl f)
    | _ => .inl (g.2.1 4, 4, .inr (.inr (.inr (.inr (fun j => some (g.2.2 (2, j, 0)))))))
def kyC : List Ky := (List.range 168).map (fun n => (0, n / 8, n % 8)) ++ ((List.range 4).map (fun n => (1, n / 2, n % 2)) ++ ((List.range 8).map (fun n => (2, n / 2, n % 2)) ++ (List.range 9).map (fun n => (3, n, 0))))
def shC : Sh := (cellC, kyC)
theorem kyC_nodup : kyC.Nodup := by decide +kernel
theorem kyF {i r : Nat} (hi : i < 21) (hr : r < 8) : (0, i, r) ∈ shC.2 := by
  refine List.mem_append_left _ (List.mem_map.mpr ⟨8 * i + r, List.mem_range.mpr (by omega), ?_⟩)
  have h1 : (8 * i + r) / 8 = i := by omega
  have h2 : (8 * i + r) % 8 = r := by omega
  rw [h1, h2]
theorem kyS {w r : Nat} (hi : w < 2) (hr : r < 2) : (1, w, r) ∈ shC.2 := by
  refine List.mem_append_right _ (List.mem_append_left _ (List.mem_map.mpr ⟨2 * w + r, List.mem_range.mpr (by omega), ?_⟩))
  have h1 : (2 * w + r) / 2 = w := by omega
  have h2 : (2 * w + r) % 2 = r := by omega
  rw [h1, h2]
theorem kyH {j r : Nat} (hi : j < 4) (hr : r < 2) : (2, j, r) ∈ shC.2 := by
  refine List.mem_append_right _ (List.mem_append_right _ (List.mem_append_left _ (List.mem_map.mpr ⟨2 * j + r, List.mem_range.mpr (by omega), ?_⟩)))
  have h1 : (2 * j + r) / 2 = j := by omega
  have h2 : (2 * j + r) % 2 = r := by omega
  rw [h1, h2]
theorem kyO {n : Nat} (hi : n < 9) : (3, n, 0) ∈ shC.2 := List.mem_append_right _ (List.mem_append_right _ (List.mem_append_right _ (List.mem_map.mpr ⟨n, List.mem_range.mpr hi, rfl⟩)))
theorem hLC : ∀ (g : Ly) (a' b' k' : Nat) (f' : Nat → Int32) (h h' : Nat → Int64), ¬ (a' = 2 ∧ k' = 1) → shC.1 g a' b' k' f' h = shC.1 g a' b' k' f' h' := by
  intro g a b k f h h' hn
  show cellC g a b k f h = cellC g a b k f h'
  unfold cellC
  split
  · rfl
  · rfl
  · split
    · rfl
    · exact absurd ⟨rfl, rfl⟩ hn
    · rfl
  · rfl
/-- the reference: its one object, and its rows by the number of their field -/
def lenR : Nat → Nat
  | 2 => 8
  | 3 => 5
  | 4 => 31
  | 5 => 31
  | 6 => 248
  | 9 => 16
  | 10 => 31
  | 11 => 248
  | 13 => 4
  | 14 => 4
  | 16 => 90
  | 20 => 5
  | 25 => 8
  | 26 => 5
  | 27 => 31
  | _ => 5
def cellR9 (g : Ly) (c : Nat) (f : Nat → Int32) (h : Nat → Int64) : va_E := match c with
  | 0 => .inr (8, [.int (f 0), .int (f 1), .ref (g.2.2 (9, 0, 2)), .ref (g.2.2 (9, 0, 3)), .ref (g.2.2 (9, 0, 4)), .ref (g.2.2 (9, 0, 5)), .ref (g.2.2 (9, 0, 6)), .int (f 7), .int (f 8), .ref (g.2.2 (9, 0, 9)), .ref (g.2.2 (9, 0, 10)), .ref (g.2.2 (9, 0, 11)), .ref (g.2.2 (9, 0, 12)), .ref (g.2.2 (9, 0, 13)), .ref (g.2.2 (9, 0, 14)), .int (f 15), .ref (g.2.2 (9, 0, 16)), .int (f 17), .int (f 18), .int (f 19), .ref (g.2.2 (9, 0, 20)), .int (f 21), .int (f 22), .int (f 23), .int (f 24), .ref (g.2.2 (9, 0, 25)), .ref (g.2.2 (9, 0, 26)), .ref (g.2.2 (9, 0, 27)), .int (f 28), .int (f 29), .ref (g.2.2 (9, 0, 30))])
  | 12 => .inl (g.2.1 2, 96, .inr (.inl h))
  | k => .inl (g.2.1 0, lenR k, .inl f)
def cellR (g : Ly) (a _ c : Nat) (f : Nat → Int32) (h : Nat → Int64) : va_E := match a with
  | 9 => cellR9 g c f h
  | _ => .inr (8, [])
def rowsR : List Nat := [0, 2, 3, 4, 5, 6, 9, 10, 11, 12, 13, 14, 16, 20, 25, 26, 27, 30]
def kyR : List Ky := rowsR.map (fun r => (9, 0, r))
def shR : Sh := (cellR, kyR)
theorem kyR_nodup : kyR.Nodup := by decide +kernel
theorem kyM {r : Nat} (hr : r ∈ rowsR) : (9, 0, r) ∈ shR.2 := List.mem_map.mpr ⟨r, hr, rfl⟩
theorem hLR : ∀ (g : Ly) (a' b' k' : Nat) (f' : Nat → Int32) (h h' : Nat → Int64), ¬ (a' = 9 ∧ k' = 12) → shR.1 g a' b' k' f' h = shR.1 g a' b' k' f' h' := by
  intro g a b k f h h' hn
  show cellR g a b k f h = cellR g a b k f h'
  unfold cellR
  split
  · unfold cellR9
    split
    · rfl
    · exact absurd ⟨rfl, rfl⟩ hn
    · rfl
  · rfl
theorem o_nm_to {α β : Type} {v x : α} {k : α → Option β} {y : β} (e : x = v) (h : o_nm v k = some y) : k x = some y := by
  subst e
  exact h
theorem o_inb_lt {i : Int32} {n : Nat} (h : o_inb i n = true) : i.toNatClampNeg < n := by
  simp only [o_inb, Bool.and_eq_true, Bool.not_eq_true', decide_eq_false_iff_not, decide_eq_true_eq] at h
  exact h.2
theorem x_narC {x : Int32} (h : (x.toUInt32 % 65536).toInt32 = x) : narrow .char (.int x) = .int x := by
  have := pk_nc x
  rwa [h] at this
theorem x_narZ {x : Int32} (h : x = 0 ∨ x = 1) : narrow .boolean (.int x) = .int x := by
  rcases h with rfl | rfl <;> rfl
theorem x_ne {x : Int32} {n : Int} {k : Int32} (h : ¬ x = k) (hk : k.toInt = n) : x.toInt ≠ n := fun z => h (Int32.toInt_inj.mp (z.trans hk.symm))
theorem x_lk2 {x : Int32} {o1 o2 d : Int} (h1 : ¬ x = 0) (h2 : ¬ x = 1) : Op.lookupswitch.offset [(0, o1), (1, o2)] d x.toInt = d := by
  rw [lv_osw (k := 0) h1 (by decide), lv_osw (k := 1) h2 (by decide)]
  rfl
section XT
variable {p : Program} {l : Launch} {e : Env} {d : Nat} {s : State} {m : MethodId} {args : Array Value} {below : List Frame} {meth : Method} {c : Code} {H : Heap} {locs : List Loc} {Q : State → Prop}
variable {cc : ByteArray} {nL pc : Nat} {ls : Array Slot} {rest : List Value} {cw : Cond} {own : String} {ret : Option FieldType} {sh : Sh} {g : Ly} {t : Mm} {index : Nat}
theorem x_alenJ {a b k n : Nat} (X : XC p m meth c cc nL s args cw own ret sh g) (hP : XP sh g t H) (hk : (a, b, k) ∈ sh.2) (hc : ∀ f h, sh.1 g a b k f h = .inl (g.2.1 2, n, .inr (.inl h))) (hdg : decode cc pc = .ok (.arraylength, 1))
    (kk : W p l e (rmv d) s m args below meth c H locs 0 0 Q (F0 m (pc + 1) ls (.int (Int32.ofNat n) :: rest))) : W p l e (rmv d) s m args below meth c H locs 0 0 Q (F0 m pc ls (.ref (g.2.2 (a, b, k)) :: rest)) := by
  obtain ⟨q, -, hq⟩ := x_at (g := g) (t := t) hk
  rw [show x_ct sh g t (a, b, k) = .inl (g.2.1 2, n, .inr (.inl (t.2 b))) from hc _ _] at hq
  exact va_alen (D := g.1) X.1.1 X.1.2.1 X.2.2.2.1.1 hP q 2 hq (ty := .long) rfl rfl hdg kk
end XT
end
section
theorem wd_0 : Cond.selects RX2 yX2_readQuestions yX2_readQuestions ∈ gw := gw_in 0 (by decide +kernel) (by decide +kernel)
theorem wd_1 : Cond.selects RX2 yX2_nextLetter yX2_nextLetter ∈ gw := gw_in 1 (by decide +kernel) (by decide +kernel)
theorem wd_2 : Cond.selects RX2 yX2_letterHere yX2_letterHere ∈ gw := gw_in 2 (by decide +kernel) (by decide +kernel)
theorem wd_3 : Cond.selects RX2 yX2_readQuestion yX2_readQuestion ∈ gw := gw_in 3 (by decide +kernel) (by decide +kernel)
theorem wd_4 : Cond.selects RX2 yX2_accepts yX2_accepts ∈ gw := gw_in 4 (by decide +kernel) (by decide +kernel)
theorem wd_5 : Cond.selects RX2 yX2_readCrossers yX2_readCrossers ∈ gw := gw_in 5 (by decide +kernel) (by decide +kernel)
theorem wd_6 : Cond.selects RX2 yX2_readCrosser yX2_readCrosser ∈ gw := gw_in 6 (by decide +kernel) (by decide +kernel)
theorem wd_7 : Cond.selects RX2 yX2_readTopics yX2_readTopics ∈ gw := gw_in 7 (by decide +kernel) (by decide +kernel)
theorem wd_8 : Cond.selects RX2 yX2_readComing yX2_readComing ∈ gw := gw_in 8 (by decide +kernel) (by decide +kernel)
theorem wd_9 : Cond.selects RX7 yX7_pass yX7_pass ∈ gw := gw_in 9 (by decide +kernel) (by decide +kernel)
theorem wd_10 : Cond.selects RX0 yX0_letIn yX0_letIn ∈ gw := gw_in 10 (by decide +kernel) (by decide +kernel)
theorem wd_11 : Cond.selects RX0 yX0_firstNotAsked yX0_firstNotAsked ∈ gw := gw_in 11 (by decide +kernel) (by decide +kernel)
theorem wd_12 : Cond.selects RX1 yX1_howManyIn yX1_howManyIn ∈ gw := gw_in 12 (by decide +kernel) (by decide +kernel)
theorem wd_13 : Cond.selects RX6 yX6_chooseWhoIsAsked yX6_chooseWhoIsAsked ∈ gw := gw_in 13 (by decide +kernel) (by decide +kernel)
theorem wd_14 : Cond.selects RX6 yX6_howManyComeAheadOf yX6_howManyComeAheadOf ∈ gw := gw_in 14 (by decide +kernel) (by decide +kernel)
theorem wd_15 : Cond.selects RX6 yX6_orderComers yX6_orderComers ∈ gw := gw_in 15 (by decide +kernel) (by decide +kernel)
theorem wd_16 : Cond.selects RX6 yX6_insertComer yX6_insertComer ∈ gw := gw_in 16 (by decide +kernel) (by decide +kernel)
theorem wd_17 : Cond.selects RX6 yX6_comingOf yX6_comingOf ∈ gw := gw_in 17 (by decide +kernel) (by decide +kernel)
theorem wd_18 : Cond.selects RX6 yX6_tell yX6_tell ∈ gw := gw_in 18 (by decide +kernel) (by decide +kernel)
theorem wd_21 : Cond.selects RX1 yX1_keepIfSooner yX1_keepIfSooner ∈ gw := gw_in 21 (by decide +kernel) (by decide +kernel)
theorem wd_22 : Cond.selects RX7 yX7_foundOr yX7_foundOr ∈ gw := gw_in 22 (by decide +kernel) (by decide +kernel)
theorem wd_23 : Cond.selects RX1 yX1_fits yX1_fits ∈ gw := gw_in 23 (by decide +kernel) (by decide +kernel)
theorem wd_24 : Cond.selects RX3 yX3_lowestBits yX3_lowestBits ∈ gw := gw_in 24 (by decide +kernel) (by decide +kernel)
theorem wd_25 : Cond.selects RX8 yX8_isQuestion yX8_isQuestion ∈ gw := gw_in 25 (by decide +kernel) (by decide +kernel)
theorem wd_26 : Cond.selects RX8 yX8_isCrosser yX8_isCrosser ∈ gw := gw_in 26 (by decide +kernel) (by decide +kernel)
theorem wd_27 : Cond.selects RX8 yX8_aside yX8_aside ∈ gw := gw_in 27 (by decide +kernel) (by decide +kernel)
theorem wd_28 : Cond.selects RX8 yX8_hoursOf yX8_hoursOf ∈ gw := gw_in 28 (by decide +kernel) (by decide +kernel)
theorem wd_29 : Cond.selects RX8 yX8_othersIn yX8_othersIn ∈ gw := gw_in 29 (by decide +kernel) (by decide +kernel)
theorem wd_30 : Cond.selects RX8 yX8_isFord yX8_isFord ∈ gw := gw_in 30 (by decide +kernel) (by decide +kernel)
theorem wd_31 : Cond.selects RX8 yX8_questionsAll yX8_questionsAll ∈ gw := gw_in 31 (by decide +kernel) (by decide +kernel)
theorem wd_32 : Cond.selects RX8 yX8_next yX8_next ∈ gw := gw_in 32 (by decide +kernel) (by decide +kernel)
theorem wd_33 : Cond.selects RX8 yX8_crosserOne yX8_crosserOne ∈ gw := gw_in 33 (by decide +kernel) (by decide +kernel)
theorem wd_34 : Cond.selects RX8 yX8_knowsAll yX8_knowsAll ∈ gw := gw_in 34 (by decide +kernel) (by decide +kernel)
theorem wd_35 : Cond.selects RX8 yX8_comesAt yX8_comesAt ∈ gw := gw_in 35 (by decide +kernel) (by decide +kernel)
theorem wd_36 : Cond.selects RX8 yX8_placed yX8_placed ∈ gw := gw_in 36 (by decide +kernel) (by decide +kernel)
theorem wd_37 : Cond.selects RX8 yX8_note yX8_note ∈ gw := gw_in 37 (by decide +kernel) (by decide +kernel)
theorem wd_38 : Cond.selects RX8 yX8_goHour yX8_goHour ∈ gw := gw_in 38 (by decide +kernel) (by decide +kernel)
theorem wd_39 : Cond.selects RX8 yX8_goComes yX8_goComes ∈ gw := gw_in 39 (by decide +kernel) (by decide +kernel)
theorem wd_40 : Cond.selects RX8 yX8_lowestLeft yX8_lowestLeft ∈ gw := gw_in 40 (by decide +kernel) (by decide +kernel)
theorem wd_41 : Cond.selects RX8 yX8_take yX8_take ∈ gw := gw_in 41 (by decide +kernel) (by decide +kernel)
theorem wd_42 : Cond.selects RX8 yX8_goHours yX8_goHours ∈ gw := gw_in 42 (by decide +kernel) (by decide +kernel)
theorem wd_43 : Cond.selects RX8 yX8_overHour yX8_overHour ∈ gw := gw_in 43 (by decide +kernel) (by decide +kernel)
theorem wd_44 : Cond.selects RX8 yX8_lastHour yX8_lastHour ∈ gw := gw_in 44 (by decide +kernel) (by decide +kernel)
theorem wd_45 : Cond.selects RX8 yX8_inMany yX8_inMany ∈ gw := gw_in 45 (by decide +kernel) (by decide +kernel)
theorem wd_46 : Cond.selects RX8 yX8_layAsked yX8_layAsked ∈ gw := gw_in 46 (by decide +kernel) (by decide +kernel)
theorem wd_47 : Cond.selects RX8 yX8_leftMany yX8_leftMany ∈ gw := gw_in 47 (by decide +kernel) (by decide +kernel)
theorem wd_48 : Cond.selects RX8 yX8_isTelling yX8_isTelling ∈ gw := gw_in 48 (by decide +kernel) (by decide +kernel)
theorem wd_49 : Cond.selects RX8 yX8_lacks yX8_lacks ∈ gw := gw_in 49 (by decide +kernel) (by decide +kernel)
theorem wd_50 : Cond.selects RX8 yX8_isSpan yX8_isSpan ∈ gw := gw_in 50 (by decide +kernel) (by decide +kernel)
theorem wd_51 : Cond.selects RX8 yX8_seenKinds yX8_seenKinds ∈ gw := gw_in 51 (by decide +kernel) (by decide +kernel)
theorem wd_52 : Cond.selects RX8 yX8_isSeen yX8_isSeen ∈ gw := gw_in 52 (by decide +kernel) (by decide +kernel)
theorem wd_54 : Cond.initialized RX7 ∈ gw := gw_in 54 (by decide +kernel) (by decide +kernel)
theorem wd_55 : Cond.initialized RX4 ∈ gw := gw_in 55 (by decide +kernel) (by decide +kernel)
theorem wd_56 : Cond.initialized RX0 ∈ gw := gw_in 56 (by decide +kernel) (by decide +kernel)
theorem wd_57 : Cond.initialized RX5 ∈ gw := gw_in 57 (by decide +kernel) (by decide +kernel)
theorem wd_58 : Cond.initialized RX2 ∈ gw := gw_in 58 (by decide +kernel) (by decide +kernel)
theorem wd_59 : Cond.initialized RX1 ∈ gw := gw_in 59 (by decide +kernel) (by decide +kernel)
theorem wd_60 : Cond.initialized RX6 ∈ gw := gw_in 60 (by decide +kernel) (by decide +kernel)
theorem wd_61 : Cond.initialized RX3 ∈ gw := gw_in 61 (by decide +kernel) (by decide +kernel)
theorem wd_62 : Cond.initialized RX8 ∈ gw := gw_in 62 (by decide +kernel) (by decide +kernel)
theorem wd_63 : Cond.initialized RJ6 ∈ gw := gw_in 63 (by decide +kernel) (by decide +kernel)
theorem wd_64 : Cond.initialized RJ9 ∈ gw := gw_in 64 (by decide +kernel) (by decide +kernel)
theorem wd_70 : Cond.initialized RJ10 ∈ gw := gw_in 70 (by decide +kernel) (by decide +kernel)
theorem wd_71 : Cond.initialized RJ7 ∈ gw := gw_in 71 (by decide +kernel) (by decide +kernel)
theorem wd_92 : Cond.fieldLink RX0 37 "FordQuestions$Ford" "questions" "I" ∈ gw := gw_in 92 (by decide +kernel) (by decide +kernel)
theorem wd_93 : Cond.fieldLinkNest RX7 68 "FordQuestions$Ford" "questions" "I" "FordQuestions" ∈ nw := nw_in 93 (by decide +kernel) (by decide +kernel)
theorem wd_94 : Cond.fieldLinkNest RX6 75 "FordQuestions$Ford" "questions" "I" "FordQuestions" ∈ nw := nw_in 94 (by decide +kernel) (by decide +kernel)
theorem wd_95 : Cond.fieldLinkNest RX1 72 "FordQuestions$Ford" "questions" "I" "FordQuestions" ∈ nw := nw_in 95 (by decide +kernel) (by decide +kernel)
theorem wd_96 : Cond.fieldLink RX0 40 "FordQuestions$Ford" "crossers" "I" ∈ gw := gw_in 96 (by decide +kernel) (by decide +kernel)
theorem wd_97 : Cond.fieldLinkNest RX6 46 "FordQuestions$Ford" "crossers" "I" "FordQuestions" ∈ nw := nw_in 97 (by decide +kernel) (by decide +kernel)
theorem wd_98 : Cond.fieldLinkNest RX7 81 "FordQuestions$Ford" "crossers" "I" "FordQuestions" ∈ nw := nw_in 98 (by decide +kernel) (by decide +kernel)
theorem wd_99 : Cond.fieldLinkNest RX1 48 "FordQuestions$Ford" "crossers" "I" "FordQuestions" ∈ nw := nw_in 99 (by decide +kernel) (by decide +kernel)
theorem wd_100 : Cond.fieldLink RX0 43 "FordQuestions$Ford" "asked" "I" ∈ gw := gw_in 100 (by decide +kernel) (by decide +kernel)
theorem wd_101 : Cond.fieldLinkNest RX6 59 "FordQuestions$Ford" "asked" "I" "FordQuestions" ∈ nw := nw_in 101 (by decide +kernel) (by decide +kernel)
theorem wd_102 : Cond.fieldLinkNest RX2 55 "FordQuestions$Ford" "asked" "I" "FordQuestions" ∈ nw := nw_in 102 (by decide +kernel) (by decide +kernel)
theorem wd_103 : Cond.fieldLinkNest RX1 79 "FordQuestions$Ford" "asked" "I" "FordQuestions" ∈ nw := nw_in 103 (by decide +kernel) (by decide +kernel)
theorem wd_104 : Cond.fieldLinkNest RX7 147 "FordQuestions$Ford" "asked" "I" "FordQuestions" ∈ nw := nw_in 104 (by decide +kernel) (by decide +kernel)
theorem wd_105 : Cond.fieldLink RX0 46 "FordQuestions$Ford" "hour" "I" ∈ gw := gw_in 105 (by decide +kernel) (by decide +kernel)
theorem wd_106 : Cond.fieldLinkNest RX6 43 "FordQuestions$Ford" "hour" "I" "FordQuestions" ∈ nw := nw_in 106 (by decide +kernel) (by decide +kernel)
theorem wd_107 : Cond.fieldLinkNest RX7 144 "FordQuestions$Ford" "hour" "I" "FordQuestions" ∈ nw := nw_in 107 (by decide +kernel) (by decide +kernel)
theorem wd_108 : Cond.fieldLinkNest RX1 82 "FordQuestions$Ford" "hour" "I" "FordQuestions" ∈ nw := nw_in 108 (by decide +kernel) (by decide +kernel)
theorem wd_109 : Cond.fieldLink RX0 33 "FordQuestions$Ford" "draw" "I" ∈ gw := gw_in 109 (by decide +kernel) (by decide +kernel)
theorem wd_110 : Cond.fieldLinkNest RX7 174 "FordQuestions$Ford" "draw" "I" "FordQuestions" ∈ nw := nw_in 110 (by decide +kernel) (by decide +kernel)
theorem wd_111 : Cond.fieldLink RX0 9 "FordQuestions$Ford" "topic" "[I" ∈ gw := gw_in 111 (by decide +kernel) (by decide +kernel)
theorem wd_112 : Cond.fieldLinkNest RX7 92 "FordQuestions$Ford" "topic" "[I" "FordQuestions" ∈ nw := nw_in 112 (by decide +kernel) (by decide +kernel)
theorem wd_113 : Cond.fieldLink RX0 15 "FordQuestions$Ford" "hard" "[I" ∈ gw := gw_in 113 (by decide +kernel) (by decide +kernel)
theorem wd_114 : Cond.fieldLinkNest RX7 96 "FordQuestions$Ford" "hard" "[I" "FordQuestions" ∈ nw := nw_in 114 (by decide +kernel) (by decide +kernel)
theorem wd_115 : Cond.fieldLink RX0 18 "FordQuestions$Ford" "kind" "[I" ∈ gw := gw_in 115 (by decide +kernel) (by decide +kernel)
theorem wd_116 : Cond.fieldLinkNest RX7 105 "FordQuestions$Ford" "kind" "[I" "FordQuestions" ∈ nw := nw_in 116 (by decide +kernel) (by decide +kernel)
theorem wd_117 : Cond.fieldLinkNest RX1 88 "FordQuestions$Ford" "kind" "[I" "FordQuestions" ∈ nw := nw_in 117 (by decide +kernel) (by decide +kernel)
theorem wd_118 : Cond.fieldLink RX0 21 "FordQuestions$Ford" "knows" "[I" ∈ gw := gw_in 118 (by decide +kernel) (by decide +kernel)
theorem wd_119 : Cond.fieldLinkNest RX7 108 "FordQuestions$Ford" "knows" "[I" "FordQuestions" ∈ nw := nw_in 119 (by decide +kernel) (by decide +kernel)
theorem wd_120 : Cond.fieldLinkNest RX1 55 "FordQuestions$Ford" "knows" "[I" "FordQuestions" ∈ nw := nw_in 120 (by decide +kernel) (by decide +kernel)
theorem wd_121 : Cond.fieldLink RX0 24 "FordQuestions$Ford" "comes" "[I" ∈ gw := gw_in 121 (by decide +kernel) (by decide +kernel)
theorem wd_122 : Cond.fieldLinkNest RX7 111 "FordQuestions$Ford" "comes" "[I" "FordQuestions" ∈ nw := nw_in 122 (by decide +kernel) (by decide +kernel)
theorem wd_123 : Cond.fieldLinkNest RX6 86 "FordQuestions$Ford" "comes" "[I" "FordQuestions" ∈ nw := nw_in 123 (by decide +kernel) (by decide +kernel)
theorem wd_124 : Cond.fieldLinkNest RX1 85 "FordQuestions$Ford" "comes" "[I" "FordQuestions" ∈ nw := nw_in 124 (by decide +kernel) (by decide +kernel)
theorem wd_125 : Cond.fieldLink RX0 27 "FordQuestions$Ford" "where" "[I" ∈ gw := gw_in 125 (by decide +kernel) (by decide +kernel)
theorem wd_126 : Cond.fieldLinkNest RX6 49 "FordQuestions$Ford" "where" "[I" "FordQuestions" ∈ nw := nw_in 126 (by decide +kernel) (by decide +kernel)
theorem wd_127 : Cond.fieldLinkNest RX7 114 "FordQuestions$Ford" "where" "[I" "FordQuestions" ∈ nw := nw_in 127 (by decide +kernel) (by decide +kernel)
theorem wd_128 : Cond.fieldLinkNest RX1 51 "FordQuestions$Ford" "where" "[I" "FordQuestions" ∈ nw := nw_in 128 (by decide +kernel) (by decide +kernel)
theorem wd_129 : Cond.fieldLink RX0 30 "FordQuestions$Ford" "till" "[I" ∈ gw := gw_in 129 (by decide +kernel) (by decide +kernel)
theorem wd_130 : Cond.fieldLinkNest RX6 52 "FordQuestions$Ford" "till" "[I" "FordQuestions" ∈ nw := nw_in 130 (by decide +kernel) (by decide +kernel)
theorem wd_131 : Cond.fieldLinkNest RX7 117 "FordQuestions$Ford" "till" "[I" "FordQuestions" ∈ nw := nw_in 131 (by decide +kernel) (by decide +kernel)
theorem wd_159 : Cond.fieldLink RX4 12 "FordQuestions$Story" "now" "LFordQuestions$Ford;" ∈ gw := gw_in 159 (by decide +kernel) (by decide +kernel)
theorem wd_160 : Cond.fieldLinkNest RX7 64 "FordQuestions$Story" "now" "LFordQuestions$Ford;" "FordQuestions" ∈ nw := nw_in 160 (by decide +kernel) (by decide +kernel)
theorem wd_161 : Cond.fieldLink RX4 18 "FordQuestions$Story" "past" "[LFordQuestions$Ford;" ∈ gw := gw_in 161 (by decide +kernel) (by decide +kernel)
theorem wd_162 : Cond.fieldLink RX4 22 "FordQuestions$Story" "next" "I" ∈ gw := gw_in 162 (by decide +kernel) (by decide +kernel)
theorem wd_163 : Cond.fieldLink RX4 30 "FordQuestions$Story" "known" "I" ∈ gw := gw_in 163 (by decide +kernel) (by decide +kernel)
theorem wd_164 : Cond.fieldLinkNest RX7 153 "FordQuestions$Story" "known" "I" "FordQuestions" ∈ nw := nw_in 164 (by decide +kernel) (by decide +kernel)
theorem wd_180 : Cond.fieldLink RX5 9 "FordQuestions$Tape" "letters" "[C" ∈ gw := gw_in 180 (by decide +kernel) (by decide +kernel)
theorem wd_181 : Cond.fieldLinkNest RX2 86 "FordQuestions$Tape" "letters" "[C" "FordQuestions" ∈ nw := nw_in 181 (by decide +kernel) (by decide +kernel)
theorem wd_182 : Cond.fieldLink RX5 15 "FordQuestions$Tape" "length" "I" ∈ gw := gw_in 182 (by decide +kernel) (by decide +kernel)
theorem wd_183 : Cond.fieldLinkNest RX7 123 "FordQuestions$Tape" "length" "I" "FordQuestions" ∈ nw := nw_in 183 (by decide +kernel) (by decide +kernel)
theorem wd_184 : Cond.fieldLinkNest RX2 81 "FordQuestions$Tape" "length" "I" "FordQuestions" ∈ nw := nw_in 184 (by decide +kernel) (by decide +kernel)
theorem wd_199 : Cond.fieldLink RX2 9 "FordQuestions$Reader" "text" "LFordQuestions$Tape;" ∈ gw := gw_in 199 (by decide +kernel) (by decide +kernel)
theorem wd_200 : Cond.fieldLink RX2 18 "FordQuestions$Reader" "draft" "LFordQuestions$Ford;" ∈ gw := gw_in 200 (by decide +kernel) (by decide +kernel)
theorem wd_201 : Cond.fieldLinkNest RX7 137 "FordQuestions$Reader" "draft" "LFordQuestions$Ford;" "FordQuestions" ∈ nw := nw_in 201 (by decide +kernel) (by decide +kernel)
theorem wd_202 : Cond.fieldLink RX2 22 "FordQuestions$Reader" "place" "I" ∈ gw := gw_in 202 (by decide +kernel) (by decide +kernel)
theorem wd_203 : Cond.fieldLinkNest RX7 134 "FordQuestions$Reader" "place" "I" "FordQuestions" ∈ nw := nw_in 203 (by decide +kernel) (by decide +kernel)
theorem wd_219 : Cond.fieldLink RX1 12 "FordQuestions$Outlook" "ahead" "LFordQuestions$Ford;" ∈ gw := gw_in 219 (by decide +kernel) (by decide +kernel)
theorem wd_220 : Cond.fieldLink RX1 41 "FordQuestions$Outlook" "found" "I" ∈ gw := gw_in 220 (by decide +kernel) (by decide +kernel)
theorem wd_221 : Cond.fieldLinkNest RX7 197 "FordQuestions$Outlook" "found" "I" "FordQuestions" ∈ nw := nw_in 221 (by decide +kernel) (by decide +kernel)
theorem wd_222 : Cond.fieldLink RX1 45 "FordQuestions$Outlook" "foundHours" "I" ∈ gw := gw_in 222 (by decide +kernel) (by decide +kernel)
theorem wd_223 : Cond.fieldLinkNest RX7 200 "FordQuestions$Outlook" "foundHours" "I" "FordQuestions" ∈ nw := nw_in 223 (by decide +kernel) (by decide +kernel)
theorem wd_224 : Cond.fieldLink RX1 95 "FordQuestions$Outlook" "foundSets" "I" ∈ gw := gw_in 224 (by decide +kernel) (by decide +kernel)
theorem wd_225 : Cond.fieldLinkNest RX7 263 "FordQuestions$Outlook" "foundSets" "I" "FordQuestions" ∈ nw := nw_in 225 (by decide +kernel) (by decide +kernel)
theorem wd_243 : Cond.fieldLink RX6 14 "FordQuestions$Tellings" "ford" "LFordQuestions$Ford;" ∈ gw := gw_in 243 (by decide +kernel) (by decide +kernel)
theorem wd_244 : Cond.fieldLink RX6 18 "FordQuestions$Tellings" "order" "[I" ∈ gw := gw_in 244 (by decide +kernel) (by decide +kernel)
theorem wd_245 : Cond.fieldLink RX6 89 "FordQuestions$Tellings" "comers" "I" ∈ gw := gw_in 245 (by decide +kernel) (by decide +kernel)
theorem wd_246 : Cond.fieldLink RX6 66 "FordQuestions$Tellings" "asked" "I" ∈ gw := gw_in 246 (by decide +kernel) (by decide +kernel)
theorem wd_247 : Cond.fieldLink RX6 22 "FordQuestions$Tellings" "till" "[I" ∈ gw := gw_in 247 (by decide +kernel) (by decide +kernel)
theorem wd_248 : Cond.fieldLink RX6 35 "FordQuestions$Tellings" "bestLast" "I" ∈ gw := gw_in 248 (by decide +kernel) (by decide +kernel)
theorem wd_249 : Cond.fieldLinkNest RX7 206 "FordQuestions$Tellings" "bestLast" "I" "FordQuestions" ∈ nw := nw_in 249 (by decide +kernel) (by decide +kernel)
theorem wd_250 : Cond.fieldLink RX6 40 "FordQuestions$Tellings" "bestTelling" "I" ∈ gw := gw_in 250 (by decide +kernel) (by decide +kernel)
theorem wd_273 : Cond.fieldLink RX3 19 "FordQuestions$Sheet" "lane" "I" ∈ gw := gw_in 273 (by decide +kernel) (by decide +kernel)
theorem wd_274 : Cond.fieldLinkNest RX7 284 "FordQuestions$Sheet" "lane" "I" "FordQuestions" ∈ nw := nw_in 274 (by decide +kernel) (by decide +kernel)
theorem wd_275 : Cond.fieldLink RX3 11 "FordQuestions$Sheet" "size" "I" ∈ gw := gw_in 275 (by decide +kernel) (by decide +kernel)
theorem wd_276 : Cond.fieldLink RX3 15 "FordQuestions$Sheet" "items" "[J" ∈ gw := gw_in 276 (by decide +kernel) (by decide +kernel)
theorem wd_277 : Cond.fieldLinkNest RX1 98 "FordQuestions$Sheet" "items" "[J" "FordQuestions" ∈ nw := nw_in 277 (by decide +kernel) (by decide +kernel)
theorem wd_278 : Cond.fieldLinkNest RX7 290 "FordQuestions$Sheet" "items" "[J" "FordQuestions" ∈ nw := nw_in 278 (by decide +kernel) (by decide +kernel)
theorem wd_287 : Cond.fieldLink RX7 12 "FordQuestions" "story" "LFordQuestions$Story;" ∈ gw := gw_in 287 (by decide +kernel) (by decide +kernel)
theorem wd_288 : Cond.fieldLink RX7 16 "FordQuestions" "kept" "LFordQuestions$Story;" ∈ gw := gw_in 288 (by decide +kernel) (by decide +kernel)
theorem wd_289 : Cond.fieldLink RX7 19 "FordQuestions" "hasImage" "Z" ∈ gw := gw_in 289 (by decide +kernel) (by decide +kernel)
theorem wd_290 : Cond.fieldLink RX7 26 "FordQuestions" "tape" "LFordQuestions$Tape;" ∈ gw := gw_in 290 (by decide +kernel) (by decide +kernel)
theorem wd_291 : Cond.fieldLink RX7 35 "FordQuestions" "reader" "LFordQuestions$Reader;" ∈ gw := gw_in 291 (by decide +kernel) (by decide +kernel)
theorem wd_292 : Cond.fieldLink RX7 42 "FordQuestions" "outlook" "LFordQuestions$Outlook;" ∈ gw := gw_in 292 (by decide +kernel) (by decide +kernel)
theorem wd_293 : Cond.fieldLink RX7 49 "FordQuestions" "tellings" "LFordQuestions$Tellings;" ∈ gw := gw_in 293 (by decide +kernel) (by decide +kernel)
theorem wd_294 : Cond.fieldLink RX7 55 "FordQuestions" "sheets" "[LFordQuestions$Sheet;" ∈ gw := gw_in 294 (by decide +kernel) (by decide +kernel)
theorem wd_316 : Cond.methodLink RX7 60 yX7_isOutside ∈ gw := gw_in 316 (by decide +kernel) (by decide +kernel)
theorem wd_317 : Cond.static yX7_isOutside ∈ gw := gw_in 317 (by decide +kernel) (by decide +kernel)
theorem wd_318 : Cond.code yX7_isOutside cX7_isOutside 3 (some .boolean) ∈ gw := gw_in 318 (by decide +kernel) (by decide +kernel)
theorem wd_319 : Cond.methodLink RX7 74 yX4_forgetPast ∈ gw := gw_in 319 (by decide +kernel) (by decide +kernel)
theorem wd_320 : Cond.instanceMethod yX4_forgetPast ∈ gw := gw_in 320 (by decide +kernel) (by decide +kernel)
theorem wd_321 : Cond.selects RX4 yX4_forgetPast yX4_forgetPast ∈ gw := gw_in 321 (by decide +kernel) (by decide +kernel)
theorem wd_322 : Cond.code yX4_forgetPast cX4_forgetPast 1 none ∈ gw := gw_in 322 (by decide +kernel) (by decide +kernel)
theorem wd_323 : Cond.methodLink RX7 77 yX0_addQuestion ∈ gw := gw_in 323 (by decide +kernel) (by decide +kernel)
theorem wd_324 : Cond.instanceMethod yX0_addQuestion ∈ gw := gw_in 324 (by decide +kernel) (by decide +kernel)
theorem wd_325 : Cond.selects RX0 yX0_addQuestion yX0_addQuestion ∈ gw := gw_in 325 (by decide +kernel) (by decide +kernel)
theorem wd_326 : Cond.code yX0_addQuestion cX0_addQuestion 4 (some .int) ∈ gw := gw_in 326 (by decide +kernel) (by decide +kernel)
theorem wd_331 : Cond.methodLink RX7 84 yX0_addCrosser ∈ gw := gw_in 331 (by decide +kernel) (by decide +kernel)
theorem wd_332 : Cond.instanceMethod yX0_addCrosser ∈ gw := gw_in 332 (by decide +kernel) (by decide +kernel)
theorem wd_333 : Cond.selects RX0 yX0_addCrosser yX0_addCrosser ∈ gw := gw_in 333 (by decide +kernel) (by decide +kernel)
theorem wd_334 : Cond.code yX0_addCrosser cX0_addCrosser 5 (some .int) ∈ gw := gw_in 334 (by decide +kernel) (by decide +kernel)
theorem wd_339 : Cond.methodLink RX7 88 yX0_hasQuestion ∈ gw := gw_in 339 (by decide +kernel) (by decide +kernel)
theorem wd_340 : Cond.instanceMethod yX0_hasQuestion ∈ gw := gw_in 340 (by decide +kernel) (by decide +kernel)
theorem wd_341 : Cond.selects RX0 yX0_hasQuestion yX0_hasQuestion ∈ gw := gw_in 341 (by decide +kernel) (by decide +kernel)
theorem wd_342 : Cond.code yX0_hasQuestion cX0_hasQuestion 2 (some .boolean) ∈ gw := gw_in 342 (by decide +kernel) (by decide +kernel)
theorem wd_343 : Cond.methodLink RX7 99 yX0_isAsked ∈ gw := gw_in 343 (by decide +kernel) (by decide +kernel)
theorem wd_344 : Cond.instanceMethod yX0_isAsked ∈ gw := gw_in 344 (by decide +kernel) (by decide +kernel)
theorem wd_345 : Cond.selects RX0 yX0_isAsked yX0_isAsked ∈ gw := gw_in 345 (by decide +kernel) (by decide +kernel)
theorem wd_346 : Cond.code yX0_isAsked cX0_isAsked 2 (some .boolean) ∈ gw := gw_in 346 (by decide +kernel) (by decide +kernel)
theorem wd_347 : Cond.methodLinkNest RX0 59 yX7_isIn "FordQuestions" ∈ nw := nw_in 347 (by decide +kernel) (by decide +kernel)
theorem wd_348 : Cond.static yX7_isIn ∈ gw := gw_in 348 (by decide +kernel) (by decide +kernel)
theorem wd_349 : Cond.code yX7_isIn cX7_isIn 2 (some .boolean) ∈ gw := gw_in 349 (by decide +kernel) (by decide +kernel)
theorem wd_354 : Cond.methodLink RX7 102 yX0_hasCrosser ∈ gw := gw_in 354 (by decide +kernel) (by decide +kernel)
theorem wd_355 : Cond.instanceMethod yX0_hasCrosser ∈ gw := gw_in 355 (by decide +kernel) (by decide +kernel)
theorem wd_356 : Cond.selects RX0 yX0_hasCrosser yX0_hasCrosser ∈ gw := gw_in 356 (by decide +kernel) (by decide +kernel)
theorem wd_357 : Cond.code yX0_hasCrosser cX0_hasCrosser 2 (some .boolean) ∈ gw := gw_in 357 (by decide +kernel) (by decide +kernel)
theorem wd_362 : Cond.methodLink RX7 120 yX0_hoursFor ∈ gw := gw_in 362 (by decide +kernel) (by decide +kernel)
theorem wd_363 : Cond.instanceMethod yX0_hoursFor ∈ gw := gw_in 363 (by decide +kernel) (by decide +kernel)
theorem wd_364 : Cond.selects RX0 yX0_hoursFor yX0_hoursFor ∈ gw := gw_in 364 (by decide +kernel) (by decide +kernel)
theorem wd_365 : Cond.code yX0_hoursFor cX0_hoursFor 4 (some .int) ∈ gw := gw_in 365 (by decide +kernel) (by decide +kernel)
theorem wd_366 : Cond.methodLink RX0 63 yX0_thoseWho ∈ gw := gw_in 366 (by decide +kernel) (by decide +kernel)
theorem wd_367 : Cond.instanceMethod yX0_thoseWho ∈ gw := gw_in 367 (by decide +kernel) (by decide +kernel)
theorem wd_368 : Cond.selects RX0 yX0_thoseWho yX0_thoseWho ∈ gw := gw_in 368 (by decide +kernel) (by decide +kernel)
theorem wd_369 : Cond.code yX0_thoseWho cX0_thoseWho 4 (some .int) ∈ gw := gw_in 369 (by decide +kernel) (by decide +kernel)
theorem wd_370 : Cond.methodLink RX0 67 yJ6_bitCount_0f7a4 ∈ gw := gw_in 370 (by decide +kernel) (by decide +kernel)
theorem wd_371 : Cond.static yJ6_bitCount_0f7a4 ∈ gw := gw_in 371 (by decide +kernel) (by decide +kernel)
theorem wd_372 : Cond.code yJ6_bitCount_0f7a4 cJ6_bitCount_0f7a4 1 (some .int) ∈ gw := gw_in 372 (by decide +kernel) (by decide +kernel)
theorem wd_373 : Cond.constant RJ6 265 (1431655765) ∈ gw := gw_in 373 (by decide +kernel) (by decide +kernel)
theorem wd_374 : Cond.constant RJ6 266 (858993459) ∈ gw := gw_in 374 (by decide +kernel) (by decide +kernel)
theorem wd_375 : Cond.constant RJ6 267 (252645135) ∈ gw := gw_in 375 (by decide +kernel) (by decide +kernel)
theorem wd_376 : Cond.methodLink RX0 72 yX0_hoursAmong ∈ gw := gw_in 376 (by decide +kernel) (by decide +kernel)
theorem wd_377 : Cond.instanceMethod yX0_hoursAmong ∈ gw := gw_in 377 (by decide +kernel) (by decide +kernel)
theorem wd_378 : Cond.selects RX0 yX0_hoursAmong yX0_hoursAmong ∈ gw := gw_in 378 (by decide +kernel) (by decide +kernel)
theorem wd_379 : Cond.code yX0_hoursAmong cX0_hoursAmong 9 (some .int) ∈ gw := gw_in 379 (by decide +kernel) (by decide +kernel)
theorem wd_380 : Cond.methodLink RX0 76 Lib.Math.min.name ∈ gw := gw_in 380 (by decide +kernel) (by decide +kernel)
theorem wd_381 : Cond.static Lib.Math.min.name ∈ gw := gw_in 381 (by decide +kernel) (by decide +kernel)
theorem wd_382 : Cond.code Lib.Math.min.name Lib.Math.min.code 2 (some .int) ∈ gw := gw_in 382 (by decide +kernel) (by decide +kernel)
theorem wd_383 : Cond.methodLink RX0 82 Lib.Math.max.name ∈ gw := gw_in 383 (by decide +kernel) (by decide +kernel)
theorem wd_384 : Cond.static Lib.Math.max.name ∈ gw := gw_in 384 (by decide +kernel) (by decide +kernel)
theorem wd_385 : Cond.code Lib.Math.max.name Lib.Math.max.code 2 (some .int) ∈ gw := gw_in 385 (by decide +kernel) (by decide +kernel)
theorem wd_390 : Cond.methodLink RX7 126 yX5_append ∈ gw := gw_in 390 (by decide +kernel) (by decide +kernel)
theorem wd_391 : Cond.instanceMethod yX5_append ∈ gw := gw_in 391 (by decide +kernel) (by decide +kernel)
theorem wd_392 : Cond.selects RX5 yX5_append yX5_append ∈ gw := gw_in 392 (by decide +kernel) (by decide +kernel)
theorem wd_393 : Cond.code yX5_append cX5_append 2 (some .int) ∈ gw := gw_in 393 (by decide +kernel) (by decide +kernel)
theorem wd_398 : Cond.methodLink RX7 130 yX2_readFord ∈ gw := gw_in 398 (by decide +kernel) (by decide +kernel)
theorem wd_399 : Cond.instanceMethod yX2_readFord ∈ gw := gw_in 399 (by decide +kernel) (by decide +kernel)
theorem wd_400 : Cond.selects RX2 yX2_readFord yX2_readFord ∈ gw := gw_in 400 (by decide +kernel) (by decide +kernel)
theorem wd_401 : Cond.code yX2_readFord cX2_readFord 1 (some .boolean) ∈ gw := gw_in 401 (by decide +kernel) (by decide +kernel)
theorem wd_402 : Cond.methodLink RX2 26 yX0_makeEmpty ∈ gw := gw_in 402 (by decide +kernel) (by decide +kernel)
theorem wd_403 : Cond.instanceMethod yX0_makeEmpty ∈ gw := gw_in 403 (by decide +kernel) (by decide +kernel)
theorem wd_404 : Cond.selects RX0 yX0_makeEmpty yX0_makeEmpty ∈ gw := gw_in 404 (by decide +kernel) (by decide +kernel)
theorem wd_405 : Cond.code yX0_makeEmpty cX0_makeEmpty 1 none ∈ gw := gw_in 405 (by decide +kernel) (by decide +kernel)
theorem wd_406 : Cond.methodLink RX2 29 yX2_readQuestions ∈ gw := gw_in 406 (by decide +kernel) (by decide +kernel)
theorem wd_408 : Cond.instanceMethod yX2_readQuestions ∈ gw := gw_in 408 (by decide +kernel) (by decide +kernel)
theorem wd_409 : Cond.code yX2_readQuestions cX2_readQuestions 2 (some .boolean) ∈ gw := gw_in 409 (by decide +kernel) (by decide +kernel)
theorem wd_410 : Cond.methodLink RX2 40 yX2_nextLetter ∈ gw := gw_in 410 (by decide +kernel) (by decide +kernel)
theorem wd_412 : Cond.instanceMethod yX2_nextLetter ∈ gw := gw_in 412 (by decide +kernel) (by decide +kernel)
theorem wd_413 : Cond.code yX2_nextLetter cX2_nextLetter 2 (some .char) ∈ gw := gw_in 413 (by decide +kernel) (by decide +kernel)
theorem wd_414 : Cond.methodLink RX2 78 yX2_letterHere ∈ gw := gw_in 414 (by decide +kernel) (by decide +kernel)
theorem wd_416 : Cond.instanceMethod yX2_letterHere ∈ gw := gw_in 416 (by decide +kernel) (by decide +kernel)
theorem wd_417 : Cond.code yX2_letterHere cX2_letterHere 1 (some .char) ∈ gw := gw_in 417 (by decide +kernel) (by decide +kernel)
theorem wd_418 : Cond.methodLink RX2 44 yX2_topicOf ∈ gw := gw_in 418 (by decide +kernel) (by decide +kernel)
theorem wd_419 : Cond.static yX2_topicOf ∈ gw := gw_in 419 (by decide +kernel) (by decide +kernel)
theorem wd_420 : Cond.code yX2_topicOf cX2_topicOf 1 (some .int) ∈ gw := gw_in 420 (by decide +kernel) (by decide +kernel)
theorem wd_421 : Cond.methodLink RX2 48 yX2_readQuestion ∈ gw := gw_in 421 (by decide +kernel) (by decide +kernel)
theorem wd_423 : Cond.instanceMethod yX2_readQuestion ∈ gw := gw_in 423 (by decide +kernel) (by decide +kernel)
theorem wd_424 : Cond.code yX2_readQuestion cX2_readQuestion 4 (some .boolean) ∈ gw := gw_in 424 (by decide +kernel) (by decide +kernel)
theorem wd_425 : Cond.methodLink RX2 51 yX0_addQuestion ∈ gw := gw_in 425 (by decide +kernel) (by decide +kernel)
theorem wd_426 : Cond.methodLink RX2 33 yX2_accepts ∈ gw := gw_in 426 (by decide +kernel) (by decide +kernel)
theorem wd_428 : Cond.instanceMethod yX2_accepts ∈ gw := gw_in 428 (by decide +kernel) (by decide +kernel)
theorem wd_429 : Cond.code yX2_accepts cX2_accepts 2 (some .boolean) ∈ gw := gw_in 429 (by decide +kernel) (by decide +kernel)
theorem wd_430 : Cond.methodLink RX2 37 yX2_readCrossers ∈ gw := gw_in 430 (by decide +kernel) (by decide +kernel)
theorem wd_432 : Cond.instanceMethod yX2_readCrossers ∈ gw := gw_in 432 (by decide +kernel) (by decide +kernel)
theorem wd_433 : Cond.code yX2_readCrossers cX2_readCrossers 2 (some .boolean) ∈ gw := gw_in 433 (by decide +kernel) (by decide +kernel)
theorem wd_434 : Cond.methodLink RX2 58 yX2_readCrosser ∈ gw := gw_in 434 (by decide +kernel) (by decide +kernel)
theorem wd_436 : Cond.instanceMethod yX2_readCrosser ∈ gw := gw_in 436 (by decide +kernel) (by decide +kernel)
theorem wd_437 : Cond.code yX2_readCrosser cX2_readCrosser 4 (some .boolean) ∈ gw := gw_in 437 (by decide +kernel) (by decide +kernel)
theorem wd_438 : Cond.methodLink RX2 61 yX2_kindOf ∈ gw := gw_in 438 (by decide +kernel) (by decide +kernel)
theorem wd_439 : Cond.static yX2_kindOf ∈ gw := gw_in 439 (by decide +kernel) (by decide +kernel)
theorem wd_440 : Cond.code yX2_kindOf cX2_kindOf 2 (some .int) ∈ gw := gw_in 440 (by decide +kernel) (by decide +kernel)
theorem wd_524 : Cond.methodLink RX2 64 yX2_readTopics ∈ gw := gw_in 524 (by decide +kernel) (by decide +kernel)
theorem wd_526 : Cond.instanceMethod yX2_readTopics ∈ gw := gw_in 526 (by decide +kernel) (by decide +kernel)
theorem wd_527 : Cond.code yX2_readTopics cX2_readTopics 3 (some .int) ∈ gw := gw_in 527 (by decide +kernel) (by decide +kernel)
theorem wd_528 : Cond.methodLink RX2 68 yX2_readComing ∈ gw := gw_in 528 (by decide +kernel) (by decide +kernel)
theorem wd_530 : Cond.instanceMethod yX2_readComing ∈ gw := gw_in 530 (by decide +kernel) (by decide +kernel)
theorem wd_531 : Cond.code yX2_readComing cX2_readComing 4 (some .int) ∈ gw := gw_in 531 (by decide +kernel) (by decide +kernel)
theorem wd_532 : Cond.methodLink RX2 75 yX2_digitOf ∈ gw := gw_in 532 (by decide +kernel) (by decide +kernel)
theorem wd_533 : Cond.static yX2_digitOf ∈ gw := gw_in 533 (by decide +kernel) (by decide +kernel)
theorem wd_534 : Cond.code yX2_digitOf cX2_digitOf 1 (some .int) ∈ gw := gw_in 534 (by decide +kernel) (by decide +kernel)
theorem wd_535 : Cond.methodLink RX2 71 yX0_addCrosser ∈ gw := gw_in 535 (by decide +kernel) (by decide +kernel)
theorem wd_536 : Cond.methodLink RX7 140 yX0_becomeNew ∈ gw := gw_in 536 (by decide +kernel) (by decide +kernel)
theorem wd_537 : Cond.instanceMethod yX0_becomeNew ∈ gw := gw_in 537 (by decide +kernel) (by decide +kernel)
theorem wd_538 : Cond.selects RX0 yX0_becomeNew yX0_becomeNew ∈ gw := gw_in 538 (by decide +kernel) (by decide +kernel)
theorem wd_539 : Cond.code yX0_becomeNew cX0_becomeNew 3 none ∈ gw := gw_in 539 (by decide +kernel) (by decide +kernel)
theorem wd_540 : Cond.methodLink RX0 55 yX0_takeFrom ∈ gw := gw_in 540 (by decide +kernel) (by decide +kernel)
theorem wd_541 : Cond.instanceMethod yX0_takeFrom ∈ gw := gw_in 541 (by decide +kernel) (by decide +kernel)
theorem wd_542 : Cond.selects RX0 yX0_takeFrom yX0_takeFrom ∈ gw := gw_in 542 (by decide +kernel) (by decide +kernel)
theorem wd_543 : Cond.code yX0_takeFrom cX0_takeFrom 2 none ∈ gw := gw_in 543 (by decide +kernel) (by decide +kernel)
theorem wd_544 : Cond.methodLink RX0 49 arraycopyName ∈ gw := gw_in 544 (by decide +kernel) (by decide +kernel)
theorem wd_545 : Cond.static arraycopyName ∈ gw := gw_in 545 (by decide +kernel) (by decide +kernel)
theorem wd_546 : Cond.native arraycopyName ∈ gw := gw_in 546 (by decide +kernel) (by decide +kernel)
theorem wd_552 : Cond.methodLink RX7 150 yX0_thoseWho ∈ gw := gw_in 552 (by decide +kernel) (by decide +kernel)
theorem wd_557 : Cond.methodLink RX7 156 yX7_pass ∈ gw := gw_in 557 (by decide +kernel) (by decide +kernel)
theorem wd_559 : Cond.instanceMethod yX7_pass ∈ gw := gw_in 559 (by decide +kernel) (by decide +kernel)
theorem wd_560 : Cond.code yX7_pass cX7_pass 4 (some .int) ∈ gw := gw_in 560 (by decide +kernel) (by decide +kernel)
theorem wd_561 : Cond.methodLink RX7 164 yX4_remember ∈ gw := gw_in 561 (by decide +kernel) (by decide +kernel)
theorem wd_562 : Cond.instanceMethod yX4_remember ∈ gw := gw_in 562 (by decide +kernel) (by decide +kernel)
theorem wd_563 : Cond.selects RX4 yX4_remember yX4_remember ∈ gw := gw_in 563 (by decide +kernel) (by decide +kernel)
theorem wd_564 : Cond.code yX4_remember cX4_remember 1 none ∈ gw := gw_in 564 (by decide +kernel) (by decide +kernel)
theorem wd_565 : Cond.methodLink RX4 26 yX0_takeFrom ∈ gw := gw_in 565 (by decide +kernel) (by decide +kernel)
theorem wd_566 : Cond.methodLink RX4 33 Lib.Math.min.name ∈ gw := gw_in 566 (by decide +kernel) (by decide +kernel)
theorem wd_567 : Cond.methodLink RX7 300 yX0_drawQuestion ∈ gw := gw_in 567 (by decide +kernel) (by decide +kernel)
theorem wd_568 : Cond.instanceMethod yX0_drawQuestion ∈ gw := gw_in 568 (by decide +kernel) (by decide +kernel)
theorem wd_569 : Cond.selects RX0 yX0_drawQuestion yX0_drawQuestion ∈ gw := gw_in 569 (by decide +kernel) (by decide +kernel)
theorem wd_570 : Cond.code yX0_drawQuestion cX0_drawQuestion 1 none ∈ gw := gw_in 570 (by decide +kernel) (by decide +kernel)
theorem wd_571 : Cond.constant RX0 97 (1103515245) ∈ gw := gw_in 571 (by decide +kernel) (by decide +kernel)
theorem wd_572 : Cond.constant RX0 98 (2147483647) ∈ gw := gw_in 572 (by decide +kernel) (by decide +kernel)
theorem wd_573 : Cond.constant RX0 99 (65536) ∈ gw := gw_in 573 (by decide +kernel) (by decide +kernel)
theorem wd_574 : Cond.methodLink RX0 100 yX0_letAskAgain ∈ gw := gw_in 574 (by decide +kernel) (by decide +kernel)
theorem wd_575 : Cond.instanceMethod yX0_letAskAgain ∈ gw := gw_in 575 (by decide +kernel) (by decide +kernel)
theorem wd_576 : Cond.selects RX0 yX0_letAskAgain yX0_letAskAgain ∈ gw := gw_in 576 (by decide +kernel) (by decide +kernel)
theorem wd_577 : Cond.code yX0_letAskAgain cX0_letAskAgain 2 none ∈ gw := gw_in 577 (by decide +kernel) (by decide +kernel)
theorem wd_578 : Cond.methodLink RX7 303 yX0_passHour ∈ gw := gw_in 578 (by decide +kernel) (by decide +kernel)
theorem wd_579 : Cond.instanceMethod yX0_passHour ∈ gw := gw_in 579 (by decide +kernel) (by decide +kernel)
theorem wd_580 : Cond.selects RX0 yX0_passHour yX0_passHour ∈ gw := gw_in 580 (by decide +kernel) (by decide +kernel)
theorem wd_581 : Cond.code yX0_passHour cX0_passHour 2 none ∈ gw := gw_in 581 (by decide +kernel) (by decide +kernel)
theorem wd_582 : Cond.methodLink RX0 85 yX0_letIn ∈ gw := gw_in 582 (by decide +kernel) (by decide +kernel)
theorem wd_584 : Cond.instanceMethod yX0_letIn ∈ gw := gw_in 584 (by decide +kernel) (by decide +kernel)
theorem wd_585 : Cond.code yX0_letIn cX0_letIn 4 none ∈ gw := gw_in 585 (by decide +kernel) (by decide +kernel)
theorem wd_586 : Cond.methodLink RX0 89 yX0_firstNotAsked ∈ gw := gw_in 586 (by decide +kernel) (by decide +kernel)
theorem wd_588 : Cond.instanceMethod yX0_firstNotAsked ∈ gw := gw_in 588 (by decide +kernel) (by decide +kernel)
theorem wd_589 : Cond.code yX0_firstNotAsked cX0_firstNotAsked 2 (some .int) ∈ gw := gw_in 589 (by decide +kernel) (by decide +kernel)
theorem wd_590 : Cond.methodLink RX0 93 yX0_isAsked ∈ gw := gw_in 590 (by decide +kernel) (by decide +kernel)
theorem wd_595 : Cond.methodLink RX7 160 yX7_isIn ∈ gw := gw_in 595 (by decide +kernel) (by decide +kernel)
theorem wd_604 : Cond.methodLink RX7 167 yX0_letAskAgain ∈ gw := gw_in 604 (by decide +kernel) (by decide +kernel)
theorem wd_617 : Cond.methodLink RX7 171 yX4_goBack ∈ gw := gw_in 617 (by decide +kernel) (by decide +kernel)
theorem wd_618 : Cond.instanceMethod yX4_goBack ∈ gw := gw_in 618 (by decide +kernel) (by decide +kernel)
theorem wd_619 : Cond.selects RX4 yX4_goBack yX4_goBack ∈ gw := gw_in 619 (by decide +kernel) (by decide +kernel)
theorem wd_620 : Cond.code yX4_goBack cX4_goBack 1 (some .boolean) ∈ gw := gw_in 620 (by decide +kernel) (by decide +kernel)
theorem wd_629 : Cond.methodLink RX7 177 yX1_behind ∈ gw := gw_in 629 (by decide +kernel) (by decide +kernel)
theorem wd_630 : Cond.instanceMethod yX1_behind ∈ gw := gw_in 630 (by decide +kernel) (by decide +kernel)
theorem wd_631 : Cond.selects RX1 yX1_behind yX1_behind ∈ gw := gw_in 631 (by decide +kernel) (by decide +kernel)
theorem wd_632 : Cond.code yX1_behind cX1_behind 4 (some (.object "FordQuestions$Ford")) ∈ gw := gw_in 632 (by decide +kernel) (by decide +kernel)
theorem wd_633 : Cond.methodLink RX1 22 yX1_startFrom ∈ gw := gw_in 633 (by decide +kernel) (by decide +kernel)
theorem wd_634 : Cond.instanceMethod yX1_startFrom ∈ gw := gw_in 634 (by decide +kernel) (by decide +kernel)
theorem wd_635 : Cond.selects RX1 yX1_startFrom yX1_startFrom ∈ gw := gw_in 635 (by decide +kernel) (by decide +kernel)
theorem wd_636 : Cond.code yX1_startFrom cX1_startFrom 2 none ∈ gw := gw_in 636 (by decide +kernel) (by decide +kernel)
theorem wd_637 : Cond.methodLink RX1 18 yX0_takeFrom ∈ gw := gw_in 637 (by decide +kernel) (by decide +kernel)
theorem wd_638 : Cond.methodLink RX1 25 yX0_passHour ∈ gw := gw_in 638 (by decide +kernel) (by decide +kernel)
theorem wd_643 : Cond.methodLink RX7 181 yX1_startFrom ∈ gw := gw_in 643 (by decide +kernel) (by decide +kernel)
theorem wd_644 : Cond.methodLink RX7 184 yX1_hoursTillOver ∈ gw := gw_in 644 (by decide +kernel) (by decide +kernel)
theorem wd_645 : Cond.instanceMethod yX1_hoursTillOver ∈ gw := gw_in 645 (by decide +kernel) (by decide +kernel)
theorem wd_646 : Cond.selects RX1 yX1_hoursTillOver yX1_hoursTillOver ∈ gw := gw_in 646 (by decide +kernel) (by decide +kernel)
theorem wd_647 : Cond.code yX1_hoursTillOver cX1_hoursTillOver 3 (some .int) ∈ gw := gw_in 647 (by decide +kernel) (by decide +kernel)
theorem wd_648 : Cond.methodLink RX1 28 yX0_thoseWho ∈ gw := gw_in 648 (by decide +kernel) (by decide +kernel)
theorem wd_649 : Cond.methodLink RX7 187 yX7_orNone ∈ gw := gw_in 649 (by decide +kernel) (by decide +kernel)
theorem wd_650 : Cond.static yX7_orNone ∈ gw := gw_in 650 (by decide +kernel) (by decide +kernel)
theorem wd_651 : Cond.code yX7_orNone cX7_orNone 1 (some .int) ∈ gw := gw_in 651 (by decide +kernel) (by decide +kernel)
theorem wd_656 : Cond.methodLink RX7 190 yX0_everyone ∈ gw := gw_in 656 (by decide +kernel) (by decide +kernel)
theorem wd_657 : Cond.instanceMethod yX0_everyone ∈ gw := gw_in 657 (by decide +kernel) (by decide +kernel)
theorem wd_658 : Cond.selects RX0 yX0_everyone yX0_everyone ∈ gw := gw_in 658 (by decide +kernel) (by decide +kernel)
theorem wd_659 : Cond.code yX0_everyone cX0_everyone 1 (some .int) ∈ gw := gw_in 659 (by decide +kernel) (by decide +kernel)
theorem wd_664 : Cond.methodLink RX7 194 yX1_seekMost ∈ gw := gw_in 664 (by decide +kernel) (by decide +kernel)
theorem wd_665 : Cond.instanceMethod yX1_seekMost ∈ gw := gw_in 665 (by decide +kernel) (by decide +kernel)
theorem wd_666 : Cond.selects RX1 yX1_seekMost yX1_seekMost ∈ gw := gw_in 666 (by decide +kernel) (by decide +kernel)
theorem wd_667 : Cond.code yX1_seekMost cX1_seekMost 3 none ∈ gw := gw_in 667 (by decide +kernel) (by decide +kernel)
theorem wd_668 : Cond.methodLink RX1 37 yX1_howManyIn ∈ gw := gw_in 668 (by decide +kernel) (by decide +kernel)
theorem wd_670 : Cond.instanceMethod yX1_howManyIn ∈ gw := gw_in 670 (by decide +kernel) (by decide +kernel)
theorem wd_671 : Cond.code yX1_howManyIn cX1_howManyIn 1 (some .int) ∈ gw := gw_in 671 (by decide +kernel) (by decide +kernel)
theorem wd_672 : Cond.methodLink RX1 32 yJ6_bitCount_0f7a4 ∈ gw := gw_in 672 (by decide +kernel) (by decide +kernel)
theorem wd_677 : Cond.methodLink RX7 203 yX6_seekBest ∈ gw := gw_in 677 (by decide +kernel) (by decide +kernel)
theorem wd_678 : Cond.instanceMethod yX6_seekBest ∈ gw := gw_in 678 (by decide +kernel) (by decide +kernel)
theorem wd_679 : Cond.selects RX6 yX6_seekBest yX6_seekBest ∈ gw := gw_in 679 (by decide +kernel) (by decide +kernel)
theorem wd_680 : Cond.code yX6_seekBest cX6_seekBest 4 none ∈ gw := gw_in 680 (by decide +kernel) (by decide +kernel)
theorem wd_681 : Cond.methodLink RX6 25 yX0_takeFrom ∈ gw := gw_in 681 (by decide +kernel) (by decide +kernel)
theorem wd_682 : Cond.methodLink RX6 29 yX6_chooseWhoIsAsked ∈ gw := gw_in 682 (by decide +kernel) (by decide +kernel)
theorem wd_684 : Cond.instanceMethod yX6_chooseWhoIsAsked ∈ gw := gw_in 684 (by decide +kernel) (by decide +kernel)
theorem wd_685 : Cond.code yX6_chooseWhoIsAsked cX6_chooseWhoIsAsked 3 none ∈ gw := gw_in 685 (by decide +kernel) (by decide +kernel)
theorem wd_686 : Cond.methodLink RX6 78 yJ6_bitCount_0f7a4 ∈ gw := gw_in 686 (by decide +kernel) (by decide +kernel)
theorem wd_687 : Cond.methodLink RX6 83 yX6_howManyComeAheadOf ∈ gw := gw_in 687 (by decide +kernel) (by decide +kernel)
theorem wd_689 : Cond.instanceMethod yX6_howManyComeAheadOf ∈ gw := gw_in 689 (by decide +kernel) (by decide +kernel)
theorem wd_690 : Cond.code yX6_howManyComeAheadOf cX6_howManyComeAheadOf 5 (some .int) ∈ gw := gw_in 690 (by decide +kernel) (by decide +kernel)
theorem wd_691 : Cond.methodLink RX6 32 yX6_orderComers ∈ gw := gw_in 691 (by decide +kernel) (by decide +kernel)
theorem wd_693 : Cond.instanceMethod yX6_orderComers ∈ gw := gw_in 693 (by decide +kernel) (by decide +kernel)
theorem wd_694 : Cond.code yX6_orderComers cX6_orderComers 2 none ∈ gw := gw_in 694 (by decide +kernel) (by decide +kernel)
theorem wd_695 : Cond.methodLink RX6 92 yX6_insertComer ∈ gw := gw_in 695 (by decide +kernel) (by decide +kernel)
theorem wd_697 : Cond.instanceMethod yX6_insertComer ∈ gw := gw_in 697 (by decide +kernel) (by decide +kernel)
theorem wd_698 : Cond.code yX6_insertComer cX6_insertComer 3 none ∈ gw := gw_in 698 (by decide +kernel) (by decide +kernel)
theorem wd_699 : Cond.methodLink RX6 96 yX6_comingOf ∈ gw := gw_in 699 (by decide +kernel) (by decide +kernel)
theorem wd_701 : Cond.instanceMethod yX6_comingOf ∈ gw := gw_in 701 (by decide +kernel) (by decide +kernel)
theorem wd_702 : Cond.code yX6_comingOf cX6_comingOf 2 (some .int) ∈ gw := gw_in 702 (by decide +kernel) (by decide +kernel)
theorem wd_703 : Cond.methodLink RX6 53 Lib.Math.max.name ∈ gw := gw_in 703 (by decide +kernel) (by decide +kernel)
theorem wd_704 : Cond.constant RX6 39 (32768) ∈ gw := gw_in 704 (by decide +kernel) (by decide +kernel)
theorem wd_705 : Cond.methodLink RX6 62 yX6_tell ∈ gw := gw_in 705 (by decide +kernel) (by decide +kernel)
theorem wd_707 : Cond.instanceMethod yX6_tell ∈ gw := gw_in 707 (by decide +kernel) (by decide +kernel)
theorem wd_708 : Cond.code yX6_tell cX6_tell 10 none ∈ gw := gw_in 708 (by decide +kernel) (by decide +kernel)
theorem wd_714 : Cond.methodLinkNest RX6 67 yX7_isIn "FordQuestions" ∈ nw := nw_in 714 (by decide +kernel) (by decide +kernel)
theorem wd_719 : Cond.methodLink RX6 109 yX0_hoursAmong ∈ gw := gw_in 719 (by decide +kernel) (by decide +kernel)
theorem wd_720 : Cond.methodLink RX6 71 yX6_shiftOf ∈ gw := gw_in 720 (by decide +kernel) (by decide +kernel)
theorem wd_721 : Cond.static yX6_shiftOf ∈ gw := gw_in 721 (by decide +kernel) (by decide +kernel)
theorem wd_722 : Cond.code yX6_shiftOf cX6_shiftOf 1 (some .int) ∈ gw := gw_in 722 (by decide +kernel) (by decide +kernel)
theorem wd_723 : Cond.methodLink RX7 209 yX6_toldTo ∈ gw := gw_in 723 (by decide +kernel) (by decide +kernel)
theorem wd_724 : Cond.instanceMethod yX6_toldTo ∈ gw := gw_in 724 (by decide +kernel) (by decide +kernel)
theorem wd_725 : Cond.selects RX6 yX6_toldTo yX6_toldTo ∈ gw := gw_in 725 (by decide +kernel) (by decide +kernel)
theorem wd_726 : Cond.code yX6_toldTo cX6_toldTo 2 (some .int) ∈ gw := gw_in 726 (by decide +kernel) (by decide +kernel)
theorem wd_731 : Cond.methodLink RX7 212 yX1_seekTeaching ∈ gw := gw_in 731 (by decide +kernel) (by decide +kernel)
theorem wd_732 : Cond.instanceMethod yX1_seekTeaching ∈ gw := gw_in 732 (by decide +kernel) (by decide +kernel)
theorem wd_733 : Cond.selects RX1 yX1_seekTeaching yX1_seekTeaching ∈ gw := gw_in 733 (by decide +kernel) (by decide +kernel)
theorem wd_734 : Cond.code yX1_seekTeaching cX1_seekTeaching 4 none ∈ gw := gw_in 734 (by decide +kernel) (by decide +kernel)
theorem wd_735 : Cond.methodLinkNest RX1 58 yX7_isIn "FordQuestions" ∈ nw := nw_in 735 (by decide +kernel) (by decide +kernel)
theorem wd_736 : Cond.methodLink RX1 62 yX0_everyone ∈ gw := gw_in 736 (by decide +kernel) (by decide +kernel)
theorem wd_737 : Cond.methodLink RX1 65 yX1_hoursTillOver ∈ gw := gw_in 737 (by decide +kernel) (by decide +kernel)
theorem wd_738 : Cond.methodLink RX1 68 yX1_keepIfSooner ∈ gw := gw_in 738 (by decide +kernel) (by decide +kernel)
theorem wd_740 : Cond.instanceMethod yX1_keepIfSooner ∈ gw := gw_in 740 (by decide +kernel) (by decide +kernel)
theorem wd_741 : Cond.code yX1_keepIfSooner cX1_keepIfSooner 3 none ∈ gw := gw_in 741 (by decide +kernel) (by decide +kernel)
theorem wd_742 : Cond.methodLink RX7 215 yX7_foundOr ∈ gw := gw_in 742 (by decide +kernel) (by decide +kernel)
theorem wd_744 : Cond.instanceMethod yX7_foundOr ∈ gw := gw_in 744 (by decide +kernel) (by decide +kernel)
theorem wd_745 : Cond.code yX7_foundOr cX7_foundOr 2 (some .int) ∈ gw := gw_in 745 (by decide +kernel) (by decide +kernel)
theorem wd_750 : Cond.methodLink RX7 218 yX1_seekSpare ∈ gw := gw_in 750 (by decide +kernel) (by decide +kernel)
theorem wd_751 : Cond.instanceMethod yX1_seekSpare ∈ gw := gw_in 751 (by decide +kernel) (by decide +kernel)
theorem wd_752 : Cond.selects RX1 yX1_seekSpare yX1_seekSpare ∈ gw := gw_in 752 (by decide +kernel) (by decide +kernel)
theorem wd_753 : Cond.code yX1_seekSpare cX1_seekSpare 3 none ∈ gw := gw_in 753 (by decide +kernel) (by decide +kernel)
theorem wd_754 : Cond.methodLink RX1 75 yX0_isAsked ∈ gw := gw_in 754 (by decide +kernel) (by decide +kernel)
theorem wd_759 : Cond.methodLink RX7 221 yX1_seekComing ∈ gw := gw_in 759 (by decide +kernel) (by decide +kernel)
theorem wd_760 : Cond.instanceMethod yX1_seekComing ∈ gw := gw_in 760 (by decide +kernel) (by decide +kernel)
theorem wd_761 : Cond.selects RX1 yX1_seekComing yX1_seekComing ∈ gw := gw_in 761 (by decide +kernel) (by decide +kernel)
theorem wd_762 : Cond.code yX1_seekComing cX1_seekComing 5 none ∈ gw := gw_in 762 (by decide +kernel) (by decide +kernel)
theorem wd_767 : Cond.methodLink RX7 225 yX0_howManyLeaveNext ∈ gw := gw_in 767 (by decide +kernel) (by decide +kernel)
theorem wd_768 : Cond.instanceMethod yX0_howManyLeaveNext ∈ gw := gw_in 768 (by decide +kernel) (by decide +kernel)
theorem wd_769 : Cond.selects RX0 yX0_howManyLeaveNext yX0_howManyLeaveNext ∈ gw := gw_in 769 (by decide +kernel) (by decide +kernel)
theorem wd_770 : Cond.code yX0_howManyLeaveNext cX0_howManyLeaveNext 3 (some .int) ∈ gw := gw_in 770 (by decide +kernel) (by decide +kernel)
theorem wd_771 : Cond.methodLink RX7 228 yJ6_bitCount_0f7a4 ∈ gw := gw_in 771 (by decide +kernel) (by decide +kernel)
theorem wd_772 : Cond.methodLink RX7 233 yX7_waysOfAtLeast ∈ gw := gw_in 772 (by decide +kernel) (by decide +kernel)
theorem wd_773 : Cond.static yX7_waysOfAtLeast ∈ gw := gw_in 773 (by decide +kernel) (by decide +kernel)
theorem wd_774 : Cond.code yX7_waysOfAtLeast cX7_waysOfAtLeast 6 (some .int) ∈ gw := gw_in 774 (by decide +kernel) (by decide +kernel)
theorem wd_775 : Cond.methodLink RX7 236 yX7_power ∈ gw := gw_in 775 (by decide +kernel) (by decide +kernel)
theorem wd_776 : Cond.static yX7_power ∈ gw := gw_in 776 (by decide +kernel) (by decide +kernel)
theorem wd_777 : Cond.code yX7_power cX7_power 4 (some .int) ∈ gw := gw_in 777 (by decide +kernel) (by decide +kernel)
theorem wd_778 : Cond.methodLink RX7 239 yX7_greatestDivisor ∈ gw := gw_in 778 (by decide +kernel) (by decide +kernel)
theorem wd_779 : Cond.static yX7_greatestDivisor ∈ gw := gw_in 779 (by decide +kernel) (by decide +kernel)
theorem wd_780 : Cond.code yX7_greatestDivisor cX7_greatestDivisor 4 (some .int) ∈ gw := gw_in 780 (by decide +kernel) (by decide +kernel)
theorem wd_785 : Cond.methodLink RX7 242 yX4_takeFrom ∈ gw := gw_in 785 (by decide +kernel) (by decide +kernel)
theorem wd_786 : Cond.instanceMethod yX4_takeFrom ∈ gw := gw_in 786 (by decide +kernel) (by decide +kernel)
theorem wd_787 : Cond.selects RX4 yX4_takeFrom yX4_takeFrom ∈ gw := gw_in 787 (by decide +kernel) (by decide +kernel)
theorem wd_788 : Cond.code yX4_takeFrom cX4_takeFrom 3 none ∈ gw := gw_in 788 (by decide +kernel) (by decide +kernel)
theorem wd_797 : Cond.methodLink RX7 246 yX7_isNoSheet ∈ gw := gw_in 797 (by decide +kernel) (by decide +kernel)
theorem wd_798 : Cond.static yX7_isNoSheet ∈ gw := gw_in 798 (by decide +kernel) (by decide +kernel)
theorem wd_799 : Cond.code yX7_isNoSheet cX7_isNoSheet 1 (some .boolean) ∈ gw := gw_in 799 (by decide +kernel) (by decide +kernel)
theorem wd_800 : Cond.methodLink RX7 249 yX7_isNoLane ∈ gw := gw_in 800 (by decide +kernel) (by decide +kernel)
theorem wd_801 : Cond.static yX7_isNoLane ∈ gw := gw_in 801 (by decide +kernel) (by decide +kernel)
theorem wd_802 : Cond.code yX7_isNoLane cX7_isNoLane 1 (some .boolean) ∈ gw := gw_in 802 (by decide +kernel) (by decide +kernel)
theorem wd_803 : Cond.methodLink RX7 252 yX3_refusal ∈ gw := gw_in 803 (by decide +kernel) (by decide +kernel)
theorem wd_804 : Cond.instanceMethod yX3_refusal ∈ gw := gw_in 804 (by decide +kernel) (by decide +kernel)
theorem wd_805 : Cond.selects RX3 yX3_refusal yX3_refusal ∈ gw := gw_in 805 (by decide +kernel) (by decide +kernel)
theorem wd_806 : Cond.code yX3_refusal cX3_refusal 4 (some .int) ∈ gw := gw_in 806 (by decide +kernel) (by decide +kernel)
theorem wd_807 : Cond.methodLink RX3 28 yX3_isMissing ∈ gw := gw_in 807 (by decide +kernel) (by decide +kernel)
theorem wd_808 : Cond.instanceMethod yX3_isMissing ∈ gw := gw_in 808 (by decide +kernel) (by decide +kernel)
theorem wd_809 : Cond.selects RX3 yX3_isMissing yX3_isMissing ∈ gw := gw_in 809 (by decide +kernel) (by decide +kernel)
theorem wd_810 : Cond.code yX3_isMissing cX3_isMissing 1 (some .boolean) ∈ gw := gw_in 810 (by decide +kernel) (by decide +kernel)
theorem wd_811 : Cond.methodLink RX3 32 yX3_holds ∈ gw := gw_in 811 (by decide +kernel) (by decide +kernel)
theorem wd_812 : Cond.instanceMethod yX3_holds ∈ gw := gw_in 812 (by decide +kernel) (by decide +kernel)
theorem wd_813 : Cond.selects RX3 yX3_holds yX3_holds ∈ gw := gw_in 813 (by decide +kernel) (by decide +kernel)
theorem wd_814 : Cond.code yX3_holds cX3_holds 3 (some .boolean) ∈ gw := gw_in 814 (by decide +kernel) (by decide +kernel)
theorem wd_815 : Cond.methodLink RX7 255 yX1_kindsThatFit ∈ gw := gw_in 815 (by decide +kernel) (by decide +kernel)
theorem wd_816 : Cond.instanceMethod yX1_kindsThatFit ∈ gw := gw_in 816 (by decide +kernel) (by decide +kernel)
theorem wd_817 : Cond.selects RX1 yX1_kindsThatFit yX1_kindsThatFit ∈ gw := gw_in 817 (by decide +kernel) (by decide +kernel)
theorem wd_818 : Cond.code yX1_kindsThatFit cX1_kindsThatFit 8 (some .int) ∈ gw := gw_in 818 (by decide +kernel) (by decide +kernel)
theorem wd_819 : Cond.methodLink RX1 91 yX1_fits ∈ gw := gw_in 819 (by decide +kernel) (by decide +kernel)
theorem wd_821 : Cond.instanceMethod yX1_fits ∈ gw := gw_in 821 (by decide +kernel) (by decide +kernel)
theorem wd_822 : Cond.code yX1_fits cX1_fits 5 (some .boolean) ∈ gw := gw_in 822 (by decide +kernel) (by decide +kernel)
theorem wd_823 : Cond.methodLink RX7 259 yX1_seekKnowledge ∈ gw := gw_in 823 (by decide +kernel) (by decide +kernel)
theorem wd_824 : Cond.instanceMethod yX1_seekKnowledge ∈ gw := gw_in 824 (by decide +kernel) (by decide +kernel)
theorem wd_825 : Cond.selects RX1 yX1_seekKnowledge yX1_seekKnowledge ∈ gw := gw_in 825 (by decide +kernel) (by decide +kernel)
theorem wd_826 : Cond.code yX1_seekKnowledge cX1_seekKnowledge 7 none ∈ gw := gw_in 826 (by decide +kernel) (by decide +kernel)
theorem wd_831 : Cond.methodLink RX7 266 yX1_writeFilm ∈ gw := gw_in 831 (by decide +kernel) (by decide +kernel)
theorem wd_832 : Cond.instanceMethod yX1_writeFilm ∈ gw := gw_in 832 (by decide +kernel) (by decide +kernel)
theorem wd_833 : Cond.selects RX1 yX1_writeFilm yX1_writeFilm ∈ gw := gw_in 833 (by decide +kernel) (by decide +kernel)
theorem wd_834 : Cond.code yX1_writeFilm cX1_writeFilm 6 none ∈ gw := gw_in 834 (by decide +kernel) (by decide +kernel)
theorem wd_835 : Cond.methodLink RX1 104 yX3_write ∈ gw := gw_in 835 (by decide +kernel) (by decide +kernel)
theorem wd_836 : Cond.instanceMethod yX3_write ∈ gw := gw_in 836 (by decide +kernel) (by decide +kernel)
theorem wd_837 : Cond.selects RX3 yX3_write yX3_write ∈ gw := gw_in 837 (by decide +kernel) (by decide +kernel)
theorem wd_838 : Cond.code yX3_write cX3_write 4 none ∈ gw := gw_in 838 (by decide +kernel) (by decide +kernel)
theorem wd_839 : Cond.methodLink RX3 36 yX3_lowestBits ∈ gw := gw_in 839 (by decide +kernel) (by decide +kernel)
theorem wd_841 : Cond.instanceMethod yX3_lowestBits ∈ gw := gw_in 841 (by decide +kernel) (by decide +kernel)
theorem wd_842 : Cond.code yX3_lowestBits cX3_lowestBits 3 (some .long) ∈ gw := gw_in 842 (by decide +kernel) (by decide +kernel)
theorem wd_847 : Cond.methodLink RX7 270 yX3_begin ∈ gw := gw_in 847 (by decide +kernel) (by decide +kernel)
theorem wd_848 : Cond.instanceMethod yX3_begin ∈ gw := gw_in 848 (by decide +kernel) (by decide +kernel)
theorem wd_849 : Cond.selects RX3 yX3_begin yX3_begin ∈ gw := gw_in 849 (by decide +kernel) (by decide +kernel)
theorem wd_850 : Cond.code yX3_begin cX3_begin 3 none ∈ gw := gw_in 850 (by decide +kernel) (by decide +kernel)
theorem wd_851 : Cond.methodLink RX3 22 yJ7_fill_d0a16 ∈ gw := gw_in 851 (by decide +kernel) (by decide +kernel)
theorem wd_852 : Cond.static yJ7_fill_d0a16 ∈ gw := gw_in 852 (by decide +kernel) (by decide +kernel)
theorem wd_853 : Cond.code yJ7_fill_d0a16 cJ7_fill_d0a16 5 none ∈ gw := gw_in 853 (by decide +kernel) (by decide +kernel)
theorem wd_858 : Cond.methodLink RX7 274 yX3_isMissing ∈ gw := gw_in 858 (by decide +kernel) (by decide +kernel)
theorem wd_859 : Cond.methodLink RX7 277 yX3_end ∈ gw := gw_in 859 (by decide +kernel) (by decide +kernel)
theorem wd_860 : Cond.instanceMethod yX3_end ∈ gw := gw_in 860 (by decide +kernel) (by decide +kernel)
theorem wd_861 : Cond.selects RX3 yX3_end yX3_end ∈ gw := gw_in 861 (by decide +kernel) (by decide +kernel)
theorem wd_862 : Cond.code yX3_end cX3_end 2 (some .int) ∈ gw := gw_in 862 (by decide +kernel) (by decide +kernel)
theorem wd_867 : Cond.methodLink RX7 280 yX3_write ∈ gw := gw_in 867 (by decide +kernel) (by decide +kernel)
theorem wd_872 : Cond.methodLink RX7 287 yX3_holds ∈ gw := gw_in 872 (by decide +kernel) (by decide +kernel)
theorem wd_873 : Cond.methodLink RX7 294 arraycopyName ∈ gw := gw_in 873 (by decide +kernel) (by decide +kernel)
theorem wd_880 : Cond.fieldLink RX8 66 "FordQuestionsModel" "questions" "I" ∈ gw := gw_in 880 (by decide +kernel) (by decide +kernel)
theorem wd_881 : Cond.fieldLink RX8 73 "FordQuestionsModel" "crossers" "I" ∈ gw := gw_in 881 (by decide +kernel) (by decide +kernel)
theorem wd_882 : Cond.fieldLink RX8 7 "FordQuestionsModel" "topics" "[I" ∈ gw := gw_in 882 (by decide +kernel) (by decide +kernel)
theorem wd_883 : Cond.fieldLink RX8 13 "FordQuestionsModel" "kinds" "[I" ∈ gw := gw_in 883 (by decide +kernel) (by decide +kernel)
theorem wd_884 : Cond.fieldLink RX8 16 "FordQuestionsModel" "now" "[I" ∈ gw := gw_in 884 (by decide +kernel) (by decide +kernel)
theorem wd_885 : Cond.fieldLink RX8 19 "FordQuestionsModel" "side" "[I" ∈ gw := gw_in 885 (by decide +kernel) (by decide +kernel)
theorem wd_886 : Cond.fieldLink RX8 22 "FordQuestionsModel" "before" "[I" ∈ gw := gw_in 886 (by decide +kernel) (by decide +kernel)
theorem wd_887 : Cond.fieldLink RX8 113 "FordQuestionsModel" "undoMany" "I" ∈ gw := gw_in 887 (by decide +kernel) (by decide +kernel)
theorem wd_888 : Cond.fieldLink RX8 242 "FordQuestionsModel" "hasImage" "Z" ∈ gw := gw_in 888 (by decide +kernel) (by decide +kernel)
theorem wd_889 : Cond.fieldLink RX8 25 "FordQuestionsModel" "imageOf" "[I" ∈ gw := gw_in 889 (by decide +kernel) (by decide +kernel)
theorem wd_890 : Cond.fieldLink RX8 28 "FordQuestionsModel" "imageRow" "[I" ∈ gw := gw_in 890 (by decide +kernel) (by decide +kernel)
theorem wd_891 : Cond.fieldLink RX8 31 "FordQuestionsModel" "imageBefore" "[I" ∈ gw := gw_in 891 (by decide +kernel) (by decide +kernel)
theorem wd_892 : Cond.fieldLink RX8 34 "FordQuestionsModel" "items" "[J" ∈ gw := gw_in 892 (by decide +kernel) (by decide +kernel)
theorem wd_893 : Cond.fieldLink RX8 38 "FordQuestionsModel" "lanes" "[I" ∈ gw := gw_in 893 (by decide +kernel) (by decide +kernel)
theorem wd_894 : Cond.fieldLink RX8 41 "FordQuestionsModel" "sizes" "[I" ∈ gw := gw_in 894 (by decide +kernel) (by decide +kernel)
theorem wd_895 : Cond.fieldLink RX8 138 "FordQuestionsModel" "length" "I" ∈ gw := gw_in 895 (by decide +kernel) (by decide +kernel)
theorem wd_896 : Cond.fieldLink RX8 44 "FordQuestionsModel" "tape" "[I" ∈ gw := gw_in 896 (by decide +kernel) (by decide +kernel)
theorem wd_897 : Cond.fieldLink RX8 47 "FordQuestionsModel" "otherOne" "I" ∈ gw := gw_in 897 (by decide +kernel) (by decide +kernel)
theorem wd_898 : Cond.fieldLink RX8 76 "FordQuestionsModel" "otherKind" "I" ∈ gw := gw_in 898 (by decide +kernel) (by decide +kernel)
theorem wd_899 : Cond.fieldLink RX8 87 "FordQuestionsModel" "isTold" "Z" ∈ gw := gw_in 899 (by decide +kernel) (by decide +kernel)
theorem wd_900 : Cond.fieldLink RX8 51 "FordQuestionsModel" "toldOf" "[I" ∈ gw := gw_in 900 (by decide +kernel) (by decide +kernel)
theorem wd_901 : Cond.fieldLink RX8 141 "FordQuestionsModel" "spot" "I" ∈ gw := gw_in 901 (by decide +kernel) (by decide +kernel)
theorem wd_902 : Cond.fieldLink RX8 144 "FordQuestionsModel" "begins" "I" ∈ gw := gw_in 902 (by decide +kernel) (by decide +kernel)
theorem wd_903 : Cond.fieldLink RX8 164 "FordQuestionsModel" "readQuestions" "I" ∈ gw := gw_in 903 (by decide +kernel) (by decide +kernel)
theorem wd_904 : Cond.fieldLink RX8 169 "FordQuestionsModel" "readCrossers" "I" ∈ gw := gw_in 904 (by decide +kernel) (by decide +kernel)
theorem wd_905 : Cond.fieldLink RX8 54 "FordQuestionsModel" "readTopics" "[I" ∈ gw := gw_in 905 (by decide +kernel) (by decide +kernel)
theorem wd_906 : Cond.fieldLink RX8 57 "FordQuestionsModel" "readKinds" "[I" ∈ gw := gw_in 906 (by decide +kernel) (by decide +kernel)
theorem wd_907 : Cond.fieldLink RX8 60 "FordQuestionsModel" "readRow" "[I" ∈ gw := gw_in 907 (by decide +kernel) (by decide +kernel)
theorem wd_908 : Cond.fieldLink RX8 158 "FordQuestionsModel" "letter" "I" ∈ gw := gw_in 908 (by decide +kernel) (by decide +kernel)
theorem wd_909 : Cond.fieldLink RX8 221 "FordQuestionsModel" "askedOnes" "I" ∈ gw := gw_in 909 (by decide +kernel) (by decide +kernel)
theorem wd_910 : Cond.fieldLink RX8 63 "FordQuestionsModel" "bestOf" "[I" ∈ gw := gw_in 910 (by decide +kernel) (by decide +kernel)
theorem wd_978 : Cond.constantLong RX8 109 (7) ∈ gw := gw_in 978 (by decide +kernel) (by decide +kernel)
theorem wd_979 : Cond.methodLink RX8 69 yX8_in ∈ gw := gw_in 979 (by decide +kernel) (by decide +kernel)
theorem wd_980 : Cond.static yX8_in ∈ gw := gw_in 980 (by decide +kernel) (by decide +kernel)
theorem wd_981 : Cond.code yX8_in cX8_in 6 (some .boolean) ∈ gw := gw_in 981 (by decide +kernel) (by decide +kernel)
theorem wd_982 : Cond.constantLong RX8 111 (9) ∈ gw := gw_in 982 (by decide +kernel) (by decide +kernel)
theorem wd_987 : Cond.constantLong RX8 116 (4) ∈ gw := gw_in 987 (by decide +kernel) (by decide +kernel)
theorem wd_988 : Cond.constantLong RX8 118 (255) ∈ gw := gw_in 988 (by decide +kernel) (by decide +kernel)
theorem wd_989 : Cond.constantLong RX8 120 (40) ∈ gw := gw_in 989 (by decide +kernel) (by decide +kernel)
theorem wd_994 : Cond.methodLink RX8 122 yX8_isQuestion ∈ gw := gw_in 994 (by decide +kernel) (by decide +kernel)
theorem wd_996 : Cond.instanceMethod yX8_isQuestion ∈ gw := gw_in 996 (by decide +kernel) (by decide +kernel)
theorem wd_997 : Cond.code yX8_isQuestion cX8_isQuestion 2 (some .boolean) ∈ gw := gw_in 997 (by decide +kernel) (by decide +kernel)
theorem wd_998 : Cond.constantLong RX8 126 (2) ∈ gw := gw_in 998 (by decide +kernel) (by decide +kernel)
theorem wd_1003 : Cond.methodLink RX8 128 yX8_isCrosser ∈ gw := gw_in 1003 (by decide +kernel) (by decide +kernel)
theorem wd_1005 : Cond.instanceMethod yX8_isCrosser ∈ gw := gw_in 1005 (by decide +kernel) (by decide +kernel)
theorem wd_1006 : Cond.code yX8_isCrosser cX8_isCrosser 2 (some .boolean) ∈ gw := gw_in 1006 (by decide +kernel) (by decide +kernel)
theorem wd_1011 : Cond.methodLink RX8 131 yX8_aside ∈ gw := gw_in 1011 (by decide +kernel) (by decide +kernel)
theorem wd_1013 : Cond.instanceMethod yX8_aside ∈ gw := gw_in 1013 (by decide +kernel) (by decide +kernel)
theorem wd_1014 : Cond.code yX8_aside cX8_aside 2 none ∈ gw := gw_in 1014 (by decide +kernel) (by decide +kernel)
theorem wd_1015 : Cond.methodLink RX8 95 yX8_hoursOf ∈ gw := gw_in 1015 (by decide +kernel) (by decide +kernel)
theorem wd_1017 : Cond.instanceMethod yX8_hoursOf ∈ gw := gw_in 1017 (by decide +kernel) (by decide +kernel)
theorem wd_1018 : Cond.code yX8_hoursOf cX8_hoursOf 7 (some .int) ∈ gw := gw_in 1018 (by decide +kernel) (by decide +kernel)
theorem wd_1019 : Cond.methodLink RX8 79 yX8_has ∈ gw := gw_in 1019 (by decide +kernel) (by decide +kernel)
theorem wd_1020 : Cond.static yX8_has ∈ gw := gw_in 1020 (by decide +kernel) (by decide +kernel)
theorem wd_1021 : Cond.code yX8_has cX8_has 2 (some .boolean) ∈ gw := gw_in 1021 (by decide +kernel) (by decide +kernel)
theorem wd_1022 : Cond.methodLink RX8 83 yX8_othersIn ∈ gw := gw_in 1022 (by decide +kernel) (by decide +kernel)
theorem wd_1024 : Cond.instanceMethod yX8_othersIn ∈ gw := gw_in 1024 (by decide +kernel) (by decide +kernel)
theorem wd_1025 : Cond.code yX8_othersIn cX8_othersIn 4 (some .int) ∈ gw := gw_in 1025 (by decide +kernel) (by decide +kernel)
theorem wd_1030 : Cond.constantLong RX8 134 (32) ∈ gw := gw_in 1030 (by decide +kernel) (by decide +kernel)
theorem wd_1031 : Cond.constantLong RX8 136 (126) ∈ gw := gw_in 1031 (by decide +kernel) (by decide +kernel)
theorem wd_1036 : Cond.methodLink RX8 191 yX8_isFord ∈ gw := gw_in 1036 (by decide +kernel) (by decide +kernel)
theorem wd_1038 : Cond.instanceMethod yX8_isFord ∈ gw := gw_in 1038 (by decide +kernel) (by decide +kernel)
theorem wd_1039 : Cond.code yX8_isFord cX8_isFord 2 (some .boolean) ∈ gw := gw_in 1039 (by decide +kernel) (by decide +kernel)
theorem wd_1040 : Cond.methodLink RX8 185 yX8_questionsAll ∈ gw := gw_in 1040 (by decide +kernel) (by decide +kernel)
theorem wd_1042 : Cond.instanceMethod yX8_questionsAll ∈ gw := gw_in 1042 (by decide +kernel) (by decide +kernel)
theorem wd_1043 : Cond.code yX8_questionsAll cX8_questionsAll 1 (some .boolean) ∈ gw := gw_in 1043 (by decide +kernel) (by decide +kernel)
theorem wd_1044 : Cond.methodLink RX8 155 yX8_next ∈ gw := gw_in 1044 (by decide +kernel) (by decide +kernel)
theorem wd_1046 : Cond.instanceMethod yX8_next ∈ gw := gw_in 1046 (by decide +kernel) (by decide +kernel)
theorem wd_1047 : Cond.code yX8_next cX8_next 1 (some .int) ∈ gw := gw_in 1047 (by decide +kernel) (by decide +kernel)
theorem wd_1048 : Cond.methodLink RX8 161 yX8_isTopic ∈ gw := gw_in 1048 (by decide +kernel) (by decide +kernel)
theorem wd_1049 : Cond.static yX8_isTopic ∈ gw := gw_in 1049 (by decide +kernel) (by decide +kernel)
theorem wd_1050 : Cond.code yX8_isTopic cX8_isTopic 1 (some .boolean) ∈ gw := gw_in 1050 (by decide +kernel) (by decide +kernel)
theorem wd_1051 : Cond.constantLong RX8 151 (97) ∈ gw := gw_in 1051 (by decide +kernel) (by decide +kernel)
theorem wd_1052 : Cond.constantLong RX8 153 (104) ∈ gw := gw_in 1052 (by decide +kernel) (by decide +kernel)
theorem wd_1053 : Cond.constantLong RX8 167 (49) ∈ gw := gw_in 1053 (by decide +kernel) (by decide +kernel)
theorem wd_1054 : Cond.constantLong RX8 149 (57) ∈ gw := gw_in 1054 (by decide +kernel) (by decide +kernel)
theorem wd_1055 : Cond.methodLink RX8 188 yX8_crosserOne ∈ gw := gw_in 1055 (by decide +kernel) (by decide +kernel)
theorem wd_1057 : Cond.instanceMethod yX8_crosserOne ∈ gw := gw_in 1057 (by decide +kernel) (by decide +kernel)
theorem wd_1058 : Cond.code yX8_crosserOne cX8_crosserOne 2 (some .boolean) ∈ gw := gw_in 1058 (by decide +kernel) (by decide +kernel)
theorem wd_1059 : Cond.methodLink RX8 175 yX8_kindBy ∈ gw := gw_in 1059 (by decide +kernel) (by decide +kernel)
theorem wd_1060 : Cond.static yX8_kindBy ∈ gw := gw_in 1060 (by decide +kernel) (by decide +kernel)
theorem wd_1061 : Cond.code yX8_kindBy cX8_kindBy 1 (some .int) ∈ gw := gw_in 1061 (by decide +kernel) (by decide +kernel)
theorem wd_1062 : Cond.methodLink RX8 178 yX8_knowsAll ∈ gw := gw_in 1062 (by decide +kernel) (by decide +kernel)
theorem wd_1064 : Cond.instanceMethod yX8_knowsAll ∈ gw := gw_in 1064 (by decide +kernel) (by decide +kernel)
theorem wd_1065 : Cond.code yX8_knowsAll cX8_knowsAll 3 (some .boolean) ∈ gw := gw_in 1065 (by decide +kernel) (by decide +kernel)
theorem wd_1066 : Cond.methodLink RX8 182 yX8_comesAt ∈ gw := gw_in 1066 (by decide +kernel) (by decide +kernel)
theorem wd_1068 : Cond.instanceMethod yX8_comesAt ∈ gw := gw_in 1068 (by decide +kernel) (by decide +kernel)
theorem wd_1069 : Cond.code yX8_comesAt cX8_comesAt 2 (some .boolean) ∈ gw := gw_in 1069 (by decide +kernel) (by decide +kernel)
theorem wd_1070 : Cond.methodLink RX8 172 yX8_isDigit ∈ gw := gw_in 1070 (by decide +kernel) (by decide +kernel)
theorem wd_1071 : Cond.static yX8_isDigit ∈ gw := gw_in 1071 (by decide +kernel) (by decide +kernel)
theorem wd_1072 : Cond.code yX8_isDigit cX8_isDigit 1 (some .boolean) ∈ gw := gw_in 1072 (by decide +kernel) (by decide +kernel)
theorem wd_1073 : Cond.constantLong RX8 147 (48) ∈ gw := gw_in 1073 (by decide +kernel) (by decide +kernel)
theorem wd_1078 : Cond.methodLink RX8 106 yX8_placed ∈ gw := gw_in 1078 (by decide +kernel) (by decide +kernel)
theorem wd_1080 : Cond.instanceMethod yX8_placed ∈ gw := gw_in 1080 (by decide +kernel) (by decide +kernel)
theorem wd_1081 : Cond.code yX8_placed cX8_placed 4 (some .int) ∈ gw := gw_in 1081 (by decide +kernel) (by decide +kernel)
theorem wd_1086 : Cond.methodLink RX8 194 yX8_note ∈ gw := gw_in 1086 (by decide +kernel) (by decide +kernel)
theorem wd_1088 : Cond.instanceMethod yX8_note ∈ gw := gw_in 1088 (by decide +kernel) (by decide +kernel)
theorem wd_1089 : Cond.code yX8_note cX8_note 2 none ∈ gw := gw_in 1089 (by decide +kernel) (by decide +kernel)
theorem wd_1090 : Cond.methodLink RX8 103 yX8_goHour ∈ gw := gw_in 1090 (by decide +kernel) (by decide +kernel)
theorem wd_1092 : Cond.instanceMethod yX8_goHour ∈ gw := gw_in 1092 (by decide +kernel) (by decide +kernel)
theorem wd_1093 : Cond.code yX8_goHour cX8_goHour 2 none ∈ gw := gw_in 1093 (by decide +kernel) (by decide +kernel)
theorem wd_1094 : Cond.methodLink RX8 99 yX8_goComes ∈ gw := gw_in 1094 (by decide +kernel) (by decide +kernel)
theorem wd_1096 : Cond.instanceMethod yX8_goComes ∈ gw := gw_in 1096 (by decide +kernel) (by decide +kernel)
theorem wd_1097 : Cond.code yX8_goComes cX8_goComes 3 none ∈ gw := gw_in 1097 (by decide +kernel) (by decide +kernel)
theorem wd_1098 : Cond.methodLink RX8 91 yX8_lowestLeft ∈ gw := gw_in 1098 (by decide +kernel) (by decide +kernel)
theorem wd_1100 : Cond.instanceMethod yX8_lowestLeft ∈ gw := gw_in 1100 (by decide +kernel) (by decide +kernel)
theorem wd_1101 : Cond.code yX8_lowestLeft cX8_lowestLeft 3 (some .int) ∈ gw := gw_in 1101 (by decide +kernel) (by decide +kernel)
theorem wd_1102 : Cond.methodLink RX8 197 yX8_take ∈ gw := gw_in 1102 (by decide +kernel) (by decide +kernel)
theorem wd_1104 : Cond.instanceMethod yX8_take ∈ gw := gw_in 1104 (by decide +kernel) (by decide +kernel)
theorem wd_1105 : Cond.code yX8_take cX8_take 2 none ∈ gw := gw_in 1105 (by decide +kernel) (by decide +kernel)
theorem wd_1126 : Cond.constantLong RX8 200 (1103515245) ∈ gw := gw_in 1126 (by decide +kernel) (by decide +kernel)
theorem wd_1127 : Cond.constantLong RX8 202 (12345) ∈ gw := gw_in 1127 (by decide +kernel) (by decide +kernel)
theorem wd_1128 : Cond.constantLong RX8 204 (2147483647) ∈ gw := gw_in 1128 (by decide +kernel) (by decide +kernel)
theorem wd_1129 : Cond.constant RX8 206 (65536) ∈ gw := gw_in 1129 (by decide +kernel) (by decide +kernel)
theorem wd_1142 : Cond.constantLong RX8 207 (100) ∈ gw := gw_in 1142 (by decide +kernel) (by decide +kernel)
theorem wd_1143 : Cond.methodLink RX8 209 yX8_goHours ∈ gw := gw_in 1143 (by decide +kernel) (by decide +kernel)
theorem wd_1145 : Cond.instanceMethod yX8_goHours ∈ gw := gw_in 1145 (by decide +kernel) (by decide +kernel)
theorem wd_1146 : Cond.code yX8_goHours cX8_goHours 3 none ∈ gw := gw_in 1146 (by decide +kernel) (by decide +kernel)
theorem wd_1151 : Cond.methodLink RX8 212 yX8_overHour ∈ gw := gw_in 1151 (by decide +kernel) (by decide +kernel)
theorem wd_1153 : Cond.instanceMethod yX8_overHour ∈ gw := gw_in 1153 (by decide +kernel) (by decide +kernel)
theorem wd_1154 : Cond.code yX8_overHour cX8_overHour 3 (some .int) ∈ gw := gw_in 1154 (by decide +kernel) (by decide +kernel)
theorem wd_1159 : Cond.methodLink RX8 215 yX8_lastHour ∈ gw := gw_in 1159 (by decide +kernel) (by decide +kernel)
theorem wd_1161 : Cond.instanceMethod yX8_lastHour ∈ gw := gw_in 1161 (by decide +kernel) (by decide +kernel)
theorem wd_1162 : Cond.code yX8_lastHour cX8_lastHour 2 (some .int) ∈ gw := gw_in 1162 (by decide +kernel) (by decide +kernel)
theorem wd_1167 : Cond.methodLink RX8 218 yX8_inMany ∈ gw := gw_in 1167 (by decide +kernel) (by decide +kernel)
theorem wd_1169 : Cond.instanceMethod yX8_inMany ∈ gw := gw_in 1169 (by decide +kernel) (by decide +kernel)
theorem wd_1170 : Cond.code yX8_inMany cX8_inMany 3 (some .int) ∈ gw := gw_in 1170 (by decide +kernel) (by decide +kernel)
theorem wd_1175 : Cond.constantLong RX8 227 (-1) ∈ gw := gw_in 1175 (by decide +kernel) (by decide +kernel)
theorem wd_1176 : Cond.methodLink RX8 229 yX8_layAsked ∈ gw := gw_in 1176 (by decide +kernel) (by decide +kernel)
theorem wd_1178 : Cond.instanceMethod yX8_layAsked ∈ gw := gw_in 1178 (by decide +kernel) (by decide +kernel)
theorem wd_1179 : Cond.code yX8_layAsked cX8_layAsked 5 none ∈ gw := gw_in 1179 (by decide +kernel) (by decide +kernel)
theorem wd_1180 : Cond.methodLink RX8 224 yX8_leftMany ∈ gw := gw_in 1180 (by decide +kernel) (by decide +kernel)
theorem wd_1182 : Cond.instanceMethod yX8_leftMany ∈ gw := gw_in 1182 (by decide +kernel) (by decide +kernel)
theorem wd_1183 : Cond.code yX8_leftMany cX8_leftMany 3 (some .int) ∈ gw := gw_in 1183 (by decide +kernel) (by decide +kernel)
theorem wd_1184 : Cond.methodLink RX8 232 yX8_isTelling ∈ gw := gw_in 1184 (by decide +kernel) (by decide +kernel)
theorem wd_1186 : Cond.instanceMethod yX8_isTelling ∈ gw := gw_in 1186 (by decide +kernel) (by decide +kernel)
theorem wd_1187 : Cond.code yX8_isTelling cX8_isTelling 6 (some .boolean) ∈ gw := gw_in 1187 (by decide +kernel) (by decide +kernel)
theorem wd_1188 : Cond.methodLink RX8 235 yX8_isSooner ∈ gw := gw_in 1188 (by decide +kernel) (by decide +kernel)
theorem wd_1189 : Cond.static yX8_isSooner ∈ gw := gw_in 1189 (by decide +kernel) (by decide +kernel)
theorem wd_1190 : Cond.code yX8_isSooner cX8_isSooner 2 (some .boolean) ∈ gw := gw_in 1190 (by decide +kernel) (by decide +kernel)
theorem wd_1207 : Cond.constantLong RX8 238 (5) ∈ gw := gw_in 1207 (by decide +kernel) (by decide +kernel)
theorem wd_1208 : Cond.constantLong RX8 240 (10) ∈ gw := gw_in 1208 (by decide +kernel) (by decide +kernel)
theorem wd_1221 : Cond.methodLink RX8 254 yX8_isSheet ∈ gw := gw_in 1221 (by decide +kernel) (by decide +kernel)
theorem wd_1222 : Cond.static yX8_isSheet ∈ gw := gw_in 1222 (by decide +kernel) (by decide +kernel)
theorem wd_1223 : Cond.code yX8_isSheet cX8_isSheet 1 (some .boolean) ∈ gw := gw_in 1223 (by decide +kernel) (by decide +kernel)
theorem wd_1224 : Cond.constantLong RX8 245 (3) ∈ gw := gw_in 1224 (by decide +kernel) (by decide +kernel)
theorem wd_1225 : Cond.methodLink RX8 257 yX8_isLane ∈ gw := gw_in 1225 (by decide +kernel) (by decide +kernel)
theorem wd_1226 : Cond.static yX8_isLane ∈ gw := gw_in 1226 (by decide +kernel) (by decide +kernel)
theorem wd_1227 : Cond.code yX8_isLane cX8_isLane 1 (some .boolean) ∈ gw := gw_in 1227 (by decide +kernel) (by decide +kernel)
theorem wd_1228 : Cond.constantLong RX8 260 (8) ∈ gw := gw_in 1228 (by decide +kernel) (by decide +kernel)
theorem wd_1229 : Cond.methodLink RX8 262 yX8_lacks ∈ gw := gw_in 1229 (by decide +kernel) (by decide +kernel)
theorem wd_1231 : Cond.instanceMethod yX8_lacks ∈ gw := gw_in 1231 (by decide +kernel) (by decide +kernel)
theorem wd_1232 : Cond.code yX8_lacks cX8_lacks 5 (some .int) ∈ gw := gw_in 1232 (by decide +kernel) (by decide +kernel)
theorem wd_1233 : Cond.methodLink RX8 247 yX8_isSpan ∈ gw := gw_in 1233 (by decide +kernel) (by decide +kernel)
theorem wd_1235 : Cond.instanceMethod yX8_isSpan ∈ gw := gw_in 1235 (by decide +kernel) (by decide +kernel)
theorem wd_1236 : Cond.code yX8_isSpan cX8_isSpan 4 (some .boolean) ∈ gw := gw_in 1236 (by decide +kernel) (by decide +kernel)
theorem wd_1237 : Cond.methodLink RX8 266 yX8_seenKinds ∈ gw := gw_in 1237 (by decide +kernel) (by decide +kernel)
theorem wd_1239 : Cond.instanceMethod yX8_seenKinds ∈ gw := gw_in 1239 (by decide +kernel) (by decide +kernel)
theorem wd_1240 : Cond.code yX8_seenKinds cX8_seenKinds 6 (some .int) ∈ gw := gw_in 1240 (by decide +kernel) (by decide +kernel)
theorem wd_1241 : Cond.methodLink RX8 251 yX8_isSeen ∈ gw := gw_in 1241 (by decide +kernel) (by decide +kernel)
theorem wd_1243 : Cond.instanceMethod yX8_isSeen ∈ gw := gw_in 1243 (by decide +kernel) (by decide +kernel)
theorem wd_1244 : Cond.code yX8_isSeen cX8_isSeen 6 (some .boolean) ∈ gw := gw_in 1244 (by decide +kernel) (by decide +kernel)
theorem wd_1249 : Cond.constantLong RX8 269 (24) ∈ gw := gw_in 1249 (by decide +kernel) (by decide +kernel)
end
section
theorem inX0 : ∀ w ∈ wsX00, w ∈ gw := by decide +kernel
theorem inX1 : ∀ w ∈ wsX10, w ∈ gw := by decide +kernel
theorem inX2 : ∀ w ∈ wsX20, w ∈ gw := by decide +kernel
theorem inX3 : ∀ w ∈ wsX30, w ∈ gw := by decide +kernel
theorem inX4 : ∀ w ∈ wsX40, w ∈ gw := by decide +kernel
theorem inX5 : ∀ w ∈ wsX50, w ∈ gw := by decide +kernel
theorem inX6 : ∀ w ∈ wsX60, w ∈ gw := by decide +kernel
theorem inX7 : ∀ w ∈ wsX70, w ∈ gw := by decide +kernel
theorem inX8 : ∀ w ∈ wsX80, w ∈ gw := by decide +kernel
section XF
variable {p : Program} {l : Launch} {e : Env} {d : Nat} {s : State} {m : MethodId} {args : Array Value} {below : List Frame} {meth : Method} {c : Code} {H : Heap} {locs : List Loc} {Q : State → Prop}
variable {cc : ByteArray} {nL pc : Nat} {ls : Array Slot} {rest : List Value} {cw : Cond} {own : String} {ret : Option FieldType} {g : Ly} {t : Mm} {index : Nat}
theorem gtN_X0_0 {b : Nat} {host : String} (X : XC p m meth c cc nL s args cw own ret shC g) (hP : XP shC g t H) (hk : (0, b, 0) ∈ shC.2) (hl : Cond.fieldLinkNest own index "FordQuestions$Ford" "questions" "I" host ∈ nw) (hdg : decode cc pc = .ok (.getfield index, 3)) (kk : W p l e (rmv d) s m args below meth c H locs 0 0 Q (F0 m (pc + 3) ls (.int (t.1 0 b 0 0) :: rest))) : W p l e (rmv d) s m args below meth c H locs 0 0 Q (F0 m pc ls (.ref (g.2.2 (0, b, 0)) :: rest)) :=
  x_getN (C := RX0) (T := TX0) (N := 12) (ci := 0) X hP inX0 rfl hk rfl 0 (by decide) rfl rfl hl hdg kk
theorem gtN_X0_1 {b : Nat} {host : String} (X : XC p m meth c cc nL s args cw own ret shC g) (hP : XP shC g t H) (hk : (0, b, 0) ∈ shC.2) (hl : Cond.fieldLinkNest own index "FordQuestions$Ford" "crossers" "I" host ∈ nw) (hdg : decode cc pc = .ok (.getfield index, 3)) (kk : W p l e (rmv d) s m args below meth c H locs 0 0 Q (F0 m (pc + 3) ls (.int (t.1 0 b 0 1) :: rest))) : W p l e (rmv d) s m args below meth c H locs 0 0 Q (F0 m pc ls (.ref (g.2.2 (0, b, 0)) :: rest)) :=
  x_getN (C := RX0) (T := TX0) (N := 12) (ci := 0) X hP inX0 rfl hk rfl 1 (by decide) rfl rfl hl hdg kk
theorem gtN_X0_10 {b : Nat} {host : String} (X : XC p m meth c cc nL s args cw own ret shC g) (hP : XP shC g t H) (hk : (0, b, 0) ∈ shC.2) (hl : Cond.fieldLinkNest own index "FordQuestions$Ford" "where" "[I" host ∈ nw) (hdg : decode cc pc = .ok (.getfield index, 3)) (kk : W p l e (rmv d) s m args below meth c H locs 0 0 Q (F0 m (pc + 3) ls (.ref (g.2.2 (0, b, 6)) :: rest))) : W p l e (rmv d) s m args below meth c H locs 0 0 Q (F0 m pc ls (.ref (g.2.2 (0, b, 0)) :: rest)) :=
  x_getN (C := RX0) (T := TX0) (N := 12) (ci := 0) X hP inX0 rfl hk rfl 10 (by decide) rfl rfl hl hdg kk
theorem gtN_X0_11 {b : Nat} {host : String} (X : XC p m meth c cc nL s args cw own ret shC g) (hP : XP shC g t H) (hk : (0, b, 0) ∈ shC.2) (hl : Cond.fieldLinkNest own index "FordQuestions$Ford" "till" "[I" host ∈ nw) (hdg : decode cc pc = .ok (.getfield index, 3)) (kk : W p l e (rmv d) s m args below meth c H locs 0 0 Q (F0 m (pc + 3) ls (.ref (g.2.2 (0, b, 7)) :: rest))) : W p l e (rmv d) s m args below meth c H locs 0 0 Q (F0 m pc ls (.ref (g.2.2 (0, b, 0)) :: rest)) :=
  x_getN (C := RX0) (T := TX0) (N := 12) (ci := 0) X hP inX0 rfl hk rfl 11 (by decide) rfl rfl hl hdg kk
theorem gtN_X0_2 {b : Nat} {host : String} (X : XC p m meth c cc nL s args cw own ret shC g) (hP : XP shC g t H) (hk : (0, b, 0) ∈ shC.2) (hl : Cond.fieldLinkNest own index "FordQuestions$Ford" "asked" "I" host ∈ nw) (hdg : decode cc pc = .ok (.getfield index, 3)) (kk : W p l e (rmv d) s m args below meth c H locs 0 0 Q (F0 m (pc + 3) ls (.int (t.1 0 b 0 2) :: rest))) : W p l e (rmv d) s m args below meth c H locs 0 0 Q (F0 m pc ls (.ref (g.2.2 (0, b, 0)) :: rest)) :=
  x_getN (C := RX0) (T := TX0) (N := 12) (ci := 0) X hP inX0 rfl hk rfl 2 (by decide) rfl rfl hl hdg kk
theorem gtN_X0_3 {b : Nat} {host : String} (X : XC p m meth c cc nL s args cw own ret shC g) (hP : XP shC g t H) (hk : (0, b, 0) ∈ shC.2) (hl : Cond.fieldLinkNest own index "FordQuestions$Ford" "hour" "I" host ∈ nw) (hdg : decode cc pc = .ok (.getfield index, 3)) (kk : W p l e (rmv d) s m args below meth c H locs 0 0 Q (F0 m (pc + 3) ls (.int (t.1 0 b 0 3) :: rest))) : W p l e (rmv d) s m args below meth c H locs 0 0 Q (F0 m pc ls (.ref (g.2.2 (0, b, 0)) :: rest)) :=
  x_getN (C := RX0) (T := TX0) (N := 12) (ci := 0) X hP inX0 rfl hk rfl 3 (by decide) rfl rfl hl hdg kk
theorem gtN_X0_4 {b : Nat} {host : String} (X : XC p m meth c cc nL s args cw own ret shC g) (hP : XP shC g t H) (hk : (0, b, 0) ∈ shC.2) (hl : Cond.fieldLinkNest own index "FordQuestions$Ford" "draw" "I" host ∈ nw) (hdg : decode cc pc = .ok (.getfield index, 3)) (kk : W p l e (rmv d) s m args below meth c H locs 0 0 Q (F0 m (pc + 3) ls (.int (t.1 0 b 0 4) :: rest))) : W p l e (rmv d) s m args below meth c H locs 0 0 Q (F0 m pc ls (.ref (g.2.2 (0, b, 0)) :: rest)) :=
  x_getN (C := RX0) (T := TX0) (N := 12) (ci := 0) X hP inX0 rfl hk rfl 4 (by decide) rfl rfl hl hdg kk
theorem gtN_X0_5 {b : Nat} {host : String} (X : XC p m meth c cc nL s args cw own ret shC g) (hP : XP shC g t H) (hk : (0, b, 0) ∈ shC.2) (hl : Cond.fieldLinkNest own index "FordQuestions$Ford" "topic" "[I" host ∈ nw) (hdg : decode cc pc = .ok (.getfield index, 3)) (kk : W p l e (rmv d) s m args below meth c H locs 0 0 Q (F0 m (pc + 3) ls (.ref (g.2.2 (0, b, 1)) :: rest))) : W p l e (rmv d) s m args below meth c H locs 0 0 Q (F0 m pc ls (.ref (g.2.2 (0, b, 0)) :: rest)) :=
  x_getN (C := RX0) (T := TX0) (N := 12) (ci := 0) X hP inX0 rfl hk rfl 5 (by decide) rfl rfl hl hdg kk
theorem gtN_X0_6 {b : Nat} {host : String} (X : XC p m meth c cc nL s args cw own ret shC g) (hP : XP shC g t H) (hk : (0, b, 0) ∈ shC.2) (hl : Cond.fieldLinkNest own index "FordQuestions$Ford" "hard" "[I" host ∈ nw) (hdg : decode cc pc = .ok (.getfield index, 3)) (kk : W p l e (rmv d) s m args below meth c H locs 0 0 Q (F0 m (pc + 3) ls (.ref (g.2.2 (0, b, 2)) :: rest))) : W p l e (rmv d) s m args below meth c H locs 0 0 Q (F0 m pc ls (.ref (g.2.2 (0, b, 0)) :: rest)) :=
  x_getN (C := RX0) (T := TX0) (N := 12) (ci := 0) X hP inX0 rfl hk rfl 6 (by decide) rfl rfl hl hdg kk
theorem gtN_X0_7 {b : Nat} {host : String} (X : XC p m meth c cc nL s args cw own ret shC g) (hP : XP shC g t H) (hk : (0, b, 0) ∈ shC.2) (hl : Cond.fieldLinkNest own index "FordQuestions$Ford" "kind" "[I" host ∈ nw) (hdg : decode cc pc = .ok (.getfield index, 3)) (kk : W p l e (rmv d) s m args below meth c H locs 0 0 Q (F0 m (pc + 3) ls (.ref (g.2.2 (0, b, 3)) :: rest))) : W p l e (rmv d) s m args below meth c H locs 0 0 Q (F0 m pc ls (.ref (g.2.2 (0, b, 0)) :: rest)) :=
  x_getN (C := RX0) (T := TX0) (N := 12) (ci := 0) X hP inX0 rfl hk rfl 7 (by decide) rfl rfl hl hdg kk
theorem gtN_X0_8 {b : Nat} {host : String} (X : XC p m meth c cc nL s args cw own ret shC g) (hP : XP shC g t H) (hk : (0, b, 0) ∈ shC.2) (hl : Cond.fieldLinkNest own index "FordQuestions$Ford" "knows" "[I" host ∈ nw) (hdg : decode cc pc = .ok (.getfield index, 3)) (kk : W p l e (rmv d) s m args below meth c H locs 0 0 Q (F0 m (pc + 3) ls (.ref (g.2.2 (0, b, 4)) :: rest))) : W p l e (rmv d) s m args below meth c H locs 0 0 Q (F0 m pc ls (.ref (g.2.2 (0, b, 0)) :: rest)) :=
  x_getN (C := RX0) (T := TX0) (N := 12) (ci := 0) X hP inX0 rfl hk rfl 8 (by decide) rfl rfl hl hdg kk
theorem gtN_X0_9 {b : Nat} {host : String} (X : XC p m meth c cc nL s args cw own ret shC g) (hP : XP shC g t H) (hk : (0, b, 0) ∈ shC.2) (hl : Cond.fieldLinkNest own index "FordQuestions$Ford" "comes" "[I" host ∈ nw) (hdg : decode cc pc = .ok (.getfield index, 3)) (kk : W p l e (rmv d) s m args below meth c H locs 0 0 Q (F0 m (pc + 3) ls (.ref (g.2.2 (0, b, 5)) :: rest))) : W p l e (rmv d) s m args below meth c H locs 0 0 Q (F0 m pc ls (.ref (g.2.2 (0, b, 0)) :: rest)) :=
  x_getN (C := RX0) (T := TX0) (N := 12) (ci := 0) X hP inX0 rfl hk rfl 9 (by decide) rfl rfl hl hdg kk
theorem gtN_X1_1 {host : String} (X : XC p m meth c cc nL s args cw own ret shC g) (hP : XP shC g t H) (hk : (3, 4, 0) ∈ shC.2) (hl : Cond.fieldLinkNest own index "FordQuestions$Outlook" "found" "I" host ∈ nw) (hdg : decode cc pc = .ok (.getfield index, 3)) (kk : W p l e (rmv d) s m args below meth c H locs 0 0 Q (F0 m (pc + 3) ls (.int (t.1 3 4 0 1) :: rest))) : W p l e (rmv d) s m args below meth c H locs 0 0 Q (F0 m pc ls (.ref (g.2.2 (3, 4, 0)) :: rest)) :=
  x_getN (C := RX1) (T := TX1) (N := 4) (ci := 1) X hP inX1 rfl hk rfl 1 (by decide) rfl rfl hl hdg kk
theorem gtN_X1_2 {host : String} (X : XC p m meth c cc nL s args cw own ret shC g) (hP : XP shC g t H) (hk : (3, 4, 0) ∈ shC.2) (hl : Cond.fieldLinkNest own index "FordQuestions$Outlook" "foundHours" "I" host ∈ nw) (hdg : decode cc pc = .ok (.getfield index, 3)) (kk : W p l e (rmv d) s m args below meth c H locs 0 0 Q (F0 m (pc + 3) ls (.int (t.1 3 4 0 2) :: rest))) : W p l e (rmv d) s m args below meth c H locs 0 0 Q (F0 m pc ls (.ref (g.2.2 (3, 4, 0)) :: rest)) :=
  x_getN (C := RX1) (T := TX1) (N := 4) (ci := 1) X hP inX1 rfl hk rfl 2 (by decide) rfl rfl hl hdg kk
theorem gtN_X1_3 {host : String} (X : XC p m meth c cc nL s args cw own ret shC g) (hP : XP shC g t H) (hk : (3, 4, 0) ∈ shC.2) (hl : Cond.fieldLinkNest own index "FordQuestions$Outlook" "foundSets" "I" host ∈ nw) (hdg : decode cc pc = .ok (.getfield index, 3)) (kk : W p l e (rmv d) s m args below meth c H locs 0 0 Q (F0 m (pc + 3) ls (.int (t.1 3 4 0 3) :: rest))) : W p l e (rmv d) s m args below meth c H locs 0 0 Q (F0 m pc ls (.ref (g.2.2 (3, 4, 0)) :: rest)) :=
  x_getN (C := RX1) (T := TX1) (N := 4) (ci := 1) X hP inX1 rfl hk rfl 3 (by decide) rfl rfl hl hdg kk
theorem gtN_X2_1 {host : String} (X : XC p m meth c cc nL s args cw own ret shC g) (hP : XP shC g t H) (hk : (3, 3, 0) ∈ shC.2) (hl : Cond.fieldLinkNest own index "FordQuestions$Reader" "draft" "LFordQuestions$Ford;" host ∈ nw) (hdg : decode cc pc = .ok (.getfield index, 3)) (kk : W p l e (rmv d) s m args below meth c H locs 0 0 Q (F0 m (pc + 3) ls (.ref (g.2.2 (0, 20, 0)) :: rest))) : W p l e (rmv d) s m args below meth c H locs 0 0 Q (F0 m pc ls (.ref (g.2.2 (3, 3, 0)) :: rest)) :=
  x_getN (C := RX2) (T := TX2) (N := 3) (ci := 2) X hP inX2 rfl hk rfl 1 (by decide) rfl rfl hl hdg kk
theorem gtN_X2_2 {host : String} (X : XC p m meth c cc nL s args cw own ret shC g) (hP : XP shC g t H) (hk : (3, 3, 0) ∈ shC.2) (hl : Cond.fieldLinkNest own index "FordQuestions$Reader" "place" "I" host ∈ nw) (hdg : decode cc pc = .ok (.getfield index, 3)) (kk : W p l e (rmv d) s m args below meth c H locs 0 0 Q (F0 m (pc + 3) ls (.int (t.1 3 3 0 2) :: rest))) : W p l e (rmv d) s m args below meth c H locs 0 0 Q (F0 m pc ls (.ref (g.2.2 (3, 3, 0)) :: rest)) :=
  x_getN (C := RX2) (T := TX2) (N := 3) (ci := 2) X hP inX2 rfl hk rfl 2 (by decide) rfl rfl hl hdg kk
theorem gtN_X3_0 {b : Nat} {host : String} (X : XC p m meth c cc nL s args cw own ret shC g) (hP : XP shC g t H) (hk : (2, b, 0) ∈ shC.2) (hl : Cond.fieldLinkNest own index "FordQuestions$Sheet" "lane" "I" host ∈ nw) (hdg : decode cc pc = .ok (.getfield index, 3)) (kk : W p l e (rmv d) s m args below meth c H locs 0 0 Q (F0 m (pc + 3) ls (.int (t.1 2 b 0 0) :: rest))) : W p l e (rmv d) s m args below meth c H locs 0 0 Q (F0 m pc ls (.ref (g.2.2 (2, b, 0)) :: rest)) :=
  x_getN (C := RX3) (T := TX3) (N := 3) (ci := 3) X hP inX3 rfl hk rfl 0 (by decide) rfl rfl hl hdg kk
theorem gtN_X3_2 {b : Nat} {host : String} (X : XC p m meth c cc nL s args cw own ret shC g) (hP : XP shC g t H) (hk : (2, b, 0) ∈ shC.2) (hl : Cond.fieldLinkNest own index "FordQuestions$Sheet" "items" "[J" host ∈ nw) (hdg : decode cc pc = .ok (.getfield index, 3)) (kk : W p l e (rmv d) s m args below meth c H locs 0 0 Q (F0 m (pc + 3) ls (.ref (g.2.2 (2, b, 1)) :: rest))) : W p l e (rmv d) s m args below meth c H locs 0 0 Q (F0 m pc ls (.ref (g.2.2 (2, b, 0)) :: rest)) :=
  x_getN (C := RX3) (T := TX3) (N := 3) (ci := 3) X hP inX3 rfl hk rfl 2 (by decide) rfl rfl hl hdg kk
theorem gtN_X4_0 {b : Nat} {host : String} (X : XC p m meth c cc nL s args cw own ret shC g) (hP : XP shC g t H) (hk : (1, b, 0) ∈ shC.2) (hl : Cond.fieldLinkNest own index "FordQuestions$Story" "now" "LFordQuestions$Ford;" host ∈ nw) (hdg : decode cc pc = .ok (.getfield index, 3)) (kk : W p l e (rmv d) s m args below meth c H locs 0 0 Q (F0 m (pc + 3) ls (.ref (g.2.2 (0, (9 * b), 0)) :: rest))) : W p l e (rmv d) s m args below meth c H locs 0 0 Q (F0 m pc ls (.ref (g.2.2 (1, b, 0)) :: rest)) :=
  x_getN (C := RX4) (T := TX4) (N := 4) (ci := 4) X hP inX4 rfl hk rfl 0 (by decide) rfl rfl hl hdg kk
theorem gtN_X4_3 {b : Nat} {host : String} (X : XC p m meth c cc nL s args cw own ret shC g) (hP : XP shC g t H) (hk : (1, b, 0) ∈ shC.2) (hl : Cond.fieldLinkNest own index "FordQuestions$Story" "known" "I" host ∈ nw) (hdg : decode cc pc = .ok (.getfield index, 3)) (kk : W p l e (rmv d) s m args below meth c H locs 0 0 Q (F0 m (pc + 3) ls (.int (t.1 1 b 0 3) :: rest))) : W p l e (rmv d) s m args below meth c H locs 0 0 Q (F0 m pc ls (.ref (g.2.2 (1, b, 0)) :: rest)) :=
  x_getN (C := RX4) (T := TX4) (N := 4) (ci := 4) X hP inX4 rfl hk rfl 3 (by decide) rfl rfl hl hdg kk
theorem gtN_X5_0 {host : String} (X : XC p m meth c cc nL s args cw own ret shC g) (hP : XP shC g t H) (hk : (3, 1, 0) ∈ shC.2) (hl : Cond.fieldLinkNest own index "FordQuestions$Tape" "letters" "[C" host ∈ nw) (hdg : decode cc pc = .ok (.getfield index, 3)) (kk : W p l e (rmv d) s m args below meth c H locs 0 0 Q (F0 m (pc + 3) ls (.ref (g.2.2 (3, 2, 0)) :: rest))) : W p l e (rmv d) s m args below meth c H locs 0 0 Q (F0 m pc ls (.ref (g.2.2 (3, 1, 0)) :: rest)) :=
  x_getN (C := RX5) (T := TX5) (N := 2) (ci := 5) X hP inX5 rfl hk rfl 0 (by decide) rfl rfl hl hdg kk
theorem gtN_X5_1 {host : String} (X : XC p m meth c cc nL s args cw own ret shC g) (hP : XP shC g t H) (hk : (3, 1, 0) ∈ shC.2) (hl : Cond.fieldLinkNest own index "FordQuestions$Tape" "length" "I" host ∈ nw) (hdg : decode cc pc = .ok (.getfield index, 3)) (kk : W p l e (rmv d) s m args below meth c H locs 0 0 Q (F0 m (pc + 3) ls (.int (t.1 3 1 0 1) :: rest))) : W p l e (rmv d) s m args below meth c H locs 0 0 Q (F0 m pc ls (.ref (g.2.2 (3, 1, 0)) :: rest)) :=
  x_getN (C := RX5) (T := TX5) (N := 2) (ci := 5) X hP inX5 rfl hk rfl 1 (by decide) rfl rfl hl hdg kk
theorem gtN_X6_5 {host : String} (X : XC p m meth c cc nL s args cw own ret shC g) (hP : XP shC g t H) (hk : (3, 5, 0) ∈ shC.2) (hl : Cond.fieldLinkNest own index "FordQuestions$Tellings" "bestLast" "I" host ∈ nw) (hdg : decode cc pc = .ok (.getfield index, 3)) (kk : W p l e (rmv d) s m args below meth c H locs 0 0 Q (F0 m (pc + 3) ls (.int (t.1 3 5 0 5) :: rest))) : W p l e (rmv d) s m args below meth c H locs 0 0 Q (F0 m pc ls (.ref (g.2.2 (3, 5, 0)) :: rest)) :=
  x_getN (C := RX6) (T := TX6) (N := 7) (ci := 6) X hP inX6 rfl hk rfl 5 (by decide) rfl rfl hl hdg kk
theorem gt_X0_0 {b : Nat} (X : XC p m meth c cc nL s args cw own ret shC g) (hP : XP shC g t H) (hk : (0, b, 0) ∈ shC.2) (hl : Cond.fieldLink own index "FordQuestions$Ford" "questions" "I" ∈ gw) (hdg : decode cc pc = .ok (.getfield index, 3)) (kk : W p l e (rmv d) s m args below meth c H locs 0 0 Q (F0 m (pc + 3) ls (.int (t.1 0 b 0 0) :: rest))) : W p l e (rmv d) s m args below meth c H locs 0 0 Q (F0 m pc ls (.ref (g.2.2 (0, b, 0)) :: rest)) :=
  x_get (C := RX0) (T := TX0) (N := 12) (ci := 0) X hP inX0 rfl hk rfl 0 (by decide) rfl rfl hl hdg kk
theorem gt_X0_1 {b : Nat} (X : XC p m meth c cc nL s args cw own ret shC g) (hP : XP shC g t H) (hk : (0, b, 0) ∈ shC.2) (hl : Cond.fieldLink own index "FordQuestions$Ford" "crossers" "I" ∈ gw) (hdg : decode cc pc = .ok (.getfield index, 3)) (kk : W p l e (rmv d) s m args below meth c H locs 0 0 Q (F0 m (pc + 3) ls (.int (t.1 0 b 0 1) :: rest))) : W p l e (rmv d) s m args below meth c H locs 0 0 Q (F0 m pc ls (.ref (g.2.2 (0, b, 0)) :: rest)) :=
  x_get (C := RX0) (T := TX0) (N := 12) (ci := 0) X hP inX0 rfl hk rfl 1 (by decide) rfl rfl hl hdg kk
theorem gt_X0_10 {b : Nat} (X : XC p m meth c cc nL s args cw own ret shC g) (hP : XP shC g t H) (hk : (0, b, 0) ∈ shC.2) (hl : Cond.fieldLink own index "FordQuestions$Ford" "where" "[I" ∈ gw) (hdg : decode cc pc = .ok (.getfield index, 3)) (kk : W p l e (rmv d) s m args below meth c H locs 0 0 Q (F0 m (pc + 3) ls (.ref (g.2.2 (0, b, 6)) :: rest))) : W p l e (rmv d) s m args below meth c H locs 0 0 Q (F0 m pc ls (.ref (g.2.2 (0, b, 0)) :: rest)) :=
  x_get (C := RX0) (T := TX0) (N := 12) (ci := 0) X hP inX0 rfl hk rfl 10 (by decide) rfl rfl hl hdg kk
theorem gt_X0_11 {b : Nat} (X : XC p m meth c cc nL s args cw own ret shC g) (hP : XP shC g t H) (hk : (0, b, 0) ∈ shC.2) (hl : Cond.fieldLink own index "FordQuestions$Ford" "till" "[I" ∈ gw) (hdg : decode cc pc = .ok (.getfield index, 3)) (kk : W p l e (rmv d) s m args below meth c H locs 0 0 Q (F0 m (pc + 3) ls (.ref (g.2.2 (0, b, 7)) :: rest))) : W p l e (rmv d) s m args below meth c H locs 0 0 Q (F0 m pc ls (.ref (g.2.2 (0, b, 0)) :: rest)) :=
  x_get (C := RX0) (T := TX0) (N := 12) (ci := 0) X hP inX0 rfl hk rfl 11 (by decide) rfl rfl hl hdg kk
theorem gt_X0_2 {b : Nat} (X : XC p m meth c cc nL s args cw own ret shC g) (hP : XP shC g t H) (hk : (0, b, 0) ∈ shC.2) (hl : Cond.fieldLink own index "FordQuestions$Ford" "asked" "I" ∈ gw) (hdg : decode cc pc = .ok (.getfield index, 3)) (kk : W p l e (rmv d) s m args below meth c H locs 0 0 Q (F0 m (pc + 3) ls (.int (t.1 0 b 0 2) :: rest))) : W p l e (rmv d) s m args below meth c H locs 0 0 Q (F0 m pc ls (.ref (g.2.2 (0, b, 0)) :: rest)) :=
  x_get (C := RX0) (T := TX0) (N := 12) (ci := 0) X hP inX0 rfl hk rfl 2 (by decide) rfl rfl hl hdg kk
theorem gt_X0_3 {b : Nat} (X : XC p m meth c cc nL s args cw own ret shC g) (hP : XP shC g t H) (hk : (0, b, 0) ∈ shC.2) (hl : Cond.fieldLink own index "FordQuestions$Ford" "hour" "I" ∈ gw) (hdg : decode cc pc = .ok (.getfield index, 3)) (kk : W p l e (rmv d) s m args below meth c H locs 0 0 Q (F0 m (pc + 3) ls (.int (t.1 0 b 0 3) :: rest))) : W p l e (rmv d) s m args below meth c H locs 0 0 Q (F0 m pc ls (.ref (g.2.2 (0, b, 0)) :: rest)) :=
  x_get (C := RX0) (T := TX0) (N := 12) (ci := 0) X hP inX0 rfl hk rfl 3 (by decide) rfl rfl hl hdg kk
theorem gt_X0_4 {b : Nat} (X : XC p m meth c cc nL s args cw own ret shC g) (hP : XP shC g t H) (hk : (0, b, 0) ∈ shC.2) (hl : Cond.fieldLink own index "FordQuestions$Ford" "draw" "I" ∈ gw) (hdg : decode cc pc = .ok (.getfield index, 3)) (kk : W p l e (rmv d) s m args below meth c H locs 0 0 Q (F0 m (pc + 3) ls (.int (t.1 0 b 0 4) :: rest))) : W p l e (rmv d) s m args below meth c H locs 0 0 Q (F0 m pc ls (.ref (g.2.2 (0, b, 0)) :: rest)) :=
  x_get (C := RX0) (T := TX0) (N := 12) (ci := 0) X hP inX0 rfl hk rfl 4 (by decide) rfl rfl hl hdg kk
theorem gt_X0_5 {b : Nat} (X : XC p m meth c cc nL s args cw own ret shC g) (hP : XP shC g t H) (hk : (0, b, 0) ∈ shC.2) (hl : Cond.fieldLink own index "FordQuestions$Ford" "topic" "[I" ∈ gw) (hdg : decode cc pc = .ok (.getfield index, 3)) (kk : W p l e (rmv d) s m args below meth c H locs 0 0 Q (F0 m (pc + 3) ls (.ref (g.2.2 (0, b, 1)) :: rest))) : W p l e (rmv d) s m args below meth c H locs 0 0 Q (F0 m pc ls (.ref (g.2.2 (0, b, 0)) :: rest)) :=
  x_get (C := RX0) (T := TX0) (N := 12) (ci := 0) X hP inX0 rfl hk rfl 5 (by decide) rfl rfl hl hdg kk
theorem gt_X0_6 {b : Nat} (X : XC p m meth c cc nL s args cw own ret shC g) (hP : XP shC g t H) (hk : (0, b, 0) ∈ shC.2) (hl : Cond.fieldLink own index "FordQuestions$Ford" "hard" "[I" ∈ gw) (hdg : decode cc pc = .ok (.getfield index, 3)) (kk : W p l e (rmv d) s m args below meth c H locs 0 0 Q (F0 m (pc + 3) ls (.ref (g.2.2 (0, b, 2)) :: rest))) : W p l e (rmv d) s m args below meth c H locs 0 0 Q (F0 m pc ls (.ref (g.2.2 (0, b, 0)) :: rest)) :=
  x_get (C := RX0) (T := TX0) (N := 12) (ci := 0) X hP inX0 rfl hk rfl 6 (by decide) rfl rfl hl hdg kk
theorem gt_X0_7 {b : Nat} (X : XC p m meth c cc nL s args cw own ret shC g) (hP : XP shC g t H) (hk : (0, b, 0) ∈ shC.2) (hl : Cond.fieldLink own index "FordQuestions$Ford" "kind" "[I" ∈ gw) (hdg : decode cc pc = .ok (.getfield index, 3)) (kk : W p l e (rmv d) s m args below meth c H locs 0 0 Q (F0 m (pc + 3) ls (.ref (g.2.2 (0, b, 3)) :: rest))) : W p l e (rmv d) s m args below meth c H locs 0 0 Q (F0 m pc ls (.ref (g.2.2 (0, b, 0)) :: rest)) :=
  x_get (C := RX0) (T := TX0) (N := 12) (ci := 0) X hP inX0 rfl hk rfl 7 (by decide) rfl rfl hl hdg kk
theorem gt_X0_8 {b : Nat} (X : XC p m meth c cc nL s args cw own ret shC g) (hP : XP shC g t H) (hk : (0, b, 0) ∈ shC.2) (hl : Cond.fieldLink own index "FordQuestions$Ford" "knows" "[I" ∈ gw) (hdg : decode cc pc = .ok (.getfield index, 3)) (kk : W p l e (rmv d) s m args below meth c H locs 0 0 Q (F0 m (pc + 3) ls (.ref (g.2.2 (0, b, 4)) :: rest))) : W p l e (rmv d) s m args below meth c H locs 0 0 Q (F0 m pc ls (.ref (g.2.2 (0, b, 0)) :: rest)) :=
  x_get (C := RX0) (T := TX0) (N := 12) (ci := 0) X hP inX0 rfl hk rfl 8 (by decide) rfl rfl hl hdg kk
theorem gt_X0_9 {b : Nat} (X : XC p m meth c cc nL s args cw own ret shC g) (hP : XP shC g t H) (hk : (0, b, 0) ∈ shC.2) (hl : Cond.fieldLink own index "FordQuestions$Ford" "comes" "[I" ∈ gw) (hdg : decode cc pc = .ok (.getfield index, 3)) (kk : W p l e (rmv d) s m args below meth c H locs 0 0 Q (F0 m (pc + 3) ls (.ref (g.2.2 (0, b, 5)) :: rest))) : W p l e (rmv d) s m args below meth c H locs 0 0 Q (F0 m pc ls (.ref (g.2.2 (0, b, 0)) :: rest)) :=
  x_get (C := RX0) (T := TX0) (N := 12) (ci := 0) X hP inX0 rfl hk rfl 9 (by decide) rfl rfl hl hdg kk
theorem gt_X1_0 (X : XC p m meth c cc nL s args cw own ret shC g) (hP : XP shC g t H) (hk : (3, 4, 0) ∈ shC.2) (hl : Cond.fieldLink own index "FordQuestions$Outlook" "ahead" "LFordQuestions$Ford;" ∈ gw) (hdg : decode cc pc = .ok (.getfield index, 3)) (kk : W p l e (rmv d) s m args below meth c H locs 0 0 Q (F0 m (pc + 3) ls (.ref (g.2.2 (0, 18, 0)) :: rest))) : W p l e (rmv d) s m args below meth c H locs 0 0 Q (F0 m pc ls (.ref (g.2.2 (3, 4, 0)) :: rest)) :=
  x_get (C := RX1) (T := TX1) (N := 4) (ci := 1) X hP inX1 rfl hk rfl 0 (by decide) rfl rfl hl hdg kk
theorem gt_X1_1 (X : XC p m meth c cc nL s args cw own ret shC g) (hP : XP shC g t H) (hk : (3, 4, 0) ∈ shC.2) (hl : Cond.fieldLink own index "FordQuestions$Outlook" "found" "I" ∈ gw) (hdg : decode cc pc = .ok (.getfield index, 3)) (kk : W p l e (rmv d) s m args below meth c H locs 0 0 Q (F0 m (pc + 3) ls (.int (t.1 3 4 0 1) :: rest))) : W p l e (rmv d) s m args below meth c H locs 0 0 Q (F0 m pc ls (.ref (g.2.2 (3, 4, 0)) :: rest)) :=
  x_get (C := RX1) (T := TX1) (N := 4) (ci := 1) X hP inX1 rfl hk rfl 1 (by decide) rfl rfl hl hdg kk
theorem gt_X1_2 (X : XC p m meth c cc nL s args cw own ret shC g) (hP : XP shC g t H) (hk : (3, 4, 0) ∈ shC.2) (hl : Cond.fieldLink own index "FordQuestions$Outlook" "foundHours" "I" ∈ gw) (hdg : decode cc pc = .ok (.getfield index, 3)) (kk : W p l e (rmv d) s m args below meth c H locs 0 0 Q (F0 m (pc + 3) ls (.int (t.1 3 4 0 2) :: rest))) : W p l e (rmv d) s m args below meth c H locs 0 0 Q (F0 m pc ls (.ref (g.2.2 (3, 4, 0)) :: rest)) :=
  x_get (C := RX1) (T := TX1) (N := 4) (ci := 1) X hP inX1 rfl hk rfl 2 (by decide) rfl rfl hl hdg kk
theorem gt_X1_3 (X : XC p m meth c cc nL s args cw own ret shC g) (hP : XP shC g t H) (hk : (3, 4, 0) ∈ shC.2) (hl : Cond.fieldLink own index "FordQuestions$Outlook" "foundSets" "I" ∈ gw) (hdg : decode cc pc = .ok (.getfield index, 3)) (kk : W p l e (rmv d) s m args below meth c H locs 0 0 Q (F0 m (pc + 3) ls (.int (t.1 3 4 0 3) :: rest))) : W p l e (rmv d) s m args below meth c H locs 0 0 Q (F0 m pc ls (.ref (g.2.2 (3, 4, 0)) :: rest)) :=
  x_get (C := RX1) (T := TX1) (N := 4) (ci := 1) X hP inX1 rfl hk rfl 3 (by decide) rfl rfl hl hdg kk
theorem gt_X2_0 (X : XC p m meth c cc nL s args cw own ret shC g) (hP : XP shC g t H) (hk : (3, 3, 0) ∈ shC.2) (hl : Cond.fieldLink own index "FordQuestions$Reader" "text" "LFordQuestions$Tape;" ∈ gw) (hdg : decode cc pc = .ok (.getfield index, 3)) (kk : W p l e (rmv d) s m args below meth c H locs 0 0 Q (F0 m (pc + 3) ls (.ref (g.2.2 (3, 1, 0)) :: rest))) : W p l e (rmv d) s m args below meth c H locs 0 0 Q (F0 m pc ls (.ref (g.2.2 (3, 3, 0)) :: rest)) :=
  x_get (C := RX2) (T := TX2) (N := 3) (ci := 2) X hP inX2 rfl hk rfl 0 (by decide) rfl rfl hl hdg kk
theorem gt_X2_1 (X : XC p m meth c cc nL s args cw own ret shC g) (hP : XP shC g t H) (hk : (3, 3, 0) ∈ shC.2) (hl : Cond.fieldLink own index "FordQuestions$Reader" "draft" "LFordQuestions$Ford;" ∈ gw) (hdg : decode cc pc = .ok (.getfield index, 3)) (kk : W p l e (rmv d) s m args below meth c H locs 0 0 Q (F0 m (pc + 3) ls (.ref (g.2.2 (0, 20, 0)) :: rest))) : W p l e (rmv d) s m args below meth c H locs 0 0 Q (F0 m pc ls (.ref (g.2.2 (3, 3, 0)) :: rest)) :=
  x_get (C := RX2) (T := TX2) (N := 3) (ci := 2) X hP inX2 rfl hk rfl 1 (by decide) rfl rfl hl hdg kk
theorem gt_X2_2 (X : XC p m meth c cc nL s args cw own ret shC g) (hP : XP shC g t H) (hk : (3, 3, 0) ∈ shC.2) (hl : Cond.fieldLink own index "FordQuestions$Reader" "place" "I" ∈ gw) (hdg : decode cc pc = .ok (.getfield index, 3)) (kk : W p l e (rmv d) s m args below meth c H locs 0 0 Q (F0 m (pc + 3) ls (.int (t.1 3 3 0 2) :: rest))) : W p l e (rmv d) s m args below meth c H locs 0 0 Q (F0 m pc ls (.ref (g.2.2 (3, 3, 0)) :: rest)) :=
  x_get (C := RX2) (T := TX2) (N := 3) (ci := 2) X hP inX2 rfl hk rfl 2 (by decide) rfl rfl hl hdg kk
theorem gt_X3_0 {b : Nat} (X : XC p m meth c cc nL s args cw own ret shC g) (hP : XP shC g t H) (hk : (2, b, 0) ∈ shC.2) (hl : Cond.fieldLink own index "FordQuestions$Sheet" "lane" "I" ∈ gw) (hdg : decode cc pc = .ok (.getfield index, 3)) (kk : W p l e (rmv d) s m args below meth c H locs 0 0 Q (F0 m (pc + 3) ls (.int (t.1 2 b 0 0) :: rest))) : W p l e (rmv d) s m args below meth c H locs 0 0 Q (F0 m pc ls (.ref (g.2.2 (2, b, 0)) :: rest)) :=
  x_get (C := RX3) (T := TX3) (N := 3) (ci := 3) X hP inX3 rfl hk rfl 0 (by decide) rfl rfl hl hdg kk
theorem gt_X3_1 {b : Nat} (X : XC p m meth c cc nL s args cw own ret shC g) (hP : XP shC g t H) (hk : (2, b, 0) ∈ shC.2) (hl : Cond.fieldLink own index "FordQuestions$Sheet" "size" "I" ∈ gw) (hdg : decode cc pc = .ok (.getfield index, 3)) (kk : W p l e (rmv d) s m args below meth c H locs 0 0 Q (F0 m (pc + 3) ls (.int (t.1 2 b 0 1) :: rest))) : W p l e (rmv d) s m args below meth c H locs 0 0 Q (F0 m pc ls (.ref (g.2.2 (2, b, 0)) :: rest)) :=
  x_get (C := RX3) (T := TX3) (N := 3) (ci := 3) X hP inX3 rfl hk rfl 1 (by decide) rfl rfl hl hdg kk
theorem gt_X3_2 {b : Nat} (X : XC p m meth c cc nL s args cw own ret shC g) (hP : XP shC g t H) (hk : (2, b, 0) ∈ shC.2) (hl : Cond.fieldLink own index "FordQuestions$Sheet" "items" "[J" ∈ gw) (hdg : decode cc pc = .ok (.getfield index, 3)) (kk : W p l e (rmv d) s m args below meth c H locs 0 0 Q (F0 m (pc + 3) ls (.ref (g.2.2 (2, b, 1)) :: rest))) : W p l e (rmv d) s m args below meth c H locs 0 0 Q (F0 m pc ls (.ref (g.2.2 (2, b, 0)) :: rest)) :=
  x_get (C := RX3) (T := TX3) (N := 3) (ci := 3) X hP inX3 rfl hk rfl 2 (by decide) rfl rfl hl hdg kk
theorem gt_X4_0 {b : Nat} (X : XC p m meth c cc nL s args cw own ret shC g) (hP : XP shC g t H) (hk : (1, b, 0) ∈ shC.2) (hl : Cond.fieldLink own index "FordQuestions$Story" "now" "LFordQuestions$Ford;" ∈ gw) (hdg : decode cc pc = .ok (.getfield index, 3)) (kk : W p l e (rmv d) s m args below meth c H locs 0 0 Q (F0 m (pc + 3) ls (.ref (g.2.2 (0, (9 * b), 0)) :: rest))) : W p l e (rmv d) s m args below meth c H locs 0 0 Q (F0 m pc ls (.ref (g.2.2 (1, b, 0)) :: rest)) :=
  x_get (C := RX4) (T := TX4) (N := 4) (ci := 4) X hP inX4 rfl hk rfl 0 (by decide) rfl rfl hl hdg kk
theorem gt_X4_1 {b : Nat} (X : XC p m meth c cc nL s args cw own ret shC g) (hP : XP shC g t H) (hk : (1, b, 0) ∈ shC.2) (hl : Cond.fieldLink own index "FordQuestions$Story" "past" "[LFordQuestions$Ford;" ∈ gw) (hdg : decode cc pc = .ok (.getfield index, 3)) (kk : W p l e (rmv d) s m args below meth c H locs 0 0 Q (F0 m (pc + 3) ls (.ref (g.2.2 (1, b, 1)) :: rest))) : W p l e (rmv d) s m args below meth c H locs 0 0 Q (F0 m pc ls (.ref (g.2.2 (1, b, 0)) :: rest)) :=
  x_get (C := RX4) (T := TX4) (N := 4) (ci := 4) X hP inX4 rfl hk rfl 1 (by decide) rfl rfl hl hdg kk
theorem gt_X4_2 {b : Nat} (X : XC p m meth c cc nL s args cw own ret shC g) (hP : XP shC g t H) (hk : (1, b, 0) ∈ shC.2) (hl : Cond.fieldLink own index "FordQuestions$Story" "next" "I" ∈ gw) (hdg : decode cc pc = .ok (.getfield index, 3)) (kk : W p l e (rmv d) s m args below meth c H locs 0 0 Q (F0 m (pc + 3) ls (.int (t.1 1 b 0 2) :: rest))) : W p l e (rmv d) s m args below meth c H locs 0 0 Q (F0 m pc ls (.ref (g.2.2 (1, b, 0)) :: rest)) :=
  x_get (C := RX4) (T := TX4) (N := 4) (ci := 4) X hP inX4 rfl hk rfl 2 (by decide) rfl rfl hl hdg kk
theorem gt_X4_3 {b : Nat} (X : XC p m meth c cc nL s args cw own ret shC g) (hP : XP shC g t H) (hk : (1, b, 0) ∈ shC.2) (hl : Cond.fieldLink own index "FordQuestions$Story" "known" "I" ∈ gw) (hdg : decode cc pc = .ok (.getfield index, 3)) (kk : W p l e (rmv d) s m args below meth c H locs 0 0 Q (F0 m (pc + 3) ls (.int (t.1 1 b 0 3) :: rest))) : W p l e (rmv d) s m args below meth c H locs 0 0 Q (F0 m pc ls (.ref (g.2.2 (1, b, 0)) :: rest)) :=
  x_get (C := RX4) (T := TX4) (N := 4) (ci := 4) X hP inX4 rfl hk rfl 3 (by decide) rfl rfl hl hdg kk
theorem gt_X5_0 (X : XC p m meth c cc nL s args cw own ret shC g) (hP : XP shC g t H) (hk : (3, 1, 0) ∈ shC.2) (hl : Cond.fieldLink own index "FordQuestions$Tape" "letters" "[C" ∈ gw) (hdg : decode cc pc = .ok (.getfield index, 3)) (kk : W p l e (rmv d) s m args below meth c H locs 0 0 Q (F0 m (pc + 3) ls (.ref (g.2.2 (3, 2, 0)) :: rest))) : W p l e (rmv d) s m args below meth c H locs 0 0 Q (F0 m pc ls (.ref (g.2.2 (3, 1, 0)) :: rest)) :=
  x_get (C := RX5) (T := TX5) (N := 2) (ci := 5) X hP inX5 rfl hk rfl 0 (by decide) rfl rfl hl hdg kk
theorem gt_X5_1 (X : XC p m meth c cc nL s args cw own ret shC g) (hP : XP shC g t H) (hk : (3, 1, 0) ∈ shC.2) (hl : Cond.fieldLink own index "FordQuestions$Tape" "length" "I" ∈ gw) (hdg : decode cc pc = .ok (.getfield index, 3)) (kk : W p l e (rmv d) s m args below meth c H locs 0 0 Q (F0 m (pc + 3) ls (.int (t.1 3 1 0 1) :: rest))) : W p l e (rmv d) s m args below meth c H locs 0 0 Q (F0 m pc ls (.ref (g.2.2 (3, 1, 0)) :: rest)) :=
  x_get (C := RX5) (T := TX5) (N := 2) (ci := 5) X hP inX5 rfl hk rfl 1 (by decide) rfl rfl hl hdg kk
theorem gt_X6_0 (X : XC p m meth c cc nL s args cw own ret shC g) (hP : XP shC g t H) (hk : (3, 5, 0) ∈ shC.2) (hl : Cond.fieldLink own index "FordQuestions$Tellings" "ford" "LFordQuestions$Ford;" ∈ gw) (hdg : decode cc pc = .ok (.getfield index, 3)) (kk : W p l e (rmv d) s m args below meth c H locs 0 0 Q (F0 m (pc + 3) ls (.ref (g.2.2 (0, 19, 0)) :: rest))) : W p l e (rmv d) s m args below meth c H locs 0 0 Q (F0 m pc ls (.ref (g.2.2 (3, 5, 0)) :: rest)) :=
  x_get (C := RX6) (T := TX6) (N := 7) (ci := 6) X hP inX6 rfl hk rfl 0 (by decide) rfl rfl hl hdg kk
theorem gt_X6_1 (X : XC p m meth c cc nL s args cw own ret shC g) (hP : XP shC g t H) (hk : (3, 5, 0) ∈ shC.2) (hl : Cond.fieldLink own index "FordQuestions$Tellings" "order" "[I" ∈ gw) (hdg : decode cc pc = .ok (.getfield index, 3)) (kk : W p l e (rmv d) s m args below meth c H locs 0 0 Q (F0 m (pc + 3) ls (.ref (g.2.2 (3, 6, 0)) :: rest))) : W p l e (rmv d) s m args below meth c H locs 0 0 Q (F0 m pc ls (.ref (g.2.2 (3, 5, 0)) :: rest)) :=
  x_get (C := RX6) (T := TX6) (N := 7) (ci := 6) X hP inX6 rfl hk rfl 1 (by decide) rfl rfl hl hdg kk
theorem gt_X6_2 (X : XC p m meth c cc nL s args cw own ret shC g) (hP : XP shC g t H) (hk : (3, 5, 0) ∈ shC.2) (hl : Cond.fieldLink own index "FordQuestions$Tellings" "comers" "I" ∈ gw) (hdg : decode cc pc = .ok (.getfield index, 3)) (kk : W p l e (rmv d) s m args below meth c H locs 0 0 Q (F0 m (pc + 3) ls (.int (t.1 3 5 0 2) :: rest))) : W p l e (rmv d) s m args below meth c H locs 0 0 Q (F0 m pc ls (.ref (g.2.2 (3, 5, 0)) :: rest)) :=
  x_get (C := RX6) (T := TX6) (N := 7) (ci := 6) X hP inX6 rfl hk rfl 2 (by decide) rfl rfl hl hdg kk
theorem gt_X6_3 (X : XC p m meth c cc nL s args cw own ret shC g) (hP : XP shC g t H) (hk : (3, 5, 0) ∈ shC.2) (hl : Cond.fieldLink own index "FordQuestions$Tellings" "asked" "I" ∈ gw) (hdg : decode cc pc = .ok (.getfield index, 3)) (kk : W p l e (rmv d) s m args below meth c H locs 0 0 Q (F0 m (pc + 3) ls (.int (t.1 3 5 0 3) :: rest))) : W p l e (rmv d) s m args below meth c H locs 0 0 Q (F0 m pc ls (.ref (g.2.2 (3, 5, 0)) :: rest)) :=
  x_get (C := RX6) (T := TX6) (N := 7) (ci := 6) X hP inX6 rfl hk rfl 3 (by decide) rfl rfl hl hdg kk
theorem gt_X6_4 (X : XC p m meth c cc nL s args cw own ret shC g) (hP : XP shC g t H) (hk : (3, 5, 0) ∈ shC.2) (hl : Cond.fieldLink own index "FordQuestions$Tellings" "till" "[I" ∈ gw) (hdg : decode cc pc = .ok (.getfield index, 3)) (kk : W p l e (rmv d) s m args below meth c H locs 0 0 Q (F0 m (pc + 3) ls (.ref (g.2.2 (3, 7, 0)) :: rest))) : W p l e (rmv d) s m args below meth c H locs 0 0 Q (F0 m pc ls (.ref (g.2.2 (3, 5, 0)) :: rest)) :=
  x_get (C := RX6) (T := TX6) (N := 7) (ci := 6) X hP inX6 rfl hk rfl 4 (by decide) rfl rfl hl hdg kk
theorem gt_X6_5 (X : XC p m meth c cc nL s args cw own ret shC g) (hP : XP shC g t H) (hk : (3, 5, 0) ∈ shC.2) (hl : Cond.fieldLink own index "FordQuestions$Tellings" "bestLast" "I" ∈ gw) (hdg : decode cc pc = .ok (.getfield index, 3)) (kk : W p l e (rmv d) s m args below meth c H locs 0 0 Q (F0 m (pc + 3) ls (.int (t.1 3 5 0 5) :: rest))) : W p l e (rmv d) s m args below meth c H locs 0 0 Q (F0 m pc ls (.ref (g.2.2 (3, 5, 0)) :: rest)) :=
  x_get (C := RX6) (T := TX6) (N := 7) (ci := 6) X hP inX6 rfl hk rfl 5 (by decide) rfl rfl hl hdg kk
theorem gt_X6_6 (X : XC p m meth c cc nL s args cw own ret shC g) (hP : XP shC g t H) (hk : (3, 5, 0) ∈ shC.2) (hl : Cond.fieldLink own index "FordQuestions$Tellings" "bestTelling" "I" ∈ gw) (hdg : decode cc pc = .ok (.getfield index, 3)) (kk : W p l e (rmv d) s m args below meth c H locs 0 0 Q (F0 m (pc + 3) ls (.int (t.1 3 5 0 6) :: rest))) : W p l e (rmv d) s m args below meth c H locs 0 0 Q (F0 m pc ls (.ref (g.2.2 (3, 5, 0)) :: rest)) :=
  x_get (C := RX6) (T := TX6) (N := 7) (ci := 6) X hP inX6 rfl hk rfl 6 (by decide) rfl rfl hl hdg kk
theorem gt_X7_0 (X : XC p m meth c cc nL s args cw own ret shC g) (hP : XP shC g t H) (hk : (3, 0, 0) ∈ shC.2) (hl : Cond.fieldLink own index "FordQuestions" "story" "LFordQuestions$Story;" ∈ gw) (hdg : decode cc pc = .ok (.getfield index, 3)) (kk : W p l e (rmv d) s m args below meth c H locs 0 0 Q (F0 m (pc + 3) ls (.ref (g.2.2 (1, 0, 0)) :: rest))) : W p l e (rmv d) s m args below meth c H locs 0 0 Q (F0 m pc ls (.ref (g.2.2 (3, 0, 0)) :: rest)) :=
  x_get (C := RX7) (T := TX7) (N := 8) (ci := 7) X hP inX7 rfl hk rfl 0 (by decide) rfl rfl hl hdg kk
theorem gt_X7_1 (X : XC p m meth c cc nL s args cw own ret shC g) (hP : XP shC g t H) (hk : (3, 0, 0) ∈ shC.2) (hl : Cond.fieldLink own index "FordQuestions" "kept" "LFordQuestions$Story;" ∈ gw) (hdg : decode cc pc = .ok (.getfield index, 3)) (kk : W p l e (rmv d) s m args below meth c H locs 0 0 Q (F0 m (pc + 3) ls (.ref (g.2.2 (1, 1, 0)) :: rest))) : W p l e (rmv d) s m args below meth c H locs 0 0 Q (F0 m pc ls (.ref (g.2.2 (3, 0, 0)) :: rest)) :=
  x_get (C := RX7) (T := TX7) (N := 8) (ci := 7) X hP inX7 rfl hk rfl 1 (by decide) rfl rfl hl hdg kk
theorem gt_X7_2 (X : XC p m meth c cc nL s args cw own ret shC g) (hP : XP shC g t H) (hk : (3, 0, 0) ∈ shC.2) (hl : Cond.fieldLink own index "FordQuestions" "hasImage" "Z" ∈ gw) (hdg : decode cc pc = .ok (.getfield index, 3)) (kk : W p l e (rmv d) s m args below meth c H locs 0 0 Q (F0 m (pc + 3) ls (.int (t.1 3 0 0 2) :: rest))) : W p l e (rmv d) s m args below meth c H locs 0 0 Q (F0 m pc ls (.ref (g.2.2 (3, 0, 0)) :: rest)) :=
  x_get (C := RX7) (T := TX7) (N := 8) (ci := 7) X hP inX7 rfl hk rfl 2 (by decide) rfl rfl hl hdg kk
theorem gt_X7_3 (X : XC p m meth c cc nL s args cw own ret shC g) (hP : XP shC g t H) (hk : (3, 0, 0) ∈ shC.2) (hl : Cond.fieldLink own index "FordQuestions" "tape" "LFordQuestions$Tape;" ∈ gw) (hdg : decode cc pc = .ok (.getfield index, 3)) (kk : W p l e (rmv d) s m args below meth c H locs 0 0 Q (F0 m (pc + 3) ls (.ref (g.2.2 (3, 1, 0)) :: rest))) : W p l e (rmv d) s m args below meth c H locs 0 0 Q (F0 m pc ls (.ref (g.2.2 (3, 0, 0)) :: rest)) :=
  x_get (C := RX7) (T := TX7) (N := 8) (ci := 7) X hP inX7 rfl hk rfl 3 (by decide) rfl rfl hl hdg kk
theorem gt_X7_4 (X : XC p m meth c cc nL s args cw own ret shC g) (hP : XP shC g t H) (hk : (3, 0, 0) ∈ shC.2) (hl : Cond.fieldLink own index "FordQuestions" "reader" "LFordQuestions$Reader;" ∈ gw) (hdg : decode cc pc = .ok (.getfield index, 3)) (kk : W p l e (rmv d) s m args below meth c H locs 0 0 Q (F0 m (pc + 3) ls (.ref (g.2.2 (3, 3, 0)) :: rest))) : W p l e (rmv d) s m args below meth c H locs 0 0 Q (F0 m pc ls (.ref (g.2.2 (3, 0, 0)) :: rest)) :=
  x_get (C := RX7) (T := TX7) (N := 8) (ci := 7) X hP inX7 rfl hk rfl 4 (by decide) rfl rfl hl hdg kk
theorem gt_X7_5 (X : XC p m meth c cc nL s args cw own ret shC g) (hP : XP shC g t H) (hk : (3, 0, 0) ∈ shC.2) (hl : Cond.fieldLink own index "FordQuestions" "outlook" "LFordQuestions$Outlook;" ∈ gw) (hdg : decode cc pc = .ok (.getfield index, 3)) (kk : W p l e (rmv d) s m args below meth c H locs 0 0 Q (F0 m (pc + 3) ls (.ref (g.2.2 (3, 4, 0)) :: rest))) : W p l e (rmv d) s m args below meth c H locs 0 0 Q (F0 m pc ls (.ref (g.2.2 (3, 0, 0)) :: rest)) :=
  x_get (C := RX7) (T := TX7) (N := 8) (ci := 7) X hP inX7 rfl hk rfl 5 (by decide) rfl rfl hl hdg kk
theorem gt_X7_6 (X : XC p m meth c cc nL s args cw own ret shC g) (hP : XP shC g t H) (hk : (3, 0, 0) ∈ shC.2) (hl : Cond.fieldLink own index "FordQuestions" "tellings" "LFordQuestions$Tellings;" ∈ gw) (hdg : decode cc pc = .ok (.getfield index, 3)) (kk : W p l e (rmv d) s m args below meth c H locs 0 0 Q (F0 m (pc + 3) ls (.ref (g.2.2 (3, 5, 0)) :: rest))) : W p l e (rmv d) s m args below meth c H locs 0 0 Q (F0 m pc ls (.ref (g.2.2 (3, 0, 0)) :: rest)) :=
  x_get (C := RX7) (T := TX7) (N := 8) (ci := 7) X hP inX7 rfl hk rfl 6 (by decide) rfl rfl hl hdg kk
theorem gt_X7_7 (X : XC p m meth c cc nL s args cw own ret shC g) (hP : XP shC g t H) (hk : (3, 0, 0) ∈ shC.2) (hl : Cond.fieldLink own index "FordQuestions" "sheets" "[LFordQuestions$Sheet;" ∈ gw) (hdg : decode cc pc = .ok (.getfield index, 3)) (kk : W p l e (rmv d) s m args below meth c H locs 0 0 Q (F0 m (pc + 3) ls (.ref (g.2.2 (3, 8, 0)) :: rest))) : W p l e (rmv d) s m args below meth c H locs 0 0 Q (F0 m pc ls (.ref (g.2.2 (3, 0, 0)) :: rest)) :=
  x_get (C := RX7) (T := TX7) (N := 8) (ci := 7) X hP inX7 rfl hk rfl 7 (by decide) rfl rfl hl hdg kk
theorem gt_X8_0 (X : XC p m meth c cc nL s args cw own ret shR g) (hP : XP shR g t H) (hk : (9, 0, 0) ∈ shR.2) (hl : Cond.fieldLink own index "FordQuestionsModel" "questions" "I" ∈ gw) (hdg : decode cc pc = .ok (.getfield index, 3)) (kk : W p l e (rmv d) s m args below meth c H locs 0 0 Q (F0 m (pc + 3) ls (.int (t.1 9 0 0 0) :: rest))) : W p l e (rmv d) s m args below meth c H locs 0 0 Q (F0 m pc ls (.ref (g.2.2 (9, 0, 0)) :: rest)) :=
  x_get (C := RX8) (T := TX8) (N := 31) (ci := 8) X hP inX8 rfl hk rfl 0 (by decide) rfl rfl hl hdg kk
theorem gt_X8_1 (X : XC p m meth c cc nL s args cw own ret shR g) (hP : XP shR g t H) (hk : (9, 0, 0) ∈ shR.2) (hl : Cond.fieldLink own index "FordQuestionsModel" "crossers" "I" ∈ gw) (hdg : decode cc pc = .ok (.getfield index, 3)) (kk : W p l e (rmv d) s m args below meth c H locs 0 0 Q (F0 m (pc + 3) ls (.int (t.1 9 0 0 1) :: rest))) : W p l e (rmv d) s m args below meth c H locs 0 0 Q (F0 m pc ls (.ref (g.2.2 (9, 0, 0)) :: rest)) :=
  x_get (C := RX8) (T := TX8) (N := 31) (ci := 8) X hP inX8 rfl hk rfl 1 (by decide) rfl rfl hl hdg kk
theorem gt_X8_10 (X : XC p m meth c cc nL s args cw own ret shR g) (hP : XP shR g t H) (hk : (9, 0, 0) ∈ shR.2) (hl : Cond.fieldLink own index "FordQuestionsModel" "imageRow" "[I" ∈ gw) (hdg : decode cc pc = .ok (.getfield index, 3)) (kk : W p l e (rmv d) s m args below meth c H locs 0 0 Q (F0 m (pc + 3) ls (.ref (g.2.2 (9, 0, 10)) :: rest))) : W p l e (rmv d) s m args below meth c H locs 0 0 Q (F0 m pc ls (.ref (g.2.2 (9, 0, 0)) :: rest)) :=
  x_get (C := RX8) (T := TX8) (N := 31) (ci := 8) X hP inX8 rfl hk rfl 10 (by decide) rfl rfl hl hdg kk
theorem gt_X8_11 (X : XC p m meth c cc nL s args cw own ret shR g) (hP : XP shR g t H) (hk : (9, 0, 0) ∈ shR.2) (hl : Cond.fieldLink own index "FordQuestionsModel" "imageBefore" "[I" ∈ gw) (hdg : decode cc pc = .ok (.getfield index, 3)) (kk : W p l e (rmv d) s m args below meth c H locs 0 0 Q (F0 m (pc + 3) ls (.ref (g.2.2 (9, 0, 11)) :: rest))) : W p l e (rmv d) s m args below meth c H locs 0 0 Q (F0 m pc ls (.ref (g.2.2 (9, 0, 0)) :: rest)) :=
  x_get (C := RX8) (T := TX8) (N := 31) (ci := 8) X hP inX8 rfl hk rfl 11 (by decide) rfl rfl hl hdg kk
theorem gt_X8_12 (X : XC p m meth c cc nL s args cw own ret shR g) (hP : XP shR g t H) (hk : (9, 0, 0) ∈ shR.2) (hl : Cond.fieldLink own index "FordQuestionsModel" "items" "[J" ∈ gw) (hdg : decode cc pc = .ok (.getfield index, 3)) (kk : W p l e (rmv d) s m args below meth c H locs 0 0 Q (F0 m (pc + 3) ls (.ref (g.2.2 (9, 0, 12)) :: rest))) : W p l e (rmv d) s m args below meth c H locs 0 0 Q (F0 m pc ls (.ref (g.2.2 (9, 0, 0)) :: rest)) :=
  x_get (C := RX8) (T := TX8) (N := 31) (ci := 8) X hP inX8 rfl hk rfl 12 (by decide) rfl rfl hl hdg kk
theorem gt_X8_13 (X : XC p m meth c cc nL s args cw own ret shR g) (hP : XP shR g t H) (hk : (9, 0, 0) ∈ shR.2) (hl : Cond.fieldLink own index "FordQuestionsModel" "lanes" "[I" ∈ gw) (hdg : decode cc pc = .ok (.getfield index, 3)) (kk : W p l e (rmv d) s m args below meth c H locs 0 0 Q (F0 m (pc + 3) ls (.ref (g.2.2 (9, 0, 13)) :: rest))) : W p l e (rmv d) s m args below meth c H locs 0 0 Q (F0 m pc ls (.ref (g.2.2 (9, 0, 0)) :: rest)) :=
  x_get (C := RX8) (T := TX8) (N := 31) (ci := 8) X hP inX8 rfl hk rfl 13 (by decide) rfl rfl hl hdg kk
theorem gt_X8_14 (X : XC p m meth c cc nL s args cw own ret shR g) (hP : XP shR g t H) (hk : (9, 0, 0) ∈ shR.2) (hl : Cond.fieldLink own index "FordQuestionsModel" "sizes" "[I" ∈ gw) (hdg : decode cc pc = .ok (.getfield index, 3)) (kk : W p l e (rmv d) s m args below meth c H locs 0 0 Q (F0 m (pc + 3) ls (.ref (g.2.2 (9, 0, 14)) :: rest))) : W p l e (rmv d) s m args below meth c H locs 0 0 Q (F0 m pc ls (.ref (g.2.2 (9, 0, 0)) :: rest)) :=
  x_get (C := RX8) (T := TX8) (N := 31) (ci := 8) X hP inX8 rfl hk rfl 14 (by decide) rfl rfl hl hdg kk
theorem gt_X8_15 (X : XC p m meth c cc nL s args cw own ret shR g) (hP : XP shR g t H) (hk : (9, 0, 0) ∈ shR.2) (hl : Cond.fieldLink own index "FordQuestionsModel" "length" "I" ∈ gw) (hdg : decode cc pc = .ok (.getfield index, 3)) (kk : W p l e (rmv d) s m args below meth c H locs 0 0 Q (F0 m (pc + 3) ls (.int (t.1 9 0 0 15) :: rest))) : W p l e (rmv d) s m args below meth c H locs 0 0 Q (F0 m pc ls (.ref (g.2.2 (9, 0, 0)) :: rest)) :=
  x_get (C := RX8) (T := TX8) (N := 31) (ci := 8) X hP inX8 rfl hk rfl 15 (by decide) rfl rfl hl hdg kk
theorem gt_X8_16 (X : XC p m meth c cc nL s args cw own ret shR g) (hP : XP shR g t H) (hk : (9, 0, 0) ∈ shR.2) (hl : Cond.fieldLink own index "FordQuestionsModel" "tape" "[I" ∈ gw) (hdg : decode cc pc = .ok (.getfield index, 3)) (kk : W p l e (rmv d) s m args below meth c H locs 0 0 Q (F0 m (pc + 3) ls (.ref (g.2.2 (9, 0, 16)) :: rest))) : W p l e (rmv d) s m args below meth c H locs 0 0 Q (F0 m pc ls (.ref (g.2.2 (9, 0, 0)) :: rest)) :=
  x_get (C := RX8) (T := TX8) (N := 31) (ci := 8) X hP inX8 rfl hk rfl 16 (by decide) rfl rfl hl hdg kk
theorem gt_X8_17 (X : XC p m meth c cc nL s args cw own ret shR g) (hP : XP shR g t H) (hk : (9, 0, 0) ∈ shR.2) (hl : Cond.fieldLink own index "FordQuestionsModel" "otherOne" "I" ∈ gw) (hdg : decode cc pc = .ok (.getfield index, 3)) (kk : W p l e (rmv d) s m args below meth c H locs 0 0 Q (F0 m (pc + 3) ls (.int (t.1 9 0 0 17) :: rest))) : W p l e (rmv d) s m args below meth c H locs 0 0 Q (F0 m pc ls (.ref (g.2.2 (9, 0, 0)) :: rest)) :=
  x_get (C := RX8) (T := TX8) (N := 31) (ci := 8) X hP inX8 rfl hk rfl 17 (by decide) rfl rfl hl hdg kk
theorem gt_X8_18 (X : XC p m meth c cc nL s args cw own ret shR g) (hP : XP shR g t H) (hk : (9, 0, 0) ∈ shR.2) (hl : Cond.fieldLink own index "FordQuestionsModel" "otherKind" "I" ∈ gw) (hdg : decode cc pc = .ok (.getfield index, 3)) (kk : W p l e (rmv d) s m args below meth c H locs 0 0 Q (F0 m (pc + 3) ls (.int (t.1 9 0 0 18) :: rest))) : W p l e (rmv d) s m args below meth c H locs 0 0 Q (F0 m pc ls (.ref (g.2.2 (9, 0, 0)) :: rest)) :=
  x_get (C := RX8) (T := TX8) (N := 31) (ci := 8) X hP inX8 rfl hk rfl 18 (by decide) rfl rfl hl hdg kk
theorem gt_X8_19 (X : XC p m meth c cc nL s args cw own ret shR g) (hP : XP shR g t H) (hk : (9, 0, 0) ∈ shR.2) (hl : Cond.fieldLink own index "FordQuestionsModel" "isTold" "Z" ∈ gw) (hdg : decode cc pc = .ok (.getfield index, 3)) (kk : W p l e (rmv d) s m args below meth c H locs 0 0 Q (F0 m (pc + 3) ls (.int (t.1 9 0 0 19) :: rest))) : W p l e (rmv d) s m args below meth c H locs 0 0 Q (F0 m pc ls (.ref (g.2.2 (9, 0, 0)) :: rest)) :=
  x_get (C := RX8) (T := TX8) (N := 31) (ci := 8) X hP inX8 rfl hk rfl 19 (by decide) rfl rfl hl hdg kk
theorem gt_X8_2 (X : XC p m meth c cc nL s args cw own ret shR g) (hP : XP shR g t H) (hk : (9, 0, 0) ∈ shR.2) (hl : Cond.fieldLink own index "FordQuestionsModel" "topics" "[I" ∈ gw) (hdg : decode cc pc = .ok (.getfield index, 3)) (kk : W p l e (rmv d) s m args below meth c H locs 0 0 Q (F0 m (pc + 3) ls (.ref (g.2.2 (9, 0, 2)) :: rest))) : W p l e (rmv d) s m args below meth c H locs 0 0 Q (F0 m pc ls (.ref (g.2.2 (9, 0, 0)) :: rest)) :=
  x_get (C := RX8) (T := TX8) (N := 31) (ci := 8) X hP inX8 rfl hk rfl 2 (by decide) rfl rfl hl hdg kk
theorem gt_X8_20 (X : XC p m meth c cc nL s args cw own ret shR g) (hP : XP shR g t H) (hk : (9, 0, 0) ∈ shR.2) (hl : Cond.fieldLink own index "FordQuestionsModel" "toldOf" "[I" ∈ gw) (hdg : decode cc pc = .ok (.getfield index, 3)) (kk : W p l e (rmv d) s m args below meth c H locs 0 0 Q (F0 m (pc + 3) ls (.ref (g.2.2 (9, 0, 20)) :: rest))) : W p l e (rmv d) s m args below meth c H locs 0 0 Q (F0 m pc ls (.ref (g.2.2 (9, 0, 0)) :: rest)) :=
  x_get (C := RX8) (T := TX8) (N := 31) (ci := 8) X hP inX8 rfl hk rfl 20 (by decide) rfl rfl hl hdg kk
theorem gt_X8_21 (X : XC p m meth c cc nL s args cw own ret shR g) (hP : XP shR g t H) (hk : (9, 0, 0) ∈ shR.2) (hl : Cond.fieldLink own index "FordQuestionsModel" "spot" "I" ∈ gw) (hdg : decode cc pc = .ok (.getfield index, 3)) (kk : W p l e (rmv d) s m args below meth c H locs 0 0 Q (F0 m (pc + 3) ls (.int (t.1 9 0 0 21) :: rest))) : W p l e (rmv d) s m args below meth c H locs 0 0 Q (F0 m pc ls (.ref (g.2.2 (9, 0, 0)) :: rest)) :=
  x_get (C := RX8) (T := TX8) (N := 31) (ci := 8) X hP inX8 rfl hk rfl 21 (by decide) rfl rfl hl hdg kk
theorem gt_X8_22 (X : XC p m meth c cc nL s args cw own ret shR g) (hP : XP shR g t H) (hk : (9, 0, 0) ∈ shR.2) (hl : Cond.fieldLink own index "FordQuestionsModel" "begins" "I" ∈ gw) (hdg : decode cc pc = .ok (.getfield index, 3)) (kk : W p l e (rmv d) s m args below meth c H locs 0 0 Q (F0 m (pc + 3) ls (.int (t.1 9 0 0 22) :: rest))) : W p l e (rmv d) s m args below meth c H locs 0 0 Q (F0 m pc ls (.ref (g.2.2 (9, 0, 0)) :: rest)) :=
  x_get (C := RX8) (T := TX8) (N := 31) (ci := 8) X hP inX8 rfl hk rfl 22 (by decide) rfl rfl hl hdg kk
theorem gt_X8_23 (X : XC p m meth c cc nL s args cw own ret shR g) (hP : XP shR g t H) (hk : (9, 0, 0) ∈ shR.2) (hl : Cond.fieldLink own index "FordQuestionsModel" "readQuestions" "I" ∈ gw) (hdg : decode cc pc = .ok (.getfield index, 3)) (kk : W p l e (rmv d) s m args below meth c H locs 0 0 Q (F0 m (pc + 3) ls (.int (t.1 9 0 0 23) :: rest))) : W p l e (rmv d) s m args below meth c H locs 0 0 Q (F0 m pc ls (.ref (g.2.2 (9, 0, 0)) :: rest)) :=
  x_get (C := RX8) (T := TX8) (N := 31) (ci := 8) X hP inX8 rfl hk rfl 23 (by decide) rfl rfl hl hdg kk
theorem gt_X8_24 (X : XC p m meth c cc nL s args cw own ret shR g) (hP : XP shR g t H) (hk : (9, 0, 0) ∈ shR.2) (hl : Cond.fieldLink own index "FordQuestionsModel" "readCrossers" "I" ∈ gw) (hdg : decode cc pc = .ok (.getfield index, 3)) (kk : W p l e (rmv d) s m args below meth c H locs 0 0 Q (F0 m (pc + 3) ls (.int (t.1 9 0 0 24) :: rest))) : W p l e (rmv d) s m args below meth c H locs 0 0 Q (F0 m pc ls (.ref (g.2.2 (9, 0, 0)) :: rest)) :=
  x_get (C := RX8) (T := TX8) (N := 31) (ci := 8) X hP inX8 rfl hk rfl 24 (by decide) rfl rfl hl hdg kk
theorem gt_X8_25 (X : XC p m meth c cc nL s args cw own ret shR g) (hP : XP shR g t H) (hk : (9, 0, 0) ∈ shR.2) (hl : Cond.fieldLink own index "FordQuestionsModel" "readTopics" "[I" ∈ gw) (hdg : decode cc pc = .ok (.getfield index, 3)) (kk : W p l e (rmv d) s m args below meth c H locs 0 0 Q (F0 m (pc + 3) ls (.ref (g.2.2 (9, 0, 25)) :: rest))) : W p l e (rmv d) s m args below meth c H locs 0 0 Q (F0 m pc ls (.ref (g.2.2 (9, 0, 0)) :: rest)) :=
  x_get (C := RX8) (T := TX8) (N := 31) (ci := 8) X hP inX8 rfl hk rfl 25 (by decide) rfl rfl hl hdg kk
theorem gt_X8_26 (X : XC p m meth c cc nL s args cw own ret shR g) (hP : XP shR g t H) (hk : (9, 0, 0) ∈ shR.2) (hl : Cond.fieldLink own index "FordQuestionsModel" "readKinds" "[I" ∈ gw) (hdg : decode cc pc = .ok (.getfield index, 3)) (kk : W p l e (rmv d) s m args below meth c H locs 0 0 Q (F0 m (pc + 3) ls (.ref (g.2.2 (9, 0, 26)) :: rest))) : W p l e (rmv d) s m args below meth c H locs 0 0 Q (F0 m pc ls (.ref (g.2.2 (9, 0, 0)) :: rest)) :=
  x_get (C := RX8) (T := TX8) (N := 31) (ci := 8) X hP inX8 rfl hk rfl 26 (by decide) rfl rfl hl hdg kk
theorem gt_X8_27 (X : XC p m meth c cc nL s args cw own ret shR g) (hP : XP shR g t H) (hk : (9, 0, 0) ∈ shR.2) (hl : Cond.fieldLink own index "FordQuestionsModel" "readRow" "[I" ∈ gw) (hdg : decode cc pc = .ok (.getfield index, 3)) (kk : W p l e (rmv d) s m args below meth c H locs 0 0 Q (F0 m (pc + 3) ls (.ref (g.2.2 (9, 0, 27)) :: rest))) : W p l e (rmv d) s m args below meth c H locs 0 0 Q (F0 m pc ls (.ref (g.2.2 (9, 0, 0)) :: rest)) :=
  x_get (C := RX8) (T := TX8) (N := 31) (ci := 8) X hP inX8 rfl hk rfl 27 (by decide) rfl rfl hl hdg kk
theorem gt_X8_28 (X : XC p m meth c cc nL s args cw own ret shR g) (hP : XP shR g t H) (hk : (9, 0, 0) ∈ shR.2) (hl : Cond.fieldLink own index "FordQuestionsModel" "letter" "I" ∈ gw) (hdg : decode cc pc = .ok (.getfield index, 3)) (kk : W p l e (rmv d) s m args below meth c H locs 0 0 Q (F0 m (pc + 3) ls (.int (t.1 9 0 0 28) :: rest))) : W p l e (rmv d) s m args below meth c H locs 0 0 Q (F0 m pc ls (.ref (g.2.2 (9, 0, 0)) :: rest)) :=
  x_get (C := RX8) (T := TX8) (N := 31) (ci := 8) X hP inX8 rfl hk rfl 28 (by decide) rfl rfl hl hdg kk
theorem gt_X8_29 (X : XC p m meth c cc nL s args cw own ret shR g) (hP : XP shR g t H) (hk : (9, 0, 0) ∈ shR.2) (hl : Cond.fieldLink own index "FordQuestionsModel" "askedOnes" "I" ∈ gw) (hdg : decode cc pc = .ok (.getfield index, 3)) (kk : W p l e (rmv d) s m args below meth c H locs 0 0 Q (F0 m (pc + 3) ls (.int (t.1 9 0 0 29) :: rest))) : W p l e (rmv d) s m args below meth c H locs 0 0 Q (F0 m pc ls (.ref (g.2.2 (9, 0, 0)) :: rest)) :=
  x_get (C := RX8) (T := TX8) (N := 31) (ci := 8) X hP inX8 rfl hk rfl 29 (by decide) rfl rfl hl hdg kk
theorem gt_X8_3 (X : XC p m meth c cc nL s args cw own ret shR g) (hP : XP shR g t H) (hk : (9, 0, 0) ∈ shR.2) (hl : Cond.fieldLink own index "FordQuestionsModel" "kinds" "[I" ∈ gw) (hdg : decode cc pc = .ok (.getfield index, 3)) (kk : W p l e (rmv d) s m args below meth c H locs 0 0 Q (F0 m (pc + 3) ls (.ref (g.2.2 (9, 0, 3)) :: rest))) : W p l e (rmv d) s m args below meth c H locs 0 0 Q (F0 m pc ls (.ref (g.2.2 (9, 0, 0)) :: rest)) :=
  x_get (C := RX8) (T := TX8) (N := 31) (ci := 8) X hP inX8 rfl hk rfl 3 (by decide) rfl rfl hl hdg kk
theorem gt_X8_30 (X : XC p m meth c cc nL s args cw own ret shR g) (hP : XP shR g t H) (hk : (9, 0, 0) ∈ shR.2) (hl : Cond.fieldLink own index "FordQuestionsModel" "bestOf" "[I" ∈ gw) (hdg : decode cc pc = .ok (.getfield index, 3)) (kk : W p l e (rmv d) s m args below meth c H locs 0 0 Q (F0 m (pc + 3) ls (.ref (g.2.2 (9, 0, 30)) :: rest))) : W p l e (rmv d) s m args below meth c H locs 0 0 Q (F0 m pc ls (.ref (g.2.2 (9, 0, 0)) :: rest)) :=
  x_get (C := RX8) (T := TX8) (N := 31) (ci := 8) X hP inX8 rfl hk rfl 30 (by decide) rfl rfl hl hdg kk
theorem gt_X8_4 (X : XC p m meth c cc nL s args cw own ret shR g) (hP : XP shR g t H) (hk : (9, 0, 0) ∈ shR.2) (hl : Cond.fieldLink own index "FordQuestionsModel" "now" "[I" ∈ gw) (hdg : decode cc pc = .ok (.getfield index, 3)) (kk : W p l e (rmv d) s m args below meth c H locs 0 0 Q (F0 m (pc + 3) ls (.ref (g.2.2 (9, 0, 4)) :: rest))) : W p l e (rmv d) s m args below meth c H locs 0 0 Q (F0 m pc ls (.ref (g.2.2 (9, 0, 0)) :: rest)) :=
  x_get (C := RX8) (T := TX8) (N := 31) (ci := 8) X hP inX8 rfl hk rfl 4 (by decide) rfl rfl hl hdg kk
theorem gt_X8_5 (X : XC p m meth c cc nL s args cw own ret shR g) (hP : XP shR g t H) (hk : (9, 0, 0) ∈ shR.2) (hl : Cond.fieldLink own index "FordQuestionsModel" "side" "[I" ∈ gw) (hdg : decode cc pc = .ok (.getfield index, 3)) (kk : W p l e (rmv d) s m args below meth c H locs 0 0 Q (F0 m (pc + 3) ls (.ref (g.2.2 (9, 0, 5)) :: rest))) : W p l e (rmv d) s m args below meth c H locs 0 0 Q (F0 m pc ls (.ref (g.2.2 (9, 0, 0)) :: rest)) :=
  x_get (C := RX8) (T := TX8) (N := 31) (ci := 8) X hP inX8 rfl hk rfl 5 (by decide) rfl rfl hl hdg kk
theorem gt_X8_6 (X : XC p m meth c cc nL s args cw own ret shR g) (hP : XP shR g t H) (hk : (9, 0, 0) ∈ shR.2) (hl : Cond.fieldLink own index "FordQuestionsModel" "before" "[I" ∈ gw) (hdg : decode cc pc = .ok (.getfield index, 3)) (kk : W p l e (rmv d) s m args below meth c H locs 0 0 Q (F0 m (pc + 3) ls (.ref (g.2.2 (9, 0, 6)) :: rest))) : W p l e (rmv d) s m args below meth c H locs 0 0 Q (F0 m pc ls (.ref (g.2.2 (9, 0, 0)) :: rest)) :=
  x_get (C := RX8) (T := TX8) (N := 31) (ci := 8) X hP inX8 rfl hk rfl 6 (by decide) rfl rfl hl hdg kk
theorem gt_X8_7 (X : XC p m meth c cc nL s args cw own ret shR g) (hP : XP shR g t H) (hk : (9, 0, 0) ∈ shR.2) (hl : Cond.fieldLink own index "FordQuestionsModel" "undoMany" "I" ∈ gw) (hdg : decode cc pc = .ok (.getfield index, 3)) (kk : W p l e (rmv d) s m args below meth c H locs 0 0 Q (F0 m (pc + 3) ls (.int (t.1 9 0 0 7) :: rest))) : W p l e (rmv d) s m args below meth c H locs 0 0 Q (F0 m pc ls (.ref (g.2.2 (9, 0, 0)) :: rest)) :=
  x_get (C := RX8) (T := TX8) (N := 31) (ci := 8) X hP inX8 rfl hk rfl 7 (by decide) rfl rfl hl hdg kk
theorem gt_X8_8 (X : XC p m meth c cc nL s args cw own ret shR g) (hP : XP shR g t H) (hk : (9, 0, 0) ∈ shR.2) (hl : Cond.fieldLink own index "FordQuestionsModel" "hasImage" "Z" ∈ gw) (hdg : decode cc pc = .ok (.getfield index, 3)) (kk : W p l e (rmv d) s m args below meth c H locs 0 0 Q (F0 m (pc + 3) ls (.int (t.1 9 0 0 8) :: rest))) : W p l e (rmv d) s m args below meth c H locs 0 0 Q (F0 m pc ls (.ref (g.2.2 (9, 0, 0)) :: rest)) :=
  x_get (C := RX8) (T := TX8) (N := 31) (ci := 8) X hP inX8 rfl hk rfl 8 (by decide) rfl rfl hl hdg kk
theorem gt_X8_9 (X : XC p m meth c cc nL s args cw own ret shR g) (hP : XP shR g t H) (hk : (9, 0, 0) ∈ shR.2) (hl : Cond.fieldLink own index "FordQuestionsModel" "imageOf" "[I" ∈ gw) (hdg : decode cc pc = .ok (.getfield index, 3)) (kk : W p l e (rmv d) s m args below meth c H locs 0 0 Q (F0 m (pc + 3) ls (.ref (g.2.2 (9, 0, 9)) :: rest))) : W p l e (rmv d) s m args below meth c H locs 0 0 Q (F0 m pc ls (.ref (g.2.2 (9, 0, 0)) :: rest)) :=
  x_get (C := RX8) (T := TX8) (N := 31) (ci := 8) X hP inX8 rfl hk rfl 9 (by decide) rfl rfl hl hdg kk
theorem ptN_X0_2 {b : Nat} {host : String} {x : Int32} (X : XC p m meth c cc nL s args cw own ret shC g) (hP : XP shC g t H) (hS : va_S (XA shC g) s.heap H locs) (hk : (0, b, 0) ∈ shC.2) (hl : Cond.fieldLinkNest own index "FordQuestions$Ford" "asked" "I" host ∈ nw) (hdg : decode cc pc = .ok (.putfield index, 3)) (kk : ∀ (H1 : Heap) (locs1 : List Loc), XP shC g (sI t 0 b 0 2 x) H1 → va_S (XA shC g) s.heap H1 locs1 → W p l e (rmv d) s m args below meth c H1 locs1 0 0 Q (F0 m (pc + 3) ls rest)) : W p l e (rmv d) s m args below meth c H locs 0 0 Q (F0 m pc ls (.int x :: .ref (g.2.2 (0, b, 0)) :: rest)) :=
  x_putN (C := RX0) (T := TX0) (N := 12) (ci := 0) (ty := .int) X hP hS inX0 tyX0_ok nmX0 rfl hk rfl 2 (by decide) rfl rfl rfl (Nat.le_of_ble_eq_true rfl) rfl rfl hl hdg kk
theorem ptN_X0_4 {b : Nat} {host : String} {x : Int32} (X : XC p m meth c cc nL s args cw own ret shC g) (hP : XP shC g t H) (hS : va_S (XA shC g) s.heap H locs) (hk : (0, b, 0) ∈ shC.2) (hl : Cond.fieldLinkNest own index "FordQuestions$Ford" "draw" "I" host ∈ nw) (hdg : decode cc pc = .ok (.putfield index, 3)) (kk : ∀ (H1 : Heap) (locs1 : List Loc), XP shC g (sI t 0 b 0 4 x) H1 → va_S (XA shC g) s.heap H1 locs1 → W p l e (rmv d) s m args below meth c H1 locs1 0 0 Q (F0 m (pc + 3) ls rest)) : W p l e (rmv d) s m args below meth c H locs 0 0 Q (F0 m pc ls (.int x :: .ref (g.2.2 (0, b, 0)) :: rest)) :=
  x_putN (C := RX0) (T := TX0) (N := 12) (ci := 0) (ty := .int) X hP hS inX0 tyX0_ok nmX0 rfl hk rfl 4 (by decide) rfl rfl rfl (Nat.le_of_ble_eq_true rfl) rfl rfl hl hdg kk
theorem ptN_X5_1 {host : String} {x : Int32} (X : XC p m meth c cc nL s args cw own ret shC g) (hP : XP shC g t H) (hS : va_S (XA shC g) s.heap H locs) (hk : (3, 1, 0) ∈ shC.2) (hl : Cond.fieldLinkNest own index "FordQuestions$Tape" "length" "I" host ∈ nw) (hdg : decode cc pc = .ok (.putfield index, 3)) (kk : ∀ (H1 : Heap) (locs1 : List Loc), XP shC g (sI t 3 1 0 1 x) H1 → va_S (XA shC g) s.heap H1 locs1 → W p l e (rmv d) s m args below meth c H1 locs1 0 0 Q (F0 m (pc + 3) ls rest)) : W p l e (rmv d) s m args below meth c H locs 0 0 Q (F0 m pc ls (.int x :: .ref (g.2.2 (3, 1, 0)) :: rest)) :=
  x_putN (C := RX5) (T := TX5) (N := 2) (ci := 5) (ty := .int) X hP hS inX5 tyX5_ok nmX5 rfl hk rfl 1 (by decide) rfl rfl rfl (Nat.le_of_ble_eq_true rfl) rfl rfl hl hdg kk
theorem pt_X0_0 {b : Nat} {x : Int32} (X : XC p m meth c cc nL s args cw own ret shC g) (hP : XP shC g t H) (hS : va_S (XA shC g) s.heap H locs) (hk : (0, b, 0) ∈ shC.2) (hl : Cond.fieldLink own index "FordQuestions$Ford" "questions" "I" ∈ gw) (hdg : decode cc pc = .ok (.putfield index, 3)) (kk : ∀ (H1 : Heap) (locs1 : List Loc), XP shC g (sI t 0 b 0 0 x) H1 → va_S (XA shC g) s.heap H1 locs1 → W p l e (rmv d) s m args below meth c H1 locs1 0 0 Q (F0 m (pc + 3) ls rest)) : W p l e (rmv d) s m args below meth c H locs 0 0 Q (F0 m pc ls (.int x :: .ref (g.2.2 (0, b, 0)) :: rest)) :=
  x_put (C := RX0) (T := TX0) (N := 12) (ci := 0) (ty := .int) X hP hS inX0 tyX0_ok nmX0 rfl hk rfl 0 (by decide) rfl rfl rfl (Nat.le_of_ble_eq_true rfl) rfl rfl hl hdg kk
theorem pt_X0_1 {b : Nat} {x : Int32} (X : XC p m meth c cc nL s args cw own ret shC g) (hP : XP shC g t H) (hS : va_S (XA shC g) s.heap H locs) (hk : (0, b, 0) ∈ shC.2) (hl : Cond.fieldLink own index "FordQuestions$Ford" "crossers" "I" ∈ gw) (hdg : decode cc pc = .ok (.putfield index, 3)) (kk : ∀ (H1 : Heap) (locs1 : List Loc), XP shC g (sI t 0 b 0 1 x) H1 → va_S (XA shC g) s.heap H1 locs1 → W p l e (rmv d) s m args below meth c H1 locs1 0 0 Q (F0 m (pc + 3) ls rest)) : W p l e (rmv d) s m args below meth c H locs 0 0 Q (F0 m pc ls (.int x :: .ref (g.2.2 (0, b, 0)) :: rest)) :=
  x_put (C := RX0) (T := TX0) (N := 12) (ci := 0) (ty := .int) X hP hS inX0 tyX0_ok nmX0 rfl hk rfl 1 (by decide) rfl rfl rfl (Nat.le_of_ble_eq_true rfl) rfl rfl hl hdg kk
theorem pt_X0_2 {b : Nat} {x : Int32} (X : XC p m meth c cc nL s args cw own ret shC g) (hP : XP shC g t H) (hS : va_S (XA shC g) s.heap H locs) (hk : (0, b, 0) ∈ shC.2) (hl : Cond.fieldLink own index "FordQuestions$Ford" "asked" "I" ∈ gw) (hdg : decode cc pc = .ok (.putfield index, 3)) (kk : ∀ (H1 : Heap) (locs1 : List Loc), XP shC g (sI t 0 b 0 2 x) H1 → va_S (XA shC g) s.heap H1 locs1 → W p l e (rmv d) s m args below meth c H1 locs1 0 0 Q (F0 m (pc + 3) ls rest)) : W p l e (rmv d) s m args below meth c H locs 0 0 Q (F0 m pc ls (.int x :: .ref (g.2.2 (0, b, 0)) :: rest)) :=
  x_put (C := RX0) (T := TX0) (N := 12) (ci := 0) (ty := .int) X hP hS inX0 tyX0_ok nmX0 rfl hk rfl 2 (by decide) rfl rfl rfl (Nat.le_of_ble_eq_true rfl) rfl rfl hl hdg kk
theorem pt_X0_3 {b : Nat} {x : Int32} (X : XC p m meth c cc nL s args cw own ret shC g) (hP : XP shC g t H) (hS : va_S (XA shC g) s.heap H locs) (hk : (0, b, 0) ∈ shC.2) (hl : Cond.fieldLink own index "FordQuestions$Ford" "hour" "I" ∈ gw) (hdg : decode cc pc = .ok (.putfield index, 3)) (kk : ∀ (H1 : Heap) (locs1 : List Loc), XP shC g (sI t 0 b 0 3 x) H1 → va_S (XA shC g) s.heap H1 locs1 → W p l e (rmv d) s m args below meth c H1 locs1 0 0 Q (F0 m (pc + 3) ls rest)) : W p l e (rmv d) s m args below meth c H locs 0 0 Q (F0 m pc ls (.int x :: .ref (g.2.2 (0, b, 0)) :: rest)) :=
  x_put (C := RX0) (T := TX0) (N := 12) (ci := 0) (ty := .int) X hP hS inX0 tyX0_ok nmX0 rfl hk rfl 3 (by decide) rfl rfl rfl (Nat.le_of_ble_eq_true rfl) rfl rfl hl hdg kk
theorem pt_X0_4 {b : Nat} {x : Int32} (X : XC p m meth c cc nL s args cw own ret shC g) (hP : XP shC g t H) (hS : va_S (XA shC g) s.heap H locs) (hk : (0, b, 0) ∈ shC.2) (hl : Cond.fieldLink own index "FordQuestions$Ford" "draw" "I" ∈ gw) (hdg : decode cc pc = .ok (.putfield index, 3)) (kk : ∀ (H1 : Heap) (locs1 : List Loc), XP shC g (sI t 0 b 0 4 x) H1 → va_S (XA shC g) s.heap H1 locs1 → W p l e (rmv d) s m args below meth c H1 locs1 0 0 Q (F0 m (pc + 3) ls rest)) : W p l e (rmv d) s m args below meth c H locs 0 0 Q (F0 m pc ls (.int x :: .ref (g.2.2 (0, b, 0)) :: rest)) :=
  x_put (C := RX0) (T := TX0) (N := 12) (ci := 0) (ty := .int) X hP hS inX0 tyX0_ok nmX0 rfl hk rfl 4 (by decide) rfl rfl rfl (Nat.le_of_ble_eq_true rfl) rfl rfl hl hdg kk
theorem pt_X1_1 {x : Int32} (X : XC p m meth c cc nL s args cw own ret shC g) (hP : XP shC g t H) (hS : va_S (XA shC g) s.heap H locs) (hk : (3, 4, 0) ∈ shC.2) (hl : Cond.fieldLink own index "FordQuestions$Outlook" "found" "I" ∈ gw) (hdg : decode cc pc = .ok (.putfield index, 3)) (kk : ∀ (H1 : Heap) (locs1 : List Loc), XP shC g (sI t 3 4 0 1 x) H1 → va_S (XA shC g) s.heap H1 locs1 → W p l e (rmv d) s m args below meth c H1 locs1 0 0 Q (F0 m (pc + 3) ls rest)) : W p l e (rmv d) s m args below meth c H locs 0 0 Q (F0 m pc ls (.int x :: .ref (g.2.2 (3, 4, 0)) :: rest)) :=
  x_put (C := RX1) (T := TX1) (N := 4) (ci := 1) (ty := .int) X hP hS inX1 tyX1_ok nmX1 rfl hk rfl 1 (by decide) rfl rfl rfl (Nat.le_of_ble_eq_true rfl) rfl rfl hl hdg kk
theorem pt_X1_2 {x : Int32} (X : XC p m meth c cc nL s args cw own ret shC g) (hP : XP shC g t H) (hS : va_S (XA shC g) s.heap H locs) (hk : (3, 4, 0) ∈ shC.2) (hl : Cond.fieldLink own index "FordQuestions$Outlook" "foundHours" "I" ∈ gw) (hdg : decode cc pc = .ok (.putfield index, 3)) (kk : ∀ (H1 : Heap) (locs1 : List Loc), XP shC g (sI t 3 4 0 2 x) H1 → va_S (XA shC g) s.heap H1 locs1 → W p l e (rmv d) s m args below meth c H1 locs1 0 0 Q (F0 m (pc + 3) ls rest)) : W p l e (rmv d) s m args below meth c H locs 0 0 Q (F0 m pc ls (.int x :: .ref (g.2.2 (3, 4, 0)) :: rest)) :=
  x_put (C := RX1) (T := TX1) (N := 4) (ci := 1) (ty := .int) X hP hS inX1 tyX1_ok nmX1 rfl hk rfl 2 (by decide) rfl rfl rfl (Nat.le_of_ble_eq_true rfl) rfl rfl hl hdg kk
theorem pt_X1_3 {x : Int32} (X : XC p m meth c cc nL s args cw own ret shC g) (hP : XP shC g t H) (hS : va_S (XA shC g) s.heap H locs) (hk : (3, 4, 0) ∈ shC.2) (hl : Cond.fieldLink own index "FordQuestions$Outlook" "foundSets" "I" ∈ gw) (hdg : decode cc pc = .ok (.putfield index, 3)) (kk : ∀ (H1 : Heap) (locs1 : List Loc), XP shC g (sI t 3 4 0 3 x) H1 → va_S (XA shC g) s.heap H1 locs1 → W p l e (rmv d) s m args below meth c H1 locs1 0 0 Q (F0 m (pc + 3) ls rest)) : W p l e (rmv d) s m args below meth c H locs 0 0 Q (F0 m pc ls (.int x :: .ref (g.2.2 (3, 4, 0)) :: rest)) :=
  x_put (C := RX1) (T := TX1) (N := 4) (ci := 1) (ty := .int) X hP hS inX1 tyX1_ok nmX1 rfl hk rfl 3 (by decide) rfl rfl rfl (Nat.le_of_ble_eq_true rfl) rfl rfl hl hdg kk
theorem pt_X2_2 {x : Int32} (X : XC p m meth c cc nL s args cw own ret shC g) (hP : XP shC g t H) (hS : va_S (XA shC g) s.heap H locs) (hk : (3, 3, 0) ∈ shC.2) (hl : Cond.fieldLink own index "FordQuestions$Reader" "place" "I" ∈ gw) (hdg : decode cc pc = .ok (.putfield index, 3)) (kk : ∀ (H1 : Heap) (locs1 : List Loc), XP shC g (sI t 3 3 0 2 x) H1 → va_S (XA shC g) s.heap H1 locs1 → W p l e (rmv d) s m args below meth c H1 locs1 0 0 Q (F0 m (pc + 3) ls rest)) : W p l e (rmv d) s m args below meth c H locs 0 0 Q (F0 m pc ls (.int x :: .ref (g.2.2 (3, 3, 0)) :: rest)) :=
  x_put (C := RX2) (T := TX2) (N := 3) (ci := 2) (ty := .int) X hP hS inX2 tyX2_ok nmX2 rfl hk rfl 2 (by decide) rfl rfl rfl (Nat.le_of_ble_eq_true rfl) rfl rfl hl hdg kk
theorem pt_X3_0 {b : Nat} {x : Int32} (X : XC p m meth c cc nL s args cw own ret shC g) (hP : XP shC g t H) (hS : va_S (XA shC g) s.heap H locs) (hk : (2, b, 0) ∈ shC.2) (hl : Cond.fieldLink own index "FordQuestions$Sheet" "lane" "I" ∈ gw) (hdg : decode cc pc = .ok (.putfield index, 3)) (kk : ∀ (H1 : Heap) (locs1 : List Loc), XP shC g (sI t 2 b 0 0 x) H1 → va_S (XA shC g) s.heap H1 locs1 → W p l e (rmv d) s m args below meth c H1 locs1 0 0 Q (F0 m (pc + 3) ls rest)) : W p l e (rmv d) s m args below meth c H locs 0 0 Q (F0 m pc ls (.int x :: .ref (g.2.2 (2, b, 0)) :: rest)) :=
  x_put (C := RX3) (T := TX3) (N := 3) (ci := 3) (ty := .int) X hP hS inX3 tyX3_ok nmX3 rfl hk rfl 0 (by decide) rfl rfl rfl (Nat.le_of_ble_eq_true rfl) rfl rfl hl hdg kk
theorem pt_X3_1 {b : Nat} {x : Int32} (X : XC p m meth c cc nL s args cw own ret shC g) (hP : XP shC g t H) (hS : va_S (XA shC g) s.heap H locs) (hk : (2, b, 0) ∈ shC.2) (hl : Cond.fieldLink own index "FordQuestions$Sheet" "size" "I" ∈ gw) (hdg : decode cc pc = .ok (.putfield index, 3)) (kk : ∀ (H1 : Heap) (locs1 : List Loc), XP shC g (sI t 2 b 0 1 x) H1 → va_S (XA shC g) s.heap H1 locs1 → W p l e (rmv d) s m args below meth c H1 locs1 0 0 Q (F0 m (pc + 3) ls rest)) : W p l e (rmv d) s m args below meth c H locs 0 0 Q (F0 m pc ls (.int x :: .ref (g.2.2 (2, b, 0)) :: rest)) :=
  x_put (C := RX3) (T := TX3) (N := 3) (ci := 3) (ty := .int) X hP hS inX3 tyX3_ok nmX3 rfl hk rfl 1 (by decide) rfl rfl rfl (Nat.le_of_ble_eq_true rfl) rfl rfl hl hdg kk
theorem pt_X4_2 {b : Nat} {x : Int32} (X : XC p m meth c cc nL s args cw own ret shC g) (hP : XP shC g t H) (hS : va_S (XA shC g) s.heap H locs) (hk : (1, b, 0) ∈ shC.2) (hl : Cond.fieldLink own index "FordQuestions$Story" "next" "I" ∈ gw) (hdg : decode cc pc = .ok (.putfield index, 3)) (kk : ∀ (H1 : Heap) (locs1 : List Loc), XP shC g (sI t 1 b 0 2 x) H1 → va_S (XA shC g) s.heap H1 locs1 → W p l e (rmv d) s m args below meth c H1 locs1 0 0 Q (F0 m (pc + 3) ls rest)) : W p l e (rmv d) s m args below meth c H locs 0 0 Q (F0 m pc ls (.int x :: .ref (g.2.2 (1, b, 0)) :: rest)) :=
  x_put (C := RX4) (T := TX4) (N := 4) (ci := 4) (ty := .int) X hP hS inX4 tyX4_ok nmX4 rfl hk rfl 2 (by decide) rfl rfl rfl (Nat.le_of_ble_eq_true rfl) rfl rfl hl hdg kk
theorem pt_X4_3 {b : Nat} {x : Int32} (X : XC p m meth c cc nL s args cw own ret shC g) (hP : XP shC g t H) (hS : va_S (XA shC g) s.heap H locs) (hk : (1, b, 0) ∈ shC.2) (hl : Cond.fieldLink own index "FordQuestions$Story" "known" "I" ∈ gw) (hdg : decode cc pc = .ok (.putfield index, 3)) (kk : ∀ (H1 : Heap) (locs1 : List Loc), XP shC g (sI t 1 b 0 3 x) H1 → va_S (XA shC g) s.heap H1 locs1 → W p l e (rmv d) s m args below meth c H1 locs1 0 0 Q (F0 m (pc + 3) ls rest)) : W p l e (rmv d) s m args below meth c H locs 0 0 Q (F0 m pc ls (.int x :: .ref (g.2.2 (1, b, 0)) :: rest)) :=
  x_put (C := RX4) (T := TX4) (N := 4) (ci := 4) (ty := .int) X hP hS inX4 tyX4_ok nmX4 rfl hk rfl 3 (by decide) rfl rfl rfl (Nat.le_of_ble_eq_true rfl) rfl rfl hl hdg kk
theorem pt_X5_1 {x : Int32} (X : XC p m meth c cc nL s args cw own ret shC g) (hP : XP shC g t H) (hS : va_S (XA shC g) s.heap H locs) (hk : (3, 1, 0) ∈ shC.2) (hl : Cond.fieldLink own index "FordQuestions$Tape" "length" "I" ∈ gw) (hdg : decode cc pc = .ok (.putfield index, 3)) (kk : ∀ (H1 : Heap) (locs1 : List Loc), XP shC g (sI t 3 1 0 1 x) H1 → va_S (XA shC g) s.heap H1 locs1 → W p l e (rmv d) s m args below meth c H1 locs1 0 0 Q (F0 m (pc + 3) ls rest)) : W p l e (rmv d) s m args below meth c H locs 0 0 Q (F0 m pc ls (.int x :: .ref (g.2.2 (3, 1, 0)) :: rest)) :=
  x_put (C := RX5) (T := TX5) (N := 2) (ci := 5) (ty := .int) X hP hS inX5 tyX5_ok nmX5 rfl hk rfl 1 (by decide) rfl rfl rfl (Nat.le_of_ble_eq_true rfl) rfl rfl hl hdg kk
theorem pt_X6_2 {x : Int32} (X : XC p m meth c cc nL s args cw own ret shC g) (hP : XP shC g t H) (hS : va_S (XA shC g) s.heap H locs) (hk : (3, 5, 0) ∈ shC.2) (hl : Cond.fieldLink own index "FordQuestions$Tellings" "comers" "I" ∈ gw) (hdg : decode cc pc = .ok (.putfield index, 3)) (kk : ∀ (H1 : Heap) (locs1 : List Loc), XP shC g (sI t 3 5 0 2 x) H1 → va_S (XA shC g) s.heap H1 locs1 → W p l e (rmv d) s m args below meth c H1 locs1 0 0 Q (F0 m (pc + 3) ls rest)) : W p l e (rmv d) s m args below meth c H locs 0 0 Q (F0 m pc ls (.int x :: .ref (g.2.2 (3, 5, 0)) :: rest)) :=
  x_put (C := RX6) (T := TX6) (N := 7) (ci := 6) (ty := .int) X hP hS inX6 tyX6_ok nmX6 rfl hk rfl 2 (by decide) rfl rfl rfl (Nat.le_of_ble_eq_true rfl) rfl rfl hl hdg kk
theorem pt_X6_3 {x : Int32} (X : XC p m meth c cc nL s args cw own ret shC g) (hP : XP shC g t H) (hS : va_S (XA shC g) s.heap H locs) (hk : (3, 5, 0) ∈ shC.2) (hl : Cond.fieldLink own index "FordQuestions$Tellings" "asked" "I" ∈ gw) (hdg : decode cc pc = .ok (.putfield index, 3)) (kk : ∀ (H1 : Heap) (locs1 : List Loc), XP shC g (sI t 3 5 0 3 x) H1 → va_S (XA shC g) s.heap H1 locs1 → W p l e (rmv d) s m args below meth c H1 locs1 0 0 Q (F0 m (pc + 3) ls rest)) : W p l e (rmv d) s m args below meth c H locs 0 0 Q (F0 m pc ls (.int x :: .ref (g.2.2 (3, 5, 0)) :: rest)) :=
  x_put (C := RX6) (T := TX6) (N := 7) (ci := 6) (ty := .int) X hP hS inX6 tyX6_ok nmX6 rfl hk rfl 3 (by decide) rfl rfl rfl (Nat.le_of_ble_eq_true rfl) rfl rfl hl hdg kk
theorem pt_X6_5 {x : Int32} (X : XC p m meth c cc nL s args cw own ret shC g) (hP : XP shC g t H) (hS : va_S (XA shC g) s.heap H locs) (hk : (3, 5, 0) ∈ shC.2) (hl : Cond.fieldLink own index "FordQuestions$Tellings" "bestLast" "I" ∈ gw) (hdg : decode cc pc = .ok (.putfield index, 3)) (kk : ∀ (H1 : Heap) (locs1 : List Loc), XP shC g (sI t 3 5 0 5 x) H1 → va_S (XA shC g) s.heap H1 locs1 → W p l e (rmv d) s m args below meth c H1 locs1 0 0 Q (F0 m (pc + 3) ls rest)) : W p l e (rmv d) s m args below meth c H locs 0 0 Q (F0 m pc ls (.int x :: .ref (g.2.2 (3, 5, 0)) :: rest)) :=
  x_put (C := RX6) (T := TX6) (N := 7) (ci := 6) (ty := .int) X hP hS inX6 tyX6_ok nmX6 rfl hk rfl 5 (by decide) rfl rfl rfl (Nat.le_of_ble_eq_true rfl) rfl rfl hl hdg kk
theorem pt_X6_6 {x : Int32} (X : XC p m meth c cc nL s args cw own ret shC g) (hP : XP shC g t H) (hS : va_S (XA shC g) s.heap H locs) (hk : (3, 5, 0) ∈ shC.2) (hl : Cond.fieldLink own index "FordQuestions$Tellings" "bestTelling" "I" ∈ gw) (hdg : decode cc pc = .ok (.putfield index, 3)) (kk : ∀ (H1 : Heap) (locs1 : List Loc), XP shC g (sI t 3 5 0 6 x) H1 → va_S (XA shC g) s.heap H1 locs1 → W p l e (rmv d) s m args below meth c H1 locs1 0 0 Q (F0 m (pc + 3) ls rest)) : W p l e (rmv d) s m args below meth c H locs 0 0 Q (F0 m pc ls (.int x :: .ref (g.2.2 (3, 5, 0)) :: rest)) :=
  x_put (C := RX6) (T := TX6) (N := 7) (ci := 6) (ty := .int) X hP hS inX6 tyX6_ok nmX6 rfl hk rfl 6 (by decide) rfl rfl rfl (Nat.le_of_ble_eq_true rfl) rfl rfl hl hdg kk
theorem pt_X7_2 {x : Int32} (X : XC p m meth c cc nL s args cw own ret shC g) (hP : XP shC g t H) (hS : va_S (XA shC g) s.heap H locs) (hk : (3, 0, 0) ∈ shC.2) (hn : narrow .boolean (.int x) = .int x) (hf : fits .boolean (.int x) = true) (hl : Cond.fieldLink own index "FordQuestions" "hasImage" "Z" ∈ gw) (hdg : decode cc pc = .ok (.putfield index, 3)) (kk : ∀ (H1 : Heap) (locs1 : List Loc), XP shC g (sI t 3 0 0 2 x) H1 → va_S (XA shC g) s.heap H1 locs1 → W p l e (rmv d) s m args below meth c H1 locs1 0 0 Q (F0 m (pc + 3) ls rest)) : W p l e (rmv d) s m args below meth c H locs 0 0 Q (F0 m pc ls (.int x :: .ref (g.2.2 (3, 0, 0)) :: rest)) :=
  x_put (C := RX7) (T := TX7) (N := 8) (ci := 7) (ty := .boolean) X hP hS inX7 tyX7_ok nmX7 rfl hk rfl 2 (by decide) rfl rfl rfl (Nat.le_of_ble_eq_true rfl) hn hf hl hdg kk
theorem pt_X8_0 {x : Int32} (X : XC p m meth c cc nL s args cw own ret shR g) (hP : XP shR g t H) (hS : va_S (XA shR g) s.heap H locs) (hk : (9, 0, 0) ∈ shR.2) (hl : Cond.fieldLink own index "FordQuestionsModel" "questions" "I" ∈ gw) (hdg : decode cc pc = .ok (.putfield index, 3)) (kk : ∀ (H1 : Heap) (locs1 : List Loc), XP shR g (sI t 9 0 0 0 x) H1 → va_S (XA shR g) s.heap H1 locs1 → W p l e (rmv d) s m args below meth c H1 locs1 0 0 Q (F0 m (pc + 3) ls rest)) : W p l e (rmv d) s m args below meth c H locs 0 0 Q (F0 m pc ls (.int x :: .ref (g.2.2 (9, 0, 0)) :: rest)) :=
  x_put (C := RX8) (T := TX8) (N := 31) (ci := 8) (ty := .int) X hP hS inX8 tyX8_ok nmX8 rfl hk rfl 0 (by decide) rfl rfl rfl (Nat.le_of_ble_eq_true rfl) rfl rfl hl hdg kk
theorem pt_X8_1 {x : Int32} (X : XC p m meth c cc nL s args cw own ret shR g) (hP : XP shR g t H) (hS : va_S (XA shR g) s.heap H locs) (hk : (9, 0, 0) ∈ shR.2) (hl : Cond.fieldLink own index "FordQuestionsModel" "crossers" "I" ∈ gw) (hdg : decode cc pc = .ok (.putfield index, 3)) (kk : ∀ (H1 : Heap) (locs1 : List Loc), XP shR g (sI t 9 0 0 1 x) H1 → va_S (XA shR g) s.heap H1 locs1 → W p l e (rmv d) s m args below meth c H1 locs1 0 0 Q (F0 m (pc + 3) ls rest)) : W p l e (rmv d) s m args below meth c H locs 0 0 Q (F0 m pc ls (.int x :: .ref (g.2.2 (9, 0, 0)) :: rest)) :=
  x_put (C := RX8) (T := TX8) (N := 31) (ci := 8) (ty := .int) X hP hS inX8 tyX8_ok nmX8 rfl hk rfl 1 (by decide) rfl rfl rfl (Nat.le_of_ble_eq_true rfl) rfl rfl hl hdg kk
theorem pt_X8_15 {x : Int32} (X : XC p m meth c cc nL s args cw own ret shR g) (hP : XP shR g t H) (hS : va_S (XA shR g) s.heap H locs) (hk : (9, 0, 0) ∈ shR.2) (hl : Cond.fieldLink own index "FordQuestionsModel" "length" "I" ∈ gw) (hdg : decode cc pc = .ok (.putfield index, 3)) (kk : ∀ (H1 : Heap) (locs1 : List Loc), XP shR g (sI t 9 0 0 15 x) H1 → va_S (XA shR g) s.heap H1 locs1 → W p l e (rmv d) s m args below meth c H1 locs1 0 0 Q (F0 m (pc + 3) ls rest)) : W p l e (rmv d) s m args below meth c H locs 0 0 Q (F0 m pc ls (.int x :: .ref (g.2.2 (9, 0, 0)) :: rest)) :=
  x_put (C := RX8) (T := TX8) (N := 31) (ci := 8) (ty := .int) X hP hS inX8 tyX8_ok nmX8 rfl hk rfl 15 (by decide) rfl rfl rfl (Nat.le_of_ble_eq_true rfl) rfl rfl hl hdg kk
theorem pt_X8_17 {x : Int32} (X : XC p m meth c cc nL s args cw own ret shR g) (hP : XP shR g t H) (hS : va_S (XA shR g) s.heap H locs) (hk : (9, 0, 0) ∈ shR.2) (hl : Cond.fieldLink own index "FordQuestionsModel" "otherOne" "I" ∈ gw) (hdg : decode cc pc = .ok (.putfield index, 3)) (kk : ∀ (H1 : Heap) (locs1 : List Loc), XP shR g (sI t 9 0 0 17 x) H1 → va_S (XA shR g) s.heap H1 locs1 → W p l e (rmv d) s m args below meth c H1 locs1 0 0 Q (F0 m (pc + 3) ls rest)) : W p l e (rmv d) s m args below meth c H locs 0 0 Q (F0 m pc ls (.int x :: .ref (g.2.2 (9, 0, 0)) :: rest)) :=
  x_put (C := RX8) (T := TX8) (N := 31) (ci := 8) (ty := .int) X hP hS inX8 tyX8_ok nmX8 rfl hk rfl 17 (by decide) rfl rfl rfl (Nat.le_of_ble_eq_true rfl) rfl rfl hl hdg kk
theorem pt_X8_18 {x : Int32} (X : XC p m meth c cc nL s args cw own ret shR g) (hP : XP shR g t H) (hS : va_S (XA shR g) s.heap H locs) (hk : (9, 0, 0) ∈ shR.2) (hl : Cond.fieldLink own index "FordQuestionsModel" "otherKind" "I" ∈ gw) (hdg : decode cc pc = .ok (.putfield index, 3)) (kk : ∀ (H1 : Heap) (locs1 : List Loc), XP shR g (sI t 9 0 0 18 x) H1 → va_S (XA shR g) s.heap H1 locs1 → W p l e (rmv d) s m args below meth c H1 locs1 0 0 Q (F0 m (pc + 3) ls rest)) : W p l e (rmv d) s m args below meth c H locs 0 0 Q (F0 m pc ls (.int x :: .ref (g.2.2 (9, 0, 0)) :: rest)) :=
  x_put (C := RX8) (T := TX8) (N := 31) (ci := 8) (ty := .int) X hP hS inX8 tyX8_ok nmX8 rfl hk rfl 18 (by decide) rfl rfl rfl (Nat.le_of_ble_eq_true rfl) rfl rfl hl hdg kk
theorem pt_X8_19 {x : Int32} (X : XC p m meth c cc nL s args cw own ret shR g) (hP : XP shR g t H) (hS : va_S (XA shR g) s.heap H locs) (hk : (9, 0, 0) ∈ shR.2) (hn : narrow .boolean (.int x) = .int x) (hf : fits .boolean (.int x) = true) (hl : Cond.fieldLink own index "FordQuestionsModel" "isTold" "Z" ∈ gw) (hdg : decode cc pc = .ok (.putfield index, 3)) (kk : ∀ (H1 : Heap) (locs1 : List Loc), XP shR g (sI t 9 0 0 19 x) H1 → va_S (XA shR g) s.heap H1 locs1 → W p l e (rmv d) s m args below meth c H1 locs1 0 0 Q (F0 m (pc + 3) ls rest)) : W p l e (rmv d) s m args below meth c H locs 0 0 Q (F0 m pc ls (.int x :: .ref (g.2.2 (9, 0, 0)) :: rest)) :=
  x_put (C := RX8) (T := TX8) (N := 31) (ci := 8) (ty := .boolean) X hP hS inX8 tyX8_ok nmX8 rfl hk rfl 19 (by decide) rfl rfl rfl (Nat.le_of_ble_eq_true rfl) hn hf hl hdg kk
theorem pt_X8_21 {x : Int32} (X : XC p m meth c cc nL s args cw own ret shR g) (hP : XP shR g t H) (hS : va_S (XA shR g) s.heap H locs) (hk : (9, 0, 0) ∈ shR.2) (hl : Cond.fieldLink own index "FordQuestionsModel" "spot" "I" ∈ gw) (hdg : decode cc pc = .ok (.putfield index, 3)) (kk : ∀ (H1 : Heap) (locs1 : List Loc), XP shR g (sI t 9 0 0 21 x) H1 → va_S (XA shR g) s.heap H1 locs1 → W p l e (rmv d) s m args below meth c H1 locs1 0 0 Q (F0 m (pc + 3) ls rest)) : W p l e (rmv d) s m args below meth c H locs 0 0 Q (F0 m pc ls (.int x :: .ref (g.2.2 (9, 0, 0)) :: rest)) :=
  x_put (C := RX8) (T := TX8) (N := 31) (ci := 8) (ty := .int) X hP hS inX8 tyX8_ok nmX8 rfl hk rfl 21 (by decide) rfl rfl rfl (Nat.le_of_ble_eq_true rfl) rfl rfl hl hdg kk
theorem pt_X8_22 {x : Int32} (X : XC p m meth c cc nL s args cw own ret shR g) (hP : XP shR g t H) (hS : va_S (XA shR g) s.heap H locs) (hk : (9, 0, 0) ∈ shR.2) (hl : Cond.fieldLink own index "FordQuestionsModel" "begins" "I" ∈ gw) (hdg : decode cc pc = .ok (.putfield index, 3)) (kk : ∀ (H1 : Heap) (locs1 : List Loc), XP shR g (sI t 9 0 0 22 x) H1 → va_S (XA shR g) s.heap H1 locs1 → W p l e (rmv d) s m args below meth c H1 locs1 0 0 Q (F0 m (pc + 3) ls rest)) : W p l e (rmv d) s m args below meth c H locs 0 0 Q (F0 m pc ls (.int x :: .ref (g.2.2 (9, 0, 0)) :: rest)) :=
  x_put (C := RX8) (T := TX8) (N := 31) (ci := 8) (ty := .int) X hP hS inX8 tyX8_ok nmX8 rfl hk rfl 22 (by decide) rfl rfl rfl (Nat.le_of_ble_eq_true rfl) rfl rfl hl hdg kk
theorem pt_X8_23 {x : Int32} (X : XC p m meth c cc nL s args cw own ret shR g) (hP : XP shR g t H) (hS : va_S (XA shR g) s.heap H locs) (hk : (9, 0, 0) ∈ shR.2) (hl : Cond.fieldLink own index "FordQuestionsModel" "readQuestions" "I" ∈ gw) (hdg : decode cc pc = .ok (.putfield index, 3)) (kk : ∀ (H1 : Heap) (locs1 : List Loc), XP shR g (sI t 9 0 0 23 x) H1 → va_S (XA shR g) s.heap H1 locs1 → W p l e (rmv d) s m args below meth c H1 locs1 0 0 Q (F0 m (pc + 3) ls rest)) : W p l e (rmv d) s m args below meth c H locs 0 0 Q (F0 m pc ls (.int x :: .ref (g.2.2 (9, 0, 0)) :: rest)) :=
  x_put (C := RX8) (T := TX8) (N := 31) (ci := 8) (ty := .int) X hP hS inX8 tyX8_ok nmX8 rfl hk rfl 23 (by decide) rfl rfl rfl (Nat.le_of_ble_eq_true rfl) rfl rfl hl hdg kk
theorem pt_X8_24 {x : Int32} (X : XC p m meth c cc nL s args cw own ret shR g) (hP : XP shR g t H) (hS : va_S (XA shR g) s.heap H locs) (hk : (9, 0, 0) ∈ shR.2) (hl : Cond.fieldLink own index "FordQuestionsModel" "readCrossers" "I" ∈ gw) (hdg : decode cc pc = .ok (.putfield index, 3)) (kk : ∀ (H1 : Heap) (locs1 : List Loc), XP shR g (sI t 9 0 0 24 x) H1 → va_S (XA shR g) s.heap H1 locs1 → W p l e (rmv d) s m args below meth c H1 locs1 0 0 Q (F0 m (pc + 3) ls rest)) : W p l e (rmv d) s m args below meth c H locs 0 0 Q (F0 m pc ls (.int x :: .ref (g.2.2 (9, 0, 0)) :: rest)) :=
  x_put (C := RX8) (T := TX8) (N := 31) (ci := 8) (ty := .int) X hP hS inX8 tyX8_ok nmX8 rfl hk rfl 24 (by decide) rfl rfl rfl (Nat.le_of_ble_eq_true rfl) rfl rfl hl hdg kk
theorem pt_X8_28 {x : Int32} (X : XC p m meth c cc nL s args cw own ret shR g) (hP : XP shR g t H) (hS : va_S (XA shR g) s.heap H locs) (hk : (9, 0, 0) ∈ shR.2) (hl : Cond.fieldLink own index "FordQuestionsModel" "letter" "I" ∈ gw) (hdg : decode cc pc = .ok (.putfield index, 3)) (kk : ∀ (H1 : Heap) (locs1 : List Loc), XP shR g (sI t 9 0 0 28 x) H1 → va_S (XA shR g) s.heap H1 locs1 → W p l e (rmv d) s m args below meth c H1 locs1 0 0 Q (F0 m (pc + 3) ls rest)) : W p l e (rmv d) s m args below meth c H locs 0 0 Q (F0 m pc ls (.int x :: .ref (g.2.2 (9, 0, 0)) :: rest)) :=
  x_put (C := RX8) (T := TX8) (N := 31) (ci := 8) (ty := .int) X hP hS inX8 tyX8_ok nmX8 rfl hk rfl 28 (by decide) rfl rfl rfl (Nat.le_of_ble_eq_true rfl) rfl rfl hl hdg kk
theorem pt_X8_29 {x : Int32} (X : XC p m meth c cc nL s args cw own ret shR g) (hP : XP shR g t H) (hS : va_S (XA shR g) s.heap H locs) (hk : (9, 0, 0) ∈ shR.2) (hl : Cond.fieldLink own index "FordQuestionsModel" "askedOnes" "I" ∈ gw) (hdg : decode cc pc = .ok (.putfield index, 3)) (kk : ∀ (H1 : Heap) (locs1 : List Loc), XP shR g (sI t 9 0 0 29 x) H1 → va_S (XA shR g) s.heap H1 locs1 → W p l e (rmv d) s m args below meth c H1 locs1 0 0 Q (F0 m (pc + 3) ls rest)) : W p l e (rmv d) s m args below meth c H locs 0 0 Q (F0 m pc ls (.int x :: .ref (g.2.2 (9, 0, 0)) :: rest)) :=
  x_put (C := RX8) (T := TX8) (N := 31) (ci := 8) (ty := .int) X hP hS inX8 tyX8_ok nmX8 rfl hk rfl 29 (by decide) rfl rfl rfl (Nat.le_of_ble_eq_true rfl) rfl rfl hl hdg kk
theorem pt_X8_7 {x : Int32} (X : XC p m meth c cc nL s args cw own ret shR g) (hP : XP shR g t H) (hS : va_S (XA shR g) s.heap H locs) (hk : (9, 0, 0) ∈ shR.2) (hl : Cond.fieldLink own index "FordQuestionsModel" "undoMany" "I" ∈ gw) (hdg : decode cc pc = .ok (.putfield index, 3)) (kk : ∀ (H1 : Heap) (locs1 : List Loc), XP shR g (sI t 9 0 0 7 x) H1 → va_S (XA shR g) s.heap H1 locs1 → W p l e (rmv d) s m args below meth c H1 locs1 0 0 Q (F0 m (pc + 3) ls rest)) : W p l e (rmv d) s m args below meth c H locs 0 0 Q (F0 m pc ls (.int x :: .ref (g.2.2 (9, 0, 0)) :: rest)) :=
  x_put (C := RX8) (T := TX8) (N := 31) (ci := 8) (ty := .int) X hP hS inX8 tyX8_ok nmX8 rfl hk rfl 7 (by decide) rfl rfl rfl (Nat.le_of_ble_eq_true rfl) rfl rfl hl hdg kk
theorem pt_X8_8 {x : Int32} (X : XC p m meth c cc nL s args cw own ret shR g) (hP : XP shR g t H) (hS : va_S (XA shR g) s.heap H locs) (hk : (9, 0, 0) ∈ shR.2) (hn : narrow .boolean (.int x) = .int x) (hf : fits .boolean (.int x) = true) (hl : Cond.fieldLink own index "FordQuestionsModel" "hasImage" "Z" ∈ gw) (hdg : decode cc pc = .ok (.putfield index, 3)) (kk : ∀ (H1 : Heap) (locs1 : List Loc), XP shR g (sI t 9 0 0 8 x) H1 → va_S (XA shR g) s.heap H1 locs1 → W p l e (rmv d) s m args below meth c H1 locs1 0 0 Q (F0 m (pc + 3) ls rest)) : W p l e (rmv d) s m args below meth c H locs 0 0 Q (F0 m pc ls (.int x :: .ref (g.2.2 (9, 0, 0)) :: rest)) :=
  x_put (C := RX8) (T := TX8) (N := 31) (ci := 8) (ty := .boolean) X hP hS inX8 tyX8_ok nmX8 rfl hk rfl 8 (by decide) rfl rfl rfl (Nat.le_of_ble_eq_true rfl) hn hf hl hdg kk
end XF
end
section
/-- FordQuestions$Ford.takeFrom(LFordQuestions$Ford;)V -/
def f_X0_takeFrom (i : Nat) (i0 : Nat) (t : Mm) : Option (Mm) := o_nm (sI t 0 i 0 0 (t.1 0 i0 0 0)) fun t_1 => o_nm (sI t_1 0 i 0 1 (t_1.1 0 i0 0 1)) fun t_3 => o_nm (sI t_3 0 i 0 2 (t_3.1 0 i0 0 2)) fun t_5 => o_nm (sI t_5 0 i 0 3 (t_5.1 0 i0 0 3)) fun t_7 => o_nm (sI t_7 0 i 0 4 (t_7.1 0 i0 0 4)) fun t_9 => o_nm (sR t_9 0 i 1 (va_cpy (t_9.1 0 i0 1) (t_9.1 0 i 1) (Int32.toNatClampNeg 0) (Int32.toNatClampNeg 0) (Int32.toNatClampNeg 8))) fun t_11 => o_nm (sR t_11 0 i 2 (va_cpy (t_11.1 0 i0 2) (t_11.1 0 i 2) (Int32.toNatClampNeg 0) (Int32.toNatClampNeg 0) (Int32.toNatClampNeg 8))) fun t_13 => o_nm (sR t_13 0 i 3 (va_cpy (t_13.1 0 i0 3) (t_13.1 0 i 3) (Int32.toNatClampNeg 0) (Int32.toNatClampNeg 0) (Int32.toNatClampNeg 5))) fun t_15 => o_nm (sR t_15 0 i 4 (va_cpy (t_15.1 0 i0 4) (t_15.1 0 i 4) (Int32.toNatClampNeg 0) (Int32.toNatClampNeg 0) (Int32.toNatClampNeg 5))) fun t_17 => o_nm (sR t_17 0 i 5 (va_cpy (t_17.1 0 i0 5) (t_17.1 0 i 5) (Int32.toNatClampNeg 0) (Int32.toNatClampNeg 0) (Int32.toNatClampNeg 5))) fun t_19 => o_nm (sR t_19 0 i 6 (va_cpy (t_19.1 0 i0 6) (t_19.1 0 i 6) (Int32.toNatClampNeg 0) (Int32.toNatClampNeg 0) (Int32.toNatClampNeg 5))) fun t_21 => o_nm (sR t_21 0 i 7 (va_cpy (t_21.1 0 i0 7) (t_21.1 0 i 7) (Int32.toNatClampNeg 0) (Int32.toNatClampNeg 0) (Int32.toNatClampNeg 5))) fun t_23 => some t_23
theorem hd_X0_takeFrom : x_hd yX0_takeFrom 1 := by decide +kernel
set_option maxRecDepth 100000 in
set_option maxHeartbeats 4000000 in
theorem c_X0_takeFrom (l : Launch) (g : Ly) (i : Nat) (i0 : Nat) (hG : XG shC g) (hi : i < 21) (hi0 : i0 < 21) (t : Mm) {t' : Mm} (h : f_X0_takeFrom i i0 t = some t') : MI l yX0_takeFrom cX0_takeFrom 2 none 1 shC g [.ref (g.2.2 (0, i, 0)), .ref (g.2.2 (0, i0, 0))] t (XQv shC g t') := by
  refine x_met hG (by decide +kernel) (Nat.le_of_ble_eq_true rfl) ?_
  intro p e s m below meth c ls X hP hl
  have hS : va_S (XA shC g) s.heap s.heap [] := va_S.rf
  have hl : lv_has ls 2 [(0, .ref (g.2.2 (0, i, 0))), (1, .ref (g.2.2 (0, i0, 0)))] := hl
  unfold f_X0_takeFrom at h
  generalize ([.ref (g.2.2 (0, i, 0)), .ref (g.2.2 (0, i0, 0))] : List Value).toArray = args at X ⊢
  refine lv_aload_n X.1.1 X.1.2.1 dX0_takeFrom_0 rfl (lv_at hl 0 rfl) ?_
  refine lv_aload_n X.1.1 X.1.2.1 dX0_takeFrom_1 rfl (lv_at hl 1 rfl) ?_
  refine gt_X0_0 X hP (kyF (by omega) (by decide)) wd_92 dX0_takeFrom_2 ?_
  obtain ⟨t_1, e_2, h⟩ := o_nm_inv h
  refine pt_X0_0 (x := (t.1 0 i0 0 0)) X hP hS (kyF (by omega) (by decide)) wd_92 dX0_takeFrom_5 (fun H locs hP hS => ?_)
  have hP : XP shC g t_1 H := by rw [e_2]; exact hP
  refine lv_aload_n X.1.1 X.1.2.1 dX0_takeFrom_8 rfl (lv_at hl 0 rfl) ?_
  refine lv_aload_n X.1.1 X.1.2.1 dX0_takeFrom_9 rfl (lv_at hl 1 rfl) ?_
  refine gt_X0_1 X hP (kyF (by omega) (by decide)) wd_96 dX0_takeFrom_10 ?_
  obtain ⟨t_3, e_4, h⟩ := o_nm_inv h
  refine pt_X0_1 (x := (t_1.1 0 i0 0 1)) X hP hS (kyF (by omega) (by decide)) wd_96 dX0_takeFrom_13 (fun H locs hP hS => ?_)
  have hP : XP shC g t_3 H := by rw [e_4]; exact hP
  refine lv_aload_n X.1.1 X.1.2.1 dX0_takeFrom_16 rfl (lv_at hl 0 rfl) ?_
  refine lv_aload_n X.1.1 X.1.2.1 dX0_takeFrom_17 rfl (lv_at hl 1 rfl) ?_
  refine gt_X0_2 X hP (kyF (by omega) (by decide)) wd_100 dX0_takeFrom_18 ?_
  obtain ⟨t_5, e_6, h⟩ := o_nm_inv h
  refine pt_X0_2 (x := (t_3.1 0 i0 0 2)) X hP hS (kyF (by omega) (by decide)) wd_100 dX0_takeFrom_21 (fun H locs hP hS => ?_)
  have hP : XP shC g t_5 H := by rw [e_6]; exact hP
  refine lv_aload_n X.1.1 X.1.2.1 dX0_takeFrom_24 rfl (lv_at hl 0 rfl) ?_
  refine lv_aload_n X.1.1 X.1.2.1 dX0_takeFrom_25 rfl (lv_at hl 1 rfl) ?_
  refine gt_X0_3 X hP (kyF (by omega) (by decide)) wd_105 dX0_takeFrom_26 ?_
  obtain ⟨t_7, e_8, h⟩ := o_nm_inv h
  refine pt_X0_3 (x := (t_5.1 0 i0 0 3)) X hP hS (kyF (by omega) (by decide)) wd_105 dX0_takeFrom_29 (fun H locs hP hS => ?_)
  have hP : XP shC g t_7 H := by rw [e_8]; exact hP
  refine lv_aload_n X.1.1 X.1.2.1 dX0_takeFrom_32 rfl (lv_at hl 0 rfl) ?_
  refine lv_aload_n X.1.1 X.1.2.1 dX0_takeFrom_33 rfl (lv_at hl 1 rfl) ?_
  refine gt_X0_4 X hP (kyF (by omega) (by decide)) wd_109 dX0_takeFrom_34 ?_
  obtain ⟨t_9, e_10, h⟩ := o_nm_inv h
  refine pt_X0_4 (x := (t_7.1 0 i0 0 4)) X hP hS (kyF (by omega) (by decide)) wd_109 dX0_takeFrom_37 (fun H locs hP hS => ?_)
  have hP : XP shC g t_9 H := by rw [e_10]; exact hP
  refine lv_aload_n X.1.1 X.1.2.1 dX0_takeFrom_40 rfl (lv_at hl 1 rfl) ?_
  refine gt_X0_5 X hP (kyF (by omega) (by decide)) wd_111 dX0_takeFrom_41 ?_
  refine lv_iconst (v := 0) X.1.1 X.1.2.1 dX0_takeFrom_44 (by decide) ?_
  refine lv_aload_n X.1.1 X.1.2.1 dX0_takeFrom_45 rfl (lv_at hl 0 rfl) ?_
  refine gt_X0_5 X hP (kyF (by omega) (by decide)) wd_111 dX0_takeFrom_46 ?_
  refine lv_iconst (v := 0) X.1.1 X.1.2.1 dX0_takeFrom_49 (by decide) ?_
  refine lv_bipush (v := 8) X.1.1 X.1.2.1 dX0_takeFrom_50 (by decide) ?_
  obtain ⟨t_11, e_12, h⟩ := o_nm_inv h
  refine x_copyi X hP hS ⟨wd_544, wd_546, wd_545, wd_70⟩ (kyF (by omega) (by decide)) (fun _ _ => rfl) (kyF (by omega) (by decide)) (fun _ _ => rfl) (by decide) hl.1 (by decide) (Nat.le_of_ble_eq_true rfl) dX0_takeFrom_52 (fun H locs hP hS => ?_)
  have hP : XP shC g t_11 H := by rw [e_12]; exact hP
  refine lv_aload_n X.1.1 X.1.2.1 dX0_takeFrom_55 rfl (lv_at hl 1 rfl) ?_
  refine gt_X0_6 X hP (kyF (by omega) (by decide)) wd_113 dX0_takeFrom_56 ?_
  refine lv_iconst (v := 0) X.1.1 X.1.2.1 dX0_takeFrom_59 (by decide) ?_
  refine lv_aload_n X.1.1 X.1.2.1 dX0_takeFrom_60 rfl (lv_at hl 0 rfl) ?_
  refine gt_X0_6 X hP (kyF (by omega) (by decide)) wd_113 dX0_takeFrom_61 ?_
  refine lv_iconst (v := 0) X.1.1 X.1.2.1 dX0_takeFrom_64 (by decide) ?_
  refine lv_bipush (v := 8) X.1.1 X.1.2.1 dX0_takeFrom_65 (by decide) ?_
  obtain ⟨t_13, e_14, h⟩ := o_nm_inv h
  refine x_copyi X hP hS ⟨wd_544, wd_546, wd_545, wd_70⟩ (kyF (by omega) (by decide)) (fun _ _ => rfl) (kyF (by omega) (by decide)) (fun _ _ => rfl) (by decide) hl.1 (by decide) (Nat.le_of_ble_eq_true rfl) dX0_takeFrom_67 (fun H locs hP hS => ?_)
  have hP : XP shC g t_13 H := by rw [e_14]; exact hP
  refine lv_aload_n X.1.1 X.1.2.1 dX0_takeFrom_70 rfl (lv_at hl 1 rfl) ?_
  refine gt_X0_7 X hP (kyF (by omega) (by decide)) wd_115 dX0_takeFrom_71 ?_
  refine lv_iconst (v := 0) X.1.1 X.1.2.1 dX0_takeFrom_74 (by decide) ?_
  refine lv_aload_n X.1.1 X.1.2.1 dX0_takeFrom_75 rfl (lv_at hl 0 rfl) ?_
  refine gt_X0_7 X hP (kyF (by omega) (by decide)) wd_115 dX0_takeFrom_76 ?_
  refine lv_iconst (v := 0) X.1.1 X.1.2.1 dX0_takeFrom_79 (by decide) ?_
  refine lv_iconst (v := 5) X.1.1 X.1.2.1 dX0_takeFrom_80 (by decide) ?_
  obtain ⟨t_15, e_16, h⟩ := o_nm_inv h
  refine x_copyi X hP hS ⟨wd_544, wd_546, wd_545, wd_70⟩ (kyF (by omega) (by decide)) (fun _ _ => rfl) (kyF (by omega) (by decide)) (fun _ _ => rfl) (by decide) hl.1 (by decide) (Nat.le_of_ble_eq_true rfl) dX0_takeFrom_81 (fun H locs hP hS => ?_)
  have hP : XP shC g t_15 H := by rw [e_16]; exact hP
  refine lv_aload_n X.1.1 X.1.2.1 dX0_takeFrom_84 rfl (lv_at hl 1 rfl) ?_
  refine gt_X0_8 X hP (kyF (by omega) (by decide)) wd_118 dX0_takeFrom_85 ?_
  refine lv_iconst (v := 0) X.1.1 X.1.2.1 dX0_takeFrom_88 (by decide) ?_
  refine lv_aload_n X.1.1 X.1.2.1 dX0_takeFrom_89 rfl (lv_at hl 0 rfl) ?_
  refine gt_X0_8 X hP (kyF (by omega) (by decide)) wd_118 dX0_takeFrom_90 ?_
  refine lv_iconst (v := 0) X.1.1 X.1.2.1 dX0_takeFrom_93 (by decide) ?_
  refine lv_iconst (v := 5) X.1.1 X.1.2.1 dX0_takeFrom_94 (by decide) ?_
  obtain ⟨t_17, e_18, h⟩ := o_nm_inv h
  refine x_copyi X hP hS ⟨wd_544, wd_546, wd_545, wd_70⟩ (kyF (by omega) (by decide)) (fun _ _ => rfl) (kyF (by omega) (by decide)) (fun _ _ => rfl) (by decide) hl.1 (by decide) (Nat.le_of_ble_eq_true rfl) dX0_takeFrom_95 (fun H locs hP hS => ?_)
  have hP : XP shC g t_17 H := by rw [e_18]; exact hP
  refine lv_aload_n X.1.1 X.1.2.1 dX0_takeFrom_98 rfl (lv_at hl 1 rfl) ?_
  refine gt_X0_9 X hP (kyF (by omega) (by decide)) wd_121 dX0_takeFrom_99 ?_
  refine lv_iconst (v := 0) X.1.1 X.1.2.1 dX0_takeFrom_102 (by decide) ?_
  refine lv_aload_n X.1.1 X.1.2.1 dX0_takeFrom_103 rfl (lv_at hl 0 rfl) ?_
  refine gt_X0_9 X hP (kyF (by omega) (by decide)) wd_121 dX0_takeFrom_104 ?_
  refine lv_iconst (v := 0) X.1.1 X.1.2.1 dX0_takeFrom_107 (by decide) ?_
  refine lv_iconst (v := 5) X.1.1 X.1.2.1 dX0_takeFrom_108 (by decide) ?_
  obtain ⟨t_19, e_20, h⟩ := o_nm_inv h
  refine x_copyi X hP hS ⟨wd_544, wd_546, wd_545, wd_70⟩ (kyF (by omega) (by decide)) (fun _ _ => rfl) (kyF (by omega) (by decide)) (fun _ _ => rfl) (by decide) hl.1 (by decide) (Nat.le_of_ble_eq_true rfl) dX0_takeFrom_109 (fun H locs hP hS => ?_)
  have hP : XP shC g t_19 H := by rw [e_20]; exact hP
  refine lv_aload_n X.1.1 X.1.2.1 dX0_takeFrom_112 rfl (lv_at hl 1 rfl) ?_
  refine gt_X0_10 X hP (kyF (by omega) (by decide)) wd_125 dX0_takeFrom_113 ?_
  refine lv_iconst (v := 0) X.1.1 X.1.2.1 dX0_takeFrom_116 (by decide) ?_
  refine lv_aload_n X.1.1 X.1.2.1 dX0_takeFrom_117 rfl (lv_at hl 0 rfl) ?_
  refine gt_X0_10 X hP (kyF (by omega) (by decide)) wd_125 dX0_takeFrom_118 ?_
  refine lv_iconst (v := 0) X.1.1 X.1.2.1 dX0_takeFrom_121 (by decide) ?_
  refine lv_iconst (v := 5) X.1.1 X.1.2.1 dX0_takeFrom_122 (by decide) ?_
  obtain ⟨t_21, e_22, h⟩ := o_nm_inv h
  refine x_copyi X hP hS ⟨wd_544, wd_546, wd_545, wd_70⟩ (kyF (by omega) (by decide)) (fun _ _ => rfl) (kyF (by omega) (by decide)) (fun _ _ => rfl) (by decide) hl.1 (by decide) (Nat.le_of_ble_eq_true rfl) dX0_takeFrom_123 (fun H locs hP hS => ?_)
  have hP : XP shC g t_21 H := by rw [e_22]; exact hP
  refine lv_aload_n X.1.1 X.1.2.1 dX0_takeFrom_126 rfl (lv_at hl 1 rfl) ?_
  refine gt_X0_11 X hP (kyF (by omega) (by decide)) wd_129 dX0_takeFrom_127 ?_
  refine lv_iconst (v := 0) X.1.1 X.1.2.1 dX0_takeFrom_130 (by decide) ?_
  refine lv_aload_n X.1.1 X.1.2.1 dX0_takeFrom_131 rfl (lv_at hl 0 rfl) ?_
  refine gt_X0_11 X hP (kyF (by omega) (by decide)) wd_129 dX0_takeFrom_132 ?_
  refine lv_iconst (v := 0) X.1.1 X.1.2.1 dX0_takeFrom_135 (by decide) ?_
  refine lv_iconst (v := 5) X.1.1 X.1.2.1 dX0_takeFrom_136 (by decide) ?_
  obtain ⟨t_23, e_24, h⟩ := o_nm_inv h
  refine x_copyi X hP hS ⟨wd_544, wd_546, wd_545, wd_70⟩ (kyF (by omega) (by decide)) (fun _ _ => rfl) (kyF (by omega) (by decide)) (fun _ _ => rfl) (by decide) hl.1 (by decide) (Nat.le_of_ble_eq_true rfl) dX0_takeFrom_137 (fun H locs hP hS => ?_)
  have hP : XP shC g t_23 H := by rw [e_24]; exact hP
  cases h
  exact x_vret X hP hS dX0_takeFrom_140
/-- FordQuestions$Ford.becomeNew(LFordQuestions$Ford;)V -/
def f_X0_becomeNew (i : Nat) (i0 : Nat) (t : Mm) : Option (Mm) := o_bd (f_X0_takeFrom i i0 t) fun t_1 => o_nm (sI t_1 0 i 0 4 (t.1 0 i 0 4)) fun t_3 => some t_3
theorem hd_X0_becomeNew : x_hd yX0_becomeNew 1 := by decide +kernel
set_option maxRecDepth 100000 in
set_option maxHeartbeats 4000000 in
theorem c_X0_becomeNew (l : Launch) (g : Ly) (i : Nat) (i0 : Nat) (hG : XG shC g) (hi : i < 21) (hi0 : i0 < 21) (t : Mm) {t' : Mm} (h : f_X0_becomeNew i i0 t = some t') : MI l yX0_becomeNew cX0_becomeNew 3 none 2 shC g [.ref (g.2.2 (0, i, 0)), .ref (g.2.2 (0, i0, 0))] t (XQv shC g t') := by
  refine x_met hG (by decide +kernel) (Nat.le_of_ble_eq_true rfl) ?_
  intro p e s m below meth c ls X hP hl
  have hS : va_S (XA shC g) s.heap s.heap [] := va_S.rf
  have hl : lv_has ls 3 [(0, .ref (g.2.2 (0, i, 0))), (1, .ref (g.2.2 (0, i0, 0)))] := hl
  unfold f_X0_becomeNew at h
  generalize ([.ref (g.2.2 (0, i, 0)), .ref (g.2.2 (0, i0, 0))] : List Value).toArray = args at X ⊢
  refine lv_aload_n X.1.1 X.1.2.1 dX0_becomeNew_0 rfl (lv_at hl 0 rfl) ?_
  refine gt_X0_4 X hP (kyF (by omega) (by decide)) wd_109 dX0_becomeNew_1 ?_
  refine lv_istore_n (lv' := [(2, .int (t.1 0 i 0 4)), (0, .ref (g.2.2 (0, i, 0))), (1, .ref (g.2.2 (0, i0, 0)))]) X.1.1 X.1.2.1 dX0_becomeNew_4 rfl hl (by decide) rfl (fun ls hl => ?_)
  refine lv_aload_n X.1.1 X.1.2.1 dX0_becomeNew_5 rfl (lv_at hl 1 rfl) ?_
  refine lv_aload_n X.1.1 X.1.2.1 dX0_becomeNew_6 rfl (lv_at hl 2 rfl) ?_
  obtain ⟨t_1, hc_2, h⟩ := o_bd_inv h
  refine x_callv (x_runV (As := [.ref (g.2.2 (0, i0, 0))]) (rest := []) X hP (c_X0_takeFrom l g i i0 X.2.2.2.2 (by omega) (by omega) t hc_2) ⟨wd_543, wd_540, wd_541, wd_542, wd_56⟩ hd_X0_takeFrom ⟨by decide, by decide⟩ (x_recv X hP (ci := 0) rfl (kyF (by omega) (by decide)) rfl) rfl hl.1 rfl (Nat.le_of_ble_eq_true rfl) dX0_becomeNew_7) hS (fun H locs hP hS => ?_)
  refine lv_aload_n X.1.1 X.1.2.1 dX0_becomeNew_10 rfl (lv_at hl 1 rfl) ?_
  refine lv_iload_n X.1.1 X.1.2.1 dX0_becomeNew_11 rfl (lv_at hl 0 rfl) ?_
  obtain ⟨t_3, e_4, h⟩ := o_nm_inv h
  refine pt_X0_4 (x := (t.1 0 i 0 4)) X hP hS (kyF (by omega) (by decide)) wd_109 dX0_becomeNew_12 (fun H locs hP hS => ?_)
  have hP : XP shC g t_3 H := by rw [e_4]; exact hP
  cases h
  exact x_vret X hP hS dX0_becomeNew_15
/-- FordQuestions$Ford.makeEmpty()V -/
def f_X0_makeEmpty (i : Nat) (t : Mm) : Option (Mm) := o_nm (sI t 0 i 0 0 0) fun t_1 => o_nm (sI t_1 0 i 0 1 0) fun t_3 => o_nm (sI t_3 0 i 0 2 0) fun t_5 => o_nm (sI t_5 0 i 0 3 0) fun t_7 => some t_7
theorem hd_X0_makeEmpty : x_hd yX0_makeEmpty 0 := by decide +kernel
set_option maxRecDepth 100000 in
set_option maxHeartbeats 4000000 in
theorem c_X0_makeEmpty (l : Launch) (g : Ly) (i : Nat) (hG : XG shC g) (hi : i < 21) (t : Mm) {t' : Mm} (h : f_X0_makeEmpty i t = some t') : MI l yX0_makeEmpty cX0_makeEmpty 1 none 1 shC g [.ref (g.2.2 (0, i, 0))] t (XQv shC g t') := by
  refine x_met hG (by decide +kernel) (Nat.le_of_ble_eq_true rfl) ?_
  intro p e s m below meth c ls X hP hl
  have hS : va_S (XA shC g) s.heap s.heap [] := va_S.rf
  have hl : lv_has ls 1 [(0, .ref (g.2.2 (0, i, 0)))] := hl
  unfold f_X0_makeEmpty at h
  generalize ([.ref (g.2.2 (0, i, 0))] : List Value).toArray = args at X ⊢
  refine lv_aload_n X.1.1 X.1.2.1 dX0_makeEmpty_0 rfl (lv_at hl 0 rfl) ?_
  refine lv_iconst (v := 0) X.1.1 X.1.2.1 dX0_makeEmpty_1 (by decide) ?_
  obtain ⟨t_1, e_2, h⟩ := o_nm_inv h
  refine pt_X0_0 (x := 0) X hP hS (kyF (by omega) (by decide)) wd_92 dX0_makeEmpty_2 (fun H locs hP hS => ?_)
  have hP : XP shC g t_1 H := by rw [e_2]; exact hP
  refine lv_aload_n X.1.1 X.1.2.1 dX0_makeEmpty_5 rfl (lv_at hl 0 rfl) ?_
  refine lv_iconst (v := 0) X.1.1 X.1.2.1 dX0_makeEmpty_6 (by decide) ?_
  obtain ⟨t_3, e_4, h⟩ := o_nm_inv h
  refine pt_X0_1 (x := 0) X hP hS (kyF (by omega) (by decide)) wd_96 dX0_makeEmpty_7 (fun H locs hP hS => ?_)
  have hP : XP shC g t_3 H := by rw [e_4]; exact hP
  refine lv_aload_n X.1.1 X.1.2.1 dX0_makeEmpty_10 rfl (lv_at hl 0 rfl) ?_
  refine lv_iconst (v := 0) X.1.1 X.1.2.1 dX0_makeEmpty_11 (by decide) ?_
  obtain ⟨t_5, e_6, h⟩ := o_nm_inv h
  refine pt_X0_2 (x := 0) X hP hS (kyF (by omega) (by decide)) wd_100 dX0_makeEmpty_12 (fun H locs hP hS => ?_)
  have hP : XP shC g t_5 H := by rw [e_6]; exact hP
  refine lv_aload_n X.1.1 X.1.2.1 dX0_makeEmpty_15 rfl (lv_at hl 0 rfl) ?_
  refine lv_iconst (v := 0) X.1.1 X.1.2.1 dX0_makeEmpty_16 (by decide) ?_
  obtain ⟨t_7, e_8, h⟩ := o_nm_inv h
  refine pt_X0_3 (x := 0) X hP hS (kyF (by omega) (by decide)) wd_105 dX0_makeEmpty_17 (fun H locs hP hS => ?_)
  have hP : XP shC g t_7 H := by rw [e_8]; exact hP
  cases h
  exact x_vret X hP hS dX0_makeEmpty_20
/-- FordQuestions$Ford.addQuestion(II)I -/
def f_X0_addQuestion (i : Nat) (a0 : Int32) (a1 : Int32) (t : Mm) : Option (Int32 × Mm) := if (t.1 0 i 0 0) < 8 then (if o_inb (t.1 0 i 0 0) 8 = true then (o_nm (sI t 0 i 1 ((t.1 0 i 0 0).toNatClampNeg) a0) fun t_3 => if o_inb (t.1 0 i 0 0) 8 = true then (o_nm (sI t_3 0 i 2 ((t.1 0 i 0 0).toNatClampNeg) a1) fun t_6 => o_nm (sI t_6 0 i 0 0 ((t_6.1 0 i 0 0) + 1)) fun t_8 => some ((t.1 0 i 0 0), t_8)) else none) else none) else (some ((-3), t))
theorem hd_X0_addQuestion : x_hd yX0_addQuestion 2 := by decide +kernel
set_option maxRecDepth 100000 in
set_option maxHeartbeats 4000000 in
theorem c_X0_addQuestion (l : Launch) (g : Ly) (i : Nat) (hG : XG shC g) (hi : i < 21) (a0 : Int32) (a1 : Int32) (t : Mm) {r : Int32} {t' : Mm} (h : f_X0_addQuestion i a0 a1 t = some (r, t')) : MI l yX0_addQuestion cX0_addQuestion 4 (some .int) 1 shC g [.ref (g.2.2 (0, i, 0)), .int a0, .int a1] t (XQi shC g r t') := by
  refine x_met hG (by decide +kernel) (Nat.le_of_ble_eq_true rfl) ?_
  intro p e s m below meth c ls X hP hl
  have hS : va_S (XA shC g) s.heap s.heap [] := va_S.rf
  have hl : lv_has ls 4 [(0, .ref (g.2.2 (0, i, 0))), (1, .int a0), (2, .int a1)] := hl
  unfold f_X0_addQuestion at h
  generalize ([.ref (g.2.2 (0, i, 0)), .int a0, .int a1] : List Value).toArray = args at X ⊢
  refine lv_aload_n X.1.1 X.1.2.1 dX0_addQuestion_0 rfl (lv_at hl 0 rfl) ?_
  refine gt_X0_0 X hP (kyF (by omega) (by decide)) wd_92 dX0_addQuestion_1 ?_
  refine lv_istore_n (lv' := [(3, .int (t.1 0 i 0 0)), (0, .ref (g.2.2 (0, i, 0))), (1, .int a0), (2, .int a1)]) X.1.1 X.1.2.1 dX0_addQuestion_4 rfl hl (by decide) rfl (fun ls hl => ?_)
  refine lv_iload_n X.1.1 X.1.2.1 dX0_addQuestion_5 rfl (lv_at hl 0 rfl) ?_
  refine lv_bipush (v := 8) X.1.1 X.1.2.1 dX0_addQuestion_6 (by decide) ?_
  refine lv_icmp_lt (tgt := 14) X.1.1 X.1.2.1 dX0_addQuestion_8 (by decide) (fun c_1 => ?_) (fun c_1 => ?_)
  · have h := o_pos c_1 h
    refine lv_aload_n X.1.1 X.1.2.1 dX0_addQuestion_14 rfl (lv_at hl 1 rfl) ?_
    refine gt_X0_5 X hP (kyF (by omega) (by decide)) wd_111 dX0_addQuestion_15 ?_
    refine lv_iload_n X.1.1 X.1.2.1 dX0_addQuestion_18 rfl (lv_at hl 0 rfl) ?_
    refine lv_iload_n X.1.1 X.1.2.1 dX0_addQuestion_19 rfl (lv_at hl 2 rfl) ?_
    obtain ⟨g_2, h⟩ := o_gd_inv h
    obtain ⟨t_3, e_4, h⟩ := o_nm_inv h
    refine x_iast X hP hS (kyF (by omega) (by decide)) (fun _ _ => rfl) g_2 dX0_addQuestion_20 (fun H locs hP hS => ?_)
    have hP : XP shC g t_3 H := by rw [e_4]; exact hP
    refine lv_aload_n X.1.1 X.1.2.1 dX0_addQuestion_21 rfl (lv_at hl 1 rfl) ?_
    refine gt_X0_6 X hP (kyF (by omega) (by decide)) wd_113 dX0_addQuestion_22 ?_
    refine lv_iload_n X.1.1 X.1.2.1 dX0_addQuestion_25 rfl (lv_at hl 0 rfl) ?_
    refine lv_iload_n X.1.1 X.1.2.1 dX0_addQuestion_26 rfl (lv_at hl 3 rfl) ?_
    obtain ⟨g_5, h⟩ := o_gd_inv h
    obtain ⟨t_6, e_7, h⟩ := o_nm_inv h
    refine x_iast X hP hS (kyF (by omega) (by decide)) (fun _ _ => rfl) g_5 dX0_addQuestion_27 (fun H locs hP hS => ?_)
    have hP : XP shC g t_6 H := by rw [e_7]; exact hP
    refine lv_aload_n X.1.1 X.1.2.1 dX0_addQuestion_28 rfl (lv_at hl 1 rfl) ?_
    refine lv_dup X.1.1 X.1.2.1 dX0_addQuestion_29 rfl ?_
    refine gt_X0_0 X hP (kyF (by omega) (by decide)) wd_92 dX0_addQuestion_30 ?_
    refine lv_iconst (v := 1) X.1.1 X.1.2.1 dX0_addQuestion_33 (by decide) ?_
    refine lv_iadd X.1.1 X.1.2.1 dX0_addQuestion_34 ?_
    obtain ⟨t_8, e_9, h⟩ := o_nm_inv h
    refine pt_X0_0 (x := ((t_6.1 0 i 0 0) + 1)) X hP hS (kyF (by omega) (by decide)) wd_92 dX0_addQuestion_35 (fun H locs hP hS => ?_)
    have hP : XP shC g t_8 H := by rw [e_9]; exact hP
    refine lv_iload_n X.1.1 X.1.2.1 dX0_addQuestion_38 rfl (lv_at hl 0 rfl) ?_
    cases h
    exact x_iret X hP hS dX0_addQuestion_39
  · have h := o_neg c_1 h
    refine lv_bipush (v := (-3)) X.1.1 X.1.2.1 dX0_addQuestion_11 (by decide) ?_
    cases h
    exact x_iret X hP hS dX0_addQuestion_13
/-- FordQuestions$Ford.addCrosser(III)I -/
def f_X0_addCrosser (i : Nat) (a0 : Int32) (a1 : Int32) (a2 : Int32) (t : Mm) : Option (Int32 × Mm) := if (t.1 0 i 0 1) < 5 then (if o_inb (t.1 0 i 0 1) 5 = true then (o_nm (sI t 0 i 3 ((t.1 0 i 0 1).toNatClampNeg) a0) fun t_3 => if o_inb (t.1 0 i 0 1) 5 = true then (o_nm (sI t_3 0 i 4 ((t.1 0 i 0 1).toNatClampNeg) a1) fun t_6 => if o_inb (t.1 0 i 0 1) 5 = true then (o_nm (sI t_6 0 i 5 ((t.1 0 i 0 1).toNatClampNeg) a2) fun t_9 => if o_inb (t.1 0 i 0 1) 5 = true then (o_nm (sI t_9 0 i 6 ((t.1 0 i 0 1).toNatClampNeg) 0) fun t_12 => if o_inb (t.1 0 i 0 1) 5 = true then (o_nm (sI t_12 0 i 7 ((t.1 0 i 0 1).toNatClampNeg) 0) fun t_15 => o_nm (sI t_15 0 i 0 1 ((t_15.1 0 i 0 1) + 1)) fun t_17 => some ((t.1 0 i 0 1), t_17)) else none) else none) else none) else none) else none) else (some ((-3), t))
theorem hd_X0_addCrosser : x_hd yX0_addCrosser 3 := by decide +kernel
set_option maxRecDepth 100000 in
set_option maxHeartbeats 4000000 in
theorem c_X0_addCrosser (l : Launch) (g : Ly) (i : Nat) (hG : XG shC g) (hi : i < 21) (a0 : Int32) (a1 : Int32) (a2 : Int32) (t : Mm) {r : Int32} {t' : Mm} (h : f_X0_addCrosser i a0 a1 a2 t = some (r, t')) : MI l yX0_addCrosser cX0_addCrosser 5 (some .int) 1 shC g [.ref (g.2.2 (0, i, 0)), .int a0, .int a1, .int a2] t (XQi shC g r t') := by
  refine x_met hG (by decide +kernel) (Nat.le_of_ble_eq_true rfl) ?_
  intro p e s m below meth c ls X hP hl
  have hS : va_S (XA shC g) s.heap s.heap [] := va_S.rf
  have hl : lv_has ls 5 [(0, .ref (g.2.2 (0, i, 0))), (1, .int a0), (2, .int a1), (3, .int a2)] := hl
  unfold f_X0_addCrosser at h
  generalize ([.ref (g.2.2 (0, i, 0)), .int a0, .int a1, .int a2] : List Value).toArray = args at X ⊢
  refine lv_aload_n X.1.1 X.1.2.1 dX0_addCrosser_0 rfl (lv_at hl 0 rfl) ?_
  refine gt_X0_1 X hP (kyF (by omega) (by decide)) wd_96 dX0_addCrosser_1 ?_
  refine lv_istore (lv' := [(4, .int (t.1 0 i 0 1)), (0, .ref (g.2.2 (0, i, 0))), (1, .int a0), (2, .int a1), (3, .int a2)]) X.1.1 X.1.2.1 dX0_addCrosser_4 hl (by decide) rfl (fun ls hl => ?_)
  refine lv_iload X.1.1 X.1.2.1 dX0_addCrosser_6 (lv_at hl 0 rfl) ?_
  refine lv_iconst (v := 5) X.1.1 X.1.2.1 dX0_addCrosser_8 (by decide) ?_
  refine lv_icmp_lt (tgt := 15) X.1.1 X.1.2.1 dX0_addCrosser_9 (by decide) (fun c_1 => ?_) (fun c_1 => ?_)
  · have h := o_pos c_1 h
    refine lv_aload_n X.1.1 X.1.2.1 dX0_addCrosser_15 rfl (lv_at hl 1 rfl) ?_
    refine gt_X0_7 X hP (kyF (by omega) (by decide)) wd_115 dX0_addCrosser_16 ?_
    refine lv_iload X.1.1 X.1.2.1 dX0_addCrosser_19 (lv_at hl 0 rfl) ?_
    refine lv_iload_n X.1.1 X.1.2.1 dX0_addCrosser_21 rfl (lv_at hl 2 rfl) ?_
    obtain ⟨g_2, h⟩ := o_gd_inv h
    obtain ⟨t_3, e_4, h⟩ := o_nm_inv h
    refine x_iast X hP hS (kyF (by omega) (by decide)) (fun _ _ => rfl) g_2 dX0_addCrosser_22 (fun H locs hP hS => ?_)
    have hP : XP shC g t_3 H := by rw [e_4]; exact hP
    refine lv_aload_n X.1.1 X.1.2.1 dX0_addCrosser_23 rfl (lv_at hl 1 rfl) ?_
    refine gt_X0_8 X hP (kyF (by omega) (by decide)) wd_118 dX0_addCrosser_24 ?_
    refine lv_iload X.1.1 X.1.2.1 dX0_addCrosser_27 (lv_at hl 0 rfl) ?_
    refine lv_iload_n X.1.1 X.1.2.1 dX0_addCrosser_29 rfl (lv_at hl 3 rfl) ?_
    obtain ⟨g_5, h⟩ := o_gd_inv h
    obtain ⟨t_6, e_7, h⟩ := o_nm_inv h
    refine x_iast X hP hS (kyF (by omega) (by decide)) (fun _ _ => rfl) g_5 dX0_addCrosser_30 (fun H locs hP hS => ?_)
    have hP : XP shC g t_6 H := by rw [e_7]; exact hP
    refine lv_aload_n X.1.1 X.1.2.1 dX0_addCrosser_31 rfl (lv_at hl 1 rfl) ?_
    refine gt_X0_9 X hP (kyF (by omega) (by decide)) wd_121 dX0_addCrosser_32 ?_
    refine lv_iload X.1.1 X.1.2.1 dX0_addCrosser_35 (lv_at hl 0 rfl) ?_
    refine lv_iload_n X.1.1 X.1.2.1 dX0_addCrosser_37 rfl (lv_at hl 4 rfl) ?_
    obtain ⟨g_8, h⟩ := o_gd_inv h
    obtain ⟨t_9, e_10, h⟩ := o_nm_inv h
    refine x_iast X hP hS (kyF (by omega) (by decide)) (fun _ _ => rfl) g_8 dX0_addCrosser_38 (fun H locs hP hS => ?_)
    have hP : XP shC g t_9 H := by rw [e_10]; exact hP
    refine lv_aload_n X.1.1 X.1.2.1 dX0_addCrosser_39 rfl (lv_at hl 1 rfl) ?_
    refine gt_X0_10 X hP (kyF (by omega) (by decide)) wd_125 dX0_addCrosser_40 ?_
    refine lv_iload X.1.1 X.1.2.1 dX0_addCrosser_43 (lv_at hl 0 rfl) ?_
    refine lv_iconst (v := 0) X.1.1 X.1.2.1 dX0_addCrosser_45 (by decide) ?_
    obtain ⟨g_11, h⟩ := o_gd_inv h
    obtain ⟨t_12, e_13, h⟩ := o_nm_inv h
    refine x_iast X hP hS (kyF (by omega) (by decide)) (fun _ _ => rfl) g_11 dX0_addCrosser_46 (fun H locs hP hS => ?_)
    have hP : XP shC g t_12 H := by rw [e_13]; exact hP
    refine lv_aload_n X.1.1 X.1.2.1 dX0_addCrosser_47 rfl (lv_at hl 1 rfl) ?_
    refine gt_X0_11 X hP (kyF (by omega) (by decide)) wd_129 dX0_addCrosser_48 ?_
    refine lv_iload X.1.1 X.1.2.1 dX0_addCrosser_51 (lv_at hl 0 rfl) ?_
    refine lv_iconst (v := 0) X.1.1 X.1.2.1 dX0_addCrosser_53 (by decide) ?_
    obtain ⟨g_14, h⟩ := o_gd_inv h
    obtain ⟨t_15, e_16, h⟩ := o_nm_inv h
    refine x_iast X hP hS (kyF (by omega) (by decide)) (fun _ _ => rfl) g_14 dX0_addCrosser_54 (fun H locs hP hS => ?_)
    have hP : XP shC g t_15 H := by rw [e_16]; exact hP
    refine lv_aload_n X.1.1 X.1.2.1 dX0_addCrosser_55 rfl (lv_at hl 1 rfl) ?_
    refine lv_dup X.1.1 X.1.2.1 dX0_addCrosser_56 rfl ?_
    refine gt_X0_1 X hP (kyF (by omega) (by decide)) wd_96 dX0_addCrosser_57 ?_
    refine lv_iconst (v := 1) X.1.1 X.1.2.1 dX0_addCrosser_60 (by decide) ?_
    refine lv_iadd X.1.1 X.1.2.1 dX0_addCrosser_61 ?_
    obtain ⟨t_17, e_18, h⟩ := o_nm_inv h
    refine pt_X0_1 (x := ((t_15.1 0 i 0 1) + 1)) X hP hS (kyF (by omega) (by decide)) wd_96 dX0_addCrosser_62 (fun H locs hP hS => ?_)
    have hP : XP shC g t_17 H := by rw [e_18]; exact hP
    refine lv_iload X.1.1 X.1.2.1 dX0_addCrosser_65 (lv_at hl 0 rfl) ?_
    cases h
    exact x_iret X hP hS dX0_addCrosser_67
  · have h := o_neg c_1 h
    refine lv_bipush (v := (-3)) X.1.1 X.1.2.1 dX0_addCrosser_12 (by decide) ?_
    cases h
    exact x_iret X hP hS dX0_addCrosser_14
/-- FordQuestions$Ford.hasQuestion(I)Z -/
def f_X0_hasQuestion (i : Nat) (a0 : Int32) (t : Mm) : Option (Int32 × Mm) := if a0 < 0 then (some (0, t)) else (if (t.1 0 i 0 0) ≤ a0 then (some (0, t)) else (some (1, t)))
theorem hd_X0_hasQuestion : x_hd yX0_hasQuestion 1 := by decide +kernel
set_option maxRecDepth 100000 in
set_option maxHeartbeats 4000000 in
theorem c_X0_hasQuestion (l : Launch) (g : Ly) (i : Nat) (hG : XG shC g) (hi : i < 21) (a0 : Int32) (t : Mm) {r : Int32} {t' : Mm} (h : f_X0_hasQuestion i a0 t = some (r, t')) : MI l yX0_hasQuestion cX0_hasQuestion 2 (some .boolean) 1 shC g [.ref (g.2.2 (0, i, 0)), .int a0] t (XQi shC g r t') := by
  refine x_met hG (by decide +kernel) (Nat.le_of_ble_eq_true rfl) ?_
  intro p e s m below meth c ls X hP hl
  have hS : va_S (XA shC g) s.heap s.heap [] := va_S.rf
  have hl : lv_has ls 2 [(0, .ref (g.2.2 (0, i, 0))), (1, .int a0)] := hl
  unfold f_X0_hasQuestion at h
  generalize ([.ref (g.2.2 (0, i, 0)), .int a0] : List Value).toArray = args at X ⊢
  refine lv_iload_n X.1.1 X.1.2.1 dX0_hasQuestion_0 rfl (lv_at hl 1 rfl) ?_
  refine lv_if_lt (tgt := 16) X.1.1 X.1.2.1 dX0_hasQuestion_1 (by decide) (fun c_1 => ?_) (fun c_1 => ?_)
  · have h := o_pos c_1 h
    refine lv_iconst (v := 0) X.1.1 X.1.2.1 dX0_hasQuestion_16 (by decide) ?_
    cases h
    exact x_zret rfl X hP hS dX0_hasQuestion_17
  · have h := o_neg c_1 h
    refine lv_iload_n X.1.1 X.1.2.1 dX0_hasQuestion_4 rfl (lv_at hl 1 rfl) ?_
    refine lv_aload_n X.1.1 X.1.2.1 dX0_hasQuestion_5 rfl (lv_at hl 0 rfl) ?_
    refine gt_X0_0 X hP (kyF (by omega) (by decide)) wd_92 dX0_hasQuestion_6 ?_
    refine lv_icmp_ge (tgt := 16) X.1.1 X.1.2.1 dX0_hasQuestion_9 (by decide) (fun c_2 => ?_) (fun c_2 => ?_)
    · have h := o_pos c_2 h
      refine lv_iconst (v := 0) X.1.1 X.1.2.1 dX0_hasQuestion_16 (by decide) ?_
      cases h
      exact x_zret rfl X hP hS dX0_hasQuestion_17
    · have h := o_neg c_2 h
      refine lv_iconst (v := 1) X.1.1 X.1.2.1 dX0_hasQuestion_12 (by decide) ?_
      refine lv_goto (tgt := 17) X.1.1 X.1.2.1 dX0_hasQuestion_13 (by decide) ?_
      cases h
      exact x_zret rfl X hP hS dX0_hasQuestion_17
/-- FordQuestions$Ford.hasCrosser(I)Z -/
def f_X0_hasCrosser (i : Nat) (a0 : Int32) (t : Mm) : Option (Int32 × Mm) := if a0 < 0 then (some (0, t)) else (if (t.1 0 i 0 1) ≤ a0 then (some (0, t)) else (some (1, t)))
theorem hd_X0_hasCrosser : x_hd yX0_hasCrosser 1 := by decide +kernel
set_option maxRecDepth 100000 in
set_option maxHeartbeats 4000000 in
theorem c_X0_hasCrosser (l : Launch) (g : Ly) (i : Nat) (hG : XG shC g) (hi : i < 21) (a0 : Int32) (t : Mm) {r : Int32} {t' : Mm} (h : f_X0_hasCrosser i a0 t = some (r, t')) : MI l yX0_hasCrosser cX0_hasCrosser 2 (some .boolean) 1 shC g [.ref (g.2.2 (0, i, 0)), .int a0] t (XQi shC g r t') := by
  refine x_met hG (by decide +kernel) (Nat.le_of_ble_eq_true rfl) ?_
  intro p e s m below meth c ls X hP hl
  have hS : va_S (XA shC g) s.heap s.heap [] := va_S.rf
  have hl : lv_has ls 2 [(0, .ref (g.2.2 (0, i, 0))), (1, .int a0)] := hl
  unfold f_X0_hasCrosser at h
  generalize ([.ref (g.2.2 (0, i, 0)), .int a0] : List Value).toArray = args at X ⊢
  refine lv_iload_n X.1.1 X.1.2.1 dX0_hasCrosser_0 rfl (lv_at hl 1 rfl) ?_
  refine lv_if_lt (tgt := 16) X.1.1 X.1.2.1 dX0_hasCrosser_1 (by decide) (fun c_1 => ?_) (fun c_1 => ?_)
  · have h := o_pos c_1 h
    refine lv_iconst (v := 0) X.1.1 X.1.2.1 dX0_hasCrosser_16 (by decide) ?_
    cases h
    exact x_zret rfl X hP hS dX0_hasCrosser_17
  · have h := o_neg c_1 h
    refine lv_iload_n X.1.1 X.1.2.1 dX0_hasCrosser_4 rfl (lv_at hl 1 rfl) ?_
    refine lv_aload_n X.1.1 X.1.2.1 dX0_hasCrosser_5 rfl (lv_at hl 0 rfl) ?_
    refine gt_X0_1 X hP (kyF (by omega) (by decide)) wd_96 dX0_hasCrosser_6 ?_
    refine lv_icmp_ge (tgt := 16) X.1.1 X.1.2.1 dX0_hasCrosser_9 (by decide) (fun c_2 => ?_) (fun c_2 => ?_)
    · have h := o_pos c_2 h
      refine lv_iconst (v := 0) X.1.1 X.1.2.1 dX0_hasCrosser_16 (by decide) ?_
      cases h
      exact x_zret rfl X hP hS dX0_hasCrosser_17
    · have h := o_neg c_2 h
      refine lv_iconst (v := 1) X.1.1 X.1.2.1 dX0_hasCrosser_12 (by decide) ?_
      refine lv_goto (tgt := 17) X.1.1 X.1.2.1 dX0_hasCrosser_13 (by decide) ?_
      cases h
      exact x_zret rfl X hP hS dX0_hasCrosser_17
/-- FordQuestions.isIn(II)Z -/
def f_X7_isIn (a0 : Int32) (a1 : Int32) (t : Mm) : Option (Int32 × Mm) := if ((a0 >>> (a1 &&& 31)) &&& 1) = 0 then (some (0, t)) else (some (1, t))
theorem hd_X7_isIn : x_hd yX7_isIn 2 := by decide +kernel
set_option maxRecDepth 100000 in
set_option maxHeartbeats 4000000 in
theorem c_X7_isIn (l : Launch) (g : Ly) (hG : XG shC g) (a0 : Int32) (a1 : Int32) (t : Mm) {r : Int32} {t' : Mm} (h : f_X7_isIn a0 a1 t = some (r, t')) : MI l yX7_isIn cX7_isIn 2 (some .boolean) 1 shC g [.int a0, .int a1] t (XQi shC g r t') := by
  refine x_met hG (by decide +kernel) (Nat.le_of_ble_eq_true rfl) ?_
  intro p e s m below meth c ls X hP hl
  have hS : va_S (XA shC g) s.heap s.heap [] := va_S.rf
  have hl : lv_has ls 2 [(0, .int a0), (1, .int a1)] := hl
  unfold f_X7_isIn at h
  generalize ([.int a0, .int a1] : List Value).toArray = args at X ⊢
  refine lv_iload_n X.1.1 X.1.2.1 dX7_isIn_0 rfl (lv_at hl 0 rfl) ?_
  refine lv_iload_n X.1.1 X.1.2.1 dX7_isIn_1 rfl (lv_at hl 1 rfl) ?_
  refine lv_ishr X.1.1 X.1.2.1 dX7_isIn_2 ?_
  refine lv_iconst (v := 1) X.1.1 X.1.2.1 dX7_isIn_3 (by decide) ?_
  refine lv_iand X.1.1 X.1.2.1 dX7_isIn_4 ?_
  refine lv_if_eq (tgt := 12) X.1.1 X.1.2.1 dX7_isIn_5 (by decide) (fun c_1 => ?_) (fun c_1 => ?_)
  · have h := o_pos c_1 h
    refine lv_iconst (v := 0) X.1.1 X.1.2.1 dX7_isIn_12 (by decide) ?_
    cases h
    exact x_zret rfl X hP hS dX7_isIn_13
  · have h := o_neg c_1 h
    refine lv_iconst (v := 1) X.1.1 X.1.2.1 dX7_isIn_8 (by decide) ?_
    refine lv_goto (tgt := 13) X.1.1 X.1.2.1 dX7_isIn_9 (by decide) ?_
    cases h
    exact x_zret rfl X hP hS dX7_isIn_13
/-- FordQuestions$Ford.isAsked(I)Z -/
def f_X0_isAsked (i : Nat) (a0 : Int32) (t : Mm) : Option (Int32 × Mm) := o_bd (f_X7_isIn (t.1 0 i 0 2) a0 t) fun (r_3, t_1) => if (r_3 = 0 ∨ r_3 = 1) then some (r_3, t_1) else none
theorem hd_X0_isAsked : x_hd yX0_isAsked 1 := by decide +kernel
set_option maxRecDepth 100000 in
set_option maxHeartbeats 4000000 in
theorem c_X0_isAsked (l : Launch) (g : Ly) (i : Nat) (hG : XG shC g) (hi : i < 21) (a0 : Int32) (t : Mm) {r : Int32} {t' : Mm} (h : f_X0_isAsked i a0 t = some (r, t')) : MI l yX0_isAsked cX0_isAsked 2 (some .boolean) 2 shC g [.ref (g.2.2 (0, i, 0)), .int a0] t (XQi shC g r t') := by
  refine x_met hG (by decide +kernel) (Nat.le_of_ble_eq_true rfl) ?_
  intro p e s m below meth c ls X hP hl
  have hS : va_S (XA shC g) s.heap s.heap [] := va_S.rf
  have hl : lv_has ls 2 [(0, .ref (g.2.2 (0, i, 0))), (1, .int a0)] := hl
  unfold f_X0_isAsked at h
  generalize ([.ref (g.2.2 (0, i, 0)), .int a0] : List Value).toArray = args at X ⊢
  refine lv_aload_n X.1.1 X.1.2.1 dX0_isAsked_0 rfl (lv_at hl 0 rfl) ?_
  refine gt_X0_2 X hP (kyF (by omega) (by decide)) wd_100 dX0_isAsked_1 ?_
  refine lv_iload_n X.1.1 X.1.2.1 dX0_isAsked_4 rfl (lv_at hl 1 rfl) ?_
  obtain ⟨⟨r_3, t_1⟩, hc_2, h⟩ := o_bd_inv h
  refine x_calli (x_runSN (As := [.int (t.1 0 i 0 2), .int a0]) (rest := []) X hP (c_X7_isIn l g X.2.2.2.2 (t.1 0 i 0 2) a0 t hc_2) ⟨wd_349, wd_347, wd_348, wd_54⟩ hd_X7_isIn ⟨by decide, by decide⟩ rfl hl.1 rfl (Nat.le_of_ble_eq_true rfl) dX0_isAsked_5) hS (fun H locs hP hS => ?_)
  obtain ⟨g_5, h⟩ := o_gd_inv h
  cases h
  exact x_zret (x_narZ g_5) X hP hS dX0_isAsked_8
/-- FordQuestions$Ford.letAskAgain(I)V -/
def f_X0_letAskAgain (i : Nat) (a0 : Int32) (t : Mm) : Option (Mm) := o_nm (sI t 0 i 0 2 ((t.1 0 i 0 2) &&& ((1 <<< (a0 &&& 31)) ^^^ (-1)))) fun t_1 => some t_1
theorem hd_X0_letAskAgain : x_hd yX0_letAskAgain 1 := by decide +kernel
set_option maxRecDepth 100000 in
set_option maxHeartbeats 4000000 in
theorem c_X0_letAskAgain (l : Launch) (g : Ly) (i : Nat) (hG : XG shC g) (hi : i < 21) (a0 : Int32) (t : Mm) {t' : Mm} (h : f_X0_letAskAgain i a0 t = some t') : MI l yX0_letAskAgain cX0_letAskAgain 2 none 1 shC g [.ref (g.2.2 (0, i, 0)), .int a0] t (XQv shC g t') := by
  refine x_met hG (by decide +kernel) (Nat.le_of_ble_eq_true rfl) ?_
  intro p e s m below meth c ls X hP hl
  have hS : va_S (XA shC g) s.heap s.heap [] := va_S.rf
  have hl : lv_has ls 2 [(0, .ref (g.2.2 (0, i, 0))), (1, .int a0)] := hl
  unfold f_X0_letAskAgain at h
  generalize ([.ref (g.2.2 (0, i, 0)), .int a0] : List Value).toArray = args at X ⊢
  refine lv_aload_n X.1.1 X.1.2.1 dX0_letAskAgain_0 rfl (lv_at hl 0 rfl) ?_
  refine lv_dup X.1.1 X.1.2.1 dX0_letAskAgain_1 rfl ?_
  refine gt_X0_2 X hP (kyF (by omega) (by decide)) wd_100 dX0_letAskAgain_2 ?_
  refine lv_iconst (v := 1) X.1.1 X.1.2.1 dX0_letAskAgain_5 (by decide) ?_
  refine lv_iload_n X.1.1 X.1.2.1 dX0_letAskAgain_6 rfl (lv_at hl 1 rfl) ?_
  refine lv_ishl X.1.1 X.1.2.1 dX0_letAskAgain_7 ?_
  refine lv_iconst (v := (-1)) X.1.1 X.1.2.1 dX0_letAskAgain_8 (by decide) ?_
  refine lv_ixor X.1.1 X.1.2.1 dX0_letAskAgain_9 ?_
  refine lv_iand X.1.1 X.1.2.1 dX0_letAskAgain_10 ?_
  obtain ⟨t_1, e_2, h⟩ := o_nm_inv h
  refine pt_X0_2 (x := ((t.1 0 i 0 2) &&& ((1 <<< (a0 &&& 31)) ^^^ (-1)))) X hP hS (kyF (by omega) (by decide)) wd_100 dX0_letAskAgain_11 (fun H locs hP hS => ?_)
  have hP : XP shC g t_1 H := by rw [e_2]; exact hP
  cases h
  exact x_vret X hP hS dX0_letAskAgain_14
/-- FordQuestions$Ford.everyone()I -/
def f_X0_everyone (i : Nat) (t : Mm) : Option (Int32 × Mm) := some (((1 <<< ((t.1 0 i 0 1) &&& 31)) - 1), t)
theorem hd_X0_everyone : x_hd yX0_everyone 0 := by decide +kernel
set_option maxRecDepth 100000 in
set_option maxHeartbeats 4000000 in
theorem c_X0_everyone (l : Launch) (g : Ly) (i : Nat) (hG : XG shC g) (hi : i < 21) (t : Mm) {r : Int32} {t' : Mm} (h : f_X0_everyone i t = some (r, t')) : MI l yX0_everyone cX0_everyone 1 (some .int) 1 shC g [.ref (g.2.2 (0, i, 0))] t (XQi shC g r t') := by
  refine x_met hG (by decide +kernel) (Nat.le_of_ble_eq_true rfl) ?_
  intro p e s m below meth c ls X hP hl
  have hS : va_S (XA shC g) s.heap s.heap [] := va_S.rf
  have hl : lv_has ls 1 [(0, .ref (g.2.2 (0, i, 0)))] := hl
  unfold f_X0_everyone at h
  generalize ([.ref (g.2.2 (0, i, 0))] : List Value).toArray = args at X ⊢
  refine lv_iconst (v := 1) X.1.1 X.1.2.1 dX0_everyone_0 (by decide) ?_
  refine lv_aload_n X.1.1 X.1.2.1 dX0_everyone_1 rfl (lv_at hl 0 rfl) ?_
  refine gt_X0_1 X hP (kyF (by omega) (by decide)) wd_96 dX0_everyone_2 ?_
  refine lv_ishl X.1.1 X.1.2.1 dX0_everyone_5 ?_
  refine lv_iconst (v := 1) X.1.1 X.1.2.1 dX0_everyone_6 (by decide) ?_
  refine lv_isub X.1.1 X.1.2.1 dX0_everyone_7 ?_
  cases h
  exact x_iret X hP hS dX0_everyone_8
def f_X0_thoseWho_28 (N : Nat) (i : Nat) (k4 : Int32 × Int32 × Int32 × Mm → Option (Int32 × Mm)) (x1 : Int32) (x2 : Int32) (x3 : Int32) (t : Mm) : Option (Int32 × Mm) := k4 (x1, x2, (x3 + 1), t)
def b_X0_thoseWho_4 (N : Nat) (i : Nat) (k4 : Int32 × Int32 × Int32 × Mm → Option (Int32 × Mm)) (x1 : Int32) (x2 : Int32) (x3 : Int32) (t : Mm) : Option (Int32 × Mm) := if (t.1 0 i 0 1) ≤ x3 then (some (x2, t)) else (if o_inb x3 5 = true then (if (t.1 0 i 6 (x3.toNatClampNeg)) = x1 then (o_nm ((x2 ||| (1 <<< (x3 &&& 31)))) fun x_4 => f_X0_thoseWho_28 N i k4 x1 x_4 x3 t) else (f_X0_thoseWho_28 N i k4 x1 x2 x3 t)) else none)
def f_X0_thoseWho_4 (N : Nat) (i : Nat) (x1 : Int32) (x2 : Int32) (x3 : Int32) (t : Mm) : Option (Int32 × Mm) := o_lp (fun k x => b_X0_thoseWho_4 N i k x.1 x.2.1 x.2.2.1 x.2.2.2) N (x1, x2, x3, t)
/-- FordQuestions$Ford.thoseWho(I)I -/
def f_X0_thoseWho (N : Nat) (i : Nat) (a0 : Int32) (t : Mm) : Option (Int32 × Mm) := f_X0_thoseWho_4 N i a0 0 0 t
theorem hd_X0_thoseWho : x_hd yX0_thoseWho 1 := by decide +kernel
set_option maxRecDepth 100000 in
set_option maxHeartbeats 4000000 in
theorem w_X0_thoseWho_28 {l : Launch} {g : Ly} {p : Program} {e : Env} {s : State} {m : MethodId} {args : Array Value} {below : List Frame} {meth : Method} {c : Code} (N : Nat) (i : Nat) (hi : i < 21) (X : XC p m meth c cX0_thoseWho 4 s args (.code yX0_thoseWho cX0_thoseWho 4 (some .int)) RX0 (some .int) shC g) {r : Int32} {t' : Mm} {k4 : Int32 × Int32 × Int32 × Mm → Option (Int32 × Mm)} (hk4 : ∀ x : Int32 × Int32 × Int32 × Mm, k4 x = some (r, t') → ∀ (H : Heap) (locs : List Loc) (ls : Array Slot), XP shC g x.2.2.2 H → va_S (XA shC g) s.heap H locs → lv_has ls 4 [(0, .ref (g.2.2 (0, i, 0))), (1, .int x.1), (2, .int x.2.1), (3, .int x.2.2.1)] → W p l e (rmv 1) s m args below meth c H locs 0 0 (MQ below (XQi shC g r t') args s 0 0 (XA shC g)) (F0 m 4 ls [])) (x1 : Int32) (x2 : Int32) (x3 : Int32) (t : Mm) (H : Heap) (locs : List Loc) (ls : Array Slot) (hP : XP shC g t H) (hS : va_S (XA shC g) s.heap H locs) (hl : lv_has ls 4 [(0, .ref (g.2.2 (0, i, 0))), (1, .int x1), (2, .int x2), (3, .int x3)]) (h : f_X0_thoseWho_28 N i k4 x1 x2 x3 t = some (r, t')) : W p l e (rmv 1) s m args below meth c H locs 0 0 (MQ below (XQi shC g r t') args s 0 0 (XA shC g)) (F0 m 28 ls []) := by
  unfold f_X0_thoseWho_28 at h
  refine lv_iinc (v := (x3 + 1)) (lv' := [(3, .int (x3 + 1)), (0, .ref (g.2.2 (0, i, 0))), (1, .int x1), (2, .int x2)]) X.1.1 X.1.2.1 dX0_thoseWho_28 hl (k := 3) rfl rfl (by decide) rfl (fun ls hl => ?_)
  refine lv_goto (tgt := 4) X.1.1 X.1.2.1 dX0_thoseWho_31 (by decide) ?_
  exact hk4 (x1, x2, (x3 + 1), t) h _ _ _ hP hS (lv_sub hl [1, 2, 3, 0] rfl)
set_option maxRecDepth 100000 in
set_option maxHeartbeats 4000000 in
theorem wb_X0_thoseWho_4 {l : Launch} {g : Ly} {p : Program} {e : Env} {s : State} {m : MethodId} {args : Array Value} {below : List Frame} {meth : Method} {c : Code} (N : Nat) (i : Nat) (hi : i < 21) (X : XC p m meth c cX0_thoseWho 4 s args (.code yX0_thoseWho cX0_thoseWho 4 (some .int)) RX0 (some .int) shC g) {r : Int32} {t' : Mm} {k4 : Int32 × Int32 × Int32 × Mm → Option (Int32 × Mm)} (hk4 : ∀ x : Int32 × Int32 × Int32 × Mm, k4 x = some (r, t') → ∀ (H : Heap) (locs : List Loc) (ls : Array Slot), XP shC g x.2.2.2 H → va_S (XA shC g) s.heap H locs → lv_has ls 4 [(0, .ref (g.2.2 (0, i, 0))), (1, .int x.1), (2, .int x.2.1), (3, .int x.2.2.1)] → W p l e (rmv 1) s m args below meth c H locs 0 0 (MQ below (XQi shC g r t') args s 0 0 (XA shC g)) (F0 m 4 ls [])) (x1 : Int32) (x2 : Int32) (x3 : Int32) (t : Mm) (H : Heap) (locs : List Loc) (ls : Array Slot) (hP : XP shC g t H) (hS : va_S (XA shC g) s.heap H locs) (hl : lv_has ls 4 [(0, .ref (g.2.2 (0, i, 0))), (1, .int x1), (2, .int x2), (3, .int x3)]) (h : b_X0_thoseWho_4 N i k4 x1 x2 x3 t = some (r, t')) : W p l e (rmv 1) s m args below meth c H locs 0 0 (MQ below (XQi shC g r t') args s 0 0 (XA shC g)) (F0 m 4 ls []) := by
  unfold b_X0_thoseWho_4 at h
  refine lv_iload_n X.1.1 X.1.2.1 dX0_thoseWho_4 rfl (lv_at hl 3 rfl) ?_
  refine lv_aload_n X.1.1 X.1.2.1 dX0_thoseWho_5 rfl (lv_at hl 0 rfl) ?_
  refine gt_X0_1 X hP (kyF (by omega) (by decide)) wd_96 dX0_thoseWho_6 ?_
  refine lv_icmp_ge (tgt := 34) X.1.1 X.1.2.1 dX0_thoseWho_9 (by decide) (fun c_1 => ?_) (fun c_1 => ?_)
  · have h := o_pos c_1 h
    refine lv_iload_n X.1.1 X.1.2.1 dX0_thoseWho_34 rfl (lv_at hl 2 rfl) ?_
    cases h
    exact x_iret X hP hS dX0_thoseWho_35
  · have h := o_neg c_1 h
    refine lv_aload_n X.1.1 X.1.2.1 dX0_thoseWho_12 rfl (lv_at hl 0 rfl) ?_
    refine gt_X0_10 X hP (kyF (by omega) (by decide)) wd_125 dX0_thoseWho_13 ?_
    refine lv_iload_n X.1.1 X.1.2.1 dX0_thoseWho_16 rfl (lv_at hl 3 rfl) ?_
    obtain ⟨g_2, h⟩ := o_gd_inv h
    refine x_iald X hP (kyF (by omega) (by decide)) (fun _ _ => rfl) g_2 dX0_thoseWho_17 ?_
    refine lv_iload_n X.1.1 X.1.2.1 dX0_thoseWho_18 rfl (lv_at hl 1 rfl) ?_
    refine lv_icmp_ne (tgt := 28) X.1.1 X.1.2.1 dX0_thoseWho_19 (by decide) (fun c_3 => ?_) (fun c_3 => ?_)
    · have h := o_neg c_3 h
      exact w_X0_thoseWho_28 N i (by omega) X hk4 x1 x2 x3 t _ _ _ hP hS (lv_sub hl [0, 1, 2, 3] rfl) h
    · have h := o_pos c_3 h
      refine lv_iload_n X.1.1 X.1.2.1 dX0_thoseWho_22 rfl (lv_at hl 2 rfl) ?_
      refine lv_iconst (v := 1) X.1.1 X.1.2.1 dX0_thoseWho_23 (by decide) ?_
      refine lv_iload_n X.1.1 X.1.2.1 dX0_thoseWho_24 rfl (lv_at hl 3 rfl) ?_
      refine lv_ishl X.1.1 X.1.2.1 dX0_thoseWho_25 ?_
      refine lv_ior X.1.1 X.1.2.1 dX0_thoseWho_26 ?_
      refine lv_topi (fun x_4 e_5 => ?_)
      have h := o_nm_to e_5 h
      refine lv_istore_n (lv' := [(2, .int x_4), (0, .ref (g.2.2 (0, i, 0))), (1, .int x1), (3, .int x3)]) X.1.1 X.1.2.1 dX0_thoseWho_27 rfl hl (by decide) rfl (fun ls hl => ?_)
      exact w_X0_thoseWho_28 N i (by omega) X hk4 x1 x_4 x3 t _ _ _ hP hS (lv_sub hl [1, 2, 0, 3] rfl) h
set_option maxRecDepth 100000 in
set_option maxHeartbeats 4000000 in
theorem w_X0_thoseWho_4 {l : Launch} {g : Ly} {p : Program} {e : Env} {s : State} {m : MethodId} {args : Array Value} {below : List Frame} {meth : Method} {c : Code} (N : Nat) (i : Nat) (hi : i < 21) (X : XC p m meth c cX0_thoseWho 4 s args (.code yX0_thoseWho cX0_thoseWho 4 (some .int)) RX0 (some .int) shC g) {r : Int32} {t' : Mm} (x1 : Int32) (x2 : Int32) (x3 : Int32) (t : Mm) (H : Heap) (locs : List Loc) (ls : Array Slot) (hP : XP shC g t H) (hS : va_S (XA shC g) s.heap H locs) (hl : lv_has ls 4 [(0, .ref (g.2.2 (0, i, 0))), (1, .int x1), (2, .int x2), (3, .int x3)]) (h : f_X0_thoseWho_4 N i x1 x2 x3 t = some (r, t')) : W p l e (rmv 1) s m args below meth c H locs 0 0 (MQ below (XQi shC g r t') args s 0 0 (XA shC g)) (F0 m 4 ls []) :=
  o_lp_ind (P := fun x : Int32 × Int32 × Int32 × Mm => ∀ (H : Heap) (locs : List Loc) (ls : Array Slot), XP shC g x.2.2.2 H → va_S (XA shC g) s.heap H locs → lv_has ls 4 [(0, .ref (g.2.2 (0, i, 0))), (1, .int x.1), (2, .int x.2.1), (3, .int x.2.2.1)] → W p l e (rmv 1) s m args below meth c H locs 0 0 (MQ below (XQi shC g r t') args s 0 0 (XA shC g)) (F0 m 4 ls [])) (fun k hk x h H locs ls hP hS hl => wb_X0_thoseWho_4 N i hi X hk x.1 x.2.1 x.2.2.1 x.2.2.2 H locs ls hP hS hl h) N (x1, x2, x3, t) h H locs ls hP hS hl
set_option maxRecDepth 100000 in
set_option maxHeartbeats 4000000 in
theorem c_X0_thoseWho (l : Launch) (g : Ly) (N : Nat) (i : Nat) (hG : XG shC g) (hi : i < 21) (a0 : Int32) (t : Mm) {r : Int32} {t' : Mm} (h : f_X0_thoseWho N i a0 t = some (r, t')) : MI l yX0_thoseWho cX0_thoseWho 4 (some .int) 1 shC g [.ref (g.2.2 (0, i, 0)), .int a0] t (XQi shC g r t') := by
  refine x_met hG (by decide +kernel) (Nat.le_of_ble_eq_true rfl) ?_
  intro p e s m below meth c ls X hP hl
  have hS : va_S (XA shC g) s.heap s.heap [] := va_S.rf
  have hl : lv_has ls 4 [(0, .ref (g.2.2 (0, i, 0))), (1, .int a0)] := hl
  unfold f_X0_thoseWho at h
  generalize ([.ref (g.2.2 (0, i, 0)), .int a0] : List Value).toArray = args at X ⊢
  refine lv_iconst (v := 0) X.1.1 X.1.2.1 dX0_thoseWho_0 (by decide) ?_
  refine lv_istore_n (lv' := [(2, .int 0), (0, .ref (g.2.2 (0, i, 0))), (1, .int a0)]) X.1.1 X.1.2.1 dX0_thoseWho_1 rfl hl (by decide) rfl (fun ls hl => ?_)
  refine lv_iconst (v := 0) X.1.1 X.1.2.1 dX0_thoseWho_2 (by decide) ?_
  refine lv_istore_n (lv' := [(3, .int 0), (2, .int 0), (0, .ref (g.2.2 (0, i, 0))), (1, .int a0)]) X.1.1 X.1.2.1 dX0_thoseWho_3 rfl hl (by decide) rfl (fun ls hl => ?_)
  exact w_X0_thoseWho_4 N i (by omega) X a0 0 0 t _ _ _ hP hS (lv_sub hl [2, 3, 1, 0] rfl) h
/-- java/lang/Integer.bitCount(I)I -/
def f_J6_bitCount_0f7a4 (a0 : Int32) (t : Mm) : Option (Int32 × Mm) := o_nm ((a0 - (((a0.toUInt32 >>> ((1 : Int32).toUInt32 &&& Int32.toUInt32 31)).toInt32) &&& 1431655765))) fun x_1 => o_nm (((x_1 &&& 858993459) + (((x_1.toUInt32 >>> ((2 : Int32).toUInt32 &&& Int32.toUInt32 31)).toInt32) &&& 858993459))) fun x_3 => o_nm (((x_3 + ((x_3.toUInt32 >>> ((4 : Int32).toUInt32 &&& Int32.toUInt32 31)).toInt32)) &&& 252645135)) fun x_5 => o_nm ((x_5 + ((x_5.toUInt32 >>> ((8 : Int32).toUInt32 &&& Int32.toUInt32 31)).toInt32))) fun x_7 => o_nm ((x_7 + ((x_7.toUInt32 >>> ((16 : Int32).toUInt32 &&& Int32.toUInt32 31)).toInt32))) fun x_9 => some ((x_9 &&& 63), t)
theorem hd_J6_bitCount_0f7a4 : x_hd yJ6_bitCount_0f7a4 1 := by decide +kernel
set_option maxRecDepth 100000 in
set_option maxHeartbeats 4000000 in
theorem c_J6_bitCount_0f7a4 (l : Launch) (g : Ly) (hG : XG shC g) (a0 : Int32) (t : Mm) {r : Int32} {t' : Mm} (h : f_J6_bitCount_0f7a4 a0 t = some (r, t')) : MI l yJ6_bitCount_0f7a4 cJ6_bitCount_0f7a4 1 (some .int) 1 shC g [.int a0] t (XQi shC g r t') := by
  refine x_met hG (by decide +kernel) (Nat.le_of_ble_eq_true rfl) ?_
  intro p e s m below meth c ls X hP hl
  have hS : va_S (XA shC g) s.heap s.heap [] := va_S.rf
  have hl : lv_has ls 1 [(0, .int a0)] := hl
  unfold f_J6_bitCount_0f7a4 at h
  generalize ([.int a0] : List Value).toArray = args at X ⊢
  refine lv_iload_n X.1.1 X.1.2.1 dJ6_bitCount_0f7a4_0 rfl (lv_at hl 0 rfl) ?_
  refine lv_iload_n X.1.1 X.1.2.1 dJ6_bitCount_0f7a4_1 rfl (lv_at hl 0 rfl) ?_
  refine lv_iconst (v := 1) X.1.1 X.1.2.1 dJ6_bitCount_0f7a4_2 (by decide) ?_
  refine lv_iushr (v := (a0.toUInt32 >>> ((1 : Int32).toUInt32 &&& Int32.toUInt32 31)).toInt32) X.1.1 X.1.2.1 dJ6_bitCount_0f7a4_3 rfl ?_
  refine lv_ldcw (v := 1431655765) X.1.1 X.1.2.1 X.1.2.2.2.1 (X.1.2.2.2.2 _ (List.mem_cons_of_mem _ wd_373)) dJ6_bitCount_0f7a4_4 ?_
  refine lv_iand X.1.1 X.1.2.1 dJ6_bitCount_0f7a4_7 ?_
  refine lv_isub X.1.1 X.1.2.1 dJ6_bitCount_0f7a4_8 ?_
  refine lv_topi (fun x_1 e_2 => ?_)
  have h := o_nm_to e_2 h
  refine lv_istore_n (lv' := [(0, .int x_1)]) X.1.1 X.1.2.1 dJ6_bitCount_0f7a4_9 rfl hl (by decide) rfl (fun ls hl => ?_)
  refine lv_iload_n X.1.1 X.1.2.1 dJ6_bitCount_0f7a4_10 rfl (lv_at hl 0 rfl) ?_
  refine lv_ldcw (v := 858993459) X.1.1 X.1.2.1 X.1.2.2.2.1 (X.1.2.2.2.2 _ (List.mem_cons_of_mem _ wd_374)) dJ6_bitCount_0f7a4_11 ?_
  refine lv_iand X.1.1 X.1.2.1 dJ6_bitCount_0f7a4_14 ?_
  refine lv_iload_n X.1.1 X.1.2.1 dJ6_bitCount_0f7a4_15 rfl (lv_at hl 0 rfl) ?_
  refine lv_iconst (v := 2) X.1.1 X.1.2.1 dJ6_bitCount_0f7a4_16 (by decide) ?_
  refine lv_iushr (v := (x_1.toUInt32 >>> ((2 : Int32).toUInt32 &&& Int32.toUInt32 31)).toInt32) X.1.1 X.1.2.1 dJ6_bitCount_0f7a4_17 rfl ?_
  refine lv_ldcw (v := 858993459) X.1.1 X.1.2.1 X.1.2.2.2.1 (X.1.2.2.2.2 _ (List.mem_cons_of_mem _ wd_374)) dJ6_bitCount_0f7a4_18 ?_
  refine lv_iand X.1.1 X.1.2.1 dJ6_bitCount_0f7a4_21 ?_
  refine lv_iadd X.1.1 X.1.2.1 dJ6_bitCount_0f7a4_22 ?_
  refine lv_topi (fun x_3 e_4 => ?_)
  have h := o_nm_to e_4 h
  refine lv_istore_n (lv' := [(0, .int x_3)]) X.1.1 X.1.2.1 dJ6_bitCount_0f7a4_23 rfl hl (by decide) rfl (fun ls hl => ?_)
  refine lv_iload_n X.1.1 X.1.2.1 dJ6_bitCount_0f7a4_24 rfl (lv_at hl 0 rfl) ?_
  refine lv_iload_n X.1.1 X.1.2.1 dJ6_bitCount_0f7a4_25 rfl (lv_at hl 0 rfl) ?_
  refine lv_iconst (v := 4) X.1.1 X.1.2.1 dJ6_bitCount_0f7a4_26 (by decide) ?_
  refine lv_iushr (v := (x_3.toUInt32 >>> ((4 : Int32).toUInt32 &&& Int32.toUInt32 31)).toInt32) X.1.1 X.1.2.1 dJ6_bitCount_0f7a4_27 rfl ?_
  refine lv_iadd X.1.1 X.1.2.1 dJ6_bitCount_0f7a4_28 ?_
  refine lv_ldcw (v := 252645135) X.1.1 X.1.2.1 X.1.2.2.2.1 (X.1.2.2.2.2 _ (List.mem_cons_of_mem _ wd_375)) dJ6_bitCount_0f7a4_29 ?_
  refine lv_iand X.1.1 X.1.2.1 dJ6_bitCount_0f7a4_32 ?_
  refine lv_topi (fun x_5 e_6 => ?_)
  have h := o_nm_to e_6 h
  refine lv_istore_n (lv' := [(0, .int x_5)]) X.1.1 X.1.2.1 dJ6_bitCount_0f7a4_33 rfl hl (by decide) rfl (fun ls hl => ?_)
  refine lv_iload_n X.1.1 X.1.2.1 dJ6_bitCount_0f7a4_34 rfl (lv_at hl 0 rfl) ?_
  refine lv_iload_n X.1.1 X.1.2.1 dJ6_bitCount_0f7a4_35 rfl (lv_at hl 0 rfl) ?_
  refine lv_bipush (v := 8) X.1.1 X.1.2.1 dJ6_bitCount_0f7a4_36 (by decide) ?_
  refine lv_iushr (v := (x_5.toUInt32 >>> ((8 : Int32).toUInt32 &&& Int32.toUInt32 31)).toInt32) X.1.1 X.1.2.1 dJ6_bitCount_0f7a4_38 rfl ?_
  refine lv_iadd X.1.1 X.1.2.1 dJ6_bitCount_0f7a4_39 ?_
  refine lv_topi (fun x_7 e_8 => ?_)
  have h := o_nm_to e_8 h
  refine lv_istore_n (lv' := [(0, .int x_7)]) X.1.1 X.1.2.1 dJ6_bitCount_0f7a4_40 rfl hl (by decide) rfl (fun ls hl => ?_)
  refine lv_iload_n X.1.1 X.1.2.1 dJ6_bitCount_0f7a4_41 rfl (lv_at hl 0 rfl) ?_
  refine lv_iload_n X.1.1 X.1.2.1 dJ6_bitCount_0f7a4_42 rfl (lv_at hl 0 rfl) ?_
  refine lv_bipush (v := 16) X.1.1 X.1.2.1 dJ6_bitCount_0f7a4_43 (by decide) ?_
  refine lv_iushr (v := (x_7.toUInt32 >>> ((16 : Int32).toUInt32 &&& Int32.toUInt32 31)).toInt32) X.1.1 X.1.2.1 dJ6_bitCount_0f7a4_45 rfl ?_
  refine lv_iadd X.1.1 X.1.2.1 dJ6_bitCount_0f7a4_46 ?_
  refine lv_topi (fun x_9 e_10 => ?_)
  have h := o_nm_to e_10 h
  refine lv_istore_n (lv' := [(0, .int x_9)]) X.1.1 X.1.2.1 dJ6_bitCount_0f7a4_47 rfl hl (by decide) rfl (fun ls hl => ?_)
  refine lv_iload_n X.1.1 X.1.2.1 dJ6_bitCount_0f7a4_48 rfl (lv_at hl 0 rfl) ?_
  refine lv_bipush (v := 63) X.1.1 X.1.2.1 dJ6_bitCount_0f7a4_49 (by decide) ?_
  refine lv_iand X.1.1 X.1.2.1 dJ6_bitCount_0f7a4_51 ?_
  cases h
  exact x_iret X hP hS dJ6_bitCount_0f7a4_52
def f_X0_hoursAmong_48 (i : Nat) (x1 : Int32) (x2 : Int32) (x4 : Int32) (x6 : Int32) (s0 : Int32) (t : Mm) : Option (Int32 × Mm) := o_nm ((if 2 < x6 then 2 else x6)) fun x_1 => if o_inb x2 5 = true then (if (t.1 0 i 3 (x2.toNatClampNeg)) = 0 then (some (x6, t)) else (if (t.1 0 i 3 (x2.toNatClampNeg)) = 1 then (some (s0, t)) else (if (t.1 0 i 3 (x2.toNatClampNeg)) = 2 then (some (x_1, t)) else (if (t.1 0 i 3 (x2.toNatClampNeg)) = 3 then (some ((s0 + x1), t)) else (if (t.1 0 i 3 (x2.toNatClampNeg)) = 4 then (if (x4 - x4 / 2 * 2) = 0 then (some ((if 1 < (x_1 - 1) then (x_1 - 1) else 1), t)) else (some (x_1, t))) else (some (x6, t))))))) else none
def f_X0_hoursAmong_32 (i : Nat) (x1 : Int32) (x2 : Int32) (x4 : Int32) (x5 : Int32) (s0 : Int32) (t : Mm) : Option (Int32 × Mm) := if x5 = 0 then (f_X0_hoursAmong_48 i x1 x2 x4 s0 (2 * s0) t) else (f_X0_hoursAmong_48 i x1 x2 x4 s0 s0 t)
/-- FordQuestions$Ford.hoursAmong(IIII)I -/
def f_X0_hoursAmong (i : Nat) (a0 : Int32) (a1 : Int32) (a2 : Int32) (a3 : Int32) (t : Mm) : Option (Int32 × Mm) := if o_inb a1 5 = true then (if o_inb a2 8 = true then (o_bd (f_X7_isIn (t.1 0 i 4 (a1.toNatClampNeg)) (t.1 0 i 1 (a2.toNatClampNeg)) t) fun (r_15, t_13) => if r_15 = 0 then (if o_inb a2 8 = true then (f_X0_hoursAmong_32 i a0 a1 a3 r_15 (t_13.1 0 i 2 (a2.toNatClampNeg)) t_13) else none) else (f_X0_hoursAmong_32 i a0 a1 a3 r_15 1 t_13)) else none) else none
theorem hd_X0_hoursAmong : x_hd yX0_hoursAmong 4 := by decide +kernel
set_option maxRecDepth 100000 in
set_option maxHeartbeats 4000000 in
theorem w_X0_hoursAmong_48 {l : Launch} {g : Ly} {p : Program} {e : Env} {s : State} {m : MethodId} {args : Array Value} {below : List Frame} {meth : Method} {c : Code} (i : Nat) (hi : i < 21) (X : XC p m meth c cX0_hoursAmong 9 s args (.code yX0_hoursAmong cX0_hoursAmong 9 (some .int)) RX0 (some .int) shC g) {r : Int32} {t' : Mm} (x1 : Int32) (x2 : Int32) (x4 : Int32) (x6 : Int32) (s0 : Int32) (t : Mm) (H : Heap) (locs : List Loc) (ls : Array Slot) (hP : XP shC g t H) (hS : va_S (XA shC g) s.heap H locs) (hl : lv_has ls 9 [(0, .ref (g.2.2 (0, i, 0))), (1, .int x1), (2, .int x2), (4, .int x4), (6, .int x6)]) (h : f_X0_hoursAmong_48 i x1 x2 x4 x6 s0 t = some (r, t')) : W p l e (rmv 2) s m args below meth c H locs 0 0 (MQ below (XQi shC g r t') args s 0 0 (XA shC g)) (F0 m 48 ls [.int s0]) := by
  unfold f_X0_hoursAmong_48 at h
  refine lv_istore (lv' := [(7, .int s0), (0, .ref (g.2.2 (0, i, 0))), (1, .int x1), (2, .int x2), (4, .int x4), (6, .int x6)]) X.1.1 X.1.2.1 dX0_hoursAmong_48 hl (by decide) rfl (fun ls hl => ?_)
  refine lv_iload X.1.1 X.1.2.1 dX0_hoursAmong_50 (lv_at hl 5 rfl) ?_
  refine lv_iconst (v := 2) X.1.1 X.1.2.1 dX0_hoursAmong_52 (by decide) ?_
  refine x_min X ⟨wd_380, wd_381, wd_64, wd_382⟩ hl.1 (by decide) (Nat.le_of_ble_eq_true rfl) dX0_hoursAmong_53 ?_
  refine lv_topi (fun x_1 e_2 => ?_)
  have h := o_nm_to e_2 h
  refine lv_istore (lv' := [(8, .int x_1), (7, .int s0), (0, .ref (g.2.2 (0, i, 0))), (1, .int x1), (2, .int x2), (4, .int x4), (6, .int x6)]) X.1.1 X.1.2.1 dX0_hoursAmong_56 hl (by decide) rfl (fun ls hl => ?_)
  refine lv_aload_n X.1.1 X.1.2.1 dX0_hoursAmong_58 rfl (lv_at hl 2 rfl) ?_
  refine gt_X0_7 X hP (kyF (by omega) (by decide)) wd_115 dX0_hoursAmong_59 ?_
  refine lv_iload_n X.1.1 X.1.2.1 dX0_hoursAmong_62 rfl (lv_at hl 4 rfl) ?_
  obtain ⟨g_3, h⟩ := o_gd_inv h
  refine x_iald X hP (kyF (by omega) (by decide)) (fun _ _ => rfl) g_3 dX0_hoursAmong_63 ?_
  by_cases c_4 : (t.1 0 i 3 (x2.toNatClampNeg)) = 0
  · have h := o_pos c_4 h
    refine lv_tableIn (off := 68) (tgt := 132) X.1.1 X.1.2.1 dX0_hoursAmong_64 (by rw [c_4]; decide) (by rw [c_4]; decide) (by rw [c_4]; rfl) (by decide) ?_
    refine lv_iload X.1.1 X.1.2.1 dX0_hoursAmong_132 (lv_at hl 6 rfl) ?_
    cases h
    exact x_iret X hP hS dX0_hoursAmong_134
  · have h := o_neg c_4 h
    by_cases c_5 : (t.1 0 i 3 (x2.toNatClampNeg)) = 1
    · have h := o_pos c_5 h
      refine lv_tableIn (off := 36) (tgt := 100) X.1.1 X.1.2.1 dX0_hoursAmong_64 (by rw [c_5]; decide) (by rw [c_5]; decide) (by rw [c_5]; rfl) (by decide) ?_
      refine lv_iload X.1.1 X.1.2.1 dX0_hoursAmong_100 (lv_at hl 1 rfl) ?_
      cases h
      exact x_iret X hP hS dX0_hoursAmong_102
    · have h := o_neg c_5 h
      by_cases c_6 : (t.1 0 i 3 (x2.toNatClampNeg)) = 2
      · have h := o_pos c_6 h
        refine lv_tableIn (off := 39) (tgt := 103) X.1.1 X.1.2.1 dX0_hoursAmong_64 (by rw [c_6]; decide) (by rw [c_6]; decide) (by rw [c_6]; rfl) (by decide) ?_
        refine lv_iload X.1.1 X.1.2.1 dX0_hoursAmong_103 (lv_at hl 0 rfl) ?_
        cases h
        exact x_iret X hP hS dX0_hoursAmong_105
      · have h := o_neg c_6 h
        by_cases c_7 : (t.1 0 i 3 (x2.toNatClampNeg)) = 3
        · have h := o_pos c_7 h
          refine lv_tableIn (off := 42) (tgt := 106) X.1.1 X.1.2.1 dX0_hoursAmong_64 (by rw [c_7]; decide) (by rw [c_7]; decide) (by rw [c_7]; rfl) (by decide) ?_
          refine lv_iload X.1.1 X.1.2.1 dX0_hoursAmong_106 (lv_at hl 1 rfl) ?_
          refine lv_iload_n X.1.1 X.1.2.1 dX0_hoursAmong_108 rfl (lv_at hl 3 rfl) ?_
          refine lv_iadd X.1.1 X.1.2.1 dX0_hoursAmong_109 ?_
          cases h
          exact x_iret X hP hS dX0_hoursAmong_110
        · have h := o_neg c_7 h
          by_cases c_8 : (t.1 0 i 3 (x2.toNatClampNeg)) = 4
          · have h := o_pos c_8 h
            refine lv_tableIn (off := 47) (tgt := 111) X.1.1 X.1.2.1 dX0_hoursAmong_64 (by rw [c_8]; decide) (by rw [c_8]; decide) (by rw [c_8]; rfl) (by decide) ?_
            refine lv_iload X.1.1 X.1.2.1 dX0_hoursAmong_111 (lv_at hl 5 rfl) ?_
            refine lv_iconst (v := 2) X.1.1 X.1.2.1 dX0_hoursAmong_113 (by decide) ?_
            refine lv_irem X.1.1 X.1.2.1 dX0_hoursAmong_114 (by decide) ?_
            refine lv_if_ne (tgt := 129) X.1.1 X.1.2.1 dX0_hoursAmong_115 (by decide) (fun c_9 => ?_) (fun c_9 => ?_)
            · have h := o_neg c_9 h
              refine lv_iload X.1.1 X.1.2.1 dX0_hoursAmong_129 (lv_at hl 0 rfl) ?_
              cases h
              exact x_iret X hP hS dX0_hoursAmong_131
            · have h := o_pos c_9 h
              refine lv_iconst (v := 1) X.1.1 X.1.2.1 dX0_hoursAmong_118 (by decide) ?_
              refine lv_iload X.1.1 X.1.2.1 dX0_hoursAmong_119 (lv_at hl 0 rfl) ?_
              refine lv_iconst (v := 1) X.1.1 X.1.2.1 dX0_hoursAmong_121 (by decide) ?_
              refine lv_isub X.1.1 X.1.2.1 dX0_hoursAmong_122 ?_
              refine x_max X ⟨wd_383, wd_384, wd_64, wd_385⟩ hl.1 (by decide) (Nat.le_of_ble_eq_true rfl) dX0_hoursAmong_123 ?_
              refine lv_goto (tgt := 131) X.1.1 X.1.2.1 dX0_hoursAmong_126 (by decide) ?_
              cases h
              exact x_iret X hP hS dX0_hoursAmong_131
          · have h := o_neg c_8 h
            have qc_4 := x_ne (n := 0) c_4 (by decide)
            have qc_5 := x_ne (n := 1) c_5 (by decide)
            have qc_6 := x_ne (n := 2) c_6 (by decide)
            have qc_7 := x_ne (n := 3) c_7 (by decide)
            have qc_8 := x_ne (n := 4) c_8 (by decide)
            refine lv_tableOut (tgt := 132) X.1.1 X.1.2.1 dX0_hoursAmong_64 (by omega) (by decide) ?_
            refine lv_iload X.1.1 X.1.2.1 dX0_hoursAmong_132 (lv_at hl 6 rfl) ?_
            cases h
            exact x_iret X hP hS dX0_hoursAmong_134
set_option maxRecDepth 100000 in
set_option maxHeartbeats 4000000 in
theorem w_X0_hoursAmong_32 {l : Launch} {g : Ly} {p : Program} {e : Env} {s : State} {m : MethodId} {args : Array Value} {below : List Frame} {meth : Method} {c : Code} (i : Nat) (hi : i < 21) (X : XC p m meth c cX0_hoursAmong 9 s args (.code yX0_hoursAmong cX0_hoursAmong 9 (some .int)) RX0 (some .int) shC g) {r : Int32} {t' : Mm} (x1 : Int32) (x2 : Int32) (x4 : Int32) (x5 : Int32) (s0 : Int32) (t : Mm) (H : Heap) (locs : List Loc) (ls : Array Slot) (hP : XP shC g t H) (hS : va_S (XA shC g) s.heap H locs) (hl : lv_has ls 9 [(0, .ref (g.2.2 (0, i, 0))), (1, .int x1), (2, .int x2), (4, .int x4), (5, .int x5)]) (h : f_X0_hoursAmong_32 i x1 x2 x4 x5 s0 t = some (r, t')) : W p l e (rmv 2) s m args below meth c H locs 0 0 (MQ below (XQi shC g r t') args s 0 0 (XA shC g)) (F0 m 32 ls [.int s0]) := by
  unfold f_X0_hoursAmong_32 at h
  refine lv_istore (lv' := [(6, .int s0), (0, .ref (g.2.2 (0, i, 0))), (1, .int x1), (2, .int x2), (4, .int x4), (5, .int x5)]) X.1.1 X.1.2.1 dX0_hoursAmong_32 hl (by decide) rfl (fun ls hl => ?_)
  refine lv_iload X.1.1 X.1.2.1 dX0_hoursAmong_34 (lv_at hl 5 rfl) ?_
  refine lv_if_eq (tgt := 44) X.1.1 X.1.2.1 dX0_hoursAmong_36 (by decide) (fun c_10 => ?_) (fun c_10 => ?_)
  · have h := o_pos c_10 h
    refine lv_iconst (v := 2) X.1.1 X.1.2.1 dX0_hoursAmong_44 (by decide) ?_
    refine lv_iload X.1.1 X.1.2.1 dX0_hoursAmong_45 (lv_at hl 0 rfl) ?_
    refine lv_imul X.1.1 X.1.2.1 dX0_hoursAmong_47 ?_
    exact w_X0_hoursAmong_48 i (by omega) X x1 x2 x4 s0 (2 * s0) t _ _ _ hP hS (lv_sub hl [1, 2, 3, 4, 0] rfl) h
  · have h := o_neg c_10 h
    refine lv_iload X.1.1 X.1.2.1 dX0_hoursAmong_39 (lv_at hl 0 rfl) ?_
    refine lv_goto (tgt := 48) X.1.1 X.1.2.1 dX0_hoursAmong_41 (by decide) ?_
    exact w_X0_hoursAmong_48 i (by omega) X x1 x2 x4 s0 s0 t _ _ _ hP hS (lv_sub hl [1, 2, 3, 4, 0] rfl) h
set_option maxRecDepth 100000 in
set_option maxHeartbeats 4000000 in
theorem c_X0_hoursAmong (l : Launch) (g : Ly) (i : Nat) (hG : XG shC g) (hi : i < 21) (a0 : Int32) (a1 : Int32) (a2 : Int32) (a3 : Int32) (t : Mm) {r : Int32} {t' : Mm} (h : f_X0_hoursAmong i a0 a1 a2 a3 t = some (r, t')) : MI l yX0_hoursAmong cX0_hoursAmong 9 (some .int) 2 shC g [.ref (g.2.2 (0, i, 0)), .int a0, .int a1, .int a2, .int a3] t (XQi shC g r t') := by
  refine x_met hG (by decide +kernel) (Nat.le_of_ble_eq_true rfl) ?_
  intro p e s m below meth c ls X hP hl
  have hS : va_S (XA shC g) s.heap s.heap [] := va_S.rf
  have hl : lv_has ls 9 [(0, .ref (g.2.2 (0, i, 0))), (1, .int a0), (2, .int a1), (3, .int a2), (4, .int a3)] := hl
  unfold f_X0_hoursAmong at h
  generalize ([.ref (g.2.2 (0, i, 0)), .int a0, .int a1, .int a2, .int a3] : List Value).toArray = args at X ⊢
  refine lv_aload_n X.1.1 X.1.2.1 dX0_hoursAmong_0 rfl (lv_at hl 0 rfl) ?_
  refine gt_X0_8 X hP (kyF (by omega) (by decide)) wd_118 dX0_hoursAmong_1 ?_
  refine lv_iload_n X.1.1 X.1.2.1 dX0_hoursAmong_4 rfl (lv_at hl 2 rfl) ?_
  obtain ⟨g_11, h⟩ := o_gd_inv h
  refine x_iald X hP (kyF (by omega) (by decide)) (fun _ _ => rfl) g_11 dX0_hoursAmong_5 ?_
  refine lv_aload_n X.1.1 X.1.2.1 dX0_hoursAmong_6 rfl (lv_at hl 0 rfl) ?_
  refine gt_X0_5 X hP (kyF (by omega) (by decide)) wd_111 dX0_hoursAmong_7 ?_
  refine lv_iload_n X.1.1 X.1.2.1 dX0_hoursAmong_10 rfl (lv_at hl 3 rfl) ?_
  obtain ⟨g_12, h⟩ := o_gd_inv h
  refine x_iald X hP (kyF (by omega) (by decide)) (fun _ _ => rfl) g_12 dX0_hoursAmong_11 ?_
  obtain ⟨⟨r_15, t_13⟩, hc_14, h⟩ := o_bd_inv h
  refine x_calli (x_runSN (As := [.int (t.1 0 i 4 (a1.toNatClampNeg)), .int (t.1 0 i 1 (a2.toNatClampNeg))]) (rest := []) X hP (c_X7_isIn l g X.2.2.2.2 (t.1 0 i 4 (a1.toNatClampNeg)) (t.1 0 i 1 (a2.toNatClampNeg)) t hc_14) ⟨wd_349, wd_347, wd_348, wd_54⟩ hd_X7_isIn ⟨by decide, by decide⟩ rfl hl.1 rfl (Nat.le_of_ble_eq_true rfl) dX0_hoursAmong_12) hS (fun H locs hP hS => ?_)
  refine lv_istore (lv' := [(5, .int r_15), (0, .ref (g.2.2 (0, i, 0))), (1, .int a0), (2, .int a1), (3, .int a2), (4, .int a3)]) X.1.1 X.1.2.1 dX0_hoursAmong_15 hl (by decide) rfl (fun ls hl => ?_)
  refine lv_iload X.1.1 X.1.2.1 dX0_hoursAmong_17 (lv_at hl 0 rfl) ?_
  refine lv_if_eq (tgt := 26) X.1.1 X.1.2.1 dX0_hoursAmong_19 (by decide) (fun c_17 => ?_) (fun c_17 => ?_)
  · have h := o_pos c_17 h
    refine lv_aload_n X.1.1 X.1.2.1 dX0_hoursAmong_26 rfl (lv_at hl 1 rfl) ?_
    refine gt_X0_6 X hP (kyF (by omega) (by decide)) wd_113 dX0_hoursAmong_27 ?_
    refine lv_iload_n X.1.1 X.1.2.1 dX0_hoursAmong_30 rfl (lv_at hl 4 rfl) ?_
    obtain ⟨g_18, h⟩ := o_gd_inv h
    refine x_iald X hP (kyF (by omega) (by decide)) (fun _ _ => rfl) g_18 dX0_hoursAmong_31 ?_
    exact w_X0_hoursAmong_32 i (by omega) X a0 a1 a3 r_15 (t_13.1 0 i 2 (a2.toNatClampNeg)) t_13 _ _ _ hP hS (lv_sub hl [1, 2, 3, 5, 0] rfl) h
  · have h := o_neg c_17 h
    refine lv_iconst (v := 1) X.1.1 X.1.2.1 dX0_hoursAmong_22 (by decide) ?_
    refine lv_goto (tgt := 32) X.1.1 X.1.2.1 dX0_hoursAmong_23 (by decide) ?_
    exact w_X0_hoursAmong_32 i (by omega) X a0 a1 a3 r_15 1 t_13 _ _ _ hP hS (lv_sub hl [1, 2, 3, 5, 0] rfl) h
/-- FordQuestions$Ford.hoursFor(II)I -/
def f_X0_hoursFor (N : Nat) (i : Nat) (a0 : Int32) (a1 : Int32) (t : Mm) : Option (Int32 × Mm) := o_bd (f_X0_thoseWho N i 1 t) fun (r_3, t_1) => o_bd (f_J6_bitCount_0f7a4 (r_3 &&& ((1 <<< (a0 &&& 31)) ^^^ (-1))) t_1) fun (r_7, t_5) => o_bd (f_X0_hoursAmong i r_7 a0 a1 (t_5.1 0 i 0 3) t_5) fun (r_11, t_9) => some (r_11, t_9)
theorem hd_X0_hoursFor : x_hd yX0_hoursFor 2 := by decide +kernel
set_option maxRecDepth 100000 in
set_option maxHeartbeats 4000000 in
theorem c_X0_hoursFor (l : Launch) (g : Ly) (N : Nat) (i : Nat) (hG : XG shC g) (hi : i < 21) (a0 : Int32) (a1 : Int32) (t : Mm) {r : Int32} {t' : Mm} (h : f_X0_hoursFor N i a0 a1 t = some (r, t')) : MI l yX0_hoursFor cX0_hoursFor 4 (some .int) 3 shC g [.ref (g.2.2 (0, i, 0)), .int a0, .int a1] t (XQi shC g r t') := by
  refine x_met hG (by decide +kernel) (Nat.le_of_ble_eq_true rfl) ?_
  intro p e s m below meth c ls X hP hl
  have hS : va_S (XA shC g) s.heap s.heap [] := va_S.rf
  have hl : lv_has ls 4 [(0, .ref (g.2.2 (0, i, 0))), (1, .int a0), (2, .int a1)] := hl
  unfold f_X0_hoursFor at h
  generalize ([.ref (g.2.2 (0, i, 0)), .int a0, .int a1] : List Value).toArray = args at X ⊢
  refine lv_aload_n X.1.1 X.1.2.1 dX0_hoursFor_0 rfl (lv_at hl 0 rfl) ?_
  refine lv_iconst (v := 1) X.1.1 X.1.2.1 dX0_hoursFor_1 (by decide) ?_
  obtain ⟨⟨r_3, t_1⟩, hc_2, h⟩ := o_bd_inv h
  refine x_calli (x_runV (As := [.int 1]) (rest := []) X hP (c_X0_thoseWho l g N i X.2.2.2.2 (by omega) 1 t hc_2) ⟨wd_369, wd_366, wd_367, wd_368, wd_56⟩ hd_X0_thoseWho ⟨by decide, by decide⟩ (x_recv X hP (ci := 0) rfl (kyF (by omega) (by decide)) rfl) rfl hl.1 rfl (Nat.le_of_ble_eq_true rfl) dX0_hoursFor_2) hS (fun H locs hP hS => ?_)
  refine lv_iconst (v := 1) X.1.1 X.1.2.1 dX0_hoursFor_5 (by decide) ?_
  refine lv_iload_n X.1.1 X.1.2.1 dX0_hoursFor_6 rfl (lv_at hl 1 rfl) ?_
  refine lv_ishl X.1.1 X.1.2.1 dX0_hoursFor_7 ?_
  refine lv_iconst (v := (-1)) X.1.1 X.1.2.1 dX0_hoursFor_8 (by decide) ?_
  refine lv_ixor X.1.1 X.1.2.1 dX0_hoursFor_9 ?_
  refine lv_iand X.1.1 X.1.2.1 dX0_hoursFor_10 ?_
  obtain ⟨⟨r_7, t_5⟩, hc_6, h⟩ := o_bd_inv h
  refine x_calli (x_runS (As := [.int (r_3 &&& ((1 <<< (a0 &&& 31)) ^^^ (-1)))]) (rest := []) X hP (c_J6_bitCount_0f7a4 l g X.2.2.2.2 (r_3 &&& ((1 <<< (a0 &&& 31)) ^^^ (-1))) t_1 hc_6) ⟨wd_372, wd_370, wd_371, wd_63⟩ hd_J6_bitCount_0f7a4 ⟨by decide, by decide⟩ rfl hl.1 rfl (Nat.le_of_ble_eq_true rfl) dX0_hoursFor_11) hS (fun H locs hP hS => ?_)
  refine lv_istore_n (lv' := [(3, .int r_7), (0, .ref (g.2.2 (0, i, 0))), (1, .int a0), (2, .int a1)]) X.1.1 X.1.2.1 dX0_hoursFor_14 rfl hl (by decide) rfl (fun ls hl => ?_)
  refine lv_aload_n X.1.1 X.1.2.1 dX0_hoursFor_15 rfl (lv_at hl 1 rfl) ?_
  refine lv_iload_n X.1.1 X.1.2.1 dX0_hoursFor_16 rfl (lv_at hl 0 rfl) ?_
  refine lv_iload_n X.1.1 X.1.2.1 dX0_hoursFor_17 rfl (lv_at hl 2 rfl) ?_
  refine lv_iload_n X.1.1 X.1.2.1 dX0_hoursFor_18 rfl (lv_at hl 3 rfl) ?_
  refine lv_aload_n X.1.1 X.1.2.1 dX0_hoursFor_19 rfl (lv_at hl 1 rfl) ?_
  refine gt_X0_3 X hP (kyF (by omega) (by decide)) wd_105 dX0_hoursFor_20 ?_
  obtain ⟨⟨r_11, t_9⟩, hc_10, h⟩ := o_bd_inv h
  refine x_calli (x_runV (As := [.int r_7, .int a0, .int a1, .int (t_5.1 0 i 0 3)]) (rest := []) X hP (c_X0_hoursAmong l g i X.2.2.2.2 (by omega) r_7 a0 a1 (t_5.1 0 i 0 3) t_5 hc_10) ⟨wd_379, wd_376, wd_377, wd_378, wd_56⟩ hd_X0_hoursAmong ⟨by decide, by decide⟩ (x_recv X hP (ci := 0) rfl (kyF (by omega) (by decide)) rfl) rfl hl.1 rfl (Nat.le_of_ble_eq_true rfl) dX0_hoursFor_23) hS (fun H locs hP hS => ?_)
  cases h
  exact x_iret X hP hS dX0_hoursFor_26
def b_X0_firstNotAsked_2 (N : Nat) (i : Nat) (k2 : Int32 × Mm → Option (Int32 × Mm)) (x1 : Int32) (t : Mm) : Option (Int32 × Mm) := if (t.1 0 i 0 0) ≤ x1 then (some ((-4), t)) else (o_bd (f_X0_isAsked i x1 t) fun (r_4, t_2) => if r_4 = 0 then (some (x1, t_2)) else (k2 ((x1 + 1), t_2)))
def f_X0_firstNotAsked_2 (N : Nat) (i : Nat) (x1 : Int32) (t : Mm) : Option (Int32 × Mm) := o_lp (fun k x => b_X0_firstNotAsked_2 N i k x.1 x.2) N (x1, t)
/-- FordQuestions$Ford.firstNotAsked()I -/
def f_X0_firstNotAsked (N : Nat) (i : Nat) (t : Mm) : Option (Int32 × Mm) := f_X0_firstNotAsked_2 N i 0 t
theorem hd_X0_firstNotAsked : x_hd yX0_firstNotAsked 0 := by decide +kernel
set_option maxRecDepth 100000 in
set_option maxHeartbeats 4000000 in
theorem wb_X0_firstNotAsked_2 {l : Launch} {g : Ly} {p : Program} {e : Env} {s : State} {m : MethodId} {args : Array Value} {below : List Frame} {meth : Method} {c : Code} (N : Nat) (i : Nat) (hi : i < 21) (X : XC p m meth c cX0_firstNotAsked 2 s args (.code yX0_firstNotAsked cX0_firstNotAsked 2 (some .int)) RX0 (some .int) shC g) {r : Int32} {t' : Mm} {k2 : Int32 × Mm → Option (Int32 × Mm)} (hk2 : ∀ x : Int32 × Mm, k2 x = some (r, t') → ∀ (H : Heap) (locs : List Loc) (ls : Array Slot), XP shC g x.2 H → va_S (XA shC g) s.heap H locs → lv_has ls 2 [(0, .ref (g.2.2 (0, i, 0))), (1, .int x.1)] → W p l e (rmv 3) s m args below meth c H locs 0 0 (MQ below (XQi shC g r t') args s 0 0 (XA shC g)) (F0 m 2 ls [])) (x1 : Int32) (t : Mm) (H : Heap) (locs : List Loc) (ls : Array Slot) (hP : XP shC g t H) (hS : va_S (XA shC g) s.heap H locs) (hl : lv_has ls 2 [(0, .ref (g.2.2 (0, i, 0))), (1, .int x1)]) (h : b_X0_firstNotAsked_2 N i k2 x1 t = some (r, t')) : W p l e (rmv 3) s m args below meth c H locs 0 0 (MQ below (XQi shC g r t') args s 0 0 (XA shC g)) (F0 m 2 ls []) := by
  unfold b_X0_firstNotAsked_2 at h
  refine lv_iload_n X.1.1 X.1.2.1 dX0_firstNotAsked_2 rfl (lv_at hl 1 rfl) ?_
  refine lv_aload_n X.1.1 X.1.2.1 dX0_firstNotAsked_3 rfl (lv_at hl 0 rfl) ?_
  refine gt_X0_0 X hP (kyF (by omega) (by decide)) wd_92 dX0_firstNotAsked_4 ?_
  refine lv_icmp_ge (tgt := 26) X.1.1 X.1.2.1 dX0_firstNotAsked_7 (by decide) (fun c_1 => ?_) (fun c_1 => ?_)
  · have h := o_pos c_1 h
    refine lv_bipush (v := (-4)) X.1.1 X.1.2.1 dX0_firstNotAsked_26 (by decide) ?_
    cases h
    exact x_iret X hP hS dX0_firstNotAsked_28
  · have h := o_neg c_1 h
    refine lv_aload_n X.1.1 X.1.2.1 dX0_firstNotAsked_10 rfl (lv_at hl 0 rfl) ?_
    refine lv_iload_n X.1.1 X.1.2.1 dX0_firstNotAsked_11 rfl (lv_at hl 1 rfl) ?_
    obtain ⟨⟨r_4, t_2⟩, hc_3, h⟩ := o_bd_inv h
    refine x_calli (x_runV (As := [.int x1]) (rest := []) X hP (c_X0_isAsked l g i X.2.2.2.2 (by omega) x1 t hc_3) ⟨wd_346, wd_590, wd_344, wd_345, wd_56⟩ hd_X0_isAsked ⟨by decide, by decide⟩ (x_recv X hP (ci := 0) rfl (kyF (by omega) (by decide)) rfl) rfl hl.1 rfl (Nat.le_of_ble_eq_true rfl) dX0_firstNotAsked_12) hS (fun H locs hP hS => ?_)
    refine lv_if_ne (tgt := 20) X.1.1 X.1.2.1 dX0_firstNotAsked_15 (by decide) (fun c_6 => ?_) (fun c_6 => ?_)
    · have h := o_neg c_6 h
      refine lv_iinc (v := (x1 + 1)) (lv' := [(1, .int (x1 + 1)), (0, .ref (g.2.2 (0, i, 0)))]) X.1.1 X.1.2.1 dX0_firstNotAsked_20 hl (k := 1) rfl rfl (by decide) rfl (fun ls hl => ?_)
      refine lv_goto (tgt := 2) X.1.1 X.1.2.1 dX0_firstNotAsked_23 (by decide) ?_
      exact hk2 ((x1 + 1), t_2) h _ _ _ hP hS (lv_sub hl [1, 0] rfl)
    · have h := o_pos c_6 h
      refine lv_iload_n X.1.1 X.1.2.1 dX0_firstNotAsked_18 rfl (lv_at hl 1 rfl) ?_
      cases h
      exact x_iret X hP hS dX0_firstNotAsked_19
set_option maxRecDepth 100000 in
set_option maxHeartbeats 4000000 in
theorem w_X0_firstNotAsked_2 {l : Launch} {g : Ly} {p : Program} {e : Env} {s : State} {m : MethodId} {args : Array Value} {below : List Frame} {meth : Method} {c : Code} (N : Nat) (i : Nat) (hi : i < 21) (X : XC p m meth c cX0_firstNotAsked 2 s args (.code yX0_firstNotAsked cX0_firstNotAsked 2 (some .int)) RX0 (some .int) shC g) {r : Int32} {t' : Mm} (x1 : Int32) (t : Mm) (H : Heap) (locs : List Loc) (ls : Array Slot) (hP : XP shC g t H) (hS : va_S (XA shC g) s.heap H locs) (hl : lv_has ls 2 [(0, .ref (g.2.2 (0, i, 0))), (1, .int x1)]) (h : f_X0_firstNotAsked_2 N i x1 t = some (r, t')) : W p l e (rmv 3) s m args below meth c H locs 0 0 (MQ below (XQi shC g r t') args s 0 0 (XA shC g)) (F0 m 2 ls []) :=
  o_lp_ind (P := fun x : Int32 × Mm => ∀ (H : Heap) (locs : List Loc) (ls : Array Slot), XP shC g x.2 H → va_S (XA shC g) s.heap H locs → lv_has ls 2 [(0, .ref (g.2.2 (0, i, 0))), (1, .int x.1)] → W p l e (rmv 3) s m args below meth c H locs 0 0 (MQ below (XQi shC g r t') args s 0 0 (XA shC g)) (F0 m 2 ls [])) (fun k hk x h H locs ls hP hS hl => wb_X0_firstNotAsked_2 N i hi X hk x.1 x.2 H locs ls hP hS hl h) N (x1, t) h H locs ls hP hS hl
set_option maxRecDepth 100000 in
set_option maxHeartbeats 4000000 in
theorem c_X0_firstNotAsked (l : Launch) (g : Ly) (N : Nat) (i : Nat) (hG : XG shC g) (hi : i < 21) (t : Mm) {r : Int32} {t' : Mm} (h : f_X0_firstNotAsked N i t = some (r, t')) : MI l yX0_firstNotAsked cX0_firstNotAsked 2 (some .int) 3 shC g [.ref (g.2.2 (0, i, 0))] t (XQi shC g r t') := by
  refine x_met hG (by decide +kernel) (Nat.le_of_ble_eq_true rfl) ?_
  intro p e s m below meth c ls X hP hl
  have hS : va_S (XA shC g) s.heap s.heap [] := va_S.rf
  have hl : lv_has ls 2 [(0, .ref (g.2.2 (0, i, 0)))] := hl
  unfold f_X0_firstNotAsked at h
  generalize ([.ref (g.2.2 (0, i, 0))] : List Value).toArray = args at X ⊢
  refine lv_iconst (v := 0) X.1.1 X.1.2.1 dX0_firstNotAsked_0 (by decide) ?_
  refine lv_istore_n (lv' := [(1, .int 0), (0, .ref (g.2.2 (0, i, 0)))]) X.1.1 X.1.2.1 dX0_firstNotAsked_1 rfl hl (by decide) rfl (fun ls hl => ?_)
  exact w_X0_firstNotAsked_2 N i (by omega) X 0 t _ _ _ hP hS (lv_sub hl [1, 0] rfl) h
/-- FordQuestions$Ford.letIn(I)V -/
def f_X0_letIn (N : Nat) (i : Nat) (a0 : Int32) (t : Mm) : Option (Mm) := o_bd (f_X0_firstNotAsked N i t) fun (r_3, t_1) => if r_3 = (-4) then (if o_inb a0 5 = true then (o_nm (sI t_1 0 i 6 (a0.toNatClampNeg) 2) fun t_27 => some t_27) else none) else (o_bd (f_X0_thoseWho N i 1 t_1) fun (r_8, t_6) => o_bd (f_J6_bitCount_0f7a4 r_8 t_6) fun (r_12, t_10) => o_bd (f_X0_hoursAmong i r_12 a0 r_3 (t_10.1 0 i 0 3) t_10) fun (r_16, t_14) => if o_inb a0 5 = true then (o_nm (sI t_14 0 i 7 (a0.toNatClampNeg) ((t_10.1 0 i 0 3) + r_16)) fun t_19 => if o_inb a0 5 = true then (o_nm (sI t_19 0 i 6 (a0.toNatClampNeg) 1) fun t_22 => o_nm (sI t_22 0 i 0 2 ((t_22.1 0 i 0 2) ||| (1 <<< (r_3 &&& 31)))) fun t_24 => some t_24) else none) else none)
theorem hd_X0_letIn : x_hd yX0_letIn 1 := by decide +kernel
set_option maxRecDepth 100000 in
set_option maxHeartbeats 4000000 in
theorem c_X0_letIn (l : Launch) (g : Ly) (N : Nat) (i : Nat) (hG : XG shC g) (hi : i < 21) (a0 : Int32) (t : Mm) {t' : Mm} (h : f_X0_letIn N i a0 t = some t') : MI l yX0_letIn cX0_letIn 4 none 4 shC g [.ref (g.2.2 (0, i, 0)), .int a0] t (XQv shC g t') := by
  refine x_met hG (by decide +kernel) (Nat.le_of_ble_eq_true rfl) ?_
  intro p e s m below meth c ls X hP hl
  have hS : va_S (XA shC g) s.heap s.heap [] := va_S.rf
  have hl : lv_has ls 4 [(0, .ref (g.2.2 (0, i, 0))), (1, .int a0)] := hl
  unfold f_X0_letIn at h
  generalize ([.ref (g.2.2 (0, i, 0)), .int a0] : List Value).toArray = args at X ⊢
  refine lv_aload_n X.1.1 X.1.2.1 dX0_letIn_0 rfl (lv_at hl 0 rfl) ?_
  obtain ⟨⟨r_3, t_1⟩, hc_2, h⟩ := o_bd_inv h
  refine x_calli (x_runV (As := []) (rest := []) X hP (c_X0_firstNotAsked l g N i X.2.2.2.2 (by omega) t hc_2) ⟨wd_589, wd_586, wd_588, wd_11, wd_56⟩ hd_X0_firstNotAsked ⟨by decide, by decide⟩ (x_recv X hP (ci := 0) rfl (kyF (by omega) (by decide)) rfl) rfl hl.1 rfl (Nat.le_of_ble_eq_true rfl) dX0_letIn_1) hS (fun H locs hP hS => ?_)
  refine lv_istore_n (lv' := [(2, .int r_3), (0, .ref (g.2.2 (0, i, 0))), (1, .int a0)]) X.1.1 X.1.2.1 dX0_letIn_4 rfl hl (by decide) rfl (fun ls hl => ?_)
  refine lv_iload_n X.1.1 X.1.2.1 dX0_letIn_5 rfl (lv_at hl 0 rfl) ?_
  refine lv_bipush (v := (-4)) X.1.1 X.1.2.1 dX0_letIn_6 (by decide) ?_
  refine lv_icmp_ne (tgt := 19) X.1.1 X.1.2.1 dX0_letIn_8 (by decide) (fun c_5 => ?_) (fun c_5 => ?_)
  · have h := o_neg c_5 h
    refine lv_aload_n X.1.1 X.1.2.1 dX0_letIn_19 rfl (lv_at hl 1 rfl) ?_
    refine lv_iconst (v := 1) X.1.1 X.1.2.1 dX0_letIn_20 (by decide) ?_
    obtain ⟨⟨r_8, t_6⟩, hc_7, h⟩ := o_bd_inv h
    refine x_calli (x_runV (As := [.int 1]) (rest := []) X hP (c_X0_thoseWho l g N i X.2.2.2.2 (by omega) 1 t_1 hc_7) ⟨wd_369, wd_366, wd_367, wd_368, wd_56⟩ hd_X0_thoseWho ⟨by decide, by decide⟩ (x_recv X hP (ci := 0) rfl (kyF (by omega) (by decide)) rfl) rfl hl.1 rfl (Nat.le_of_ble_eq_true rfl) dX0_letIn_21) hS (fun H locs hP hS => ?_)
    obtain ⟨⟨r_12, t_10⟩, hc_11, h⟩ := o_bd_inv h
    refine x_calli (x_runS (As := [.int r_8]) (rest := []) X hP (c_J6_bitCount_0f7a4 l g X.2.2.2.2 r_8 t_6 hc_11) ⟨wd_372, wd_370, wd_371, wd_63⟩ hd_J6_bitCount_0f7a4 ⟨by decide, by decide⟩ rfl hl.1 rfl (Nat.le_of_ble_eq_true rfl) dX0_letIn_24) hS (fun H locs hP hS => ?_)
    refine lv_istore_n (lv' := [(3, .int r_12), (2, .int r_3), (0, .ref (g.2.2 (0, i, 0))), (1, .int a0)]) X.1.1 X.1.2.1 dX0_letIn_27 rfl hl (by decide) rfl (fun ls hl => ?_)
    refine lv_aload_n X.1.1 X.1.2.1 dX0_letIn_28 rfl (lv_at hl 2 rfl) ?_
    refine gt_X0_11 X hP (kyF (by omega) (by decide)) wd_129 dX0_letIn_29 ?_
    refine lv_iload_n X.1.1 X.1.2.1 dX0_letIn_32 rfl (lv_at hl 3 rfl) ?_
    refine lv_aload_n X.1.1 X.1.2.1 dX0_letIn_33 rfl (lv_at hl 2 rfl) ?_
    refine gt_X0_3 X hP (kyF (by omega) (by decide)) wd_105 dX0_letIn_34 ?_
    refine lv_aload_n X.1.1 X.1.2.1 dX0_letIn_37 rfl (lv_at hl 2 rfl) ?_
    refine lv_iload_n X.1.1 X.1.2.1 dX0_letIn_38 rfl (lv_at hl 0 rfl) ?_
    refine lv_iload_n X.1.1 X.1.2.1 dX0_letIn_39 rfl (lv_at hl 3 rfl) ?_
    refine lv_iload_n X.1.1 X.1.2.1 dX0_letIn_40 rfl (lv_at hl 1 rfl) ?_
    refine lv_aload_n X.1.1 X.1.2.1 dX0_letIn_41 rfl (lv_at hl 2 rfl) ?_
    refine gt_X0_3 X hP (kyF (by omega) (by decide)) wd_105 dX0_letIn_42 ?_
    obtain ⟨⟨r_16, t_14⟩, hc_15, h⟩ := o_bd_inv h
    refine x_calli (x_runV (As := [.int r_12, .int a0, .int r_3, .int (t_10.1 0 i 0 3)]) (rest := [.int (t_10.1 0 i 0 3), .int a0, .ref (g.2.2 (0, i, 7))]) X hP (c_X0_hoursAmong l g i X.2.2.2.2 (by omega) r_12 a0 r_3 (t_10.1 0 i 0 3) t_10 hc_15) ⟨wd_379, wd_376, wd_377, wd_378, wd_56⟩ hd_X0_hoursAmong ⟨by decide, by decide⟩ (x_recv X hP (ci := 0) rfl (kyF (by omega) (by decide)) rfl) rfl hl.1 rfl (Nat.le_of_ble_eq_true rfl) dX0_letIn_45) hS (fun H locs hP hS => ?_)
    refine lv_iadd X.1.1 X.1.2.1 dX0_letIn_48 ?_
    obtain ⟨g_18, h⟩ := o_gd_inv h
    obtain ⟨t_19, e_20, h⟩ := o_nm_inv h
    refine x_iast X hP hS (kyF (by omega) (by decide)) (fun _ _ => rfl) g_18 dX0_letIn_49 (fun H locs hP hS => ?_)
    have hP : XP shC g t_19 H := by rw [e_20]; exact hP
    refine lv_aload_n X.1.1 X.1.2.1 dX0_letIn_50 rfl (lv_at hl 2 rfl) ?_
    refine gt_X0_10 X hP (kyF (by omega) (by decide)) wd_125 dX0_letIn_51 ?_
    refine lv_iload_n X.1.1 X.1.2.1 dX0_letIn_54 rfl (lv_at hl 3 rfl) ?_
    refine lv_iconst (v := 1) X.1.1 X.1.2.1 dX0_letIn_55 (by decide) ?_
    obtain ⟨g_21, h⟩ := o_gd_inv h
    obtain ⟨t_22, e_23, h⟩ := o_nm_inv h
    refine x_iast X hP hS (kyF (by omega) (by decide)) (fun _ _ => rfl) g_21 dX0_letIn_56 (fun H locs hP hS => ?_)
    have hP : XP shC g t_22 H := by rw [e_23]; exact hP
    refine lv_aload_n X.1.1 X.1.2.1 dX0_letIn_57 rfl (lv_at hl 2 rfl) ?_
    refine lv_dup X.1.1 X.1.2.1 dX0_letIn_58 rfl ?_
    refine gt_X0_2 X hP (kyF (by omega) (by decide)) wd_100 dX0_letIn_59 ?_
    refine lv_iconst (v := 1) X.1.1 X.1.2.1 dX0_letIn_62 (by decide) ?_
    refine lv_iload_n X.1.1 X.1.2.1 dX0_letIn_63 rfl (lv_at hl 1 rfl) ?_
    refine lv_ishl X.1.1 X.1.2.1 dX0_letIn_64 ?_
    refine lv_ior X.1.1 X.1.2.1 dX0_letIn_65 ?_
    obtain ⟨t_24, e_25, h⟩ := o_nm_inv h
    refine pt_X0_2 (x := ((t_22.1 0 i 0 2) ||| (1 <<< (r_3 &&& 31)))) X hP hS (kyF (by omega) (by decide)) wd_100 dX0_letIn_66 (fun H locs hP hS => ?_)
    have hP : XP shC g t_24 H := by rw [e_25]; exact hP
    cases h
    exact x_vret X hP hS dX0_letIn_69
  · have h := o_pos c_5 h
    refine lv_aload_n X.1.1 X.1.2.1 dX0_letIn_11 rfl (lv_at hl 1 rfl) ?_
    refine gt_X0_10 X hP (kyF (by omega) (by decide)) wd_125 dX0_letIn_12 ?_
    refine lv_iload_n X.1.1 X.1.2.1 dX0_letIn_15 rfl (lv_at hl 2 rfl) ?_
    refine lv_iconst (v := 2) X.1.1 X.1.2.1 dX0_letIn_16 (by decide) ?_
    obtain ⟨g_26, h⟩ := o_gd_inv h
    obtain ⟨t_27, e_28, h⟩ := o_nm_inv h
    refine x_iast X hP hS (kyF (by omega) (by decide)) (fun _ _ => rfl) g_26 dX0_letIn_17 (fun H locs hP hS => ?_)
    have hP : XP shC g t_27 H := by rw [e_28]; exact hP
    cases h
    exact x_vret X hP hS dX0_letIn_18
def f_X0_passHour_93 (N : Nat) (i : Nat) (k55 : Int32 × Mm → Option (Mm)) (x1 : Int32) (t : Mm) : Option (Mm) := k55 ((x1 + 1), t)
def b_X0_passHour_55 (N : Nat) (i : Nat) (k55 : Int32 × Mm → Option (Mm)) (x1 : Int32) (t : Mm) : Option (Mm) := if (t.1 0 i 0 1) ≤ x1 then (some t) else (if o_inb x1 5 = true then (if (t.1 0 i 6 (x1.toNatClampNeg)) = 1 then (if o_inb x1 5 = true then (if (t.1 0 i 0 3) < (t.1 0 i 7 (x1.toNatClampNeg)) then (f_X0_passHour_93 N i k55 x1 t) else (if o_inb x1 5 = true then (o_nm (sI t 0 i 6 (x1.toNatClampNeg) 2) fun t_7 => f_X0_passHour_93 N i k55 x1 t_7) else none)) else none) else (f_X0_passHour_93 N i k55 x1 t)) else none)
def f_X0_passHour_55 (N : Nat) (i : Nat) (x1 : Int32) (t : Mm) : Option (Mm) := o_lp (fun k x => b_X0_passHour_55 N i k x.1 x.2) N (x1, t)
def f_X0_passHour_37 (N : Nat) (i : Nat) (k2 : Int32 × Mm → Option (Mm)) (x1 : Int32) (t : Mm) : Option (Mm) := k2 ((x1 + 1), t)
def b_X0_passHour_2 (N : Nat) (i : Nat) (k2 : Int32 × Mm → Option (Mm)) (x1 : Int32) (t : Mm) : Option (Mm) := if (t.1 0 i 0 1) ≤ x1 then (o_nm (sI t 0 i 0 3 ((t.1 0 i 0 3) + 1)) fun t_10 => f_X0_passHour_55 N i 0 t_10) else (if o_inb x1 5 = true then (if (t.1 0 i 6 (x1.toNatClampNeg)) = 0 then (if o_inb x1 5 = true then (if (t.1 0 i 0 3) < (t.1 0 i 5 (x1.toNatClampNeg)) then (f_X0_passHour_37 N i k2 x1 t) else (o_bd (f_X0_letIn N i x1 t) fun t_16 => f_X0_passHour_37 N i k2 x1 t_16)) else none) else (f_X0_passHour_37 N i k2 x1 t)) else none)
def f_X0_passHour_2 (N : Nat) (i : Nat) (x1 : Int32) (t : Mm) : Option (Mm) := o_lp (fun k x => b_X0_passHour_2 N i k x.1 x.2) N (x1, t)
/-- FordQuestions$Ford.passHour()V -/
def f_X0_passHour (N : Nat) (i : Nat) (t : Mm) : Option (Mm) := f_X0_passHour_2 N i 0 t
theorem hd_X0_passHour : x_hd yX0_passHour 0 := by decide +kernel
set_option maxRecDepth 100000 in
set_option maxHeartbeats 4000000 in
theorem w_X0_passHour_93 {l : Launch} {g : Ly} {p : Program} {e : Env} {s : State} {m : MethodId} {args : Array Value} {below : List Frame} {meth : Method} {c : Code} (N : Nat) (i : Nat) (hi : i < 21) (X : XC p m meth c cX0_passHour 2 s args (.code yX0_passHour cX0_passHour 2 none) RX0 none shC g) {t' : Mm} {k55 : Int32 × Mm → Option (Mm)} (hk55 : ∀ x : Int32 × Mm, k55 x = some t' → ∀ (H : Heap) (locs : List Loc) (ls : Array Slot), XP shC g x.2 H → va_S (XA shC g) s.heap H locs → lv_has ls 2 [(0, .ref (g.2.2 (0, i, 0))), (1, .int x.1)] → W p l e (rmv 5) s m args below meth c H locs 0 0 (MQ below (XQv shC g t') args s 0 0 (XA shC g)) (F0 m 55 ls [])) (x1 : Int32) (t : Mm) (H : Heap) (locs : List Loc) (ls : Array Slot) (hP : XP shC g t H) (hS : va_S (XA shC g) s.heap H locs) (hl : lv_has ls 2 [(0, .ref (g.2.2 (0, i, 0))), (1, .int x1)]) (h : f_X0_passHour_93 N i k55 x1 t = some t') : W p l e (rmv 5) s m args below meth c H locs 0 0 (MQ below (XQv shC g t') args s 0 0 (XA shC g)) (F0 m 93 ls []) := by
  unfold f_X0_passHour_93 at h
  refine lv_iinc (v := (x1 + 1)) (lv' := [(1, .int (x1 + 1)), (0, .ref (g.2.2 (0, i, 0)))]) X.1.1 X.1.2.1 dX0_passHour_93 hl (k := 1) rfl rfl (by decide) rfl (fun ls hl => ?_)
  refine lv_goto (tgt := 55) X.1.1 X.1.2.1 dX0_passHour_96 (by decide) ?_
  exact hk55 ((x1 + 1), t) h _ _ _ hP hS (lv_sub hl [1, 0] rfl)
set_option maxRecDepth 100000 in
set_option maxHeartbeats 4000000 in
theorem wb_X0_passHour_55 {l : Launch} {g : Ly} {p : Program} {e : Env} {s : State} {m : MethodId} {args : Array Value} {below : List Frame} {meth : Method} {c : Code} (N : Nat) (i : Nat) (hi : i < 21) (X : XC p m meth c cX0_passHour 2 s args (.code yX0_passHour cX0_passHour 2 none) RX0 none shC g) {t' : Mm} {k55 : Int32 × Mm → Option (Mm)} (hk55 : ∀ x : Int32 × Mm, k55 x = some t' → ∀ (H : Heap) (locs : List Loc) (ls : Array Slot), XP shC g x.2 H → va_S (XA shC g) s.heap H locs → lv_has ls 2 [(0, .ref (g.2.2 (0, i, 0))), (1, .int x.1)] → W p l e (rmv 5) s m args below meth c H locs 0 0 (MQ below (XQv shC g t') args s 0 0 (XA shC g)) (F0 m 55 ls [])) (x1 : Int32) (t : Mm) (H : Heap) (locs : List Loc) (ls : Array Slot) (hP : XP shC g t H) (hS : va_S (XA shC g) s.heap H locs) (hl : lv_has ls 2 [(0, .ref (g.2.2 (0, i, 0))), (1, .int x1)]) (h : b_X0_passHour_55 N i k55 x1 t = some t') : W p l e (rmv 5) s m args below meth c H locs 0 0 (MQ below (XQv shC g t') args s 0 0 (XA shC g)) (F0 m 55 ls []) := by
  unfold b_X0_passHour_55 at h
  refine lv_iload_n X.1.1 X.1.2.1 dX0_passHour_55 rfl (lv_at hl 1 rfl) ?_
  refine lv_aload_n X.1.1 X.1.2.1 dX0_passHour_56 rfl (lv_at hl 0 rfl) ?_
  refine gt_X0_1 X hP (kyF (by omega) (by decide)) wd_96 dX0_passHour_57 ?_
  refine lv_icmp_ge (tgt := 99) X.1.1 X.1.2.1 dX0_passHour_60 (by decide) (fun c_1 => ?_) (fun c_1 => ?_)
  · have h := o_pos c_1 h
    cases h
    exact x_vret X hP hS dX0_passHour_99
  · have h := o_neg c_1 h
    refine lv_aload_n X.1.1 X.1.2.1 dX0_passHour_63 rfl (lv_at hl 0 rfl) ?_
    refine gt_X0_10 X hP (kyF (by omega) (by decide)) wd_125 dX0_passHour_64 ?_
    refine lv_iload_n X.1.1 X.1.2.1 dX0_passHour_67 rfl (lv_at hl 1 rfl) ?_
    obtain ⟨g_2, h⟩ := o_gd_inv h
    refine x_iald X hP (kyF (by omega) (by decide)) (fun _ _ => rfl) g_2 dX0_passHour_68 ?_
    refine lv_iconst (v := 1) X.1.1 X.1.2.1 dX0_passHour_69 (by decide) ?_
    refine lv_icmp_ne (tgt := 93) X.1.1 X.1.2.1 dX0_passHour_70 (by decide) (fun c_3 => ?_) (fun c_3 => ?_)
    · have h := o_neg c_3 h
      exact w_X0_passHour_93 N i (by omega) X hk55 x1 t _ _ _ hP hS (lv_sub hl [0, 1] rfl) h
    · have h := o_pos c_3 h
      refine lv_aload_n X.1.1 X.1.2.1 dX0_passHour_73 rfl (lv_at hl 0 rfl) ?_
      refine gt_X0_11 X hP (kyF (by omega) (by decide)) wd_129 dX0_passHour_74 ?_
      refine lv_iload_n X.1.1 X.1.2.1 dX0_passHour_77 rfl (lv_at hl 1 rfl) ?_
      obtain ⟨g_4, h⟩ := o_gd_inv h
      refine x_iald X hP (kyF (by omega) (by decide)) (fun _ _ => rfl) g_4 dX0_passHour_78 ?_
      refine lv_aload_n X.1.1 X.1.2.1 dX0_passHour_79 rfl (lv_at hl 0 rfl) ?_
      refine gt_X0_3 X hP (kyF (by omega) (by decide)) wd_105 dX0_passHour_80 ?_
      refine lv_icmp_gt (tgt := 93) X.1.1 X.1.2.1 dX0_passHour_83 (by decide) (fun c_5 => ?_) (fun c_5 => ?_)
      · have h := o_pos c_5 h
        exact w_X0_passHour_93 N i (by omega) X hk55 x1 t _ _ _ hP hS (lv_sub hl [0, 1] rfl) h
      · have h := o_neg c_5 h
        refine lv_aload_n X.1.1 X.1.2.1 dX0_passHour_86 rfl (lv_at hl 0 rfl) ?_
        refine gt_X0_10 X hP (kyF (by omega) (by decide)) wd_125 dX0_passHour_87 ?_
        refine lv_iload_n X.1.1 X.1.2.1 dX0_passHour_90 rfl (lv_at hl 1 rfl) ?_
        refine lv_iconst (v := 2) X.1.1 X.1.2.1 dX0_passHour_91 (by decide) ?_
        obtain ⟨g_6, h⟩ := o_gd_inv h
        obtain ⟨t_7, e_8, h⟩ := o_nm_inv h
        refine x_iast X hP hS (kyF (by omega) (by decide)) (fun _ _ => rfl) g_6 dX0_passHour_92 (fun H locs hP hS => ?_)
        have hP : XP shC g t_7 H := by rw [e_8]; exact hP
        exact w_X0_passHour_93 N i (by omega) X hk55 x1 t_7 _ _ _ hP hS (lv_sub hl [0, 1] rfl) h
set_option maxRecDepth 100000 in
set_option maxHeartbeats 4000000 in
theorem w_X0_passHour_55 {l : Launch} {g : Ly} {p : Program} {e : Env} {s : State} {m : MethodId} {args : Array Value} {below : List Frame} {meth : Method} {c : Code} (N : Nat) (i : Nat) (hi : i < 21) (X : XC p m meth c cX0_passHour 2 s args (.code yX0_passHour cX0_passHour 2 none) RX0 none shC g) {t' : Mm} (x1 : Int32) (t : Mm) (H : Heap) (locs : List Loc) (ls : Array Slot) (hP : XP shC g t H) (hS : va_S (XA shC g) s.heap H locs) (hl : lv_has ls 2 [(0, .ref (g.2.2 (0, i, 0))), (1, .int x1)]) (h : f_X0_passHour_55 N i x1 t = some t') : W p l e (rmv 5) s m args below meth c H locs 0 0 (MQ below (XQv shC g t') args s 0 0 (XA shC g)) (F0 m 55 ls []) :=
  o_lp_ind (P := fun x : Int32 × Mm => ∀ (H : Heap) (locs : List Loc) (ls : Array Slot), XP shC g x.2 H → va_S (XA shC g) s.heap H locs → lv_has ls 2 [(0, .ref (g.2.2 (0, i, 0))), (1, .int x.1)] → W p l e (rmv 5) s m args below meth c H locs 0 0 (MQ below (XQv shC g t') args s 0 0 (XA shC g)) (F0 m 55 ls [])) (fun k hk x h H locs ls hP hS hl => wb_X0_passHour_55 N i hi X hk x.1 x.2 H locs ls hP hS hl h) N (x1, t) h H locs ls hP hS hl
set_option maxRecDepth 100000 in
set_option maxHeartbeats 4000000 in
theorem w_X0_passHour_37 {l : Launch} {g : Ly} {p : Program} {e : Env} {s : State} {m : MethodId} {args : Array Value} {below : List Frame} {meth : Method} {c : Code} (N : Nat) (i : Nat) (hi : i < 21) (X : XC p m meth c cX0_passHour 2 s args (.code yX0_passHour cX0_passHour 2 none) RX0 none shC g) {t' : Mm} {k2 : Int32 × Mm → Option (Mm)} (hk2 : ∀ x : Int32 × Mm, k2 x = some t' → ∀ (H : Heap) (locs : List Loc) (ls : Array Slot), XP shC g x.2 H → va_S (XA shC g) s.heap H locs → lv_has ls 2 [(0, .ref (g.2.2 (0, i, 0))), (1, .int x.1)] → W p l e (rmv 5) s m args below meth c H locs 0 0 (MQ below (XQv shC g t') args s 0 0 (XA shC g)) (F0 m 2 ls [])) (x1 : Int32) (t : Mm) (H : Heap) (locs : List Loc) (ls : Array Slot) (hP : XP shC g t H) (hS : va_S (XA shC g) s.heap H locs) (hl : lv_has ls 2 [(0, .ref (g.2.2 (0, i, 0))), (1, .int x1)]) (h : f_X0_passHour_37 N i k2 x1 t = some t') : W p l e (rmv 5) s m args below meth c H locs 0 0 (MQ below (XQv shC g t') args s 0 0 (XA shC g)) (F0 m 37 ls []) := by
  unfold f_X0_passHour_37 at h
  refine lv_iinc (v := (x1 + 1)) (lv' := [(1, .int (x1 + 1)), (0, .ref (g.2.2 (0, i, 0)))]) X.1.1 X.1.2.1 dX0_passHour_37 hl (k := 1) rfl rfl (by decide) rfl (fun ls hl => ?_)
  refine lv_goto (tgt := 2) X.1.1 X.1.2.1 dX0_passHour_40 (by decide) ?_
  exact hk2 ((x1 + 1), t) h _ _ _ hP hS (lv_sub hl [1, 0] rfl)
set_option maxRecDepth 100000 in
set_option maxHeartbeats 4000000 in
theorem wb_X0_passHour_2 {l : Launch} {g : Ly} {p : Program} {e : Env} {s : State} {m : MethodId} {args : Array Value} {below : List Frame} {meth : Method} {c : Code} (N : Nat) (i : Nat) (hi : i < 21) (X : XC p m meth c cX0_passHour 2 s args (.code yX0_passHour cX0_passHour 2 none) RX0 none shC g) {t' : Mm} {k2 : Int32 × Mm → Option (Mm)} (hk2 : ∀ x : Int32 × Mm, k2 x = some t' → ∀ (H : Heap) (locs : List Loc) (ls : Array Slot), XP shC g x.2 H → va_S (XA shC g) s.heap H locs → lv_has ls 2 [(0, .ref (g.2.2 (0, i, 0))), (1, .int x.1)] → W p l e (rmv 5) s m args below meth c H locs 0 0 (MQ below (XQv shC g t') args s 0 0 (XA shC g)) (F0 m 2 ls [])) (x1 : Int32) (t : Mm) (H : Heap) (locs : List Loc) (ls : Array Slot) (hP : XP shC g t H) (hS : va_S (XA shC g) s.heap H locs) (hl : lv_has ls 2 [(0, .ref (g.2.2 (0, i, 0))), (1, .int x1)]) (h : b_X0_passHour_2 N i k2 x1 t = some t') : W p l e (rmv 5) s m args below meth c H locs 0 0 (MQ below (XQv shC g t') args s 0 0 (XA shC g)) (F0 m 2 ls []) := by
  unfold b_X0_passHour_2 at h
  refine lv_iload_n X.1.1 X.1.2.1 dX0_passHour_2 rfl (lv_at hl 1 rfl) ?_
  refine lv_aload_n X.1.1 X.1.2.1 dX0_passHour_3 rfl (lv_at hl 0 rfl) ?_
  refine gt_X0_1 X hP (kyF (by omega) (by decide)) wd_96 dX0_passHour_4 ?_
  refine lv_icmp_ge (tgt := 43) X.1.1 X.1.2.1 dX0_passHour_7 (by decide) (fun c_9 => ?_) (fun c_9 => ?_)
  · have h := o_pos c_9 h
    refine lv_aload_n X.1.1 X.1.2.1 dX0_passHour_43 rfl (lv_at hl 0 rfl) ?_
    refine lv_dup X.1.1 X.1.2.1 dX0_passHour_44 rfl ?_
    refine gt_X0_3 X hP (kyF (by omega) (by decide)) wd_105 dX0_passHour_45 ?_
    refine lv_iconst (v := 1) X.1.1 X.1.2.1 dX0_passHour_48 (by decide) ?_
    refine lv_iadd X.1.1 X.1.2.1 dX0_passHour_49 ?_
    obtain ⟨t_10, e_11, h⟩ := o_nm_inv h
    refine pt_X0_3 (x := ((t.1 0 i 0 3) + 1)) X hP hS (kyF (by omega) (by decide)) wd_105 dX0_passHour_50 (fun H locs hP hS => ?_)
    have hP : XP shC g t_10 H := by rw [e_11]; exact hP
    refine lv_iconst (v := 0) X.1.1 X.1.2.1 dX0_passHour_53 (by decide) ?_
    refine lv_istore_n (lv' := [(1, .int 0), (0, .ref (g.2.2 (0, i, 0)))]) X.1.1 X.1.2.1 dX0_passHour_54 rfl hl (by decide) rfl (fun ls hl => ?_)
    exact w_X0_passHour_55 N i (by omega) X 0 t_10 _ _ _ hP hS (lv_sub hl [1, 0] rfl) h
  · have h := o_neg c_9 h
    refine lv_aload_n X.1.1 X.1.2.1 dX0_passHour_10 rfl (lv_at hl 0 rfl) ?_
    refine gt_X0_10 X hP (kyF (by omega) (by decide)) wd_125 dX0_passHour_11 ?_
    refine lv_iload_n X.1.1 X.1.2.1 dX0_passHour_14 rfl (lv_at hl 1 rfl) ?_
    obtain ⟨g_12, h⟩ := o_gd_inv h
    refine x_iald X hP (kyF (by omega) (by decide)) (fun _ _ => rfl) g_12 dX0_passHour_15 ?_
    refine lv_if_ne (tgt := 37) X.1.1 X.1.2.1 dX0_passHour_16 (by decide) (fun c_13 => ?_) (fun c_13 => ?_)
    · have h := o_neg c_13 h
      exact w_X0_passHour_37 N i (by omega) X hk2 x1 t _ _ _ hP hS (lv_sub hl [0, 1] rfl) h
    · have h := o_pos c_13 h
      refine lv_aload_n X.1.1 X.1.2.1 dX0_passHour_19 rfl (lv_at hl 0 rfl) ?_
      refine gt_X0_9 X hP (kyF (by omega) (by decide)) wd_121 dX0_passHour_20 ?_
      refine lv_iload_n X.1.1 X.1.2.1 dX0_passHour_23 rfl (lv_at hl 1 rfl) ?_
      obtain ⟨g_14, h⟩ := o_gd_inv h
      refine x_iald X hP (kyF (by omega) (by decide)) (fun _ _ => rfl) g_14 dX0_passHour_24 ?_
      refine lv_aload_n X.1.1 X.1.2.1 dX0_passHour_25 rfl (lv_at hl 0 rfl) ?_
      refine gt_X0_3 X hP (kyF (by omega) (by decide)) wd_105 dX0_passHour_26 ?_
      refine lv_icmp_gt (tgt := 37) X.1.1 X.1.2.1 dX0_passHour_29 (by decide) (fun c_15 => ?_) (fun c_15 => ?_)
      · have h := o_pos c_15 h
        exact w_X0_passHour_37 N i (by omega) X hk2 x1 t _ _ _ hP hS (lv_sub hl [0, 1] rfl) h
      · have h := o_neg c_15 h
        refine lv_aload_n X.1.1 X.1.2.1 dX0_passHour_32 rfl (lv_at hl 0 rfl) ?_
        refine lv_iload_n X.1.1 X.1.2.1 dX0_passHour_33 rfl (lv_at hl 1 rfl) ?_
        obtain ⟨t_16, hc_17, h⟩ := o_bd_inv h
        refine x_callv (x_runV (As := [.int x1]) (rest := []) X hP (c_X0_letIn l g N i X.2.2.2.2 (by omega) x1 t hc_17) ⟨wd_585, wd_582, wd_584, wd_10, wd_56⟩ hd_X0_letIn ⟨by decide, by decide⟩ (x_recv X hP (ci := 0) rfl (kyF (by omega) (by decide)) rfl) rfl hl.1 rfl (Nat.le_of_ble_eq_true rfl) dX0_passHour_34) hS (fun H locs hP hS => ?_)
        exact w_X0_passHour_37 N i (by omega) X hk2 x1 t_16 _ _ _ hP hS (lv_sub hl [0, 1] rfl) h
set_option maxRecDepth 100000 in
set_option maxHeartbeats 4000000 in
theorem w_X0_passHour_2 {l : Launch} {g : Ly} {p : Program} {e : Env} {s : State} {m : MethodId} {args : Array Value} {below : List Frame} {meth : Method} {c : Code} (N : Nat) (i : Nat) (hi : i < 21) (X : XC p m meth c cX0_passHour 2 s args (.code yX0_passHour cX0_passHour 2 none) RX0 none shC g) {t' : Mm} (x1 : Int32) (t : Mm) (H : Heap) (locs : List Loc) (ls : Array Slot) (hP : XP shC g t H) (hS : va_S (XA shC g) s.heap H locs) (hl : lv_has ls 2 [(0, .ref (g.2.2 (0, i, 0))), (1, .int x1)]) (h : f_X0_passHour_2 N i x1 t = some t') : W p l e (rmv 5) s m args below meth c H locs 0 0 (MQ below (XQv shC g t') args s 0 0 (XA shC g)) (F0 m 2 ls []) :=
  o_lp_ind (P := fun x : Int32 × Mm => ∀ (H : Heap) (locs : List Loc) (ls : Array Slot), XP shC g x.2 H → va_S (XA shC g) s.heap H locs → lv_has ls 2 [(0, .ref (g.2.2 (0, i, 0))), (1, .int x.1)] → W p l e (rmv 5) s m args below meth c H locs 0 0 (MQ below (XQv shC g t') args s 0 0 (XA shC g)) (F0 m 2 ls [])) (fun k hk x h H locs ls hP hS hl => wb_X0_passHour_2 N i hi X hk x.1 x.2 H locs ls hP hS hl h) N (x1, t) h H locs ls hP hS hl
set_option maxRecDepth 100000 in
set_option maxHeartbeats 4000000 in
theorem c_X0_passHour (l : Launch) (g : Ly) (N : Nat) (i : Nat) (hG : XG shC g) (hi : i < 21) (t : Mm) {t' : Mm} (h : f_X0_passHour N i t = some t') : MI l yX0_passHour cX0_passHour 2 none 5 shC g [.ref (g.2.2 (0, i, 0))] t (XQv shC g t') := by
  refine x_met hG (by decide +kernel) (Nat.le_of_ble_eq_true rfl) ?_
  intro p e s m below meth c ls X hP hl
  have hS : va_S (XA shC g) s.heap s.heap [] := va_S.rf
  have hl : lv_has ls 2 [(0, .ref (g.2.2 (0, i, 0)))] := hl
  unfold f_X0_passHour at h
  generalize ([.ref (g.2.2 (0, i, 0))] : List Value).toArray = args at X ⊢
  refine lv_iconst (v := 0) X.1.1 X.1.2.1 dX0_passHour_0 (by decide) ?_
  refine lv_istore_n (lv' := [(1, .int 0), (0, .ref (g.2.2 (0, i, 0)))]) X.1.1 X.1.2.1 dX0_passHour_1 rfl hl (by decide) rfl (fun ls hl => ?_)
  exact w_X0_passHour_2 N i (by omega) X 0 t _ _ _ hP hS (lv_sub hl [1, 0] rfl) h
/-- FordQuestions$Ford.drawQuestion()V -/
def f_X0_drawQuestion (i : Nat) (t : Mm) : Option (Mm) := o_nm (sI t 0 i 0 4 ((((t.1 0 i 0 4) * 1103515245) + 12345) &&& 2147483647)) fun t_1 => if (t_1.1 0 i 0 0) ≤ 0 then (some t_1) else (if (((t_1.1 0 i 0 4) / 128) - ((t_1.1 0 i 0 4) / 128) / 3 * 3) = 0 then (if ¬ ((t_1.1 0 i 0 0) = 0) then (o_bd (f_X0_letAskAgain i (((t_1.1 0 i 0 4) / 65536) - ((t_1.1 0 i 0 4) / 65536) / (t_1.1 0 i 0 0) * (t_1.1 0 i 0 0)) t_1) fun t_6 => some t_6) else none) else (some t_1))
theorem hd_X0_drawQuestion : x_hd yX0_drawQuestion 0 := by decide +kernel
set_option maxRecDepth 100000 in
set_option maxHeartbeats 4000000 in
theorem c_X0_drawQuestion (l : Launch) (g : Ly) (i : Nat) (hG : XG shC g) (hi : i < 21) (t : Mm) {t' : Mm} (h : f_X0_drawQuestion i t = some t') : MI l yX0_drawQuestion cX0_drawQuestion 1 none 2 shC g [.ref (g.2.2 (0, i, 0))] t (XQv shC g t') := by
  refine x_met hG (by decide +kernel) (Nat.le_of_ble_eq_true rfl) ?_
  intro p e s m below meth c ls X hP hl
  have hS : va_S (XA shC g) s.heap s.heap [] := va_S.rf
  have hl : lv_has ls 1 [(0, .ref (g.2.2 (0, i, 0)))] := hl
  unfold f_X0_drawQuestion at h
  generalize ([.ref (g.2.2 (0, i, 0))] : List Value).toArray = args at X ⊢
  refine lv_aload_n X.1.1 X.1.2.1 dX0_drawQuestion_0 rfl (lv_at hl 0 rfl) ?_
  refine lv_aload_n X.1.1 X.1.2.1 dX0_drawQuestion_1 rfl (lv_at hl 0 rfl) ?_
  refine gt_X0_4 X hP (kyF (by omega) (by decide)) wd_109 dX0_drawQuestion_2 ?_
  refine lv_ldc (v := 1103515245) X.1.1 X.1.2.1 X.1.2.2.2.1 (X.1.2.2.2.2 _ (List.mem_cons_of_mem _ wd_571)) dX0_drawQuestion_5 ?_
  refine lv_imul X.1.1 X.1.2.1 dX0_drawQuestion_7 ?_
  refine lv_sipush (v := 12345) X.1.1 X.1.2.1 dX0_drawQuestion_8 (by decide) ?_
  refine lv_iadd X.1.1 X.1.2.1 dX0_drawQuestion_11 ?_
  refine lv_ldc (v := 2147483647) X.1.1 X.1.2.1 X.1.2.2.2.1 (X.1.2.2.2.2 _ (List.mem_cons_of_mem _ wd_572)) dX0_drawQuestion_12 ?_
  refine lv_iand X.1.1 X.1.2.1 dX0_drawQuestion_14 ?_
  obtain ⟨t_1, e_2, h⟩ := o_nm_inv h
  refine pt_X0_4 (x := ((((t.1 0 i 0 4) * 1103515245) + 12345) &&& 2147483647)) X hP hS (kyF (by omega) (by decide)) wd_109 dX0_drawQuestion_15 (fun H locs hP hS => ?_)
  have hP : XP shC g t_1 H := by rw [e_2]; exact hP
  refine lv_aload_n X.1.1 X.1.2.1 dX0_drawQuestion_18 rfl (lv_at hl 0 rfl) ?_
  refine gt_X0_0 X hP (kyF (by omega) (by decide)) wd_92 dX0_drawQuestion_19 ?_
  refine lv_if_le (tgt := 54) X.1.1 X.1.2.1 dX0_drawQuestion_22 (by decide) (fun c_3 => ?_) (fun c_3 => ?_)
  · have h := o_pos c_3 h
    cases h
    exact x_vret X hP hS dX0_drawQuestion_54
  · have h := o_neg c_3 h
    refine lv_aload_n X.1.1 X.1.2.1 dX0_drawQuestion_25 rfl (lv_at hl 0 rfl) ?_
    refine gt_X0_4 X hP (kyF (by omega) (by decide)) wd_109 dX0_drawQuestion_26 ?_
    refine lv_sipush (v := 128) X.1.1 X.1.2.1 dX0_drawQuestion_29 (by decide) ?_
    refine lv_idiv X.1.1 X.1.2.1 dX0_drawQuestion_32 (by decide) ?_
    refine lv_iconst (v := 3) X.1.1 X.1.2.1 dX0_drawQuestion_33 (by decide) ?_
    refine lv_irem X.1.1 X.1.2.1 dX0_drawQuestion_34 (by decide) ?_
    refine lv_if_ne (tgt := 54) X.1.1 X.1.2.1 dX0_drawQuestion_35 (by decide) (fun c_4 => ?_) (fun c_4 => ?_)
    · have h := o_neg c_4 h
      cases h
      exact x_vret X hP hS dX0_drawQuestion_54
    · have h := o_pos c_4 h
      refine lv_aload_n X.1.1 X.1.2.1 dX0_drawQuestion_38 rfl (lv_at hl 0 rfl) ?_
      refine lv_aload_n X.1.1 X.1.2.1 dX0_drawQuestion_39 rfl (lv_at hl 0 rfl) ?_
      refine gt_X0_4 X hP (kyF (by omega) (by decide)) wd_109 dX0_drawQuestion_40 ?_
      refine lv_ldc (v := 65536) X.1.1 X.1.2.1 X.1.2.2.2.1 (X.1.2.2.2.2 _ (List.mem_cons_of_mem _ wd_573)) dX0_drawQuestion_43 ?_
      refine lv_idiv X.1.1 X.1.2.1 dX0_drawQuestion_45 (by decide) ?_
      refine lv_aload_n X.1.1 X.1.2.1 dX0_drawQuestion_46 rfl (lv_at hl 0 rfl) ?_
      refine gt_X0_0 X hP (kyF (by omega) (by decide)) wd_92 dX0_drawQuestion_47 ?_
      obtain ⟨g_5, h⟩ := o_gd_inv h
      refine lv_irem X.1.1 X.1.2.1 dX0_drawQuestion_50 g_5 ?_
      obtain ⟨t_6, hc_7, h⟩ := o_bd_inv h
      refine x_callv (x_runV (As := [.int (((t_1.1 0 i 0 4) / 65536) - ((t_1.1 0 i 0 4) / 65536) / (t_1.1 0 i 0 0) * (t_1.1 0 i 0 0))]) (rest := []) X hP (c_X0_letAskAgain l g i X.2.2.2.2 (by omega) (((t_1.1 0 i 0 4) / 65536) - ((t_1.1 0 i 0 4) / 65536) / (t_1.1 0 i 0 0) * (t_1.1 0 i 0 0)) t_1 hc_7) ⟨wd_577, wd_574, wd_575, wd_576, wd_56⟩ hd_X0_letAskAgain ⟨by decide, by decide⟩ (x_recv X hP (ci := 0) rfl (kyF (by omega) (by decide)) rfl) rfl hl.1 rfl (Nat.le_of_ble_eq_true rfl) dX0_drawQuestion_51) hS (fun H locs hP hS => ?_)
      cases h
      exact x_vret X hP hS dX0_drawQuestion_54
def f_X0_howManyLeaveNext_40 (N : Nat) (i : Nat) (k4 : Int32 × Int32 × Mm → Option (Int32 × Mm)) (x1 : Int32) (x2 : Int32) (t : Mm) : Option (Int32 × Mm) := k4 (x1, (x2 + 1), t)
def b_X0_howManyLeaveNext_4 (N : Nat) (i : Nat) (k4 : Int32 × Int32 × Mm → Option (Int32 × Mm)) (x1 : Int32) (x2 : Int32) (t : Mm) : Option (Int32 × Mm) := if (t.1 0 i 0 1) ≤ x2 then (some (x1, t)) else (if o_inb x2 5 = true then (if (t.1 0 i 6 (x2.toNatClampNeg)) = 1 then (if o_inb x2 5 = true then (if ((t.1 0 i 0 3) + 1) < (t.1 0 i 7 (x2.toNatClampNeg)) then (f_X0_howManyLeaveNext_40 N i k4 x1 x2 t) else (f_X0_howManyLeaveNext_40 N i k4 (x1 + 1) x2 t)) else none) else (f_X0_howManyLeaveNext_40 N i k4 x1 x2 t)) else none)
def f_X0_howManyLeaveNext_4 (N : Nat) (i : Nat) (x1 : Int32) (x2 : Int32) (t : Mm) : Option (Int32 × Mm) := o_lp (fun k x => b_X0_howManyLeaveNext_4 N i k x.1 x.2.1 x.2.2) N (x1, x2, t)
/-- FordQuestions$Ford.howManyLeaveNext()I -/
def f_X0_howManyLeaveNext (N : Nat) (i : Nat) (t : Mm) : Option (Int32 × Mm) := f_X0_howManyLeaveNext_4 N i 0 0 t
theorem hd_X0_howManyLeaveNext : x_hd yX0_howManyLeaveNext 0 := by decide +kernel
set_option maxRecDepth 100000 in
set_option maxHeartbeats 4000000 in
theorem w_X0_howManyLeaveNext_40 {l : Launch} {g : Ly} {p : Program} {e : Env} {s : State} {m : MethodId} {args : Array Value} {below : List Frame} {meth : Method} {c : Code} (N : Nat) (i : Nat) (hi : i < 21) (X : XC p m meth c cX0_howManyLeaveNext 3 s args (.code yX0_howManyLeaveNext cX0_howManyLeaveNext 3 (some .int)) RX0 (some .int) shC g) {r : Int32} {t' : Mm} {k4 : Int32 × Int32 × Mm → Option (Int32 × Mm)} (hk4 : ∀ x : Int32 × Int32 × Mm, k4 x = some (r, t') → ∀ (H : Heap) (locs : List Loc) (ls : Array Slot), XP shC g x.2.2 H → va_S (XA shC g) s.heap H locs → lv_has ls 3 [(0, .ref (g.2.2 (0, i, 0))), (1, .int x.1), (2, .int x.2.1)] → W p l e (rmv 1) s m args below meth c H locs 0 0 (MQ below (XQi shC g r t') args s 0 0 (XA shC g)) (F0 m 4 ls [])) (x1 : Int32) (x2 : Int32) (t : Mm) (H : Heap) (locs : List Loc) (ls : Array Slot) (hP : XP shC g t H) (hS : va_S (XA shC g) s.heap H locs) (hl : lv_has ls 3 [(0, .ref (g.2.2 (0, i, 0))), (1, .int x1), (2, .int x2)]) (h : f_X0_howManyLeaveNext_40 N i k4 x1 x2 t = some (r, t')) : W p l e (rmv 1) s m args below meth c H locs 0 0 (MQ below (XQi shC g r t') args s 0 0 (XA shC g)) (F0 m 40 ls []) := by
  unfold f_X0_howManyLeaveNext_40 at h
  refine lv_iinc (v := (x2 + 1)) (lv' := [(2, .int (x2 + 1)), (0, .ref (g.2.2 (0, i, 0))), (1, .int x1)]) X.1.1 X.1.2.1 dX0_howManyLeaveNext_40 hl (k := 2) rfl rfl (by decide) rfl (fun ls hl => ?_)
  refine lv_goto (tgt := 4) X.1.1 X.1.2.1 dX0_howManyLeaveNext_43 (by decide) ?_
  exact hk4 (x1, (x2 + 1), t) h _ _ _ hP hS (lv_sub hl [1, 2, 0] rfl)
set_option maxRecDepth 100000 in
set_option maxHeartbeats 4000000 in
theorem wb_X0_howManyLeaveNext_4 {l : Launch} {g : Ly} {p : Program} {e : Env} {s : State} {m : MethodId} {args : Array Value} {below : List Frame} {meth : Method} {c : Code} (N : Nat) (i : Nat) (hi : i < 21) (X : XC p m meth c cX0_howManyLeaveNext 3 s args (.code yX0_howManyLeaveNext cX0_howManyLeaveNext 3 (some .int)) RX0 (some .int) shC g) {r : Int32} {t' : Mm} {k4 : Int32 × Int32 × Mm → Option (Int32 × Mm)} (hk4 : ∀ x : Int32 × Int32 × Mm, k4 x = some (r, t') → ∀ (H : Heap) (locs : List Loc) (ls : Array Slot), XP shC g x.2.2 H → va_S (XA shC g) s.heap H locs → lv_has ls 3 [(0, .ref (g.2.2 (0, i, 0))), (1, .int x.1), (2, .int x.2.1)] → W p l e (rmv 1) s m args below meth c H locs 0 0 (MQ below (XQi shC g r t') args s 0 0 (XA shC g)) (F0 m 4 ls [])) (x1 : Int32) (x2 : Int32) (t : Mm) (H : Heap) (locs : List Loc) (ls : Array Slot) (hP : XP shC g t H) (hS : va_S (XA shC g) s.heap H locs) (hl : lv_has ls 3 [(0, .ref (g.2.2 (0, i, 0))), (1, .int x1), (2, .int x2)]) (h : b_X0_howManyLeaveNext_4 N i k4 x1 x2 t = some (r, t')) : W p l e (rmv 1) s m args below meth c H locs 0 0 (MQ below (XQi shC g r t') args s 0 0 (XA shC g)) (F0 m 4 ls []) := by
  unfold b_X0_howManyLeaveNext_4 at h
  refine lv_iload_n X.1.1 X.1.2.1 dX0_howManyLeaveNext_4 rfl (lv_at hl 2 rfl) ?_
  refine lv_aload_n X.1.1 X.1.2.1 dX0_howManyLeaveNext_5 rfl (lv_at hl 0 rfl) ?_
  refine gt_X0_1 X hP (kyF (by omega) (by decide)) wd_96 dX0_howManyLeaveNext_6 ?_
  refine lv_icmp_ge (tgt := 46) X.1.1 X.1.2.1 dX0_howManyLeaveNext_9 (by decide) (fun c_1 => ?_) (fun c_1 => ?_)
  · have h := o_pos c_1 h
    refine lv_iload_n X.1.1 X.1.2.1 dX0_howManyLeaveNext_46 rfl (lv_at hl 1 rfl) ?_
    cases h
    exact x_iret X hP hS dX0_howManyLeaveNext_47
  · have h := o_neg c_1 h
    refine lv_aload_n X.1.1 X.1.2.1 dX0_howManyLeaveNext_12 rfl (lv_at hl 0 rfl) ?_
    refine gt_X0_10 X hP (kyF (by omega) (by decide)) wd_125 dX0_howManyLeaveNext_13 ?_
    refine lv_iload_n X.1.1 X.1.2.1 dX0_howManyLeaveNext_16 rfl (lv_at hl 2 rfl) ?_
    obtain ⟨g_2, h⟩ := o_gd_inv h
    refine x_iald X hP (kyF (by omega) (by decide)) (fun _ _ => rfl) g_2 dX0_howManyLeaveNext_17 ?_
    refine lv_iconst (v := 1) X.1.1 X.1.2.1 dX0_howManyLeaveNext_18 (by decide) ?_
    refine lv_icmp_ne (tgt := 40) X.1.1 X.1.2.1 dX0_howManyLeaveNext_19 (by decide) (fun c_3 => ?_) (fun c_3 => ?_)
    · have h := o_neg c_3 h
      exact w_X0_howManyLeaveNext_40 N i (by omega) X hk4 x1 x2 t _ _ _ hP hS (lv_sub hl [0, 1, 2] rfl) h
    · have h := o_pos c_3 h
      refine lv_aload_n X.1.1 X.1.2.1 dX0_howManyLeaveNext_22 rfl (lv_at hl 0 rfl) ?_
      refine gt_X0_11 X hP (kyF (by omega) (by decide)) wd_129 dX0_howManyLeaveNext_23 ?_
      refine lv_iload_n X.1.1 X.1.2.1 dX0_howManyLeaveNext_26 rfl (lv_at hl 2 rfl) ?_
      obtain ⟨g_4, h⟩ := o_gd_inv h
      refine x_iald X hP (kyF (by omega) (by decide)) (fun _ _ => rfl) g_4 dX0_howManyLeaveNext_27 ?_
      refine lv_aload_n X.1.1 X.1.2.1 dX0_howManyLeaveNext_28 rfl (lv_at hl 0 rfl) ?_
      refine gt_X0_3 X hP (kyF (by omega) (by decide)) wd_105 dX0_howManyLeaveNext_29 ?_
      refine lv_iconst (v := 1) X.1.1 X.1.2.1 dX0_howManyLeaveNext_32 (by decide) ?_
      refine lv_iadd X.1.1 X.1.2.1 dX0_howManyLeaveNext_33 ?_
      refine lv_icmp_gt (tgt := 40) X.1.1 X.1.2.1 dX0_howManyLeaveNext_34 (by decide) (fun c_5 => ?_) (fun c_5 => ?_)
      · have h := o_pos c_5 h
        exact w_X0_howManyLeaveNext_40 N i (by omega) X hk4 x1 x2 t _ _ _ hP hS (lv_sub hl [0, 1, 2] rfl) h
      · have h := o_neg c_5 h
        refine lv_iinc (v := (x1 + 1)) (lv' := [(1, .int (x1 + 1)), (0, .ref (g.2.2 (0, i, 0))), (2, .int x2)]) X.1.1 X.1.2.1 dX0_howManyLeaveNext_37 hl (k := 1) rfl rfl (by decide) rfl (fun ls hl => ?_)
        exact w_X0_howManyLeaveNext_40 N i (by omega) X hk4 (x1 + 1) x2 t _ _ _ hP hS (lv_sub hl [1, 0, 2] rfl) h
set_option maxRecDepth 100000 in
set_option maxHeartbeats 4000000 in
theorem w_X0_howManyLeaveNext_4 {l : Launch} {g : Ly} {p : Program} {e : Env} {s : State} {m : MethodId} {args : Array Value} {below : List Frame} {meth : Method} {c : Code} (N : Nat) (i : Nat) (hi : i < 21) (X : XC p m meth c cX0_howManyLeaveNext 3 s args (.code yX0_howManyLeaveNext cX0_howManyLeaveNext 3 (some .int)) RX0 (some .int) shC g) {r : Int32} {t' : Mm} (x1 : Int32) (x2 : Int32) (t : Mm) (H : Heap) (locs : List Loc) (ls : Array Slot) (hP : XP shC g t H) (hS : va_S (XA shC g) s.heap H locs) (hl : lv_has ls 3 [(0, .ref (g.2.2 (0, i, 0))), (1, .int x1), (2, .int x2)]) (h : f_X0_howManyLeaveNext_4 N i x1 x2 t = some (r, t')) : W p l e (rmv 1) s m args below meth c H locs 0 0 (MQ below (XQi shC g r t') args s 0 0 (XA shC g)) (F0 m 4 ls []) :=
  o_lp_ind (P := fun x : Int32 × Int32 × Mm => ∀ (H : Heap) (locs : List Loc) (ls : Array Slot), XP shC g x.2.2 H → va_S (XA shC g) s.heap H locs → lv_has ls 3 [(0, .ref (g.2.2 (0, i, 0))), (1, .int x.1), (2, .int x.2.1)] → W p l e (rmv 1) s m args below meth c H locs 0 0 (MQ below (XQi shC g r t') args s 0 0 (XA shC g)) (F0 m 4 ls [])) (fun k hk x h H locs ls hP hS hl => wb_X0_howManyLeaveNext_4 N i hi X hk x.1 x.2.1 x.2.2 H locs ls hP hS hl h) N (x1, x2, t) h H locs ls hP hS hl
set_option maxRecDepth 100000 in
set_option maxHeartbeats 4000000 in
theorem c_X0_howManyLeaveNext (l : Launch) (g : Ly) (N : Nat) (i : Nat) (hG : XG shC g) (hi : i < 21) (t : Mm) {r : Int32} {t' : Mm} (h : f_X0_howManyLeaveNext N i t = some (r, t')) : MI l yX0_howManyLeaveNext cX0_howManyLeaveNext 3 (some .int) 1 shC g [.ref (g.2.2 (0, i, 0))] t (XQi shC g r t') := by
  refine x_met hG (by decide +kernel) (Nat.le_of_ble_eq_true rfl) ?_
  intro p e s m below meth c ls X hP hl
  have hS : va_S (XA shC g) s.heap s.heap [] := va_S.rf
  have hl : lv_has ls 3 [(0, .ref (g.2.2 (0, i, 0)))] := hl
  unfold f_X0_howManyLeaveNext at h
  generalize ([.ref (g.2.2 (0, i, 0))] : List Value).toArray = args at X ⊢
  refine lv_iconst (v := 0) X.1.1 X.1.2.1 dX0_howManyLeaveNext_0 (by decide) ?_
  refine lv_istore_n (lv' := [(1, .int 0), (0, .ref (g.2.2 (0, i, 0)))]) X.1.1 X.1.2.1 dX0_howManyLeaveNext_1 rfl hl (by decide) rfl (fun ls hl => ?_)
  refine lv_iconst (v := 0) X.1.1 X.1.2.1 dX0_howManyLeaveNext_2 (by decide) ?_
  refine lv_istore_n (lv' := [(2, .int 0), (1, .int 0), (0, .ref (g.2.2 (0, i, 0)))]) X.1.1 X.1.2.1 dX0_howManyLeaveNext_3 rfl hl (by decide) rfl (fun ls hl => ?_)
  exact w_X0_howManyLeaveNext_4 N i (by omega) X 0 0 t _ _ _ hP hS (lv_sub hl [2, 1, 0] rfl) h
end
