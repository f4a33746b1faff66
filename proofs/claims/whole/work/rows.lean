section
-- ===== PART A: goes FIRST, ahead of the names: the tables' words, and 'selects' of the private methods out of them =====
/-- a private method of a class that the tables say can be made, by its rows of tables_1 -/
def lw_okq (q : MethodName × Nat) : Prop := (q.1.cls ≠ "java/lang/invoke/MethodHandle" ∧ q.1.cls ≠ "java/lang/invoke/VarHandle") ∧ Cond.instantiable q.1.cls q.2 ∈ tables_1 ∧ Cond.privateMethod q.1 ∈ tables_1 ∧ Cond.instanceMethod q.1 ∈ tables_1
theorem lw_p0 : lw_okq (⟨"ApprovalRoutes$Reader", "skipBlanks", "()V"⟩, 6) := ⟨⟨by decide +kernel, by decide +kernel⟩, List.mem_of_getElem? (i := 96) (by decide +kernel), List.mem_of_getElem? (i := 321) (by decide +kernel), List.mem_of_getElem? (i := 322) (by decide +kernel)⟩
theorem lw_p1 : lw_okq (⟨"ApprovalRoutes$Reader", "readPart", "()V"⟩, 6) := ⟨⟨by decide +kernel, by decide +kernel⟩, List.mem_of_getElem? (i := 96) (by decide +kernel), List.mem_of_getElem? (i := 329) (by decide +kernel), List.mem_of_getElem? (i := 330) (by decide +kernel)⟩
theorem lw_p2 : lw_okq (⟨"ApprovalRoutes$Reader", "wordLength", "()I"⟩, 6) := ⟨⟨by decide +kernel, by decide +kernel⟩, List.mem_of_getElem? (i := 96) (by decide +kernel), List.mem_of_getElem? (i := 333) (by decide +kernel), List.mem_of_getElem? (i := 334) (by decide +kernel)⟩
theorem lw_p3 : lw_okq (⟨"ApprovalRoutes$Reader", "partNamed", "(I)I"⟩, 6) := ⟨⟨by decide +kernel, by decide +kernel⟩, List.mem_of_getElem? (i := 96) (by decide +kernel), List.mem_of_getElem? (i := 337) (by decide +kernel), List.mem_of_getElem? (i := 338) (by decide +kernel)⟩
theorem lw_p4 : lw_okq (⟨"ApprovalRoutes$Reader", "isWord", "(Ljava/lang/String;I)Z"⟩, 6) := ⟨⟨by decide +kernel, by decide +kernel⟩, List.mem_of_getElem? (i := 96) (by decide +kernel), List.mem_of_getElem? (i := 353) (by decide +kernel), List.mem_of_getElem? (i := 354) (by decide +kernel)⟩
theorem lw_p5 : lw_okq (⟨"ApprovalRoutes$Reader", "fail", "(II)V"⟩, 6) := ⟨⟨by decide +kernel, by decide +kernel⟩, List.mem_of_getElem? (i := 96) (by decide +kernel), List.mem_of_getElem? (i := 405) (by decide +kernel), List.mem_of_getElem? (i := 406) (by decide +kernel)⟩
theorem lw_p6 : lw_okq (⟨"ApprovalRoutes$Reader", "isTold", "(I)Z"⟩, 6) := ⟨⟨by decide +kernel, by decide +kernel⟩, List.mem_of_getElem? (i := 96) (by decide +kernel), List.mem_of_getElem? (i := 409) (by decide +kernel), List.mem_of_getElem? (i := 410) (by decide +kernel)⟩
theorem lw_p7 : lw_okq (⟨"ApprovalRoutes$Reader", "readNumber", "(CII)V"⟩, 6) := ⟨⟨by decide +kernel, by decide +kernel⟩, List.mem_of_getElem? (i := 96) (by decide +kernel), List.mem_of_getElem? (i := 434) (by decide +kernel), List.mem_of_getElem? (i := 435) (by decide +kernel)⟩
theorem lw_p8 : lw_okq (⟨"ApprovalRoutes$Reader", "fits", "(CII)Z"⟩, 6) := ⟨⟨by decide +kernel, by decide +kernel⟩, List.mem_of_getElem? (i := 96) (by decide +kernel), List.mem_of_getElem? (i := 443) (by decide +kernel), List.mem_of_getElem? (i := 444) (by decide +kernel)⟩
theorem lw_p9 : lw_okq (⟨"ApprovalRoutes$Reader", "take", "(I)V"⟩, 6) := ⟨⟨by decide +kernel, by decide +kernel⟩, List.mem_of_getElem? (i := 96) (by decide +kernel), List.mem_of_getElem? (i := 449) (by decide +kernel), List.mem_of_getElem? (i := 450) (by decide +kernel)⟩
theorem lw_p10 : lw_okq (⟨"ApprovalRoutes$Reader", "readSemicolon", "()Z"⟩, 6) := ⟨⟨by decide +kernel, by decide +kernel⟩, List.mem_of_getElem? (i := 96) (by decide +kernel), List.mem_of_getElem? (i := 466) (by decide +kernel), List.mem_of_getElem? (i := 467) (by decide +kernel)⟩
theorem lw_p11 : lw_okq (⟨"ApprovalRoutes", "refusalOfRecall", "(II)I"⟩, 14) := ⟨⟨by decide +kernel, by decide +kernel⟩, List.mem_of_getElem? (i := 20) (by decide +kernel), List.mem_of_getElem? (i := 516) (by decide +kernel), List.mem_of_getElem? (i := 517) (by decide +kernel)⟩
theorem lw_p12 : lw_okq (⟨"ApprovalRoutes", "matterOf", "(I)LApprovalRoutes$Matter;"⟩, 14) := ⟨⟨by decide +kernel, by decide +kernel⟩, List.mem_of_getElem? (i := 20) (by decide +kernel), List.mem_of_getElem? (i := 529) (by decide +kernel), List.mem_of_getElem? (i := 530) (by decide +kernel)⟩
theorem lw_p13 : lw_okq (⟨"ApprovalRoutes", "wholeOn", "(II)I"⟩, 14) := ⟨⟨by decide +kernel, by decide +kernel⟩, List.mem_of_getElem? (i := 20) (by decide +kernel), List.mem_of_getElem? (i := 534) (by decide +kernel), List.mem_of_getElem? (i := 535) (by decide +kernel)⟩
theorem lw_p14 : lw_okq (⟨"ApprovalRoutes$State", "canJoin", "(III)Z"⟩, 3) := ⟨⟨by decide +kernel, by decide +kernel⟩, List.mem_of_getElem? (i := 28) (by decide +kernel), List.mem_of_getElem? (i := 542) (by decide +kernel), List.mem_of_getElem? (i := 543) (by decide +kernel)⟩
theorem lw_p15 : lw_okq (⟨"ApprovalRoutes$Route", "takeStep", "(LApprovalRoutes$Matter;II)V"⟩, 5) := ⟨⟨by decide +kernel, by decide +kernel⟩, List.mem_of_getElem? (i := 224) (by decide +kernel), List.mem_of_getElem? (i := 559) (by decide +kernel), List.mem_of_getElem? (i := 560) (by decide +kernel)⟩
def lw_privs_1 : List (MethodName × Nat) := [(⟨"ApprovalRoutes$Reader", "skipBlanks", "()V"⟩, 6), (⟨"ApprovalRoutes$Reader", "readPart", "()V"⟩, 6), (⟨"ApprovalRoutes$Reader", "wordLength", "()I"⟩, 6), (⟨"ApprovalRoutes$Reader", "partNamed", "(I)I"⟩, 6), (⟨"ApprovalRoutes$Reader", "isWord", "(Ljava/lang/String;I)Z"⟩, 6), (⟨"ApprovalRoutes$Reader", "fail", "(II)V"⟩, 6), (⟨"ApprovalRoutes$Reader", "isTold", "(I)Z"⟩, 6), (⟨"ApprovalRoutes$Reader", "readNumber", "(CII)V"⟩, 6), (⟨"ApprovalRoutes$Reader", "fits", "(CII)Z"⟩, 6), (⟨"ApprovalRoutes$Reader", "take", "(I)V"⟩, 6), (⟨"ApprovalRoutes$Reader", "readSemicolon", "()Z"⟩, 6), (⟨"ApprovalRoutes", "refusalOfRecall", "(II)I"⟩, 14), (⟨"ApprovalRoutes", "matterOf", "(I)LApprovalRoutes$Matter;"⟩, 14), (⟨"ApprovalRoutes", "wholeOn", "(II)I"⟩, 14), (⟨"ApprovalRoutes$State", "canJoin", "(III)Z"⟩, 3), (⟨"ApprovalRoutes$Route", "takeStep", "(LApprovalRoutes$Matter;II)V"⟩, 5)]
theorem lw_r1 : ∀ q ∈ lw_privs_1, lw_okq q := List.forall_mem_cons.mpr ⟨lw_p0, List.forall_mem_cons.mpr ⟨lw_p1, List.forall_mem_cons.mpr ⟨lw_p2, List.forall_mem_cons.mpr ⟨lw_p3, List.forall_mem_cons.mpr ⟨lw_p4, List.forall_mem_cons.mpr ⟨lw_p5, List.forall_mem_cons.mpr ⟨lw_p6, List.forall_mem_cons.mpr ⟨lw_p7, List.forall_mem_cons.mpr ⟨lw_p8, List.forall_mem_cons.mpr ⟨lw_p9, List.forall_mem_cons.mpr ⟨lw_p10, List.forall_mem_cons.mpr ⟨lw_p11, List.forall_mem_cons.mpr ⟨lw_p12, List.forall_mem_cons.mpr ⟨lw_p13, List.forall_mem_cons.mpr ⟨lw_p14, List.forall_mem_cons.mpr ⟨lw_p15, fun _ h => absurd h List.not_mem_nil⟩⟩⟩⟩⟩⟩⟩⟩⟩⟩⟩⟩⟩⟩⟩⟩
theorem lw_p16 : lw_okq (⟨"ApprovalRoutes$Desk", "askOne", "(III)Z"⟩, 9) := ⟨⟨by decide +kernel, by decide +kernel⟩, List.mem_of_getElem? (i := 185) (by decide +kernel), List.mem_of_getElem? (i := 591) (by decide +kernel), List.mem_of_getElem? (i := 592) (by decide +kernel)⟩
theorem lw_p17 : lw_okq (⟨"ApprovalRoutes", "addEntry", "(IIIIII)I"⟩, 14) := ⟨⟨by decide +kernel, by decide +kernel⟩, List.mem_of_getElem? (i := 20) (by decide +kernel), List.mem_of_getElem? (i := 637) (by decide +kernel), List.mem_of_getElem? (i := 638) (by decide +kernel)⟩
theorem lw_p18 : lw_okq (⟨"ApprovalRoutes$Web", "reachedFrom", "(I)I"⟩, 1) := ⟨⟨by decide +kernel, by decide +kernel⟩, List.mem_of_getElem? (i := 247) (by decide +kernel), List.mem_of_getElem? (i := 785) (by decide +kernel), List.mem_of_getElem? (i := 786) (by decide +kernel)⟩
theorem lw_p19 : lw_okq (⟨"ApprovalRoutes", "clearTally", "()V"⟩, 14) := ⟨⟨by decide +kernel, by decide +kernel⟩, List.mem_of_getElem? (i := 20) (by decide +kernel), List.mem_of_getElem? (i := 833) (by decide +kernel), List.mem_of_getElem? (i := 834) (by decide +kernel)⟩
theorem lw_p20 : lw_okq (⟨"ApprovalRoutes", "tallyPillars", "(I)V"⟩, 14) := ⟨⟨by decide +kernel, by decide +kernel⟩, List.mem_of_getElem? (i := 20) (by decide +kernel), List.mem_of_getElem? (i := 837) (by decide +kernel), List.mem_of_getElem? (i := 838) (by decide +kernel)⟩
theorem lw_p21 : lw_okq (⟨"ApprovalRoutes", "ofTally", "(I)I"⟩, 14) := ⟨⟨by decide +kernel, by decide +kernel⟩, List.mem_of_getElem? (i := 20) (by decide +kernel), List.mem_of_getElem? (i := 846) (by decide +kernel), List.mem_of_getElem? (i := 847) (by decide +kernel)⟩
theorem lw_p22 : lw_okq (⟨"ApprovalRoutes", "coverParts", "(II)Z"⟩, 14) := ⟨⟨by decide +kernel, by decide +kernel⟩, List.mem_of_getElem? (i := 20) (by decide +kernel), List.mem_of_getElem? (i := 858) (by decide +kernel), List.mem_of_getElem? (i := 859) (by decide +kernel)⟩
theorem lw_p23 : lw_okq (⟨"ApprovalRoutes", "tallySteps", "(I)V"⟩, 14) := ⟨⟨by decide +kernel, by decide +kernel⟩, List.mem_of_getElem? (i := 20) (by decide +kernel), List.mem_of_getElem? (i := 866) (by decide +kernel), List.mem_of_getElem? (i := 867) (by decide +kernel)⟩
theorem lw_p24 : lw_okq (⟨"ApprovalRoutes", "isApprovedNow", "(I)Z"⟩, 14) := ⟨⟨by decide +kernel, by decide +kernel⟩, List.mem_of_getElem? (i := 20) (by decide +kernel), List.mem_of_getElem? (i := 882) (by decide +kernel), List.mem_of_getElem? (i := 883) (by decide +kernel)⟩
theorem lw_p25 : lw_okq (⟨"ApprovalRoutes", "nextDay", "(II)I"⟩, 14) := ⟨⟨by decide +kernel, by decide +kernel⟩, List.mem_of_getElem? (i := 20) (by decide +kernel), List.mem_of_getElem? (i := 895) (by decide +kernel), List.mem_of_getElem? (i := 896) (by decide +kernel)⟩
theorem lw_p26 : lw_okq (⟨"ApprovalRoutes$Letter", "tellRows", "(LApprovalRoutes$State;I)V"⟩, 3) := ⟨⟨by decide +kernel, by decide +kernel⟩, List.mem_of_getElem? (i := 121) (by decide +kernel), List.mem_of_getElem? (i := 913) (by decide +kernel), List.mem_of_getElem? (i := 914) (by decide +kernel)⟩
theorem lw_p27 : lw_okq (⟨"ApprovalRoutes$Letter", "beginPart", "(I)V"⟩, 3) := ⟨⟨by decide +kernel, by decide +kernel⟩, List.mem_of_getElem? (i := 121) (by decide +kernel), List.mem_of_getElem? (i := 917) (by decide +kernel), List.mem_of_getElem? (i := 918) (by decide +kernel)⟩
theorem lw_p28 : lw_okq (⟨"ApprovalRoutes$Letter", "write", "(C)V"⟩, 3) := ⟨⟨by decide +kernel, by decide +kernel⟩, List.mem_of_getElem? (i := 121) (by decide +kernel), List.mem_of_getElem? (i := 921) (by decide +kernel), List.mem_of_getElem? (i := 922) (by decide +kernel)⟩
theorem lw_p29 : lw_okq (⟨"ApprovalRoutes$Letter", "writeWord", "(Ljava/lang/String;)V"⟩, 3) := ⟨⟨by decide +kernel, by decide +kernel⟩, List.mem_of_getElem? (i := 121) (by decide +kernel), List.mem_of_getElem? (i := 926) (by decide +kernel), List.mem_of_getElem? (i := 927) (by decide +kernel)⟩
theorem lw_p30 : lw_okq (⟨"ApprovalRoutes$Letter", "writeNumber", "(I)V"⟩, 3) := ⟨⟨by decide +kernel, by decide +kernel⟩, List.mem_of_getElem? (i := 121) (by decide +kernel), List.mem_of_getElem? (i := 934) (by decide +kernel), List.mem_of_getElem? (i := 935) (by decide +kernel)⟩
theorem lw_p31 : lw_okq (⟨"ApprovalRoutes$Web", "lineFrom", "(III)I"⟩, 1) := ⟨⟨by decide +kernel, by decide +kernel⟩, List.mem_of_getElem? (i := 247) (by decide +kernel), List.mem_of_getElem? (i := 948) (by decide +kernel), List.mem_of_getElem? (i := 949) (by decide +kernel)⟩
def lw_privs_2 : List (MethodName × Nat) := [(⟨"ApprovalRoutes$Desk", "askOne", "(III)Z"⟩, 9), (⟨"ApprovalRoutes", "addEntry", "(IIIIII)I"⟩, 14), (⟨"ApprovalRoutes$Web", "reachedFrom", "(I)I"⟩, 1), (⟨"ApprovalRoutes", "clearTally", "()V"⟩, 14), (⟨"ApprovalRoutes", "tallyPillars", "(I)V"⟩, 14), (⟨"ApprovalRoutes", "ofTally", "(I)I"⟩, 14), (⟨"ApprovalRoutes", "coverParts", "(II)Z"⟩, 14), (⟨"ApprovalRoutes", "tallySteps", "(I)V"⟩, 14), (⟨"ApprovalRoutes", "isApprovedNow", "(I)Z"⟩, 14), (⟨"ApprovalRoutes", "nextDay", "(II)I"⟩, 14), (⟨"ApprovalRoutes$Letter", "tellRows", "(LApprovalRoutes$State;I)V"⟩, 3), (⟨"ApprovalRoutes$Letter", "beginPart", "(I)V"⟩, 3), (⟨"ApprovalRoutes$Letter", "write", "(C)V"⟩, 3), (⟨"ApprovalRoutes$Letter", "writeWord", "(Ljava/lang/String;)V"⟩, 3), (⟨"ApprovalRoutes$Letter", "writeNumber", "(I)V"⟩, 3), (⟨"ApprovalRoutes$Web", "lineFrom", "(III)I"⟩, 1)]
theorem lw_r2 : ∀ q ∈ lw_privs_2, lw_okq q := List.forall_mem_cons.mpr ⟨lw_p16, List.forall_mem_cons.mpr ⟨lw_p17, List.forall_mem_cons.mpr ⟨lw_p18, List.forall_mem_cons.mpr ⟨lw_p19, List.forall_mem_cons.mpr ⟨lw_p20, List.forall_mem_cons.mpr ⟨lw_p21, List.forall_mem_cons.mpr ⟨lw_p22, List.forall_mem_cons.mpr ⟨lw_p23, List.forall_mem_cons.mpr ⟨lw_p24, List.forall_mem_cons.mpr ⟨lw_p25, List.forall_mem_cons.mpr ⟨lw_p26, List.forall_mem_cons.mpr ⟨lw_p27, List.forall_mem_cons.mpr ⟨lw_p28, List.forall_mem_cons.mpr ⟨lw_p29, List.forall_mem_cons.mpr ⟨lw_p30, List.forall_mem_cons.mpr ⟨lw_p31, fun _ h => absurd h List.not_mem_nil⟩⟩⟩⟩⟩⟩⟩⟩⟩⟩⟩⟩⟩⟩⟩⟩
theorem lw_p32 : lw_okq (⟨"ApprovalRoutes", "countRecalled", "()I"⟩, 14) := ⟨⟨by decide +kernel, by decide +kernel⟩, List.mem_of_getElem? (i := 20) (by decide +kernel), List.mem_of_getElem? (i := 957) (by decide +kernel), List.mem_of_getElem? (i := 958) (by decide +kernel)⟩
theorem lw_p33 : lw_okq (⟨"ApprovalRoutes", "countStuck", "()I"⟩, 14) := ⟨⟨by decide +kernel, by decide +kernel⟩, List.mem_of_getElem? (i := 20) (by decide +kernel), List.mem_of_getElem? (i := 961) (by decide +kernel), List.mem_of_getElem? (i := 962) (by decide +kernel)⟩
theorem lw_p34 : lw_okq (⟨"ApprovalRoutesModel", "isPost", "(I)Z"⟩, 31) := ⟨⟨by decide +kernel, by decide +kernel⟩, List.mem_of_getElem? (i := 965) (by decide +kernel), List.mem_of_getElem? (i := 1073) (by decide +kernel), List.mem_of_getElem? (i := 1074) (by decide +kernel)⟩
theorem lw_p35 : lw_okq (⟨"ApprovalRoutesModel", "posts", "()I"⟩, 31) := ⟨⟨by decide +kernel, by decide +kernel⟩, List.mem_of_getElem? (i := 965) (by decide +kernel), List.mem_of_getElem? (i := 1077) (by decide +kernel), List.mem_of_getElem? (i := 1078) (by decide +kernel)⟩
theorem lw_p36 : lw_okq (⟨"ApprovalRoutesModel", "upper", "(I)I"⟩, 31) := ⟨⟨by decide +kernel, by decide +kernel⟩, List.mem_of_getElem? (i := 965) (by decide +kernel), List.mem_of_getElem? (i := 1084) (by decide +kernel), List.mem_of_getElem? (i := 1085) (by decide +kernel)⟩
theorem lw_p37 : lw_okq (⟨"ApprovalRoutesModel", "limitOf", "(II)I"⟩, 31) := ⟨⟨by decide +kernel, by decide +kernel⟩, List.mem_of_getElem? (i := 965) (by decide +kernel), List.mem_of_getElem? (i := 1088) (by decide +kernel), List.mem_of_getElem? (i := 1089) (by decide +kernel)⟩
theorem lw_p38 : lw_okq (⟨"ApprovalRoutesModel", "aboveOf", "(I)I"⟩, 31) := ⟨⟨by decide +kernel, by decide +kernel⟩, List.mem_of_getElem? (i := 965) (by decide +kernel), List.mem_of_getElem? (i := 1092) (by decide +kernel), List.mem_of_getElem? (i := 1093) (by decide +kernel)⟩
theorem lw_p39 : lw_okq (⟨"ApprovalRoutesModel", "belowOf", "(I)I"⟩, 31) := ⟨⟨by decide +kernel, by decide +kernel⟩, List.mem_of_getElem? (i := 965) (by decide +kernel), List.mem_of_getElem? (i := 1096) (by decide +kernel), List.mem_of_getElem? (i := 1097) (by decide +kernel)⟩
theorem lw_p40 : lw_okq (⟨"ApprovalRoutesModel", "isEntry", "(II)Z"⟩, 31) := ⟨⟨by decide +kernel, by decide +kernel⟩, List.mem_of_getElem? (i := 965) (by decide +kernel), List.mem_of_getElem? (i := 1104) (by decide +kernel), List.mem_of_getElem? (i := 1105) (by decide +kernel)⟩
theorem lw_p41 : lw_okq (⟨"ApprovalRoutesModel", "many", "(I)I"⟩, 31) := ⟨⟨by decide +kernel, by decide +kernel⟩, List.mem_of_getElem? (i := 965) (by decide +kernel), List.mem_of_getElem? (i := 1109) (by decide +kernel), List.mem_of_getElem? (i := 1110) (by decide +kernel)⟩
theorem lw_p42 : lw_okq (⟨"ApprovalRoutesModel", "entryOf", "(III)I"⟩, 31) := ⟨⟨by decide +kernel, by decide +kernel⟩, List.mem_of_getElem? (i := 965) (by decide +kernel), List.mem_of_getElem? (i := 1116) (by decide +kernel), List.mem_of_getElem? (i := 1117) (by decide +kernel)⟩
theorem lw_p43 : lw_okq (⟨"ApprovalRoutesModel", "isRequest", "(I)Z"⟩, 31) := ⟨⟨by decide +kernel, by decide +kernel⟩, List.mem_of_getElem? (i := 965) (by decide +kernel), List.mem_of_getElem? (i := 1127) (by decide +kernel), List.mem_of_getElem? (i := 1128) (by decide +kernel)⟩
theorem lw_p44 : lw_okq (⟨"ApprovalRoutesModel", "requests", "()I"⟩, 31) := ⟨⟨by decide +kernel, by decide +kernel⟩, List.mem_of_getElem? (i := 965) (by decide +kernel), List.mem_of_getElem? (i := 1131) (by decide +kernel), List.mem_of_getElem? (i := 1132) (by decide +kernel)⟩
theorem lw_p45 : lw_okq (⟨"ApprovalRoutesModel", "of", "(II)I"⟩, 31) := ⟨⟨by decide +kernel, by decide +kernel⟩, List.mem_of_getElem? (i := 965) (by decide +kernel), List.mem_of_getElem? (i := 1135) (by decide +kernel), List.mem_of_getElem? (i := 1136) (by decide +kernel)⟩
theorem lw_p46 : lw_okq (⟨"ApprovalRoutesModel", "wholeOf", "(I)I"⟩, 31) := ⟨⟨by decide +kernel, by decide +kernel⟩, List.mem_of_getElem? (i := 965) (by decide +kernel), List.mem_of_getElem? (i := 1139) (by decide +kernel), List.mem_of_getElem? (i := 1140) (by decide +kernel)⟩
theorem lw_p47 : lw_okq (⟨"ApprovalRoutesModel", "joinedTo", "(I)J"⟩, 31) := ⟨⟨by decide +kernel, by decide +kernel⟩, List.mem_of_getElem? (i := 965) (by decide +kernel), List.mem_of_getElem? (i := 1143) (by decide +kernel), List.mem_of_getElem? (i := 1144) (by decide +kernel)⟩
def lw_privs_3 : List (MethodName × Nat) := [(⟨"ApprovalRoutes", "countRecalled", "()I"⟩, 14), (⟨"ApprovalRoutes", "countStuck", "()I"⟩, 14), (⟨"ApprovalRoutesModel", "isPost", "(I)Z"⟩, 31), (⟨"ApprovalRoutesModel", "posts", "()I"⟩, 31), (⟨"ApprovalRoutesModel", "upper", "(I)I"⟩, 31), (⟨"ApprovalRoutesModel", "limitOf", "(II)I"⟩, 31), (⟨"ApprovalRoutesModel", "aboveOf", "(I)I"⟩, 31), (⟨"ApprovalRoutesModel", "belowOf", "(I)I"⟩, 31), (⟨"ApprovalRoutesModel", "isEntry", "(II)Z"⟩, 31), (⟨"ApprovalRoutesModel", "many", "(I)I"⟩, 31), (⟨"ApprovalRoutesModel", "entryOf", "(III)I"⟩, 31), (⟨"ApprovalRoutesModel", "isRequest", "(I)Z"⟩, 31), (⟨"ApprovalRoutesModel", "requests", "()I"⟩, 31), (⟨"ApprovalRoutesModel", "of", "(II)I"⟩, 31), (⟨"ApprovalRoutesModel", "wholeOf", "(I)I"⟩, 31), (⟨"ApprovalRoutesModel", "joinedTo", "(I)J"⟩, 31)]
theorem lw_r3 : ∀ q ∈ lw_privs_3, lw_okq q := List.forall_mem_cons.mpr ⟨lw_p32, List.forall_mem_cons.mpr ⟨lw_p33, List.forall_mem_cons.mpr ⟨lw_p34, List.forall_mem_cons.mpr ⟨lw_p35, List.forall_mem_cons.mpr ⟨lw_p36, List.forall_mem_cons.mpr ⟨lw_p37, List.forall_mem_cons.mpr ⟨lw_p38, List.forall_mem_cons.mpr ⟨lw_p39, List.forall_mem_cons.mpr ⟨lw_p40, List.forall_mem_cons.mpr ⟨lw_p41, List.forall_mem_cons.mpr ⟨lw_p42, List.forall_mem_cons.mpr ⟨lw_p43, List.forall_mem_cons.mpr ⟨lw_p44, List.forall_mem_cons.mpr ⟨lw_p45, List.forall_mem_cons.mpr ⟨lw_p46, List.forall_mem_cons.mpr ⟨lw_p47, fun _ h => absurd h List.not_mem_nil⟩⟩⟩⟩⟩⟩⟩⟩⟩⟩⟩⟩⟩⟩⟩⟩
theorem lw_p48 : lw_okq (⟨"ApprovalRoutesModel", "mayJoin", "(II)Z"⟩, 31) := ⟨⟨by decide +kernel, by decide +kernel⟩, List.mem_of_getElem? (i := 965) (by decide +kernel), List.mem_of_getElem? (i := 1147) (by decide +kernel), List.mem_of_getElem? (i := 1148) (by decide +kernel)⟩
theorem lw_p49 : lw_okq (⟨"ApprovalRoutesModel", "isNear", "(IIJ)Z"⟩, 31) := ⟨⟨by decide +kernel, by decide +kernel⟩, List.mem_of_getElem? (i := 965) (by decide +kernel), List.mem_of_getElem? (i := 1151) (by decide +kernel), List.mem_of_getElem? (i := 1152) (by decide +kernel)⟩
theorem lw_p50 : lw_okq (⟨"ApprovalRoutesModel", "routes", "(I)V"⟩, 31) := ⟨⟨by decide +kernel, by decide +kernel⟩, List.mem_of_getElem? (i := 965) (by decide +kernel), List.mem_of_getElem? (i := 1167) (by decide +kernel), List.mem_of_getElem? (i := 1168) (by decide +kernel)⟩
theorem lw_p51 : lw_okq (⟨"ApprovalRoutesModel", "routesBy", "(II)V"⟩, 31) := ⟨⟨by decide +kernel, by decide +kernel⟩, List.mem_of_getElem? (i := 965) (by decide +kernel), List.mem_of_getElem? (i := 1171) (by decide +kernel), List.mem_of_getElem? (i := 1172) (by decide +kernel)⟩
theorem lw_p52 : lw_okq (⟨"ApprovalRoutesModel", "asksFor", "(II)V"⟩, 31) := ⟨⟨by decide +kernel, by decide +kernel⟩, List.mem_of_getElem? (i := 965) (by decide +kernel), List.mem_of_getElem? (i := 1175) (by decide +kernel), List.mem_of_getElem? (i := 1176) (by decide +kernel)⟩
theorem lw_p53 : lw_okq (⟨"ApprovalRoutesModel", "climbs", "(IIII)I"⟩, 31) := ⟨⟨by decide +kernel, by decide +kernel⟩, List.mem_of_getElem? (i := 965) (by decide +kernel), List.mem_of_getElem? (i := 1179) (by decide +kernel), List.mem_of_getElem? (i := 1180) (by decide +kernel)⟩
theorem lw_p54 : lw_okq (⟨"ApprovalRoutesModel", "decider", "(III)I"⟩, 31) := ⟨⟨by decide +kernel, by decide +kernel⟩, List.mem_of_getElem? (i := 965) (by decide +kernel), List.mem_of_getElem? (i := 1183) (by decide +kernel), List.mem_of_getElem? (i := 1184) (by decide +kernel)⟩
theorem lw_p55 : lw_okq (⟨"ApprovalRoutesModel", "holderOf", "(II)I"⟩, 31) := ⟨⟨by decide +kernel, by decide +kernel⟩, List.mem_of_getElem? (i := 965) (by decide +kernel), List.mem_of_getElem? (i := 1187) (by decide +kernel), List.mem_of_getElem? (i := 1188) (by decide +kernel)⟩
theorem lw_p56 : lw_okq (⟨"ApprovalRoutesModel", "asks", "(II)Z"⟩, 31) := ⟨⟨by decide +kernel, by decide +kernel⟩, List.mem_of_getElem? (i := 965) (by decide +kernel), List.mem_of_getElem? (i := 1191) (by decide +kernel), List.mem_of_getElem? (i := 1192) (by decide +kernel)⟩
theorem lw_p57 : lw_okq (⟨"ApprovalRoutesModel", "isAway", "(II)Z"⟩, 31) := ⟨⟨by decide +kernel, by decide +kernel⟩, List.mem_of_getElem? (i := 965) (by decide +kernel), List.mem_of_getElem? (i := 1195) (by decide +kernel), List.mem_of_getElem? (i := 1196) (by decide +kernel)⟩
theorem lw_p58 : lw_okq (⟨"ApprovalRoutesModel", "isFoe", "(I)Z"⟩, 31) := ⟨⟨by decide +kernel, by decide +kernel⟩, List.mem_of_getElem? (i := 965) (by decide +kernel), List.mem_of_getElem? (i := 1199) (by decide +kernel), List.mem_of_getElem? (i := 1200) (by decide +kernel)⟩
theorem lw_p59 : lw_okq (⟨"ApprovalRoutesModel", "puts", "(IIII)V"⟩, 31) := ⟨⟨by decide +kernel, by decide +kernel⟩, List.mem_of_getElem? (i := 965) (by decide +kernel), List.mem_of_getElem? (i := 1206) (by decide +kernel), List.mem_of_getElem? (i := 1207) (by decide +kernel)⟩
theorem lw_p60 : lw_okq (⟨"ApprovalRoutesModel", "last", "(I)I"⟩, 31) := ⟨⟨by decide +kernel, by decide +kernel⟩, List.mem_of_getElem? (i := 965) (by decide +kernel), List.mem_of_getElem? (i := 1219) (by decide +kernel), List.mem_of_getElem? (i := 1220) (by decide +kernel)⟩
theorem lw_p61 : lw_okq (⟨"ApprovalRoutesModel", "isRecalled", "(I)Z"⟩, 31) := ⟨⟨by decide +kernel, by decide +kernel⟩, List.mem_of_getElem? (i := 965) (by decide +kernel), List.mem_of_getElem? (i := 1223) (by decide +kernel), List.mem_of_getElem? (i := 1224) (by decide +kernel)⟩
theorem lw_p62 : lw_okq (⟨"ApprovalRoutesModel", "endBy", "(I)I"⟩, 31) := ⟨⟨by decide +kernel, by decide +kernel⟩, List.mem_of_getElem? (i := 965) (by decide +kernel), List.mem_of_getElem? (i := 1227) (by decide +kernel), List.mem_of_getElem? (i := 1228) (by decide +kernel)⟩
theorem lw_p63 : lw_okq (⟨"ApprovalRoutesModel", "behind", "(II)I"⟩, 31) := ⟨⟨by decide +kernel, by decide +kernel⟩, List.mem_of_getElem? (i := 965) (by decide +kernel), List.mem_of_getElem? (i := 1256) (by decide +kernel), List.mem_of_getElem? (i := 1257) (by decide +kernel)⟩
def lw_privs_4 : List (MethodName × Nat) := [(⟨"ApprovalRoutesModel", "mayJoin", "(II)Z"⟩, 31), (⟨"ApprovalRoutesModel", "isNear", "(IIJ)Z"⟩, 31), (⟨"ApprovalRoutesModel", "routes", "(I)V"⟩, 31), (⟨"ApprovalRoutesModel", "routesBy", "(II)V"⟩, 31), (⟨"ApprovalRoutesModel", "asksFor", "(II)V"⟩, 31), (⟨"ApprovalRoutesModel", "climbs", "(IIII)I"⟩, 31), (⟨"ApprovalRoutesModel", "decider", "(III)I"⟩, 31), (⟨"ApprovalRoutesModel", "holderOf", "(II)I"⟩, 31), (⟨"ApprovalRoutesModel", "asks", "(II)Z"⟩, 31), (⟨"ApprovalRoutesModel", "isAway", "(II)Z"⟩, 31), (⟨"ApprovalRoutesModel", "isFoe", "(I)Z"⟩, 31), (⟨"ApprovalRoutesModel", "puts", "(IIII)V"⟩, 31), (⟨"ApprovalRoutesModel", "last", "(I)I"⟩, 31), (⟨"ApprovalRoutesModel", "isRecalled", "(I)Z"⟩, 31), (⟨"ApprovalRoutesModel", "endBy", "(I)I"⟩, 31), (⟨"ApprovalRoutesModel", "behind", "(II)I"⟩, 31)]
theorem lw_r4 : ∀ q ∈ lw_privs_4, lw_okq q := List.forall_mem_cons.mpr ⟨lw_p48, List.forall_mem_cons.mpr ⟨lw_p49, List.forall_mem_cons.mpr ⟨lw_p50, List.forall_mem_cons.mpr ⟨lw_p51, List.forall_mem_cons.mpr ⟨lw_p52, List.forall_mem_cons.mpr ⟨lw_p53, List.forall_mem_cons.mpr ⟨lw_p54, List.forall_mem_cons.mpr ⟨lw_p55, List.forall_mem_cons.mpr ⟨lw_p56, List.forall_mem_cons.mpr ⟨lw_p57, List.forall_mem_cons.mpr ⟨lw_p58, List.forall_mem_cons.mpr ⟨lw_p59, List.forall_mem_cons.mpr ⟨lw_p60, List.forall_mem_cons.mpr ⟨lw_p61, List.forall_mem_cons.mpr ⟨lw_p62, List.forall_mem_cons.mpr ⟨lw_p63, fun _ h => absurd h List.not_mem_nil⟩⟩⟩⟩⟩⟩⟩⟩⟩⟩⟩⟩⟩⟩⟩⟩
theorem lw_p64 : lw_okq (⟨"ApprovalRoutesModel", "laysLoads", "()V"⟩, 31) := ⟨⟨by decide +kernel, by decide +kernel⟩, List.mem_of_getElem? (i := 965) (by decide +kernel), List.mem_of_getElem? (i := 1280) (by decide +kernel), List.mem_of_getElem? (i := 1281) (by decide +kernel)⟩
theorem lw_p65 : lw_okq (⟨"ApprovalRoutesModel", "counts", "(I)V"⟩, 31) := ⟨⟨by decide +kernel, by decide +kernel⟩, List.mem_of_getElem? (i := 965) (by decide +kernel), List.mem_of_getElem? (i := 1284) (by decide +kernel), List.mem_of_getElem? (i := 1285) (by decide +kernel)⟩
theorem lw_p66 : lw_okq (⟨"ApprovalRoutesModel", "isManned", "(II)Z"⟩, 31) := ⟨⟨by decide +kernel, by decide +kernel⟩, List.mem_of_getElem? (i := 965) (by decide +kernel), List.mem_of_getElem? (i := 1307) (by decide +kernel), List.mem_of_getElem? (i := 1308) (by decide +kernel)⟩
theorem lw_p67 : lw_okq (⟨"ApprovalRoutesModel", "recalledMany", "()I"⟩, 31) := ⟨⟨by decide +kernel, by decide +kernel⟩, List.mem_of_getElem? (i := 965) (by decide +kernel), List.mem_of_getElem? (i := 1315) (by decide +kernel), List.mem_of_getElem? (i := 1316) (by decide +kernel)⟩
theorem lw_p68 : lw_okq (⟨"ApprovalRoutesModel", "stuckMany", "()I"⟩, 31) := ⟨⟨by decide +kernel, by decide +kernel⟩, List.mem_of_getElem? (i := 965) (by decide +kernel), List.mem_of_getElem? (i := 1319) (by decide +kernel), List.mem_of_getElem? (i := 1320) (by decide +kernel)⟩
theorem lw_p69 : lw_okq (⟨"ApprovalRoutesModel", "keepsAct", "()V"⟩, 31) := ⟨⟨by decide +kernel, by decide +kernel⟩, List.mem_of_getElem? (i := 965) (by decide +kernel), List.mem_of_getElem? (i := 1328) (by decide +kernel), List.mem_of_getElem? (i := 1329) (by decide +kernel)⟩
theorem lw_p70 : lw_okq (⟨"ApprovalRoutesModel", "comes", "(IIIIII)I"⟩, 31) := ⟨⟨by decide +kernel, by decide +kernel⟩, List.mem_of_getElem? (i := 965) (by decide +kernel), List.mem_of_getElem? (i := 1332) (by decide +kernel), List.mem_of_getElem? (i := 1333) (by decide +kernel)⟩
theorem lw_p71 : lw_okq (⟨"ApprovalRoutesModel", "mayRecall", "(II)I"⟩, 31) := ⟨⟨by decide +kernel, by decide +kernel⟩, List.mem_of_getElem? (i := 965) (by decide +kernel), List.mem_of_getElem? (i := 1340) (by decide +kernel), List.mem_of_getElem? (i := 1341) (by decide +kernel)⟩
theorem lw_p72 : lw_okq (⟨"ApprovalRoutesModel", "comesEntry", "(IIIIII)I"⟩, 31) := ⟨⟨by decide +kernel, by decide +kernel⟩, List.mem_of_getElem? (i := 965) (by decide +kernel), List.mem_of_getElem? (i := 1352) (by decide +kernel), List.mem_of_getElem? (i := 1353) (by decide +kernel)⟩
theorem lw_p73 : lw_okq (⟨"ApprovalRoutesModel", "becomes", "(II)I"⟩, 31) := ⟨⟨by decide +kernel, by decide +kernel⟩, List.mem_of_getElem? (i := 965) (by decide +kernel), List.mem_of_getElem? (i := 1380) (by decide +kernel), List.mem_of_getElem? (i := 1381) (by decide +kernel)⟩
theorem lw_p74 : lw_okq (⟨"ApprovalRoutesModel", "puts4", "(I)V"⟩, 31) := ⟨⟨by decide +kernel, by decide +kernel⟩, List.mem_of_getElem? (i := 965) (by decide +kernel), List.mem_of_getElem? (i := 1407) (by decide +kernel), List.mem_of_getElem? (i := 1408) (by decide +kernel)⟩
theorem lw_p75 : lw_okq (⟨"ApprovalRoutesModel", "readsAll", "()Z"⟩, 31) := ⟨⟨by decide +kernel, by decide +kernel⟩, List.mem_of_getElem? (i := 965) (by decide +kernel), List.mem_of_getElem? (i := 1419) (by decide +kernel), List.mem_of_getElem? (i := 1420) (by decide +kernel)⟩
theorem lw_p76 : lw_okq (⟨"ApprovalRoutesModel", "nextByte", "()I"⟩, 31) := ⟨⟨by decide +kernel, by decide +kernel⟩, List.mem_of_getElem? (i := 965) (by decide +kernel), List.mem_of_getElem? (i := 1423) (by decide +kernel), List.mem_of_getElem? (i := 1424) (by decide +kernel)⟩
theorem lw_p77 : lw_okq (⟨"ApprovalRoutesModel", "byteAt", "(I)I"⟩, 31) := ⟨⟨by decide +kernel, by decide +kernel⟩, List.mem_of_getElem? (i := 965) (by decide +kernel), List.mem_of_getElem? (i := 1427) (by decide +kernel), List.mem_of_getElem? (i := 1428) (by decide +kernel)⟩
theorem lw_p78 : lw_okq (⟨"ApprovalRoutesModel", "readsPart", "()Z"⟩, 31) := ⟨⟨by decide +kernel, by decide +kernel⟩, List.mem_of_getElem? (i := 965) (by decide +kernel), List.mem_of_getElem? (i := 1431) (by decide +kernel), List.mem_of_getElem? (i := 1432) (by decide +kernel)⟩
theorem lw_p79 : lw_okq (⟨"ApprovalRoutesModel", "isWord", "(Ljava/lang/String;)Z"⟩, 31) := ⟨⟨by decide +kernel, by decide +kernel⟩, List.mem_of_getElem? (i := 965) (by decide +kernel), List.mem_of_getElem? (i := 1436) (by decide +kernel), List.mem_of_getElem? (i := 1437) (by decide +kernel)⟩
def lw_privs_5 : List (MethodName × Nat) := [(⟨"ApprovalRoutesModel", "laysLoads", "()V"⟩, 31), (⟨"ApprovalRoutesModel", "counts", "(I)V"⟩, 31), (⟨"ApprovalRoutesModel", "isManned", "(II)Z"⟩, 31), (⟨"ApprovalRoutesModel", "recalledMany", "()I"⟩, 31), (⟨"ApprovalRoutesModel", "stuckMany", "()I"⟩, 31), (⟨"ApprovalRoutesModel", "keepsAct", "()V"⟩, 31), (⟨"ApprovalRoutesModel", "comes", "(IIIIII)I"⟩, 31), (⟨"ApprovalRoutesModel", "mayRecall", "(II)I"⟩, 31), (⟨"ApprovalRoutesModel", "comesEntry", "(IIIIII)I"⟩, 31), (⟨"ApprovalRoutesModel", "becomes", "(II)I"⟩, 31), (⟨"ApprovalRoutesModel", "puts4", "(I)V"⟩, 31), (⟨"ApprovalRoutesModel", "readsAll", "()Z"⟩, 31), (⟨"ApprovalRoutesModel", "nextByte", "()I"⟩, 31), (⟨"ApprovalRoutesModel", "byteAt", "(I)I"⟩, 31), (⟨"ApprovalRoutesModel", "readsPart", "()Z"⟩, 31), (⟨"ApprovalRoutesModel", "isWord", "(Ljava/lang/String;)Z"⟩, 31)]
theorem lw_r5 : ∀ q ∈ lw_privs_5, lw_okq q := List.forall_mem_cons.mpr ⟨lw_p64, List.forall_mem_cons.mpr ⟨lw_p65, List.forall_mem_cons.mpr ⟨lw_p66, List.forall_mem_cons.mpr ⟨lw_p67, List.forall_mem_cons.mpr ⟨lw_p68, List.forall_mem_cons.mpr ⟨lw_p69, List.forall_mem_cons.mpr ⟨lw_p70, List.forall_mem_cons.mpr ⟨lw_p71, List.forall_mem_cons.mpr ⟨lw_p72, List.forall_mem_cons.mpr ⟨lw_p73, List.forall_mem_cons.mpr ⟨lw_p74, List.forall_mem_cons.mpr ⟨lw_p75, List.forall_mem_cons.mpr ⟨lw_p76, List.forall_mem_cons.mpr ⟨lw_p77, List.forall_mem_cons.mpr ⟨lw_p78, List.forall_mem_cons.mpr ⟨lw_p79, fun _ h => absurd h List.not_mem_nil⟩⟩⟩⟩⟩⟩⟩⟩⟩⟩⟩⟩⟩⟩⟩⟩
theorem lw_p80 : lw_okq (⟨"ApprovalRoutesModel", "readsPost", "()Z"⟩, 31) := ⟨⟨by decide +kernel, by decide +kernel⟩, List.mem_of_getElem? (i := 965) (by decide +kernel), List.mem_of_getElem? (i := 1444) (by decide +kernel), List.mem_of_getElem? (i := 1445) (by decide +kernel)⟩
theorem lw_p81 : lw_okq (⟨"ApprovalRoutesModel", "takes", "(Ljava/lang/String;Z)Z"⟩, 31) := ⟨⟨by decide +kernel, by decide +kernel⟩, List.mem_of_getElem? (i := 965) (by decide +kernel), List.mem_of_getElem? (i := 1448) (by decide +kernel), List.mem_of_getElem? (i := 1449) (by decide +kernel)⟩
theorem lw_p82 : lw_okq (⟨"ApprovalRoutesModel", "fails", "(II)Z"⟩, 31) := ⟨⟨by decide +kernel, by decide +kernel⟩, List.mem_of_getElem? (i := 965) (by decide +kernel), List.mem_of_getElem? (i := 1452) (by decide +kernel), List.mem_of_getElem? (i := 1453) (by decide +kernel)⟩
theorem lw_p83 : lw_okq (⟨"ApprovalRoutesModel", "readsTo", "(III)Z"⟩, 31) := ⟨⟨by decide +kernel, by decide +kernel⟩, List.mem_of_getElem? (i := 965) (by decide +kernel), List.mem_of_getElem? (i := 1457) (by decide +kernel), List.mem_of_getElem? (i := 1458) (by decide +kernel)⟩
theorem lw_p84 : lw_okq (⟨"ApprovalRoutesModel", "readsNumber", "(II)Z"⟩, 31) := ⟨⟨by decide +kernel, by decide +kernel⟩, List.mem_of_getElem? (i := 965) (by decide +kernel), List.mem_of_getElem? (i := 1461) (by decide +kernel), List.mem_of_getElem? (i := 1462) (by decide +kernel)⟩
theorem lw_p85 : lw_okq (⟨"ApprovalRoutesModel", "readsEntry", "(I)Z"⟩, 31) := ⟨⟨by decide +kernel, by decide +kernel⟩, List.mem_of_getElem? (i := 965) (by decide +kernel), List.mem_of_getElem? (i := 1475) (by decide +kernel), List.mem_of_getElem? (i := 1476) (by decide +kernel)⟩
theorem lw_p86 : lw_okq (⟨"ApprovalRoutesModel", "readsHold", "(I)Z"⟩, 31) := ⟨⟨by decide +kernel, by decide +kernel⟩, List.mem_of_getElem? (i := 965) (by decide +kernel), List.mem_of_getElem? (i := 1479) (by decide +kernel), List.mem_of_getElem? (i := 1480) (by decide +kernel)⟩
theorem lw_p87 : lw_okq (⟨"ApprovalRoutesModel", "readsDays", "(I)Z"⟩, 31) := ⟨⟨by decide +kernel, by decide +kernel⟩, List.mem_of_getElem? (i := 965) (by decide +kernel), List.mem_of_getElem? (i := 1483) (by decide +kernel), List.mem_of_getElem? (i := 1484) (by decide +kernel)⟩
theorem lw_p88 : lw_okq (⟨"ApprovalRoutesModel", "readsStand", "(I)Z"⟩, 31) := ⟨⟨by decide +kernel, by decide +kernel⟩, List.mem_of_getElem? (i := 965) (by decide +kernel), List.mem_of_getElem? (i := 1487) (by decide +kernel), List.mem_of_getElem? (i := 1488) (by decide +kernel)⟩
theorem lw_p89 : lw_okq (⟨"ApprovalRoutesModel", "readsSet", "(I)Z"⟩, 31) := ⟨⟨by decide +kernel, by decide +kernel⟩, List.mem_of_getElem? (i := 965) (by decide +kernel), List.mem_of_getElem? (i := 1497) (by decide +kernel), List.mem_of_getElem? (i := 1498) (by decide +kernel)⟩
theorem lw_p90 : lw_okq (⟨"ApprovalRoutesModel", "fallsBy", "(I)I"⟩, 31) := ⟨⟨by decide +kernel, by decide +kernel⟩, List.mem_of_getElem? (i := 965) (by decide +kernel), List.mem_of_getElem? (i := 1513) (by decide +kernel), List.mem_of_getElem? (i := 1514) (by decide +kernel)⟩
theorem lw_p91 : lw_okq (⟨"ApprovalRoutesModel", "isApprovedNow", "(I)Z"⟩, 31) := ⟨⟨by decide +kernel, by decide +kernel⟩, List.mem_of_getElem? (i := 965) (by decide +kernel), List.mem_of_getElem? (i := 1517) (by decide +kernel), List.mem_of_getElem? (i := 1518) (by decide +kernel)⟩
theorem lw_p92 : lw_okq (⟨"ApprovalRoutesModel", "isDodged", "(IIIII)Z"⟩, 31) := ⟨⟨by decide +kernel, by decide +kernel⟩, List.mem_of_getElem? (i := 965) (by decide +kernel), List.mem_of_getElem? (i := 1529) (by decide +kernel), List.mem_of_getElem? (i := 1530) (by decide +kernel)⟩
theorem lw_p93 : lw_okq (⟨"ApprovalRoutesModel", "lineFrom", "(III)I"⟩, 31) := ⟨⟨by decide +kernel, by decide +kernel⟩, List.mem_of_getElem? (i := 965) (by decide +kernel), List.mem_of_getElem? (i := 1537) (by decide +kernel), List.mem_of_getElem? (i := 1538) (by decide +kernel)⟩
theorem lw_p94 : lw_okq (⟨"ApprovalRoutesModel", "spellPost", "(I)V"⟩, 31) := ⟨⟨by decide +kernel, by decide +kernel⟩, List.mem_of_getElem? (i := 965) (by decide +kernel), List.mem_of_getElem? (i := 1545) (by decide +kernel), List.mem_of_getElem? (i := 1546) (by decide +kernel)⟩
theorem lw_p95 : lw_okq (⟨"ApprovalRoutesModel", "spellPart", "(Ljava/lang/String;)V"⟩, 31) := ⟨⟨by decide +kernel, by decide +kernel⟩, List.mem_of_getElem? (i := 965) (by decide +kernel), List.mem_of_getElem? (i := 1549) (by decide +kernel), List.mem_of_getElem? (i := 1550) (by decide +kernel)⟩
def lw_privs_6 : List (MethodName × Nat) := [(⟨"ApprovalRoutesModel", "readsPost", "()Z"⟩, 31), (⟨"ApprovalRoutesModel", "takes", "(Ljava/lang/String;Z)Z"⟩, 31), (⟨"ApprovalRoutesModel", "fails", "(II)Z"⟩, 31), (⟨"ApprovalRoutesModel", "readsTo", "(III)Z"⟩, 31), (⟨"ApprovalRoutesModel", "readsNumber", "(II)Z"⟩, 31), (⟨"ApprovalRoutesModel", "readsEntry", "(I)Z"⟩, 31), (⟨"ApprovalRoutesModel", "readsHold", "(I)Z"⟩, 31), (⟨"ApprovalRoutesModel", "readsDays", "(I)Z"⟩, 31), (⟨"ApprovalRoutesModel", "readsStand", "(I)Z"⟩, 31), (⟨"ApprovalRoutesModel", "readsSet", "(I)Z"⟩, 31), (⟨"ApprovalRoutesModel", "fallsBy", "(I)I"⟩, 31), (⟨"ApprovalRoutesModel", "isApprovedNow", "(I)Z"⟩, 31), (⟨"ApprovalRoutesModel", "isDodged", "(IIIII)Z"⟩, 31), (⟨"ApprovalRoutesModel", "lineFrom", "(III)I"⟩, 31), (⟨"ApprovalRoutesModel", "spellPost", "(I)V"⟩, 31), (⟨"ApprovalRoutesModel", "spellPart", "(Ljava/lang/String;)V"⟩, 31)]
theorem lw_r6 : ∀ q ∈ lw_privs_6, lw_okq q := List.forall_mem_cons.mpr ⟨lw_p80, List.forall_mem_cons.mpr ⟨lw_p81, List.forall_mem_cons.mpr ⟨lw_p82, List.forall_mem_cons.mpr ⟨lw_p83, List.forall_mem_cons.mpr ⟨lw_p84, List.forall_mem_cons.mpr ⟨lw_p85, List.forall_mem_cons.mpr ⟨lw_p86, List.forall_mem_cons.mpr ⟨lw_p87, List.forall_mem_cons.mpr ⟨lw_p88, List.forall_mem_cons.mpr ⟨lw_p89, List.forall_mem_cons.mpr ⟨lw_p90, List.forall_mem_cons.mpr ⟨lw_p91, List.forall_mem_cons.mpr ⟨lw_p92, List.forall_mem_cons.mpr ⟨lw_p93, List.forall_mem_cons.mpr ⟨lw_p94, List.forall_mem_cons.mpr ⟨lw_p95, fun _ h => absurd h List.not_mem_nil⟩⟩⟩⟩⟩⟩⟩⟩⟩⟩⟩⟩⟩⟩⟩⟩
theorem lw_p96 : lw_okq (⟨"ApprovalRoutesModel", "spell", "(I)V"⟩, 31) := ⟨⟨by decide +kernel, by decide +kernel⟩, List.mem_of_getElem? (i := 965) (by decide +kernel), List.mem_of_getElem? (i := 1553) (by decide +kernel), List.mem_of_getElem? (i := 1554) (by decide +kernel)⟩
theorem lw_p97 : lw_okq (⟨"ApprovalRoutesModel", "spellWord", "(Ljava/lang/String;)V"⟩, 31) := ⟨⟨by decide +kernel, by decide +kernel⟩, List.mem_of_getElem? (i := 965) (by decide +kernel), List.mem_of_getElem? (i := 1557) (by decide +kernel), List.mem_of_getElem? (i := 1558) (by decide +kernel)⟩
theorem lw_p98 : lw_okq (⟨"ApprovalRoutesModel", "spellNumber", "(I)V"⟩, 31) := ⟨⟨by decide +kernel, by decide +kernel⟩, List.mem_of_getElem? (i := 965) (by decide +kernel), List.mem_of_getElem? (i := 1562) (by decide +kernel), List.mem_of_getElem? (i := 1563) (by decide +kernel)⟩
theorem lw_p99 : lw_okq (⟨"ApprovalRoutesModel", "spellEntry", "(II)V"⟩, 31) := ⟨⟨by decide +kernel, by decide +kernel⟩, List.mem_of_getElem? (i := 965) (by decide +kernel), List.mem_of_getElem? (i := 1566) (by decide +kernel), List.mem_of_getElem? (i := 1567) (by decide +kernel)⟩
theorem lw_p100 : lw_okq (⟨"ApprovalRoutesModel", "spellSet", "(I)V"⟩, 31) := ⟨⟨by decide +kernel, by decide +kernel⟩, List.mem_of_getElem? (i := 965) (by decide +kernel), List.mem_of_getElem? (i := 1570) (by decide +kernel), List.mem_of_getElem? (i := 1571) (by decide +kernel)⟩
def lw_privs_7 : List (MethodName × Nat) := [(⟨"ApprovalRoutesModel", "spell", "(I)V"⟩, 31), (⟨"ApprovalRoutesModel", "spellWord", "(Ljava/lang/String;)V"⟩, 31), (⟨"ApprovalRoutesModel", "spellNumber", "(I)V"⟩, 31), (⟨"ApprovalRoutesModel", "spellEntry", "(II)V"⟩, 31), (⟨"ApprovalRoutesModel", "spellSet", "(I)V"⟩, 31)]
theorem lw_r7 : ∀ q ∈ lw_privs_7, lw_okq q := List.forall_mem_cons.mpr ⟨lw_p96, List.forall_mem_cons.mpr ⟨lw_p97, List.forall_mem_cons.mpr ⟨lw_p98, List.forall_mem_cons.mpr ⟨lw_p99, List.forall_mem_cons.mpr ⟨lw_p100, fun _ h => absurd h List.not_mem_nil⟩⟩⟩⟩⟩
def lw_privs : List (MethodName × Nat) := lw_privs_1 ++ (lw_privs_2 ++ (lw_privs_3 ++ (lw_privs_4 ++ (lw_privs_5 ++ (lw_privs_6 ++ (lw_privs_7))))))
def lw_tbl : List Cond := k2_sels lw_privs ++ tables_1
theorem lw_privs_ok : ∀ q ∈ lw_privs, lw_okq q := by
  show ∀ q ∈ lw_privs_1 ++ (lw_privs_2 ++ (lw_privs_3 ++ (lw_privs_4 ++ (lw_privs_5 ++ (lw_privs_6 ++ (lw_privs_7)))))), lw_okq q
  exact List.forall_mem_append.mpr ⟨lw_r1, List.forall_mem_append.mpr ⟨lw_r2, List.forall_mem_append.mpr ⟨lw_r3, List.forall_mem_append.mpr ⟨lw_r4, List.forall_mem_append.mpr ⟨lw_r5, List.forall_mem_append.mpr ⟨lw_r6, lw_r7⟩⟩⟩⟩⟩⟩
end
section
/-! tables of the program, by wip/whole/gen_print.py: class names, fields, methods, links -/
def k_cnL : List String := ["ApprovalRoutes$Desk", "ApprovalRoutes$Letter", "ApprovalRoutes$Matter", "ApprovalRoutes$Past", "ApprovalRoutes$Reader", "ApprovalRoutes$Route", "ApprovalRoutes$State", "ApprovalRoutes$Tape", "ApprovalRoutes$Web", "ApprovalRoutes", "ApprovalRoutesModel", "ApprovalRoutesLaw", "java/lang/String", "java/lang/StringLatin1", "java/lang/Long", "jdk/internal/util/Preconditions", "java/lang/StringUTF16", "java/lang/Math"]
def k_cn (k : Nat) : String := k_cnL.getD k ""
def k_T0 : u_T := fun k => match k with
  | 0 => ("ApprovalRoutes$Desk", "state", "LApprovalRoutes$State;", true)
  | 1 => ("ApprovalRoutes$Desk", "line", "[I", true)
  | 2 => ("ApprovalRoutes$Desk", "asker", "I", false)
  | 3 => ("ApprovalRoutes$Desk", "day", "I", false)
  | 4 => ("ApprovalRoutes$Desk", "barred", "I", false)
  | 5 => ("ApprovalRoutes$Desk", "asked", "I", false)
  | 6 => ("ApprovalRoutes$Desk", "depth", "I", false)
  | 7 => ("ApprovalRoutes$Desk", "limit", "I", false)
  | _ => ("ApprovalRoutes$Desk", "reason", "I", false)
def k_y0 : List FieldType := [(.object "ApprovalRoutes$State"), (.array .int), .int, .int, .int, .int, .int, .int, .int]
def k_T1 : u_T := fun k => match k with
  | 0 => ("ApprovalRoutes$Letter", "wanted", "I", false)
  | 1 => ("ApprovalRoutes$Letter", "size", "I", false)
  | _ => ("ApprovalRoutes$Letter", "found", "I", false)
def k_y1 : List FieldType := [.int, .int, .int]
def k_T2 : u_T := fun k => match k with
  | 0 => ("ApprovalRoutes$Matter", "person", "I", false)
  | 1 => ("ApprovalRoutes$Matter", "vendor", "I", false)
  | 2 => ("ApprovalRoutes$Matter", "kind", "I", false)
  | 3 => ("ApprovalRoutes$Matter", "post", "I", false)
  | 4 => ("ApprovalRoutes$Matter", "day", "I", false)
  | 5 => ("ApprovalRoutes$Matter", "whole", "I", false)
  | 6 => ("ApprovalRoutes$Matter", "absent", "I", false)
  | _ => ("ApprovalRoutes$Matter", "spared", "I", false)
def k_y2 : List FieldType := [.int, .int, .int, .int, .int, .int, .int, .int]
def k_T3 : u_T := fun k => match k with
  | 0 => ("ApprovalRoutes$Past", "states", "[LApprovalRoutes$State;", true)
  | 1 => ("ApprovalRoutes$Past", "first", "I", false)
  | _ => ("ApprovalRoutes$Past", "size", "I", false)
def k_y3 : List FieldType := [(.array (.object "ApprovalRoutes$State")), .int, .int]
def k_T4 : u_T := fun k => match k with
  | 0 => ("ApprovalRoutes$Reader", "tape", "LApprovalRoutes$Tape;", true)
  | 1 => ("ApprovalRoutes$Reader", "draft", "LApprovalRoutes$State;", true)
  | 2 => ("ApprovalRoutes$Reader", "numbers", "[I", true)
  | 3 => ("ApprovalRoutes$Reader", "at", "I", false)
  | 4 => ("ApprovalRoutes$Reader", "fault", "I", false)
  | _ => ("ApprovalRoutes$Reader", "settingsTold", "I", false)
def k_y4 : List FieldType := [(.object "ApprovalRoutes$Tape"), (.object "ApprovalRoutes$State"), (.array .int), .int, .int, .int]
def k_T5 : u_T := fun k => match k with
  | 0 => ("ApprovalRoutes$Route", "state", "LApprovalRoutes$State;", true)
  | 1 => ("ApprovalRoutes$Route", "desk", "LApprovalRoutes$Desk;", true)
  | 2 => ("ApprovalRoutes$Route", "steps", "[I", true)
  | 3 => ("ApprovalRoutes$Route", "lines", "[I", true)
  | _ => ("ApprovalRoutes$Route", "length", "I", false)
def k_y5 : List FieldType := [(.object "ApprovalRoutes$State"), (.object "ApprovalRoutes$Desk"), (.array .int), (.array .int), .int]
def k_T6 : u_T := fun k => match k with
  | 0 => ("ApprovalRoutes$State", "cells", "[I", true)
  | 1 => ("ApprovalRoutes$State", "sizes", "[I", true)
  | _ => ("ApprovalRoutes$State", "settings", "[I", true)
def k_y6 : List FieldType := [(.array .int), (.array .int), (.array .int)]
def k_T7 : u_T := fun k => match k with
  | 0 => ("ApprovalRoutes$Tape", "bytes", "[B", true)
  | _ => ("ApprovalRoutes$Tape", "size", "I", false)
def k_y7 : List FieldType := [(.array .byte), .int]
def k_T8 : u_T := fun k => match k with
  | _ => ("ApprovalRoutes$Web", "takers", "[I", true)
def k_y8 : List FieldType := [(.array .int)]
def k_T9 : u_T := fun k => match k with
  | 0 => ("ApprovalRoutes", "now", "LApprovalRoutes$State;", true)
  | 1 => ("ApprovalRoutes", "past", "LApprovalRoutes$Past;", true)
  | 2 => ("ApprovalRoutes", "shelves", "[LApprovalRoutes$State;", true)
  | 3 => ("ApprovalRoutes", "keptShelves", "I", false)
  | 4 => ("ApprovalRoutes", "tape", "LApprovalRoutes$Tape;", true)
  | 5 => ("ApprovalRoutes", "draft", "LApprovalRoutes$State;", true)
  | 6 => ("ApprovalRoutes", "reader", "LApprovalRoutes$Reader;", true)
  | 7 => ("ApprovalRoutes", "text", "LApprovalRoutes$Letter;", true)
  | 8 => ("ApprovalRoutes", "matter", "LApprovalRoutes$Matter;", true)
  | 9 => ("ApprovalRoutes", "desk", "LApprovalRoutes$Desk;", true)
  | 10 => ("ApprovalRoutes", "route", "LApprovalRoutes$Route;", true)
  | 11 => ("ApprovalRoutes", "web", "LApprovalRoutes$Web;", true)
  | 12 => ("ApprovalRoutes", "tally", "[I", true)
  | _ => ("ApprovalRoutes", "partLimits", "[I", true)
def k_y9 : List FieldType := [(.object "ApprovalRoutes$State"), (.object "ApprovalRoutes$Past"), (.array (.object "ApprovalRoutes$State")), .int, (.object "ApprovalRoutes$Tape"), (.object "ApprovalRoutes$State"), (.object "ApprovalRoutes$Reader"), (.object "ApprovalRoutes$Letter"), (.object "ApprovalRoutes$Matter"), (.object "ApprovalRoutes$Desk"), (.object "ApprovalRoutes$Route"), (.object "ApprovalRoutes$Web"), (.array .int), (.array .int)]
def k_T10 : u_T := fun k => match k with
  | 0 => ("ApprovalRoutesModel", "now", "[I", true)
  | 1 => ("ApprovalRoutesModel", "was", "[I", true)
  | 2 => ("ApprovalRoutesModel", "undone", "I", false)
  | 3 => ("ApprovalRoutesModel", "kept", "[I", true)
  | 4 => ("ApprovalRoutesModel", "isKept", "[Z", true)
  | 5 => ("ApprovalRoutesModel", "gone", "I", false)
  | 6 => ("ApprovalRoutesModel", "leftOut", "I", false)
  | 7 => ("ApprovalRoutesModel", "asker", "I", false)
  | 8 => ("ApprovalRoutesModel", "vendor", "I", false)
  | 9 => ("ApprovalRoutesModel", "day", "I", false)
  | 10 => ("ApprovalRoutesModel", "askedOnes", "I", false)
  | 11 => ("ApprovalRoutesModel", "line", "[I", true)
  | 12 => ("ApprovalRoutesModel", "lineMany", "I", false)
  | 13 => ("ApprovalRoutesModel", "limit", "I", false)
  | 14 => ("ApprovalRoutesModel", "reason", "I", false)
  | 15 => ("ApprovalRoutesModel", "step", "[I", true)
  | 16 => ("ApprovalRoutesModel", "lines", "[I", true)
  | 17 => ("ApprovalRoutesModel", "steps", "I", false)
  | 18 => ("ApprovalRoutesModel", "isApproved", "Z", false)
  | 19 => ("ApprovalRoutesModel", "loads", "[I", true)
  | 20 => ("ApprovalRoutesModel", "tape", "[B", true)
  | 21 => ("ApprovalRoutesModel", "taped", "I", false)
  | 22 => ("ApprovalRoutesModel", "spot", "I", false)
  | 23 => ("ApprovalRoutesModel", "wrong", "I", false)
  | 24 => ("ApprovalRoutesModel", "number", "I", false)
  | 25 => ("ApprovalRoutesModel", "numberAt", "I", false)
  | 26 => ("ApprovalRoutesModel", "read", "[I", true)
  | 27 => ("ApprovalRoutesModel", "settled", "I", false)
  | 28 => ("ApprovalRoutesModel", "spelt", "I", false)
  | 29 => ("ApprovalRoutesModel", "wanted", "I", false)
  | _ => ("ApprovalRoutesModel", "found", "I", false)
def k_y10 : List FieldType := [(.array .int), (.array .int), .int, (.array .int), (.array .boolean), .int, .int, .int, .int, .int, .int, (.array .int), .int, .int, .int, (.array .int), (.array .int), .int, .boolean, (.array .int), (.array .byte), .int, .int, .int, .int, .int, (.array .int), .int, .int, .int, .int]
def k_cl : List vw_C := [("ApprovalRoutes$Desk", k_T0, 9), ("ApprovalRoutes$Letter", k_T1, 3), ("ApprovalRoutes$Matter", k_T2, 8), ("ApprovalRoutes$Past", k_T3, 3), ("ApprovalRoutes$Reader", k_T4, 6), ("ApprovalRoutes$Route", k_T5, 5), ("ApprovalRoutes$State", k_T6, 3), ("ApprovalRoutes$Tape", k_T7, 2), ("ApprovalRoutes$Web", k_T8, 1), ("ApprovalRoutes", k_T9, 14), ("ApprovalRoutesModel", k_T10, 31)]
def k_tyL : List (List FieldType) := [k_y0, k_y1, k_y2, k_y3, k_y4, k_y5, k_y6, k_y7, k_y8, k_y9, k_y10]
def k_fty (ci k : Nat) : FieldType := (k_tyL.getD ci []).getD k .int
def k_new : List (List Value) := [[.null, .null, .int 0, .int 0, .int 0, .int 0, .int 0, .int 0, .int 0], [.int 0, .int 0, .int 0], [.int 0, .int 0, .int 0, .int 0, .int 0, .int 0, .int 0, .int 0], [.null, .int 0, .int 0], [.null, .null, .null, .int 0, .int 0, .int 0], [.null, .null, .null, .null, .int 0], [.null, .null, .null], [.null, .int 0], [.null], [.null, .null, .null, .int 0, .null, .null, .null, .null, .null, .null, .null, .null, .null, .null], [.null, .null, .int 0, .null, .null, .int 0, .int 0, .int 0, .int 0, .int 0, .int 0, .null, .int 0, .int 0, .int 0, .null, .null, .int 0, .int 0, .null, .null, .int 0, .int 0, .int 0, .int 0, .int 0, .null, .int 0, .int 0, .int 0, .int 0]]
abbrev k_M : Type := Nat × String × String × ByteArray × Nat × Option FieldType × Nat × Nat
def k_mL0 : List k_M := [(0, "<init>", "(LApprovalRoutes$State;)V", prog_2_method_1_code, 2, none, 2, 2),
  (0, "ask", "(LApprovalRoutes$Matter;II)Z", prog_2_method_2_code, 6, (some .boolean), 4, 0),
  (0, "askOne", "(III)Z", prog_2_method_3_code, 7, (some .boolean), 4, 0),
  (0, "inLine", "(I)I", prog_2_method_4_code, 2, (some .int), 2, 0),
  (0, "decider", "()I", prog_2_method_5_code, 1, (some .int), 1, 0),
  (1, "<init>", "()V", prog_3_method_1_code, 1, none, 1, 2),
  (1, "byteOf", "(LApprovalRoutes$State;I)I", prog_3_method_2_code, 4, (some .int), 3, 0),
  (1, "tellRows", "(LApprovalRoutes$State;I)V", prog_3_method_3_code, 5, none, 3, 0),
  (1, "beginPart", "(I)V", prog_3_method_4_code, 2, none, 2, 0),
  (1, "writeNumber", "(I)V", prog_3_method_5_code, 3, none, 2, 0),
  (1, "writeWord", "(Ljava/lang/String;)V", prog_3_method_6_code, 3, none, 2, 0),
  (1, "write", "(C)V", prog_3_method_7_code, 2, none, 2, 0),
  (2, "<init>", "()V", prog_4_method_1_code, 1, none, 1, 2),
  (2, "begin", "(III)V", prog_4_method_2_code, 4, none, 4, 0),
  (3, "<init>", "()V", prog_5_method_1_code, 2, none, 1, 2),
  (3, "forget", "()V", prog_5_method_2_code, 1, none, 1, 0),
  (3, "remember", "(LApprovalRoutes$State;)V", prog_5_method_3_code, 2, none, 2, 0),
  (3, "takeBack", "(LApprovalRoutes$State;)I", prog_5_method_4_code, 2, (some .int), 2, 0),
  (4, "<init>", "(LApprovalRoutes$Tape;LApprovalRoutes$State;)V", prog_6_method_1_code, 3, none, 3, 2),
  (4, "read", "()I", prog_6_method_2_code, 3, (some .int), 1, 0),
  (4, "fail", "(II)V", prog_6_method_3_code, 3, none, 3, 0),
  (4, "skipBlanks", "()V", prog_6_method_4_code, 1, none, 1, 0),
  (4, "readSemicolon", "()Z", prog_6_method_5_code, 1, (some .boolean), 1, 0),
  (4, "readPart", "()V", prog_6_method_6_code, 5, none, 1, 0),
  (4, "wordLength", "()I", prog_6_method_7_code, 2, (some .int), 1, 0),
  (4, "partNamed", "(I)I", prog_6_method_8_code, 3, (some .int), 2, 0),
  (4, "isWord", "(Ljava/lang/String;I)Z", prog_6_method_9_code, 4, (some .boolean), 3, 0),
  (4, "isTold", "(I)Z", prog_6_method_10_code, 2, (some .boolean), 2, 0),
  (4, "signsOf", "(I)Ljava/lang/String;", prog_6_method_11_code, 1, (some (.object "java/lang/String")), 1, 1),
  (4, "fits", "(CII)Z", prog_6_method_12_code, 4, (some .boolean), 4, 0),
  (4, "readNumber", "(CII)V", prog_6_method_13_code, 6, none, 4, 0),
  (4, "take", "(I)V", prog_6_method_14_code, 2, none, 2, 0),
  (5, "<init>", "(LApprovalRoutes$State;LApprovalRoutes$Desk;)V", prog_7_method_1_code, 3, none, 3, 2),
  (5, "follow", "(LApprovalRoutes$Matter;)V", prog_7_method_2_code, 5, none, 2, 0),
  (5, "climb", "(LApprovalRoutes$Matter;)V", prog_7_method_3_code, 2, none, 2, 0),
  (5, "limitOfFirstStep", "(LApprovalRoutes$Matter;II)I", prog_7_method_4_code, 4, (some .int), 4, 0),
  (5, "takeStep", "(LApprovalRoutes$Matter;II)V", prog_7_method_5_code, 10, none, 4, 0),
  (5, "has", "(I)Z", prog_7_method_6_code, 2, (some .boolean), 2, 0),
  (5, "cell", "(II)I", prog_7_method_7_code, 3, (some .int), 3, 0),
  (5, "lastCell", "(I)I", prog_7_method_8_code, 2, (some .int), 2, 0)]
def k_mL1 : List k_M := [(5, "inLine", "(II)I", prog_7_method_9_code, 3, (some .int), 3, 0),
  (5, "isApproved", "()Z", prog_7_method_10_code, 1, (some .boolean), 1, 0),
  (5, "outcome", "(I)I", prog_7_method_11_code, 2, (some .int), 2, 0),
  (5, "firstCovering", "(I)I", prog_7_method_12_code, 3, (some .int), 2, 0),
  (5, "greatestLimit", "(I)I", prog_7_method_13_code, 4, (some .int), 2, 0),
  (5, "doers", "()I", prog_7_method_14_code, 3, (some .int), 1, 0),
  (5, "countsAs", "(II)Z", prog_7_method_15_code, 3, (some .boolean), 3, 0),
  (6, "<init>", "()V", prog_8_method_1_code, 1, none, 1, 2),
  (6, "clear", "()V", prog_8_method_2_code, 2, none, 1, 0),
  (6, "copyFrom", "(LApprovalRoutes$State;)V", prog_8_method_3_code, 4, none, 2, 0),
  (6, "has", "(II)Z", prog_8_method_4_code, 3, (some .boolean), 3, 0),
  (6, "isFull", "(I)Z", prog_8_method_5_code, 2, (some .boolean), 2, 0),
  (6, "cell", "(III)I", prog_8_method_6_code, 4, (some .int), 4, 0),
  (6, "put", "(IIII)V", prog_8_method_7_code, 5, none, 5, 0),
  (6, "addRow", "(IIIIII)I", prog_8_method_8_code, 9, (some .int), 7, 0),
  (6, "addRequest", "(IIIIII)I", prog_8_method_9_code, 8, (some .int), 7, 0),
  (6, "removeRow", "(II)V", prog_8_method_10_code, 5, none, 3, 0),
  (6, "isRecalled", "(I)Z", prog_8_method_11_code, 2, (some .boolean), 2, 0),
  (6, "postsAbove", "(I)I", prog_8_method_12_code, 4, (some .int), 2, 0),
  (6, "postsBelow", "(I)I", prog_8_method_13_code, 4, (some .int), 2, 0),
  (6, "covers", "(III)Z", prog_8_method_14_code, 5, (some .boolean), 4, 0),
  (6, "holderAt", "(II)I", prog_8_method_15_code, 4, (some .int), 3, 0),
  (6, "awayBits", "(II)I", prog_8_method_16_code, 5, (some .int), 3, 0),
  (6, "foeBits", "(I)I", prog_8_method_17_code, 4, (some .int), 2, 0),
  (6, "nextChange", "(I)I", prog_8_method_18_code, 7, (some .int), 2, 0),
  (6, "joinedBits", "(II)J", prog_8_method_19_code, 12, (some .long), 3, 0),
  (6, "canJoin", "(III)Z", prog_8_method_20_code, 5, (some .boolean), 4, 0),
  (6, "amountOf", "(J)I", prog_8_method_21_code, 5, (some .int), 2, 0),
  (7, "<init>", "()V", prog_9_method_1_code, 1, none, 1, 2),
  (7, "add", "(I)V", prog_9_method_2_code, 3, none, 2, 0),
  (7, "byteAt", "(I)I", prog_9_method_3_code, 2, (some .int), 2, 0),
  (8, "<init>", "()V", prog_10_method_1_code, 1, none, 1, 2),
  (8, "spin", "(LApprovalRoutes$State;I)V", prog_10_method_2_code, 4, none, 3, 0),
  (8, "ringBits", "()I", prog_10_method_3_code, 3, (some .int), 1, 0),
  (8, "reachedFrom", "(I)I", prog_10_method_4_code, 5, (some .int), 2, 0),
  (8, "longestLine", "()I", prog_10_method_5_code, 3, (some .int), 1, 0),
  (8, "lineFrom", "(III)I", prog_10_method_6_code, 7, (some .int), 4, 0),
  (9, "<init>", "()V", prog_1_method_1_code, 2, none, 1, 2),
  (9, "feed", "(IIIII)I", prog_1_method_2_code, 6, (some .int), 6, 0),
  (9, "end", "(I)I", prog_1_method_3_code, 2, (some .int), 2, 0)]
def k_mL2 : List k_M := [(9, "tell", "()I", prog_1_method_4_code, 2, (some .int), 1, 0),
  (9, "request", "(IIIII)I", prog_1_method_5_code, 6, (some .int), 6, 0),
  (9, "recall", "(II)I", prog_1_method_6_code, 4, (some .int), 3, 0),
  (9, "amend", "(III)I", prog_1_method_7_code, 5, (some .int), 4, 0),
  (9, "hold", "(IIII)I", prog_1_method_8_code, 5, (some .int), 5, 0),
  (9, "away", "(III)I", prog_1_method_9_code, 4, (some .int), 4, 0),
  (9, "stand", "(IIIII)I", prog_1_method_10_code, 6, (some .int), 6, 0),
  (9, "foe", "(II)I", prog_1_method_11_code, 3, (some .int), 3, 0),
  (9, "drop", "(II)I", prog_1_method_12_code, 3, (some .int), 3, 0),
  (9, "limit", "(III)I", prog_1_method_13_code, 5, (some .int), 4, 0),
  (9, "set", "(II)I", prog_1_method_14_code, 4, (some .int), 3, 0),
  (9, "undo", "()I", prog_1_method_15_code, 1, (some .int), 1, 0),
  (9, "keep", "(I)I", prog_1_method_16_code, 2, (some .int), 2, 0),
  (9, "back", "(I)I", prog_1_method_17_code, 2, (some .int), 2, 0),
  (9, "post", "(II)I", prog_1_method_18_code, 3, (some .int), 3, 0),
  (9, "entry", "(III)I", prog_1_method_19_code, 4, (some .int), 4, 0),
  (9, "asked", "(II)I", prog_1_method_20_code, 3, (some .int), 3, 0),
  (9, "joined", "(I)J", prog_1_method_21_code, 2, (some .long), 2, 0),
  (9, "step", "(III)I", prog_1_method_22_code, 4, (some .int), 4, 0),
  (9, "chain", "(III)I", prog_1_method_23_code, 4, (some .int), 4, 0),
  (9, "ends", "(II)I", prog_1_method_24_code, 3, (some .int), 3, 0),
  (9, "decides", "(IIII)I", prog_1_method_25_code, 5, (some .int), 5, 0),
  (9, "power", "(III)I", prog_1_method_26_code, 6, (some .int), 4, 0),
  (9, "ring", "(I)I", prog_1_method_27_code, 2, (some .int), 2, 0),
  (9, "split", "(I)I", prog_1_method_28_code, 4, (some .int), 2, 0),
  (9, "without", "(III)I", prog_1_method_29_code, 4, (some .int), 4, 0),
  (9, "cure", "(II)I", prog_1_method_30_code, 6, (some .int), 3, 0),
  (9, "most", "(II)I", prog_1_method_31_code, 5, (some .int), 3, 0),
  (9, "soonest", "(IIII)I", prog_1_method_32_code, 8, (some .int), 5, 0),
  (9, "instead", "(III)I", prog_1_method_33_code, 4, (some .int), 4, 0),
  (9, "pillar", "(I)I", prog_1_method_34_code, 3, (some .int), 2, 0),
  (9, "dodge", "(IIIII)I", prog_1_method_35_code, 9, (some .int), 6, 0),
  (9, "load", "(II)I", prog_1_method_36_code, 3, (some .int), 3, 0),
  (9, "busiest", "(I)I", prog_1_method_37_code, 2, (some .int), 2, 0),
  (9, "approved", "(I)I", prog_1_method_38_code, 8, (some .int), 2, 0),
  (9, "could", "(I)I", prog_1_method_39_code, 5, (some .int), 2, 0),
  (9, "manned", "(IIII)I", prog_1_method_40_code, 9, (some .int), 5, 0),
  (9, "gap", "(IIII)I", prog_1_method_41_code, 11, (some .int), 5, 0),
  (9, "letter", "(I)I", prog_1_method_42_code, 2, (some .int), 2, 0),
  (9, "tangle", "(I)I", prog_1_method_43_code, 2, (some .int), 2, 0)]
def k_mL3 : List k_M := [(9, "count", "(I)I", prog_1_method_44_code, 2, (some .int), 2, 0),
  (9, "isPerson", "(I)Z", prog_1_method_45_code, 1, (some .boolean), 1, 1),
  (9, "isDay", "(I)Z", prog_1_method_46_code, 1, (some .boolean), 1, 1),
  (9, "areDays", "(II)Z", prog_1_method_47_code, 2, (some .boolean), 2, 1),
  (9, "isKind", "(I)Z", prog_1_method_48_code, 1, (some .boolean), 1, 1),
  (9, "isEntryKind", "(I)Z", prog_1_method_49_code, 1, (some .boolean), 1, 1),
  (9, "isWhich", "(I)Z", prog_1_method_50_code, 1, (some .boolean), 1, 1),
  (9, "isAmount", "(I)Z", prog_1_method_51_code, 1, (some .boolean), 1, 1),
  (9, "isLimit", "(I)Z", prog_1_method_52_code, 1, (some .boolean), 1, 1),
  (9, "isShelf", "(I)Z", prog_1_method_53_code, 1, (some .boolean), 1, 1),
  (9, "isIn", "(II)Z", prog_1_method_54_code, 2, (some .boolean), 2, 1),
  (9, "bitOf", "(I)I", prog_1_method_55_code, 1, (some .int), 1, 1),
  (9, "addEntry", "(IIIIII)I", prog_1_method_56_code, 7, (some .int), 7, 0),
  (9, "refusalOfRecall", "(II)I", prog_1_method_57_code, 3, (some .int), 3, 0),
  (9, "wholeOn", "(II)I", prog_1_method_58_code, 3, (some .int), 3, 0),
  (9, "matterOf", "(I)LApprovalRoutes$Matter;", prog_1_method_59_code, 2, (some (.object "ApprovalRoutes$Matter")), 2, 0),
  (9, "isApprovedNow", "(I)Z", prog_1_method_60_code, 2, (some .boolean), 2, 0),
  (9, "countRecalled", "()I", prog_1_method_61_code, 3, (some .int), 1, 0),
  (9, "countStuck", "()I", prog_1_method_62_code, 3, (some .int), 1, 0),
  (9, "nextDay", "(II)I", prog_1_method_63_code, 3, (some .int), 3, 0),
  (9, "clearTally", "()V", prog_1_method_64_code, 2, none, 1, 0),
  (9, "tallySteps", "(I)V", prog_1_method_65_code, 5, none, 2, 0),
  (9, "tallyPillars", "(I)V", prog_1_method_66_code, 4, none, 2, 0),
  (9, "ofTally", "(I)I", prog_1_method_67_code, 4, (some .int), 2, 0),
  (9, "coverParts", "(II)Z", prog_1_method_68_code, 6, (some .boolean), 3, 0),
  (9, "wordOf", "(I)Ljava/lang/String;", prog_1_method_69_code, 1, (some (.object "java/lang/String")), 1, 1),
  (10, "<init>", "()V", prog_12_method_1_code, 1, none, 1, 2),
  (10, "begins", "([I)V", prog_12_method_2_code, 2, none, 1, 1),
  (10, "in", "(JJJ)Z", prog_12_method_3_code, 6, (some .boolean), 3, 1),
  (10, "has", "(II)Z", prog_12_method_4_code, 2, (some .boolean), 2, 1),
  (10, "posts", "()I", prog_12_method_5_code, 1, (some .int), 1, 0),
  (10, "requests", "()I", prog_12_method_6_code, 1, (some .int), 1, 0),
  (10, "isPost", "(I)Z", prog_12_method_7_code, 2, (some .boolean), 2, 0),
  (10, "isRequest", "(I)Z", prog_12_method_8_code, 2, (some .boolean), 2, 0),
  (10, "isPerson", "(I)Z", prog_12_method_9_code, 1, (some .boolean), 1, 1),
  (10, "isDay", "(I)Z", prog_12_method_10_code, 1, (some .boolean), 1, 1),
  (10, "areDays", "(II)Z", prog_12_method_11_code, 2, (some .boolean), 2, 1),
  (10, "upper", "(I)I", prog_12_method_12_code, 2, (some .int), 2, 0),
  (10, "limitOf", "(II)I", prog_12_method_13_code, 3, (some .int), 3, 0),
  (10, "of", "(II)I", prog_12_method_14_code, 3, (some .int), 3, 0)]
def k_mL4 : List k_M := [(10, "longOf", "(I)I", prog_12_method_15_code, 1, (some .int), 1, 1),
  (10, "beginOf", "(I)I", prog_12_method_16_code, 1, (some .int), 1, 1),
  (10, "many", "(I)I", prog_12_method_17_code, 2, (some .int), 2, 0),
  (10, "entryOf", "(III)I", prog_12_method_18_code, 4, (some .int), 4, 0),
  (10, "isAway", "(II)Z", prog_12_method_19_code, 4, (some .boolean), 3, 0),
  (10, "isFoe", "(I)Z", prog_12_method_20_code, 3, (some .boolean), 2, 0),
  (10, "holderOf", "(II)I", prog_12_method_21_code, 4, (some .int), 3, 0),
  (10, "asks", "(II)Z", prog_12_method_22_code, 5, (some .boolean), 3, 0),
  (10, "decider", "(III)I", prog_12_method_23_code, 5, (some .int), 4, 0),
  (10, "asksFor", "(II)V", prog_12_method_24_code, 3, none, 3, 0),
  (10, "joinedTo", "(I)J", prog_12_method_25_code, 6, (some .long), 2, 0),
  (10, "mayJoin", "(II)Z", prog_12_method_26_code, 4, (some .boolean), 3, 0),
  (10, "isNear", "(IIJ)Z", prog_12_method_27_code, 6, (some .boolean), 4, 0),
  (10, "bits", "(J)I", prog_12_method_28_code, 5, (some .int), 1, 1),
  (10, "wholeOf", "(I)I", prog_12_method_29_code, 6, (some .int), 2, 0),
  (10, "puts", "(IIII)V", prog_12_method_30_code, 7, none, 5, 0),
  (10, "climbs", "(IIII)I", prog_12_method_31_code, 9, (some .int), 5, 0),
  (10, "routesBy", "(II)V", prog_12_method_32_code, 5, none, 3, 0),
  (10, "routes", "(I)V", prog_12_method_33_code, 2, none, 2, 0),
  (10, "last", "(I)I", prog_12_method_34_code, 2, (some .int), 2, 0),
  (10, "isRecalled", "(I)Z", prog_12_method_35_code, 2, (some .boolean), 2, 0),
  (10, "aboveOf", "(I)I", prog_12_method_36_code, 4, (some .int), 2, 0),
  (10, "belowOf", "(I)I", prog_12_method_37_code, 4, (some .int), 2, 0),
  (10, "post", "(II)I", prog_12_method_38_code, 3, (some .int), 3, 0),
  (10, "isEntry", "(II)Z", prog_12_method_39_code, 3, (some .boolean), 3, 0),
  (10, "entry", "(III)I", prog_12_method_40_code, 4, (some .int), 4, 0),
  (10, "asked", "(II)I", prog_12_method_41_code, 3, (some .int), 3, 0),
  (10, "joined", "(I)J", prog_12_method_42_code, 2, (some .long), 2, 0),
  (10, "step", "(III)I", prog_12_method_43_code, 4, (some .int), 4, 0),
  (10, "chain", "(III)I", prog_12_method_44_code, 4, (some .int), 4, 0),
  (10, "ends", "(II)I", prog_12_method_45_code, 3, (some .int), 3, 0),
  (10, "endBy", "(I)I", prog_12_method_46_code, 2, (some .int), 2, 0),
  (10, "isWhich", "(I)Z", prog_12_method_47_code, 1, (some .boolean), 1, 1),
  (10, "decides", "(IIII)I", prog_12_method_48_code, 6, (some .int), 5, 0),
  (10, "power", "(III)I", prog_12_method_49_code, 6, (some .int), 4, 0),
  (10, "behind", "(II)I", prog_12_method_50_code, 7, (some .int), 3, 0),
  (10, "ring", "(I)I", prog_12_method_51_code, 4, (some .int), 2, 0),
  (10, "split", "(I)I", prog_12_method_52_code, 4, (some .int), 2, 0),
  (10, "without", "(III)I", prog_12_method_53_code, 4, (some .int), 4, 0),
  (10, "cure", "(II)I", prog_12_method_54_code, 6, (some .int), 3, 0)]
def k_mL5 : List k_M := [(10, "most", "(II)I", prog_12_method_55_code, 6, (some .int), 3, 0),
  (10, "laysLoads", "()V", prog_12_method_56_code, 3, none, 1, 0),
  (10, "counts", "(I)V", prog_12_method_57_code, 3, none, 2, 0),
  (10, "load", "(II)I", prog_12_method_58_code, 3, (some .int), 3, 0),
  (10, "busiest", "(I)I", prog_12_method_59_code, 4, (some .int), 2, 0),
  (10, "approved", "(I)I", prog_12_method_60_code, 8, (some .int), 2, 0),
  (10, "could", "(I)I", prog_12_method_61_code, 6, (some .int), 2, 0),
  (10, "isManned", "(II)Z", prog_12_method_62_code, 4, (some .boolean), 3, 0),
  (10, "manned", "(IIII)I", prog_12_method_63_code, 7, (some .int), 5, 0),
  (10, "recalledMany", "()I", prog_12_method_64_code, 3, (some .int), 1, 0),
  (10, "stuckMany", "()I", prog_12_method_65_code, 3, (some .int), 1, 0),
  (10, "count", "(I)I", prog_12_method_66_code, 2, (some .int), 2, 0),
  (10, "keepsAct", "()V", prog_12_method_67_code, 2, none, 1, 0),
  (10, "comes", "(IIIIII)I", prog_12_method_68_code, 9, (some .int), 7, 0),
  (10, "request", "(IIIII)I", prog_12_method_69_code, 6, (some .int), 6, 0),
  (10, "mayRecall", "(II)I", prog_12_method_70_code, 3, (some .int), 3, 0),
  (10, "recall", "(II)I", prog_12_method_71_code, 4, (some .int), 3, 0),
  (10, "amend", "(III)I", prog_12_method_72_code, 5, (some .int), 4, 0),
  (10, "mostOf", "(I)I", prog_12_method_73_code, 1, (some .int), 1, 1),
  (10, "comesEntry", "(IIIIII)I", prog_12_method_74_code, 10, (some .int), 7, 0),
  (10, "hold", "(IIII)I", prog_12_method_75_code, 5, (some .int), 5, 0),
  (10, "away", "(III)I", prog_12_method_76_code, 4, (some .int), 4, 0),
  (10, "stand", "(IIIII)I", prog_12_method_77_code, 7, (some .int), 6, 0),
  (10, "foe", "(II)I", prog_12_method_78_code, 4, (some .int), 3, 0),
  (10, "drop", "(II)I", prog_12_method_79_code, 6, (some .int), 3, 0),
  (10, "becomes", "(II)I", prog_12_method_80_code, 4, (some .int), 3, 0),
  (10, "limit", "(III)I", prog_12_method_81_code, 4, (some .int), 4, 0),
  (10, "highest", "(I)I", prog_12_method_82_code, 1, (some .int), 1, 1),
  (10, "set", "(II)I", prog_12_method_83_code, 3, (some .int), 3, 0),
  (10, "undo", "()I", prog_12_method_84_code, 2, (some .int), 1, 0),
  (10, "keep", "(I)I", prog_12_method_85_code, 3, (some .int), 2, 0),
  (10, "back", "(I)I", prog_12_method_86_code, 3, (some .int), 2, 0),
  (10, "puts4", "(I)V", prog_12_method_87_code, 3, none, 2, 0),
  (10, "feed", "(IIIII)I", prog_12_method_88_code, 6, (some .int), 6, 0),
  (10, "end", "(I)I", prog_12_method_89_code, 2, (some .int), 2, 0),
  (10, "byteAt", "(I)I", prog_12_method_90_code, 2, (some .int), 2, 0),
  (10, "nextByte", "()I", prog_12_method_91_code, 1, (some .int), 1, 0),
  (10, "fails", "(II)Z", prog_12_method_92_code, 3, (some .boolean), 3, 0),
  (10, "isWord", "(Ljava/lang/String;)Z", prog_12_method_93_code, 4, (some .boolean), 2, 0),
  (10, "takes", "(Ljava/lang/String;Z)Z", prog_12_method_94_code, 3, (some .boolean), 3, 0)]
def k_mL6 : List k_M := [(10, "readsNumber", "(II)Z", prog_12_method_95_code, 3, (some .boolean), 3, 0),
  (10, "readsTo", "(III)Z", prog_12_method_96_code, 4, (some .boolean), 4, 0),
  (10, "readsDays", "(I)Z", prog_12_method_97_code, 2, (some .boolean), 2, 0),
  (10, "readsPost", "()Z", prog_12_method_98_code, 4, (some .boolean), 1, 0),
  (10, "readsHold", "(I)Z", prog_12_method_99_code, 2, (some .boolean), 2, 0),
  (10, "readsStand", "(I)Z", prog_12_method_100_code, 2, (some .boolean), 2, 0),
  (10, "entryWord", "(I)Ljava/lang/String;", prog_12_method_101_code, 1, (some (.object "java/lang/String")), 1, 1),
  (10, "readsEntry", "(I)Z", prog_12_method_102_code, 5, (some .boolean), 2, 0),
  (10, "setWord", "(I)Ljava/lang/String;", prog_12_method_103_code, 1, (some (.object "java/lang/String")), 1, 1),
  (10, "readsSet", "(I)Z", prog_12_method_104_code, 2, (some .boolean), 2, 0),
  (10, "readsPart", "()Z", prog_12_method_105_code, 2, (some .boolean), 1, 0),
  (10, "readsAll", "()Z", prog_12_method_106_code, 2, (some .boolean), 1, 0),
  (10, "tell", "()I", prog_12_method_107_code, 3, (some .int), 1, 0),
  (10, "soonest", "(IIII)I", prog_12_method_108_code, 10, (some .int), 5, 0),
  (10, "instead", "(III)I", prog_12_method_109_code, 6, (some .int), 4, 0),
  (10, "isApprovedNow", "(I)Z", prog_12_method_110_code, 2, (some .boolean), 2, 0),
  (10, "fallsBy", "(I)I", prog_12_method_111_code, 4, (some .int), 2, 0),
  (10, "pillar", "(I)I", prog_12_method_112_code, 6, (some .int), 2, 0),
  (10, "gap", "(IIII)I", prog_12_method_113_code, 10, (some .int), 5, 0),
  (10, "isDodged", "(IIIII)Z", prog_12_method_114_code, 9, (some .boolean), 6, 0),
  (10, "dodge", "(IIIII)I", prog_12_method_115_code, 7, (some .int), 6, 0),
  (10, "lineFrom", "(III)I", prog_12_method_116_code, 8, (some .int), 4, 0),
  (10, "tangle", "(I)I", prog_12_method_117_code, 5, (some .int), 2, 0),
  (10, "spell", "(I)V", prog_12_method_118_code, 2, none, 2, 0),
  (10, "spellWord", "(Ljava/lang/String;)V", prog_12_method_119_code, 3, none, 2, 0),
  (10, "spellPart", "(Ljava/lang/String;)V", prog_12_method_120_code, 2, none, 2, 0),
  (10, "spellNumber", "(I)V", prog_12_method_121_code, 3, none, 2, 0),
  (10, "spellPost", "(I)V", prog_12_method_122_code, 3, none, 2, 0),
  (10, "spellEntry", "(II)V", prog_12_method_123_code, 4, none, 3, 0),
  (10, "spellSet", "(I)V", prog_12_method_124_code, 2, none, 2, 0),
  (10, "letter", "(I)I", prog_12_method_125_code, 4, (some .int), 2, 0),
  (14, "bitCount", "(J)I", prog_13_method_50_code, 2, (some .int), 1, 1),
  (12, "charAt", "(I)C", prog_15_method_56_code, 2, (some .char), 2, 0),
  (12, "checkIndex", "(II)V", prog_15_method_155_code, 2, none, 2, 1),
  (12, "coder", "()B", prog_15_method_152_code, 1, (some .byte), 1, 0),
  (12, "isLatin1", "()Z", prog_15_method_154_code, 1, (some .boolean), 1, 0),
  (12, "length", "()I", prog_15_method_54_code, 1, (some .int), 1, 0),
  (13, "charAt", "([BI)C", prog_16_method_2_code, 2, (some .char), 2, 1),
  (15, "checkIndex", "(IILjava/util/function/BiFunction;)I", prog_19_method_11_code, 3, (some .int), 3, 1),
  (11, "law", "([I)Z", code, 4, some .boolean, 1, 1)]
def k_mL : List k_M := k_mL0 ++ k_mL1 ++ k_mL2 ++ k_mL3 ++ k_mL4 ++ k_mL5 ++ k_mL6
def k_m (j : Nat) : k_M := k_mL.getD j (0, "", "", code, 0, none, 0, 9)
def k_y (j : Nat) : MethodName := ⟨k_cn (k_m j).1, (k_m j).2.1, (k_m j).2.2.1⟩
def k_ci (j : Nat) : Nat := (k_m j).1
def k_co (j : Nat) : ByteArray := (k_m j).2.2.2.1
def k_nL (j : Nat) : Nat := (k_m j).2.2.2.2.1
def k_re (j : Nat) : Option FieldType := (k_m j).2.2.2.2.2.1
def k_na (j : Nat) : Nat := (k_m j).2.2.2.2.2.2.1
def k_ki (j : Nat) : Nat := (k_m j).2.2.2.2.2.2.2
/-! number of methods that may be called: the last row is the law -/
def k_nM : Nat := 279
def k_LM : List (Nat × Nat × Nat) := [(0, 41, 61), (0, 52, 62), (0, 72, 63), (0, 78, 52), (0, 82, 2), (0, 89, 60), (1, 21, 7), (1, 34, 8), (1, 38, 9), (1, 47, 52), (1, 51, 11), (1, 59, 10), (1, 65, 276), (1, 71, 272), (2, 9, 13), (3, 17, 47), (3, 25, 49), (4, 33, 48), (4, 38, 21), (4, 46, 23), (4, 49, 22), (4, 53, 70), (4, 57, 20), (4, 61, 24), (4, 65, 25), (4, 68, 27), (4, 72, 28), (4, 76, 276), (4, 81, 272), (4, 85, 30), (4, 89, 31), (4, 96, 26), (4, 100, 51), (4, 140, 29), (4, 144, 54), (5, 38, 50), (5, 44, 36), (5, 48, 41), (5, 52, 52), (5, 56, 39), (5, 69, 33), (5, 73, 38), (5, 81, 1), (5, 90, 64), (5, 96, 4), (5, 106, 3), (6, 21, 48), (6, 42, 51), (6, 46, 53), (6, 50, 54), (6, 54, 50), (6, 58, 52), (6, 65, 60), (6, 75, 66), (8, 20, 60), (8, 24, 52), (8, 28, 74), (8, 36, 76), (9, 9, 47), (9, 18, 14), (9, 33, 68), (9, 43, 18), (9, 52, 5), (9, 59, 12), (9, 66, 0), (9, 75, 32), (9, 84, 71), (9, 99, 69), (9, 103, 19), (9, 107, 49), (9, 110, 15), (9, 116, 121), (9, 120, 50), (9, 124, 126), (9, 127, 127), (9, 130, 122), (9, 133, 51), (9, 136, 16), (9, 139, 55), (9, 143, 133), (9, 147, 53), (9, 151, 52), (9, 155, 123), (9, 158, 132), (9, 161, 128), (9, 164, 63), (9, 168, 130), (9, 171, 125), (9, 174, 56), (9, 178, 124), (9, 187, 17), (9, 191, 129), (9, 194, 58), (9, 197, 59), (9, 203, 134), (9, 206, 97), (9, 210, 271), (9, 218, 65), (9, 222, 135), (9, 226, 33), (9, 233, 37), (9, 235, 38), (9, 237, 40), (9, 240, 39), (9, 243, 57), (9, 246, 42), (9, 249, 13), (9, 253, 1), (9, 257, 4), (9, 271, 72), (9, 275, 73), (9, 278, 34), (9, 281, 43), (9, 290, 41), (9, 294, 67), (9, 297, 44), (9, 312, 140), (9, 315, 142), (9, 318, 143), (9, 321, 35), (9, 325, 144), (9, 328, 141), (9, 331, 136), (9, 334, 131), (9, 337, 139), (9, 340, 61), (9, 343, 6), (9, 347, 75), (9, 350, 137), (9, 353, 138), (9, 357, 54), (9, 360, 64), (9, 363, 46), (9, 366, 45), (10, 49, 147), (10, 53, 150), (10, 57, 148), (10, 61, 151), (10, 68, 155), (10, 72, 161), (10, 76, 160), (10, 79, 162), (10, 82, 163), (10, 101, 164), (10, 105, 165), (10, 111, 149), (10, 114, 167), (10, 117, 166), (10, 124, 158), (10, 127, 171), (10, 130, 172), (10, 134, 159), (10, 137, 170), (10, 144, 168), (10, 151, 175), (10, 155, 169), (10, 159, 176), (10, 163, 157), (10, 166, 174), (10, 169, 177), (10, 172, 152), (10, 175, 181), (10, 178, 182), (10, 183, 184), (10, 186, 153), (10, 189, 173), (10, 195, 178), (10, 201, 179), (10, 204, 180), (10, 207, 191), (10, 212, 154), (10, 215, 192), (10, 220, 195), (10, 223, 202), (10, 226, 201), (10, 229, 156), (10, 232, 207), (10, 235, 209), (10, 238, 210), (10, 249, 212), (10, 252, 213), (10, 256, 215), (10, 259, 218), (10, 262, 219), (10, 267, 225), (10, 270, 227), (10, 273, 232), (10, 279, 235), (10, 285, 236), (10, 288, 276), (10, 293, 272), (10, 301, 237), (10, 315, 240), (10, 318, 241), (10, 324, 239), (10, 330, 238), (10, 334, 242), (10, 345, 246), (10, 349, 244), (10, 352, 245), (10, 361, 248), (10, 367, 243), (10, 371, 247), (10, 374, 249), (10, 377, 250), (10, 380, 251), (10, 383, 255), (10, 386, 256), (10, 389, 259), (10, 393, 261), (10, 405, 263), (10, 408, 264), (10, 412, 265), (10, 417, 266), (10, 420, 267), (10, 423, 268), (10, 426, 269), (12, 492, 275), (12, 495, 277), (12, 1059, 278), (12, 335, 274), (13, 9, 273), (11, 9, 77), (11, 12, 146), (11, 13, 78), (11, 17, 233), (11, 18, 79), (11, 22, 234), (11, 23, 80), (11, 27, 252), (11, 28, 81), (11, 31, 214), (11, 32, 82), (11, 36, 216), (11, 37, 83), (11, 41, 217), (11, 42, 84), (11, 46, 220), (11, 47, 85), (11, 50, 221), (11, 51, 86), (11, 54, 222), (11, 55, 87), (11, 58, 223), (11, 59, 88), (11, 62, 224), (11, 63, 89), (11, 66, 226), (11, 67, 90), (11, 70, 228), (11, 71, 91), (11, 74, 229), (11, 75, 92), (11, 78, 230), (11, 79, 93), (11, 82, 231), (11, 83, 94), (11, 86, 183), (11, 87, 95), (11, 90, 185), (11, 91, 96), (11, 94, 186), (11, 95, 97), (11, 99, 187), (11, 100, 98), (11, 103, 188), (11, 104, 99), (11, 107, 189), (11, 108, 100), (11, 111, 190), (11, 112, 101), (11, 115, 193), (11, 116, 102), (11, 119, 194), (11, 120, 103), (11, 123, 196), (11, 124, 104), (11, 127, 197), (11, 128, 105), (11, 131, 198), (11, 132, 106), (11, 135, 199), (11, 136, 107), (11, 139, 200), (11, 140, 112), (11, 143, 203), (11, 144, 113), (11, 147, 204), (11, 148, 114), (11, 151, 205), (11, 152, 115), (11, 155, 206), (11, 156, 116), (11, 159, 208), (11, 160, 118), (11, 163, 270), (11, 164, 108), (11, 167, 253), (11, 168, 109), (11, 171, 254), (11, 172, 110), (11, 175, 257), (11, 176, 117), (11, 179, 258), (11, 180, 111), (11, 183, 260), (11, 184, 119), (11, 187, 262), (11, 188, 120), (11, 191, 211)]
def k_LMN : List (Nat × Nat × Nat) := [(0, 58, 131), (0, 65, 130), (1, 55, 145), (4, 93, 145), (4, 103, 130), (5, 109, 131), (8, 32, 130)]
def k_LX : List (Nat × Nat × Nat) := [(0, 3, 1003), (0, 92, 1001), (1, 3, 1003), (2, 3, 1003), (3, 3, 1003), (4, 3, 1003), (4, 134, 1001), (5, 3, 1003), (5, 76, 1001), (5, 93, 1000), (6, 3, 1003), (6, 33, 1002), (6, 69, 1001), (6, 78, 1000), (7, 3, 1003), (8, 3, 1003), (8, 39, 1000), (9, 1, 1003), (9, 266, 1000), (9, 300, 1001), (10, 1, 1003)]
def k_LF : List (Nat × Nat × Nat × Nat) := [(0, 9, 0, 0), (0, 15, 0, 1), (0, 19, 0, 2), (0, 23, 0, 3), (0, 26, 0, 4), (0, 29, 0, 5), (0, 32, 0, 6), (0, 35, 0, 7), (0, 38, 0, 8), (0, 47, 2, 7), (0, 55, 2, 6), (0, 62, 2, 0), (0, 69, 2, 1), (0, 75, 2, 2), (0, 86, 6, 1), (1, 9, 1, 0), (1, 15, 1, 1), (1, 18, 1, 2), (1, 25, 6, 2), (1, 41, 6, 1), (2, 15, 2, 0), (2, 19, 2, 1), (2, 22, 2, 2), (2, 25, 2, 3), (2, 28, 2, 4), (2, 31, 2, 5), (2, 34, 2, 6), (2, 37, 2, 7), (3, 11, 3, 0), (3, 18, 3, 1), (3, 22, 3, 2), (4, 9, 4, 0), (4, 15, 4, 1), (4, 19, 4, 2), (4, 23, 4, 3), (4, 27, 4, 4), (4, 30, 4, 5), (4, 41, 7, 1), (4, 125, 6, 1), (4, 148, 6, 2), (5, 9, 5, 0), (5, 15, 5, 1), (5, 19, 5, 2), (5, 23, 5, 3), (5, 26, 5, 4), (5, 30, 2, 3), (5, 35, 2, 4), (5, 60, 6, 2), (5, 66, 2, 5), (5, 87, 0, 8), (5, 100, 0, 7), (5, 103, 0, 6), (6, 9, 6, 0), (6, 15, 6, 1), (6, 18, 6, 2), (7, 9, 7, 0), (7, 15, 7, 1), (8, 9, 8, 0), (8, 15, 6, 1), (9, 10, 9, 0), (9, 19, 9, 1), (9, 23, 9, 2), (9, 27, 9, 3), (9, 34, 9, 4), (9, 38, 9, 5), (9, 46, 9, 6), (9, 53, 9, 7), (9, 60, 9, 8), (9, 69, 9, 9), (9, 78, 9, 10), (9, 85, 9, 11), (9, 89, 9, 12), (9, 93, 9, 13), (9, 96, 7, 1), (9, 113, 6, 1), (9, 184, 6, 2), (9, 230, 5, 4), (9, 260, 0, 8), (9, 263, 0, 7), (9, 284, 2, 6), (9, 287, 2, 7), (9, 303, 2, 4), (9, 306, 2, 5), (9, 309, 2, 3), (9, 356, 3, 2), (10, 7, 10, 0), (10, 13, 10, 1), (10, 16, 10, 3), (10, 19, 10, 4), (10, 23, 10, 5), (10, 27, 10, 6), (10, 30, 10, 11), (10, 33, 10, 15), (10, 36, 10, 16), (10, 39, 10, 19), (10, 42, 10, 20), (10, 46, 10, 26), (10, 86, 10, 8), (10, 89, 10, 10), (10, 92, 10, 7), (10, 95, 10, 12), (10, 98, 10, 9), (10, 108, 10, 13), (10, 121, 10, 14), (10, 141, 10, 17), (10, 147, 10, 18), (10, 241, 10, 2), (10, 244, 10, 21), (10, 276, 10, 22), (10, 282, 10, 23), (10, 308, 10, 25), (10, 311, 10, 24), (10, 364, 10, 27), (10, 396, 10, 28), (10, 399, 10, 29), (10, 402, 10, 30), (12, 9, 12, 0), (12, 15, 12, 1)]
def k_LS : List (Nat × Nat × Nat) := [(9, 181, 5), (9, 200, 0), (12, 1053, 7), (12, 38, 6)]
def k_LSN : List (Nat × Nat × Nat) := [(1, 31, 4), (1, 44, 0), (4, 128, 5), (6, 24, 4), (6, 27, 0), (6, 30, 2), (6, 39, 1), (6, 62, 3)]
def k_LC : List (Nat × Nat × Nat) := [(3, 9, 6), (9, 7, 6), (9, 16, 3), (9, 31, 7), (9, 41, 4), (9, 50, 1), (9, 57, 2), (9, 64, 0), (9, 73, 5), (9, 82, 8), (11, 7, 9), (11, 10, 10)]
def k_LK : List (Nat × Nat × Nat) := [(4, 133, 100000), (5, 65, 2147483647), (10, 314, 100000)]
def k_LKL : List (Nat × Nat × Nat × Nat) := [(9, 216, 1, 3), (10, 64, 15, 2), (10, 66, 999, 2), (10, 181, 3, 2), (10, 193, 1, 3), (10, 199, 5, 2), (10, 210, 29, 2), (10, 218, 2, 2), (10, 247, 9999, 2), (10, 265, 9, 2), (10, 297, 97, 2), (10, 299, 122, 2), (10, 304, 48, 2), (10, 306, 57, 2), (14, 314, 6148914691236517205, 2), (14, 316, 3689348814741910323, 2), (14, 318, 1085102592571150095, 2)]
def k_LT : List (Nat × Nat × Nat) := [(1, 63, 14), (4, 107, 11), (4, 109, 7), (4, 111, 8), (4, 113, 9), (4, 115, 15), (4, 117, 16), (4, 119, 3), (4, 121, 6), (4, 123, 0), (4, 131, 14), (9, 369, 5), (9, 371, 2), (9, 373, 13), (9, 375, 4), (9, 377, 12), (9, 378, 18), (9, 380, 10), (9, 382, 17), (9, 384, 0), (10, 322, 12), (10, 328, 14), (10, 337, 5), (10, 339, 2), (10, 341, 13), (10, 343, 4), (10, 355, 18), (10, 357, 10), (10, 359, 17), (10, 415, 1)]
def k_SA : List (List Nat) := [[4, 3, 5, 2, 4, 7], [24, 24, 24, 16, 12, 40], [0, 96, 168, 288, 320, 368], [2, 1, 2], [0, 1, 2], [99, 9, 30]]
def k_SN : List String := ["WIDTH", "MOST_ROWS", "ROWS_START", "FROM_COLUMN", "FIRST_SETTING", "HIGHEST_SETTING"]
def k_str : List (List Nat) := [[], [32, 116, 111, 112], [97, 119, 97, 121], [99], [102, 111, 101], [104, 111, 108, 100], [105], [110, 102, 100], [110, 116, 102, 100, 108], [110, 118], [112, 97, 99, 101], [112, 110, 102, 100], [112, 111, 115, 116], [115, 116, 97, 110, 100], [116, 111, 112], [117, 108, 108, 108], [119], [119, 97, 105, 116], [119, 105, 110, 100, 111, 119]]
def k_strT : List String := ["", " top", "away", "c", "foe", "hold", "i", "nfd", "ntfdl", "nv", "pace", "pnfd", "post", "stand", "top", "ulll", "w", "wait", "window"]
def k_xn (x : Nat) : MethodName := match x with
  | 1000 => Lib.Math.max.name
  | 1001 => Lib.Math.min.name
  | 1002 => arraycopyName
  | _ => Lib.objectInit
end
section
theorem k_in {α : Type} {L : List α} {f : α → Cond} (ps : List Nat) (h : L.map f = ps.filterMap (fun i => lw_tbl[i]?)) : ∀ q ∈ L, f q ∈ lw_tbl := by
  intro q hq
  have h1 : f q ∈ L.map f := List.mem_map_of_mem hq
  rw [h] at h1
  obtain ⟨i, -, hi⟩ := List.mem_filterMap.mp h1
  exact List.mem_of_getElem? hi
def k_cLM (q : Nat × Nat × Nat) : Cond := .methodLink (k_cn q.1) q.2.1 (k_y q.2.2)
set_option maxRecDepth 100000 in
theorem k_lm : ∀ q ∈ k_LM, k_cLM q ∈ lw_tbl := k_in [668, 678, 686, 690, 691, 695, 1013, 1017, 1034, 1033, 1021, 1026, 1030, 1031, 243, 168, 606, 420, 421, 429, 566, 425, 505, 433, 437, 509, 522, 457, 467, 534, 549, 453, 513, 543, 553, 658, 659, 710, 722, 714, 899, 718, 664, 697, 702, 706, 134, 557, 560, 611, 770, 628, 672, 642, 879, 880, 885, 1048, 130, 162, 182, 198, 223, 239, 287, 326, 349, 404, 416, 570, 577, 585, 588, 592, 595, 598, 601, 602, 607, 616, 725, 620, 734, 737, 750, 757, 758, 763, 766, 775, 787, 795, 806, 810, 634, 823, 828, 638, 629, 654, 839, 843, 848, 724, 624, 856, 633, 864, 865, 875, 881, 894, 900, 723, 650, 916, 933, 937, 946, 954, 958, 966, 982, 990, 995, 1000, 1009, 1044, 1057, 1061, 741, 999, 970, 941, 1071, 1177, 1181, 1231, 1335, 1220, 1213, 1209, 1216, 1295, 1299, 1303, 1291, 1287, 1188, 1247, 1251, 1235, 1243, 1283, 1306, 1275, 1279, 1184, 1239, 1271, 1173, 1192, 1196, 1204, 1227, 1255, 1267, 1319, 1323, 1327, 1339, 1343, 1356, 1384, 1380, 1404, 1407, 1415, 1419, 1428, 1432, 1440, 1456, 1452, 1480, 1488, 1507, 1527, 1523, 1540, 1541, 1552, 1561, 1557, 1548, 1536, 1583, 1568, 1579, 1587, 1591, 1544, 1575, 1597, 1531, 1519, 1617, 1613, 1629, 1637, 1653, 1657, 1649, 1662, 1645, 1666, 1670, 471, 475, 483, 461, 478, 122, 1067, 400, 1503, 408, 1511, 412, 1515, 581, 1423, 612, 1436, 726, 1444, 730, 1448, 742, 1459, 746, 1463, 753, 1467, 759, 1472, 771, 1476, 778, 1484, 783, 1491, 791, 1495, 798, 1499, 802, 1169, 814, 1200, 819, 1223, 834, 1258, 835, 1263, 844, 1311, 852, 1315, 860, 1331, 866, 1347, 871, 1352, 890, 1360, 904, 1364, 908, 1368, 912, 1372, 962, 1376, 974, 1388, 978, 1392, 986, 1396, 991, 1400, 1005, 1641, 921, 1601, 925, 1605, 929, 1609, 1001, 1621, 950, 1625, 1040, 1633, 1053, 1411] (by decide +kernel)
def k_cLX (q : Nat × Nat × Nat) : Cond := .methodLink (k_cn q.1) q.2.1 (k_xn q.2.2)
set_option maxRecDepth 100000 in
theorem k_lx : ∀ q ∈ k_LX, k_cLX q ∈ lw_tbl := k_in [290, 696, 226, 242, 165, 201, 540, 329, 663, 701, 133, 574, 646, 647, 185, 352, 1052, 125, 870, 920, 1070] (by decide +kernel)
def k_cLMN (q : Nat × Nat × Nat) : Cond := .methodLinkNest (k_cn q.1) q.2.1 (k_y q.2.2) "ApprovalRoutes"
set_option maxRecDepth 100000 in
theorem k_lmn : ∀ q ∈ k_LMN, k_cLMN q ∈ lw_tbl := k_in [682, 685, 1025, 441, 519, 945, 889] (by decide +kernel)
def k_sf (k : Nat) : String × String × String := match k with
  | 0 => ("java/lang/String", "value", "[B")
  | _ => ("java/lang/String", "coder", "B")
def k_ff (ci k : Nat) : String × String × String := match k_cl[ci]? with
  | some r => ((r.2.1 k).1, (r.2.1 k).2.1, (r.2.1 k).2.2.1)
  | none => k_sf k
def k_cLF (q : Nat × Nat × Nat × Nat) : Cond := .fieldLink (k_cn q.1) q.2.1 (k_ff q.2.2.1 q.2.2.2).1 (k_ff q.2.2.1 q.2.2.2).2.1 (k_ff q.2.2.1 q.2.2.2).2.2
set_option maxRecDepth 100000 in
theorem k_lf : ∀ q ∈ k_LF, k_cLF q ∈ lw_tbl := k_in [291, 292, 293, 294, 295, 296, 297, 299, 302, 265, 263, 248, 250, 252, 144, 227, 228, 229, 148, 143, 247, 249, 251, 254, 257, 259, 262, 266, 169, 170, 171, 202, 203, 204, 205, 206, 207, 189, 146, 151, 330, 331, 332, 333, 334, 253, 256, 149, 260, 303, 300, 298, 140, 141, 147, 186, 187, 353, 142, 357, 358, 359, 360, 361, 362, 363, 364, 365, 366, 367, 368, 369, 370, 188, 145, 150, 335, 304, 301, 264, 267, 258, 261, 255, 172, 1074, 1075, 1077, 1078, 1079, 1080, 1085, 1089, 1090, 1093, 1094, 1100, 1082, 1084, 1081, 1086, 1083, 1087, 1088, 1091, 1092, 1076, 1095, 1096, 1097, 1099, 1098, 1101, 1102, 1103, 1104, 1674, 1675] (by decide +kernel)
def k_sg (k : Nat) : String × String × String := match k with
  | 0 => ("ApprovalRoutes", "WIDTH", "[I")
  | 1 => ("ApprovalRoutes", "MOST_ROWS", "[I")
  | 2 => ("ApprovalRoutes", "ROWS_START", "[I")
  | 3 => ("ApprovalRoutes", "FROM_COLUMN", "[I")
  | 4 => ("ApprovalRoutes", "FIRST_SETTING", "[I")
  | 5 => ("ApprovalRoutes", "HIGHEST_SETTING", "[I")
  | 6 => ("java/lang/String", "COMPACT_STRINGS", "Z")
  | _ => ("jdk/internal/util/Preconditions", "SIOOBE_FORMATTER", "Ljava/util/function/BiFunction;")
def k_cLS (q : Nat × Nat × Nat) : Cond := .fieldLink (k_cn q.1) q.2.1 (k_sg q.2.2).1 (k_sg q.2.2).2.1 (k_sg q.2.2).2.2
set_option maxRecDepth 100000 in
theorem k_ls : ∀ q ∈ k_LS, k_cLS q ∈ lw_tbl := k_in [782, 818, 481, 465] (by decide +kernel)
def k_cLSN (q : Nat × Nat × Nat) : Cond := .fieldLinkNest (k_cn q.1) q.2.1 (k_sg q.2.2).1 (k_sg q.2.2).2.1 (k_sg q.2.2).2.2 "ApprovalRoutes"
set_option maxRecDepth 100000 in
theorem k_lsn : ∀ q ∈ k_LSN, k_cLSN q ∈ lw_tbl := k_in [1039, 1032, 547, 138, 558, 564, 517, 676] (by decide +kernel)
def k_cLC (q : Nat × Nat × Nat) : Cond := .classLink (k_cn q.1) q.2.1 (k_cn q.2.2)
set_option maxRecDepth 100000 in
theorem k_lc : ∀ q ∈ k_LC, k_cLC q ∈ lw_tbl := k_in [166, 128, 160, 180, 196, 221, 237, 285, 324, 347, 120, 1065] (by decide +kernel)
def k_cLK (q : Nat × Nat × Nat) : Cond := .constant (k_cn q.1) q.2.1 (nI q.2.2)
set_option maxRecDepth 100000 in
theorem k_lk : ∀ q ∈ k_LK, k_cLK q ∈ lw_tbl := k_in [539, 898, 1567] (by decide +kernel)
def k_lv (t u : Nat) : Int64 := match u with
  | 2 => lN t
  | _ => -(lN t)
def k_cLKL (q : Nat × Nat × Nat × Nat) : Cond := .constantLong (k_cn q.1) q.2.1 (k_lv q.2.2.1 q.2.2.2)
set_option maxRecDepth 100000 in
theorem k_lkl : ∀ q ∈ k_LKL, k_cLKL q ∈ lw_tbl := k_in [827, 1342, 1338, 1208, 1262, 1310, 1346, 1351, 1427, 1471, 1542, 1543, 1565, 1566, 831, 832, 833] (by decide +kernel)
def k_cLT (q : Nat × Nat × Nat) : Cond := .stringRef (k_cn q.1) q.2.1 (k_strT.getD q.2.2 "")
set_option maxRecDepth 100000 in
theorem k_lt : ∀ q ∈ k_LT, k_cLT q ∈ lw_tbl := k_in [1038, 525, 526, 527, 528, 529, 530, 531, 532, 533, 538, 444, 445, 446, 447, 448, 449, 450, 451, 452, 1535, 1556, 1571, 1572, 1573, 1574, 1594, 1595, 1596, 1661] (by decide +kernel)
def k_cC (q : k_M) : Cond := .code ⟨k_cn q.1, q.2.1, q.2.2.1⟩ q.2.2.2.1 q.2.2.2.2.1 q.2.2.2.2.2.1
set_option maxRecDepth 100000 in
theorem k_mc0 : ∀ q ∈ k_mL0, k_cC q ∈ lw_tbl := k_in [289, 667, 694, 709, 705, 225, 1012, 1016, 1020, 1037, 1029, 1024, 241, 246, 164, 580, 605, 790, 200, 419, 508, 424, 569, 432, 436, 440, 456, 512, 524, 546, 537, 552, 328, 657, 897, 957, 662, 842, 721, 717] (by decide +kernel)
set_option maxRecDepth 100000 in
theorem k_mc1 : ∀ q ∈ k_mL1, k_cC q ∈ lw_tbl := k_in [851, 713, 859, 903, 919, 944, 973, 132, 137, 573, 591, 516, 623, 563, 556, 610, 769, 627, 809, 813, 675, 671, 681, 689, 700, 641, 645, 653, 184, 407, 428, 351, 878, 884, 888, 1047, 1051, 124, 403, 411] (by decide +kernel)
set_option maxRecDepth 100000 in
theorem k_mc2 : ∀ q ∈ k_mL2, k_cC q ∈ lw_tbl := k_in [415, 584, 615, 729, 733, 745, 749, 756, 762, 774, 781, 786, 794, 801, 805, 817, 822, 826, 838, 847, 855, 863, 869, 874, 893, 907, 911, 915, 924, 928, 932, 953, 965, 977, 981, 989, 994, 1004, 1008, 1043] (by decide +kernel)
set_option maxRecDepth 100000 in
theorem k_mc3 : ∀ q ∈ k_mL3, k_cC q ∈ lw_tbl := k_in [1056, 587, 600, 736, 777, 765, 594, 597, 752, 797, 521, 684, 740, 619, 637, 632, 985, 1060, 1064, 998, 936, 969, 940, 949, 961, 443, 1069, 1073, 1183, 1305, 1180, 1234, 1176, 1230, 1341, 1337, 1406, 1187, 1191, 1238] (by decide +kernel)
set_option maxRecDepth 100000 in
theorem k_mc4 : ∀ q ∈ k_mL4, k_cC q ∈ lw_tbl := k_in [1215, 1222, 1212, 1219, 1298, 1302, 1290, 1294, 1286, 1278, 1246, 1250, 1254, 1257, 1242, 1309, 1282, 1274, 1270, 1322, 1326, 1195, 1199, 1172, 1207, 1203, 1226, 1261, 1266, 1314, 1318, 1330, 1345, 1334, 1350, 1359, 1355, 1363, 1367, 1371] (by decide +kernel)
set_option maxRecDepth 100000 in
theorem k_mc5 : ∀ q ∈ k_mL5, k_cC q ∈ lw_tbl := k_in [1375, 1383, 1387, 1379, 1391, 1395, 1399, 1410, 1403, 1418, 1422, 1414, 1431, 1435, 1426, 1443, 1439, 1447, 1458, 1455, 1451, 1462, 1466, 1470, 1475, 1483, 1479, 1490, 1487, 1494, 1498, 1502, 1510, 1506, 1514, 1530, 1526, 1555, 1539, 1551] (by decide +kernel)
set_option maxRecDepth 100000 in
theorem k_mc6 : ∀ q ∈ (k_mL6.take 39), k_cC q ∈ lw_tbl := k_in [1564, 1560, 1586, 1547, 1582, 1590, 1570, 1578, 1593, 1600, 1534, 1522, 1518, 1604, 1608, 1620, 1616, 1612, 1624, 1632, 1628, 1640, 1636, 1656, 1660, 1652, 1665, 1648, 1669, 1673, 1644, 830, 470, 480, 464, 474, 460, 477, 485] (by decide +kernel)
def k_cI (j : Nat) : Cond := .instanceMethod (k_y j)
def k_cS (j : Nat) : Cond := .selects (k_cn (k_ci j)) (k_y j) (k_y j)
def k_cT (j : Nat) : Cond := .static (k_y j)
def k_LI : List Nat := [0, 1, 2, 3, 4, 5, 6, 7, 8, 9, 10, 11, 12, 13, 14, 15, 16, 17, 18, 19, 20, 21, 22, 23, 24, 25, 26, 27, 29, 30, 31, 32, 33, 34, 35, 36, 37, 38, 39, 40, 41, 42, 43, 44, 45, 46, 47, 48, 49, 50, 51, 52, 53, 54, 55, 56, 57, 58, 59, 60, 61, 62, 63, 64, 65, 66, 67, 68, 69, 70, 71, 72, 73, 74, 75, 76, 77, 78, 79, 80, 81, 82, 83, 84, 85, 86, 87, 88, 89, 90, 91, 92, 93, 94, 95, 96, 97, 98, 99, 100, 101, 102, 103, 104, 105, 106, 107, 108, 109, 110, 111, 112, 113, 114, 115, 116, 117, 118, 119, 120, 132, 133, 134, 135, 136, 137, 138, 139, 140, 141, 142, 143, 144, 146, 150, 151, 152, 153, 157, 158, 159, 162, 163, 164, 165, 166, 167, 168, 169, 170, 171, 172, 174, 175, 176, 177, 178, 179, 180, 181, 182, 183, 184, 185, 186, 187, 188, 189, 190, 191, 193, 194, 195, 196, 197, 198, 199, 200, 201, 202, 203, 204, 205, 206, 207, 208, 209, 210, 211, 212, 213, 214, 215, 216, 217, 219, 220, 221, 222, 223, 224, 225, 226, 228, 229, 230, 231, 232, 233, 234, 235, 236, 237, 238, 239, 240, 241, 242, 243, 244, 245, 247, 249, 250, 251, 252, 253, 254, 255, 256, 257, 258, 259, 260, 261, 262, 263, 264, 265, 266, 267, 268, 269, 270, 272, 274, 275, 276]
set_option maxRecDepth 100000 in
theorem k_li : ∀ q ∈ k_LI, k_cI q ∈ lw_tbl := k_in [288, 665, 693, 707, 703, 224, 1010, 1015, 1019, 1036, 1028, 1023, 240, 244, 163, 578, 603, 788, 199, 417, 507, 423, 568, 431, 435, 439, 455, 511, 545, 536, 551, 327, 655, 895, 955, 661, 840, 719, 715, 849, 711, 857, 901, 917, 942, 971, 131, 135, 571, 589, 514, 621, 561, 554, 608, 767, 625, 807, 811, 673, 669, 679, 687, 698, 639, 644, 651, 183, 405, 426, 350, 876, 882, 887, 1045, 1050, 123, 401, 409, 413, 582, 613, 727, 731, 743, 747, 754, 760, 772, 779, 784, 792, 799, 803, 815, 820, 824, 836, 845, 853, 861, 867, 872, 891, 905, 909, 913, 922, 926, 930, 951, 963, 975, 979, 987, 992, 1002, 1006, 1041, 1054, 739, 618, 636, 631, 984, 1059, 1063, 997, 935, 968, 939, 948, 960, 1068, 1179, 1233, 1175, 1229, 1186, 1190, 1237, 1211, 1218, 1297, 1301, 1289, 1293, 1285, 1277, 1245, 1249, 1253, 1241, 1308, 1281, 1273, 1269, 1321, 1325, 1194, 1198, 1170, 1206, 1201, 1224, 1259, 1264, 1312, 1316, 1329, 1332, 1348, 1358, 1353, 1361, 1365, 1369, 1373, 1382, 1386, 1377, 1389, 1393, 1397, 1409, 1401, 1417, 1421, 1412, 1430, 1434, 1424, 1442, 1437, 1445, 1454, 1449, 1460, 1464, 1468, 1473, 1482, 1477, 1485, 1492, 1496, 1500, 1509, 1504, 1512, 1529, 1525, 1554, 1538, 1550, 1563, 1559, 1585, 1546, 1581, 1589, 1577, 1599, 1533, 1521, 1516, 1602, 1606, 1619, 1615, 1610, 1622, 1631, 1626, 1639, 1634, 1655, 1659, 1651, 1664, 1647, 1668, 1672, 1642, 468, 462, 472, 458] (by decide +kernel)
def k_LV : List Nat := [1, 2, 3, 4, 6, 7, 8, 9, 10, 11, 13, 15, 16, 17, 19, 20, 21, 22, 23, 24, 25, 26, 27, 29, 30, 31, 33, 34, 35, 36, 37, 38, 39, 40, 41, 42, 43, 44, 45, 46, 48, 49, 50, 51, 52, 53, 54, 55, 56, 57, 58, 59, 60, 61, 62, 63, 64, 65, 66, 67, 69, 70, 72, 73, 74, 75, 76, 78, 79, 80, 81, 82, 83, 84, 85, 86, 87, 88, 89, 90, 91, 92, 93, 94, 95, 96, 97, 98, 99, 100, 101, 102, 103, 104, 105, 106, 107, 108, 109, 110, 111, 112, 113, 114, 115, 116, 117, 118, 119, 120, 132, 133, 134, 135, 136, 137, 138, 139, 140, 141, 142, 143, 144, 150, 151, 152, 153, 157, 158, 159, 162, 163, 164, 165, 166, 167, 168, 169, 170, 171, 172, 174, 175, 176, 177, 178, 179, 180, 181, 182, 183, 184, 185, 186, 187, 188, 189, 190, 191, 193, 194, 195, 196, 197, 198, 199, 200, 201, 202, 203, 204, 205, 206, 207, 208, 209, 210, 211, 212, 213, 214, 215, 216, 217, 219, 220, 221, 222, 223, 224, 225, 226, 228, 229, 230, 231, 232, 233, 234, 235, 236, 237, 238, 239, 240, 241, 242, 243, 244, 245, 247, 249, 250, 251, 252, 253, 254, 255, 256, 257, 258, 259, 260, 261, 262, 263, 264, 265, 266, 267, 268, 269, 270, 272, 274, 275, 276]
set_option maxRecDepth 100000 in
theorem k_lv_ : ∀ q ∈ k_LV, k_cS q ∈ lw_tbl := k_in [666, 16, 708, 704, 1011, 26, 27, 30, 29, 28, 245, 579, 604, 789, 418, 5, 0, 10, 1, 2, 3, 4, 6, 8, 7, 9, 656, 896, 956, 15, 841, 720, 716, 850, 712, 858, 902, 918, 943, 972, 136, 572, 590, 515, 622, 562, 555, 609, 768, 626, 808, 812, 674, 670, 680, 688, 699, 640, 14, 652, 406, 427, 877, 883, 18, 1046, 31, 402, 410, 414, 583, 614, 728, 732, 744, 748, 755, 761, 773, 780, 785, 793, 800, 804, 816, 821, 825, 837, 846, 854, 862, 868, 873, 892, 906, 910, 914, 923, 927, 931, 952, 964, 976, 980, 988, 993, 1003, 1007, 1042, 1055, 17, 11, 13, 12, 24, 32, 33, 25, 19, 23, 20, 21, 22, 35, 44, 34, 43, 36, 37, 45, 41, 42, 57, 58, 55, 56, 54, 52, 47, 48, 49, 46, 59, 53, 51, 50, 60, 61, 38, 39, 1171, 40, 1202, 1225, 1260, 1265, 1313, 1317, 62, 1333, 1349, 63, 1354, 1362, 1366, 1370, 1374, 64, 65, 1378, 1390, 1394, 1398, 66, 1402, 67, 68, 1413, 69, 70, 1425, 71, 1438, 1446, 72, 1450, 1461, 1465, 1469, 1474, 73, 1478, 1486, 1493, 1497, 1501, 74, 1505, 1513, 77, 76, 82, 79, 81, 84, 83, 87, 80, 86, 88, 85, 89, 78, 75, 1517, 1603, 1607, 91, 90, 1611, 1623, 92, 1627, 93, 1635, 96, 97, 95, 98, 94, 99, 100, 1643, 469, 463, 473, 459] (by decide +kernel)
def k_LST : List Nat := [28, 121, 122, 123, 124, 125, 126, 127, 128, 129, 130, 131, 145, 147, 148, 149, 154, 155, 156, 160, 161, 173, 192, 218, 227, 246, 248, 271, 273, 277, 278]
set_option maxRecDepth 100000 in
theorem k_lst : ∀ q ∈ k_LST, k_cT q ∈ lw_tbl := k_in [523, 586, 599, 735, 776, 764, 593, 596, 751, 796, 520, 683, 442, 1072, 1182, 1304, 1340, 1336, 1405, 1214, 1221, 1256, 1344, 1457, 1489, 1569, 1592, 829, 479, 476, 484] (by decide +kernel)
def k_cN (c : Nat) : Cond := .initialized (k_cn c)
set_option maxRecDepth 100000 in
theorem k_ln : ∀ q ∈ (List.range 18), k_cN q ∈ lw_tbl := k_in [109, 107, 108, 104, 106, 110, 103, 105, 111, 102, 112, 101, 113, 114, 119, 115, 116, 117] (by decide +kernel)
def k_cX (x : Nat) : Cond := match x with
  | 0 => .static Lib.Math.max.name
  | 1 => .static Lib.Math.min.name
  | 2 => .code Lib.Math.max.name Lib.Math.max.code 2 (some .int)
  | 3 => .code Lib.Math.min.name Lib.Math.min.code 2 (some .int)
  | 4 => .native arraycopyName
  | 5 => .static arraycopyName
  | 6 => .initialized "java/lang/System"
  | 7 => .instanceMethod Lib.objectInit
  | 8 => .code Lib.objectInit ⟨#[0xb1]⟩ 1 none
  | 9 => .arrayClass .int
  | 10 => .arrayClass .byte
  | 11 => .arrayClass .boolean
  | _ => .arrayOver (.object "ApprovalRoutes$State")
set_option maxRecDepth 100000 in
theorem k_lxx : ∀ q ∈ (List.range 13), k_cX q ∈ lw_tbl := k_in [648, 541, 649, 542, 576, 575, 118, 126, 127, 159, 195, 1168, 167] (by decide +kernel)
def k_cB (q : Nat × Nat) : Cond := .instantiable (k_cn q.1) q.2
def k_LB : List (Nat × Nat) := [(0, 9), (1, 3), (2, 8), (3, 3), (4, 6), (5, 5), (6, 3), (7, 2), (8, 1), (9, 14), (10, 31)]
set_option maxRecDepth 100000 in
theorem k_lb : ∀ q ∈ k_LB, k_cB q ∈ lw_tbl := k_in [286, 222, 238, 161, 197, 325, 129, 181, 348, 121, 1066] (by decide +kernel)
set_option maxRecDepth 100000 in
theorem k_ws0 : ∀ w ∈ u_ws "ApprovalRoutes$Desk" k_T0 9, w ∈ lw_tbl := by
  have h := k_in (L := u_ws "ApprovalRoutes$Desk" k_T0 9) (f := id) [305, 307, 309, 311, 313, 315, 317, 319, 321] (by decide +kernel)
  exact h
theorem k_nm0 : ∀ a, a < 9 → ∀ b, b < 9 → a ≠ b → (k_T0 a).2.1 ≠ (k_T0 b).2.1 := by decide +kernel
theorem k_ty0 : ∀ k, k < 9 → parseFieldDescriptor (k_T0 k).2.2.1 = some (k_fty 0 k) := by decide +kernel
theorem k_df0 : ∀ k, k < 9 → defaultValue (k_fty 0 k) = vp_V (k_new.getD 0 []) k := by decide +kernel
set_option maxRecDepth 100000 in
theorem k_ws1 : ∀ w ∈ u_ws "ApprovalRoutes$Letter" k_T1 3, w ∈ lw_tbl := by
  have h := k_in (L := u_ws "ApprovalRoutes$Letter" k_T1 3) (f := id) [230, 232, 234] (by decide +kernel)
  exact h
theorem k_nm1 : ∀ a, a < 3 → ∀ b, b < 3 → a ≠ b → (k_T1 a).2.1 ≠ (k_T1 b).2.1 := by decide +kernel
theorem k_ty1 : ∀ k, k < 3 → parseFieldDescriptor (k_T1 k).2.2.1 = some (k_fty 1 k) := by decide +kernel
theorem k_df1 : ∀ k, k < 3 → defaultValue (k_fty 1 k) = vp_V (k_new.getD 1 []) k := by decide +kernel
set_option maxRecDepth 100000 in
theorem k_ws2 : ∀ w ∈ u_ws "ApprovalRoutes$Matter" k_T2 8, w ∈ lw_tbl := by
  have h := k_in (L := u_ws "ApprovalRoutes$Matter" k_T2 8) (f := id) [268, 270, 272, 274, 276, 278, 280, 282] (by decide +kernel)
  exact h
theorem k_nm2 : ∀ a, a < 8 → ∀ b, b < 8 → a ≠ b → (k_T2 a).2.1 ≠ (k_T2 b).2.1 := by decide +kernel
theorem k_ty2 : ∀ k, k < 8 → parseFieldDescriptor (k_T2 k).2.2.1 = some (k_fty 2 k) := by decide +kernel
theorem k_df2 : ∀ k, k < 8 → defaultValue (k_fty 2 k) = vp_V (k_new.getD 2 []) k := by decide +kernel
set_option maxRecDepth 100000 in
theorem k_ws3 : ∀ w ∈ u_ws "ApprovalRoutes$Past" k_T3 3, w ∈ lw_tbl := by
  have h := k_in (L := u_ws "ApprovalRoutes$Past" k_T3 3) (f := id) [173, 175, 177] (by decide +kernel)
  exact h
theorem k_nm3 : ∀ a, a < 3 → ∀ b, b < 3 → a ≠ b → (k_T3 a).2.1 ≠ (k_T3 b).2.1 := by decide +kernel
theorem k_ty3 : ∀ k, k < 3 → parseFieldDescriptor (k_T3 k).2.2.1 = some (k_fty 3 k) := by decide +kernel
theorem k_df3 : ∀ k, k < 3 → defaultValue (k_fty 3 k) = vp_V (k_new.getD 3 []) k := by decide +kernel
set_option maxRecDepth 100000 in
theorem k_ws4 : ∀ w ∈ u_ws "ApprovalRoutes$Reader" k_T4 6, w ∈ lw_tbl := by
  have h := k_in (L := u_ws "ApprovalRoutes$Reader" k_T4 6) (f := id) [208, 210, 212, 214, 216, 218] (by decide +kernel)
  exact h
theorem k_nm4 : ∀ a, a < 6 → ∀ b, b < 6 → a ≠ b → (k_T4 a).2.1 ≠ (k_T4 b).2.1 := by decide +kernel
theorem k_ty4 : ∀ k, k < 6 → parseFieldDescriptor (k_T4 k).2.2.1 = some (k_fty 4 k) := by decide +kernel
theorem k_df4 : ∀ k, k < 6 → defaultValue (k_fty 4 k) = vp_V (k_new.getD 4 []) k := by decide +kernel
set_option maxRecDepth 100000 in
theorem k_ws5 : ∀ w ∈ u_ws "ApprovalRoutes$Route" k_T5 5, w ∈ lw_tbl := by
  have h := k_in (L := u_ws "ApprovalRoutes$Route" k_T5 5) (f := id) [336, 338, 340, 342, 344] (by decide +kernel)
  exact h
theorem k_nm5 : ∀ a, a < 5 → ∀ b, b < 5 → a ≠ b → (k_T5 a).2.1 ≠ (k_T5 b).2.1 := by decide +kernel
theorem k_ty5 : ∀ k, k < 5 → parseFieldDescriptor (k_T5 k).2.2.1 = some (k_fty 5 k) := by decide +kernel
theorem k_df5 : ∀ k, k < 5 → defaultValue (k_fty 5 k) = vp_V (k_new.getD 5 []) k := by decide +kernel
set_option maxRecDepth 100000 in
theorem k_ws6 : ∀ w ∈ u_ws "ApprovalRoutes$State" k_T6 3, w ∈ lw_tbl := by
  have h := k_in (L := u_ws "ApprovalRoutes$State" k_T6 3) (f := id) [152, 154, 156] (by decide +kernel)
  exact h
theorem k_nm6 : ∀ a, a < 3 → ∀ b, b < 3 → a ≠ b → (k_T6 a).2.1 ≠ (k_T6 b).2.1 := by decide +kernel
theorem k_ty6 : ∀ k, k < 3 → parseFieldDescriptor (k_T6 k).2.2.1 = some (k_fty 6 k) := by decide +kernel
theorem k_df6 : ∀ k, k < 3 → defaultValue (k_fty 6 k) = vp_V (k_new.getD 6 []) k := by decide +kernel
set_option maxRecDepth 100000 in
theorem k_ws7 : ∀ w ∈ u_ws "ApprovalRoutes$Tape" k_T7 2, w ∈ lw_tbl := by
  have h := k_in (L := u_ws "ApprovalRoutes$Tape" k_T7 2) (f := id) [190, 192] (by decide +kernel)
  exact h
theorem k_nm7 : ∀ a, a < 2 → ∀ b, b < 2 → a ≠ b → (k_T7 a).2.1 ≠ (k_T7 b).2.1 := by decide +kernel
theorem k_ty7 : ∀ k, k < 2 → parseFieldDescriptor (k_T7 k).2.2.1 = some (k_fty 7 k) := by decide +kernel
theorem k_df7 : ∀ k, k < 2 → defaultValue (k_fty 7 k) = vp_V (k_new.getD 7 []) k := by decide +kernel
set_option maxRecDepth 100000 in
theorem k_ws8 : ∀ w ∈ u_ws "ApprovalRoutes$Web" k_T8 1, w ∈ lw_tbl := by
  have h := k_in (L := u_ws "ApprovalRoutes$Web" k_T8 1) (f := id) [354] (by decide +kernel)
  exact h
theorem k_nm8 : ∀ a, a < 1 → ∀ b, b < 1 → a ≠ b → (k_T8 a).2.1 ≠ (k_T8 b).2.1 := by decide +kernel
theorem k_ty8 : ∀ k, k < 1 → parseFieldDescriptor (k_T8 k).2.2.1 = some (k_fty 8 k) := by decide +kernel
theorem k_df8 : ∀ k, k < 1 → defaultValue (k_fty 8 k) = vp_V (k_new.getD 8 []) k := by decide +kernel
set_option maxRecDepth 100000 in
theorem k_ws9 : ∀ w ∈ u_ws "ApprovalRoutes" k_T9 14, w ∈ lw_tbl := by
  have h := k_in (L := u_ws "ApprovalRoutes" k_T9 14) (f := id) [371, 373, 375, 377, 379, 381, 383, 385, 387, 389, 391, 393, 395, 397] (by decide +kernel)
  exact h
theorem k_nm9 : ∀ a, a < 14 → ∀ b, b < 14 → a ≠ b → (k_T9 a).2.1 ≠ (k_T9 b).2.1 := by decide +kernel
theorem k_ty9 : ∀ k, k < 14 → parseFieldDescriptor (k_T9 k).2.2.1 = some (k_fty 9 k) := by decide +kernel
theorem k_df9 : ∀ k, k < 14 → defaultValue (k_fty 9 k) = vp_V (k_new.getD 9 []) k := by decide +kernel
set_option maxRecDepth 100000 in
theorem k_ws10 : ∀ w ∈ u_ws "ApprovalRoutesModel" k_T10 31, w ∈ lw_tbl := by
  have h := k_in (L := u_ws "ApprovalRoutesModel" k_T10 31) (f := id) [1105, 1107, 1109, 1111, 1113, 1115, 1117, 1119, 1121, 1123, 1125, 1127, 1129, 1131, 1133, 1135, 1137, 1139, 1141, 1143, 1145, 1147, 1149, 1151, 1153, 1155, 1157, 1159, 1161, 1163, 1165] (by decide +kernel)
  exact h
theorem k_nm10 : ∀ a, a < 31 → ∀ b, b < 31 → a ≠ b → (k_T10 a).2.1 ≠ (k_T10 b).2.1 := by decide +kernel
theorem k_ty10 : ∀ k, k < 31 → parseFieldDescriptor (k_T10 k).2.2.1 = some (k_fty 10 k) := by decide +kernel
theorem k_df10 : ∀ k, k < 31 → defaultValue (k_fty 10 k) = vp_V (k_new.getD 10 []) k := by decide +kernel
end
section
/-! THE ENGINE: an abstract machine over worlds with places in place of addresses; 'z_step' is the weakest precondition of one instruction. -/
abbrev AE : Type := (Nat × Nat × (Nat → Int32)) ⊕ (List (Option Nat) ⊕ (Nat × List Value))
abbrev CI : Type := Nat × Instr × Nat × Nat
abbrev BK : Type := Nat × List CI × Nat
abbrev LC : Type := List (Option Value)
def z_nth {α : Type} : List α → Nat → Option α
  | [], _ => none
  | a :: _, 0 => some a
  | _ :: l, n + 1 => z_nth l n
def z_set {α : Type} : List α → Nat → α → List α
  | [], _, _ => []
  | _ :: l, 0, x => x :: l
  | a :: l, n + 1, x => a :: z_set l n x
theorem z_nth_eq {α : Type} (l : List α) (n : Nat) : z_nth l n = l[n]? := by
  induction l generalizing n with
  | nil => rfl
  | cons a l ih => cases n with
    | zero => rfl
    | succ n => simpa [z_nth] using ih n
theorem z_set_eq {α : Type} (l : List α) (n : Nat) (x : α) : z_set l n x = l.set n x := by
  induction l generalizing n with
  | nil => rfl
  | cons a l ih => cases n with
    | zero => rfl
    | succ n => simpa [z_set] using ih n
/-- a value under another numbering of places -/
def z_cv (ad : Nat → Nat) (v : Value) : Value := match v with
  | .ref k => .ref (ad k)
  | .int x => .int x
  | .long x => .long x
  | .float x => .float x
  | .double x => .double x
  | .null => .null
  | .retAddr x => .retAddr x
def z_ce (g : Nat → Nat) (c : AE) : AE := match c with
  | .inl a => .inl a
  | .inr (.inl rs) => .inr (.inl (rs.map (Option.map g)))
  | .inr (.inr (ci, fs)) => .inr (.inr (ci, fs.map (z_cv g)))
def z_con (cy : Nat → ClassId) (ad : Nat → Nat) (c : AE) : va_E := match c with
  | .inl (k, n, f) => .inl (cy k, n, .inl f)
  | .inr (.inl rs) => .inl (cy 3, rs.length, .inr (.inr (.inr (.inr (fun i => (rs.getD i none).map ad)))))
  | .inr (.inr (ci, fs)) => .inr (ci, fs.map (z_cv ad))
def z_wc (cy : Nat → ClassId) (ad : Nat → Nat) : Nat → List AE → va_W
  | _, [] => []
  | k, c :: σ => (ad k, z_con cy ad c) :: z_wc cy ad (k + 1) σ
/-- locals: what is known of them -/
def z_kn (ad : Nat → Nat) : Nat → LC → List (Nat × Value)
  | _, [] => []
  | k, some v :: L => (k, z_cv ad v) :: z_kn ad (k + 1) L
  | k, none :: L => z_kn ad (k + 1) L
def z_lay : List Value → LC
  | [] => []
  | .long x :: vs => some (.long x) :: none :: z_lay vs
  | .double x :: vs => some (.double x) :: none :: z_lay vs
  | v :: vs => some v :: z_lay vs
/-- forcing forms: they build written-out lists -/
def z_ent : List Value → Nat → (LC → Prop) → Prop
  | [], 0, k => k []
  | [], n + 1, k => z_ent [] n (fun L => k (none :: L))
  | .int x :: vs, n + 1, k => z_ent vs n (fun L => k (some (.int x) :: L))
  | .ref x :: vs, n + 1, k => z_ent vs n (fun L => k (some (.ref x) :: L))
  | .null :: vs, n + 1, k => z_ent vs n (fun L => k (some .null :: L))
  | .long x :: vs, n + 2, k => z_ent vs n (fun L => k (some (.long x) :: none :: L))
  | _, _, _ => False
def z_setK {α : Type} : List α → Nat → α → (List α → Prop) → Prop
  | [], _, _, k => k []
  | _ :: l, 0, x, k => k (x :: l)
  | a :: l, n + 1, x, k => z_setK l n x (fun l' => k (a :: l'))
def z_snocK {α : Type} : List α → α → (List α → Prop) → Prop
  | [], x, k => k [x]
  | a :: l, x, k => z_snocK l x (fun l' => k (a :: l'))
def z_nums : List Nat := [0, 1, 2, 3, 4, 5, 6, 7, 8, 9, 10, 11, 12, 13, 14, 15, 16, 17, 18, 19, 20, 21, 22, 23, 24, 25, 26, 27, 28, 29, 30, 31, 32, 33, 34, 35, 36, 37, 38, 39, 40, 41, 42, 43, 44, 45, 46, 47, 48, 49, 50, 51, 52, 53, 54, 55, 56, 57, 58, 59, 60, 61, 62, 63, 64, 65, 66, 67, 68, 69, 70, 71, 72, 73, 74, 75, 76, 77, 78, 79, 80, 81, 82, 83, 84, 85, 86, 87, 88, 89, 90, 91, 92, 93, 94, 95, 96, 97, 98, 99, 100, 101, 102, 103, 104, 105, 106, 107, 108, 109, 110, 111, 112, 113, 114, 115, 116, 117, 118, 119, 120, 121, 122, 123, 124, 125, 126, 127, 128, 129, 130, 131, 132, 133, 134, 135, 136, 137, 138, 139, 140, 141, 142, 143, 144, 145, 146, 147, 148, 149, 150, 151, 152, 153, 154, 155, 156, 157, 158, 159, 160, 161, 162, 163, 164, 165, 166, 167, 168, 169, 170, 171, 172, 173, 174, 175, 176, 177, 178, 179, 180, 181, 182, 183, 184, 185, 186, 187, 188, 189, 190, 191, 192, 193, 194, 195, 196, 197, 198, 199]
def z_lenO {α : Type} : List α → List Nat → Option Nat
  | [], i :: _ => some i
  | _ :: l, _ :: is => z_lenO l is
  | _, [] => none
def z_cvK (gK : Nat → (Nat → Prop) → Prop) (v : Value) (k : Value → Prop) : Prop := match v with
  | .ref i => gK i (fun i => k (.ref i))
  | .int x => k (.int x)
  | .long x => k (.long x)
  | .float x => k (.float x)
  | .double x => k (.double x)
  | .null => k .null
  | .retAddr x => k (.retAddr x)
def z_vsK (gK : Nat → (Nat → Prop) → Prop) : List Value → (List Value → Prop) → Prop
  | [], k => k []
  | v :: vs, k => z_cvK gK v (fun v => z_vsK gK vs (fun vs => k (v :: vs)))
def z_rsK (gK : Nat → (Nat → Prop) → Prop) : List (Option Nat) → (List (Option Nat) → Prop) → Prop
  | [], k => k []
  | some g :: rs, k => gK g (fun g => z_rsK gK rs (fun rs => k (some g :: rs)))
  | none :: rs, k => z_rsK gK rs (fun rs => k (none :: rs))
def z_ceK (gK : Nat → (Nat → Prop) → Prop) (c : AE) (k : AE → Prop) : Prop := match c with
  | .inl a => k (.inl a)
  | .inr (.inl rs) => z_rsK gK rs (fun rs => k (.inr (.inl rs)))
  | .inr (.inr (ci, fs)) => z_vsK gK fs (fun fs => k (.inr (.inr (ci, fs))))
/-- renaming between a caller's world and a callee's: rho lists the caller's places -/
def z_ix : List Nat → List Nat → Nat → Option Nat
  | r :: ρ, i :: is, g => (match Nat.beq r g with
    | true => some i
    | false => z_ix ρ is g)
  | _, _, _ => none
def z_iv (ρ : List Nat) (g : Nat) : Nat := match Nat.ble 1000 g with
  | false => (match z_ix ρ z_nums g with
    | some i => i
    | none => 10000 + g)
  | true => (match Nat.ble 10000 g with
    | false => g
    | true => 10000 + g)
def z_ivK (ρ : List Nat) (g : Nat) (k : Nat → Prop) : Prop := match Nat.ble 1000 g with
  | false => (match z_ix ρ z_nums g with
    | some i => k i
    | none => k (10000 + g))
  | true => (match Nat.ble 10000 g with
    | false => k g
    | true => k (10000 + g))
def z_fw (ρ : List Nat) (N : Nat) (i : Nat) : Nat := match Nat.ble 1000 i with
  | false => (match z_nth ρ i with
    | some r => r
    | none => 999999)
  | true => (match Nat.ble 10000 i with
    | false => i
    | true => (match Nat.ble N (i - 10000) && Nat.blt (i - 10000) 1000 with
      | true => 999999
      | false => i - 10000))
def z_fwK (ρ : List Nat) (N : Nat) (i : Nat) (k : Nat → Prop) : Prop := match Nat.ble 1000 i with
  | false => (match z_nth ρ i with
    | some r => k r
    | none => k 999999)
  | true => (match Nat.ble 10000 i with
    | false => k i
    | true => (match Nat.ble N (i - 10000) && Nat.blt (i - 10000) 1000 with
      | true => k 999999
      | false => k (i - 10000)))
def z_ok1 (N : Nat) (g : Nat) : Bool := Nat.blt g N || Nat.ble 1000 g
def z_okV (N : Nat) (v : Value) : Bool := match v with
  | .ref g => z_ok1 N g
  | _ => true
def z_okC (N : Nat) (c : AE) : Bool := match c with
  | .inl _ => true
  | .inr (.inl rs) => rs.all (fun r => match r with | some g => z_ok1 N g | none => true)
  | .inr (.inr (_, fs)) => fs.all (z_okV N)
def z_okO (N : Nat) (o : Option Value) : Bool := match o with
  | some v => z_okV N v
  | none => true
def z_okR (r : Option Value) (σ : List AE) : Bool := z_okO σ.length r && σ.all (z_okC σ.length)
def z_okr : List Nat → Nat → Bool
  | [], _ => true
  | r :: ρ, N => Nat.blt r N && (!(ρ.elem r) && z_okr ρ N)
def z_path (σ : List AE) : Value → List Nat → Option Nat
  | .ref k, [] => some k
  | .ref k, f :: fs => (match z_nth σ k with
    | some (.inr (.inr (_, vs))) => (match z_nth vs f with
      | some v => z_path σ v fs
      | none => none)
    | some (.inr (.inl rs)) => (match z_nth rs f with
      | some (some g) => z_path σ (.ref g) fs
      | _ => none)
    | _ => none)
  | _, _ => none
/-- the places of the callee's world, one by one -/
def z_rho (σ : List AE) (args : List Value) : List (Nat × List Nat) → (List Nat → Prop) → Prop
  | [], k => k []
  | q :: ps, k => (match z_nth args q.1 with
    | some v => (match z_path σ v q.2 with
      | some r => z_rho σ args ps (fun ρ => k (r :: ρ))
      | none => False)
    | none => False)
/-- the callee's world -/
def z_lw (σ : List AE) (ρ0 : List Nat) : List Nat → (List AE → Prop) → Prop
  | [], k => k []
  | r :: ρ, k => (match z_nth σ r with
    | some c => z_ceK (z_ivK ρ0) c (fun c => z_lw σ ρ0 ρ (fun σl => k (c :: σl)))
    | none => False)
def z_args : Nat → List Value → List Value → Option (List Value × List Value)
  | 0, acc, st => some (acc, st)
  | n + 1, acc, v :: st => z_args n (v :: acc) st
  | _ + 1, _, [] => none
def z_wb (fw : Nat → Nat) : List Nat → List AE → List AE → List AE
  | r :: ρ, σ, c :: σl => z_wb fw ρ (z_set σ r (z_ce fw c)) σl
  | [], σ, σl => σ ++ σl.map (z_ce fw)
  | _ :: _, σ, [] => σ
def z_appK : List AE → List AE → (List AE → Prop) → Prop
  | [], τ, k => k τ
  | c :: σ, τ, k => z_appK σ τ (fun σ => k (c :: σ))
def z_mapK (gK : Nat → (Nat → Prop) → Prop) : List AE → (List AE → Prop) → Prop
  | [], k => k []
  | c :: σ, k => z_ceK gK c (fun c => z_mapK gK σ (fun σ => k (c :: σ)))
def z_wbK (gK : Nat → (Nat → Prop) → Prop) : List Nat → List AE → List AE → (List AE → Prop) → Prop
  | r :: ρ, σ, c :: σl, k => z_ceK gK c (fun c => z_setK σ r c (fun σ => z_wbK gK ρ σ σl k))
  | [], σ, σl, k => z_mapK gK σl (fun τ => z_appK σ τ k)
  | _ :: _, σ, [], k => k σ
/-- a callee's specification: rank, cells, slots, paths of its world, predicate transformer (none: its world stays) -/
abbrev Tr : Type := List Value → List AE → (Option Value → Option (List AE) → Prop) → Prop
abbrev Sp : Type := Nat × Nat × Nat × List (Nat × List Nat) × Tr
def z_rm (rk mc ms : Nat) : Room := { frames := rk + 1, cells := mc, slots := ms, locals := 100 * (rk + 1) }
def z_U : List Cond := lw_tbl.filter goodWord
def z_ws (j : Nat) : List Cond := .code (k_y j) (k_co j) (k_nL j) (k_re j) :: z_U
def z_tys (cy : Nat → ClassId) : List (ClassId × FieldType) := [(cy 0, .int), (cy 1, .byte), (cy 2, .boolean), (cy 3, .object "ApprovalRoutes$State")]
def z_byt (n : Nat) : Int32 := nI n
/-- what stands beside the world and never changes: static arrays (places 3000 ..), texts (2000 .., their bytes 5000 ..), the formatter (6000), the script (4000), links between nest mates -/
def z_Amb (X : Option (Nat × (Nat → Int32))) (ad : Nat → Nat) (A : Nat → Prop) (U : State) (H : Heap) : Prop :=
  (∀ (i : Nat) (xs : List Nat), k_SA[i]? = some xs → va_Z (k_sg i).1 (k_sg i).2.1 (k_sg i).2.2 (.ref (ad (3000 + i))) A U H ∧ va_T .int (ad (3000 + i)) xs.length (fun j => .int (nI (xs.getD j 0))) A U H) ∧
  va_Z (k_sg 6).1 (k_sg 6).2.1 (k_sg 6).2.2 (.int 1) A U H ∧
  (va_Z (k_sg 7).1 (k_sg 7).2.1 (k_sg 7).2.2 .null A U H ∨ va_Z (k_sg 7).1 (k_sg 7).2.1 (k_sg 7).2.2 (.ref (ad 6000)) A U H) ∧
  (∀ (i : Nat) (xs : List Nat), k_str[i]? = some xs → va_O "java/lang/String" (ad (2000 + i)) A U H ∧ va_OF "java/lang/String" "coder" "B" (.int 0) (ad (2000 + i)) A U H ∧ va_OF "java/lang/String" "value" "[B" (.ref (ad (5000 + i))) (ad (2000 + i)) A U H ∧ va_T .byte (ad (5000 + i)) xs.length (fun j => .int (nI (xs.getD j 0))) A U H) ∧
  (∀ q ∈ k_LT, vk_R (k_cn q.1) q.2.1 (k_strT.getD q.2.2 "") (ad (2000 + q.2.2)) U) ∧
  (∀ q ∈ k_LMN, va_Nw (k_cLMN q) U) ∧ (∀ q ∈ k_LSN, va_Nw (k_cLSN q) U) ∧ va_AO "ApprovalRoutes$State" U ∧
  (∀ q, X = some q → va_X (ad 4000) q.1 q.2 U H ∧ ad 4000 < H.size ∧ ¬ A (ad 4000))
def z_ag (n0 : Nat) (ad ad0 : Nat → Nat) : Prop := ∀ k, (k < n0 ∨ 1000 ≤ k) → ad k = ad0 k
/-- how a method ends -/
def z_Q (D : va_G) (cy : Nat → ClassId) (ad0 : Nat → Nat) (A : Nat → Prop) (n0 MC : Nat) (Post : Option Value → List AE → Prop) : Array Value → State → Outcome → State → Prop := fun _ st o t =>
  (∃ (r : Option Value) (σ : List AE) (ad : Nat → Nat), Post r σ ∧ z_okR r σ = true ∧ n0 ≤ σ.length ∧ σ.length ≤ n0 + MC ∧ σ.length < 1000 ∧ z_ag n0 ad ad0 ∧ o = .returned (r.map (z_cv ad)) ∧ va_P D k_cl (z_wc cy ad 0 σ) t.heap ∧ va_D A (z_wc cy ad 0 σ)) ∧ va_F A st t
/-- a method's contract, at arguments and a world -/
def z_Ct (l : Launch) (j rk MC MS : Nat) (as : List Value) (σ : List AE) (Post : Option Value → List AE → Prop) : Prop :=
  ∀ (D : va_G) (cy : Nat → ClassId) (ad : Nat → Nat) (sz : Nat), Met l (k_y j) (z_ws j) (z_rm rk MC MS) (va_Pc (as.map (z_cv ad)) (fun U => U.heap.size = sz ∧ σ.length < 1000 ∧ va_P D k_cl (z_wc cy ad 0 σ) U.heap ∧ va_K D k_cl (z_tys cy) U ∧ va_D (fun _ => True) (z_wc cy ad 0 σ) ∧ z_Amb none ad (va_A (z_wc cy ad 0 σ) sz) U U.heap))
    (z_Q D cy ad (va_A (z_wc cy ad 0 σ) sz) σ.length MC Post) MC MS (va_A (z_wc cy ad 0 σ) sz)
def z_V (l : Launch) (j : Nat) (sp : Sp) : Prop := ∀ (as : List Value) (σ : List AE) (K : Option Value → Option (List AE) → Prop), sp.2.2.2.2 as σ K →
  z_Ct l j sp.1 sp.2.1 sp.2.2.1 as σ (fun r σ' => (σ' = σ ∧ K r none) ∨ K r (some σ'))
/-- the machine's context in a method -/
def z_Cx (l : Launch) (j : Nat) (X : Option (Nat × (Nat → Int32))) (p : Program) (s : State) (m : MethodId) (args : Array Value) (meth : Method) (c : Code) (D : va_G) (cy : Nat → ClassId) (ad0 : Nat → Nat) (A : Nat → Prop) : Prop :=
  p.tables.exec = Jvm.exec ∧ c.code = k_co j ∧ c.maxLocals = k_nL j ∧ meth.sig.returnType = k_re j ∧ meth.locks = false ∧ (k_ki j = 2 → meth.name = "<init>") ∧ s.vm.findClass (k_cn (k_ci j)) = some m.cls ∧ (∀ w ∈ z_U, w.before args s = true) ∧
  va_K D k_cl (z_tys cy) s ∧ z_Amb X ad0 A s s.heap ∧ ∀ q, s.heap.size ≤ q → A q
/-- the abstract judgement: from this point of method j the machine comes to a return that meets Post -/
def AW (l : Launch) (j rk MC MS n0 : Nat) (X : Option (Nat × (Nat → Int32))) (Post : Option Value → List AE → Prop) (pc : Nat) (L : LC) (st : List Value) (σ : List AE) (ce sl : Nat) : Prop :=
  ∀ (p : Program) (e : Env) (s : State) (m : MethodId) (args : Array Value) (below : List Frame) (meth : Method) (c : Code) (D : va_G) (cy : Nat → ClassId) (ad0 : Nat → Nat) (A : Nat → Prop), z_Cx l j X p s m args meth c D cy ad0 A →
  ∀ (ad : Nat → Nat) (ls : Array Slot) (H : Heap) (locs : List Loc), z_ag n0 ad ad0 → n0 ≤ σ.length → σ.length ≤ n0 + ce → σ.length < 1000 → lv_has ls (k_nL j) (z_kn ad 0 L) → va_P D k_cl (z_wc cy ad 0 σ) H → va_D A (z_wc cy ad 0 σ) → va_S A s.heap H locs →
  W p l e (z_rm rk MC MS) s m args below meth c H locs ce sl (MQ below (z_Q D cy ad0 A n0 MC Post) args s MC MS A) (F0 m pc ls (st.map (z_cv ad)))
abbrev KT : Type := LC → List Value → List AE → Nat → Nat → Prop
def z_cs : List Value → Nat
  | [] => 0
  | v :: vs => v.category + z_cs vs
def z_nn (t u : Nat) : Int32 := match u with
  | 0 => Int32.ofInt (t : Int)
  | _ => Int32.ofInt (-(t : Int))
/-- a place of locals may be overwritten: no long ends there -/
def z_okS (L : LC) (i : Nat) : Bool := match i with
  | 0 => true
  | i + 1 => (match z_nth L i with
    | some (some (.long _)) => false
    | some (some (.double _)) => false
    | _ => true)
def z_rcv (σ : List AE) (v : Value) (ci : Nat) : Bool := match v with
  | .ref k => (match Nat.ble 1000 k with
    | false => (match z_nth σ k with
      | some (.inr (.inr (c, _))) => Nat.beq c ci
      | _ => false)
    | true => Nat.beq ci 12 && (Nat.ble 2000 k && Nat.blt k 2019))
  | _ => false
def z_N (mc len : Nat) : Nat := match mc with
  | 0 => 1000
  | _ + 1 => len
def z_push (fw : Nat → Nat) (r : Option Value) (st : List Value) : List Value := match r with
  | some v => z_cv fw v :: st
  | none => st
def z_pushK (gK : Nat → (Nat → Prop) → Prop) (r : Option Value) (st : List Value) (k : List Value → Prop) : Prop := match r with
  | some v => z_cvK gK v (fun v => k (v :: st))
  | none => k st
/-- what goes on behind a call -/
def z_kk (mc ms N : Nat) (ρ : List Nat) (rest : List Value) (σ : List AE) (ce sl : Nat) (k : List Value → List AE → Nat → Nat → Prop) : Option Value → Option (List AE) → Prop := fun r o => match o with
  | none => z_pushK (z_fwK ρ N) r rest (fun st => k st σ (ce + mc) (sl + ms))
  | some σl => (match mc with
    | 0 => z_pushK (z_fwK ρ N) r rest (fun st => z_wbK (z_fwK ρ N) ρ σ σl (fun σ => k st σ ce (sl + ms)))
    | n + 1 => z_pushK (z_fwK (ρ ++ List.range' σ.length (σl.length - ρ.length)) N) r rest (fun st => z_wbK (z_fwK (ρ ++ List.range' σ.length (σl.length - ρ.length)) N) ρ σ σl (fun σ => k st σ (ce + (n + 1)) (sl + ms))))
/-- no place that is still free is named -/
def z_okW (N : Nat) (L : LC) (st : List Value) (σ : List AE) : Bool := L.all (z_okO N) && (st.all (z_okV N) && σ.all (z_okC N))
def z_okA (mc : Nat) (L : LC) (args rest : List Value) (σ : List AE) : Bool := match mc with
  | 0 => true
  | _ + 1 => z_okW σ.length L (args ++ rest) σ && Nat.ble (σ.length + mc) 900
/-- a call: the callee's contract is to be given, then its transformer -/
def z_call (l : Launch) (rk MC MS j : Nat) (L : LC) (args rest : List Value) (σ : List AE) (ce sl : Nat) (k : List Value → List AE → Nat → Nat → Prop) : Prop :=
  ∃ sp : Sp, z_V l j sp ∧ sp.1 < rk ∧ (match Nat.ble (ce + sp.2.1) MC && (Nat.ble (sl + sp.2.2.1) MS && Nat.ble (z_cs rest) 8) with
    | true => z_rho σ args sp.2.2.2.1 (fun ρ => match z_okr ρ σ.length && (Nat.blt ρ.length 1000 && z_okA sp.2.1 L args rest σ) with
      | true => z_lw σ ρ ρ (fun σl => z_vsK (z_ivK ρ) args (fun args => sp.2.2.2.2 args σl (z_kk sp.2.1 sp.2.2.1 (z_N sp.2.1 σ.length) ρ rest σ ce sl k)))
      | false => False)
    | false => False)
def z_sw (jm : Nat → Prop) (pc : Nat) (x : Int32) : Int → List Int → Prop
  | _, [] => True
  | lo, o :: os => (x = Int32.ofInt lo → jm ((pc : Int) + o).toNat) ∧ z_sw jm pc x (lo + 1) os
def z_lk (jm : Nat → Prop) (pc : Nat) (d : Int) (x : Int32) : List (Int × Int) → Prop
  | [] => jm ((pc : Int) + d).toNat
  | (a, o) :: r => (x = Int32.ofInt a → jm ((pc : Int) + o).toNat) ∧ (¬ x = Int32.ofInt a → z_lk jm pc d x r)
def z_ldi (L : LC) (i : Nat) (st : List Value) (k : List Value → Prop) : Prop := match z_nth L i with
  | some (some (.int v)) => k (.int v :: st)
  | _ => False
def z_ldl (L : LC) (i : Nat) (st : List Value) (k : List Value → Prop) : Prop := match z_nth L i with
  | some (some (.long v)) => k (.long v :: st)
  | _ => False
def z_ldr (L : LC) (i : Nat) (st : List Value) (k : List Value → Prop) : Prop := match z_nth L i with
  | some (some (.ref v)) => k (.ref v :: st)
  | _ => False
def z_lda (L : LC) (i : Nat) (st : List Value) (k : List Value → Prop) : Prop := match z_nth L i with
  | some (some (.ref v)) => k (.ref v :: st)
  | some (some .null) => k (.null :: st)
  | _ => False
def z_sto (L : LC) (i nL : Nat) (v : Value) (k : LC → Prop) : Prop := match Nat.blt i nL && z_okS L i with
  | true => z_setK L i (some v) k
  | false => False
def z_sto2 (L : LC) (i nL : Nat) (v : Value) (k : LC → Prop) : Prop := match Nat.blt (i + 1) nL && z_okS L i with
  | true => z_setK L i (some v) (fun L => z_setK L (i + 1) none k)
  | false => False
def z_off (a b : Nat) : Nat := a - b
def z_al (k0 : Nat) (X : Option (Nat × (Nat → Int32))) (σ : List AE) (a : Nat) (i : Int32) (k : Int32 → Prop) : Prop := match Nat.ble 1000 a with
  | false => (match z_nth σ a with
    | some (.inl (kd, n, f)) => (match Nat.beq kd k0 with
      | true => vp_in i n ∧ k (f i.toNatClampNeg)
      | false => False)
    | _ => False)
  | true => (match k0 with
    | 0 => (match Nat.beq a 4000 with
      | true => (match X with
        | some q => vp_in i q.1 ∧ k (q.2 i.toNatClampNeg)
        | none => False)
      | false => (match Nat.ble 3000 a with
        | true => (match z_nth k_SA (z_off a 3000) with
          | some xs => vp_in i xs.length ∧ k (nI (xs.getD i.toNatClampNeg 0))
          | none => False)
        | false => False))
    | _ => (match Nat.ble 5000 a with
      | true => (match z_nth k_str (z_off a 5000) with
        | some xs => vp_in i xs.length ∧ k (nI (xs.getD i.toNatClampNeg 0))
        | none => False)
      | false => False))
def z_len (X : Option (Nat × (Nat → Int32))) (σ : List AE) (a : Nat) (k : Int32 → Prop) : Prop := match Nat.ble 1000 a with
  | false => False
  | true => (match Nat.beq a 4000 with
    | true => (match X with
      | some q => q.1 ≤ 3072 ∧ k (nI q.1)
      | none => False)
    | false => (match Nat.ble 5000 a with
      | true => (match z_nth k_str (z_off a 5000) with
        | some xs => k (nI xs.length)
        | none => False)
      | false => False))
def z_cond (c : ClassFile.Cond) (x y : Int32) : Prop := match c with
  | .eq => x = y
  | .ne => x ≠ y
  | .lt => x < y
  | .ge => y ≤ x
  | .gt => y < x
  | .le => x ≤ y
/-- the weakest precondition of one instruction: k goes on behind it, jm jumps, rt returns -/
def z_step (l : Launch) (rk MC MS nL : Nat) (X : Option (Nat × (Nat → Int32))) (ret : Option FieldType) (pc : Nat) (i : Instr) (t u : Nat) (L : LC) (st : List Value) (σ : List AE) (ce sl : Nat) (k : KT) (jm : Nat → KT) (rt : Option Value → List AE → Nat → Nat → Prop) : Prop := match i with
  | .aload_n n => z_lda L n.val st (fun st => k L st σ ce sl)
  | .iload_n n => z_ldi L n.val st (fun st => k L st σ ce sl)
  | .lload_n n => z_ldl L n.val st (fun st => k L st σ ce sl)
  | .aload n => z_ldr L n st (fun st => k L st σ ce sl)
  | .iload n => z_ldi L n st (fun st => k L st σ ce sl)
  | .lload n => z_ldl L n st (fun st => k L st σ ce sl)
  | .iconst _ => k L (.int (z_nn t u) :: st) σ ce sl
  | .bipush _ => k L (.int (z_nn t u) :: st) σ ce sl
  | .sipush _ => k L (.int (z_nn t u) :: st) σ ce sl
  | .lconst n => k L (.long (lN n.val) :: st) σ ce sl
  | .ldc _ => (match u with
    | 0 => k L (.ref (2000 + t) :: st) σ ce sl
    | _ => k L (.int (nI t) :: st) σ ce sl)
  | .ldc_w _ => (match u with
    | 0 => k L (.ref (2000 + t) :: st) σ ce sl
    | _ => k L (.int (nI t) :: st) σ ce sl)
  | .ldc2_w _ => k L (.long (k_lv t u) :: st) σ ce sl
  | .istore_n n => (match st with
    | .int v :: st => z_sto L n.val nL (.int v) (fun L => k L st σ ce sl)
    | _ => False)
  | .istore n => (match st with
    | .int v :: st => z_sto L n nL (.int v) (fun L => k L st σ ce sl)
    | _ => False)
  | .astore_n n => (match st with
    | .ref v :: st => z_sto L n.val nL (.ref v) (fun L => k L st σ ce sl)
    | _ => False)
  | .lstore_n n => (match st with
    | .long v :: st => z_sto2 L n.val nL (.long v) (fun L => k L st σ ce sl)
    | _ => False)
  | .lstore n => (match st with
    | .long v :: st => z_sto2 L n nL (.long v) (fun L => k L st σ ce sl)
    | _ => False)
  | .iinc n _ => (match z_nth L n with
    | some (some (.int x)) => z_sto L n nL (.int (x + z_nn t u)) (fun L => k L st σ ce sl)
    | _ => False)
  | .dup => (match st with
    | .int a :: st => k L (.int a :: .int a :: st) σ ce sl
    | .ref a :: st => k L (.ref a :: .ref a :: st) σ ce sl
    | _ => False)
  | .dup2 => (match st with
    | .int a :: .ref b :: st => k L (.int a :: .ref b :: .int a :: .ref b :: st) σ ce sl
    | _ => False)
  | .pop => (match st with
    | .int _ :: st => k L st σ ce sl
    | .ref _ :: st => k L st σ ce sl
    | _ => False)
  | .iadd => (match st with
    | .int y :: .int x :: st => k L (.int (x + y) :: st) σ ce sl
    | _ => False)
  | .isub => (match st with
    | .int y :: .int x :: st => k L (.int (x - y) :: st) σ ce sl
    | _ => False)
  | .imul => (match st with
    | .int y :: .int x :: st => k L (.int (x * y) :: st) σ ce sl
    | _ => False)
  | .iand => (match st with
    | .int y :: .int x :: st => k L (.int (x &&& y) :: st) σ ce sl
    | _ => False)
  | .ior => (match st with
    | .int y :: .int x :: st => k L (.int (x ||| y) :: st) σ ce sl
    | _ => False)
  | .ixor => (match st with
    | .int y :: .int x :: st => k L (.int (x ^^^ y) :: st) σ ce sl
    | _ => False)
  | .idiv => (match st with
    | .int y :: .int x :: st => ¬ y = 0 ∧ k L (.int (x / y) :: st) σ ce sl
    | _ => False)
  | .irem => (match st with
    | .int y :: .int x :: st => ¬ y = 0 ∧ k L (.int (x - x / y * y) :: st) σ ce sl
    | _ => False)
  | .ishl => (match st with
    | .int y :: .int x :: st => k L (.int (x <<< (y &&& 31)) :: st) σ ce sl
    | _ => False)
  | .ishr => (match st with
    | .int y :: .int x :: st => k L (.int (x >>> (y &&& 31)) :: st) σ ce sl
    | _ => False)
  | .ladd => (match st with
    | .long y :: .long x :: st => k L (.long (x + y) :: st) σ ce sl
    | _ => False)
  | .lsub => (match st with
    | .long y :: .long x :: st => k L (.long (x - y) :: st) σ ce sl
    | _ => False)
  | .land => (match st with
    | .long y :: .long x :: st => k L (.long (x &&& y) :: st) σ ce sl
    | _ => False)
  | .lor => (match st with
    | .long y :: .long x :: st => k L (.long (x ||| y) :: st) σ ce sl
    | _ => False)
  | .lxor => (match st with
    | .long y :: .long x :: st => k L (.long (x ^^^ y) :: st) σ ce sl
    | _ => False)
  | .lshl => (match st with
    | .int y :: .long x :: st => k L (.long (x <<< (y.toInt64 &&& 63)) :: st) σ ce sl
    | _ => False)
  | .lshr => (match st with
    | .int y :: .long x :: st => k L (.long (x >>> (y.toInt64 &&& 63)) :: st) σ ce sl
    | _ => False)
  | .lushr => (match st with
    | .int y :: .long x :: st => k L (.long (x.toUInt64 >>> (y.toInt64.toUInt64 &&& Int64.toUInt64 63)).toInt64 :: st) σ ce sl
    | _ => False)
  | .lcmp => (match st with
    | .long y :: .long x :: st => k L (.int (lg_cmp x y) :: st) σ ce sl
    | _ => False)
  | .i2l => (match st with
    | .int x :: st => k L (.long x.toInt64 :: st) σ ce sl
    | _ => False)
  | .l2i => (match st with
    | .long x :: st => k L (.int x.toInt32 :: st) σ ce sl
    | _ => False)
  | .i2b => (match st with
    | .int x :: st => k L (.int x.toInt8.toInt32 :: st) σ ce sl
    | _ => False)
  | .i2c => (match st with
    | .int x :: st => k L (.int (x.toUInt32 % 65536).toInt32 :: st) σ ce sl
    | _ => False)
  | .ifCond c _ => (match st with
    | .int x :: st => (z_cond c x 0 → jm t L st σ ce sl) ∧ (¬ z_cond c x 0 → k L st σ ce sl)
    | _ => False)
  | .if_icmp c _ => (match st with
    | .int y :: .int x :: st => (z_cond c x y → jm t L st σ ce sl) ∧ (¬ z_cond c x y → k L st σ ce sl)
    | _ => False)
  | .goto _ => jm t L st σ ce sl
  | .tableswitch d lo hi os => (match st with
    | .int x :: st => ((x.toInt < lo ∨ hi < x.toInt) → jm ((pc : Int) + d).toNat L st σ ce sl) ∧ z_sw (fun t => jm t L st σ ce sl) pc x lo os.toList
    | _ => False)
  | .lookupswitch d ps => (match st with
    | .int x :: st => z_lk (fun t => jm t L st σ ce sl) pc d x ps.toList
    | _ => False)
  | .iaload => (match st with
    | .int i :: .ref a :: st => z_al 0 X σ a i (fun v => k L (.int v :: st) σ ce sl)
    | _ => False)
  | .baload => (match st with
    | .int i :: .ref a :: st => (match Nat.ble 1000 a with
      | false => (match z_nth σ a with
        | some (.inl (kd, n, f)) => (match Nat.beq kd 1 || Nat.beq kd 2 with
          | true => vp_in i n ∧ k L (.int (f i.toNatClampNeg) :: st) σ ce sl
          | false => False)
        | _ => False)
      | true => z_al 1 X σ a i (fun v => k L (.int v :: st) σ ce sl))
    | _ => False)
  | .iastore => (match st with
    | .int x :: .int i :: .ref a :: st => (match Nat.ble 1000 a with
      | false => (match z_nth σ a with
        | some (.inl (kd, n, f)) => (match Nat.beq kd 0 with
          | true => vp_in i n ∧ z_setK σ a (.inl (kd, n, upd f i.toNatClampNeg x)) (fun σ => k L st σ ce sl)
          | false => False)
        | _ => False)
      | true => False)
    | _ => False)
  | .bastore => (match st with
    | .int x :: .int i :: .ref a :: st => (match Nat.ble 1000 a with
      | false => (match z_nth σ a with
        | some (.inl (kd, n, f)) => (match kd with
          | 1 => vp_in i n ∧ z_setK σ a (.inl (kd, n, upd f i.toNatClampNeg (vp_nar .byte x))) (fun σ => k L st σ ce sl)
          | 2 => vp_in i n ∧ z_setK σ a (.inl (kd, n, upd f i.toNatClampNeg (vp_nar .boolean x))) (fun σ => k L st σ ce sl)
          | _ => False)
        | _ => False)
      | true => False)
    | _ => False)
  | .aaload => (match st with
    | .int i :: .ref a :: st => (match Nat.ble 1000 a with
      | false => (match z_nth σ a with
        | some (.inr (.inl rs)) => ∃ g : Nat, vp_in i rs.length ∧ rs[i.toNatClampNeg]? = some (some g) ∧ k L (.ref g :: st) σ ce sl
        | _ => False)
      | true => False)
    | _ => False)
  | .aastore => (match st with
    | .ref g :: .int i :: .ref a :: st => (match Nat.ble 1000 a || Nat.ble 1000 g with
      | false => (match z_nth σ a with
        | some (.inr (.inl rs)) => (match z_nth σ g with
          | some (.inr (.inr (ci, _))) => (match Nat.beq ci 6 with
            | true => vp_in i rs.length ∧ z_setK σ a (.inr (.inl (rs.set i.toNatClampNeg (some g)))) (fun σ => k L st σ ce sl)
            | false => False)
          | _ => False)
        | _ => False)
      | true => False)
    | _ => False)
  | .arraylength => (match st with
    | .ref a :: st => z_len X σ a (fun v => k L (.int v :: st) σ ce sl)
    | _ => False)
  | .getfield _ => (match st with
    | .ref a :: st => (match Nat.ble 1000 a with
      | false => (match z_nth σ a with
        | some (.inr (.inr (ci, fs))) => (match Nat.beq ci u with
          | true => (match z_nth fs t with
            | some v => k L (v :: st) σ ce sl
            | none => False)
          | false => False)
        | _ => False)
      | true => (match Nat.beq u 12 && (Nat.ble 2000 a && Nat.blt a 2019) with
        | true => (match t with
          | 0 => k L (.ref (a + 3000) :: st) σ ce sl
          | 1 => k L (.int 0 :: st) σ ce sl
          | _ => False)
        | false => False))
    | _ => False)
  | .putfield _ => (match st with
    | v :: .ref a :: st => (match Nat.ble 1000 a with
      | false => (match z_nth σ a with
        | some (.inr (.inr (ci, fs))) => (match Nat.beq ci u && Nat.blt t fs.length with
          | true => (match k_fty u t with
            | .int => (match v with
              | .int x => z_setK fs t (.int x) (fun fs => z_setK σ a (.inr (.inr (ci, fs))) (fun σ => k L st σ ce sl))
              | _ => False)
            | .boolean => (match v with
              | .int x => (x = 0 ∨ x = 1) ∧ z_setK fs t (.int x) (fun fs => z_setK σ a (.inr (.inr (ci, fs))) (fun σ => k L st σ ce sl))
              | _ => False)
            | .object _ => (match v with
              | .ref x => z_setK fs t (.ref x) (fun fs => z_setK σ a (.inr (.inr (ci, fs))) (fun σ => k L st σ ce sl))
              | _ => False)
            | .array _ => (match v with
              | .ref x => z_setK fs t (.ref x) (fun fs => z_setK σ a (.inr (.inr (ci, fs))) (fun σ => k L st σ ce sl))
              | _ => False)
            | _ => False)
          | false => False)
        | _ => False)
      | true => False)
    | _ => False)
  | .getstatic _ => (match t with
    | 6 => k L (.int 1 :: st) σ ce sl
    | 7 => k L (.null :: st) σ ce sl ∧ k L (.ref 6000 :: st) σ ce sl
    | _ => (match Nat.blt t 6 with
      | true => k L (.ref (3000 + t) :: st) σ ce sl
      | false => False))
  | .invokevirtual _ => (match Nat.blt t k_nM with
    | true => (match z_args u [] st with
      | some (v :: args, rest) => (match z_rcv σ v (k_ci t) with
        | true => z_call l rk MC MS t L (v :: args) rest σ ce sl (k L)
        | false => False)
      | _ => False)
    | false => False)
  | .invokestatic _ => (match Nat.blt t k_nM with
    | true => (match z_args u [] st with
      | some (args, rest) => z_call l rk MC MS t L args rest σ ce sl (k L)
      | _ => False)
    | false => (match t with
      | 1000 => (match st with
        | .int y :: .int x :: st => (match Nat.ble (z_cs st) 8 && (Nat.ble ce MC && Nat.ble sl MS) with
          | true => k L (.int (if x < y then y else x) :: st) σ ce sl
          | false => False)
        | _ => False)
      | 1001 => (match st with
        | .int y :: .int x :: st => (match Nat.ble (z_cs st) 8 && (Nat.ble ce MC && Nat.ble sl MS) with
          | true => k L (.int (if y < x then y else x) :: st) σ ce sl
          | false => False)
        | _ => False)
      | 1002 => (match st with
        | .int n :: .int dp :: .ref b :: .int sp :: .ref a :: st => (match Nat.ble 1000 a || (Nat.ble 1000 b || Nat.blt 8 (z_cs st)) with
          | false => (match z_nth σ a with
            | some (.inl (k0, n0, f)) => (match z_nth σ b with
              | some (.inl (k1, n1, g)) => (match Nat.beq k0 0 && Nat.beq k1 0 with
                | true => ¬ sp < 0 ∧ ¬ dp < 0 ∧ ¬ n < 0 ∧ sp.toNatClampNeg + n.toNatClampNeg ≤ n0 ∧ dp.toNatClampNeg + n.toNatClampNeg ≤ n1 ∧ z_setK σ b (.inl (k1, n1, va_cpy f g sp.toNatClampNeg dp.toNatClampNeg n.toNatClampNeg)) (fun σ => k L st σ ce sl)
                | false => False)
              | _ => False)
            | _ => False)
          | true => False)
        | _ => False)
      | _ => False))
  | .invokespecial _ => (match Nat.blt t k_nM with
    | true => (match z_args u [] st with
      | some (.ref v :: args, rest) => z_call l rk MC MS t L (.ref v :: args) rest σ ce sl (k L)
      | _ => False)
    | false => (match t with
      | 1003 => (match st with
        | .ref _ :: st => (match Nat.ble (z_cs st) 8 with
          | true => k L st σ ce sl
          | false => False)
        | _ => False)
      | _ => False))
  | .new _ => (match Nat.ble (ce + 1) MC && (Nat.ble σ.length 900 && z_okW σ.length L st σ) with
    | true => (match z_nth k_new u with
      | some fs => (match Nat.ble (sl + fs.length) MS with
        | true => (match z_lenO σ z_nums with
          | some n => z_snocK σ (.inr (.inr (u, fs))) (fun σ => k L (.ref n :: st) σ (ce + 1) (sl + fs.length))
          | none => False)
        | false => False)
      | none => False)
    | false => False)
  | .newarray _ => (match st with
    | .int n :: st => ∃ N : Nat, n = nI N ∧ N ≤ 100000 ∧ sl + N ≤ MS ∧ (match Nat.ble (ce + 1) MC && (Nat.ble σ.length 900 && z_okW σ.length L st σ) with
      | true => (match z_lenO σ z_nums with
        | some n => z_snocK σ (.inl (t, N, fun _ => 0)) (fun σ => k L (.ref n :: st) σ (ce + 1) (sl + N))
        | none => False)
      | false => False)
    | _ => False)
  | .anewarray _ => (match st with
    | .int n :: st => ∃ N : Nat, n = nI N ∧ N ≤ 100000 ∧ sl + N ≤ MS ∧ (match Nat.ble (ce + 1) MC && (Nat.ble σ.length 900 && z_okW σ.length L st σ) with
      | true => (match z_lenO σ z_nums with
        | some n => z_snocK σ (.inr (.inl (List.replicate N none))) (fun σ => k L (.ref n :: st) σ (ce + 1) (sl + N))
        | none => False)
      | false => False)
    | _ => False)
  | .return_ => (match ret with
    | none => (match st with
      | [] => rt none σ ce sl
      | _ => False)
    | some _ => False)
  | .ireturn => (match st with
    | [.int v] => (match ret with
      | some .int => rt (some (.int v)) σ ce sl
      | some .boolean => (v = 0 ∨ v = 1) ∧ rt (some (.int v)) σ ce sl
      | some .byte => narrow .byte (.int v) = .int v ∧ rt (some (.int v)) σ ce sl
      | some .char => narrow .char (.int v) = .int v ∧ rt (some (.int v)) σ ce sl
      | _ => False)
    | _ => False)
  | .lreturn => (match st with
    | [.long v] => (match ret with
      | some .long => rt (some (.long v)) σ ce sl
      | _ => False)
    | _ => False)
  | .areturn => (match st with
    | [.ref v] => (match ret with
      | some (.object _) => rt (some (.ref v)) σ ce sl
      | _ => False)
    | _ => False)
  | _ => False
def z_blk : List BK → Nat → Option (List CI × Nat)
  | [], _ => none
  | (s, is, fall) :: r, t => (match Nat.beq s t with
    | true => some (is, fall)
    | false => z_blk r t)
/-- the walk of a method's blocks up to the cuts -/
def wp (l : Launch) (j rk MC MS n0 : Nat) (X : Option (Nat × (Nat → Int32))) (Post : Option Value → List AE → Prop) (nL : Nat) (ret : Option FieldType) (bs : List BK) (cuts : List Nat) : Nat → List CI → Nat → LC → List Value → List AE → Nat → Nat → Prop
  | 0, _, _, _, _, _, _, _ => False
  | n + 1, [], fall, L, st, σ, ce, sl => (match cuts.elem fall with
    | true => AW l j rk MC MS n0 X Post fall L st σ ce sl
    | false => (match z_blk bs fall with
      | some (is, fall) => wp l j rk MC MS n0 X Post nL ret bs cuts n is fall L st σ ce sl
      | none => False))
  | n + 1, (pc, i, t, u) :: is, fall, L, st, σ, ce, sl => z_step l rk MC MS nL X ret pc i t u L st σ ce sl
      (fun L st σ ce sl => wp l j rk MC MS n0 X Post nL ret bs cuts n is fall L st σ ce sl)
      (fun t L st σ ce sl => wp l j rk MC MS n0 X Post nL ret bs cuts n [] t L st σ ce sl)
      (fun r σ ce sl => match Nat.ble ce MC && (Nat.ble sl MS && z_okR r σ) with
        | true => Post r σ
        | false => False)
/-! what is checked of the tables by the kernel -/
def z_nx (is : List CI) (fall : Nat) : Nat := match is with
  | [] => fall
  | q :: _ => q.1
def z_ok (own : Nat) (ini : Bool) (pc : Nat) (i : Instr) (t u : Nat) : Bool := match i with
  | .iconst n => decide (Int32.ofInt n = z_nn t u)
  | .bipush n => decide ((Int8.ofInt n).toInt32 = z_nn t u)
  | .sipush n => decide ((Int16.ofInt n).toInt32 = z_nn t u)
  | .iinc _ n => decide (Int32.ofInt n = z_nn t u)
  | .ldc x => (match u with
    | 0 => k_LT.elem (own, x, t)
    | _ => k_LK.elem (own, x, t))
  | .ldc_w x => (match u with
    | 0 => k_LT.elem (own, x, t)
    | _ => k_LK.elem (own, x, t))
  | .ldc2_w x => k_LKL.elem (own, x, t, u)
  | .ifCond _ o => decide ((pc : Int) + o = (t : Int))
  | .if_icmp _ o => decide ((pc : Int) + o = (t : Int))
  | .goto o => decide ((pc : Int) + o = (t : Int))
  | .tableswitch d lo hi os => decide (0 ≤ (pc : Int) + d) && (decide (hi = lo + (os.size : Int) - 1) && (decide (-2147483648 ≤ lo) && (decide (hi ≤ 2147483647) && os.toList.all (fun o => decide (0 ≤ (pc : Int) + o)))))
  | .lookupswitch d ps => decide (0 ≤ (pc : Int) + d) && ((ps.toList.zip (ps.toList.drop 1)).all (fun (a, next) => a.1 < next.1) && ps.toList.all (fun o => decide (0 ≤ (pc : Int) + o.2) && (decide (-2147483648 ≤ o.1) && decide (o.1 ≤ 2147483647))))
  | .getfield x => k_LF.elem (own, x, u, t)
  | .putfield x => k_LF.elem (own, x, u, t) && (Nat.blt u 11 && (match k_cl[u]? with
    | some r => (match (r.2.1 t).2.2.2 with
      | true => ini && decide ((r.2.1 t).1 = k_cn own)
      | false => true)
    | none => false))
  | .getstatic x => (match u with
    | 0 => k_LS.elem (own, x, t)
    | _ => k_LSN.elem (own, x, t))
  | .invokevirtual x => (!Nat.blt t k_nM) || (k_LM.elem (own, x, t) && (k_LV.elem t && decide (u = k_na t)))
  | .invokestatic x => (match Nat.blt t k_nM with
    | true => (k_LM.elem (own, x, t) || k_LMN.elem (own, x, t)) && (k_LST.elem t && decide (u = k_na t))
    | false => k_LX.elem (own, x, t) || decide (t = 9999))
  | .invokespecial x => (match Nat.blt t k_nM with
    | true => k_LM.elem (own, x, t) && (k_LI.elem t && (decide (k_ki t = 2) && decide (u = k_na t)))
    | false => k_LX.elem (own, x, t) || decide (t = 9999))
  | .new x => k_LC.elem (own, x, u) && Nat.blt u 11
  | .anewarray x => k_LC.elem (own, x, 6)
  | .newarray a => (match a, t with
    | .int, 0 => true
    | .byte, 1 => true
    | .boolean, 2 => true
    | _, _ => false)
  | _ => true
def z_iln (i : Instr) (len : Nat) : Bool := match i with
  | .tableswitch .. => true
  | .lookupswitch .. => true
  | .aload _ | .iload _ | .lload _ | .istore _ | .lstore _ | .bipush _ | .ldc _ | .newarray _ => Nat.beq len 2
  | .sipush _ | .ldc_w _ | .ldc2_w _ | .iinc _ _ | .ifCond _ _ | .if_icmp _ _ | .goto _ | .getfield _ | .putfield _ | .getstatic _ | .invokevirtual _ | .invokestatic _ | .invokespecial _ | .new _ | .anewarray _ => Nat.beq len 3
  | _ => Nat.beq len 1
def z_chkB (cc : ByteArray) (own : Nat) (ini : Bool) : List CI → Nat → Bool
  | [], _ => true
  | (pc, i, t, u) :: is, fall => (match decode cc pc with
    | .ok (i', len) => decide (i' = i) && (decide (z_nx is fall = pc + len) && (z_iln i len && z_ok own ini pc i t u))
    | .error _ => false) && z_chkB cc own ini is fall
def z_chk (cc : ByteArray) (own : Nat) (ini : Bool) (bs : List BK) : Bool := bs.all (fun b => z_chkB cc own ini b.2.1 b.2.2 && decide (z_nx b.2.1 b.2.2 = b.1))
def z_chkM (j : Nat) (bs : List BK) : Bool := z_chk (k_co j) (k_ci j) (Nat.beq (k_ki j) 2) bs
end
section
/-! worlds and numberings -/
theorem z_cv_comp (f g : Nat → Nat) (v : Value) : z_cv f (z_cv g v) = z_cv (fun k => f (g k)) v := by cases v <;> rfl
theorem z_cv_cat (f : Nat → Nat) (v : Value) : (z_cv f v).category = v.category := by cases v <;> rfl
theorem z_con_ce (cy : Nat → ClassId) (ad g : Nat → Nat) (c : AE) : z_con cy ad (z_ce g c) = z_con cy (fun k => ad (g k)) c := by
  rcases c with a | rs | ⟨ci, fs⟩
  · rfl
  · simp only [z_ce, z_con, List.length_map]
    congr 7
    funext i
    simp only [List.getD_eq_getElem?_getD, List.getElem?_map]
    cases rs[i]? with
    | none => rfl
    | some o => cases o <;> rfl
  · simp only [z_ce, z_con, List.map_map]
    congr 2
    exact List.map_congr_left (fun v _ => z_cv_comp _ _ v)
theorem z_wc_at (cy : Nat → ClassId) (ad : Nat → Nat) (σ : List AE) : ∀ (k i : Nat), (z_wc cy ad k σ)[i]? = (σ[i]?).map (fun c => (ad (k + i), z_con cy ad c)) := by
  induction σ with
  | nil => intro k i; simp [z_wc]
  | cons c σ ih =>
    intro k i
    cases i with
    | zero => simp [z_wc]
    | succ i =>
      simp only [z_wc, List.getElem?_cons_succ, ih (k + 1) i]
      rw [show k + 1 + i = k + (i + 1) by omega]
theorem z_wc_len (cy : Nat → ClassId) (ad : Nat → Nat) (σ : List AE) : ∀ k, (z_wc cy ad k σ).length = σ.length := by
  induction σ with
  | nil => intro k; rfl
  | cons c σ ih => intro k; simp [z_wc, ih]
theorem z_wc_set (cy : Nat → ClassId) (ad : Nat → Nat) (σ : List AE) (i : Nat) (c : AE) (k : Nat) : z_wc cy ad k (σ.set i c) = (z_wc cy ad k σ).set i (ad (k + i), z_con cy ad c) := by
  apply List.ext_getElem?
  intro n
  rw [z_wc_at, List.getElem?_set, List.getElem?_set, z_wc_at, z_wc_len]
  by_cases h : i = n
  · subst h
    by_cases h2 : i < σ.length
    · simp [h2]
    · simp [h2]
  · simp [h]
theorem z_wc_app (cy : Nat → ClassId) (ad : Nat → Nat) (τ σ : List AE) : ∀ k, z_wc cy ad k (σ ++ τ) = z_wc cy ad k σ ++ z_wc cy ad (k + σ.length) τ := by
  induction σ with
  | nil => intro k; simp [z_wc]
  | cons c σ ih => intro k; simp only [List.cons_append, z_wc, ih, List.length_cons]; rw [show k + 1 + σ.length = k + (σ.length + 1) by omega]
theorem z_cv_congr {N : Nat} {ad ad' : Nat → Nat} (h : ∀ k, z_ok1 N k = true → ad k = ad' k) {v : Value} (hv : z_okV N v = true) : z_cv ad v = z_cv ad' v := by
  cases v <;> first | rfl | exact congrArg Value.ref (h _ hv)
theorem z_con_congr {N : Nat} {cy : Nat → ClassId} {ad ad' : Nat → Nat} (h : ∀ k, z_ok1 N k = true → ad k = ad' k) {c : AE} (hc : z_okC N c = true) : z_con cy ad c = z_con cy ad' c := by
  rcases c with a | rs | ⟨ci, fs⟩
  · rfl
  · simp only [z_con]
    congr 7
    funext i
    simp only [List.getD_eq_getElem?_getD]
    cases hi : rs[i]? with
    | none => rfl
    | some o =>
      cases o with
      | none => rfl
      | some g =>
        have := List.all_eq_true.mp hc _ (List.mem_of_getElem? hi)
        simp only [Option.getD_some, Option.map_some]
        rw [h g this]
  · simp only [z_con]
    congr 2
    exact List.map_congr_left (fun v hv => z_cv_congr h (List.all_eq_true.mp hc v hv))
theorem z_wc_congr {cy : Nat → ClassId} {ad ad' : Nat → Nat} {k0 : Nat} {σ : List AE} (h1 : ∀ i, i < σ.length → ad (k0 + i) = ad' (k0 + i)) (h2 : ∀ c ∈ σ, z_con cy ad c = z_con cy ad' c) : z_wc cy ad k0 σ = z_wc cy ad' k0 σ := by
  apply List.ext_getElem?
  intro n
  rw [z_wc_at, z_wc_at]
  cases hn : σ[n]? with
  | none => rfl
  | some c => simp only [Option.map_some]; rw [h1 n (List.getElem?_eq_some_iff.mp hn).1, h2 c (List.mem_of_getElem? hn)]
theorem z_kn_mem {ad : Nat → Nat} {L : LC} : ∀ {k : Nat} {q : Nat × Value}, q ∈ z_kn ad k L ↔ ∃ (i : Nat) (v : Value), L[i]? = some (some v) ∧ q = (k + i, z_cv ad v) := by
  induction L with
  | nil => intro k q; simp [z_kn]
  | cons o L ih =>
    intro k q
    cases o with
    | none =>
      simp only [z_kn, ih]
      constructor
      · rintro ⟨i, v, h, rfl⟩
        exact ⟨i + 1, v, by simpa using h, by rw [show k + 1 + i = k + (i + 1) by omega]⟩
      · rintro ⟨i, v, h, rfl⟩
        cases i with
        | zero => simp at h
        | succ i => exact ⟨i, v, by simpa using h, by rw [show k + 1 + i = k + (i + 1) by omega]⟩
    | some w =>
      simp only [z_kn, List.mem_cons, ih]
      constructor
      · rintro (rfl | ⟨i, v, h, rfl⟩)
        · exact ⟨0, w, by simp, by simp⟩
        · exact ⟨i + 1, v, by simpa using h, by rw [show k + 1 + i = k + (i + 1) by omega]⟩
      · rintro ⟨i, v, h, rfl⟩
        cases i with
        | zero => left; simp at h; subst h; simp
        | succ i => right; exact ⟨i, v, by simpa using h, by rw [show k + 1 + i = k + (i + 1) by omega]⟩
theorem z_lv_mono {ls : Array Slot} {n : Nat} {l l' : List (Nat × Value)} (h : lv_has ls n l) (hm : ∀ q ∈ l', q ∈ l) : lv_has ls n l' := ⟨h.1, h.2.1, fun q hq => h.2.2 q (hm q hq)⟩
theorem z_lv_at {ls : Array Slot} {n : Nat} {ad : Nat → Nat} {L : LC} (h : lv_has ls n (z_kn ad 0 L)) {i : Nat} {v : Value} (hv : L[i]? = some (some v)) : ls[i]? = some (.val (z_cv ad v)) := by
  have := h.2.2 (i, z_cv ad v) (z_kn_mem.mpr ⟨i, v, hv, by simp⟩)
  exact this
theorem z_okS_spec {L : LC} {i : Nat} (h : z_okS L i = true) {j : Nat} {v : Value} (hj : j + 1 = i) (hv : L[j]? = some (some v)) : v.category = 1 := by
  subst hj
  simp only [z_okS, z_nth_eq, hv] at h
  cases v <;> first | rfl | simp at h
theorem z_store1 {ad : Nat → Nat} {ls : Array Slot} {n i : Nat} {L : LC} {v : Value} (h : lv_has ls n (z_kn ad 0 L)) (hi : i < n) (hc : v.category = 1) (hok : z_okS L i = true) :
    ∀ ls', lv_has ls' n ((i, z_cv ad v) :: (z_kn ad 0 L).filter (fun q => !(q.1 == i) && !(q.1 + 1 == i && q.2.category == 2))) → lv_has ls' n (z_kn ad 0 (z_set L i (some v))) := by
  intro ls' h'
  refine z_lv_mono h' (fun q hq => ?_)
  obtain ⟨j, w, hj, rfl⟩ := z_kn_mem.mp hq
  rw [z_set_eq, List.getElem?_set] at hj
  by_cases e : i = j
  · subst e
    simp only [if_true] at hj
    split at hj
    · cases hj; simp
    · cases hj
  · rw [if_neg e] at hj
    refine List.mem_cons_of_mem _ (List.mem_filter.mpr ⟨z_kn_mem.mpr ⟨j, w, hj, rfl⟩, ?_⟩)
    simp only [Nat.zero_add]
    have h1 : (j == i) = false := by simpa using Ne.symm e
    rw [h1]
    by_cases e2 : j + 1 = i
    · have := z_okS_spec hok e2 hj
      simp [z_cv_cat, this]
    · simp [e2]
theorem z_store2 {ad : Nat → Nat} {ls : Array Slot} {n i : Nat} {L : LC} {v : Value} (h : lv_has ls n (z_kn ad 0 L)) (hi : i + 1 < n) (hc : v.category = 2) (hok : z_okS L i = true) :
    ∀ ls', lv_has ls' n ((i, z_cv ad v) :: (z_kn ad 0 L).filter (fun q => !(q.1 == i) && (!(q.1 == i + 1) && !(q.1 + 1 == i && q.2.category == 2)))) → lv_has ls' n (z_kn ad 0 (z_set (z_set L i (some v)) (i + 1) none)) := by
  intro ls' h'
  refine z_lv_mono h' (fun q hq => ?_)
  obtain ⟨j, w, hj, rfl⟩ := z_kn_mem.mp hq
  rw [z_set_eq, z_set_eq, List.getElem?_set] at hj
  by_cases e : i + 1 = j
  · subst e
    simp only [if_true] at hj
    split at hj <;> cases hj
  · rw [if_neg e, List.getElem?_set] at hj
    by_cases e1 : i = j
    · subst e1
      simp only [if_true] at hj
      split at hj
      · cases hj; simp
      · cases hj
    · rw [if_neg e1] at hj
      refine List.mem_cons_of_mem _ (List.mem_filter.mpr ⟨z_kn_mem.mpr ⟨j, w, hj, rfl⟩, ?_⟩)
      simp only [Nat.zero_add]
      have h1 : (j == i) = false := by simpa using Ne.symm e1
      have h2 : (j == i + 1) = false := by simpa using Ne.symm e
      rw [h1, h2]
      by_cases e2 : j + 1 = i
      · have := z_okS_spec hok e2 hj
        simp [z_cv_cat, this]
      · simp [e2]
/-! what stands beside the world -/
theorem z_Amb.kept {X : Option (Nat × (Nat → Int32))} {ad : Nat → Nat} {A : Nat → Prop} {U : State} {H H1 : Heap} (h : z_Amb X ad A U H) (hs : H.size ≤ H1.size) (hq : ∀ a : Nat, a < H.size → ¬ A a → H1[a]? = H[a]?) : z_Amb X ad A U H1 := by
  obtain ⟨h1, h2, h3, h4, h5, h6, h7, h9, h8⟩ := h
  refine ⟨fun i xs hi => ⟨(h1 i xs hi).1.kept hq, (h1 i xs hi).2.kept hq⟩, h2.kept hq, ?_, fun i xs hi => ?_, h5, h6, h7, h9, fun q e => ?_⟩
  · rcases h3 with h3 | h3
    · exact Or.inl (h3.kept hq)
    · exact Or.inr (h3.kept hq)
  · obtain ⟨g1, g2, g3, g4⟩ := h4 i xs hi
    exact ⟨g1.kept hq, g2.kept hq, g3.kept hq, g4.kept hq⟩
  · obtain ⟨g1, g2, g3⟩ := h8 q e
    exact ⟨g1.kept (hq _ g2 g3), Nat.lt_of_lt_of_le g2 hs, g3⟩
theorem z_Amb.narrow {X : Option (Nat × (Nat → Int32))} {ad : Nat → Nat} {A B : Nat → Prop} {U : State} {H : Heap} (h : z_Amb X ad A U H) (hAB : ∀ q, B q → A q) : z_Amb X ad B U H := by
  obtain ⟨h1, h2, h3, h4, h5, h6, h7, h9, h8⟩ := h
  refine ⟨fun i xs hi => ⟨(h1 i xs hi).1.narrow hAB, (h1 i xs hi).2.narrow hAB⟩, h2.narrow hAB, ?_, fun i xs hi => ?_, h5, h6, h7, h9, fun q e => ?_⟩
  · rcases h3 with h3 | h3
    · exact Or.inl (h3.narrow hAB)
    · exact Or.inr (h3.narrow hAB)
  · obtain ⟨g1, g2, g3, g4⟩ := h4 i xs hi
    exact ⟨g1.narrow hAB, g2.narrow hAB, g3.narrow hAB, g4.narrow hAB⟩
  · obtain ⟨g1, g2, g3⟩ := h8 q e
    exact ⟨g1, g2, fun z => g3 (hAB _ z)⟩
theorem z_Amb.forget {X : Option (Nat × (Nat → Int32))} {ad : Nat → Nat} {A : Nat → Prop} {U : State} {H : Heap} (h : z_Amb X ad A U H) : z_Amb none ad A U H := by
  obtain ⟨h1, h2, h3, h4, h5, h6, h7, h9, h8⟩ := h
  exact ⟨h1, h2, h3, h4, h5, h6, h7, h9, fun q e => by cases e⟩
theorem z_Amb.renum {X : Option (Nat × (Nat → Int32))} {ad ad' : Nat → Nat} {A : Nat → Prop} {U : State} {H : Heap} (h : z_Amb X ad A U H) (he : ∀ k, 1000 ≤ k → k < 10000 → ad' k = ad k) : z_Amb X ad' A U H := by
  obtain ⟨h1, h2, h3, h4, h5, h6, h7, h9, h8⟩ := h
  have l1 : ∀ (i : Nat) (xs : List Nat), k_SA[i]? = some xs → i < 6 := fun i xs hi => (List.getElem?_eq_some_iff.mp hi).1
  have l2 : ∀ (i : Nat) (xs : List Nat), k_str[i]? = some xs → i < 19 := fun i xs hi => (List.getElem?_eq_some_iff.mp hi).1
  have l3 : ∀ q ∈ k_LT, q.2.2 < 19 := by decide +kernel
  refine ⟨fun i xs hi => ?_, h2, ?_, fun i xs hi => ?_, fun q hq => ?_, h6, h7, h9, fun q e => ?_⟩
  · have := l1 i xs hi
    rw [he (3000 + i) (by omega) (by omega)]
    exact h1 i xs hi
  · rw [he 6000 (by omega) (by omega)]
    exact h3
  · have := l2 i xs hi
    rw [he (2000 + i) (by omega) (by omega), he (5000 + i) (by omega) (by omega)]
    exact h4 i xs hi
  · have := l3 q hq
    rw [he (2000 + q.2.2) (by omega) (by omega)]
    exact h5 q hq
  · rw [he 4000 (by omega) (by omega)]
    exact h8 q e
theorem z_Amb.warm {X : Option (Nat × (Nat → Int32))} {ad : Nat → Nat} {A : Nat → Prop} {s U : State} {H : Heap} (hW : s.WarmedH U.vm) (h : z_Amb X ad A s H) : z_Amb X ad A U H := by
  obtain ⟨h1, h2, h3, h4, h5, h6, h7, h9, h8⟩ := h
  have ha := hW.alike
  refine ⟨fun i xs hi => ⟨(h1 i xs hi).1.moved ha, (h1 i xs hi).2.moved ha⟩, h2.moved ha, ?_, fun i xs hi => ?_, fun q hq => (h5 q hq).warm hW, fun q hq => va_Nw.warmM hW (h6 q hq), fun q hq => va_Nw.warmF hW (h7 q hq), h9.moved ha, fun q e => ?_⟩
  · rcases h3 with h3 | h3
    · exact Or.inl (h3.moved ha)
    · exact Or.inr (h3.moved ha)
  · obtain ⟨g1, g2, g3, g4⟩ := h4 i xs hi
    exact ⟨g1.moved ha, g2.moved ha, g3.moved ha, g4.moved ha⟩
  · obtain ⟨g1, g2, g3⟩ := h8 q e
    exact ⟨g1.moved ha, g2, g3⟩
theorem z_Amb.blind {X : Option (Nat × (Nat → Int32))} {ad : Nat → Nat} {A : Nat → Prop} {U V : State} {H : Heap} (hv : V.vm = U.vm) (h : z_Amb X ad A U H) : z_Amb X ad A V H := by
  obtain ⟨h1, h2, h3, h4, h5, h6, h7, h9, h8⟩ := h
  have ha : U.vm.Alike V.vm := by rw [hv]; exact Vm.Alike.refl U.vm
  refine ⟨fun i xs hi => ⟨(h1 i xs hi).1.moved ha, (h1 i xs hi).2.moved ha⟩, h2.moved ha, ?_, fun i xs hi => ?_, fun q hq => (h5 q hq).same hv, fun q hq => va_Nw.same rfl hv.symm (h6 q hq), fun q hq => va_Nw.same rfl hv.symm (h7 q hq), h9.moved ha, fun q e => ?_⟩
  · rcases h3 with h3 | h3
    · exact Or.inl (h3.moved ha)
    · exact Or.inr (h3.moved ha)
  · obtain ⟨g1, g2, g3, g4⟩ := h4 i xs hi
    exact ⟨g1.moved ha, g2.moved ha, g3.moved ha, g4.moved ha⟩
  · obtain ⟨g1, g2, g3⟩ := h8 q e
    exact ⟨g1.moved ha, g2, g3⟩
/-! the forcing forms are what they force -/
theorem z_setK_eq {α : Type} : ∀ (l : List α) (n : Nat) (x : α) (k : List α → Prop), z_setK l n x k = k (z_set l n x) := by
  intro l
  induction l with
  | nil => intro n x k; rfl
  | cons a l ih =>
    intro n x k
    cases n with
    | zero => rfl
    | succ n => simp only [z_setK, ih, z_set]
theorem z_snocK_eq {α : Type} : ∀ (l : List α) (x : α) (k : List α → Prop), z_snocK l x k = k (l ++ [x]) := by
  intro l
  induction l with
  | nil => intro x k; rfl
  | cons a l ih => intro x k; simp only [z_snocK, ih, List.cons_append]
theorem z_nums_eq : z_nums = List.range 200 := by decide +kernel
theorem z_nums_at {n k : Nat} (h : z_nums[n]? = some k) : k = n := by
  rw [z_nums_eq] at h
  have h1 := (List.getElem?_eq_some_iff.mp h).1
  rw [List.length_range] at h1
  rw [List.getElem?_range h1] at h
  exact (Option.some.inj h).symm
theorem z_lenO_drop {α : Type} : ∀ (l : List α) (is : List Nat) (n : Nat), z_lenO l is = some n → is[l.length]? = some n := by
  intro l
  induction l with
  | nil => intro is n h; cases is with
    | nil => cases h
    | cons i is => simpa [z_lenO] using h
  | cons a l ih => intro is n h; cases is with
    | nil => cases h
    | cons i is => simpa using ih is n h
theorem z_lenO_spec {α : Type} {l : List α} {n : Nat} (h : z_lenO l z_nums = some n) : n = l.length := z_nums_at (z_lenO_drop l z_nums n h)
theorem z_cvK_eq {gK : Nat → (Nat → Prop) → Prop} {g : Nat → Nat} (hg : ∀ i k, gK i k = k (g i)) (v : Value) (k : Value → Prop) : z_cvK gK v k = k (z_cv g v) := by
  cases v <;> first | rfl | exact hg _ _
theorem z_vsK_eq {gK : Nat → (Nat → Prop) → Prop} {g : Nat → Nat} (hg : ∀ i k, gK i k = k (g i)) : ∀ (vs : List Value) (k : List Value → Prop), z_vsK gK vs k = k (vs.map (z_cv g)) := by
  intro vs
  induction vs with
  | nil => intro k; rfl
  | cons v vs ih => intro k; simp only [z_vsK, z_cvK_eq hg, ih, List.map_cons]
theorem z_rsK_eq {gK : Nat → (Nat → Prop) → Prop} {g : Nat → Nat} (hg : ∀ i k, gK i k = k (g i)) : ∀ (rs : List (Option Nat)) (k : List (Option Nat) → Prop), z_rsK gK rs k = k (rs.map (Option.map g)) := by
  intro rs
  induction rs with
  | nil => intro k; rfl
  | cons o rs ih => intro k; cases o <;> simp only [z_rsK, hg, ih, List.map_cons, Option.map_some, Option.map_none]
theorem z_ceK_eq {gK : Nat → (Nat → Prop) → Prop} {g : Nat → Nat} (hg : ∀ i k, gK i k = k (g i)) (c : AE) (k : AE → Prop) : z_ceK gK c k = k (z_ce g c) := by
  rcases c with a | rs | ⟨ci, fs⟩
  · rfl
  · simp only [z_ceK, z_rsK_eq hg, z_ce]
  · simp only [z_ceK, z_vsK_eq hg, z_ce]
theorem z_appK_eq : ∀ (σ τ : List AE) (k : List AE → Prop), z_appK σ τ k = k (σ ++ τ) := by
  intro σ
  induction σ with
  | nil => intro τ k; rfl
  | cons c σ ih => intro τ k; simp only [z_appK, ih, List.cons_append]
theorem z_mapK_eq {gK : Nat → (Nat → Prop) → Prop} {g : Nat → Nat} (hg : ∀ i k, gK i k = k (g i)) : ∀ (σ : List AE) (k : List AE → Prop), z_mapK gK σ k = k (σ.map (z_ce g)) := by
  intro σ
  induction σ with
  | nil => intro k; rfl
  | cons c σ ih => intro k; simp only [z_mapK, z_ceK_eq hg, ih, List.map_cons]
theorem z_wbK_eq {gK : Nat → (Nat → Prop) → Prop} {g : Nat → Nat} (hg : ∀ i k, gK i k = k (g i)) : ∀ (ρ : List Nat) (σ σl : List AE) (k : List AE → Prop), z_wbK gK ρ σ σl k = k (z_wb g ρ σ σl) := by
  intro ρ
  induction ρ with
  | nil => intro σ σl k; simp only [z_wbK, z_mapK_eq hg, z_appK_eq, z_wb]
  | cons r ρ ih =>
    intro σ σl k
    cases σl with
    | nil => rfl
    | cons c σl => simp only [z_wbK, z_ceK_eq hg, z_setK_eq, ih, z_wb]
theorem z_ivK_eq (ρ : List Nat) : ∀ (g : Nat) (k : Nat → Prop), z_ivK ρ g k = k (z_iv ρ g) := by
  intro g k
  unfold z_ivK z_iv
  cases Nat.ble 1000 g with
  | false => simp only; cases z_ix ρ z_nums g <;> rfl
  | true => simp only; cases Nat.ble 10000 g <;> rfl
theorem z_fwK_eq (ρ : List Nat) (N : Nat) : ∀ (i : Nat) (k : Nat → Prop), z_fwK ρ N i k = k (z_fw ρ N i) := by
  intro i k
  unfold z_fwK z_fw
  cases Nat.ble 1000 i with
  | false => simp only; cases z_nth ρ i <;> rfl
  | true =>
    simp only
    cases Nat.ble 10000 i with
    | false => rfl
    | true => simp only; cases Nat.ble N (i - 10000) && Nat.blt (i - 10000) 1000 <;> rfl
theorem z_pushK_eq {gK : Nat → (Nat → Prop) → Prop} {g : Nat → Nat} (hg : ∀ i k, gK i k = k (g i)) (r : Option Value) (st : List Value) (k : List Value → Prop) : z_pushK gK r st k = k (z_push g r st) := by
  cases r with
  | none => rfl
  | some v => simp only [z_pushK, z_cvK_eq hg, z_push]
theorem z_ent_spec : ∀ (n : Nat) (vs : List Value) (k : LC → Prop), z_ent vs n k → ∃ m, k (z_lay vs ++ List.replicate m none) ∧ (z_lay vs).length + m = n := by
  intro n
  induction n using Nat.strongRecOn with
  | ind n ih =>
    intro vs k h
    cases vs with
    | nil =>
      cases n with
      | zero => exact ⟨0, h, rfl⟩
      | succ n =>
        obtain ⟨m, h1, h2⟩ := ih n (Nat.lt_succ_self n) [] _ h
        exact ⟨m + 1, h1, by simp [z_lay] at h2 ⊢; omega⟩
    | cons v vs =>
      cases n with
      | zero => cases v <;> exact h.elim
      | succ n =>
        cases v with
        | int x => obtain ⟨m, h1, h2⟩ := ih n (Nat.lt_succ_self n) vs _ h; exact ⟨m, h1, by simp [z_lay]; omega⟩
        | ref x => obtain ⟨m, h1, h2⟩ := ih n (Nat.lt_succ_self n) vs _ h; exact ⟨m, h1, by simp [z_lay]; omega⟩
        | null => obtain ⟨m, h1, h2⟩ := ih n (Nat.lt_succ_self n) vs _ h; exact ⟨m, h1, by simp [z_lay]; omega⟩
        | long x =>
          cases n with
          | zero => exact h.elim
          | succ n => obtain ⟨m, h1, h2⟩ := ih n (by omega) vs _ h; exact ⟨m, h1, by simp [z_lay]; omega⟩
        | _ => exact h.elim
end
section
section ZS
variable {l : Launch} {j rk MC MS n0 : Nat} {X : Option (Nat × (Nat → Int32))} {Post : Option Value → List AE → Prop} {pc : Nat} {L : LC} {st : List Value} {σ : List AE} {ce sl : Nat}
/-! plain instructions -/
theorem s_ld {i : Nat} {v : Value} {nx : Nat} (hv : L[i]? = some (some v))
    (row : ∀ {p : Program} {e : Env} {s : State} {m : MethodId} {args : Array Value} {below : List Frame} {meth : Method} {c : Code} {H : Heap} {locs : List Loc} {Q : State → Prop} {ls : Array Slot} {rest : List Value} {w : Value}, p.tables.exec = Jvm.exec → c.code = k_co j → ls[i]? = some (.val w) → (∃ ad, w = z_cv ad v) → W p l e (z_rm rk MC MS) s m args below meth c H locs ce sl Q (F0 m nx ls (w :: rest)) → W p l e (z_rm rk MC MS) s m args below meth c H locs ce sl Q (F0 m pc ls rest))
    (k : AW l j rk MC MS n0 X Post nx L (v :: st) σ ce sl) : AW l j rk MC MS n0 X Post pc L st σ ce sl := by
  intro p e s m args below meth c D cy ad0 A C ad ls H locs hag hn hle hlt hl hP hD hS
  exact row C.1 C.2.1 (z_lv_at hl hv) ⟨ad, rfl⟩ (k p e s m args below meth c D cy ad0 A C ad ls H locs hag hn hle hlt hl hP hD hS)
theorem s_iload_n {n : Fin 4} {x : Int32} (hd : decode (k_co j) pc = .ok (.iload_n n, 1)) (hv : L[n.val]? = some (some (.int x))) (k : AW l j rk MC MS n0 X Post (pc + 1) L (.int x :: st) σ ce sl) : AW l j rk MC MS n0 X Post pc L st σ ce sl :=
  s_ld hv (fun hx hb hl hw kk => by obtain ⟨ad, rfl⟩ := hw; exact lv_iload_n hx hb hd rfl hl kk) k
theorem s_lload_n {n : Fin 4} {x : Int64} (hd : decode (k_co j) pc = .ok (.lload_n n, 1)) (hv : L[n.val]? = some (some (.long x))) (k : AW l j rk MC MS n0 X Post (pc + 1) L (.long x :: st) σ ce sl) : AW l j rk MC MS n0 X Post pc L st σ ce sl :=
  s_ld hv (fun hx hb hl hw kk => by obtain ⟨ad, rfl⟩ := hw; exact lv_lload_n hx hb hd rfl hl kk) k
theorem s_aload_n {n : Fin 4} {x : Nat} (hd : decode (k_co j) pc = .ok (.aload_n n, 1)) (hv : L[n.val]? = some (some (.ref x))) (k : AW l j rk MC MS n0 X Post (pc + 1) L (.ref x :: st) σ ce sl) : AW l j rk MC MS n0 X Post pc L st σ ce sl :=
  s_ld hv (fun hx hb hl hw kk => by obtain ⟨ad, rfl⟩ := hw; exact lv_aload_n hx hb hd rfl hl kk) k
theorem s_aload_nN {n : Fin 4} (hd : decode (k_co j) pc = .ok (.aload_n n, 1)) (hv : L[n.val]? = some (some .null)) (k : AW l j rk MC MS n0 X Post (pc + 1) L (.null :: st) σ ce sl) : AW l j rk MC MS n0 X Post pc L st σ ce sl :=
  s_ld hv (fun hx hb hl hw kk => by obtain ⟨ad, rfl⟩ := hw; exact lv_aload_nN hx hb hd rfl hl kk) k
theorem s_iload {n : Nat} {x : Int32} (hd : decode (k_co j) pc = .ok (.iload n, 2)) (hv : L[n]? = some (some (.int x))) (k : AW l j rk MC MS n0 X Post (pc + 2) L (.int x :: st) σ ce sl) : AW l j rk MC MS n0 X Post pc L st σ ce sl :=
  s_ld hv (fun hx hb hl hw kk => by obtain ⟨ad, rfl⟩ := hw; exact lv_iload hx hb hd hl kk) k
theorem s_lload {n : Nat} {x : Int64} (hd : decode (k_co j) pc = .ok (.lload n, 2)) (hv : L[n]? = some (some (.long x))) (k : AW l j rk MC MS n0 X Post (pc + 2) L (.long x :: st) σ ce sl) : AW l j rk MC MS n0 X Post pc L st σ ce sl :=
  s_ld hv (fun hx hb hl hw kk => by obtain ⟨ad, rfl⟩ := hw; exact lv_lload hx hb hd hl kk) k
theorem s_aload {n : Nat} {x : Nat} (hd : decode (k_co j) pc = .ok (.aload n, 2)) (hv : L[n]? = some (some (.ref x))) (k : AW l j rk MC MS n0 X Post (pc + 2) L (.ref x :: st) σ ce sl) : AW l j rk MC MS n0 X Post pc L st σ ce sl :=
  s_ld hv (fun hx hb hl hw kk => by obtain ⟨ad, rfl⟩ := hw; exact lv_aload hx hb hd hl kk) k
/-- a step of the stack alone -/
theorem s_st {st' : List Value} {nx : Nat}
    (row : ∀ {p : Program} {e : Env} {s : State} {m : MethodId} {args : Array Value} {below : List Frame} {meth : Method} {c : Code} {H : Heap} {locs : List Loc} {Q : State → Prop} {ls : Array Slot} (ad : Nat → Nat), p.tables.exec = Jvm.exec → c.code = k_co j → s.vm.findClass (k_cn (k_ci j)) = some m.cls → (∀ w ∈ z_U, w.before args s = true) → W p l e (z_rm rk MC MS) s m args below meth c H locs ce sl Q (F0 m nx ls (st'.map (z_cv ad))) → W p l e (z_rm rk MC MS) s m args below meth c H locs ce sl Q (F0 m pc ls (st.map (z_cv ad))))
    (k : AW l j rk MC MS n0 X Post nx L st' σ ce sl) : AW l j rk MC MS n0 X Post pc L st σ ce sl := by
  intro p e s m args below meth c D cy ad0 A C ad ls H locs hag hn hle hlt hl hP hD hS
  exact row ad C.1 C.2.1 C.2.2.2.2.2.2.1 C.2.2.2.2.2.2.2.1 (k p e s m args below meth c D cy ad0 A C ad ls H locs hag hn hle hlt hl hP hD hS)
theorem s_sto {i : Nat} {v : Value} {nx : Nat} (hi : i < k_nL j) (hc : v.category = 1) (hok : z_okS L i = true)
    (row : ∀ {p : Program} {e : Env} {s : State} {m : MethodId} {args : Array Value} {below : List Frame} {meth : Method} {c : Code} {H : Heap} {locs : List Loc} {Q : State → Prop} {ls : Array Slot} {rest : List Value} (ad : Nat → Nat) (lv : List (Nat × Value)), p.tables.exec = Jvm.exec → c.code = k_co j → lv_has ls (k_nL j) lv →
      (∀ ls', lv_has ls' (k_nL j) ((i, z_cv ad v) :: lv.filter (fun q => !(q.1 == i) && !(q.1 + 1 == i && q.2.category == 2))) → W p l e (z_rm rk MC MS) s m args below meth c H locs ce sl Q (F0 m nx ls' rest)) → W p l e (z_rm rk MC MS) s m args below meth c H locs ce sl Q (F0 m pc ls (z_cv ad v :: rest)))
    (k : AW l j rk MC MS n0 X Post nx (z_set L i (some v)) st σ ce sl) : AW l j rk MC MS n0 X Post pc L (v :: st) σ ce sl := by
  intro p e s m args below meth c D cy ad0 A C ad ls H locs hag hn hle hlt hl hP hD hS
  exact row ad _ C.1 C.2.1 hl (fun ls' hl' => k p e s m args below meth c D cy ad0 A C ad ls' H locs hag hn hle hlt (z_store1 hl hi hc hok ls' hl') hP hD hS)
theorem s_istore_n {n : Fin 4} {x : Int32} (hd : decode (k_co j) pc = .ok (.istore_n n, 1)) (hi : n.val < k_nL j) (hok : z_okS L n.val = true) (k : AW l j rk MC MS n0 X Post (pc + 1) (z_set L n.val (some (.int x))) st σ ce sl) : AW l j rk MC MS n0 X Post pc L (.int x :: st) σ ce sl :=
  s_sto hi rfl hok (fun ad lv hx hb hl kk => lv_istore_n hx hb hd rfl hl hi rfl kk) k
theorem s_istore {n : Nat} {x : Int32} (hd : decode (k_co j) pc = .ok (.istore n, 2)) (hi : n < k_nL j) (hok : z_okS L n = true) (k : AW l j rk MC MS n0 X Post (pc + 2) (z_set L n (some (.int x))) st σ ce sl) : AW l j rk MC MS n0 X Post pc L (.int x :: st) σ ce sl :=
  s_sto hi rfl hok (fun ad lv hx hb hl kk => lv_istore hx hb hd hl hi rfl kk) k
theorem s_astore_n {n : Fin 4} {x : Nat} (hd : decode (k_co j) pc = .ok (.astore_n n, 1)) (hi : n.val < k_nL j) (hok : z_okS L n.val = true) (k : AW l j rk MC MS n0 X Post (pc + 1) (z_set L n.val (some (.ref x))) st σ ce sl) : AW l j rk MC MS n0 X Post pc L (.ref x :: st) σ ce sl :=
  s_sto hi rfl hok (fun ad lv hx hb hl kk => lv_astore_n hx hb hd rfl hl hi rfl kk) k
theorem s_sto2 {i : Nat} {x : Int64} {nx : Nat} (hi : i + 1 < k_nL j) (hok : z_okS L i = true)
    (row : ∀ {p : Program} {e : Env} {s : State} {m : MethodId} {args : Array Value} {below : List Frame} {meth : Method} {c : Code} {H : Heap} {locs : List Loc} {Q : State → Prop} {ls : Array Slot} {rest : List Value} (lv : List (Nat × Value)), p.tables.exec = Jvm.exec → c.code = k_co j → lv_has ls (k_nL j) lv →
      (∀ ls', lv_has ls' (k_nL j) ((i, .long x) :: lv.filter (fun q => !(q.1 == i) && (!(q.1 == i + 1) && !(q.1 + 1 == i && q.2.category == 2)))) → W p l e (z_rm rk MC MS) s m args below meth c H locs ce sl Q (F0 m nx ls' rest)) → W p l e (z_rm rk MC MS) s m args below meth c H locs ce sl Q (F0 m pc ls (.long x :: rest)))
    (k : AW l j rk MC MS n0 X Post nx (z_set (z_set L i (some (.long x))) (i + 1) none) st σ ce sl) : AW l j rk MC MS n0 X Post pc L (.long x :: st) σ ce sl := by
  intro p e s m args below meth c D cy ad0 A C ad ls H locs hag hn hle hlt hl hP hD hS
  exact row _ C.1 C.2.1 hl (fun ls' hl' => k p e s m args below meth c D cy ad0 A C ad ls' H locs hag hn hle hlt (z_store2 (v := .long x) hl hi rfl hok ls' hl') hP hD hS)
theorem s_lstore_n {n : Fin 4} {x : Int64} (hd : decode (k_co j) pc = .ok (.lstore_n n, 1)) (hi : n.val + 1 < k_nL j) (hok : z_okS L n.val = true) (k : AW l j rk MC MS n0 X Post (pc + 1) (z_set (z_set L n.val (some (.long x))) (n.val + 1) none) st σ ce sl) : AW l j rk MC MS n0 X Post pc L (.long x :: st) σ ce sl :=
  s_sto2 hi hok (fun lv hx hb hl kk => lv_lstore_n hx hb hd rfl hl hi rfl kk) k
theorem s_lstore {n : Nat} {x : Int64} (hd : decode (k_co j) pc = .ok (.lstore n, 2)) (hi : n + 1 < k_nL j) (hok : z_okS L n = true) (k : AW l j rk MC MS n0 X Post (pc + 2) (z_set (z_set L n (some (.long x))) (n + 1) none) st σ ce sl) : AW l j rk MC MS n0 X Post pc L (.long x :: st) σ ce sl :=
  s_sto2 hi hok (fun lv hx hb hl kk => lv_lstore hx hb hd hl hi rfl kk) k
theorem s_iinc {n : Nat} {x v : Int32} {z : Int} (hd : decode (k_co j) pc = .ok (.iinc n z, 3)) (hv : L[n]? = some (some (.int x))) (hz : x + Int32.ofInt z = v) (hi : n < k_nL j) (hok : z_okS L n = true) (k : AW l j rk MC MS n0 X Post (pc + 3) (z_set L n (some (.int v))) st σ ce sl) : AW l j rk MC MS n0 X Post pc L st σ ce sl := by
  intro p e s m args below meth c D cy ad0 A C ad ls H locs hag hn hle hlt hl hP hD hS
  obtain ⟨kx, hkx⟩ := List.getElem?_of_mem (z_kn_mem (ad := ad) (k := 0) (q := (n, .int x)).mpr ⟨n, .int x, hv, by simp [z_cv]⟩)
  exact lv_iinc (v := v) C.1 C.2.1 hd hl hkx hz hi rfl (fun ls' hl' => k p e s m args below meth c D cy ad0 A C ad ls' H locs hag hn hle hlt (z_store1 (v := .int v) hl hi rfl hok ls' hl') hP hD hS)
/-! branches -/
theorem s_if {cnd : ClassFile.Cond} {x : Int32} {off : Int} {t : Nat} (hd : decode (k_co j) pc = .ok (.ifCond cnd off, 3)) (ht : (pc : Int) + off = (t : Int)) (k1 : z_cond cnd x 0 → AW l j rk MC MS n0 X Post t L st σ ce sl) (k2 : ¬ z_cond cnd x 0 → AW l j rk MC MS n0 X Post (pc + 3) L st σ ce sl) : AW l j rk MC MS n0 X Post pc L (.int x :: st) σ ce sl := by
  intro p e s m args below meth c D cy ad0 A C ad ls H locs hag hn hle hlt hl hP hD hS
  have g1 := fun h => k1 h p e s m args below meth c D cy ad0 A C ad ls H locs hag hn hle hlt hl hP hD hS
  have g2 := fun h => k2 h p e s m args below meth c D cy ad0 A C ad ls H locs hag hn hle hlt hl hP hD hS
  cases cnd
  · exact lv_if_eq C.1 C.2.1 hd ht g1 g2
  · exact lv_if_ne C.1 C.2.1 hd ht g1 (fun h => g2 (fun hne => hne h))
  · exact lv_if_lt C.1 C.2.1 hd ht g1 g2
  · exact lv_if_ge C.1 C.2.1 hd ht g1 g2
  · exact lv_if_gt C.1 C.2.1 hd ht g1 g2
  · exact lv_if_le C.1 C.2.1 hd ht g1 g2
theorem s_icmp {cnd : ClassFile.Cond} {x y : Int32} {off : Int} {t : Nat} (hd : decode (k_co j) pc = .ok (.if_icmp cnd off, 3)) (ht : (pc : Int) + off = (t : Int)) (k1 : z_cond cnd x y → AW l j rk MC MS n0 X Post t L st σ ce sl) (k2 : ¬ z_cond cnd x y → AW l j rk MC MS n0 X Post (pc + 3) L st σ ce sl) : AW l j rk MC MS n0 X Post pc L (.int y :: .int x :: st) σ ce sl := by
  intro p e s m args below meth c D cy ad0 A C ad ls H locs hag hn hle hlt hl hP hD hS
  have g1 := fun h => k1 h p e s m args below meth c D cy ad0 A C ad ls H locs hag hn hle hlt hl hP hD hS
  have g2 := fun h => k2 h p e s m args below meth c D cy ad0 A C ad ls H locs hag hn hle hlt hl hP hD hS
  cases cnd
  · exact lv_icmp_eq C.1 C.2.1 hd ht g1 g2
  · exact lv_icmp_ne C.1 C.2.1 hd ht g1 (fun h => g2 (fun hne => hne h))
  · exact lv_icmp_lt C.1 C.2.1 hd ht g1 g2
  · exact lv_icmp_ge C.1 C.2.1 hd ht g1 g2
  · exact lv_icmp_gt C.1 C.2.1 hd ht g1 g2
  · exact lv_icmp_le C.1 C.2.1 hd ht g1 g2
theorem s_goto {off : Int} {t : Nat} (hd : decode (k_co j) pc = .ok (.goto off, 3)) (ht : (pc : Int) + off = (t : Int)) (k : AW l j rk MC MS n0 X Post t L st σ ce sl) : AW l j rk MC MS n0 X Post pc L st σ ce sl :=
  s_st (fun ad hx hb _ _ kk => lv_goto hx hb hd ht kk) k
theorem z_i32 {x : Int32} {a : Int} (h1 : -2147483648 ≤ a) (h2 : a ≤ 2147483647) : x = Int32.ofInt a ↔ x.toInt = a := by
  rw [← Int32.toInt_inj, Int32.toInt_ofInt, Int.bmod_eq_of_le (by have : Int32.size = 4294967296 := rfl; omega) (by have : Int32.size = 4294967296 := rfl; omega)]
theorem s_table {d lo hi : Int} {os : Array Int} {len : Nat} {x : Int32} (hd : decode (k_co j) pc = .ok (.tableswitch d lo hi os, len)) (h0 : 0 ≤ (pc : Int) + d) (hh : hi = lo + (os.size : Int) - 1) (hlo : -2147483648 ≤ lo) (hhi : hi ≤ 2147483647) (hos : ∀ o ∈ os.toList, 0 ≤ (pc : Int) + o)
    (k1 : (x.toInt < lo ∨ hi < x.toInt) → AW l j rk MC MS n0 X Post ((pc : Int) + d).toNat L st σ ce sl) (k2 : z_sw (fun t => AW l j rk MC MS n0 X Post t L st σ ce sl) pc x lo os.toList) : AW l j rk MC MS n0 X Post pc L (.int x :: st) σ ce sl := by
  by_cases ho : x.toInt < lo ∨ hi < x.toInt
  · exact s_st (nx := ((pc : Int) + d).toNat) (fun ad hx hb _ _ kk => lv_tableOut hx hb hd ho (by omega) kk) (k1 ho)
  · have hx1 : ¬ x.toInt < lo := fun h => ho (Or.inl h)
    have hx2 : ¬ hi < x.toInt := fun h => ho (Or.inr h)
    have key : ∀ (os : List Int) (lo : Int), -2147483648 ≤ lo → lo + (os.length : Int) - 1 ≤ 2147483647 → ¬ x.toInt < lo → x.toInt ≤ lo + (os.length : Int) - 1 → z_sw (fun t => AW l j rk MC MS n0 X Post t L st σ ce sl) pc x lo os →
        ∃ o, os[(x.toInt - lo).toNat]? = some o ∧ AW l j rk MC MS n0 X Post ((pc : Int) + o).toNat L st σ ce sl := by
      intro os
      induction os with
      | nil => intro lo _ _ h1 h2 _; simp at h2; omega
      | cons o os ih =>
        intro lo a1 a2 h1 h2 hz
        simp only [List.length_cons] at a2 h2
        by_cases e : x.toInt = lo
        · refine ⟨o, by simp [e], hz.1 ((z_i32 a1 (by omega)).mpr e)⟩
        · obtain ⟨o', g1, g2⟩ := ih (lo + 1) (by omega) (by omega) (by omega) (by omega) hz.2
          refine ⟨o', ?_, g2⟩
          rw [show (x.toInt - lo).toNat = (x.toInt - (lo + 1)).toNat + 1 by omega]
          simpa using g1
    have hsz : (os.toList.length : Int) = os.size := by simp
    obtain ⟨o, g1, g2⟩ := key os.toList lo hlo (by omega) hx1 (by omega) k2
    have hz := hos o (List.mem_of_getElem? g1)
    exact s_st (nx := ((pc : Int) + o).toNat) (fun ad hx hb _ _ kk => lv_tableIn (off := o) hx hb hd hx1 hx2 (by simpa using g1) (by omega) kk) g2
theorem s_lookup {d : Int} {ps : Array (Int × Int)} {len : Nat} {x : Int32} (hd : decode (k_co j) pc = .ok (.lookupswitch d ps, len)) (h0 : 0 ≤ (pc : Int) + d) (hp : (ps.toList.zip (ps.toList.drop 1)).all (fun (a, next) => a.1 < next.1) = true) (hos : ∀ o ∈ ps.toList, 0 ≤ (pc : Int) + o.2 ∧ -2147483648 ≤ o.1 ∧ o.1 ≤ 2147483647)
    (k2 : z_lk (fun t => AW l j rk MC MS n0 X Post t L st σ ce sl) pc d x ps.toList) : AW l j rk MC MS n0 X Post pc L (.int x :: st) σ ce sl := by
  have key : ∀ (os : List (Int × Int)), (∀ o ∈ os, 0 ≤ (pc : Int) + o.2 ∧ -2147483648 ≤ o.1 ∧ o.1 ≤ 2147483647) → z_lk (fun t => AW l j rk MC MS n0 X Post t L st σ ce sl) pc d x os → ∃ o, Op.lookupswitch.offset os d x.toInt = o ∧ 0 ≤ (pc : Int) + o ∧ AW l j rk MC MS n0 X Post ((pc : Int) + o).toNat L st σ ce sl := by
    intro os
    induction os with
    | nil => intro _ hz; exact ⟨d, rfl, h0, hz⟩
    | cons q os ih =>
      intro hq hz
      obtain ⟨a, o⟩ := q
      obtain ⟨q1, q2, q3⟩ := hq (a, o) List.mem_cons_self
      by_cases e : x = Int32.ofInt a
      · refine ⟨o, ?_, q1, hz.1 e⟩
        have := (z_i32 q2 q3).mp e
        simp [Op.lookupswitch.offset, this]
      · obtain ⟨o', g1, g2, g3⟩ := ih (fun o h => hq o (List.mem_cons_of_mem _ h)) (hz.2 e)
        refine ⟨o', ?_, g2, g3⟩
        rw [lv_osw (k := Int32.ofInt a) e (by rw [Int32.toInt_ofInt]; exact Int.bmod_eq_of_le (by have : Int32.size = 4294967296 := rfl; simp at q2; omega) (by have : Int32.size = 4294967296 := rfl; simp at q3; omega))]
        exact g1
  obtain ⟨o, g1, g2, g3⟩ := key ps.toList hos k2
  exact s_st (nx := ((pc : Int) + o).toNat) (fun ad hx hb _ _ kk => lv_lookup hx hb hd hp g1 (by omega) kk) g3
end ZS
end
section
/-! words of the tables, good ones -/
theorem z_inU {w : Cond} (h : w ∈ lw_tbl) (g : goodWord w = true) : w ∈ z_U := List.mem_filter.mpr ⟨h, g⟩
theorem z_ix11 {ci : Nat} {r : vw_C} (h : k_cl[ci]? = some r) : ci < 11 := (List.getElem?_eq_some_iff.mp h).1
theorem z_wsU {ci : Nat} {r : vw_C} (h : k_cl[ci]? = some r) : ∀ w ∈ u_ws r.1 r.2.1 r.2.2, w ∈ z_U := by
  have hg : ∀ w ∈ u_ws r.1 r.2.1 r.2.2, goodWord w = true := by
    intro w hw
    obtain ⟨k, -, rfl⟩ := List.mem_map.mp hw
    unfold u_lay
    split <;> rfl
  intro w hw
  refine z_inU ?_ (hg w hw)
  have hlt := z_ix11 h
  match ci, h, hlt with
  | 0, h, _ => cases h; exact k_ws0 w hw
  | 1, h, _ => cases h; exact k_ws1 w hw
  | 2, h, _ => cases h; exact k_ws2 w hw
  | 3, h, _ => cases h; exact k_ws3 w hw
  | 4, h, _ => cases h; exact k_ws4 w hw
  | 5, h, _ => cases h; exact k_ws5 w hw
  | 6, h, _ => cases h; exact k_ws6 w hw
  | 7, h, _ => cases h; exact k_ws7 w hw
  | 8, h, _ => cases h; exact k_ws8 w hw
  | 9, h, _ => cases h; exact k_ws9 w hw
  | 10, h, _ => cases h; exact k_ws10 w hw
  | n + 11, _, hl => omega
theorem z_clok {ci : Nat} {r : vw_C} (h : k_cl[ci]? = some r) : (∀ k, k < r.2.2 → parseFieldDescriptor (r.2.1 k).2.2.1 = some (k_fty ci k)) ∧ (∀ a, a < r.2.2 → ∀ b, b < r.2.2 → a ≠ b → (r.2.1 a).2.1 ≠ (r.2.1 b).2.1) ∧ (∀ k, k < r.2.2 → defaultValue (k_fty ci k) = vp_V (k_new.getD ci []) k) ∧ r.1 = k_cn ci ∧ (ci, r.2.2) ∈ k_LB := by
  have hlt := z_ix11 h
  match ci, h, hlt with
  | 0, h, _ => cases h; exact ⟨k_ty0, k_nm0, k_df0, by decide +kernel, by decide +kernel⟩
  | 1, h, _ => cases h; exact ⟨k_ty1, k_nm1, k_df1, by decide +kernel, by decide +kernel⟩
  | 2, h, _ => cases h; exact ⟨k_ty2, k_nm2, k_df2, by decide +kernel, by decide +kernel⟩
  | 3, h, _ => cases h; exact ⟨k_ty3, k_nm3, k_df3, by decide +kernel, by decide +kernel⟩
  | 4, h, _ => cases h; exact ⟨k_ty4, k_nm4, k_df4, by decide +kernel, by decide +kernel⟩
  | 5, h, _ => cases h; exact ⟨k_ty5, k_nm5, k_df5, by decide +kernel, by decide +kernel⟩
  | 6, h, _ => cases h; exact ⟨k_ty6, k_nm6, k_df6, by decide +kernel, by decide +kernel⟩
  | 7, h, _ => cases h; exact ⟨k_ty7, k_nm7, k_df7, by decide +kernel, by decide +kernel⟩
  | 8, h, _ => cases h; exact ⟨k_ty8, k_nm8, k_df8, by decide +kernel, by decide +kernel⟩
  | 9, h, _ => cases h; exact ⟨k_ty9, k_nm9, k_df9, by decide +kernel, by decide +kernel⟩
  | 10, h, _ => cases h; exact ⟨k_ty10, k_nm10, k_df10, by decide +kernel, by decide +kernel⟩
  | n + 11, _, hl => omega
theorem z_lfN : ∀ q ∈ k_LF, ∀ r, k_cl[q.2.2.1]? = some r → q.2.2.2 < r.2.2 := by
  have h : k_LF.all (fun q => match k_cl[q.2.2.1]? with | some r => decide (q.2.2.2 < r.2.2) | none => true) = true := by decide +kernel
  intro q hq r hr
  have := List.all_eq_true.mp h q hq
  simp only [hr] at this
  exact of_decide_eq_true this
theorem z_newN : ∀ ci r, k_cl[ci]? = some r → (k_new.getD ci []).length = r.2.2 := by
  have h : (List.range 11).all (fun ci => match k_cl[ci]? with | some r => decide ((k_new.getD ci []).length = r.2.2) | none => true) = true := by decide +kernel
  intro ci r hr
  have := List.all_eq_true.mp h ci (List.mem_range.mpr (z_ix11 hr))
  simp only [hr] at this
  exact of_decide_eq_true this
section ZH
variable {l : Launch} {j rk MC MS n0 : Nat} {X : Option (Nat × (Nat → Int32))} {Post : Option Value → List AE → Prop} {pc : Nat} {L : LC} {st : List Value} {σ : List AE} {ce sl : Nat}
theorem z_wc0 {cy : Nat → ClassId} {ad : Nat → Nat} {a : Nat} {c : AE} (h : σ[a]? = some c) : (z_wc cy ad 0 σ)[a]? = some (ad a, z_con cy ad c) := by
  rw [z_wc_at, h]; simp
theorem s_getf {x t u a : Nat} {fs : List Value} {v : Value} (hd : decode (k_co j) pc = .ok (.getfield x, 3)) (hq : (k_ci j, x, u, t) ∈ k_LF) (hc : σ[a]? = some (.inr (.inr (u, fs)))) (hv : fs[t]? = some v)
    (k : AW l j rk MC MS n0 X Post (pc + 3) L (v :: st) σ ce sl) : AW l j rk MC MS n0 X Post pc L (.ref a :: st) σ ce sl := by
  intro p e s m args below meth c D cy ad0 A C ad ls H locs hag hn hle hlt hl hP hD hS
  have g := k p e s m args below meth c D cy ad0 A C ad ls H locs hag hn hle hlt hl hP hD hS
  obtain ⟨hx, hb, hml, hr, hlo, hin, hown, hts, hK, hE, hA⟩ := C
  have he := z_wc0 (cy := cy) (ad := ad) hc
  obtain ⟨r, hr1, -⟩ := hP a _ he
  have hlk := hts _ (z_inU (k_lf _ hq) rfl)
  simp only [k_cLF, k_ff, hr1] at hlk
  exact va_get (D := D) (ci := u) (C := r.1) (T := r.2.1) (N := r.2.2) (ref := (r.2.1 t).1) (index := x) hx hb hts (z_wsU hr1) hown hK hP a he hr1 t (z_lfN _ hq r hr1) hlk (fun _ h => h) (v := z_cv ad v) (by simp [hv]) hd g
theorem s_putf {x t u a : Nat} {fs : List Value} {v : Value} (hd : decode (k_co j) pc = .ok (.putfield x, 3)) (hq : (k_ci j, x, u, t) ∈ k_LF) (hc : σ[a]? = some (.inr (.inr (u, fs)))) (hlen : t < fs.length)
    (hfin : ∀ r, k_cl[u]? = some r → (r.2.1 t).2.2.2 = true → k_ki j = 2 ∧ (r.2.1 t).1 = k_cn (k_ci j)) (hn1 : ∀ ad, narrow (k_fty u t) (z_cv ad v) = z_cv ad v) (hf1 : ∀ ad, fits (k_fty u t) (z_cv ad v) = true)
    (k : AW l j rk MC MS n0 X Post (pc + 3) L st (σ.set a (.inr (.inr (u, fs.set t v)))) ce sl) : AW l j rk MC MS n0 X Post pc L (v :: .ref a :: st) σ ce sl := by
  intro p e s m args below meth c D cy ad0 A C ad ls H locs hag hn hle hlt hl hP hD hS
  have g := fun H1 locs1 => k p e s m args below meth c D cy ad0 A C ad ls H1 locs1 hag (by simpa using hn) (by simpa using hle) (by simpa using hlt) hl
  obtain ⟨hx, hb, hml, hr, hlo, hin, hown, hts, hK, hE, hA⟩ := C
  have he := z_wc0 (cy := cy) (ad := ad) hc
  obtain ⟨r, hr1, -⟩ := hP a _ he
  have hlk := hts _ (z_inU (k_lf _ hq) rfl)
  simp only [k_cLF, k_ff, hr1] at hlk
  obtain ⟨c1, c2, -, -, -⟩ := z_clok hr1
  have hN := z_lfN _ hq r hr1
  have hset : (z_wc cy ad 0 σ).set a (ad a, .inr (u, (fs.map (z_cv ad)).set t (z_cv ad v))) = z_wc cy ad 0 (σ.set a (.inr (.inr (u, fs.set t v)))) := by
    rw [z_wc_set]
    simp [z_con, List.map_set]
  cases hfn : (r.2.1 t).2.2.2 with
  | false =>
    refine va_put (D := D) (ci := u) (C := r.1) (T := r.2.1) (N := r.2.2) (ref := (r.2.1 t).1) (index := x) hx hb hts (z_wsU hr1) (k_fty u) c1 c2 hown hK hP hD hS a he hr1 t hN hlk (fun _ h => h) hfn (c1 t hN) (hn1 ad) (hf1 ad) (by simpa using hlen) hd (fun H1 locs1 a1 a2 a3 => ?_)
    rw [hset] at a1 a2
    exact g H1 locs1 a1 a2 a3
  | true =>
    obtain ⟨f1, f2⟩ := hfin r hr1 hfn
    refine va_putF (D := D) (ci := u) (C := r.1) (T := r.2.1) (N := r.2.2) (ref := (r.2.1 t).1) (index := x) hx hb hts (z_wsU hr1) (k_fty u) c1 c2 hown hK hP hD hS a he hr1 t hN hlk (fun _ h => h) hfn (hin f1) f2 (c1 t hN) (hn1 ad) (hf1 ad) (by simpa using hlen) hd (fun H1 locs1 a1 a2 a3 => ?_)
    rw [hset] at a1 a2
    exact g H1 locs1 a1 a2 a3
theorem s_iald {a n : Nat} {f : Nat → Int32} {i : Int32} (hd : decode (k_co j) pc = .ok (.iaload, 1)) (hc : σ[a]? = some (.inl (0, n, f))) (hi : vp_in i n) (k : AW l j rk MC MS n0 X Post (pc + 1) L (.int (f i.toNatClampNeg) :: st) σ ce sl) : AW l j rk MC MS n0 X Post pc L (.int i :: .ref a :: st) σ ce sl := by
  intro p e s m args below meth c D cy ad0 A C ad ls H locs hag hn hle hlt hl hP hD hS
  have g := k p e s m args below meth c D cy ad0 A C ad ls H locs hag hn hle hlt hl hP hD hS
  obtain ⟨hx, hb, hml, hr, hlo, hin, hown, hts, hK, hE, hA⟩ := C
  exact va_iald hx hb hK hP a 0 (z_wc0 hc) rfl hi hd g
theorem s_bald {a n : Nat} {f : Nat → Int32} {i : Int32} {kd : Nat} (hd : decode (k_co j) pc = .ok (.baload, 1)) (hkd : kd = 1 ∨ kd = 2) (hc : σ[a]? = some (.inl (kd, n, f))) (hi : vp_in i n) (k : AW l j rk MC MS n0 X Post (pc + 1) L (.int (f i.toNatClampNeg) :: st) σ ce sl) : AW l j rk MC MS n0 X Post pc L (.int i :: .ref a :: st) σ ce sl := by
  intro p e s m args below meth c D cy ad0 A C ad ls H locs hag hn hle hlt hl hP hD hS
  have g := k p e s m args below meth c D cy ad0 A C ad ls H locs hag hn hle hlt hl hP hD hS
  obtain ⟨hx, hb, hml, hr, hlo, hin, hown, hts, hK, hE, hA⟩ := C
  rcases hkd with rfl | rfl
  · exact va_bald hx hb hK hP a 1 (z_wc0 hc) rfl hi hd g
  · exact va_zald hx hb hK hP a 2 (z_wc0 hc) rfl hi hd g
theorem s_iast {a n : Nat} {f : Nat → Int32} {i x : Int32} (hd : decode (k_co j) pc = .ok (.iastore, 1)) (hc : σ[a]? = some (.inl (0, n, f))) (hi : vp_in i n) (k : AW l j rk MC MS n0 X Post (pc + 1) L st (σ.set a (.inl (0, n, upd f i.toNatClampNeg x))) ce sl) : AW l j rk MC MS n0 X Post pc L (.int x :: .int i :: .ref a :: st) σ ce sl := by
  intro p e s m args below meth c D cy ad0 A C ad ls H locs hag hn hle hlt hl hP hD hS
  have g := fun H1 locs1 => k p e s m args below meth c D cy ad0 A C ad ls H1 locs1 hag (by simpa using hn) (by simpa using hle) (by simpa using hlt) hl
  rw [z_wc_set] at g
  simp only [Nat.zero_add] at g
  obtain ⟨hx, hb, hml, hr, hlo, hin, hown, hts, hK, hE, hA⟩ := C
  exact va_iast hx hb hK hP hD hS a 0 (z_wc0 hc) rfl hi hd g
theorem s_bast {a n : Nat} {f : Nat → Int32} {i x : Int32} (hd : decode (k_co j) pc = .ok (.bastore, 1)) (hc : σ[a]? = some (.inl (1, n, f))) (hi : vp_in i n) (k : AW l j rk MC MS n0 X Post (pc + 1) L st (σ.set a (.inl (1, n, upd f i.toNatClampNeg (vp_nar .byte x)))) ce sl) : AW l j rk MC MS n0 X Post pc L (.int x :: .int i :: .ref a :: st) σ ce sl := by
  intro p e s m args below meth c D cy ad0 A C ad ls H locs hag hn hle hlt hl hP hD hS
  have g := fun H1 locs1 => k p e s m args below meth c D cy ad0 A C ad ls H1 locs1 hag (by simpa using hn) (by simpa using hle) (by simpa using hlt) hl
  rw [z_wc_set] at g
  simp only [Nat.zero_add] at g
  obtain ⟨hx, hb, hml, hr, hlo, hin, hown, hts, hK, hE, hA⟩ := C
  exact va_bast hx hb hK hP hD hS a 1 (z_wc0 hc) rfl hi hd g
theorem s_zast {a n : Nat} {f : Nat → Int32} {i x : Int32} (hd : decode (k_co j) pc = .ok (.bastore, 1)) (hc : σ[a]? = some (.inl (2, n, f))) (hi : vp_in i n) (k : AW l j rk MC MS n0 X Post (pc + 1) L st (σ.set a (.inl (2, n, upd f i.toNatClampNeg (vp_nar .boolean x)))) ce sl) : AW l j rk MC MS n0 X Post pc L (.int x :: .int i :: .ref a :: st) σ ce sl := by
  intro p e s m args below meth c D cy ad0 A C ad ls H locs hag hn hle hlt hl hP hD hS
  have g := fun H1 locs1 => k p e s m args below meth c D cy ad0 A C ad ls H1 locs1 hag (by simpa using hn) (by simpa using hle) (by simpa using hlt) hl
  rw [z_wc_set] at g
  simp only [Nat.zero_add] at g
  obtain ⟨hx, hb, hml, hr, hlo, hin, hown, hts, hK, hE, hA⟩ := C
  exact va_zast hx hb hK hP hD hS a 2 (z_wc0 hc) rfl hi hd g
theorem s_aald {a g : Nat} {rs : List (Option Nat)} {i : Int32} (hd : decode (k_co j) pc = .ok (.aaload, 1)) (hc : σ[a]? = some (.inr (.inl rs))) (hi : vp_in i rs.length) (hg : rs[i.toNatClampNeg]? = some (some g)) (k : AW l j rk MC MS n0 X Post (pc + 1) L (.ref g :: st) σ ce sl) : AW l j rk MC MS n0 X Post pc L (.int i :: .ref a :: st) σ ce sl := by
  intro p e s m args below meth c D cy ad0 A C ad ls H locs hag hn hle hlt hl hP hD hS
  have kk := k p e s m args below meth c D cy ad0 A C ad ls H locs hag hn hle hlt hl hP hD hS
  obtain ⟨hx, hb, hml, hr, hlo, hin, hown, hts, hK, hE, hA⟩ := C
  refine va_aldq hx hb hK hP a 3 (z_wc0 hc) rfl hi hd ?_
  simp only [List.getD_eq_getElem?_getD, hg, Option.getD_some, Option.map_some]
  exact kk
theorem s_aast {a g ci : Nat} {rs : List (Option Nat)} {fs : List Value} {i : Int32} (hd : decode (k_co j) pc = .ok (.aastore, 1)) (hc : σ[a]? = some (.inr (.inl rs))) (hg : σ[g]? = some (.inr (.inr (ci, fs)))) (hci : ci = 6) (hi : vp_in i rs.length) (k : AW l j rk MC MS n0 X Post (pc + 1) L st (σ.set a (.inr (.inl (rs.set i.toNatClampNeg (some g))))) ce sl) : AW l j rk MC MS n0 X Post pc L (.ref g :: .int i :: .ref a :: st) σ ce sl := by
  intro p e s m args below meth c D cy ad0 A C ad ls H locs hag hn hle hlt hl hP hD hS
  have kk := fun H1 locs1 => k p e s m args below meth c D cy ad0 A C ad ls H1 locs1 hag (by simpa using hn) (by simpa using hle) (by simpa using hlt) hl
  obtain ⟨hx, hb, hml, hr, hlo, hin, hown, hts, hK, hE, hA⟩ := C
  subst hci
  have hlt2 : i.toNatClampNeg < rs.length := Nat.not_le.mp fun q => hi (Or.inr q)
  have hset : (z_wc cy ad 0 σ).set a (ad a, .inl (cy 3, rs.length, .inr (.inr (.inr (.inr (va_up (fun i => (rs.getD i none).map ad) i.toNatClampNeg (some (ad g)))))))) = z_wc cy ad 0 (σ.set a (.inr (.inl (rs.set i.toNatClampNeg (some g))))) := by
    rw [z_wc_set]
    simp only [z_con, List.length_set, Nat.zero_add]
    congr 9
    funext q
    simp only [va_up, List.getD_eq_getElem?_getD, List.getElem?_set]
    by_cases e : q = i.toNatClampNeg
    · subst e; simp [hlt2]
    · simp [e, Ne.symm e]
  refine va_astq hx hb hK hP hD hS a 3 g 6 (r := ("ApprovalRoutes$State", k_T6, 3)) (z_wc0 hc) rfl (z_wc0 hg) rfl hi hd (fun H1 locs1 a1 a2 a3 => ?_)
  rw [hset] at a1 a2
  exact kk H1 locs1 a1 a2 a3
/-! static arrays, texts, the script -/
theorem s_sald {i : Nat} {xs : List Nat} {x : Int32} (hd : decode (k_co j) pc = .ok (.iaload, 1)) (hi : k_SA[i]? = some xs) (hx1 : vp_in x xs.length) (k : AW l j rk MC MS n0 X Post (pc + 1) L (.int (nI (xs.getD x.toNatClampNeg 0)) :: st) σ ce sl) : AW l j rk MC MS n0 X Post pc L (.int x :: .ref (3000 + i) :: st) σ ce sl := by
  intro p e s m args below meth c D cy ad0 A C ad ls H locs hag hn hle hlt hl hP hD hS
  have g := k p e s m args below meth c D cy ad0 A C ad ls H locs hag hn hle hlt hl hP hD hS
  obtain ⟨hx, hb, hml, hr, hlo, hin, hown, hts, hK, hE, hA⟩ := C
  have hT := (hE.1 i xs hi).2
  rw [← hag (3000 + i) (Or.inr (by omega))] at hT
  exact va_ti hx hb hT hS hx1 rfl hd g
theorem s_tald {i : Nat} {xs : List Nat} {x : Int32} (hd : decode (k_co j) pc = .ok (.baload, 1)) (hi : k_str[i]? = some xs) (hx1 : vp_in x xs.length) (k : AW l j rk MC MS n0 X Post (pc + 1) L (.int (nI (xs.getD x.toNatClampNeg 0)) :: st) σ ce sl) : AW l j rk MC MS n0 X Post pc L (.int x :: .ref (5000 + i) :: st) σ ce sl := by
  intro p e s m args below meth c D cy ad0 A C ad ls H locs hag hn hle hlt hl hP hD hS
  have g := k p e s m args below meth c D cy ad0 A C ad ls H locs hag hn hle hlt hl hP hD hS
  obtain ⟨hx, hb, hml, hr, hlo, hin, hown, hts, hK, hE, hA⟩ := C
  have hT := (hE.2.2.2.1 i xs hi).2.2.2
  rw [← hag (5000 + i) (Or.inr (by omega))] at hT
  exact va_tb hx hb hT hS hx1 rfl hd g
theorem s_tlen {i : Nat} {xs : List Nat} (hd : decode (k_co j) pc = .ok (.arraylength, 1)) (hi : k_str[i]? = some xs) (k : AW l j rk MC MS n0 X Post (pc + 1) L (.int (nI xs.length) :: st) σ ce sl) : AW l j rk MC MS n0 X Post pc L (.ref (5000 + i) :: st) σ ce sl := by
  intro p e s m args below meth c D cy ad0 A C ad ls H locs hag hn hle hlt hl hP hD hS
  have g := k p e s m args below meth c D cy ad0 A C ad ls H locs hag hn hle hlt hl hP hD hS
  obtain ⟨hx, hb, hml, hr, hlo, hin, hown, hts, hK, hE, hA⟩ := C
  have hT := (hE.2.2.2.1 i xs hi).2.2.2
  rw [← hag (5000 + i) (Or.inr (by omega))] at hT
  exact va_tlen hx hb hT hS rfl hd g
theorem s_scr {q : Nat × (Nat → Int32)} {x : Int32} (hd : decode (k_co j) pc = .ok (.iaload, 1)) (hX : X = some q) (hx1 : vp_in x q.1) (k : AW l j rk MC MS n0 X Post (pc + 1) L (.int (q.2 x.toNatClampNeg) :: st) σ ce sl) : AW l j rk MC MS n0 X Post pc L (.int x :: .ref 4000 :: st) σ ce sl := by
  intro p e s m args below meth c D cy ad0 A C ad ls H locs hag hn hle hlt hl hP hD hS
  have g := k p e s m args below meth c D cy ad0 A C ad ls H locs hag hn hle hlt hl hP hD hS
  obtain ⟨hx, hb, hml, hr, hlo, hin, hown, hts, hK, hE, hA⟩ := C
  obtain ⟨g1, g2, g3⟩ := hE.2.2.2.2.2.2.2.2 q hX
  rw [← hag 4000 (Or.inr (by omega))] at g1 g2 g3
  exact va_sld hx hb g1 g2 g3 hS hx1 hd g
theorem s_slen {q : Nat × (Nat → Int32)} (hd : decode (k_co j) pc = .ok (.arraylength, 1)) (hX : X = some q) (k : AW l j rk MC MS n0 X Post (pc + 1) L (.int (nI q.1) :: st) σ ce sl) : AW l j rk MC MS n0 X Post pc L (.ref 4000 :: st) σ ce sl := by
  intro p e s m args below meth c D cy ad0 A C ad ls H locs hag hn hle hlt hl hP hD hS
  have g := k p e s m args below meth c D cy ad0 A C ad ls H locs hag hn hle hlt hl hP hD hS
  obtain ⟨hx, hb, hml, hr, hlo, hin, hown, hts, hK, hE, hA⟩ := C
  obtain ⟨g1, g2, g3⟩ := hE.2.2.2.2.2.2.2.2 q hX
  rw [← hag 4000 (Or.inr (by omega))] at g1 g2 g3
  exact va_slen hx hb g1 g2 g3 hS hd g
theorem s_sgetf {x t i : Nat} {xs : List Nat} (hd : decode (k_co j) pc = .ok (.getfield x, 3)) (hq : (k_ci j, x, 12, t) ∈ k_LF) (hi : k_str[i]? = some xs) {v : Value} (hv : (t = 0 ∧ v = .ref (5000 + i)) ∨ (t = 1 ∧ v = .int 0)) (k : AW l j rk MC MS n0 X Post (pc + 3) L (v :: st) σ ce sl) : AW l j rk MC MS n0 X Post pc L (.ref (2000 + i) :: st) σ ce sl := by
  intro p e s m args below meth c D cy ad0 A C ad ls H locs hag hn hle hlt hl hP hD hS
  have g := k p e s m args below meth c D cy ad0 A C ad ls H locs hag hn hle hlt hl hP hD hS
  obtain ⟨hx, hb, hml, hr, hlo, hin, hown, hts, hK, hE, hA⟩ := C
  have hlk := hts _ (z_inU (k_lf _ hq) rfl)
  obtain ⟨-, h1, h2, -⟩ := hE.2.2.2.1 i xs hi
  rw [← hag (2000 + i) (Or.inr (by omega))] at h1 h2
  rw [← hag (5000 + i) (Or.inr (by omega))] at h2
  rcases hv with ⟨rfl, rfl⟩ | ⟨rfl, rfl⟩
  · exact vk_getf hx hb h2 hS hown hlk (fun _ h => h) hd g
  · exact vk_getf hx hb h1 hS hown hlk (fun _ h => h) hd g
theorem s_gets {x t : Nat} (hd : decode (k_co j) pc = .ok (.getstatic x, 3)) (hq : (k_ci j, x, t) ∈ k_LS ∨ (k_ci j, x, t) ∈ k_LSN) {xs : List Nat} (hi : k_SA[t]? = some xs) (k : AW l j rk MC MS n0 X Post (pc + 3) L (.ref (3000 + t) :: st) σ ce sl) : AW l j rk MC MS n0 X Post pc L st σ ce sl := by
  intro p e s m args below meth c D cy ad0 A C ad ls H locs hag hn hle hlt hl hP hD hS
  have g := k p e s m args below meth c D cy ad0 A C ad ls H locs hag hn hle hlt hl hP hD hS
  obtain ⟨hx, hb, hml, hr, hlo, hin, hown, hts, hK, hE, hA⟩ := C
  have hZ := (hE.1 t xs hi).1
  rw [← hag (3000 + t) (Or.inr (by omega))] at hZ
  rcases hq with hq | hq
  · exact va_gets hx hb hZ hS hown (hts _ (z_inU (k_ls _ hq) rfl)) (fun _ h => h) hd g
  · have hw : (Jvm.Cond.fieldLinkNest (k_cn (k_ci j)) x (k_sg t).1 (k_sg t).2.1 (k_sg t).2.2 "ApprovalRoutes").before args s = true := va_Nw.use (w := .fieldLinkNest (k_cn (k_ci j)) x (k_sg t).1 (k_sg t).2.1 (k_sg t).2.2 "ApprovalRoutes") rfl (hE.2.2.2.2.2.2.1 (k_ci j, x, t) hq)
    exact va_getsN (host := "ApprovalRoutes") hx hb hZ hS hown hw (fun _ h => h) hd g
theorem s_gets6 {x : Nat} (hd : decode (k_co j) pc = .ok (.getstatic x, 3)) (hq : (k_ci j, x, 6) ∈ k_LS) (k : AW l j rk MC MS n0 X Post (pc + 3) L (.int 1 :: st) σ ce sl) : AW l j rk MC MS n0 X Post pc L st σ ce sl := by
  intro p e s m args below meth c D cy ad0 A C ad ls H locs hag hn hle hlt hl hP hD hS
  have g := k p e s m args below meth c D cy ad0 A C ad ls H locs hag hn hle hlt hl hP hD hS
  obtain ⟨hx, hb, hml, hr, hlo, hin, hown, hts, hK, hE, hA⟩ := C
  exact va_gets hx hb hE.2.1 hS hown (hts _ (z_inU (k_ls _ hq) rfl)) (fun _ h => h) hd g
theorem s_gets7 {x : Nat} (hd : decode (k_co j) pc = .ok (.getstatic x, 3)) (hq : (k_ci j, x, 7) ∈ k_LS) (k1 : AW l j rk MC MS n0 X Post (pc + 3) L (.null :: st) σ ce sl) (k2 : AW l j rk MC MS n0 X Post (pc + 3) L (.ref 6000 :: st) σ ce sl) : AW l j rk MC MS n0 X Post pc L st σ ce sl := by
  intro p e s m args below meth c D cy ad0 A C ad ls H locs hag hn hle hlt hl hP hD hS
  have g1 := k1 p e s m args below meth c D cy ad0 A C ad ls H locs hag hn hle hlt hl hP hD hS
  have g2 := k2 p e s m args below meth c D cy ad0 A C ad ls H locs hag hn hle hlt hl hP hD hS
  obtain ⟨hx, hb, hml, hr, hlo, hin, hown, hts, hK, hE, hA⟩ := C
  rcases hE.2.2.1 with hZ | hZ
  · exact va_gets hx hb hZ hS hown (hts _ (z_inU (k_ls _ hq) rfl)) (fun _ h => h) hd g1
  · rw [← hag 6000 (Or.inr (by omega))] at hZ
    exact va_gets hx hb hZ hS hown (hts _ (z_inU (k_ls _ hq) rfl)) (fun _ h => h) hd g2
theorem s_ldcS {x t : Nat} (hd : decode (k_co j) pc = .ok (.ldc x, 2)) (hq : (k_ci j, x, t) ∈ k_LT) (k : AW l j rk MC MS n0 X Post (pc + 2) L (.ref (2000 + t) :: st) σ ce sl) : AW l j rk MC MS n0 X Post pc L st σ ce sl := by
  intro p e s m args below meth c D cy ad0 A C ad ls H locs hag hn hle hlt hl hP hD hS
  have g := k p e s m args below meth c D cy ad0 A C ad ls H locs hag hn hle hlt hl hP hD hS
  obtain ⟨hx, hb, hml, hr, hlo, hin, hown, hts, hK, hE, hA⟩ := C
  have hZ := hE.2.2.2.2.1 _ hq
  rw [← hag (2000 + t) (Or.inr (by omega))] at hZ
  exact va_ldcS hx hb hown hZ hd g
theorem s_ldcSW {x t : Nat} (hd : decode (k_co j) pc = .ok (.ldc_w x, 3)) (hq : (k_ci j, x, t) ∈ k_LT) (k : AW l j rk MC MS n0 X Post (pc + 3) L (.ref (2000 + t) :: st) σ ce sl) : AW l j rk MC MS n0 X Post pc L st σ ce sl := by
  intro p e s m args below meth c D cy ad0 A C ad ls H locs hag hn hle hlt hl hP hD hS
  have g := k p e s m args below meth c D cy ad0 A C ad ls H locs hag hn hle hlt hl hP hD hS
  obtain ⟨hx, hb, hml, hr, hlo, hin, hown, hts, hK, hE, hA⟩ := C
  have hZ := hE.2.2.2.2.1 _ hq
  rw [← hag (2000 + t) (Or.inr (by omega))] at hZ
  intro T hT Y
  obtain ⟨t1, a1, b1⟩ := g T hT Y
  exact ⟨t1, Y.ldcStringW hx hown hZ.1 hZ.2 (g := F0 m pc ls (st.map (z_cv ad))) rfl (by rw [hb]; exact hd) t1 a1, b1⟩
/-! Math, arraycopy, Object's constructor -/
theorem z_cs_eq (ad : Nat → Nat) (vs : List Value) : ((vs.map (z_cv ad)).map fun v => v.category).sum = z_cs vs := by
  induction vs with
  | nil => rfl
  | cons v vs ih => simp only [List.map_cons, List.sum_cons, z_cs, ih, z_cv_cat]
theorem s_max {x : Nat} {a b : Int32} (hd : decode (k_co j) pc = .ok (.invokestatic x, 3)) (hq : (k_ci j, x, 1000) ∈ k_LX) (hz : z_cs st ≤ 8) (hce : ce ≤ MC) (hsl : sl ≤ MS) (k : AW l j rk MC MS n0 X Post (pc + 3) L (.int (if a < b then b else a) :: st) σ ce sl) : AW l j rk MC MS n0 X Post pc L (.int b :: .int a :: st) σ ce sl := by
  intro p e s m args below meth c D cy ad0 A C ad ls H locs hag hn hle hlt hl hP hD hS
  have g := k p e s m args below meth c D cy ad0 A C ad ls H locs hag hn hle hlt hl hP hD hS
  obtain ⟨hx, hb, hml, hr, hlo, hin, hown, hts, hK, hE, hA⟩ := C
  have hh := z_cs_eq ad st
  exact va_mmax hx hb (hml.trans hl.1.symm) hown (hts _ (z_inU (k_lx _ hq) rfl)) (hts _ (z_inU (k_lxx 0 (by decide)) rfl)) (hts _ (z_inU (k_ln 17 (by decide)) rfl)) (hts _ (z_inU (k_lxx 2 (by decide)) rfl)) (by simp [z_rm]) (by rw [hh]; simp only [z_rm]; omega) (by simpa [z_rm] using hce) (by simpa [z_rm] using hsl) hd g
theorem s_min {x : Nat} {a b : Int32} (hd : decode (k_co j) pc = .ok (.invokestatic x, 3)) (hq : (k_ci j, x, 1001) ∈ k_LX) (hz : z_cs st ≤ 8) (hce : ce ≤ MC) (hsl : sl ≤ MS) (k : AW l j rk MC MS n0 X Post (pc + 3) L (.int (if b < a then b else a) :: st) σ ce sl) : AW l j rk MC MS n0 X Post pc L (.int b :: .int a :: st) σ ce sl := by
  intro p e s m args below meth c D cy ad0 A C ad ls H locs hag hn hle hlt hl hP hD hS
  have g := k p e s m args below meth c D cy ad0 A C ad ls H locs hag hn hle hlt hl hP hD hS
  obtain ⟨hx, hb, hml, hr, hlo, hin, hown, hts, hK, hE, hA⟩ := C
  have hh := z_cs_eq ad st
  exact va_mmin hx hb (hml.trans hl.1.symm) hown (hts _ (z_inU (k_lx _ hq) rfl)) (hts _ (z_inU (k_lxx 1 (by decide)) rfl)) (hts _ (z_inU (k_ln 17 (by decide)) rfl)) (hts _ (z_inU (k_lxx 3 (by decide)) rfl)) (by simp [z_rm]) (by rw [hh]; simp only [z_rm]; omega) (by simpa [z_rm] using hce) (by simpa [z_rm] using hsl) hd g
theorem s_copy {x a b m0 m1 : Nat} {f g : Nat → Int32} {sp dp n : Int32} (hd : decode (k_co j) pc = .ok (.invokestatic x, 3)) (hq : (k_ci j, x, 1002) ∈ k_LX) (hz : z_cs st ≤ 8) (ha : σ[a]? = some (.inl (0, m0, f))) (hb1 : σ[b]? = some (.inl (0, m1, g)))
    (h1 : ¬ sp < 0) (h2 : ¬ dp < 0) (h3 : ¬ n < 0) (h4 : sp.toNatClampNeg + n.toNatClampNeg ≤ m0) (h5 : dp.toNatClampNeg + n.toNatClampNeg ≤ m1) (k : AW l j rk MC MS n0 X Post (pc + 3) L st (σ.set b (.inl (0, m1, va_cpy f g sp.toNatClampNeg dp.toNatClampNeg n.toNatClampNeg))) ce sl) : AW l j rk MC MS n0 X Post pc L (.int n :: .int dp :: .ref b :: .int sp :: .ref a :: st) σ ce sl := by
  intro p e s m args below meth c D cy ad0 A C ad ls H locs hag hn hle hlt hl hP hD hS
  have kk := fun H1 locs1 => k p e s m args below meth c D cy ad0 A C ad ls H1 locs1 hag (by simpa using hn) (by simpa using hle) (by simpa using hlt) hl
  rw [z_wc_set] at kk
  simp only [Nat.zero_add] at kk
  obtain ⟨hx, hb, hml, hr, hlo, hin, hown, hts, hK, hE, hA⟩ := C
  have hh := z_cs_eq ad st
  have hw : nativeFrameWords "java/lang/System" "arraycopy" 5 = 7 := by decide +kernel
  exact va_copyi hx hb (hml.trans hl.1.symm) hown (hts _ (z_inU (k_lx _ hq) rfl)) (hts _ (z_inU (k_lxx 4 (by decide)) rfl)) (hts _ (z_inU (k_lxx 5 (by decide)) rfl)) (hts _ (z_inU (k_lxx 6 (by decide)) rfl)) hK hP hD hS a b 0 0 (z_wc0 ha) (z_wc0 hb1) rfl rfl rfl h1 h2 h3 h4 h5 (fun _ _ => rfl) (by simp [z_rm]) (by rw [hh, hw]; simp only [z_rm]; omega) hd kk
theorem s_objInit {x a : Nat} (hd : decode (k_co j) pc = .ok (.invokespecial x, 3)) (hq : (k_ci j, x, 1003) ∈ k_LX) (hz : z_cs st ≤ 8) (k : AW l j rk MC MS n0 X Post (pc + 3) L st σ ce sl) : AW l j rk MC MS n0 X Post pc L (.ref a :: st) σ ce sl := by
  intro p e s m args below meth c D cy ad0 A C ad ls H locs hag hn hle hlt hl hP hD hS
  have g := k p e s m args below meth c D cy ad0 A C ad ls H locs hag hn hle hlt hl hP hD hS
  obtain ⟨hx, hb, hml, hr, hlo, hin, hown, hts, hK, hE, hA⟩ := C
  have hh := z_cs_eq ad st
  exact W.objInit hx hb hown (hts _ (z_inU (k_lx _ hq) rfl)) (hts _ (z_inU (k_lxx 7 (by decide)) rfl)) (hts _ (z_inU (k_lxx 8 (by decide)) rfl)) rfl (hl.1.trans hml.symm) (a := ad a) (rest := st.map (z_cv ad)) rfl hd (by simp [z_rm]) (by rw [hh]; show 2 * 0 + _ + _ ≤ _; simp only [z_rm]; omega) g
end ZH
end
section
section ZR
variable {l : Launch} {j rk MC MS n0 : Nat} {X : Option (Nat × (Nat → Int32))} {Post : Option Value → List AE → Prop} {pc : Nat} {L : LC} {st : List Value} {σ : List AE} {ce sl : Nat}
theorem s_vret (hd : decode (k_co j) pc = .ok (.return_, 1)) (hty : k_re j = none) (h1 : ce ≤ MC) (h2 : sl ≤ MS) (h3 : z_okR none σ = true) (hp : Post none σ) : AW l j rk MC MS n0 X Post pc L [] σ ce sl := by
  intro p e s m args below meth c D cy ad0 A C ad ls H locs hag hn hle hlt hl hP hD hS
  obtain ⟨hx, hb, hml, hr, hlo, hin, hown, hts, hK, hE, hA⟩ := C
  refine W.widen (k := MC) (n := MS) h1 h2 ?_
  exact W.vret hx hb (hr.trans hty) (fun t ht hW => ⟨⟨none, σ, ad, hp, h3, hn, Nat.le_trans hle (by omega), hlt, hag, rfl, by rw [ht]; exact hP, hD⟩, hS.F ht⟩) hS.2.2 hd hlo
theorem s_iret {v : Int32} {ty : FieldType} (hd : decode (k_co j) pc = .ok (.ireturn, 1)) (hty : k_re j = some ty) (hnr : narrow ty (.int v) = .int v) (h1 : ce ≤ MC) (h2 : sl ≤ MS) (h3 : z_okR (some (.int v)) σ = true) (hp : Post (some (.int v)) σ) : AW l j rk MC MS n0 X Post pc L [.int v] σ ce sl := by
  intro p e s m args below meth c D cy ad0 A C ad ls H locs hag hn hle hlt hl hP hD hS
  obtain ⟨hx, hb, hml, hr, hlo, hin, hown, hts, hK, hE, hA⟩ := C
  refine W.widen (k := MC) (n := MS) h1 h2 ?_
  exact W.zret hx hb (hr.trans hty) hnr (fun t ht hW => ⟨⟨some (.int v), σ, ad, hp, h3, hn, Nat.le_trans hle (by omega), hlt, hag, rfl, by rw [ht]; exact hP, hD⟩, hS.F ht⟩) hS.2.2 hd hlo
theorem s_lret {v : Int64} (hd : decode (k_co j) pc = .ok (.lreturn, 1)) (hty : k_re j = some .long) (h1 : ce ≤ MC) (h2 : sl ≤ MS) (h3 : z_okR (some (.long v)) σ = true) (hp : Post (some (.long v)) σ) : AW l j rk MC MS n0 X Post pc L [.long v] σ ce sl := by
  intro p e s m args below meth c D cy ad0 A C ad ls H locs hag hn hle hlt hl hP hD hS
  obtain ⟨hx, hb, hml, hr, hlo, hin, hown, hts, hK, hE, hA⟩ := C
  refine W.widen (k := MC) (n := MS) h1 h2 ?_
  exact W.lret hx hb (hr.trans hty) (fun t ht hW => ⟨⟨some (.long v), σ, ad, hp, h3, hn, Nat.le_trans hle (by omega), hlt, hag, rfl, by rw [ht]; exact hP, hD⟩, hS.F ht⟩) hS.2.2 hd hlo
theorem s_aret {v : Nat} {nm : String} (hd : decode (k_co j) pc = .ok (.areturn, 1)) (hty : k_re j = some (.object nm)) (h1 : ce ≤ MC) (h2 : sl ≤ MS) (h3 : z_okR (some (.ref v)) σ = true) (hp : Post (some (.ref v)) σ) : AW l j rk MC MS n0 X Post pc L [.ref v] σ ce sl := by
  intro p e s m args below meth c D cy ad0 A C ad ls H locs hag hn hle hlt hl hP hD hS
  obtain ⟨hx, hb, hml, hr, hlo, hin, hown, hts, hK, hE, hA⟩ := C
  refine W.widen (k := MC) (n := MS) h1 h2 ?_
  exact W.aret hx hb (hr.trans hty) (Or.inl ⟨_, rfl⟩) (Or.inr ⟨_, rfl⟩) (fun t ht hW => ⟨⟨some (.ref v), σ, ad, hp, h3, hn, Nat.le_trans hle (by omega), hlt, hag, rfl, by rw [ht]; exact hP, hD⟩, hS.F ht⟩) hS.2.2 hd hlo
/-! a new cell: its place is the world's length -/
theorem z_ok1_lt {N k : Nat} (h : z_ok1 N k = true) : k < N ∨ 1000 ≤ k := by
  simp only [z_ok1, Bool.or_eq_true, Nat.blt_eq, Nat.ble_eq] at h
  exact h
theorem z_kn_congr {ad ad' : Nat → Nat} {N : Nat} (h : ∀ k, z_ok1 N k = true → ad k = ad' k) : ∀ (L : LC) (k : Nat), L.all (z_okO N) = true → z_kn ad k L = z_kn ad' k L := by
  intro L
  induction L with
  | nil => intro k _; rfl
  | cons o L ih =>
    intro k hk
    simp only [List.all_cons, Bool.and_eq_true] at hk
    cases o with
    | none => exact ih _ hk.2
    | some v => simp only [z_kn]; rw [ih _ hk.2, z_cv_congr h hk.1]
theorem s_alloc {nx ce' sl' : Nat} {cl : AE} {st0 : List Value} (hlen : σ.length ≤ 900) (hce : ce + 1 ≤ ce') (hok : z_okW σ.length L st σ = true) (hcl : ∀ cy (ad ad' : Nat → Nat), z_con cy ad cl = z_con cy ad' cl)
    (row : ∀ {p : Program} {e : Env} {s : State} {m : MethodId} {args : Array Value} {below : List Frame} {meth : Method} {c : Code} {D : va_G} {cy : Nat → ClassId} {ad0 : Nat → Nat} {A : Nat → Prop} (ad : Nat → Nat) {ls : Array Slot} {H : Heap} {locs : List Loc} {Q : State → Prop}, z_Cx l j X p s m args meth c D cy ad0 A → va_P D k_cl (z_wc cy ad 0 σ) H → va_D A (z_wc cy ad 0 σ) → va_S A s.heap H locs →
      (∀ (q : Nat) (H1 : Heap), va_P D k_cl (z_wc cy ad 0 σ ++ [(q, z_con cy ad cl)]) H1 → va_D A (z_wc cy ad 0 σ ++ [(q, z_con cy ad cl)]) → va_S A s.heap H1 locs → W p l e (z_rm rk MC MS) s m args below meth c H1 locs ce' sl' Q (F0 m nx ls (.ref q :: st.map (z_cv ad)))) →
      W p l e (z_rm rk MC MS) s m args below meth c H locs ce sl Q (F0 m pc ls (st0.map (z_cv ad))))
    (k : AW l j rk MC MS n0 X Post nx L (.ref σ.length :: st) (σ ++ [cl]) ce' sl') : AW l j rk MC MS n0 X Post pc L st0 σ ce sl := by
  intro p e s m args below meth c D cy ad0 A C ad ls H locs hag hn hle hlt hl hP hD hS
  refine row ad C hP hD hS (fun q H1 a1 a2 a3 => ?_)
  simp only [z_okW, Bool.and_eq_true] at hok
  obtain ⟨o1, o2, o3⟩ := hok
  have hsame : ∀ x, z_ok1 σ.length x = true → ad x = (fun k => if k = σ.length then q else ad k) x := by
    intro x hx
    have := z_ok1_lt hx
    show _ = if x = σ.length then q else ad x
    rw [if_neg (by omega)]
  have e1 : z_wc cy ad 0 σ ++ [(q, z_con cy ad cl)] = z_wc cy (fun k => if k = σ.length then q else ad k) 0 (σ ++ [cl]) := by
    rw [z_wc_app]
    congr 1
    · refine z_wc_congr (fun i hi => ?_) (fun c hc => z_con_congr hsame (List.all_eq_true.mp o3 c hc))
      show _ = if 0 + i = σ.length then q else ad (0 + i)
      rw [if_neg (by omega)]
    · simp only [z_wc, Nat.zero_add, if_true]
      rw [hcl cy ad]
  have e2 : ((Value.ref σ.length :: st).map (z_cv (fun k => if k = σ.length then q else ad k))) = .ref q :: st.map (z_cv ad) := by
    simp only [List.map_cons, z_cv, if_true]
    congr 1
    exact List.map_congr_left (fun v hv => (z_cv_congr hsame (List.all_eq_true.mp o2 v hv)).symm)
  rw [e1] at a1 a2
  have g := k p e s m args below meth c D cy ad0 A C (fun k => if k = σ.length then q else ad k) ls H1 locs (fun x hx => by
    show (if x = σ.length then q else ad x) = ad0 x
    rw [if_neg (by omega)]
    exact hag x hx) (by simp; omega) (by simp; omega) (by simp; omega) (by rw [← z_kn_congr hsame L 0 o1]; exact hl) a1 a2 a3
  rw [e2] at g
  exact g
theorem z_newfix (u : Nat) (ad : Nat → Nat) : (k_new.getD u []).map (z_cv ad) = k_new.getD u [] := by
  have h : ∀ q ∈ k_new, ∀ v ∈ q, z_cv ad v = v := by
    have h1 : k_new.all (fun q => q.all (fun v => match v with | .int _ => true | .null => true | _ => false)) = true := by decide +kernel
    intro q hq v hv
    have := List.all_eq_true.mp (List.all_eq_true.mp h1 q hq) v hv
    cases v <;> first | rfl | simp at this
  rw [List.getD_eq_getElem?_getD]
  cases hu : k_new[u]? with
  | none => rfl
  | some q =>
    simp only [Option.getD_some]
    exact (List.map_congr_left (h q (List.mem_of_getElem? hu))).trans (List.map_id _)
theorem s_new {x u : Nat} {r : vw_C} (hd : decode (k_co j) pc = .ok (.new x, 3)) (hq : (k_ci j, x, u) ∈ k_LC) (hu : k_cl[u]? = some r) (hce : ce + 1 ≤ MC) (hsl : sl + r.2.2 ≤ MS) (hlen : σ.length ≤ 900) (hok : z_okW σ.length L st σ = true)
    (k : AW l j rk MC MS n0 X Post (pc + 3) L (.ref σ.length :: st) (σ ++ [.inr (.inr (u, k_new.getD u []))]) (ce + 1) (sl + r.2.2)) : AW l j rk MC MS n0 X Post pc L st σ ce sl := by
  refine s_alloc (cl := .inr (.inr (u, k_new.getD u []))) hlen (Nat.le_refl _) hok (fun cy ad ad' => by simp only [z_con, z_newfix]) ?_ k
  intro p e s m args below meth c D cy ad0 A ad ls H locs Q C hP hD hS kk
  obtain ⟨hx, hb, hml, hr, hlo, hin, hown, hts, hK, hE, hA⟩ := C
  obtain ⟨c1, c2, c3, c4, c5⟩ := z_clok hu
  have hlt := z_ix11 hu
  have hcl := hts _ (z_inU (k_lc _ hq) rfl)
  have hin1 := hts _ (z_inU (k_lb _ c5) rfl)
  have hini := hts _ (z_inU (k_ln u (List.mem_range.mpr (by omega))) rfl)
  simp only [k_cLC, k_cB, k_cN, ← c4] at hcl hin1 hini
  simp only [z_con, z_newfix] at kk
  exact va_new (D := D) (ci := u) (C := r.1) (T := r.2.1) (N := r.2.2) (fs := k_new.getD u []) hx hb hts (z_wsU hu) (k_fty u) c1 hown hcl hin1 hini hK hP hD hS hA hu c3 (by simpa [z_rm] using hce) (by simpa [z_rm] using hsl) hd kk
theorem z_RA {U : State} {c1 c2 : ClassId} {ty : FieldType} (h1 : va_RA U c1 ty) (h2 : va_RA U c2 ty) : c1 = c2 := by
  cases ty with
  | object C => obtain ⟨_, _, _, _, _, a⟩ := h1; obtain ⟨_, _, _, _, _, b⟩ := h2; exact Option.some.inj (a.symm.trans b)
  | _ => exact Option.some.inj (Eq.trans (Eq.symm h1) h2)
theorem s_newa {at_ : ArrayType} {kd N : Nat} {ty : FieldType} (hd : decode (k_co j) pc = .ok (.newarray at_, 2)) (hty : newarray.typeOf at_ = ty) (hkd : ∀ cy, (z_tys cy)[kd]? = some (cy kd, ty)) (hw : Jvm.Cond.arrayClass ty ∈ z_U) (hdef : defaultValue ty = .int 0) (hby : componentBytes ty ≤ 8) (hN : N ≤ 100000) (hce : ce + 1 ≤ MC) (hsl : sl + N ≤ MS) (hlen : σ.length ≤ 900) (hok : z_okW σ.length L st σ = true)
    (k : AW l j rk MC MS n0 X Post (pc + 2) L (.ref σ.length :: st) (σ ++ [.inl (kd, N, fun _ => 0)]) (ce + 1) (sl + N)) : AW l j rk MC MS n0 X Post pc L (.int (nI N) :: st) σ ce sl := by
  refine s_alloc (st := st) (cl := .inl (kd, N, fun _ => 0)) hlen (Nat.le_refl (ce + 1)) hok (fun cy ad ad' => rfl) ?_ k
  intro p e s m args below meth c D cy ad0 A ad ls H locs Q C hP hD hS kk
  obtain ⟨hx, hb, hml, hr, hlo, hin, hown, hts, hK, hE, hA⟩ := C
  refine va_newa (atype := at_) (ty := ty) (N' := N) (a0 := (N, .inl (fun _ => 0))) hx hb (by rw [hty]; exact hts _ hw) hty hK hP hD hS hA (fun cA => by rw [hdef]; rfl) (nI_pos (by omega)) (nI_clamp (by omega)) (by
    have := Nat.mul_le_mul hN hby
    omega) (by simpa [z_rm] using hce) (by simpa [z_rm] using hsl) hd (fun q cA H1 b1 b2 b3 b4 => ?_)
  have e : cA = cy kd := by
    have r1 := (b1.2 4 (cA, ty) (by simp [z_tys])).2
    have r2 := (hK.2 kd (cy kd, ty) (hkd cy)).2
    exact z_RA r1 r2
  subst e
  exact kk q H1 b2 b3 b4
theorem s_newq {x N : Nat} (hd : decode (k_co j) pc = .ok (.anewarray x, 3)) (hq : (k_ci j, x, 6) ∈ k_LC) (hN : N ≤ 100000) (hce : ce + 1 ≤ MC) (hsl : sl + N ≤ MS) (hlen : σ.length ≤ 900) (hok : z_okW σ.length L st σ = true)
    (k : AW l j rk MC MS n0 X Post (pc + 3) L (.ref σ.length :: st) (σ ++ [.inr (.inl (List.replicate N none))]) (ce + 1) (sl + N)) : AW l j rk MC MS n0 X Post pc L (.int (nI N) :: st) σ ce sl := by
  have hz : ∀ cy (ad : Nat → Nat), z_con cy ad (.inr (.inl (List.replicate N none))) = .inl (cy 3, N, .inr (.inr (.inr (.inr (fun _ => none))))) := by
    intro cy ad
    simp only [z_con, List.length_replicate]
    congr 7
    funext i
    simp only [List.getD_eq_getElem?_getD, List.getElem?_replicate]
    split <;> rfl
  refine s_alloc (st := st) (cl := .inr (.inl (List.replicate N none))) hlen (Nat.le_refl (ce + 1)) hok (fun cy ad ad' => by rw [hz, hz]) ?_ k
  intro p e s m args below meth c D cy ad0 A ad ls H locs Q C hP hD hS kk
  simp only [hz] at kk
  obtain ⟨hx, hb, hml, hr, hlo, hin, hown, hts, hK, hE, hA⟩ := C
  refine va_newq (C := "ApprovalRoutes$State") (N' := N) hx hb hown (hts _ (z_inU (k_lc _ hq) rfl)) hE.2.2.2.2.2.2.2.1 hK hP hD hS hA (nI_pos (by omega)) (nI_clamp (by omega)) (by omega) (by simpa [z_rm] using hce) (by simpa [z_rm] using hsl) hd (fun q cA H1 b1 b2 b3 b4 => ?_)
  have e : cA = cy 3 := by
    have r1 := (b1.2 4 (cA, .object "ApprovalRoutes$State") (by simp [z_tys])).2
    have r2 := (hK.2 3 (cy 3, .object "ApprovalRoutes$State") rfl).2
    exact z_RA r1 r2
  subst e
  exact kk q H1 b2 b3 b4
end ZR
end
section
/-! calls: renaming between worlds -/
theorem z_ix_spec0 : ∀ (ρ is : List Nat) (g k : Nat), z_ix ρ is g = some k → ∃ n : Nat, is[n]? = some k ∧ ρ[n]? = some g := by
  intro ρ
  induction ρ with
  | nil => intro is g k h; cases is <;> cases h
  | cons r ρ ih =>
    intro is g k h
    cases is with
    | nil => cases h
    | cons i is =>
      simp only [z_ix] at h
      cases hb : Nat.beq r g with
      | true => rw [hb] at h; cases h; exact ⟨0, by simp, by simp [Nat.eq_of_beq_eq_true hb]⟩
      | false =>
        rw [hb] at h
        obtain ⟨n, h1, h2⟩ := ih is g k h
        exact ⟨n + 1, by simpa using h1, by simpa using h2⟩
theorem z_ix_spec {ρ : List Nat} {g k : Nat} (h : z_ix ρ z_nums g = some k) : ρ[k]? = some g := by
  obtain ⟨n, h1, h2⟩ := z_ix_spec0 ρ z_nums g k h
  rw [z_nums_at h1]
  exact h2
theorem z_ble_t {a b : Nat} (h : a ≤ b) : Nat.ble a b = true := Nat.ble_eq.mpr h
theorem z_ble_f {a b : Nat} (h : b < a) : Nat.ble a b = false := by
  cases hb : Nat.ble a b with
  | false => rfl
  | true => have := Nat.ble_eq.mp hb; omega
theorem z_iv_ok {ρ : List Nat} (hl : ρ.length < 1000) (g : Nat) : z_ok1 ρ.length (z_iv ρ g) = true := by
  have hge : ∀ x, 1000 ≤ x → z_ok1 ρ.length x = true := fun x hx => by simp [z_ok1, z_ble_t hx]
  unfold z_iv
  cases h1 : Nat.ble 1000 g with
  | false =>
    simp only
    cases hx : z_ix ρ z_nums g with
    | none => exact hge _ (by show 1000 ≤ 10000 + g; omega)
    | some i =>
      have hn := z_ix_spec hx
      have := (List.getElem?_eq_some_iff.mp hn).1
      simp only [z_ok1, Bool.or_eq_true]
      left
      exact z_ble_t (by show i + 1 ≤ ρ.length; omega)
  | true =>
    have := Nat.ble_eq.mp h1
    simp only
    cases h2 : Nat.ble 10000 g with
    | false => exact hge _ this
    | true => exact hge _ (by show 1000 ≤ 10000 + g; omega)
theorem z_fwiv {ρ ρ' : List Nat} {N g : Nat} (hl : ρ.length < 1000) (hpre : ∀ (i r : Nat), ρ[i]? = some r → ρ'[i]? = some r) (h : N = 1000 ∨ z_ok1 N g = true) : z_fw ρ' N (z_iv ρ g) = g := by
  have hN : g < 1000 → N = 1000 ∨ g < N := by
    intro hg
    rcases h with h | h
    · exact Or.inl h
    · rcases z_ok1_lt h with h | h
      · exact Or.inr h
      · omega
  unfold z_iv
  cases h1 : Nat.ble 1000 g with
  | false =>
    have hg : g < 1000 := by
      rcases Nat.lt_or_ge g 1000 with q | q
      · exact q
      · rw [z_ble_t q] at h1; cases h1
    simp only
    cases hx : z_ix ρ z_nums g with
    | some i =>
      have hn := z_ix_spec hx
      have := (List.getElem?_eq_some_iff.mp hn).1
      simp only [z_fw]
      rw [z_ble_f (by omega : i < 1000)]
      simp only [z_nth_eq, hpre _ _ hn]
    | none =>
      simp only [z_fw]
      rw [z_ble_t (by omega : 1000 ≤ 10000 + g), z_ble_t (by omega : 10000 ≤ 10000 + g)]
      simp only
      rw [show 10000 + g - 10000 = g by omega]
      rcases hN hg with e | e
      · rw [z_ble_f (by omega : g < N)]; rfl
      · rw [z_ble_f e]; rfl
  | true =>
    have hg := Nat.ble_eq.mp h1
    simp only
    cases h2 : Nat.ble 10000 g with
    | false => simp only [z_fw, h1, h2]
    | true =>
      simp only [z_fw]
      rw [z_ble_t (by omega : 1000 ≤ 10000 + g), z_ble_t (by omega : 10000 ≤ 10000 + g)]
      simp only
      rw [show 10000 + g - 10000 = g by omega]
      have hb : Nat.blt g 1000 = false := z_ble_f (by omega)
      rw [hb, Bool.and_false]
theorem z_okr_spec : ∀ {ρ : List Nat} {N : Nat}, z_okr ρ N = true → ρ.Nodup ∧ ∀ r ∈ ρ, r < N := by
  intro ρ
  induction ρ with
  | nil => intro N _; exact ⟨List.nodup_nil, fun _ h => by cases h⟩
  | cons r ρ ih =>
    intro N h
    simp only [z_okr, Bool.and_eq_true, Bool.not_eq_true', Nat.blt_eq] at h
    obtain ⟨h1, h2, h3⟩ := h
    obtain ⟨i1, i2⟩ := ih h3
    refine ⟨List.nodup_cons.mpr ⟨fun hm => ?_, i1⟩, fun x hx => ?_⟩
    · rw [List.elem_eq_true_of_mem hm] at h2; cases h2
    · rcases List.mem_cons.mp hx with rfl | hx
      · exact h1
      · exact i2 x hx
theorem z_rho_ex {σ : List AE} {args : List Value} : ∀ (ps : List (Nat × List Nat)) {k : List Nat → Prop}, z_rho σ args ps k → ∃ ρ, k ρ := by
  intro ps
  induction ps with
  | nil => intro k h; exact ⟨[], h⟩
  | cons q ps ih =>
    intro k h
    simp only [z_rho] at h
    split at h
    · split at h
      · obtain ⟨ρ, h⟩ := ih h; exact ⟨_, h⟩
      · exact h.elim
    · exact h.elim
theorem z_lw_ex {σ : List AE} {ρ0 : List Nat} : ∀ (ρ : List Nat) {k : List AE → Prop}, z_lw σ ρ0 ρ k → ∃ σl, k σl ∧ σl.length = ρ.length ∧ ∀ (i r : Nat), ρ[i]? = some r → ∃ c, σ[r]? = some c ∧ σl[i]? = some (z_ce (z_iv ρ0) c) := by
  intro ρ
  induction ρ with
  | nil => intro k h; exact ⟨[], h, rfl, fun i r h => by simp at h⟩
  | cons r ρ ih =>
    intro k h
    simp only [z_lw] at h
    split at h
    · next c hc =>
      rw [z_ceK_eq (z_ivK_eq ρ0)] at h
      obtain ⟨σl, h1, h2, h3⟩ := ih h
      refine ⟨_, h1, by simp [h2], fun i x hx => ?_⟩
      cases i with
      | zero => simp at hx; subst hx; exact ⟨c, by rw [← z_nth_eq]; exact hc, by simp⟩
      | succ i => simpa using h3 i x (by simpa using hx)
    · exact h.elim
theorem z_wb_spec (fw : Nat → Nat) : ∀ (ρ : List Nat) (σ σl : List AE), ρ.Nodup → (∀ r ∈ ρ, r < σ.length) → ρ.length ≤ σl.length →
    (z_wb fw ρ σ σl).length = σ.length + (σl.length - ρ.length) ∧ (∀ (i r : Nat) (c : AE), ρ[i]? = some r → σl[i]? = some c → (z_wb fw ρ σ σl)[r]? = some (z_ce fw c)) ∧ (∀ k : Nat, k ∉ ρ → k < σ.length → (z_wb fw ρ σ σl)[k]? = σ[k]?) ∧ (∀ (i : Nat) (c : AE), ρ.length ≤ i → σl[i]? = some c → (z_wb fw ρ σ σl)[σ.length + (i - ρ.length)]? = some (z_ce fw c)) := by
  intro ρ
  induction ρ with
  | nil =>
    intro σ σl _ _ _
    refine ⟨by simp [z_wb], fun i r c h => by simp at h, fun k _ hk => by simp only [z_wb]; rw [List.getElem?_append_left hk], fun i c _ h => ?_⟩
    simp only [z_wb, List.length_nil, Nat.sub_zero]
    rw [List.getElem?_append_right (by omega)]
    simp [h]
  | cons r ρ ih =>
    intro σ σl hnd hlt hlen
    cases σl with
    | nil => simp at hlen
    | cons c σl =>
      obtain ⟨hr, hnd⟩ := List.nodup_cons.mp hnd
      have hr1 : r < σ.length := hlt r List.mem_cons_self
      obtain ⟨a1, a2, a3, a4⟩ := ih (z_set σ r (z_ce fw c)) σl hnd (fun x hx => by rw [z_set_eq]; simpa using hlt x (List.mem_cons_of_mem _ hx)) (by simpa using hlen)
      rw [z_set_eq] at a1 a2 a3 a4
      simp only [List.length_set] at a1 a3 a4
      simp only [z_wb, z_set_eq]
      refine ⟨by rw [a1]; simp, fun i x d hi hd => ?_, fun k hk hk2 => ?_, fun i d hi hd => ?_⟩
      · cases i with
        | zero =>
          simp at hi hd
          subst hi; subst hd
          rw [a3 r hr hr1]
          simp [hr1]
        | succ i => exact a2 i x d (by simpa using hi) (by simpa using hd)
      · rw [a3 k (fun h => hk (List.mem_cons_of_mem _ h)) hk2, List.getElem?_set_ne (fun e => hk (by rw [e]; exact List.mem_cons_self))]
      · cases i with
        | zero => simp at hi
        | succ i =>
          have := a4 i d (by simpa using hi) (by simpa using hd)
          simpa using this
theorem z_okC_ce {ρ : List Nat} (hl : ρ.length < 1000) (c : AE) : z_okC ρ.length (z_ce (z_iv ρ) c) = true := by
  rcases c with a | rs | ⟨ci, fs⟩
  · rfl
  · simp only [z_ce, z_okC, List.all_map, List.all_eq_true]
    intro o _
    cases o with
    | none => rfl
    | some g => exact z_iv_ok hl g
  · simp only [z_ce, z_okC, List.all_map, List.all_eq_true]
    intro v _
    cases v <;> first | rfl | exact z_iv_ok hl _
end
section
section ZC
variable {l : Launch} {j rk MC MS n0 : Nat} {X : Option (Nat × (Nat → Int32))} {Post : Option Value → List AE → Prop} {pc : Nat} {L : LC} {st : List Value} {σ : List AE} {ce sl : Nat}
theorem z_call_ex {t : Nat} {as rest : List Value} {K : List Value → List AE → Nat → Nat → Prop} (h : z_call l rk MC MS t L as rest σ ce sl K) :
    ∃ (sp : Sp) (ρ : List Nat) (σl : List AE), z_V l t sp ∧ sp.1 < rk ∧ ce + sp.2.1 ≤ MC ∧ sl + sp.2.2.1 ≤ MS ∧ z_cs rest ≤ 8 ∧ ρ.Nodup ∧ (∀ r ∈ ρ, r < σ.length) ∧ ρ.length < 1000 ∧ z_okA sp.2.1 L as rest σ = true ∧ σl.length = ρ.length ∧ (∀ (i r : Nat), ρ[i]? = some r → ∃ c, σ[r]? = some c ∧ σl[i]? = some (z_ce (z_iv ρ) c)) ∧
      sp.2.2.2.2 (as.map (z_cv (z_iv ρ))) σl (z_kk sp.2.1 sp.2.2.1 (z_N sp.2.1 σ.length) ρ rest σ ce sl K) := by
  obtain ⟨sp, hV, hrk, h⟩ := h
  split at h
  · next hb =>
    simp only [Bool.and_eq_true, Nat.ble_eq] at hb
    obtain ⟨ρ, h⟩ := z_rho_ex _ h
    split at h
    · next hc =>
      simp only [Bool.and_eq_true, Nat.blt_eq] at hc
      obtain ⟨σl, h1, h2, h3⟩ := z_lw_ex _ h
      rw [z_vsK_eq (z_ivK_eq ρ)] at h1
      obtain ⟨o1, o2⟩ := z_okr_spec hc.1
      exact ⟨sp, ρ, σl, hV, hrk, hb.1, hb.2.1, hb.2.2, o1, o2, hc.2.1, hc.2.2, h2, h3, h1⟩
    · exact h.elim
  · exact h.elim
theorem z_push_map {fw ad' adc : Nat → Nat} {r : Option Value} {rest rest' : List Value} (hr : ∀ v, r = some v → z_cv ad' (z_cv fw v) = z_cv adc v) (hrest : rest.map (z_cv ad') = rest') : (z_push fw r rest).map (z_cv ad') = (r.map (z_cv adc)).toList ++ rest' := by
  cases r with
  | none => simpa [z_push] using hrest
  | some v => simp only [z_push, List.map_cons, hr v rfl, hrest]; rfl
theorem z_core {p : Program} {e : Env} {s : State} {m : MethodId} {args : Array Value} {below : List Frame} {meth : Method} {c : Code} {D : va_G} {cy : Nat → ClassId} {ad0 : Nat → Nat} {A : Nat → Prop} (C : z_Cx l j X p s m args meth c D cy ad0 A)
    {ad : Nat → Nat} {ls : Array Slot} {H : Heap} {locs : List Loc} (hag : z_ag n0 ad ad0) (hn : n0 ≤ σ.length) (hle : σ.length ≤ n0 + ce) (hlt : σ.length < 1000) (hl : lv_has ls (k_nL j) (z_kn ad 0 L)) (hP : va_P D k_cl (z_wc cy ad 0 σ) H) (hD : va_D A (z_wc cy ad 0 σ)) (hS : va_S A s.heap H locs)
    {t : Nat} {as rest st0 : List Value} {K : List Value → List AE → Nat → Nat → Prop} (h : z_call l rk MC MS t L as rest σ ce sl K) (hK : ∀ st σ ce sl, K st σ ce sl → AW l j rk MC MS n0 X Post (pc + 3) L st σ ce sl)
    (run : ∀ {rk' mc ms : Nat} {Pc : Array Value → State → Prop} {Qc : Array Value → State → Outcome → State → Prop} {free : Addr → Prop}, Met l (k_y t) (z_ws t) (z_rm rk' mc ms) Pc Qc mc ms free → rk' < rk → ce + mc ≤ MC → sl + ms ≤ MS → z_cs rest ≤ 8 → FrameBlind Pc → (∀ U : State, U.heap = H → s.WarmedH U.vm → Pc (as.map (z_cv ad)).toArray U) →
      va_Run p l e (z_rm rk MC MS) s m args below meth c H locs ce sl mc ms (F0 m pc ls st0) (rest.map (z_cv ad)) (Qc (as.map (z_cv ad)).toArray) free) :
    W p l e (z_rm rk MC MS) s m args below meth c H locs ce sl (MQ below (z_Q D cy ad0 A n0 MC Post) args s MC MS A) (F0 m pc ls st0) := by
  obtain ⟨⟨srk, mc, ms, ps, tr⟩, ρ, σl, hV, hrk, hmc, hms, hcs, hnd, hrlt, hrl, hokA, hll, hlw, htr⟩ := z_call_ex h
  simp only at hV hrk hmc hms hokA htr
  obtain ⟨hx, hb, hml, hr, hlo, hin, hown, hts, hKK, hE, hA⟩ := id C
  -- the bound for places that are free
  obtain ⟨N, eN⟩ : ∃ N, N = z_N mc σ.length := ⟨_, rfl⟩
  rw [← eN] at htr
  have hN : N = 1000 ∨ (N = σ.length ∧ 0 < mc ∧ z_okW σ.length L (as ++ rest) σ = true ∧ σ.length + mc ≤ 900) := by
    cases mc with
    | zero => exact Or.inl eN
    | succ n =>
      simp only [z_okA, Bool.and_eq_true, Nat.ble_eq] at hokA
      exact Or.inr ⟨eN, by omega, hokA.1, hokA.2⟩
  have hN0 : mc = 0 → N = 1000 := by intro e0; subst e0; exact eN
  have hokV : ∀ v ∈ as, ∀ g, v = .ref g → N = 1000 ∨ z_ok1 N g = true := by
    intro v hv g eg
    rcases hN with e1 | ⟨e1, -, o, -⟩
    · exact Or.inl e1
    · right
      simp only [z_okW, Bool.and_eq_true] at o
      have := List.all_eq_true.mp o.2.1 v (List.mem_append_left _ hv)
      rw [eg] at this
      rw [e1]
      exact this
  have hokC : ∀ c ∈ σ, N = 1000 ∨ z_okC N c = true := by
    intro c hc
    rcases hN with e1 | ⟨e1, -, o, -⟩
    · exact Or.inl e1
    · right
      simp only [z_okW, Bool.and_eq_true] at o
      rw [e1]
      exact List.all_eq_true.mp o.2.2 c hc
  have hinv : ∀ g, (N = 1000 ∨ z_ok1 N g = true) → z_fw ρ N (z_iv ρ g) = g := fun g hg => z_fwiv hrl (fun _ _ h => h) hg
  -- the callee's numbering
  obtain ⟨adc, eadc⟩ : ∃ adc : Nat → Nat, adc = fun i => ad (z_fw ρ N i) := ⟨_, rfl⟩
  have hcons : ∀ c ∈ σ, z_con cy adc (z_ce (z_iv ρ) c) = z_con cy ad c := by
    intro c hc
    rw [z_con_ce]
    rcases hokC c hc with e1 | o
    · congr 1
      funext g
      rw [eadc]
      exact congrArg ad (hinv g (Or.inl e1))
    · exact z_con_congr (N := N) (fun g hg => by rw [eadc]; exact congrArg ad (hinv g (Or.inr hg))) o
  have hargs : (as.map (z_cv (z_iv ρ))).map (z_cv adc) = as.map (z_cv ad) := by
    rw [List.map_map]
    refine List.map_congr_left (fun v hv => ?_)
    show z_cv adc (z_cv (z_iv ρ) v) = z_cv ad v
    rw [z_cv_comp]
    cases v with
    | ref g => simp only [z_cv, eadc]; rw [hinv g (hokV _ hv g rfl)]
    | _ => rfl
  have hadc : ∀ (i r : Nat), ρ[i]? = some r → adc i = ad r := by
    intro i r hi
    have hi1 := (List.getElem?_eq_some_iff.mp hi).1
    rw [eadc]
    simp only [z_fw]
    rw [z_ble_f (by omega : i < 1000)]
    simp only [z_nth_eq, hi]
  have hpick : ρ.map (fun i => (z_wc cy ad 0 σ)[i]?) = (z_wc cy adc 0 σl).map some := by
    apply List.ext_getElem?
    intro i
    rw [List.getElem?_map, List.getElem?_map, z_wc_at]
    cases hi : ρ[i]? with
    | none =>
      have : σl[i]? = none := by
        rw [List.getElem?_eq_none_iff] at hi ⊢
        omega
      rw [this]; rfl
    | some r =>
      obtain ⟨c, h1, h2⟩ := hlw i r hi
      rw [h2]
      simp only [Option.map_some, Nat.zero_add]
      rw [z_wc0 h1, hcons c (List.mem_of_getElem? h1), hadc i r hi]
  have hPc : va_P D k_cl (z_wc cy adc 0 σl) H := by
    intro k q hq
    have h1 : (ρ.map (fun i => (z_wc cy ad 0 σ)[i]?))[k]? = some (some q) := by rw [hpick, List.getElem?_map, hq]; rfl
    rw [List.getElem?_map] at h1
    cases hi : ρ[k]? with
    | none => rw [hi] at h1; cases h1
    | some i => rw [hi] at h1; exact hP i q (Option.some.inj h1)
  have hF := va_free (wc := z_wc cy adc 0 σl) hD hS hA ρ hpick
  have hDc : va_D A (z_wc cy adc 0 σl) := by
    have key : ∀ (k : Nat) (q : Nat × va_E), (z_wc cy adc 0 σl)[k]? = some q → ∃ i, ρ[k]? = some i ∧ (z_wc cy ad 0 σ)[i]? = some q := by
      intro k q hk
      have h1 : (ρ.map (fun i => (z_wc cy ad 0 σ)[i]?))[k]? = some (some q) := by rw [hpick, List.getElem?_map, hk]; rfl
      rw [List.getElem?_map] at h1
      cases hi : ρ[k]? with
      | none => rw [hi] at h1; cases h1
      | some i => rw [hi] at h1; exact ⟨i, rfl, Option.some.inj h1⟩
    refine ⟨fun a b x y ha hb hxy => ?_, fun k q hk => ?_⟩
    · obtain ⟨i, h1, h2⟩ := key a x ha
      obtain ⟨i', h3, h4⟩ := key b y hb
      have e := hD.1 i i' x y h2 h4 hxy
      subst e
      obtain ⟨l1, e1⟩ := List.getElem?_eq_some_iff.mp h1
      exact (List.getElem?_inj l1 hnd).mp (h1.trans h3.symm)
    · obtain ⟨i, -, h2⟩ := key k q hk
      exact hD.2 i q h2
  -- its contract
  have hM := hV (as.map (z_cv (z_iv ρ))) σl _ htr D cy adc H.size
  simp only at hM
  rw [hargs] at hM
  have hEc : z_Amb none adc (va_A (z_wc cy adc 0 σl) H.size) s H := by
    have h1 := ((hE.kept hS.1 hS.2.1).forget.narrow hF)
    refine h1.renum (fun k g1 g2 => ?_)
    rw [eadc]
    simp only [z_fw]
    rw [z_ble_t g1, z_ble_f g2]
    exact hag k (Or.inr g1)
  have hrun := run hM hrk hmc hms hcs (fun a U g mk q => by
      obtain ⟨q0, q1, q2, q3, q4, q5, q6⟩ := q
      exact ⟨q0, q1, q2, q3, va_K.moved (u := U) (U := U.calling g mk a) (Vm.Alike.refl U.vm) q4, q5, q6.blind rfl⟩)
    (fun U hU hW => ⟨rfl, by rw [hU], by omega, by rw [hU]; exact hPc, va_K.moved hW.alike hKK, hDc.weaken (fun _ _ _ _ => trivial), by rw [hU]; exact hEc.warm hW⟩)
  intro T hT Y
  obtain ⟨v, st₀, tt, T', L', e0, Y', hL, e1, e2, ⟨⟨r, σl', adc', hpost, hokR, hn1, hn2, hn3, hagc, ho, hP1, hD1⟩, hF1⟩, goes⟩ := hrun T hT Y
  have ev : v = r.map (z_cv adc') := by injection ho
  subst ev
  have hFz : H.size ≤ tt.heap.size := by rw [← e0]; exact hF1.1
  have hFk : ∀ q : Nat, q < H.size → ¬ va_A (z_wc cy adc 0 σl) H.size q → tt.heap[q]? = H[q]? := fun q h1 h2 => by
    have := hF1.2 q (by rw [e0]; exact h1) h2
    rw [e0] at this
    exact this
  have hS' : va_S A s.heap T'.heap (locs ++ L') := by
    rw [e1]
    refine ⟨Nat.le_trans hS.1 hFz, fun q h1 h2 => ?_, fun q hq => ?_⟩
    · rw [hFk q (Nat.lt_of_lt_of_le h1 hS.1) (fun z => h2 (hF q z))]
      exact hS.2.1 q h1 h2
    · rcases List.mem_append.mp hq with g | g
      · exact hS.2.2 q g
      · exact hF _ (hL q g)
  -- a cell of the caller's that isn't the callee's stays
  have hstay : ∀ (k : Nat) (q : Nat × va_E), k ∉ ρ → (z_wc cy ad 0 σ)[k]? = some q → va_at D k_cl q T'.heap := by
    intro k q hk hq
    have hq1 := hP k q hq
    refine hq1.kept ?_
    rw [e1]
    refine hFk q.1 hq1.lt (fun z => ?_)
    rcases z with ⟨k2, ee, hz⟩ | hz
    · have h1 : (ρ.map (fun i => (z_wc cy ad 0 σ)[i]?))[k2]? = some (some (q.1, ee)) := by rw [hpick, List.getElem?_map, hz]; rfl
      rw [List.getElem?_map] at h1
      cases hi : ρ[k2]? with
      | none => rw [hi] at h1; cases h1
      | some i =>
        rw [hi] at h1
        have := hD.1 k i q (q.1, ee) hq (Option.some.inj h1) rfl
        exact hk (by rw [this]; exact List.mem_of_getElem? hi)
    · have := hq1.lt; omega
  simp only [z_okR, Bool.and_eq_true] at hokR
  rw [hll] at hn1 hn2 hagc
  have finish : ∀ {t2 : State} {fr : JFrame}, F0 m (pc + 3) ls ((r.map (z_cv adc')).toList ++ rest.map (z_cv ad)) = fr → (∃ t2, Steps p.tables e below (T'.setTop fr) t2 ∧ MQ below (z_Q D cy ad0 A n0 MC Post) args s MC MS A t2) → ∃ t2, Steps p.tables e below (T.setTop (F0 m pc ls st0)) t2 ∧ MQ below (z_Q D cy ad0 A n0 MC Post) args s MC MS A t2 := by
    intro _ fr hfr hh
    obtain ⟨t2, a1, b1⟩ := hh
    subst hfr
    exact ⟨t2, goes t2 a1, b1⟩
  rcases hpost with ⟨rfl, hk⟩ | hk
  · -- the world is as it was
    simp only [z_kk, z_pushK_eq (z_fwK_eq ρ N)] at hk
    have g := hK _ _ _ _ hk p e s m args below meth c D cy ad0 A C ad ls T'.heap (locs ++ L') hag hn (by omega) hlt hl
    have hPn : va_P D k_cl (z_wc cy ad 0 σ) T'.heap := by
      intro k q hq
      by_cases hkr : k ∈ ρ
      · obtain ⟨i, hi⟩ := List.getElem?_of_mem hkr
        have h1 : (ρ.map (fun i => (z_wc cy ad 0 σ)[i]?))[i]? = some (some q) := by rw [List.getElem?_map, hi]; simp [hq]
        rw [hpick, List.getElem?_map] at h1
        have h2 : (z_wc cy adc' 0 σl')[i]? = some q := by
          have e3 : z_wc cy adc' 0 σl' = z_wc cy adc 0 σl' := by
            refine z_wc_congr (fun x hx => hagc _ (Or.inl (by omega))) (fun c hc => ?_)
            exact z_con_congr (N := σl'.length) (fun x hx => by
              rcases z_ok1_lt hx with g1 | g1
              · exact hagc x (Or.inl (by omega))
              · exact hagc x (Or.inr g1)) (List.all_eq_true.mp hokR.2 c hc)
          rw [e3]
          cases hz : (z_wc cy adc 0 σl')[i]? with
          | none => rw [hz] at h1; cases h1
          | some z => rw [hz] at h1; exact congrArg some (Option.some.inj (Option.some.inj h1))
        rw [e1]
        exact hP1 i q h2
      · exact hstay k q hkr hq
    have g2 := g hPn hD hS'
    refine finish (t2 := T) ?_ (g2 T' rfl Y')
    refine congrArg (F0 m (pc + 3) ls) (Eq.symm ?_)
    refine z_push_map (fun v hv => ?_) rfl
    rw [z_cv_comp]
    subst hv
    have hvv : z_okV σl'.length v = true := hokR.1
    exact z_cv_congr (N := σl'.length) (fun x hx => by
      show ad (z_fw ρ N x) = adc' x
      rcases z_ok1_lt hx with g1 | g1
      · rw [hagc x (Or.inl (by omega)), eadc]
      · rw [hagc x (Or.inr g1), eadc]) hvv
  · obtain ⟨fw, efw⟩ : ∃ fw, fw = z_fw (ρ ++ List.range' σ.length (σl'.length - ρ.length)) N := ⟨_, rfl⟩
    have hk : K (z_push fw r rest) (z_wb fw ρ σ σl') (ce + mc) (sl + ms) := by
      cases mc with
      | zero =>
        have e3 : σl'.length = ρ.length := by omega
        have e4 : fw = z_fw ρ N := by rw [efw, e3, Nat.sub_self]; simp
        simp only [z_kk, z_pushK_eq (z_fwK_eq ρ N), z_wbK_eq (z_fwK_eq ρ N)] at hk
        rw [e4]
        exact hk
      | succ n =>
        simp only [z_kk, z_pushK_eq (z_fwK_eq _ N), z_wbK_eq (z_fwK_eq _ N)] at hk
        rw [efw]
        exact hk
    have hfw1 : ∀ (i r : Nat), ρ[i]? = some r → fw i = r := by
      intro i r hi
      have hi1 := (List.getElem?_eq_some_iff.mp hi).1
      rw [efw]
      simp only [z_fw]
      rw [z_ble_f (by omega : i < 1000)]
      simp only [z_nth_eq]
      rw [List.getElem?_append_left hi1, hi]
    have hfw2 : ∀ i, ρ.length ≤ i → i < σl'.length → fw i = σ.length + (i - ρ.length) := by
      intro i h1 h2
      rw [efw]
      simp only [z_fw]
      rw [z_ble_f (by omega : i < 1000)]
      simp only [z_nth_eq]
      rw [List.getElem?_append_right h1, List.getElem?_range' (by omega)]
      simp
    have hfw3 : ∀ i, 1000 ≤ i → fw i = z_fw ρ N i := by
      intro i h1
      rw [efw]
      simp only [z_fw]
      rw [z_ble_t h1]
    obtain ⟨ads, p1, p2, p3, p4, p5, p6⟩ : ∃ ads : Nat → Nat, (∀ k, (k < σ.length ∨ 1000 ≤ k) → ads k = ad k) ∧ (∀ i, (i < σl'.length ∨ 1000 ≤ i) → ads (fw i) = adc' i) ∧ (∀ c ∈ σ, z_con cy ads c = z_con cy ad c) ∧ z_kn ads 0 L = z_kn ad 0 L ∧ rest.map (z_cv ads) = rest.map (z_cv ad) ∧ σ.length + (σl'.length - ρ.length) < 1000 := by
      by_cases hm : mc = 0
      · have e3 : σl'.length = ρ.length := by omega
        refine ⟨ad, fun _ _ => rfl, fun i hi => ?_, fun _ _ => rfl, rfl, rfl, by omega⟩
        rw [hagc i (by omega), eadc]
        rcases hi with hi | hi
        · obtain ⟨r, hr⟩ : ∃ r, ρ[i]? = some r := ⟨_, List.getElem?_eq_getElem (by omega)⟩
          rw [hfw1 i r hr]
          have := hadc i r hr
          rw [eadc] at this
          exact this.symm
        · rw [hfw3 i hi]
      · rcases hN with e1 | ⟨e1, -, o, o9⟩
        · cases mc with
          | zero => exact absurd rfl hm
          | succ n => simp only [z_N] at eN; omega
        · simp only [z_okW, Bool.and_eq_true] at o
          have q1 : ∀ k, z_ok1 σ.length k = true → (fun k => if k < σ.length ∨ 1000 ≤ k then ad k else adc' (ρ.length + (k - σ.length))) k = ad k := by
            intro k hk
            show (if k < σ.length ∨ 1000 ≤ k then ad k else _) = ad k
            rw [if_pos (z_ok1_lt hk)]
          refine ⟨fun k => if k < σ.length ∨ 1000 ≤ k then ad k else adc' (ρ.length + (k - σ.length)), fun k hk => by show (if k < σ.length ∨ 1000 ≤ k then ad k else _) = ad k; rw [if_pos hk], fun i hi => ?_, fun c hc => z_con_congr q1 (List.all_eq_true.mp o.2.2 c hc), z_kn_congr q1 L 0 o.1, List.map_congr_left (fun v hv => z_cv_congr q1 (List.all_eq_true.mp o.2.1 v (List.mem_append_right _ hv))), by omega⟩
          show (if fw i < σ.length ∨ 1000 ≤ fw i then ad (fw i) else _) = adc' i
          by_cases h1 : i < ρ.length
          · obtain ⟨r, hr⟩ : ∃ r, ρ[i]? = some r := ⟨_, List.getElem?_eq_getElem h1⟩
            rw [hfw1 i r hr, if_pos (Or.inl (hrlt r (List.mem_of_getElem? hr))), hagc i (Or.inl h1)]
            exact (hadc i r hr).symm
          · by_cases h2 : i < σl'.length
            · rw [hfw2 i (by omega) h2, if_neg (by omega)]
              congr 1
              omega
            · have h3 : 1000 ≤ i := by omega
              rw [hfw3 i h3, hagc i (Or.inr h3), eadc]
              refine if_pos ?_
              simp only [z_fw]
              rw [z_ble_t h3]
              simp only
              cases hc : Nat.ble 10000 i with
              | false => exact Or.inr h3
              | true =>
                simp only
                cases hcc : Nat.ble N (i - 10000) && Nat.blt (i - 10000) 1000 with
                | true => simp only; omega
                | false =>
                  simp only
                  by_cases g1 : i - 10000 < σ.length
                  · exact Or.inl g1
                  · by_cases g2 : 1000 ≤ i - 10000
                    · exact Or.inr g2
                    · rw [z_ble_t (by omega : N ≤ i - 10000)] at hcc
                      have : Nat.blt (i - 10000) 1000 = true := z_ble_t (by omega)
                      rw [this] at hcc
                      cases hcc
    obtain ⟨w1, w2, w3, w4⟩ := z_wb_spec fw ρ σ σl' hnd hrlt hn1
    have hconl : ∀ (i : Nat) (c : AE), σl'[i]? = some c → z_con cy ads (z_ce fw c) = z_con cy adc' c := by
      intro i c hc
      rw [z_con_ce]
      exact z_con_congr (N := σl'.length) (fun x hx => p2 x (z_ok1_lt hx)) (List.all_eq_true.mp hokR.2 c (List.mem_of_getElem? hc))
    have hcls : ∀ (k : Nat) (c : AE), (z_wb fw ρ σ σl')[k]? = some c → (∃ (i : Nat) (c' : AE), σl'[i]? = some c' ∧ fw i = k ∧ ads k = adc' i ∧ z_con cy ads c = z_con cy adc' c') ∨ (k ∉ ρ ∧ σ[k]? = some c ∧ ads k = ad k ∧ z_con cy ads c = z_con cy ad c) := by
      intro k c hk
      have hk1 := (List.getElem?_eq_some_iff.mp hk).1
      by_cases h1 : k < σ.length
      · by_cases h2 : k ∈ ρ
        · obtain ⟨i, hi⟩ := List.getElem?_of_mem h2
          have hi1 := (List.getElem?_eq_some_iff.mp hi).1
          obtain ⟨c', hc'⟩ : ∃ c', σl'[i]? = some c' := ⟨_, List.getElem?_eq_getElem (by omega)⟩
          have e3 := w2 i k c' hi hc'
          rw [hk] at e3
          cases e3
          have e4 := hfw1 i k hi
          refine Or.inl ⟨i, c', hc', e4, ?_, hconl i c' hc'⟩
          have := p2 i (Or.inl (by omega))
          rw [e4] at this
          exact this
        · have e3 := w3 k h2 h1
          rw [hk] at e3
          exact Or.inr ⟨h2, e3.symm, p1 k (Or.inl h1), p3 c (List.mem_of_getElem? e3.symm)⟩
      · have hi1 : ρ.length + (k - σ.length) < σl'.length := by omega
        obtain ⟨c', hc'⟩ : ∃ c', σl'[ρ.length + (k - σ.length)]? = some c' := ⟨_, List.getElem?_eq_getElem hi1⟩
        have e3 := w4 _ c' (by omega) hc'
        rw [show σ.length + (ρ.length + (k - σ.length) - ρ.length) = k by omega, hk] at e3
        cases e3
        have e4 := hfw2 _ (by omega) hi1
        rw [show σ.length + (ρ.length + (k - σ.length) - ρ.length) = k by omega] at e4
        refine Or.inl ⟨_, c', hc', e4, ?_, hconl _ c' hc'⟩
        have := p2 _ (Or.inl hi1)
        rw [e4] at this
        exact this
    have hcell : ∀ (k : Nat) (q : Nat × va_E), (z_wc cy ads 0 (z_wb fw ρ σ σl'))[k]? = some q → (∃ i, fw i = k ∧ (z_wc cy adc' 0 σl')[i]? = some q) ∨ (k ∉ ρ ∧ (z_wc cy ad 0 σ)[k]? = some q) := by
      intro k q hq
      rw [z_wc_at] at hq
      cases hk : (z_wb fw ρ σ σl')[k]? with
      | none => rw [hk] at hq; cases hq
      | some c =>
        rw [hk] at hq
        simp only [Option.map_some, Nat.zero_add, Option.some.injEq] at hq
        subst hq
        rcases hcls k c hk with ⟨i, c', g1, g2, g3, g4⟩ | ⟨g1, g2, g3, g4⟩
        · exact Or.inl ⟨i, g2, by rw [z_wc0 g1, g3, g4]⟩
        · exact Or.inr ⟨g1, by rw [z_wc0 g2, g3, g4]⟩
    have hPn : va_P D k_cl (z_wc cy ads 0 (z_wb fw ρ σ σl')) T'.heap := by
      intro k q hq
      rcases hcell k q hq with ⟨i, -, g2⟩ | ⟨g1, g2⟩
      · rw [e1]; exact hP1 i q g2
      · exact hstay k q g1 g2
    have hmix : ∀ (k : Nat) (i : Nat) (q q' : Nat × va_E), k ∉ ρ → (z_wc cy ad 0 σ)[k]? = some q → (z_wc cy adc' 0 σl')[i]? = some q' → q.1 ≠ q'.1 := by
      intro k i q q' hk hq hq' ee
      have g1 := hD1.2 i q' hq'
      rw [← ee] at g1
      have hq1 := (hP k q hq).lt
      rcases g1 with ⟨k2, e3, hz⟩ | hz
      · have h1 : (ρ.map (fun i => (z_wc cy ad 0 σ)[i]?))[k2]? = some (some (q.1, e3)) := by rw [hpick, List.getElem?_map, hz]; rfl
        rw [List.getElem?_map] at h1
        cases hi : ρ[k2]? with
        | none => rw [hi] at h1; cases h1
        | some i2 =>
          rw [hi] at h1
          have := hD.1 k i2 q (q.1, e3) hq (Option.some.inj h1) rfl
          exact hk (by rw [this]; exact List.mem_of_getElem? hi)
      · omega
    have hDn : va_D A (z_wc cy ads 0 (z_wb fw ρ σ σl')) := by
      refine ⟨fun a b x y ha hb hxy => ?_, fun k q hq => ?_⟩
      · rcases hcell a x ha with ⟨i, g1, g2⟩ | ⟨g1, g2⟩ <;> rcases hcell b y hb with ⟨i', g3, g4⟩ | ⟨g3, g4⟩
        · have := hD1.1 i i' x y g2 g4 hxy
          rw [← g1, ← g3, this]
        · exact absurd hxy.symm (hmix b i y x g3 g4 g2)
        · exact absurd hxy (hmix a i' x y g1 g2 g4)
        · exact hD.1 a b x y g2 g4 hxy
      · rcases hcell k q hq with ⟨i, -, g2⟩ | ⟨-, g2⟩
        · exact hF _ (hD1.2 i q g2)
        · exact hD.2 k q g2
    have g := hK _ _ _ _ hk p e s m args below meth c D cy ad0 A C ads ls T'.heap (locs ++ L') (fun k hk => by rw [p1 k (by omega)]; exact hag k hk) (by rw [w1]; omega) (by rw [w1]; omega) (by rw [w1]; exact p6) (by rw [p4]; exact hl) hPn hDn hS'
    refine finish (t2 := T) ?_ (g T' rfl Y')
    refine congrArg (F0 m (pc + 3) ls) (Eq.symm ?_)
    refine z_push_map (fun v hv => ?_) p5
    rw [z_cv_comp]
    subst hv
    have hvv : z_okV σl'.length v = true := hokR.1
    exact z_cv_congr (N := σl'.length) (fun x hx => p2 x (z_ok1_lt hx)) hvv
end ZC
end
section
/-! the methods' table -/
theorem z_mTake : k_mL.take k_nM = k_mL0 ++ (k_mL1 ++ (k_mL2 ++ (k_mL3 ++ (k_mL4 ++ (k_mL5 ++ k_mL6.take 39))))) := by
  have e : k_mL = (k_mL0 ++ (k_mL1 ++ (k_mL2 ++ (k_mL3 ++ (k_mL4 ++ k_mL5))))) ++ k_mL6 := by simp only [k_mL, List.append_assoc]
  have hl : (k_mL0 ++ (k_mL1 ++ (k_mL2 ++ (k_mL3 ++ (k_mL4 ++ k_mL5))))).length = 240 := by decide +kernel
  rw [e, List.take_append, hl, List.take_of_length_le (by rw [hl]; decide)]
  simp only [List.append_assoc]
  rfl
theorem z_mLen : k_mL.length = 280 := by decide +kernel
theorem z_mAt {t : Nat} (h : t < k_nM) : k_m t ∈ k_mL.take k_nM := by
  have h1 : t < k_mL.length := by rw [z_mLen]; exact Nat.lt_trans h (by decide)
  have h2 : k_mL[t]? = some (k_m t) := by
    unfold k_m
    rw [List.getD_eq_getElem?_getD, List.getElem?_eq_getElem h1]
    rfl
  refine List.mem_of_getElem? (i := t) ?_
  rw [List.getElem?_take_of_lt h]
  exact h2
theorem z_mCode {t : Nat} (h : t < k_nM) : Jvm.Cond.code (k_y t) (k_co t) (k_nL t) (k_re t) ∈ z_U := by
  refine z_inU ?_ rfl
  have h1 := z_mAt h
  rw [z_mTake] at h1
  have key : k_cC (k_m t) ∈ lw_tbl := by
    simp only [List.mem_append] at h1
    rcases h1 with h1 | h1 | h1 | h1 | h1 | h1 | h1
    · exact k_mc0 _ h1
    · exact k_mc1 _ h1
    · exact k_mc2 _ h1
    · exact k_mc3 _ h1
    · exact k_mc4 _ h1
    · exact k_mc5 _ h1
    · exact k_mc6 _ h1
  exact key
theorem z_mTab : ∀ t, t < k_nM → k_ci t < 18 ∧ k_nL t ≤ 20 ∧ k_cn (k_ci t) ≠ "java/lang/invoke/MethodHandle" ∧ k_cn (k_ci t) ≠ "java/lang/invoke/VarHandle" ∧ (parseMethodDescriptor (k_y t).desc).map (fun d => d.parameters.length) = some (if k_ki t = 1 then k_na t else k_na t - 1) ∧ 1 ≤ k_na t + k_ki t := by
  have h : (List.range k_nM).all (fun t => decide (k_ci t < 18 ∧ k_nL t ≤ 20 ∧ k_cn (k_ci t) ≠ "java/lang/invoke/MethodHandle" ∧ k_cn (k_ci t) ≠ "java/lang/invoke/VarHandle" ∧ (parseMethodDescriptor (k_y t).desc).map (fun d => d.parameters.length) = some (if k_ki t = 1 then k_na t else k_na t - 1) ∧ 1 ≤ k_na t + k_ki t)) = true := by decide +kernel
  intro t ht
  exact of_decide_eq_true (List.all_eq_true.mp h t (List.mem_range.mpr ht))
theorem z_kiV : ∀ t ∈ k_LV, k_ki t = 0 := by decide +kernel
theorem z_kiS : ∀ t ∈ k_LST, k_ki t = 1 := by decide +kernel
theorem z_kiI : ∀ t ∈ k_LI, k_ki t = 2 → (k_y t).name = "<init>" ∧ k_re t = none := by decide +kernel
theorem z_goodU {ws : List Cond} (h : ∀ w ∈ ws, w ∈ z_U) : GoodIn z_U ws := fun w hw => ⟨h w hw, good_of_word (List.mem_filter.mp (h w hw)).2⟩
theorem z_wsU2 {t : Nat} (h : t < k_nM) : ∀ w ∈ z_ws t, w ∈ z_U := by
  intro w hw
  rcases List.mem_cons.mp hw with rfl | hw
  · exact z_mCode h
  · exact hw
section ZD
variable {l : Launch} {j rk MC MS n0 : Nat} {X : Option (Nat × (Nat → Int32))} {Post : Option Value → List AE → Prop} {pc : Nat} {L : LC} {st : List Value} {σ : List AE} {ce sl : Nat}
theorem z_stk (ad : Nat → Nat) (as rest : List Value) : (as.reverse ++ rest).map (z_cv ad) = (as.map (z_cv ad)).reverse ++ rest.map (z_cv ad) := by simp
theorem s_callS {x t : Nat} {as rest : List Value} {K : List Value → List AE → Nat → Nat → Prop} (hd : decode (k_co j) pc = .ok (.invokestatic x, 3)) (hq : (k_ci j, x, t) ∈ k_LM ∨ (k_ci j, x, t) ∈ k_LMN) (ht : t < k_nM) (hst : t ∈ k_LST) (hna : as.length = k_na t)
    (h : z_call l rk MC MS t L as rest σ ce sl K) (hK : ∀ st σ ce sl, K st σ ce sl → AW l j rk MC MS n0 X Post (pc + 3) L st σ ce sl) : AW l j rk MC MS n0 X Post pc L (as.reverse ++ rest) σ ce sl := by
  intro p e s m args below meth c D cy ad0 A C ad ls H locs hag hn hle hlt hl hP hD hS
  obtain ⟨hx, hb, hml, hr, hlo, hin, hown, hts, hKK, hE, hA⟩ := id C
  obtain ⟨t1, t2, t3, t4, t5, -⟩ := z_mTab t ht
  rw [if_pos (z_kiS t hst)] at t5
  refine z_core C hag hn hle hlt hl hP hD hS h hK ?_
  intro rk' mc ms Pc Qc free hM r1 r2 r3 r4 r5 r6
  have hini := hts _ (z_inU (k_ln (k_ci t) (List.mem_range.mpr t1)) rfl)
  have hstw := z_inU (k_lst t hst) rfl
  have hroom : (z_rm rk' mc ms).frames + 1 ≤ (z_rm rk MC MS).frames ∧ 8 + (k_nL t + 11) + (z_rm rk' mc ms).locals ≤ (z_rm rk MC MS).locals := by
    simp only [z_rm]; omega
  have hcat : 2 * (F0 m pc ls ((as.reverse ++ rest).map (z_cv ad))).monitorRoom + ((rest.map (z_cv ad)).map fun v => v.category).sum ≤ 8 := lv_room (by rw [z_cs_eq]; exact r4)
  rcases hq with hq | hq
  · have hlk := z_inU (k_lm _ hq) rfl
    refine va_runS (Ts := z_U) ⟨hx, hb, hml, hown, hts⟩ hM (va_cwS (k_na t) hts (z_goodU (fun w hw => ?_)) rfl rfl rfl ⟨t3, t4, t5⟩ hroom) ⟨r5, r6⟩ rfl (by simpa using hna) hl.1 (z_stk ad as rest) hcat hd ⟨r2, r3⟩
    simp only [va_wsS, List.mem_append, List.mem_cons, List.not_mem_nil, or_false] at hw
    rcases hw with (rfl | rfl | rfl) | hw
    · exact hlk
    · exact hstw
    · exact z_inU (k_ln (k_ci t) (List.mem_range.mpr t1)) rfl
    · exact z_wsU2 ht w hw
  · have hnw := hE.2.2.2.2.2.1 _ hq
    exact va_runSN (Ts := z_U) ⟨hx, hb, hml, hown, hts⟩ hM ⟨va_cnB (k_na t) hts (z_goodU (z_wsU2 ht)) rfl rfl rfl hnw hini ⟨t3, t4, t5⟩ hroom, hts _ hstw, trivial⟩ ⟨r5, r6⟩ rfl (by simpa using hna) hl.1 (z_stk ad as rest) hcat hd ⟨r2, r3⟩
theorem s_callI {x t b : Nat} {as rest : List Value} {K : List Value → List AE → Nat → Nat → Prop} (hd : decode (k_co j) pc = .ok (.invokespecial x, 3)) (hq : (k_ci j, x, t) ∈ k_LM) (ht : t < k_nM) (hst : t ∈ k_LI) (hki : k_ki t = 2) (hna : as.length + 1 = k_na t)
    (h : z_call l rk MC MS t L (.ref b :: as) rest σ ce sl K) (hK : ∀ st σ ce sl, K st σ ce sl → AW l j rk MC MS n0 X Post (pc + 3) L st σ ce sl) : AW l j rk MC MS n0 X Post pc L ((.ref b :: as).reverse ++ rest) σ ce sl := by
  intro p e s m args below meth c D cy ad0 A C ad ls H locs hag hn hle hlt hl hP hD hS
  obtain ⟨hx, hb, hml, hr, hlo, hin, hown, hts, hKK, hE, hA⟩ := id C
  obtain ⟨t1, t2, t3, t4, t5, -⟩ := z_mTab t ht
  rw [if_neg (by omega)] at t5
  obtain ⟨n1, n2⟩ := z_kiI t hst hki
  refine z_core C hag hn hle hlt hl hP hD hS h hK ?_
  intro rk' mc ms Pc Qc free hM r1 r2 r3 r4 r5 r6
  have hroom : (z_rm rk' mc ms).frames + 1 ≤ (z_rm rk MC MS).frames ∧ 8 + (k_nL t + 11) + (z_rm rk' mc ms).locals ≤ (z_rm rk MC MS).locals := by
    simp only [z_rm]; omega
  have hcat : 2 * (F0 m pc ls (((Value.ref b :: as).reverse ++ rest).map (z_cv ad))).monitorRoom + ((rest.map (z_cv ad)).map fun v => v.category).sum ≤ 8 := lv_room (by rw [z_cs_eq]; exact r4)
  refine va_runI (Ts := z_U) (b := ad b) (As := as.map (z_cv ad)) (bytes := k_co t) (maxL := k_nL t) ⟨hx, hb, hml, hown, hts⟩ hM (cwI (k_na t - 1) hts (z_goodU (z_wsU2 ht)) (by rw [z_ws, n2]) rfl rfl (hts _ (z_inU (k_ln (k_ci t) (List.mem_range.mpr t1)) rfl)) (hts _ (z_inU (k_lm _ hq) rfl)) (hts _ (z_inU (k_li t hst) rfl)) n1 ⟨t3, t4, t5⟩ hroom) ⟨r5, r6⟩ rfl (by simp; omega) hl.1 (by simp [z_cv]) hcat hd ⟨r2, r3⟩
theorem s_callV {x t b : Nat} {as rest : List Value} {K : List Value → List AE → Nat → Nat → Prop} (hd : decode (k_co j) pc = .ok (.invokevirtual x, 3)) (hq : (k_ci j, x, t) ∈ k_LM) (ht : t < k_nM) (hst : t ∈ k_LV) (hsi : t ∈ k_LI) (hna : as.length + 1 = k_na t) (hrc : z_rcv σ (.ref b) (k_ci t) = true)
    (h : z_call l rk MC MS t L (.ref b :: as) rest σ ce sl K) (hK : ∀ st σ ce sl, K st σ ce sl → AW l j rk MC MS n0 X Post (pc + 3) L st σ ce sl) : AW l j rk MC MS n0 X Post pc L ((.ref b :: as).reverse ++ rest) σ ce sl := by
  intro p e s m args below meth c D cy ad0 A C ad ls H locs hag hn hle hlt hl hP hD hS
  obtain ⟨hx, hb, hml, hr, hlo, hin, hown, hts, hKK, hE, hA⟩ := id C
  obtain ⟨t1, t2, t3, t4, t5, -⟩ := z_mTab t ht
  rw [if_neg (by rw [z_kiV t hst]; omega)] at t5
  have hrecv : ∃ cellB : Cell, H[ad b]? = some cellB ∧ cellB.vm.isStatics = false ∧ s.vm.findClass (k_cn (k_ci t)) = some cellB.cls := by
    simp only [z_rcv] at hrc
    cases hb1 : Nat.ble 1000 b with
    | false =>
      rw [hb1] at hrc
      simp only at hrc
      split at hrc
      · next ci fs hz =>
        rw [z_nth_eq] at hz
        have he := z_wc0 (cy := cy) (ad := ad) hz
        obtain ⟨r, hr1, -⟩ := hP b _ he
        have hci := Nat.eq_of_beq_eq_true hrc
        obtain ⟨-, -, -, c4, -⟩ := z_clok hr1
        rw [← hci, ← c4]
        exact va_recv hKK hP hr1 he
      · cases hrc
    | true =>
      rw [hb1] at hrc
      simp only [Bool.and_eq_true, Nat.ble_eq, Nat.blt_eq] at hrc
      obtain ⟨g1, g2, g3⟩ := hrc
      have hci := Nat.eq_of_beq_eq_true g1
      obtain ⟨xs, hxs⟩ : ∃ xs, k_str[b - 2000]? = some xs := ⟨_, List.getElem?_eq_getElem (by show b - 2000 < 19; omega)⟩
      have hO := (hE.2.2.2.1 _ xs hxs).1
      rw [show 2000 + (b - 2000) = b by omega, ← hag b (Or.inr (by omega))] at hO
      obtain ⟨cell, q1, q2, q3, -⟩ := hO.kept hS.2.1
      rw [hci]
      exact ⟨cell, q1, q2, q3⟩
  refine z_core C hag hn hle hlt hl hP hD hS h hK ?_
  intro rk' mc ms Pc Qc free hM r1 r2 r3 r4 r5 r6
  have hroom : (z_rm rk' mc ms).frames + 1 ≤ (z_rm rk MC MS).frames ∧ 8 + (k_nL t + 11) + (z_rm rk' mc ms).locals ≤ (z_rm rk MC MS).locals := by
    simp only [z_rm]; omega
  have hcat : 2 * (F0 m pc ls (((Value.ref b :: as).reverse ++ rest).map (z_cv ad))).monitorRoom + ((rest.map (z_cv ad)).map fun v => v.category).sum ≤ 8 := lv_room (by rw [z_cs_eq]; exact r4)
  have hlk := z_inU (k_lm _ hq) rfl
  refine va_runV (Ts := z_U) (C := k_cn (k_ci t)) (b := ad b) (As := as.map (z_cv ad)) ⟨hx, hb, hml, hown, hts⟩ hM (cwV (k_na t - 1) hts (z_goodU (fun w hw => ?_)) rfl rfl rfl ⟨rfl, t3, t4, t5⟩ hroom) ⟨r5, hrecv, r6⟩ rfl (by simp; omega) hl.1 (by simp [z_cv]) hcat hd ⟨r2, r3⟩
  simp only [wsV, List.mem_append, List.mem_cons, List.not_mem_nil, or_false] at hw
  rcases hw with (rfl | rfl | rfl | rfl) | hw
  · exact hlk
  · exact z_inU (k_li t hsi) rfl
  · exact z_inU (k_lv_ t hst) rfl
  · exact z_inU (k_ln (k_ci t) (List.mem_range.mpr t1)) rfl
  · exact z_wsU2 ht w hw
end ZD
end
section
section ZW
variable {l : Launch} {j rk MC MS n0 : Nat} {X : Option (Nat × (Nat → Int32))} {Post : Option Value → List AE → Prop} {pc : Nat} {L : LC} {st : List Value} {σ : List AE} {ce sl : Nat}
theorem z_elem {α : Type} [BEq α] [LawfulBEq α] {a : α} {l : List α} (h : l.elem a = true) : a ∈ l := List.elem_iff.mp h
theorem z_bor {a b : Bool} (h : (a || b) = true) : a = true ∨ b = true := by simpa using h
theorem z_band {a b : Bool} (h : (a && b) = true) : a = true ∧ b = true := by simpa using h
theorem z_sub {a b : Nat} (h : b ≤ a) : ∃ i, a = b + i := ⟨a - b, by omega⟩
theorem z_strI {i : Nat} (h : 2000 + i < 2019) : ∃ xs, k_str[i]? = some xs := ⟨_, List.getElem?_eq_getElem (by show i < 19; omega)⟩
theorem z_35 (i : Nat) : 2000 + i + 3000 = 5000 + i := by omega
theorem z_off_add (b i : Nat) : z_off (b + i) b = i := Nat.add_sub_cancel_left ..
theorem z_narB {v : Int32} (h : v = 0 ∨ v = 1) : narrow .boolean (.int v) = .int v := by rcases h with rfl | rfl <;> rfl
theorem z_fitB {v : Int32} (h : v = 0 ∨ v = 1) : fits .boolean (.int v) = true := by rcases h with rfl | rfl <;> rfl
theorem z_sw_mono {P Q : Nat → Prop} {x : Int32} (hPQ : ∀ t, P t → Q t) : ∀ (os : List Int) (lo : Int), z_sw P pc x lo os → z_sw Q pc x lo os := by
  intro os
  induction os with
  | nil => intro lo _; trivial
  | cons o os ih => intro lo h; exact ⟨fun e => hPQ _ (h.1 e), ih _ h.2⟩
theorem z_lk_mono {P Q : Nat → Prop} {d : Int} {x : Int32} (hPQ : ∀ t, P t → Q t) : ∀ (os : List (Int × Int)), z_lk P pc d x os → z_lk Q pc d x os := by
  intro os
  induction os with
  | nil => intro h; exact hPQ _ h
  | cons o os ih => obtain ⟨a, o⟩ := o; intro h; exact ⟨fun e => hPQ _ (h.1 e), fun e => ih (h.2 e)⟩
set_option maxRecDepth 100000 in
theorem z_al_sound0 {k : KT} {a : Nat} {i : Int32} (hd : decode (k_co j) pc = .ok (.iaload, 1)) (hk : ∀ L st σ ce sl, k L st σ ce sl → AW l j rk MC MS n0 X Post (pc + 1) L st σ ce sl) (h : z_al 0 X σ a i (fun v => k L (.int v :: st) σ ce sl)) : AW l j rk MC MS n0 X Post pc L (.int i :: .ref a :: st) σ ce sl := by
  simp only [z_al, z_nth_eq] at h
  split at h
  · split at h
    · next kd n f hc =>
      split at h
      · next hb => have e := Nat.eq_of_beq_eq_true hb; subst e; exact s_iald hd hc h.1 (hk _ _ _ _ _ h.2)
      · exact h.elim
    · exact h.elim
  · split at h
    · next hb =>
      have e := Nat.eq_of_beq_eq_true hb; subst e
      split at h
      · next q => exact s_scr hd rfl h.1 (hk _ _ _ _ _ h.2)
      · exact h.elim
    · split at h
      · next hb =>
        obtain ⟨b, rfl⟩ := z_sub (Nat.ble_eq.mp hb)
        rw [z_off_add 3000 b] at h
        split at h
        · next xs hxs =>
          exact s_sald hd hxs h.1 (hk _ _ _ _ _ h.2)
        · exact h.elim
      · exact h.elim
set_option maxRecDepth 100000 in
theorem z_al_sound1 {k : KT} {a : Nat} {i : Int32} (hd : decode (k_co j) pc = .ok (.baload, 1)) (hk : ∀ L st σ ce sl, k L st σ ce sl → AW l j rk MC MS n0 X Post (pc + 1) L st σ ce sl) (h : (match Nat.ble 1000 a with
      | false => (match z_nth σ a with
        | some (.inl (kd, n, f)) => (match Nat.beq kd 1 || Nat.beq kd 2 with
          | true => vp_in i n ∧ k L (.int (f i.toNatClampNeg) :: st) σ ce sl
          | false => False)
        | _ => False)
      | true => z_al 1 X σ a i (fun v => k L (.int v :: st) σ ce sl))) : AW l j rk MC MS n0 X Post pc L (.int i :: .ref a :: st) σ ce sl := by
  simp only [z_nth_eq] at h
  split at h
  · split at h
    · next kd n f hc =>
      split at h
      · next hb =>
        refine s_bald hd ?_ hc h.1 (hk _ _ _ _ _ h.2)
        rcases z_bor hb with e | e
        · exact Or.inl (Nat.eq_of_beq_eq_true e)
        · exact Or.inr (Nat.eq_of_beq_eq_true e)
      · exact h.elim
    · exact h.elim
  · next hb1 =>
    simp only [z_al, hb1, z_nth_eq] at h
    split at h
    · next hb =>
      obtain ⟨b, rfl⟩ := z_sub (Nat.ble_eq.mp hb)
      rw [z_off_add 5000 b] at h
      split at h
      · next xs hxs =>
        exact s_tald hd hxs h.1 (hk _ _ _ _ _ h.2)
      · exact h.elim
    · exact h.elim
set_option maxRecDepth 100000 in
theorem z_len_sound {k : KT} {a : Nat} (hd : decode (k_co j) pc = .ok (.arraylength, 1)) (hk : ∀ L st σ ce sl, k L st σ ce sl → AW l j rk MC MS n0 X Post (pc + 1) L st σ ce sl) (h : z_len X σ a (fun v => k L (.int v :: st) σ ce sl)) : AW l j rk MC MS n0 X Post pc L (.ref a :: st) σ ce sl := by
  simp only [z_len, z_nth_eq] at h
  split at h
  · exact h.elim
  · split at h
    · next hb =>
      have e := Nat.eq_of_beq_eq_true hb; subst e
      split at h
      · exact s_slen hd rfl (hk _ _ _ _ _ h.2)
      · exact h.elim
    · split at h
      · next hb =>
        obtain ⟨b, rfl⟩ := z_sub (Nat.ble_eq.mp hb)
        rw [z_off_add 5000 b] at h
        split at h
        · next xs hxs =>
          exact s_tlen hd hxs (hk _ _ _ _ _ h)
        · exact h.elim
      · exact h.elim
theorem z_getf_sound {k : KT} {jm : Nat → KT} {rt : Option Value → List AE → Nat → Nat → Prop} {x t u : Nat} (hd : decode (k_co j) pc = .ok (.getfield x, 3)) (hq : (k_ci j, x, u, t) ∈ k_LF) (hk : ∀ L st σ ce sl, k L st σ ce sl → AW l j rk MC MS n0 X Post (pc + 3) L st σ ce sl) (h : z_step l rk MC MS (k_nL j) X (k_re j) pc (.getfield x) t u L st σ ce sl k jm rt) : AW l j rk MC MS n0 X Post pc L st σ ce sl := by
  simp only [z_step, z_nth_eq] at h
  split at h
  · next a st =>
    split at h
    · split at h
      · next ci fs hc =>
        split at h
        · next hb =>
          have e := Nat.eq_of_beq_eq_true hb; subst e
          split at h
          · next v hv => exact s_getf hd hq hc hv (hk _ _ _ _ _ h)
          · exact h.elim
        · exact h.elim
      · exact h.elim
    · split at h
      · next hb =>
        obtain ⟨b1, b2⟩ := z_band hb
        obtain ⟨b2, b3⟩ := z_band b2
        have e := Nat.eq_of_beq_eq_true b1; subst e
        obtain ⟨b, rfl⟩ := z_sub (Nat.ble_eq.mp b2)
        obtain ⟨xs, hxs⟩ := z_strI (Nat.blt_eq.mp b3)
        split at h
        · rw [z_35] at h
          exact s_sgetf hd hq hxs (Or.inl ⟨rfl, rfl⟩) (hk _ _ _ _ _ h)
        · exact s_sgetf hd hq hxs (Or.inr ⟨rfl, rfl⟩) (hk _ _ _ _ _ h)
        · exact h.elim
      · exact h.elim
  · exact h.elim
theorem z_putf_sound {k : KT} {jm : Nat → KT} {rt : Option Value → List AE → Nat → Nat → Prop} {x t u : Nat} (hd : decode (k_co j) pc = .ok (.putfield x, 3)) (hok : z_ok (k_ci j) (Nat.beq (k_ki j) 2) pc (.putfield x) t u = true) (hk : ∀ L st σ ce sl, k L st σ ce sl → AW l j rk MC MS n0 X Post (pc + 3) L st σ ce sl) (h : z_step l rk MC MS (k_nL j) X (k_re j) pc (.putfield x) t u L st σ ce sl k jm rt) : AW l j rk MC MS n0 X Post pc L st σ ce sl := by
  simp only [z_ok] at hok
  obtain ⟨q1, q2⟩ := z_band hok
  have hq := z_elem q1
  obtain ⟨q2, q3⟩ := z_band q2
  have hfin : ∀ r, k_cl[u]? = some r → (r.2.1 t).2.2.2 = true → k_ki j = 2 ∧ (r.2.1 t).1 = k_cn (k_ci j) := by
    intro r hr ht
    simp only [hr, ht] at q3
    obtain ⟨a1, a2⟩ := z_band q3
    exact ⟨Nat.eq_of_beq_eq_true a1, of_decide_eq_true a2⟩
  simp only [z_step, z_setK_eq, z_nth_eq, z_set_eq] at h
  split at h
  · next v a st =>
    split at h
    · split at h
      · next ci fs hc =>
        split at h
        · next hb =>
          obtain ⟨b1, b2⟩ := z_band hb
          have e := Nat.eq_of_beq_eq_true b1; subst e
          have b2 := Nat.blt_eq.mp b2
          split at h
          · next hty =>
            split at h
            · exact s_putf hd hq hc b2 hfin (fun ad => by rw [hty]; rfl) (fun ad => by rw [hty]; rfl) (hk _ _ _ _ _ h)
            · exact h.elim
          · next hty =>
            split at h
            · exact s_putf hd hq hc b2 hfin (fun ad => by rw [hty]; exact z_narB h.1) (fun ad => by rw [hty]; exact z_fitB h.1) (hk _ _ _ _ _ h.2)
            · exact h.elim
          · next hty =>
            split at h
            · exact s_putf hd hq hc b2 hfin (fun ad => by rw [hty]; rfl) (fun ad => by rw [hty]; rfl) (hk _ _ _ _ _ h)
            · exact h.elim
          · next hty =>
            split at h
            · exact s_putf hd hq hc b2 hfin (fun ad => by rw [hty]; rfl) (fun ad => by rw [hty]; rfl) (hk _ _ _ _ _ h)
            · exact h.elim
          · exact h.elim
        · exact h.elim
      · exact h.elim
    · exact h.elim
  · exact h.elim
theorem z_gets_sound {k : KT} {jm : Nat → KT} {rt : Option Value → List AE → Nat → Nat → Prop} {x t u : Nat} (hd : decode (k_co j) pc = .ok (.getstatic x, 3)) (hok : z_ok (k_ci j) (Nat.beq (k_ki j) 2) pc (.getstatic x) t u = true) (hk : ∀ L st σ ce sl, k L st σ ce sl → AW l j rk MC MS n0 X Post (pc + 3) L st σ ce sl) (h : z_step l rk MC MS (k_nL j) X (k_re j) pc (.getstatic x) t u L st σ ce sl k jm rt) : AW l j rk MC MS n0 X Post pc L st σ ce sl := by
  have hq : (k_ci j, x, t) ∈ k_LS ∨ (k_ci j, x, t) ∈ k_LSN := by
    simp only [z_ok] at hok
    split at hok
    · exact Or.inl (z_elem hok)
    · exact Or.inr (z_elem hok)
  have hn : ∀ q ∈ k_LSN, q.2.2 < 6 := by decide +kernel
  simp only [z_step] at h
  split at h
  · rcases hq with hq | hq
    · exact s_gets6 hd hq (hk _ _ _ _ _ h)
    · exact absurd (hn _ hq) (by show ¬ (6 < 6); decide)
  · rcases hq with hq | hq
    · exact s_gets7 hd hq (hk _ _ _ _ _ h.1) (hk _ _ _ _ _ h.2)
    · exact absurd (hn _ hq) (by show ¬ (7 < 6); decide)
  · split at h
    · next hb =>
      have hb := Nat.blt_eq.mp hb
      exact s_gets hd hq (xs := k_SA[t]'hb) (List.getElem?_eq_getElem hb) (hk _ _ _ _ _ h)
    · exact h.elim
theorem z_args_spec : ∀ (n : Nat) (acc st as rest : List Value), z_args n acc st = some (as, rest) → (acc.reverse ++ st).take (acc.length + n) = as.reverse.take (acc.length + n) ∧ acc.reverse.reverse.length + n = as.length ∧ st = (as.reverse.drop acc.length) ++ rest := by
  intro n
  induction n with
  | zero =>
    intro acc st as rest h
    simp only [z_args, Option.some.injEq, Prod.mk.injEq] at h
    obtain ⟨rfl, rfl⟩ := h
    refine ⟨by rw [List.take_append]; simp, by simp, ?_⟩
    rw [List.drop_of_length_le (by simp)]
    rfl
  | succ n ih =>
    intro acc st as rest h
    cases st with
    | nil => cases h
    | cons v st =>
      obtain ⟨h1, h2, h3⟩ := ih (v :: acc) st as rest h
      simp only [List.length_reverse, List.length_cons] at h2 h3
      refine ⟨?_, by simp; omega, ?_⟩
      · have := h1
        simp only [List.reverse_cons, List.append_assoc, List.length_cons] at this
        rw [show acc.length + (n + 1) = acc.length + 1 + n by omega, ← this]
        rfl
      · have hl : acc.length < as.reverse.length := by simp; omega
        rw [List.drop_eq_getElem_cons hl, List.cons_append, ← h3]
        congr 1
        have h4 : as.reverse[acc.length]? = some v := by
          have : (as.reverse.take ((v :: acc).length + n))[acc.length]? = some v := by
            rw [← h1, List.getElem?_take_of_lt (by simp; omega)]
            simp
          rw [List.getElem?_take_of_lt (by simp; omega)] at this
          exact this
        rw [List.getElem?_eq_getElem hl] at h4
        exact (Option.some.inj h4).symm
theorem z_args_st {n : Nat} {st as rest : List Value} (h : z_args n [] st = some (as, rest)) : st = as.reverse ++ rest ∧ as.length = n := by
  obtain ⟨-, h2, h3⟩ := z_args_spec n [] st as rest h
  simp at h2 h3
  exact ⟨h3, h2.symm⟩
theorem z_LVI : ∀ t ∈ k_LV, t ∈ k_LI := by decide +kernel
theorem z_callV_sound {k : KT} {jm : Nat → KT} {rt : Option Value → List AE → Nat → Nat → Prop} {x t u : Nat} (hd : decode (k_co j) pc = .ok (.invokevirtual x, 3)) (hok : z_ok (k_ci j) (Nat.beq (k_ki j) 2) pc (.invokevirtual x) t u = true) (hk : ∀ L st σ ce sl, k L st σ ce sl → AW l j rk MC MS n0 X Post (pc + 3) L st σ ce sl) (h : z_step l rk MC MS (k_nL j) X (k_re j) pc (.invokevirtual x) t u L st σ ce sl k jm rt) : AW l j rk MC MS n0 X Post pc L st σ ce sl := by
  simp only [z_step] at h
  simp only [z_ok] at hok
  split at h
  · next ht =>
    rw [ht] at hok
    simp only [Bool.not_true, Bool.false_or] at hok
    obtain ⟨o1, o2⟩ := z_band hok
    obtain ⟨o2, o3⟩ := z_band o2
    have o3 := of_decide_eq_true o3
    split at h
    · next v as rest ha =>
      obtain ⟨e1, e2⟩ := z_args_st ha
      split at h
      · next hrc =>
        cases v with
        | ref b =>
          rw [e1]
          exact s_callV hd (z_elem o1) (Nat.blt_eq.mp ht) (z_elem o2) (z_LVI _ (z_elem o2)) (by rw [← o3, ← e2]; rfl) hrc h (fun st σ ce sl q => hk _ _ _ _ _ q)
        | _ => cases hrc
      · exact h.elim
    · exact h.elim
  · exact h.elim
theorem z_callI_sound {k : KT} {jm : Nat → KT} {rt : Option Value → List AE → Nat → Nat → Prop} {x t u : Nat} (hd : decode (k_co j) pc = .ok (.invokespecial x, 3)) (hok : z_ok (k_ci j) (Nat.beq (k_ki j) 2) pc (.invokespecial x) t u = true) (hk : ∀ L st σ ce sl, k L st σ ce sl → AW l j rk MC MS n0 X Post (pc + 3) L st σ ce sl) (h : z_step l rk MC MS (k_nL j) X (k_re j) pc (.invokespecial x) t u L st σ ce sl k jm rt) : AW l j rk MC MS n0 X Post pc L st σ ce sl := by
  simp only [z_step] at h
  simp only [z_ok] at hok
  split at h
  · next ht =>
    rw [ht] at hok
    simp only at hok
    obtain ⟨o1, o2⟩ := z_band hok
    obtain ⟨o2, o3⟩ := z_band o2
    obtain ⟨o3, o4⟩ := z_band o3
    have o4 := of_decide_eq_true o4
    split at h
    · next v as rest ha =>
      obtain ⟨e1, e2⟩ := z_args_st ha
      rw [e1]
      exact s_callI hd (z_elem o1) (Nat.blt_eq.mp ht) (z_elem o2) (of_decide_eq_true o3) (by rw [← o4, ← e2]; rfl) h (fun st σ ce sl q => hk _ _ _ _ _ q)
    · exact h.elim
  · next ht =>
    rw [ht] at hok
    simp only at hok
    split at h
    · split at h
      · split at h
        · next hz =>
          rcases z_bor hok with o | o
          · exact s_objInit hd (z_elem o) (Nat.ble_eq.mp hz) (hk _ _ _ _ _ h)
          · exact absurd (of_decide_eq_true o) (by decide)
        · exact h.elim
      · exact h.elim
    · exact h.elim
theorem z_callS_sound {k : KT} {jm : Nat → KT} {rt : Option Value → List AE → Nat → Nat → Prop} {x t u : Nat} (hd : decode (k_co j) pc = .ok (.invokestatic x, 3)) (hok : z_ok (k_ci j) (Nat.beq (k_ki j) 2) pc (.invokestatic x) t u = true) (hk : ∀ L st σ ce sl, k L st σ ce sl → AW l j rk MC MS n0 X Post (pc + 3) L st σ ce sl) (h : z_step l rk MC MS (k_nL j) X (k_re j) pc (.invokestatic x) t u L st σ ce sl k jm rt) : AW l j rk MC MS n0 X Post pc L st σ ce sl := by
  simp only [z_step, z_setK_eq, z_nth_eq, z_set_eq] at h
  simp only [z_ok] at hok
  split at h
  · next ht =>
    rw [ht] at hok
    simp only at hok
    obtain ⟨o1, o2⟩ := z_band hok
    obtain ⟨o2, o3⟩ := z_band o2
    have o3 := of_decide_eq_true o3
    split at h
    · next as rest ha =>
      obtain ⟨e1, e2⟩ := z_args_st ha
      rw [e1]
      refine s_callS hd ?_ (Nat.blt_eq.mp ht) (z_elem o2) (by rw [← o3, ← e2]) h (fun st σ ce sl q => hk _ _ _ _ _ q)
      rcases z_bor o1 with o | o
      · exact Or.inl (z_elem o)
      · exact Or.inr (z_elem o)
    · exact h.elim
  · next ht =>
    rw [ht] at hok
    simp only at hok
    have hx : t ≠ 9999 → (k_ci j, x, t) ∈ k_LX := by
      intro ne
      rcases z_bor hok with o | o
      · exact z_elem o
      · exact absurd (of_decide_eq_true o) ne
    split at h
    · split at h
      · split at h
        · next hz =>
          obtain ⟨z1, z2⟩ := z_band hz
          obtain ⟨z2, z3⟩ := z_band z2
          exact s_max hd (hx (by decide)) (Nat.ble_eq.mp z1) (Nat.ble_eq.mp z2) (Nat.ble_eq.mp z3) (hk _ _ _ _ _ h)
        · exact h.elim
      · exact h.elim
    · split at h
      · split at h
        · next hz =>
          obtain ⟨z1, z2⟩ := z_band hz
          obtain ⟨z2, z3⟩ := z_band z2
          exact s_min hd (hx (by decide)) (Nat.ble_eq.mp z1) (Nat.ble_eq.mp z2) (Nat.ble_eq.mp z3) (hk _ _ _ _ _ h)
        · exact h.elim
      · exact h.elim
    · split at h
      · split at h
        · next hz =>
          simp only [Bool.or_eq_false_iff] at hz
          have hz1 : z_cs _ ≤ 8 := Nat.not_lt.mp (fun q => by rw [Nat.blt_eq.mpr q] at hz; exact absurd hz.2.2 (by decide))
          split at h
          · next k0 m0 f hc0 =>
            split at h
            · next k1 m1 g hc1 =>
              split at h
              · next hb =>
                obtain ⟨b1, b2⟩ := z_band hb
                have e1 := Nat.eq_of_beq_eq_true b1; subst e1
                have e2 := Nat.eq_of_beq_eq_true b2; subst e2
                obtain ⟨h1, h2, h3, h4, h5, h6⟩ := h
                exact s_copy hd (hx (by decide)) hz1 hc0 hc1 h1 h2 h3 h4 h5 (hk _ _ _ _ _ h6)
              · exact h.elim
            · exact h.elim
          · exact h.elim
        · exact h.elim
      · exact h.elim
    · exact h.elim
theorem z_new_sound {k : KT} {jm : Nat → KT} {rt : Option Value → List AE → Nat → Nat → Prop} {x t u : Nat} (hd : decode (k_co j) pc = .ok (.new x, 3)) (hok : z_ok (k_ci j) (Nat.beq (k_ki j) 2) pc (.new x) t u = true) (hk : ∀ L st σ ce sl, k L st σ ce sl → AW l j rk MC MS n0 X Post (pc + 3) L st σ ce sl) (h : z_step l rk MC MS (k_nL j) X (k_re j) pc (.new x) t u L st σ ce sl k jm rt) : AW l j rk MC MS n0 X Post pc L st σ ce sl := by
  simp only [z_step, z_nth_eq] at h
  simp only [z_ok] at hok
  obtain ⟨o1, o2⟩ := z_band hok
  have o2 := Nat.blt_eq.mp o2
  obtain ⟨r, hr⟩ : ∃ r, k_cl[u]? = some r := ⟨_, List.getElem?_eq_getElem (by show u < 11; exact o2)⟩
  split at h
  · next hb =>
    obtain ⟨b1, b2⟩ := z_band hb
    obtain ⟨b2, b3⟩ := z_band b2
    split at h
    · next fs hfs =>
      have e1 : k_new.getD u [] = fs := by rw [List.getD_eq_getElem?_getD, hfs]; rfl
      have e2 := z_newN u r hr
      rw [e1] at e2
      split at h
      · next hb2 =>
        split at h
        · next n hn =>
          have e3 := z_lenO_spec hn
          subst e3
          rw [z_snocK_eq, e2] at h
          refine s_new hd (z_elem o1) hr (Nat.ble_eq.mp b1) ?_ (Nat.ble_eq.mp b2) b3 ?_
          · have := Nat.ble_eq.mp hb2
            rw [e2] at this
            exact this
          · rw [e1]
            exact hk _ _ _ _ _ h
        · exact h.elim
      · exact h.elim
    · exact h.elim
  · exact h.elim
theorem z_newa_sound {k : KT} {jm : Nat → KT} {rt : Option Value → List AE → Nat → Nat → Prop} {x : ArrayType} {t u : Nat} (hd : decode (k_co j) pc = .ok (.newarray x, 2)) (hok : z_ok (k_ci j) (Nat.beq (k_ki j) 2) pc (.newarray x) t u = true) (hk : ∀ L st σ ce sl, k L st σ ce sl → AW l j rk MC MS n0 X Post (pc + 2) L st σ ce sl) (h : z_step l rk MC MS (k_nL j) X (k_re j) pc (.newarray x) t u L st σ ce sl k jm rt) : AW l j rk MC MS n0 X Post pc L st σ ce sl := by
  simp only [z_step] at h
  split at h
  · obtain ⟨N, rfl, hN, hs, h⟩ := h
    split at h
    · next hb =>
      obtain ⟨b1, b2⟩ := z_band hb
      obtain ⟨b2, b3⟩ := z_band b2
      simp only [z_ok] at hok
      split at h
      · next n hn =>
        have e3 := z_lenO_spec hn
        subst e3
        rw [z_snocK_eq] at h
        split at hok
        · exact s_newa hd rfl (fun _ => rfl) (z_inU (k_lxx 9 (by decide)) rfl) rfl (by decide) hN (Nat.ble_eq.mp b1) hs (Nat.ble_eq.mp b2) b3 (hk _ _ _ _ _ h)
        · exact s_newa hd rfl (fun _ => rfl) (z_inU (k_lxx 10 (by decide)) rfl) rfl (by decide) hN (Nat.ble_eq.mp b1) hs (Nat.ble_eq.mp b2) b3 (hk _ _ _ _ _ h)
        · exact s_newa hd rfl (fun _ => rfl) (z_inU (k_lxx 11 (by decide)) rfl) rfl (by decide) hN (Nat.ble_eq.mp b1) hs (Nat.ble_eq.mp b2) b3 (hk _ _ _ _ _ h)
        · cases hok
      · exact h.elim
    · exact h.elim
  · exact h.elim
theorem z_newq_sound {k : KT} {jm : Nat → KT} {rt : Option Value → List AE → Nat → Nat → Prop} {x t u : Nat} (hd : decode (k_co j) pc = .ok (.anewarray x, 3)) (hok : z_ok (k_ci j) (Nat.beq (k_ki j) 2) pc (.anewarray x) t u = true) (hk : ∀ L st σ ce sl, k L st σ ce sl → AW l j rk MC MS n0 X Post (pc + 3) L st σ ce sl) (h : z_step l rk MC MS (k_nL j) X (k_re j) pc (.anewarray x) t u L st σ ce sl k jm rt) : AW l j rk MC MS n0 X Post pc L st σ ce sl := by
  simp only [z_step] at h
  split at h
  · obtain ⟨N, rfl, hN, hs, h⟩ := h
    split at h
    · next hb =>
      obtain ⟨b1, b2⟩ := z_band hb
      obtain ⟨b2, b3⟩ := z_band b2
      split at h
      · next n hn =>
        have e3 := z_lenO_spec hn
        subst e3
        rw [z_snocK_eq] at h
        exact s_newq hd (z_elem hok) hN (Nat.ble_eq.mp b1) hs (Nat.ble_eq.mp b2) b3 (hk _ _ _ _ _ h)
      · exact h.elim
    · exact h.elim
  · exact h.elim
end ZW
end
section
section ZX
variable {l : Launch} {j rk MC MS n0 : Nat} {X : Option (Nat × (Nat → Int32))} {Post : Option Value → List AE → Prop} {pc : Nat} {L : LC} {st : List Value} {σ : List AE} {ce sl : Nat}
set_option maxHeartbeats 4000000 in
theorem z_step_sound {i : Instr} {len t u nx : Nat} {k : KT} {jm : Nat → KT} {rt : Option Value → List AE → Nat → Nat → Prop} (hd : decode (k_co j) pc = .ok (i, len)) (hnx : nx = pc + len) (hln : z_iln i len = true) (hok : z_ok (k_ci j) (Nat.beq (k_ki j) 2) pc i t u = true)
    (hk : ∀ L st σ ce sl, k L st σ ce sl → AW l j rk MC MS n0 X Post nx L st σ ce sl) (hj : ∀ t L st σ ce sl, jm t L st σ ce sl → AW l j rk MC MS n0 X Post t L st σ ce sl) (hr : ∀ r σ ce sl, rt r σ ce sl → ce ≤ MC ∧ sl ≤ MS ∧ z_okR r σ = true ∧ Post r σ)
    (h : z_step l rk MC MS (k_nL j) X (k_re j) pc i t u L st σ ce sl k jm rt) : AW l j rk MC MS n0 X Post pc L st σ ce sl := by
  subst hnx
  cases i with
  | iload_n n =>
    have e := Nat.eq_of_beq_eq_true hln; subst e
    simp only [z_step, z_ldi, z_nth_eq] at h
    split at h
    · next v hv => exact s_iload_n hd hv (hk _ _ _ _ _ h)
    · exact h.elim
  | lload_n n =>
    have e := Nat.eq_of_beq_eq_true hln; subst e
    simp only [z_step, z_ldl, z_nth_eq] at h
    split at h
    · next v hv => exact s_lload_n hd hv (hk _ _ _ _ _ h)
    · exact h.elim
  | iload n =>
    have e := Nat.eq_of_beq_eq_true hln; subst e
    simp only [z_step, z_ldi, z_nth_eq] at h
    split at h
    · next v hv => exact s_iload hd hv (hk _ _ _ _ _ h)
    · exact h.elim
  | lload n =>
    have e := Nat.eq_of_beq_eq_true hln; subst e
    simp only [z_step, z_ldl, z_nth_eq] at h
    split at h
    · next v hv => exact s_lload hd hv (hk _ _ _ _ _ h)
    · exact h.elim
  | aload n =>
    have e := Nat.eq_of_beq_eq_true hln; subst e
    simp only [z_step, z_ldr, z_nth_eq] at h
    split at h
    · next v hv => exact s_aload hd hv (hk _ _ _ _ _ h)
    · exact h.elim
  | aload_n n =>
    have e := Nat.eq_of_beq_eq_true hln; subst e
    simp only [z_step, z_lda, z_nth_eq] at h
    split at h
    · next v hv => exact s_aload_n hd hv (hk _ _ _ _ _ h)
    · next hv => exact s_aload_nN hd hv (hk _ _ _ _ _ h)
    · exact h.elim
  | iconst n =>
    have e := Nat.eq_of_beq_eq_true hln; subst e
    exact s_st (fun ad hx hb _ _ kk => lv_iconst hx hb hd (of_decide_eq_true hok) kk) (hk _ _ _ _ _ h)
  | bipush n =>
    have e := Nat.eq_of_beq_eq_true hln; subst e
    exact s_st (fun ad hx hb _ _ kk => lv_bipush hx hb hd (of_decide_eq_true hok) kk) (hk _ _ _ _ _ h)
  | sipush n =>
    have e := Nat.eq_of_beq_eq_true hln; subst e
    exact s_st (fun ad hx hb _ _ kk => lv_sipush hx hb hd (of_decide_eq_true hok) kk) (hk _ _ _ _ _ h)
  | lconst n =>
    have e := Nat.eq_of_beq_eq_true hln; subst e
    exact s_st (fun ad hx hb _ _ kk => lv_lconst hx hb hd rfl kk) (hk _ _ _ _ _ h)
  | ldc x =>
    have e := Nat.eq_of_beq_eq_true hln; subst e
    cases u with
    | zero => exact s_ldcS hd (z_elem hok) (hk _ _ _ _ _ h)
    | succ u => exact s_st (fun ad hx hb hown hts kk => lv_ldc hx hb hown (hts _ (z_inU (k_lk _ (z_elem hok)) rfl)) hd kk) (hk _ _ _ _ _ h)
  | ldc_w x =>
    have e := Nat.eq_of_beq_eq_true hln; subst e
    cases u with
    | zero => exact s_ldcSW hd (z_elem hok) (hk _ _ _ _ _ h)
    | succ u => exact s_st (fun ad hx hb hown hts kk => lv_ldcw hx hb hown (hts _ (z_inU (k_lk _ (z_elem hok)) rfl)) hd kk) (hk _ _ _ _ _ h)
  | ldc2_w x =>
    have e := Nat.eq_of_beq_eq_true hln; subst e
    exact s_st (fun ad hx hb hown hts kk => lv_ldc2 hx hb hown (hts _ (z_inU (k_lkl _ (z_elem hok)) rfl)) hd kk) (hk _ _ _ _ _ h)
  | istore_n n =>
    have e := Nat.eq_of_beq_eq_true hln; subst e
    simp only [z_step, z_sto, z_setK_eq] at h
    split at h
    · split at h
      · next hb => obtain ⟨b1, b2⟩ := z_band hb; exact s_istore_n hd (Nat.blt_eq.mp b1) b2 (hk _ _ _ _ _ h)
      · exact h.elim
    · exact h.elim
  | istore n =>
    have e := Nat.eq_of_beq_eq_true hln; subst e
    simp only [z_step, z_sto, z_setK_eq] at h
    split at h
    · split at h
      · next hb => obtain ⟨b1, b2⟩ := z_band hb; exact s_istore hd (Nat.blt_eq.mp b1) b2 (hk _ _ _ _ _ h)
      · exact h.elim
    · exact h.elim
  | astore_n n =>
    have e := Nat.eq_of_beq_eq_true hln; subst e
    simp only [z_step, z_sto, z_setK_eq] at h
    split at h
    · split at h
      · next hb => obtain ⟨b1, b2⟩ := z_band hb; exact s_astore_n hd (Nat.blt_eq.mp b1) b2 (hk _ _ _ _ _ h)
      · exact h.elim
    · exact h.elim
  | lstore_n n =>
    have e := Nat.eq_of_beq_eq_true hln; subst e
    simp only [z_step, z_sto2, z_setK_eq] at h
    split at h
    · split at h
      · next hb => obtain ⟨b1, b2⟩ := z_band hb; exact s_lstore_n hd (Nat.blt_eq.mp b1) b2 (hk _ _ _ _ _ h)
      · exact h.elim
    · exact h.elim
  | lstore n =>
    have e := Nat.eq_of_beq_eq_true hln; subst e
    simp only [z_step, z_sto2, z_setK_eq] at h
    split at h
    · split at h
      · next hb => obtain ⟨b1, b2⟩ := z_band hb; exact s_lstore hd (Nat.blt_eq.mp b1) b2 (hk _ _ _ _ _ h)
      · exact h.elim
    · exact h.elim
  | iinc n z =>
    have e := Nat.eq_of_beq_eq_true hln; subst e
    simp only [z_step, z_nth_eq, z_sto, z_setK_eq] at h
    split at h
    · next x hx1 =>
      split at h
      · next hb => obtain ⟨b1, b2⟩ := z_band hb; exact s_iinc hd hx1 (by rw [← of_decide_eq_true hok]) (Nat.blt_eq.mp b1) b2 (hk _ _ _ _ _ h)
      · exact h.elim
    · exact h.elim
  | dup =>
    have e := Nat.eq_of_beq_eq_true hln; subst e
    simp only [z_step] at h
    split at h
    · exact s_st (fun ad hx hb _ _ kk => lv_dup hx hb hd rfl kk) (hk _ _ _ _ _ h)
    · exact s_st (fun ad hx hb _ _ kk => lv_dup hx hb hd rfl kk) (hk _ _ _ _ _ h)
    · exact h.elim
  | dup2 =>
    have e := Nat.eq_of_beq_eq_true hln; subst e
    simp only [z_step] at h
    split at h
    · exact s_st (fun ad hx hb _ _ kk => lv_dup2_11 hx hb hd rfl rfl kk) (hk _ _ _ _ _ h)
    · exact h.elim
  | pop =>
    have e := Nat.eq_of_beq_eq_true hln; subst e
    simp only [z_step] at h
    split at h
    · exact s_st (fun ad hx hb _ _ kk => lv_pop hx hb hd rfl kk) (hk _ _ _ _ _ h)
    · exact s_st (fun ad hx hb _ _ kk => lv_pop hx hb hd rfl kk) (hk _ _ _ _ _ h)
    · exact h.elim
  | iadd =>
    have e := Nat.eq_of_beq_eq_true hln; subst e
    simp only [z_step] at h
    split at h
    · exact s_st (fun ad hx hb _ _ kk => lv_iadd hx hb hd kk) (hk _ _ _ _ _ h)
    · exact h.elim
  | isub =>
    have e := Nat.eq_of_beq_eq_true hln; subst e
    simp only [z_step] at h
    split at h
    · exact s_st (fun ad hx hb _ _ kk => lv_isub hx hb hd kk) (hk _ _ _ _ _ h)
    · exact h.elim
  | imul =>
    have e := Nat.eq_of_beq_eq_true hln; subst e
    simp only [z_step] at h
    split at h
    · exact s_st (fun ad hx hb _ _ kk => lv_imul hx hb hd kk) (hk _ _ _ _ _ h)
    · exact h.elim
  | iand =>
    have e := Nat.eq_of_beq_eq_true hln; subst e
    simp only [z_step] at h
    split at h
    · exact s_st (fun ad hx hb _ _ kk => lv_iand hx hb hd kk) (hk _ _ _ _ _ h)
    · exact h.elim
  | ior =>
    have e := Nat.eq_of_beq_eq_true hln; subst e
    simp only [z_step] at h
    split at h
    · exact s_st (fun ad hx hb _ _ kk => lv_ior hx hb hd kk) (hk _ _ _ _ _ h)
    · exact h.elim
  | ixor =>
    have e := Nat.eq_of_beq_eq_true hln; subst e
    simp only [z_step] at h
    split at h
    · exact s_st (fun ad hx hb _ _ kk => lv_ixor hx hb hd kk) (hk _ _ _ _ _ h)
    · exact h.elim
  | ishl =>
    have e := Nat.eq_of_beq_eq_true hln; subst e
    simp only [z_step] at h
    split at h
    · exact s_st (fun ad hx hb _ _ kk => lv_ishl hx hb hd kk) (hk _ _ _ _ _ h)
    · exact h.elim
  | ishr =>
    have e := Nat.eq_of_beq_eq_true hln; subst e
    simp only [z_step] at h
    split at h
    · exact s_st (fun ad hx hb _ _ kk => lv_ishr hx hb hd kk) (hk _ _ _ _ _ h)
    · exact h.elim
  | ladd =>
    have e := Nat.eq_of_beq_eq_true hln; subst e
    simp only [z_step] at h
    split at h
    · exact s_st (fun ad hx hb _ _ kk => lv_ladd hx hb hd kk) (hk _ _ _ _ _ h)
    · exact h.elim
  | lsub =>
    have e := Nat.eq_of_beq_eq_true hln; subst e
    simp only [z_step] at h
    split at h
    · exact s_st (fun ad hx hb _ _ kk => lv_lsub hx hb hd kk) (hk _ _ _ _ _ h)
    · exact h.elim
  | land =>
    have e := Nat.eq_of_beq_eq_true hln; subst e
    simp only [z_step] at h
    split at h
    · exact s_st (fun ad hx hb _ _ kk => lv_land hx hb hd kk) (hk _ _ _ _ _ h)
    · exact h.elim
  | lor =>
    have e := Nat.eq_of_beq_eq_true hln; subst e
    simp only [z_step] at h
    split at h
    · exact s_st (fun ad hx hb _ _ kk => lv_lor hx hb hd kk) (hk _ _ _ _ _ h)
    · exact h.elim
  | lxor =>
    have e := Nat.eq_of_beq_eq_true hln; subst e
    simp only [z_step] at h
    split at h
    · exact s_st (fun ad hx hb _ _ kk => lv_lxor hx hb hd kk) (hk _ _ _ _ _ h)
    · exact h.elim
  | idiv =>
    have e := Nat.eq_of_beq_eq_true hln; subst e
    simp only [z_step] at h
    split at h
    · exact s_st (fun ad hx hb _ _ kk => lv_idiv hx hb hd h.1 kk) (hk _ _ _ _ _ h.2)
    · exact h.elim
  | irem =>
    have e := Nat.eq_of_beq_eq_true hln; subst e
    simp only [z_step] at h
    split at h
    · exact s_st (fun ad hx hb _ _ kk => lv_irem hx hb hd h.1 kk) (hk _ _ _ _ _ h.2)
    · exact h.elim
  | lshl =>
    have e := Nat.eq_of_beq_eq_true hln; subst e
    simp only [z_step] at h
    split at h
    · exact s_st (fun ad hx hb _ _ kk => lv_lshl hx hb hd rfl kk) (hk _ _ _ _ _ h)
    · exact h.elim
  | lshr =>
    have e := Nat.eq_of_beq_eq_true hln; subst e
    simp only [z_step] at h
    split at h
    · exact s_st (fun ad hx hb _ _ kk => lv_lshr hx hb hd rfl kk) (hk _ _ _ _ _ h)
    · exact h.elim
  | lushr =>
    have e := Nat.eq_of_beq_eq_true hln; subst e
    simp only [z_step] at h
    split at h
    · exact s_st (fun ad hx hb _ _ kk => lv_lushr hx hb hd rfl kk) (hk _ _ _ _ _ h)
    · exact h.elim
  | i2l =>
    have e := Nat.eq_of_beq_eq_true hln; subst e
    simp only [z_step] at h
    split at h
    · exact s_st (fun ad hx hb _ _ kk => lv_i2l hx hb hd rfl kk) (hk _ _ _ _ _ h)
    · exact h.elim
  | l2i =>
    have e := Nat.eq_of_beq_eq_true hln; subst e
    simp only [z_step] at h
    split at h
    · exact s_st (fun ad hx hb _ _ kk => lv_l2i hx hb hd rfl kk) (hk _ _ _ _ _ h)
    · exact h.elim
  | i2b =>
    have e := Nat.eq_of_beq_eq_true hln; subst e
    simp only [z_step] at h
    split at h
    · exact s_st (fun ad hx hb _ _ kk => lv_i2b hx hb hd rfl kk) (hk _ _ _ _ _ h)
    · exact h.elim
  | i2c =>
    have e := Nat.eq_of_beq_eq_true hln; subst e
    simp only [z_step] at h
    split at h
    · exact s_st (fun ad hx hb _ _ kk => lv_i2c hx hb hd rfl kk) (hk _ _ _ _ _ h)
    · exact h.elim
  | lcmp =>
    have e := Nat.eq_of_beq_eq_true hln; subst e
    simp only [z_step] at h
    split at h
    · exact s_st (fun ad hx hb _ _ kk => W.lcmp hx hb hd kk) (hk _ _ _ _ _ h)
    · exact h.elim
  | ifCond c o =>
    have e := Nat.eq_of_beq_eq_true hln; subst e
    simp only [z_step] at h
    split at h
    · exact s_if hd (of_decide_eq_true hok) (fun q => hj _ _ _ _ _ _ (h.1 q)) (fun q => hk _ _ _ _ _ (h.2 q))
    · exact h.elim
  | if_icmp c o =>
    have e := Nat.eq_of_beq_eq_true hln; subst e
    simp only [z_step] at h
    split at h
    · exact s_icmp hd (of_decide_eq_true hok) (fun q => hj _ _ _ _ _ _ (h.1 q)) (fun q => hk _ _ _ _ _ (h.2 q))
    · exact h.elim
  | goto o =>
    have e := Nat.eq_of_beq_eq_true hln; subst e
    exact s_goto hd (of_decide_eq_true hok) (hj _ _ _ _ _ _ h)
  | tableswitch d lo hi os =>
    simp only [z_step] at h
    simp only [z_ok] at hok
    obtain ⟨o1, hok⟩ := z_band hok
    obtain ⟨o2, hok⟩ := z_band hok
    obtain ⟨o3, hok⟩ := z_band hok
    obtain ⟨o4, o5⟩ := z_band hok
    split at h
    · refine s_table hd (of_decide_eq_true o1) (of_decide_eq_true o2) (of_decide_eq_true o3) (of_decide_eq_true o4) (fun o ho => of_decide_eq_true (List.all_eq_true.mp o5 o ho)) (fun q => hj _ _ _ _ _ _ (h.1 q)) ?_
      refine z_sw_mono (fun t q => hj _ _ _ _ _ _ q) _ _ h.2
    · exact h.elim
  | lookupswitch d ps =>
    simp only [z_step] at h
    simp only [z_ok] at hok
    obtain ⟨o1, hok⟩ := z_band hok
    obtain ⟨o2, o3⟩ := z_band hok
    split at h
    · refine s_lookup hd (of_decide_eq_true o1) o2 (fun o ho => ?_) (z_lk_mono (fun t q => hj _ _ _ _ _ _ q) _ h)
      obtain ⟨a1, a2⟩ := z_band (List.all_eq_true.mp o3 o ho)
      obtain ⟨a3, a4⟩ := z_band a2
      exact ⟨of_decide_eq_true a1, of_decide_eq_true a3, of_decide_eq_true a4⟩
    · exact h.elim
  | iaload =>
    have e := Nat.eq_of_beq_eq_true hln; subst e
    simp only [z_step] at h
    split at h
    · exact z_al_sound0 hd hk h
    · exact h.elim
  | baload =>
    have e := Nat.eq_of_beq_eq_true hln; subst e
    simp only [z_step] at h
    split at h
    · exact z_al_sound1 hd hk h
    · exact h.elim
  | iastore =>
    have e := Nat.eq_of_beq_eq_true hln; subst e
    simp only [z_step, z_setK_eq, z_nth_eq, z_set_eq] at h
    split at h
    · split at h
      · split at h
        · next kd n f hc =>
          split at h
          · next hb => have e := Nat.eq_of_beq_eq_true hb; subst e; exact s_iast hd hc h.1 (hk _ _ _ _ _ h.2)
          · exact h.elim
        · exact h.elim
      · exact h.elim
    · exact h.elim
  | bastore =>
    have e := Nat.eq_of_beq_eq_true hln; subst e
    simp only [z_step, z_setK_eq, z_nth_eq, z_set_eq] at h
    split at h
    · split at h
      · split at h
        · next kd n f hc =>
          split at h
          · exact s_bast hd hc h.1 (hk _ _ _ _ _ h.2)
          · exact s_zast hd hc h.1 (hk _ _ _ _ _ h.2)
          · exact h.elim
        · exact h.elim
      · exact h.elim
    · exact h.elim
  | aaload =>
    have e := Nat.eq_of_beq_eq_true hln; subst e
    simp only [z_step, z_nth_eq] at h
    split at h
    · split at h
      · split at h
        · next rs hc => obtain ⟨g, h1, h2, h3⟩ := h; exact s_aald hd hc h1 h2 (hk _ _ _ _ _ h3)
        · exact h.elim
      · exact h.elim
    · exact h.elim
  | aastore =>
    have e := Nat.eq_of_beq_eq_true hln; subst e
    simp only [z_step, z_setK_eq, z_nth_eq, z_set_eq] at h
    split at h
    · split at h
      · split at h
        · next rs hc =>
          split at h
          · next ci fs hg =>
            split at h
            · next hb => exact s_aast hd hc hg (Nat.eq_of_beq_eq_true hb) h.1 (hk _ _ _ _ _ h.2)
            · exact h.elim
          · exact h.elim
        · exact h.elim
      · exact h.elim
    · exact h.elim
  | arraylength =>
    have e := Nat.eq_of_beq_eq_true hln; subst e
    simp only [z_step] at h
    split at h
    · exact z_len_sound hd hk h
    · exact h.elim
  | getfield x =>
    have e := Nat.eq_of_beq_eq_true hln; subst e
    exact z_getf_sound hd (z_elem hok) hk h
  | putfield x =>
    have e := Nat.eq_of_beq_eq_true hln; subst e
    exact z_putf_sound hd hok hk h
  | getstatic x =>
    have e := Nat.eq_of_beq_eq_true hln; subst e
    exact z_gets_sound hd hok hk h
  | invokevirtual x =>
    have e := Nat.eq_of_beq_eq_true hln; subst e
    exact z_callV_sound hd hok hk h
  | invokestatic x =>
    have e := Nat.eq_of_beq_eq_true hln; subst e
    exact z_callS_sound hd hok hk h
  | invokespecial x =>
    have e := Nat.eq_of_beq_eq_true hln; subst e
    exact z_callI_sound hd hok hk h
  | new x =>
    have e := Nat.eq_of_beq_eq_true hln; subst e
    exact z_new_sound hd hok hk h
  | newarray x =>
    have e := Nat.eq_of_beq_eq_true hln; subst e
    exact z_newa_sound hd hok hk h
  | anewarray x =>
    have e := Nat.eq_of_beq_eq_true hln; subst e
    exact z_newq_sound hd hok hk h
  | return_ =>
    have e := Nat.eq_of_beq_eq_true hln; subst e
    simp only [z_step] at h
    split at h
    · next hre =>
      split at h
      · obtain ⟨r1, r2, r3, r4⟩ := hr _ _ _ _ h; exact s_vret hd hre r1 r2 r3 r4
      · exact h.elim
    · exact h.elim
  | ireturn =>
    have e := Nat.eq_of_beq_eq_true hln; subst e
    simp only [z_step] at h
    split at h
    · split at h
      · next hre => obtain ⟨r1, r2, r3, r4⟩ := hr _ _ _ _ h; exact s_iret hd hre rfl r1 r2 r3 r4
      · next hre => obtain ⟨r1, r2, r3, r4⟩ := hr _ _ _ _ h.2; exact s_iret hd hre (z_narB h.1) r1 r2 r3 r4
      · next hre => obtain ⟨r1, r2, r3, r4⟩ := hr _ _ _ _ h.2; exact s_iret hd hre h.1 r1 r2 r3 r4
      · next hre => obtain ⟨r1, r2, r3, r4⟩ := hr _ _ _ _ h.2; exact s_iret hd hre h.1 r1 r2 r3 r4
      · exact h.elim
    · exact h.elim
  | lreturn =>
    have e := Nat.eq_of_beq_eq_true hln; subst e
    simp only [z_step] at h
    split at h
    · split at h
      · next hre => obtain ⟨r1, r2, r3, r4⟩ := hr _ _ _ _ h; exact s_lret hd hre r1 r2 r3 r4
      · exact h.elim
    · exact h.elim
  | areturn =>
    have e := Nat.eq_of_beq_eq_true hln; subst e
    simp only [z_step] at h
    split at h
    · split at h
      · next hre => obtain ⟨r1, r2, r3, r4⟩ := hr _ _ _ _ h; exact s_aret hd hre r1 r2 r3 r4
      · exact h.elim
    · exact h.elim
  | _ => exact h.elim
/-! the walk is sound -/
theorem z_blk_mem : ∀ {bs : List BK} {t : Nat} {b : List CI × Nat}, z_blk bs t = some b → (t, b) ∈ bs := by
  intro bs
  induction bs with
  | nil => intro t b h; cases h
  | cons q bs ih =>
    obtain ⟨s0, is0, f0⟩ := q
    intro t b h
    simp only [z_blk] at h
    split at h
    · next hb =>
      cases h
      rw [← Nat.eq_of_beq_eq_true hb]
      exact List.mem_cons_self
    · exact List.mem_cons_of_mem _ (ih h)
theorem wp_sound {bs : List BK} {cuts : List Nat} (hbs : z_chkM j bs = true) : ∀ (n : Nat) {is : List CI} {fall : Nat} {L : LC} {st : List Value} {σ : List AE} {ce sl : Nat}, z_chkB (k_co j) (k_ci j) (Nat.beq (k_ki j) 2) is fall = true → wp l j rk MC MS n0 X Post (k_nL j) (k_re j) bs cuts n is fall L st σ ce sl → AW l j rk MC MS n0 X Post (z_nx is fall) L st σ ce sl := by
  intro n
  induction n with
  | zero => intro is fall L st σ ce sl _ h; exact h.elim
  | succ n ih =>
    intro is fall L st σ ce sl hc h
    cases is with
    | nil =>
      simp only [wp] at h
      split at h
      · exact h
      · split at h
        · next is1 fall1 hb =>
          have hm := List.all_eq_true.mp hbs _ (z_blk_mem hb)
          obtain ⟨m1, m2⟩ := z_band hm
          have m2 := of_decide_eq_true m2
          have := ih m1 h
          rw [m2] at this
          exact this
        · exact h.elim
    | cons q is =>
      obtain ⟨pc, i, t, u⟩ := q
      simp only [wp] at h
      simp only [z_chkB] at hc
      obtain ⟨c1, c2⟩ := z_band hc
      split at c1
      · next i' len hdec =>
        obtain ⟨d1, d2⟩ := z_band c1
        obtain ⟨d2, d3⟩ := z_band d2
        obtain ⟨d3, d4⟩ := z_band d3
        have e1 := of_decide_eq_true d1
        have e2 := of_decide_eq_true d2
        subst e1
        refine z_step_sound (nx := z_nx is fall) hdec e2 d3 d4 (fun L st σ ce sl q => ih c2 q) (fun t L st σ ce sl q => ih (is := []) rfl q) (fun r σ ce sl q => ?_) h
        split at q
        · next hb =>
          obtain ⟨b1, b2⟩ := z_band hb
          obtain ⟨b2, b3⟩ := z_band b2
          exact ⟨Nat.ble_eq.mp b1, Nat.ble_eq.mp b2, b3, q⟩
        · exact q.elim
      · cases c1
/-- from a block's start -/
theorem AW.go {bs : List BK} (cuts : List Nat) (n : Nat) (hbs : z_chkM j bs = true) (h : match z_blk bs pc with
    | some (is, fall) => wp l j rk MC MS n0 X Post (k_nL j) (k_re j) bs cuts n is fall L st σ ce sl
    | none => False) : AW l j rk MC MS n0 X Post pc L st σ ce sl := by
  split at h
  · next is1 fall1 hb =>
    have hm := List.all_eq_true.mp hbs _ (z_blk_mem hb)
    obtain ⟨m1, m2⟩ := z_band hm
    have m2 := of_decide_eq_true m2
    have := wp_sound hbs n m1 h
    rw [m2] at this
    exact this
  · exact h.elim
end ZX
/-- a contract out of the walk -/
theorem z_lay_kn (ad : Nat → Nat) : ∀ (vs : List Value) (k : Nat), lv_args k (vs.map (z_cv ad)) = z_kn ad k (z_lay vs) := by
  intro vs
  induction vs with
  | nil => intro k; rfl
  | cons v vs ih =>
    intro k
    cases v <;> simp [lv_args, z_lay, z_kn, z_cv, Value.category, ih]
theorem z_kn_app (ad : Nat → Nat) : ∀ (L : LC) (k m : Nat), z_kn ad k (L ++ List.replicate m none) = z_kn ad k L := by
  intro L
  induction L with
  | nil =>
    intro k m
    induction m generalizing k with
    | zero => rfl
    | succ m ih => simpa [List.replicate_succ, z_kn] using ih (k + 1)
  | cons o L ih => intro k m; cases o <;> simp [z_kn, ih]
theorem z_lay_len (ad : Nat → Nat) (vs : List Value) : (lg_sl (vs.map (z_cv ad))).length = (z_lay vs).length := by
  induction vs with
  | nil => rfl
  | cons v vs ih =>
    have e : lg_sl (z_cv ad v :: vs.map (z_cv ad)) = (if (z_cv ad v).category = 2 then [Slot.val (z_cv ad v), .second] else [.val (z_cv ad v)]) ++ lg_sl (vs.map (z_cv ad)) := by simp [lg_sl]
    rw [List.map_cons, e, List.length_append, ih]
    cases v <;> simp [z_lay, z_cv, Value.category] <;> omega
theorem z_V.of {l : Launch} {j : Nat} {sp : Sp} (hp : plainName (k_cn (k_ci j)) = true)
    (h : ∀ as σ K, sp.2.2.2.2 as σ K → z_ent as (k_nL j) (fun L => AW l j sp.1 sp.2.1 sp.2.2.1 σ.length none (fun r σ' => (σ' = σ ∧ K r none) ∨ K r (some σ')) 0 L [] σ 0 0)) : z_V l j sp := by
  intro as σ K htr D cy ad sz
  obtain ⟨mm, haw, hlen⟩ := z_ent_spec _ _ _ (h as σ K htr)
  refine Met.ofW (cc := k_co j) (maxL := k_nL j) (ret := k_re j) hp rfl ?_
  intro p e s m args below meth c s₁ B hml hv
  obtain ⟨rfl, hsz, hlt, hP, hK, hD0, hE⟩ := hv
  have hts := atoms_spec (ws := z_ws j) B.pre
  have hown : s.vm.findClass (k_cn (k_ci j)) = some m.cls := findClass_of_methodNamed B.named
  subst hsz
  have hD := hD0.self (sz := s.heap.size)
  rw [lg_entry_eq]
  have hl := lv_entry (as.map (z_cv ad)) (n := k_nL j) (by rw [z_lay_len]; omega)
  rw [z_lay_kn, ← z_kn_app ad (z_lay as) 0 mm] at hl
  exact haw p e s m _ below meth c D cy ad _ ⟨B.exec, B.bytes, hml, B.returns, B.notSynchronized, fun hk => (name_of_methodNamed B.named B.method).1.trans (by
    have hkk : ∀ q ∈ k_mL, q.2.2.2.2.2.2.2 = 2 → q.2.1 = "<init>" := by decide +kernel
    by_cases hj : j < k_mL.length
    · have h2 : k_mL[j]? = some (k_m j) := by
        unfold k_m
        rw [List.getD_eq_getElem?_getD, List.getElem?_eq_getElem hj]
        rfl
      exact hkk _ (List.mem_of_getElem? h2) hk
    · have : k_m j = (0, "", "", code, 0, none, 0, 9) := by
        unfold k_m
        rw [List.getD_eq_getElem?_getD, List.getElem?_eq_none (by omega)]
        rfl
      simp [k_ki, this] at hk), hown, fun w hw => hts w (List.mem_cons_of_mem _ hw), hK, hE, fun q hq => Or.inr hq⟩ ad _ s.heap [] (fun _ _ => rfl) (Nat.le_refl _) (by omega) hlt hl hP hD va_S.rf
end
section
def b_Desk_init : List BK := [(0, [(0, .aload_n 0, 0, 0), (1, .invokespecial 3, 1003, 0), (4, .aload_n 0, 0, 0), (5, .aload_n 1, 0, 0), (6, .putfield 9, 0, 0), (9, .aload_n 0, 0, 0), (10, .bipush 16, 16, 0), (12, .newarray .int, 0, 0), (14, .putfield 15, 1, 0), (17, .aload_n 0, 0, 0), (18, .iconst (-1), 1, 1), (19, .putfield 19, 2, 0), (22, .aload_n 0, 0, 0), (23, .iconst 0, 0, 0), (24, .putfield 23, 3, 0), (27, .aload_n 0, 0, 0), (28, .iconst 0, 0, 0), (29, .putfield 26, 4, 0), (32, .aload_n 0, 0, 0), (33, .iconst 0, 0, 0), (34, .putfield 29, 5, 0), (37, .aload_n 0, 0, 0), (38, .iconst 0, 0, 0), (39, .putfield 32, 6, 0), (42, .aload_n 0, 0, 0), (43, .iconst 0, 0, 0), (44, .putfield 35, 7, 0), (47, .aload_n 0, 0, 0), (48, .iconst 2, 2, 0), (49, .putfield 38, 8, 0), (52, .return_, 0, 0)], 53)]
theorem t_Desk_init : z_chkM 0 b_Desk_init = true := by decide +kernel
def b_Desk_ask : List BK := [(0, [(0, .aload_n 0, 0, 0), (1, .getfield 9, 0, 0), (4, .iload_n 2, 0, 0), (5, .iload_n 3, 0, 0), (6, .invokevirtual 41, 61, 3), (9, .istore 4, 0, 0), (11, .iload 4, 0, 0), (13, .iconst (-1), 1, 1), (14, .if_icmp .ne 10, 24, 0)], 17),
  (17, [(17, .aload_n 0, 0, 0), (18, .iconst 2, 2, 0), (19, .putfield 38, 8, 0), (22, .iconst 0, 0, 0), (23, .ireturn, 0, 0)], 24),
  (24, [(24, .aload_n 0, 0, 0), (25, .getfield 9, 0, 0), (28, .iload_n 3, 0, 0), (29, .aload_n 1, 0, 0), (30, .getfield 47, 7, 2), (33, .invokevirtual 52, 62, 3), (36, .aload_n 1, 0, 0), (37, .getfield 55, 6, 2), (40, .invokestatic 58, 131, 1), (43, .ior, 0, 0), (44, .istore 5, 0, 0), (46, .iload 4, 0, 0), (48, .aload_n 1, 0, 0), (49, .getfield 62, 0, 2), (52, .if_icmp .ne 10, 62, 0)], 55),
  (55, [(55, .aload_n 0, 0, 0), (56, .iconst 4, 4, 0), (57, .putfield 38, 8, 0), (60, .iconst 0, 0, 0), (61, .ireturn, 0, 0)], 62),
  (62, [(62, .aload_n 0, 0, 0), (63, .iload 5, 0, 0), (65, .iload 4, 0, 0), (67, .invokestatic 65, 130, 2), (70, .ifCond .eq 7, 77, 0)], 73),
  (73, [(73, .iconst 3, 3, 0), (74, .goto 4, 78, 0)], 77),
  (77, [(77, .iconst 5, 5, 0)], 78),
  (78, [(78, .putfield 38, 8, 0), (81, .aload_n 0, 0, 0), (82, .aload_n 1, 0, 0), (83, .getfield 62, 0, 2), (86, .putfield 19, 2, 0), (89, .aload_n 0, 0, 0), (90, .iload_n 3, 0, 0), (91, .putfield 23, 3, 0), (94, .aload_n 0, 0, 0), (95, .iload 5, 0, 0), (97, .aload_n 0, 0, 0), (98, .getfield 9, 0, 0), (101, .aload_n 1, 0, 0), (102, .getfield 69, 1, 2), (105, .invokevirtual 72, 63, 2), (108, .ior, 0, 0), (109, .putfield 26, 4, 0), (112, .aload_n 0, 0, 0), (113, .iconst 0, 0, 0), (114, .putfield 29, 5, 0), (117, .aload_n 0, 0, 0), (118, .iload 4, 0, 0), (120, .aload_n 0, 0, 0), (121, .getfield 9, 0, 0), (124, .iconst 4, 4, 0), (125, .iload_n 2, 0, 0), (126, .iconst 1, 1, 0), (127, .aload_n 1, 0, 0), (128, .getfield 75, 2, 2), (131, .iadd, 0, 0), (132, .invokevirtual 78, 52, 4), (135, .iconst 0, 0, 0), (136, .invokevirtual 82, 2, 4), (139, .ireturn, 0, 0)], 140)]
theorem t_Desk_ask : z_chkM 1 b_Desk_ask = true := by decide +kernel
def b_Desk_askOne : List BK := [(0, [(0, .iload_n 3, 0, 0), (1, .bipush 16, 16, 0), (3, .if_icmp .lt 5, 8, 0)], 6),
  (6, [(6, .iconst 0, 0, 0), (7, .ireturn, 0, 0)], 8),
  (8, [(8, .aload_n 0, 0, 0), (9, .dup, 0, 0), (10, .getfield 29, 5, 0), (13, .iconst 1, 1, 0), (14, .iload_n 1, 0, 0), (15, .ishl, 0, 0), (16, .ior, 0, 0), (17, .putfield 29, 5, 0), (20, .aload_n 0, 0, 0), (21, .getfield 15, 1, 0), (24, .iload_n 3, 0, 0), (25, .iload_n 1, 0, 0), (26, .iastore, 0, 0), (27, .iload_n 1, 0, 0), (28, .aload_n 0, 0, 0), (29, .getfield 19, 2, 0), (32, .if_icmp .ne 5, 37, 0)], 35),
  (35, [(35, .iconst 0, 0, 0), (36, .ireturn, 0, 0)], 37),
  (37, [(37, .aload_n 0, 0, 0), (38, .getfield 26, 4, 0), (41, .iload_n 1, 0, 0), (42, .invokestatic 65, 130, 2), (45, .ifCond .ne 15, 60, 0)], 48),
  (48, [(48, .aload_n 0, 0, 0), (49, .iload_n 3, 0, 0), (50, .putfield 32, 6, 0), (53, .aload_n 0, 0, 0), (54, .iload_n 2, 0, 0), (55, .putfield 35, 7, 0), (58, .iconst 1, 1, 0), (59, .ireturn, 0, 0)], 60),
  (60, [(60, .iconst 0, 0, 0), (61, .istore 4, 0, 0)], 63),
  (63, [(63, .iload 4, 0, 0), (65, .aload_n 0, 0, 0), (66, .getfield 9, 0, 0), (69, .getfield 86, 1, 6), (72, .iconst 2, 2, 0), (73, .iaload, 0, 0), (74, .if_icmp .ge 102, 176, 0)], 77),
  (77, [(77, .aload_n 0, 0, 0), (78, .getfield 9, 0, 0), (81, .iconst 2, 2, 0), (82, .iload 4, 0, 0), (84, .iconst 0, 0, 0), (85, .invokevirtual 78, 52, 4), (88, .iload_n 1, 0, 0), (89, .if_icmp .ne 81, 170, 0)], 92),
  (92, [(92, .aload_n 0, 0, 0), (93, .getfield 9, 0, 0), (96, .iconst 2, 2, 0), (97, .iload 4, 0, 0), (99, .aload_n 0, 0, 0), (100, .getfield 23, 3, 0), (103, .invokevirtual 89, 60, 4), (106, .ifCond .ne 6, 112, 0)], 109),
  (109, [(109, .goto 61, 170, 0)], 112),
  (112, [(112, .aload_n 0, 0, 0), (113, .getfield 9, 0, 0), (116, .iconst 2, 2, 0), (117, .iload 4, 0, 0), (119, .iconst 1, 1, 0), (120, .invokevirtual 78, 52, 4), (123, .istore 5, 0, 0), (125, .iload_n 2, 0, 0), (126, .aload_n 0, 0, 0), (127, .getfield 9, 0, 0), (130, .iconst 2, 2, 0), (131, .iload 4, 0, 0), (133, .iconst 4, 4, 0), (134, .invokevirtual 78, 52, 4), (137, .invokestatic 92, 1001, 0), (140, .istore 6, 0, 0), (142, .aload_n 0, 0, 0), (143, .getfield 29, 5, 0), (146, .iload 5, 0, 0), (148, .invokestatic 65, 130, 2), (151, .ifCond .ne 19, 170, 0)], 154),
  (154, [(154, .aload_n 0, 0, 0), (155, .iload 5, 0, 0), (157, .iload 6, 0, 0), (159, .iload_n 3, 0, 0), (160, .iconst 1, 1, 0), (161, .iadd, 0, 0), (162, .invokevirtual 82, 2, 4), (165, .ifCond .eq 5, 170, 0)], 168),
  (168, [(168, .iconst 1, 1, 0), (169, .ireturn, 0, 0)], 170),
  (170, [(170, .iinc 4 1, 1, 0), (173, .goto (-110), 63, 0)], 176),
  (176, [(176, .iconst 0, 0, 0), (177, .ireturn, 0, 0)], 178)]
theorem t_Desk_askOne : z_chkM 2 b_Desk_askOne = true := by decide +kernel
def b_Desk_inLine : List BK := [(0, [(0, .iload_n 1, 0, 0), (1, .ifCond .lt 18, 19, 0)], 4),
  (4, [(4, .iload_n 1, 0, 0), (5, .bipush 16, 16, 0), (7, .if_icmp .ge 12, 19, 0)], 10),
  (10, [(10, .aload_n 0, 0, 0), (11, .getfield 15, 1, 0), (14, .iload_n 1, 0, 0), (15, .iaload, 0, 0), (16, .goto 4, 20, 0)], 19),
  (19, [(19, .iconst (-1), 1, 1)], 20),
  (20, [(20, .ireturn, 0, 0)], 21)]
theorem t_Desk_inLine : z_chkM 3 b_Desk_inLine = true := by decide +kernel
def b_Desk_decider : List BK := [(0, [(0, .aload_n 0, 0, 0), (1, .getfield 15, 1, 0), (4, .aload_n 0, 0, 0), (5, .getfield 32, 6, 0), (8, .iaload, 0, 0), (9, .ireturn, 0, 0)], 10)]
theorem t_Desk_decider : z_chkM 4 b_Desk_decider = true := by decide +kernel
def b_Letter_init : List BK := [(0, [(0, .aload_n 0, 0, 0), (1, .invokespecial 3, 1003, 0), (4, .aload_n 0, 0, 0), (5, .iconst (-1), 1, 1), (6, .putfield 9, 0, 1), (9, .aload_n 0, 0, 0), (10, .iconst 0, 0, 0), (11, .putfield 15, 1, 1), (14, .aload_n 0, 0, 0), (15, .bipush (-2), 2, 1), (17, .putfield 18, 2, 1), (20, .return_, 0, 0)], 21)]
theorem t_Letter_init : z_chkM 5 b_Letter_init = true := by decide +kernel
def b_Letter_byteOf : List BK := [(0, [(0, .aload_n 0, 0, 0), (1, .iload_n 2, 0, 0), (2, .putfield 9, 0, 1), (5, .aload_n 0, 0, 0), (6, .iconst 0, 0, 0), (7, .putfield 15, 1, 1), (10, .aload_n 0, 0, 0), (11, .bipush (-2), 2, 1), (13, .putfield 18, 2, 1), (16, .aload_n 0, 0, 0), (17, .aload_n 1, 0, 0), (18, .iconst 4, 4, 0), (19, .invokevirtual 21, 7, 3), (22, .iconst 0, 0, 0), (23, .istore_n 3, 0, 0)], 24),
  (24, [(24, .iload_n 3, 0, 0), (25, .iconst 3, 3, 0), (26, .if_icmp .gt 15, 41, 0)], 29),
  (29, [(29, .aload_n 0, 0, 0), (30, .aload_n 1, 0, 0), (31, .iload_n 3, 0, 0), (32, .invokevirtual 21, 7, 3), (35, .iinc 3 1, 1, 0), (38, .goto (-14), 24, 0)], 41),
  (41, [(41, .iconst 0, 0, 0), (42, .istore_n 3, 0, 0)], 43),
  (43, [(43, .iload_n 3, 0, 0), (44, .iconst 3, 3, 0), (45, .if_icmp .ge 41, 86, 0)], 48),
  (48, [(48, .aload_n 1, 0, 0), (49, .getfield 25, 2, 6), (52, .iload_n 3, 0, 0), (53, .iaload, 0, 0), (54, .getstatic 31, 4, 1), (57, .iload_n 3, 0, 0), (58, .iaload, 0, 0), (59, .if_icmp .eq 21, 80, 0)], 62),
  (62, [(62, .aload_n 0, 0, 0), (63, .bipush 6, 6, 0), (65, .iload_n 3, 0, 0), (66, .iadd, 0, 0), (67, .invokevirtual 34, 8, 2), (70, .aload_n 0, 0, 0), (71, .aload_n 1, 0, 0), (72, .getfield 25, 2, 6), (75, .iload_n 3, 0, 0), (76, .iaload, 0, 0), (77, .invokevirtual 38, 9, 2)], 80),
  (80, [(80, .iinc 3 1, 1, 0), (83, .goto (-40), 43, 0)], 86),
  (86, [(86, .iload_n 2, 0, 0), (87, .iconst (-1), 1, 1), (88, .if_icmp .ne 10, 98, 0)], 91),
  (91, [(91, .aload_n 0, 0, 0), (92, .getfield 15, 1, 1), (95, .goto 7, 102, 0)], 98),
  (98, [(98, .aload_n 0, 0, 0), (99, .getfield 18, 2, 1)], 102),
  (102, [(102, .ireturn, 0, 0)], 103)]
theorem t_Letter_byteOf : z_chkM 6 b_Letter_byteOf = true := by decide +kernel
def b_Letter_tellRows : List BK := [(0, [(0, .iconst 0, 0, 0), (1, .istore_n 3, 0, 0)], 2),
  (2, [(2, .iload_n 3, 0, 0), (3, .aload_n 1, 0, 0), (4, .getfield 41, 1, 6), (7, .iload_n 2, 0, 0), (8, .iaload, 0, 0), (9, .if_icmp .ge 45, 54, 0)], 12),
  (12, [(12, .aload_n 0, 0, 0), (13, .iload_n 2, 0, 0), (14, .invokevirtual 34, 8, 2), (17, .iconst 0, 0, 0), (18, .istore 4, 0, 0)], 20),
  (20, [(20, .iload 4, 0, 0), (22, .getstatic 44, 0, 1), (25, .iload_n 2, 0, 0), (26, .iaload, 0, 0), (27, .if_icmp .ge 21, 48, 0)], 30),
  (30, [(30, .aload_n 0, 0, 0), (31, .aload_n 1, 0, 0), (32, .iload_n 2, 0, 0), (33, .iload_n 3, 0, 0), (34, .iload 4, 0, 0), (36, .invokevirtual 47, 52, 4), (39, .invokevirtual 38, 9, 2), (42, .iinc 4 1, 1, 0), (45, .goto (-25), 20, 0)], 48),
  (48, [(48, .iinc 3 1, 1, 0), (51, .goto (-49), 2, 0)], 54),
  (54, [(54, .return_, 0, 0)], 55)]
theorem t_Letter_tellRows : z_chkM 7 b_Letter_tellRows = true := by decide +kernel
def b_Letter_beginPart : List BK := [(0, [(0, .aload_n 0, 0, 0), (1, .getfield 15, 1, 1), (4, .ifCond .le 9, 13, 0)], 7),
  (7, [(7, .aload_n 0, 0, 0), (8, .bipush 59, 59, 0), (10, .invokevirtual 51, 11, 2)], 13),
  (13, [(13, .aload_n 0, 0, 0), (14, .iload_n 1, 0, 0), (15, .invokestatic 55, 145, 1), (18, .invokevirtual 59, 10, 2), (21, .return_, 0, 0)], 22)]
theorem t_Letter_beginPart : z_chkM 8 b_Letter_beginPart = true := by decide +kernel
def b_Letter_writeNumber : List BK := [(0, [(0, .aload_n 0, 0, 0), (1, .bipush 32, 32, 0), (3, .invokevirtual 51, 11, 2), (6, .iload_n 1, 0, 0), (7, .ifCond .ge 10, 17, 0)], 10),
  (10, [(10, .aload_n 0, 0, 0), (11, .ldc 63, 14, 0), (13, .invokevirtual 59, 10, 2), (16, .return_, 0, 0)], 17),
  (17, [(17, .sipush 1000, 1000, 0), (20, .istore_n 2, 0, 0)], 21),
  (21, [(21, .iload_n 2, 0, 0), (22, .ifCond .le 35, 57, 0)], 25),
  (25, [(25, .iload_n 1, 0, 0), (26, .iload_n 2, 0, 0), (27, .if_icmp .ge 8, 35, 0)], 30),
  (30, [(30, .iload_n 2, 0, 0), (31, .iconst 1, 1, 0), (32, .if_icmp .ne 17, 49, 0)], 35),
  (35, [(35, .aload_n 0, 0, 0), (36, .bipush 48, 48, 0), (38, .iload_n 1, 0, 0), (39, .iload_n 2, 0, 0), (40, .idiv, 0, 0), (41, .bipush 10, 10, 0), (43, .irem, 0, 0), (44, .iadd, 0, 0), (45, .i2c, 0, 0), (46, .invokevirtual 51, 11, 2)], 49),
  (49, [(49, .iload_n 2, 0, 0), (50, .bipush 10, 10, 0), (52, .idiv, 0, 0), (53, .istore_n 2, 0, 0), (54, .goto (-33), 21, 0)], 57),
  (57, [(57, .return_, 0, 0)], 58)]
theorem t_Letter_writeNumber : z_chkM 9 b_Letter_writeNumber = true := by decide +kernel
def b_Letter_writeWord : List BK := [(0, [(0, .iconst 0, 0, 0), (1, .istore_n 2, 0, 0)], 2),
  (2, [(2, .iload_n 2, 0, 0), (3, .aload_n 1, 0, 0), (4, .invokevirtual 65, 276, 1), (7, .if_icmp .ge 18, 25, 0)], 10),
  (10, [(10, .aload_n 0, 0, 0), (11, .aload_n 1, 0, 0), (12, .iload_n 2, 0, 0), (13, .invokevirtual 71, 272, 2), (16, .invokevirtual 51, 11, 2), (19, .iinc 2 1, 1, 0), (22, .goto (-20), 2, 0)], 25),
  (25, [(25, .return_, 0, 0)], 26)]
theorem t_Letter_writeWord : z_chkM 10 b_Letter_writeWord = true := by decide +kernel
def b_Letter_write : List BK := [(0, [(0, .aload_n 0, 0, 0), (1, .getfield 15, 1, 1), (4, .aload_n 0, 0, 0), (5, .getfield 9, 0, 1), (8, .if_icmp .ne 8, 16, 0)], 11),
  (11, [(11, .aload_n 0, 0, 0), (12, .iload_n 1, 0, 0), (13, .putfield 18, 2, 1)], 16),
  (16, [(16, .aload_n 0, 0, 0), (17, .dup, 0, 0), (18, .getfield 15, 1, 1), (21, .iconst 1, 1, 0), (22, .iadd, 0, 0), (23, .putfield 15, 1, 1), (26, .return_, 0, 0)], 27)]
theorem t_Letter_write : z_chkM 11 b_Letter_write = true := by decide +kernel
def b_Matter_init : List BK := [(0, [(0, .aload_n 0, 0, 0), (1, .invokespecial 3, 1003, 0), (4, .aload_n 0, 0, 0), (5, .iconst (-1), 1, 1), (6, .iconst (-1), 1, 1), (7, .iconst 0, 0, 0), (8, .invokevirtual 9, 13, 4), (11, .return_, 0, 0)], 12)]
theorem t_Matter_init : z_chkM 12 b_Matter_init = true := by decide +kernel
def b_Matter_begin : List BK := [(0, [(0, .aload_n 0, 0, 0), (1, .iload_n 1, 0, 0), (2, .putfield 15, 0, 2), (5, .aload_n 0, 0, 0), (6, .iload_n 2, 0, 0), (7, .putfield 19, 1, 2), (10, .aload_n 0, 0, 0), (11, .iload_n 3, 0, 0), (12, .putfield 22, 2, 2), (15, .aload_n 0, 0, 0), (16, .iconst 0, 0, 0), (17, .putfield 25, 3, 2), (20, .aload_n 0, 0, 0), (21, .iconst 0, 0, 0), (22, .putfield 28, 4, 2), (25, .aload_n 0, 0, 0), (26, .iconst 0, 0, 0), (27, .putfield 31, 5, 2), (30, .aload_n 0, 0, 0), (31, .iconst (-1), 1, 1), (32, .putfield 34, 6, 2), (35, .aload_n 0, 0, 0), (36, .iconst (-1), 1, 1), (37, .putfield 37, 7, 2), (40, .return_, 0, 0)], 41)]
theorem t_Matter_begin : z_chkM 13 b_Matter_begin = true := by decide +kernel
def b_Past_init : List BK := [(0, [(0, .aload_n 0, 0, 0), (1, .invokespecial 3, 1003, 0), (4, .aload_n 0, 0, 0), (5, .bipush 10, 10, 0), (7, .anewarray 9, 0, 6), (10, .putfield 11, 0, 3), (13, .iconst 0, 0, 0), (14, .istore_n 1, 0, 0)], 15),
  (15, [(15, .iload_n 1, 0, 0), (16, .bipush 10, 10, 0), (18, .if_icmp .ge 22, 40, 0)], 21),
  (21, [(21, .aload_n 0, 0, 0), (22, .getfield 11, 0, 3), (25, .iload_n 1, 0, 0), (26, .new 9, 0, 6), (29, .dup, 0, 0), (30, .invokespecial 17, 47, 1), (33, .aastore, 0, 0), (34, .iinc 1 1, 1, 0), (37, .goto (-22), 15, 0)], 40),
  (40, [(40, .aload_n 0, 0, 0), (41, .iconst 0, 0, 0), (42, .putfield 18, 1, 3), (45, .aload_n 0, 0, 0), (46, .iconst 0, 0, 0), (47, .putfield 22, 2, 3), (50, .return_, 0, 0)], 51)]
theorem t_Past_init : z_chkM 14 b_Past_init = true := by decide +kernel
def b_Past_forget : List BK := [(0, [(0, .aload_n 0, 0, 0), (1, .iconst 0, 0, 0), (2, .putfield 22, 2, 3), (5, .return_, 0, 0)], 6)]
theorem t_Past_forget : z_chkM 15 b_Past_forget = true := by decide +kernel
def b_Past_remember : List BK := [(0, [(0, .aload_n 0, 0, 0), (1, .getfield 22, 2, 3), (4, .bipush 10, 10, 0), (6, .if_icmp .ne 26, 32, 0)], 9),
  (9, [(9, .aload_n 0, 0, 0), (10, .aload_n 0, 0, 0), (11, .getfield 18, 1, 3), (14, .iconst 1, 1, 0), (15, .iadd, 0, 0), (16, .bipush 10, 10, 0), (18, .irem, 0, 0), (19, .putfield 18, 1, 3), (22, .aload_n 0, 0, 0), (23, .dup, 0, 0), (24, .getfield 22, 2, 3), (27, .iconst 1, 1, 0), (28, .isub, 0, 0), (29, .putfield 22, 2, 3)], 32),
  (32, [(32, .aload_n 0, 0, 0), (33, .getfield 11, 0, 3), (36, .aload_n 0, 0, 0), (37, .getfield 18, 1, 3), (40, .aload_n 0, 0, 0), (41, .getfield 22, 2, 3), (44, .iadd, 0, 0), (45, .bipush 10, 10, 0), (47, .irem, 0, 0), (48, .aaload, 0, 0), (49, .aload_n 1, 0, 0), (50, .invokevirtual 25, 49, 2), (53, .aload_n 0, 0, 0), (54, .dup, 0, 0), (55, .getfield 22, 2, 3), (58, .iconst 1, 1, 0), (59, .iadd, 0, 0), (60, .putfield 22, 2, 3), (63, .return_, 0, 0)], 64)]
theorem t_Past_remember : z_chkM 16 b_Past_remember = true := by decide +kernel
def b_Past_takeBack : List BK := [(0, [(0, .aload_n 0, 0, 0), (1, .getfield 22, 2, 3), (4, .ifCond .ne 5, 9, 0)], 7),
  (7, [(7, .iconst (-1), 1, 1), (8, .ireturn, 0, 0)], 9),
  (9, [(9, .aload_n 0, 0, 0), (10, .dup, 0, 0), (11, .getfield 22, 2, 3), (14, .iconst 1, 1, 0), (15, .isub, 0, 0), (16, .putfield 22, 2, 3), (19, .aload_n 1, 0, 0), (20, .aload_n 0, 0, 0), (21, .getfield 11, 0, 3), (24, .aload_n 0, 0, 0), (25, .getfield 18, 1, 3), (28, .aload_n 0, 0, 0), (29, .getfield 22, 2, 3), (32, .iadd, 0, 0), (33, .bipush 10, 10, 0), (35, .irem, 0, 0), (36, .aaload, 0, 0), (37, .invokevirtual 25, 49, 2), (40, .aload_n 0, 0, 0), (41, .getfield 22, 2, 3), (44, .ireturn, 0, 0)], 45)]
theorem t_Past_takeBack : z_chkM 17 b_Past_takeBack = true := by decide +kernel
def b_Reader_init : List BK := [(0, [(0, .aload_n 0, 0, 0), (1, .invokespecial 3, 1003, 0), (4, .aload_n 0, 0, 0), (5, .aload_n 1, 0, 0), (6, .putfield 9, 0, 4), (9, .aload_n 0, 0, 0), (10, .aload_n 2, 0, 0), (11, .putfield 15, 1, 4), (14, .aload_n 0, 0, 0), (15, .iconst 5, 5, 0), (16, .newarray .int, 0, 0), (18, .putfield 19, 2, 4), (21, .aload_n 0, 0, 0), (22, .iconst 0, 0, 0), (23, .putfield 23, 3, 4), (26, .aload_n 0, 0, 0), (27, .iconst 0, 0, 0), (28, .putfield 27, 4, 4), (31, .aload_n 0, 0, 0), (32, .iconst 0, 0, 0), (33, .putfield 30, 5, 4), (36, .return_, 0, 0)], 37)]
theorem t_Reader_init : z_chkM 18 b_Reader_init = true := by decide +kernel
def b_Reader_read : List BK := [(0, [(0, .aload_n 0, 0, 0), (1, .getfield 15, 1, 4), (4, .invokevirtual 33, 48, 1), (7, .aload_n 0, 0, 0), (8, .iconst 0, 0, 0), (9, .putfield 23, 3, 4), (12, .aload_n 0, 0, 0), (13, .iconst 0, 0, 0), (14, .putfield 27, 4, 4), (17, .aload_n 0, 0, 0), (18, .iconst 0, 0, 0), (19, .putfield 30, 5, 4), (22, .aload_n 0, 0, 0), (23, .invokevirtual 38, 21, 1), (26, .aload_n 0, 0, 0), (27, .getfield 23, 3, 4), (30, .aload_n 0, 0, 0), (31, .getfield 9, 0, 4), (34, .getfield 41, 1, 7), (37, .if_icmp .ge 7, 44, 0)], 40),
  (40, [(40, .iconst 1, 1, 0), (41, .goto 4, 45, 0)], 44),
  (44, [(44, .iconst 0, 0, 0)], 45),
  (45, [(45, .istore_n 1, 0, 0), (46, .iconst 0, 0, 0), (47, .istore_n 2, 0, 0)], 48),
  (48, [(48, .iload_n 1, 0, 0), (49, .ifCond .eq 40, 89, 0)], 52),
  (52, [(52, .iload_n 2, 0, 0), (53, .sipush 400, 400, 0), (56, .if_icmp .ge 33, 89, 0)], 59),
  (59, [(59, .aload_n 0, 0, 0), (60, .invokevirtual 46, 23, 1), (63, .aload_n 0, 0, 0), (64, .getfield 27, 4, 4), (67, .ifCond .ne 14, 81, 0)], 70),
  (70, [(70, .aload_n 0, 0, 0), (71, .invokevirtual 49, 22, 1), (74, .ifCond .eq 7, 81, 0)], 77),
  (77, [(77, .iconst 1, 1, 0), (78, .goto 4, 82, 0)], 81),
  (81, [(81, .iconst 0, 0, 0)], 82),
  (82, [(82, .istore_n 1, 0, 0), (83, .iinc 2 1, 1, 0), (86, .goto (-38), 48, 0)], 89),
  (89, [(89, .aload_n 0, 0, 0), (90, .getfield 27, 4, 4), (93, .ireturn, 0, 0)], 94)]
theorem t_Reader_read : z_chkM 19 b_Reader_read = true := by decide +kernel
def b_Reader_fail : List BK := [(0, [(0, .aload_n 0, 0, 0), (1, .bipush 8, 8, 0), (3, .iload_n 1, 0, 0), (4, .imul, 0, 0), (5, .iload_n 2, 0, 0), (6, .iadd, 0, 0), (7, .putfield 27, 4, 4), (10, .return_, 0, 0)], 11)]
theorem t_Reader_fail : z_chkM 20 b_Reader_fail = true := by decide +kernel
def b_Reader_skipBlanks : List BK := [(0, [(0, .aload_n 0, 0, 0), (1, .getfield 23, 3, 4), (4, .aload_n 0, 0, 0), (5, .getfield 9, 0, 4), (8, .getfield 41, 1, 7), (11, .if_icmp .ge 32, 43, 0)], 14),
  (14, [(14, .aload_n 0, 0, 0), (15, .getfield 9, 0, 4), (18, .aload_n 0, 0, 0), (19, .getfield 23, 3, 4), (22, .invokevirtual 53, 70, 2), (25, .bipush 32, 32, 0), (27, .if_icmp .ne 16, 43, 0)], 30),
  (30, [(30, .aload_n 0, 0, 0), (31, .dup, 0, 0), (32, .getfield 23, 3, 4), (35, .iconst 1, 1, 0), (36, .iadd, 0, 0), (37, .putfield 23, 3, 4), (40, .goto (-40), 0, 0)], 43),
  (43, [(43, .return_, 0, 0)], 44)]
theorem t_Reader_skipBlanks : z_chkM 21 b_Reader_skipBlanks = true := by decide +kernel
def b_Reader_readSemicolon : List BK := [(0, [(0, .aload_n 0, 0, 0), (1, .getfield 23, 3, 4), (4, .aload_n 0, 0, 0), (5, .getfield 9, 0, 4), (8, .getfield 41, 1, 7), (11, .if_icmp .lt 5, 16, 0)], 14),
  (14, [(14, .iconst 0, 0, 0), (15, .ireturn, 0, 0)], 16),
  (16, [(16, .aload_n 0, 0, 0), (17, .getfield 9, 0, 4), (20, .aload_n 0, 0, 0), (21, .getfield 23, 3, 4), (24, .invokevirtual 53, 70, 2), (27, .bipush 59, 59, 0), (29, .if_icmp .eq 14, 43, 0)], 32),
  (32, [(32, .aload_n 0, 0, 0), (33, .aload_n 0, 0, 0), (34, .getfield 23, 3, 4), (37, .iconst 1, 1, 0), (38, .invokevirtual 57, 20, 3), (41, .iconst 0, 0, 0), (42, .ireturn, 0, 0)], 43),
  (43, [(43, .aload_n 0, 0, 0), (44, .dup, 0, 0), (45, .getfield 23, 3, 4), (48, .iconst 1, 1, 0), (49, .iadd, 0, 0), (50, .putfield 23, 3, 4), (53, .aload_n 0, 0, 0), (54, .invokevirtual 38, 21, 1), (57, .iconst 1, 1, 0), (58, .ireturn, 0, 0)], 59)]
theorem t_Reader_readSemicolon : z_chkM 22 b_Reader_readSemicolon = true := by decide +kernel
def b_Reader_readPart : List BK := [(0, [(0, .aload_n 0, 0, 0), (1, .invokevirtual 61, 24, 1), (4, .istore_n 1, 0, 0), (5, .aload_n 0, 0, 0), (6, .iload_n 1, 0, 0), (7, .invokevirtual 65, 25, 2), (10, .istore_n 2, 0, 0), (11, .iload_n 2, 0, 0), (12, .iconst (-1), 1, 1), (13, .if_icmp .ne 13, 26, 0)], 16),
  (16, [(16, .aload_n 0, 0, 0), (17, .aload_n 0, 0, 0), (18, .getfield 23, 3, 4), (21, .iconst 1, 1, 0), (22, .invokevirtual 57, 20, 3), (25, .return_, 0, 0)], 26),
  (26, [(26, .aload_n 0, 0, 0), (27, .iload_n 2, 0, 0), (28, .invokevirtual 68, 27, 2), (31, .ifCond .eq 13, 44, 0)], 34),
  (34, [(34, .aload_n 0, 0, 0), (35, .aload_n 0, 0, 0), (36, .getfield 23, 3, 4), (39, .iconst 3, 3, 0), (40, .invokevirtual 57, 20, 3), (43, .return_, 0, 0)], 44),
  (44, [(44, .aload_n 0, 0, 0), (45, .dup, 0, 0), (46, .getfield 23, 3, 4), (49, .iload_n 1, 0, 0), (50, .iadd, 0, 0), (51, .putfield 23, 3, 4), (54, .iload_n 2, 0, 0), (55, .invokestatic 72, 28, 1), (58, .astore_n 3, 0, 0), (59, .iconst 0, 0, 0), (60, .istore 4, 0, 0)], 62),
  (62, [(62, .iload 4, 0, 0), (64, .aload_n 3, 0, 0), (65, .invokevirtual 76, 276, 1), (68, .if_icmp .ge 56, 124, 0)], 71),
  (71, [(71, .iload 4, 0, 0), (73, .iconst 5, 5, 0), (74, .if_icmp .ge 50, 124, 0)], 77),
  (77, [(77, .aload_n 0, 0, 0), (78, .getfield 27, 4, 4), (81, .ifCond .ne 43, 124, 0)], 84),
  (84, [(84, .aload_n 0, 0, 0), (85, .invokevirtual 38, 21, 1), (88, .aload_n 0, 0, 0), (89, .aload_n 3, 0, 0), (90, .iload 4, 0, 0), (92, .invokevirtual 81, 272, 2), (95, .iload 4, 0, 0), (97, .ifCond .ne 7, 104, 0)], 100),
  (100, [(100, .iconst (-1), 1, 1), (101, .goto 12, 113, 0)], 104),
  (104, [(104, .aload_n 0, 0, 0), (105, .getfield 19, 2, 4), (108, .iload 4, 0, 0), (110, .iconst 1, 1, 0), (111, .isub, 0, 0), (112, .iaload, 0, 0)], 113),
  (113, [(113, .iload 4, 0, 0), (115, .invokevirtual 85, 30, 4), (118, .iinc 4 1, 1, 0), (121, .goto (-59), 62, 0)], 124),
  (124, [(124, .aload_n 0, 0, 0), (125, .getfield 27, 4, 4), (128, .ifCond .ne 12, 140, 0)], 131),
  (131, [(131, .aload_n 0, 0, 0), (132, .invokevirtual 38, 21, 1), (135, .aload_n 0, 0, 0), (136, .iload_n 2, 0, 0), (137, .invokevirtual 89, 31, 2)], 140),
  (140, [(140, .return_, 0, 0)], 141)]
theorem t_Reader_readPart : z_chkM 23 b_Reader_readPart = true := by decide +kernel
def b_Reader_wordLength : List BK := [(0, [(0, .aload_n 0, 0, 0), (1, .getfield 23, 3, 4), (4, .istore_n 1, 0, 0)], 5),
  (5, [(5, .iload_n 1, 0, 0), (6, .aload_n 0, 0, 0), (7, .getfield 9, 0, 4), (10, .getfield 41, 1, 7), (13, .if_icmp .ge 35, 48, 0)], 16),
  (16, [(16, .aload_n 0, 0, 0), (17, .getfield 9, 0, 4), (20, .iload_n 1, 0, 0), (21, .invokevirtual 53, 70, 2), (24, .bipush 97, 97, 0), (26, .if_icmp .lt 22, 48, 0)], 29),
  (29, [(29, .aload_n 0, 0, 0), (30, .getfield 9, 0, 4), (33, .iload_n 1, 0, 0), (34, .invokevirtual 53, 70, 2), (37, .bipush 122, 122, 0), (39, .if_icmp .gt 9, 48, 0)], 42),
  (42, [(42, .iinc 1 1, 1, 0), (45, .goto (-40), 5, 0)], 48),
  (48, [(48, .iload_n 1, 0, 0), (49, .aload_n 0, 0, 0), (50, .getfield 23, 3, 4), (53, .isub, 0, 0), (54, .ireturn, 0, 0)], 55)]
theorem t_Reader_wordLength : z_chkM 24 b_Reader_wordLength = true := by decide +kernel
def b_Reader_partNamed : List BK := [(0, [(0, .iconst 0, 0, 0), (1, .istore_n 2, 0, 0)], 2),
  (2, [(2, .iload_n 2, 0, 0), (3, .bipush 9, 9, 0), (5, .if_icmp .ge 27, 32, 0)], 8),
  (8, [(8, .iload_n 1, 0, 0), (9, .ifCond .le 17, 26, 0)], 12),
  (12, [(12, .aload_n 0, 0, 0), (13, .iload_n 2, 0, 0), (14, .invokestatic 93, 145, 1), (17, .iload_n 1, 0, 0), (18, .invokevirtual 96, 26, 3), (21, .ifCond .eq 5, 26, 0)], 24),
  (24, [(24, .iload_n 2, 0, 0), (25, .ireturn, 0, 0)], 26),
  (26, [(26, .iinc 2 1, 1, 0), (29, .goto (-27), 2, 0)], 32),
  (32, [(32, .iconst (-1), 1, 1), (33, .ireturn, 0, 0)], 34)]
theorem t_Reader_partNamed : z_chkM 25 b_Reader_partNamed = true := by decide +kernel
def b_Reader_isWord : List BK := [(0, [(0, .aload_n 1, 0, 0), (1, .invokevirtual 76, 276, 1), (4, .iload_n 2, 0, 0), (5, .if_icmp .eq 5, 10, 0)], 8),
  (8, [(8, .iconst 0, 0, 0), (9, .ireturn, 0, 0)], 10),
  (10, [(10, .iconst 0, 0, 0), (11, .istore_n 3, 0, 0)], 12),
  (12, [(12, .iload_n 3, 0, 0), (13, .iload_n 2, 0, 0), (14, .if_icmp .ge 32, 46, 0)], 17),
  (17, [(17, .aload_n 0, 0, 0), (18, .getfield 9, 0, 4), (21, .aload_n 0, 0, 0), (22, .getfield 23, 3, 4), (25, .iload_n 3, 0, 0), (26, .iadd, 0, 0), (27, .invokevirtual 53, 70, 2), (30, .aload_n 1, 0, 0), (31, .iload_n 3, 0, 0), (32, .invokevirtual 81, 272, 2), (35, .if_icmp .eq 5, 40, 0)], 38),
  (38, [(38, .iconst 0, 0, 0), (39, .ireturn, 0, 0)], 40),
  (40, [(40, .iinc 3 1, 1, 0), (43, .goto (-31), 12, 0)], 46),
  (46, [(46, .iconst 1, 1, 0), (47, .ireturn, 0, 0)], 48)]
theorem t_Reader_isWord : z_chkM 26 b_Reader_isWord = true := by decide +kernel
def b_Reader_isTold : List BK := [(0, [(0, .iload_n 1, 0, 0), (1, .bipush 6, 6, 0), (3, .if_icmp .ge 14, 17, 0)], 6),
  (6, [(6, .aload_n 0, 0, 0), (7, .getfield 15, 1, 4), (10, .iload_n 1, 0, 0), (11, .invokevirtual 100, 51, 2), (14, .goto 14, 28, 0)], 17),
  (17, [(17, .aload_n 0, 0, 0), (18, .getfield 30, 5, 4), (21, .iload_n 1, 0, 0), (22, .bipush 6, 6, 0), (24, .isub, 0, 0), (25, .invokestatic 103, 130, 2)], 28),
  (28, [(28, .ireturn, 0, 0)], 29)]
theorem t_Reader_isTold : z_chkM 27 b_Reader_isTold = true := by decide +kernel
def b_Reader_signsOf : List BK := [(0, [(0, .iload_n 0, 0, 0), (1, .tableswitch 75 0 8 #[51, 54, 57, 60, 63, 75, 66, 69, 72], 0, 0)], 52),
  (52, [(52, .ldc 107, 11, 0), (54, .areturn, 0, 0)], 55),
  (55, [(55, .ldc 109, 7, 0), (57, .areturn, 0, 0)], 58),
  (58, [(58, .ldc 111, 8, 0), (60, .areturn, 0, 0)], 61),
  (61, [(61, .ldc 113, 9, 0), (63, .areturn, 0, 0)], 64),
  (64, [(64, .ldc 115, 15, 0), (66, .areturn, 0, 0)], 67),
  (67, [(67, .ldc 117, 16, 0), (69, .areturn, 0, 0)], 70),
  (70, [(70, .ldc 119, 3, 0), (72, .areturn, 0, 0)], 73),
  (73, [(73, .ldc 121, 6, 0), (75, .areturn, 0, 0)], 76),
  (76, [(76, .ldc 123, 0, 0), (78, .areturn, 0, 0)], 79)]
theorem t_Reader_signsOf : z_chkM 28 b_Reader_signsOf = true := by decide +kernel
def b_Reader_fits : List BK := [(0, [(0, .iload_n 1, 0, 0), (1, .tableswitch 248 99 119 #[218, 160, 248, 147, 248, 248, 233, 248, 248, 178, 248, 118, 248, 99, 248, 248, 248, 130, 99, 191, 203], 0, 0)], 100),
  (100, [(100, .iload_n 2, 0, 0), (101, .aload_n 0, 0, 0), (102, .getfield 15, 1, 4), (105, .getfield 125, 1, 6), (108, .iconst 4, 4, 0), (109, .iaload, 0, 0), (110, .if_icmp .ge 7, 117, 0)], 113),
  (113, [(113, .iconst 1, 1, 0), (114, .goto 4, 118, 0)], 117),
  (117, [(117, .iconst 0, 0, 0)], 118),
  (118, [(118, .ireturn, 0, 0)], 119),
  (119, [(119, .iload_n 2, 0, 0), (120, .bipush 16, 16, 0), (122, .if_icmp .ge 7, 129, 0)], 125),
  (125, [(125, .iconst 1, 1, 0), (126, .goto 4, 130, 0)], 129),
  (129, [(129, .iconst 0, 0, 0)], 130),
  (130, [(130, .ireturn, 0, 0)], 131),
  (131, [(131, .iload_n 2, 0, 0), (132, .bipush 16, 16, 0), (134, .if_icmp .ge 12, 146, 0)], 137),
  (137, [(137, .iload_n 2, 0, 0), (138, .iload_n 3, 0, 0), (139, .if_icmp .eq 7, 146, 0)], 142),
  (142, [(142, .iconst 1, 1, 0), (143, .goto 4, 147, 0)], 146),
  (146, [(146, .iconst 0, 0, 0)], 147),
  (147, [(147, .ireturn, 0, 0)], 148),
  (148, [(148, .iload_n 2, 0, 0), (149, .sipush 1000, 1000, 0), (152, .if_icmp .ge 7, 159, 0)], 155),
  (155, [(155, .iconst 1, 1, 0), (156, .goto 4, 160, 0)], 159),
  (159, [(159, .iconst 0, 0, 0)], 160),
  (160, [(160, .ireturn, 0, 0)], 161),
  (161, [(161, .iload_n 2, 0, 0), (162, .sipush 1000, 1000, 0), (165, .if_icmp .ge 12, 177, 0)], 168),
  (168, [(168, .iload_n 2, 0, 0), (169, .iload_n 3, 0, 0), (170, .if_icmp .lt 7, 177, 0)], 173),
  (173, [(173, .iconst 1, 1, 0), (174, .goto 4, 178, 0)], 177),
  (177, [(177, .iconst 0, 0, 0)], 178),
  (178, [(178, .ireturn, 0, 0)], 179),
  (179, [(179, .iload_n 2, 0, 0), (180, .sipush 9999, 9999, 0), (183, .if_icmp .gt 7, 190, 0)], 186),
  (186, [(186, .iconst 1, 1, 0), (187, .goto 4, 191, 0)], 190),
  (190, [(190, .iconst 0, 0, 0)], 191),
  (191, [(191, .ireturn, 0, 0)], 192),
  (192, [(192, .iload_n 2, 0, 0), (193, .bipush 10, 10, 0), (195, .if_icmp .ge 7, 202, 0)], 198),
  (198, [(198, .iconst 1, 1, 0), (199, .goto 4, 203, 0)], 202),
  (202, [(202, .iconst 0, 0, 0)], 203),
  (203, [(203, .ireturn, 0, 0)], 204),
  (204, [(204, .iload_n 2, 0, 0), (205, .getstatic 128, 5, 1), (208, .iconst 0, 0, 0), (209, .iaload, 0, 0), (210, .if_icmp .gt 7, 217, 0)], 213),
  (213, [(213, .iconst 1, 1, 0), (214, .goto 4, 218, 0)], 217),
  (217, [(217, .iconst 0, 0, 0)], 218),
  (218, [(218, .ireturn, 0, 0)], 219),
  (219, [(219, .iload_n 2, 0, 0), (220, .getstatic 128, 5, 1), (223, .iconst 1, 1, 0), (224, .iaload, 0, 0), (225, .if_icmp .gt 7, 232, 0)], 228),
  (228, [(228, .iconst 1, 1, 0), (229, .goto 4, 233, 0)], 232),
  (232, [(232, .iconst 0, 0, 0)], 233),
  (233, [(233, .ireturn, 0, 0)], 234),
  (234, [(234, .iload_n 2, 0, 0), (235, .getstatic 128, 5, 1), (238, .iconst 2, 2, 0), (239, .iaload, 0, 0), (240, .if_icmp .gt 7, 247, 0)], 243),
  (243, [(243, .iconst 1, 1, 0), (244, .goto 4, 248, 0)], 247),
  (247, [(247, .iconst 0, 0, 0)], 248),
  (248, [(248, .ireturn, 0, 0)], 249),
  (249, [(249, .iconst 0, 0, 0), (250, .ireturn, 0, 0)], 251)]
theorem t_Reader_fits : z_chkM 29 b_Reader_fits = true := by decide +kernel
def b_Reader_readNumber : List BK := [(0, [(0, .aload_n 0, 0, 0), (1, .getfield 23, 3, 4), (4, .istore 4, 0, 0), (6, .iload_n 1, 0, 0), (7, .bipush 117, 117, 0), (9, .if_icmp .ne 35, 44, 0)], 12),
  (12, [(12, .aload_n 0, 0, 0), (13, .ldc 131, 14, 0), (15, .aload_n 0, 0, 0), (16, .invokevirtual 61, 24, 1), (19, .invokevirtual 96, 26, 3), (22, .ifCond .eq 22, 44, 0)], 25),
  (25, [(25, .aload_n 0, 0, 0), (26, .dup, 0, 0), (27, .getfield 23, 3, 4), (30, .iconst 3, 3, 0), (31, .iadd, 0, 0), (32, .putfield 23, 3, 4), (35, .aload_n 0, 0, 0), (36, .getfield 19, 2, 4), (39, .iload_n 3, 0, 0), (40, .bipush (-2), 2, 1), (42, .iastore, 0, 0), (43, .return_, 0, 0)], 44),
  (44, [(44, .iconst 0, 0, 0), (45, .istore 5, 0, 0)], 47),
  (47, [(47, .aload_n 0, 0, 0), (48, .getfield 23, 3, 4), (51, .aload_n 0, 0, 0), (52, .getfield 9, 0, 4), (55, .getfield 41, 1, 7), (58, .if_icmp .ge 75, 133, 0)], 61),
  (61, [(61, .aload_n 0, 0, 0), (62, .getfield 9, 0, 4), (65, .aload_n 0, 0, 0), (66, .getfield 23, 3, 4), (69, .invokevirtual 53, 70, 2), (72, .bipush 48, 48, 0), (74, .if_icmp .lt 59, 133, 0)], 77),
  (77, [(77, .aload_n 0, 0, 0), (78, .getfield 9, 0, 4), (81, .aload_n 0, 0, 0), (82, .getfield 23, 3, 4), (85, .invokevirtual 53, 70, 2), (88, .bipush 57, 57, 0), (90, .if_icmp .gt 43, 133, 0)], 93),
  (93, [(93, .ldc 133, 100000, 1), (95, .bipush 10, 10, 0), (97, .iload 5, 0, 0), (99, .imul, 0, 0), (100, .aload_n 0, 0, 0), (101, .getfield 9, 0, 4), (104, .aload_n 0, 0, 0), (105, .getfield 23, 3, 4), (108, .invokevirtual 53, 70, 2), (111, .iadd, 0, 0), (112, .bipush 48, 48, 0), (114, .isub, 0, 0), (115, .invokestatic 134, 1001, 0), (118, .istore 5, 0, 0), (120, .aload_n 0, 0, 0), (121, .dup, 0, 0), (122, .getfield 23, 3, 4), (125, .iconst 1, 1, 0), (126, .iadd, 0, 0), (127, .putfield 23, 3, 4), (130, .goto (-83), 47, 0)], 133),
  (133, [(133, .aload_n 0, 0, 0), (134, .getfield 23, 3, 4), (137, .iload 4, 0, 0), (139, .if_icmp .ne 13, 152, 0)], 142),
  (142, [(142, .aload_n 0, 0, 0), (143, .iload 4, 0, 0), (145, .iconst 1, 1, 0), (146, .invokevirtual 57, 20, 3), (149, .goto 21, 170, 0)], 152),
  (152, [(152, .aload_n 0, 0, 0), (153, .iload_n 1, 0, 0), (154, .iload 5, 0, 0), (156, .iload_n 2, 0, 0), (157, .invokevirtual 140, 29, 4), (160, .ifCond .ne 10, 170, 0)], 163),
  (163, [(163, .aload_n 0, 0, 0), (164, .iload 4, 0, 0), (166, .iconst 2, 2, 0), (167, .invokevirtual 57, 20, 3)], 170),
  (170, [(170, .aload_n 0, 0, 0), (171, .getfield 19, 2, 4), (174, .iload_n 3, 0, 0), (175, .iload 5, 0, 0), (177, .iastore, 0, 0), (178, .return_, 0, 0)], 179)]
theorem t_Reader_readNumber : z_chkM 30 b_Reader_readNumber = true := by decide +kernel
def b_Reader_take : List BK := [(0, [(0, .iload_n 1, 0, 0), (1, .bipush 6, 6, 0), (3, .if_icmp .ge 45, 48, 0)], 6),
  (6, [(6, .aload_n 0, 0, 0), (7, .getfield 15, 1, 4), (10, .iload_n 1, 0, 0), (11, .aload_n 0, 0, 0), (12, .getfield 19, 2, 4), (15, .iconst 0, 0, 0), (16, .iaload, 0, 0), (17, .aload_n 0, 0, 0), (18, .getfield 19, 2, 4), (21, .iconst 1, 1, 0), (22, .iaload, 0, 0), (23, .aload_n 0, 0, 0), (24, .getfield 19, 2, 4), (27, .iconst 2, 2, 0), (28, .iaload, 0, 0), (29, .aload_n 0, 0, 0), (30, .getfield 19, 2, 4), (33, .iconst 3, 3, 0), (34, .iaload, 0, 0), (35, .aload_n 0, 0, 0), (36, .getfield 19, 2, 4), (39, .iconst 4, 4, 0), (40, .iaload, 0, 0), (41, .invokevirtual 144, 54, 7), (44, .pop, 0, 0), (45, .goto 36, 81, 0)], 48),
  (48, [(48, .aload_n 0, 0, 0), (49, .getfield 15, 1, 4), (52, .getfield 148, 2, 6), (55, .iload_n 1, 0, 0), (56, .bipush 6, 6, 0), (58, .isub, 0, 0), (59, .aload_n 0, 0, 0), (60, .getfield 19, 2, 4), (63, .iconst 0, 0, 0), (64, .iaload, 0, 0), (65, .iastore, 0, 0), (66, .aload_n 0, 0, 0), (67, .dup, 0, 0), (68, .getfield 30, 5, 4), (71, .iconst 1, 1, 0), (72, .iload_n 1, 0, 0), (73, .bipush 6, 6, 0), (75, .isub, 0, 0), (76, .ishl, 0, 0), (77, .ior, 0, 0), (78, .putfield 30, 5, 4)], 81),
  (81, [(81, .return_, 0, 0)], 82)]
theorem t_Reader_take : z_chkM 31 b_Reader_take = true := by decide +kernel
def b_Route_init : List BK := [(0, [(0, .aload_n 0, 0, 0), (1, .invokespecial 3, 1003, 0), (4, .aload_n 0, 0, 0), (5, .aload_n 1, 0, 0), (6, .putfield 9, 0, 5), (9, .aload_n 0, 0, 0), (10, .aload_n 2, 0, 0), (11, .putfield 15, 1, 5), (14, .aload_n 0, 0, 0), (15, .bipush 72, 72, 0), (17, .newarray .int, 0, 0), (19, .putfield 19, 2, 5), (22, .aload_n 0, 0, 0), (23, .sipush 192, 192, 0), (26, .newarray .int, 0, 0), (28, .putfield 23, 3, 5), (31, .aload_n 0, 0, 0), (32, .iconst 0, 0, 0), (33, .putfield 26, 4, 5), (36, .return_, 0, 0)], 37)]
theorem t_Route_init : z_chkM 32 b_Route_init = true := by decide +kernel
def b_Route_follow : List BK := [(0, [(0, .aload_n 0, 0, 0), (1, .iconst 0, 0, 0), (2, .putfield 26, 4, 5), (5, .aload_n 1, 0, 0), (6, .getfield 30, 3, 2), (9, .istore_n 2, 0, 0), (10, .aload_n 1, 0, 0), (11, .getfield 35, 4, 2), (14, .istore_n 3, 0, 0), (15, .iconst 0, 0, 0), (16, .istore 4, 0, 0)], 18),
  (18, [(18, .iload 4, 0, 0), (20, .bipush 12, 12, 0), (22, .if_icmp .ge 70, 92, 0)], 25),
  (25, [(25, .aload_n 0, 0, 0), (26, .getfield 9, 0, 5), (29, .iconst 4, 4, 0), (30, .iload_n 2, 0, 0), (31, .invokevirtual 38, 50, 3), (34, .ifCond .eq 58, 92, 0)], 37),
  (37, [(37, .iload_n 3, 0, 0), (38, .sipush 1000, 1000, 0), (41, .if_icmp .ge 51, 92, 0)], 44),
  (44, [(44, .aload_n 0, 0, 0), (45, .aload_n 1, 0, 0), (46, .iload_n 2, 0, 0), (47, .iload_n 3, 0, 0), (48, .invokevirtual 44, 36, 4), (51, .aload_n 0, 0, 0), (52, .invokevirtual 48, 41, 1), (55, .ifCond .eq 4, 59, 0)], 58),
  (58, [(58, .return_, 0, 0)], 59),
  (59, [(59, .aload_n 0, 0, 0), (60, .getfield 9, 0, 5), (63, .iconst 4, 4, 0), (64, .iload_n 2, 0, 0), (65, .iconst 0, 0, 0), (66, .invokevirtual 52, 52, 4), (69, .istore_n 2, 0, 0), (70, .aload_n 0, 0, 0), (71, .iconst 1, 1, 0), (72, .invokevirtual 56, 39, 2), (75, .aload_n 0, 0, 0), (76, .getfield 9, 0, 5), (79, .getfield 60, 2, 6), (82, .iconst 1, 1, 0), (83, .iaload, 0, 0), (84, .iadd, 0, 0), (85, .istore_n 3, 0, 0), (86, .iinc 4 1, 1, 0), (89, .goto (-71), 18, 0)], 92),
  (92, [(92, .return_, 0, 0)], 93)]
theorem t_Route_follow : z_chkM 33 b_Route_follow = true := by decide +kernel
def b_Route_climb : List BK := [(0, [(0, .aload_n 1, 0, 0), (1, .ldc 65, 2147483647, 1), (3, .putfield 66, 5, 2), (6, .aload_n 0, 0, 0), (7, .aload_n 1, 0, 0), (8, .invokevirtual 69, 33, 2), (11, .return_, 0, 0)], 12)]
theorem t_Route_climb : z_chkM 34 b_Route_climb = true := by decide +kernel
def b_Route_limitOfFirstStep : List BK := [(0, [(0, .aload_n 0, 0, 0), (1, .iconst 0, 0, 0), (2, .putfield 26, 4, 5), (5, .aload_n 0, 0, 0), (6, .aload_n 1, 0, 0), (7, .iload_n 2, 0, 0), (8, .iload_n 3, 0, 0), (9, .invokevirtual 44, 36, 4), (12, .aload_n 0, 0, 0), (13, .iconst 0, 0, 0), (14, .iconst 3, 3, 0), (15, .invokevirtual 73, 38, 3), (18, .ireturn, 0, 0)], 19)]
theorem t_Route_limitOfFirstStep : z_chkM 35 b_Route_limitOfFirstStep = true := by decide +kernel
def b_Route_takeStep : List BK := [(0, [(0, .iload_n 3, 0, 0), (1, .aload_n 0, 0, 0), (2, .getfield 9, 0, 5), (5, .getfield 60, 2, 6), (8, .iconst 2, 2, 0), (9, .iaload, 0, 0), (10, .iadd, 0, 0), (11, .sipush 999, 999, 0), (14, .invokestatic 76, 1001, 0), (17, .istore 4, 0, 0), (19, .aload_n 0, 0, 0), (20, .getfield 15, 1, 5), (23, .aload_n 1, 0, 0), (24, .iload_n 2, 0, 0), (25, .iload_n 3, 0, 0), (26, .invokevirtual 81, 1, 4), (29, .istore 5, 0, 0), (31, .aload_n 0, 0, 0), (32, .getfield 15, 1, 5), (35, .getfield 87, 8, 0), (38, .istore 6, 0, 0), (40, .iload_n 3, 0, 0), (41, .istore 7, 0, 0)], 43),
  (43, [(43, .iload 5, 0, 0), (45, .ifCond .ne 49, 94, 0)], 48),
  (48, [(48, .iload 7, 0, 0), (50, .iload 4, 0, 0), (52, .if_icmp .ge 42, 94, 0)], 55),
  (55, [(55, .iload 7, 0, 0), (57, .iconst 1, 1, 0), (58, .iadd, 0, 0), (59, .iload 4, 0, 0), (61, .aload_n 0, 0, 0), (62, .getfield 9, 0, 5), (65, .iload 7, 0, 0), (67, .invokevirtual 90, 64, 2), (70, .invokestatic 76, 1001, 0), (73, .invokestatic 93, 1000, 0), (76, .istore 7, 0, 0), (78, .aload_n 0, 0, 0), (79, .getfield 15, 1, 5), (82, .aload_n 1, 0, 0), (83, .iload_n 2, 0, 0), (84, .iload 7, 0, 0), (86, .invokevirtual 81, 1, 4), (89, .istore 5, 0, 0), (91, .goto (-48), 43, 0)], 94),
  (94, [(94, .aload_n 0, 0, 0), (95, .getfield 26, 4, 5), (98, .bipush 6, 6, 0), (100, .imul, 0, 0), (101, .istore 8, 0, 0), (103, .aload_n 0, 0, 0), (104, .getfield 19, 2, 5), (107, .iload 8, 0, 0), (109, .iconst 0, 0, 0), (110, .iadd, 0, 0), (111, .iload_n 2, 0, 0), (112, .iastore, 0, 0), (113, .aload_n 0, 0, 0), (114, .getfield 19, 2, 5), (117, .iload 8, 0, 0), (119, .iconst 1, 1, 0), (120, .iadd, 0, 0), (121, .iload 7, 0, 0), (123, .iastore, 0, 0), (124, .aload_n 0, 0, 0), (125, .getfield 19, 2, 5), (128, .iload 8, 0, 0), (130, .iconst 2, 2, 0), (131, .iadd, 0, 0), (132, .iload 5, 0, 0), (134, .ifCond .eq 13, 147, 0)], 137),
  (137, [(137, .aload_n 0, 0, 0), (138, .getfield 15, 1, 5), (141, .invokevirtual 96, 4, 1), (144, .goto 5, 149, 0)], 147),
  (147, [(147, .bipush (-2), 2, 1)], 149),
  (149, [(149, .iastore, 0, 0), (150, .aload_n 0, 0, 0), (151, .getfield 19, 2, 5), (154, .iload 8, 0, 0), (156, .iconst 3, 3, 0), (157, .iadd, 0, 0), (158, .iload 5, 0, 0), (160, .ifCond .eq 13, 173, 0)], 163),
  (163, [(163, .aload_n 0, 0, 0), (164, .getfield 15, 1, 5), (167, .getfield 100, 7, 0), (170, .goto 5, 175, 0)], 173),
  (173, [(173, .bipush (-2), 2, 1)], 175),
  (175, [(175, .iastore, 0, 0), (176, .aload_n 0, 0, 0), (177, .getfield 19, 2, 5), (180, .iload 8, 0, 0), (182, .iconst 5, 5, 0), (183, .iadd, 0, 0), (184, .iload 5, 0, 0), (186, .ifCond .eq 13, 199, 0)], 189),
  (189, [(189, .aload_n 0, 0, 0), (190, .getfield 15, 1, 5), (193, .getfield 103, 6, 0), (196, .goto 5, 201, 0)], 199),
  (199, [(199, .bipush (-2), 2, 1)], 201),
  (201, [(201, .iastore, 0, 0), (202, .iload 5, 0, 0), (204, .ifCond .eq 79, 283, 0)], 207),
  (207, [(207, .aload_n 0, 0, 0), (208, .getfield 19, 2, 5), (211, .iload 8, 0, 0), (213, .iconst 4, 4, 0), (214, .iadd, 0, 0), (215, .aload_n 0, 0, 0), (216, .getfield 15, 1, 5), (219, .getfield 100, 7, 0), (222, .aload_n 1, 0, 0), (223, .getfield 66, 5, 2), (226, .if_icmp .lt 7, 233, 0)], 229),
  (229, [(229, .iconst 0, 0, 0), (230, .goto 4, 234, 0)], 233),
  (233, [(233, .iconst 1, 1, 0)], 234),
  (234, [(234, .iastore, 0, 0), (235, .iconst 0, 0, 0), (236, .istore 9, 0, 0)], 238),
  (238, [(238, .iload 9, 0, 0), (240, .aload_n 0, 0, 0), (241, .getfield 15, 1, 5), (244, .getfield 103, 6, 0), (247, .if_icmp .gt 33, 280, 0)], 250),
  (250, [(250, .aload_n 0, 0, 0), (251, .getfield 23, 3, 5), (254, .aload_n 0, 0, 0), (255, .getfield 26, 4, 5), (258, .bipush 16, 16, 0), (260, .imul, 0, 0), (261, .iload 9, 0, 0), (263, .iadd, 0, 0), (264, .aload_n 0, 0, 0), (265, .getfield 15, 1, 5), (268, .iload 9, 0, 0), (270, .invokevirtual 106, 3, 2), (273, .iastore, 0, 0), (274, .iinc 9 1, 1, 0), (277, .goto (-39), 238, 0)], 280),
  (280, [(280, .goto 14, 294, 0)], 283),
  (283, [(283, .aload_n 0, 0, 0), (284, .getfield 19, 2, 5), (287, .iload 8, 0, 0), (289, .iconst 4, 4, 0), (290, .iadd, 0, 0), (291, .iload 6, 0, 0), (293, .iastore, 0, 0)], 294),
  (294, [(294, .aload_n 0, 0, 0), (295, .dup, 0, 0), (296, .getfield 26, 4, 5), (299, .iconst 1, 1, 0), (300, .iadd, 0, 0), (301, .putfield 26, 4, 5), (304, .return_, 0, 0)], 305)]
theorem t_Route_takeStep : z_chkM 36 b_Route_takeStep = true := by decide +kernel
def b_Route_has : List BK := [(0, [(0, .iload_n 1, 0, 0), (1, .ifCond .lt 15, 16, 0)], 4),
  (4, [(4, .iload_n 1, 0, 0), (5, .aload_n 0, 0, 0), (6, .getfield 26, 4, 5), (9, .if_icmp .ge 7, 16, 0)], 12),
  (12, [(12, .iconst 1, 1, 0), (13, .goto 4, 17, 0)], 16),
  (16, [(16, .iconst 0, 0, 0)], 17),
  (17, [(17, .ireturn, 0, 0)], 18)]
theorem t_Route_has : z_chkM 37 b_Route_has = true := by decide +kernel
def b_Route_cell : List BK := [(0, [(0, .aload_n 0, 0, 0), (1, .getfield 19, 2, 5), (4, .iload_n 1, 0, 0), (5, .bipush 6, 6, 0), (7, .imul, 0, 0), (8, .iload_n 2, 0, 0), (9, .iadd, 0, 0), (10, .iaload, 0, 0), (11, .ireturn, 0, 0)], 12)]
theorem t_Route_cell : z_chkM 38 b_Route_cell = true := by decide +kernel
def b_Route_lastCell : List BK := [(0, [(0, .aload_n 0, 0, 0), (1, .getfield 26, 4, 5), (4, .ifCond .le 17, 21, 0)], 7),
  (7, [(7, .aload_n 0, 0, 0), (8, .aload_n 0, 0, 0), (9, .getfield 26, 4, 5), (12, .iconst 1, 1, 0), (13, .isub, 0, 0), (14, .iload_n 1, 0, 0), (15, .invokevirtual 73, 38, 3), (18, .goto 4, 22, 0)], 21),
  (21, [(21, .iconst (-1), 1, 1)], 22),
  (22, [(22, .ireturn, 0, 0)], 23)]
theorem t_Route_lastCell : z_chkM 39 b_Route_lastCell = true := by decide +kernel
def b_Route_inLine : List BK := [(0, [(0, .aload_n 0, 0, 0), (1, .getfield 23, 3, 5), (4, .iload_n 1, 0, 0), (5, .bipush 16, 16, 0), (7, .imul, 0, 0), (8, .iload_n 2, 0, 0), (9, .iadd, 0, 0), (10, .iaload, 0, 0), (11, .ireturn, 0, 0)], 12)]
theorem t_Route_inLine : z_chkM 40 b_Route_inLine = true := by decide +kernel
def b_Route_isApproved : List BK := [(0, [(0, .aload_n 0, 0, 0), (1, .iconst 4, 4, 0), (2, .invokevirtual 56, 39, 2), (5, .ifCond .ne 7, 12, 0)], 8),
  (8, [(8, .iconst 1, 1, 0), (9, .goto 4, 13, 0)], 12),
  (12, [(12, .iconst 0, 0, 0)], 13),
  (13, [(13, .ireturn, 0, 0)], 14)]
theorem t_Route_isApproved : z_chkM 41 b_Route_isApproved = true := by decide +kernel
def b_Route_outcome : List BK := [(0, [(0, .iload_n 1, 0, 0), (1, .ifCond .ne 16, 17, 0)], 4),
  (4, [(4, .aload_n 0, 0, 0), (5, .invokevirtual 48, 41, 1), (8, .ifCond .eq 7, 15, 0)], 11),
  (11, [(11, .iconst 1, 1, 0), (12, .goto 4, 16, 0)], 15),
  (15, [(15, .iconst 2, 2, 0)], 16),
  (16, [(16, .ireturn, 0, 0)], 17),
  (17, [(17, .iload_n 1, 0, 0), (18, .iconst 1, 1, 0), (19, .if_icmp .ne 9, 28, 0)], 22),
  (22, [(22, .aload_n 0, 0, 0), (23, .iconst 1, 1, 0), (24, .invokevirtual 56, 39, 2), (27, .ireturn, 0, 0)], 28),
  (28, [(28, .aload_n 0, 0, 0), (29, .invokevirtual 48, 41, 1), (32, .ifCond .eq 11, 43, 0)], 35),
  (35, [(35, .aload_n 0, 0, 0), (36, .iconst 2, 2, 0), (37, .invokevirtual 56, 39, 2), (40, .goto 5, 45, 0)], 43),
  (43, [(43, .bipush (-2), 2, 1)], 45),
  (45, [(45, .ireturn, 0, 0)], 46)]
theorem t_Route_outcome : z_chkM 42 b_Route_outcome = true := by decide +kernel
def b_Route_firstCovering : List BK := [(0, [(0, .iconst 0, 0, 0), (1, .istore_n 2, 0, 0)], 2),
  (2, [(2, .iload_n 2, 0, 0), (3, .aload_n 0, 0, 0), (4, .getfield 26, 4, 5), (7, .if_icmp .ge 21, 28, 0)], 10),
  (10, [(10, .aload_n 0, 0, 0), (11, .iload_n 2, 0, 0), (12, .iconst 3, 3, 0), (13, .invokevirtual 73, 38, 3), (16, .iload_n 1, 0, 0), (17, .if_icmp .lt 5, 22, 0)], 20),
  (20, [(20, .iload_n 2, 0, 0), (21, .ireturn, 0, 0)], 22),
  (22, [(22, .iinc 2 1, 1, 0), (25, .goto (-23), 2, 0)], 28),
  (28, [(28, .iconst (-1), 1, 1), (29, .ireturn, 0, 0)], 30)]
theorem t_Route_firstCovering : z_chkM 43 b_Route_firstCovering = true := by decide +kernel
def b_Route_greatestLimit : List BK := [(0, [(0, .iconst 0, 0, 0), (1, .istore_n 2, 0, 0), (2, .iconst 0, 0, 0), (3, .istore_n 3, 0, 0)], 4),
  (4, [(4, .iload_n 3, 0, 0), (5, .aload_n 0, 0, 0), (6, .getfield 26, 4, 5), (9, .if_icmp .ge 25, 34, 0)], 12),
  (12, [(12, .iload_n 3, 0, 0), (13, .iload_n 1, 0, 0), (14, .if_icmp .gt 20, 34, 0)], 17),
  (17, [(17, .iload_n 2, 0, 0), (18, .aload_n 0, 0, 0), (19, .iload_n 3, 0, 0), (20, .iconst 3, 3, 0), (21, .invokevirtual 73, 38, 3), (24, .invokestatic 93, 1000, 0), (27, .istore_n 2, 0, 0), (28, .iinc 3 1, 1, 0), (31, .goto (-27), 4, 0)], 34),
  (34, [(34, .iload_n 2, 0, 0), (35, .ireturn, 0, 0)], 36)]
theorem t_Route_greatestLimit : z_chkM 44 b_Route_greatestLimit = true := by decide +kernel
def b_Route_doers : List BK := [(0, [(0, .iconst 0, 0, 0), (1, .istore_n 1, 0, 0), (2, .iconst 0, 0, 0), (3, .istore_n 2, 0, 0)], 4),
  (4, [(4, .iload_n 2, 0, 0), (5, .aload_n 0, 0, 0), (6, .getfield 26, 4, 5), (9, .if_icmp .ge 21, 30, 0)], 12),
  (12, [(12, .iload_n 1, 0, 0), (13, .aload_n 0, 0, 0), (14, .iload_n 2, 0, 0), (15, .iconst 2, 2, 0), (16, .invokevirtual 73, 38, 3), (19, .invokestatic 109, 131, 1), (22, .ior, 0, 0), (23, .istore_n 1, 0, 0), (24, .iinc 2 1, 1, 0), (27, .goto (-23), 4, 0)], 30),
  (30, [(30, .iload_n 1, 0, 0), (31, .ireturn, 0, 0)], 32)]
theorem t_Route_doers : z_chkM 45 b_Route_doers = true := by decide +kernel
def b_Route_countsAs : List BK := [(0, [(0, .iload_n 2, 0, 0), (1, .ifCond .ne 5, 6, 0)], 4),
  (4, [(4, .iconst 1, 1, 0), (5, .ireturn, 0, 0)], 6),
  (6, [(6, .iload_n 2, 0, 0), (7, .iconst 1, 1, 0), (8, .if_icmp .ne 20, 28, 0)], 11),
  (11, [(11, .aload_n 0, 0, 0), (12, .iload_n 1, 0, 0), (13, .iconst 4, 4, 0), (14, .invokevirtual 73, 38, 3), (17, .ifCond .ne 7, 24, 0)], 20),
  (20, [(20, .iconst 1, 1, 0), (21, .goto 21, 42, 0)], 24),
  (24, [(24, .iconst 0, 0, 0), (25, .goto 17, 42, 0)], 28),
  (28, [(28, .aload_n 0, 0, 0), (29, .iload_n 1, 0, 0), (30, .iconst 5, 5, 0), (31, .invokevirtual 73, 38, 3), (34, .ifCond .le 7, 41, 0)], 37),
  (37, [(37, .iconst 1, 1, 0), (38, .goto 4, 42, 0)], 41),
  (41, [(41, .iconst 0, 0, 0)], 42),
  (42, [(42, .ireturn, 0, 0)], 43)]
theorem t_Route_countsAs : z_chkM 46 b_Route_countsAs = true := by decide +kernel
def b_State_init : List BK := [(0, [(0, .aload_n 0, 0, 0), (1, .invokespecial 3, 1003, 0), (4, .aload_n 0, 0, 0), (5, .sipush 648, 648, 0), (8, .newarray .int, 0, 0), (10, .putfield 9, 0, 6), (13, .aload_n 0, 0, 0), (14, .bipush 6, 6, 0), (16, .newarray .int, 0, 0), (18, .putfield 15, 1, 6), (21, .aload_n 0, 0, 0), (22, .iconst 3, 3, 0), (23, .newarray .int, 0, 0), (25, .putfield 18, 2, 6), (28, .aload_n 0, 0, 0), (29, .invokevirtual 21, 48, 1), (32, .return_, 0, 0)], 33)]
theorem t_State_init : z_chkM 47 b_State_init = true := by decide +kernel
def b_State_clear : List BK := [(0, [(0, .iconst 0, 0, 0), (1, .istore_n 1, 0, 0)], 2),
  (2, [(2, .iload_n 1, 0, 0), (3, .bipush 6, 6, 0), (5, .if_icmp .ge 16, 21, 0)], 8),
  (8, [(8, .aload_n 0, 0, 0), (9, .getfield 15, 1, 6), (12, .iload_n 1, 0, 0), (13, .iconst 0, 0, 0), (14, .iastore, 0, 0), (15, .iinc 1 1, 1, 0), (18, .goto (-16), 2, 0)], 21),
  (21, [(21, .iconst 0, 0, 0), (22, .istore_n 1, 0, 0)], 23),
  (23, [(23, .iload_n 1, 0, 0), (24, .iconst 3, 3, 0), (25, .if_icmp .ge 20, 45, 0)], 28),
  (28, [(28, .aload_n 0, 0, 0), (29, .getfield 18, 2, 6), (32, .iload_n 1, 0, 0), (33, .getstatic 24, 4, 1), (36, .iload_n 1, 0, 0), (37, .iaload, 0, 0), (38, .iastore, 0, 0), (39, .iinc 1 1, 1, 0), (42, .goto (-19), 23, 0)], 45),
  (45, [(45, .return_, 0, 0)], 46)]
theorem t_State_clear : z_chkM 48 b_State_clear = true := by decide +kernel
def b_State_copyFrom : List BK := [(0, [(0, .iconst 0, 0, 0), (1, .istore_n 2, 0, 0)], 2),
  (2, [(2, .iload_n 2, 0, 0), (3, .bipush 6, 6, 0), (5, .if_icmp .ge 56, 61, 0)], 8),
  (8, [(8, .aload_n 1, 0, 0), (9, .getfield 15, 1, 6), (12, .iload_n 2, 0, 0), (13, .iaload, 0, 0), (14, .getstatic 27, 0, 1), (17, .iload_n 2, 0, 0), (18, .iaload, 0, 0), (19, .imul, 0, 0), (20, .istore_n 3, 0, 0), (21, .aload_n 1, 0, 0), (22, .getfield 9, 0, 6), (25, .getstatic 30, 2, 1), (28, .iload_n 2, 0, 0), (29, .iaload, 0, 0), (30, .aload_n 0, 0, 0), (31, .getfield 9, 0, 6), (34, .getstatic 30, 2, 1), (37, .iload_n 2, 0, 0), (38, .iaload, 0, 0), (39, .iload_n 3, 0, 0), (40, .invokestatic 33, 1002, 0), (43, .aload_n 0, 0, 0), (44, .getfield 15, 1, 6), (47, .iload_n 2, 0, 0), (48, .aload_n 1, 0, 0), (49, .getfield 15, 1, 6), (52, .iload_n 2, 0, 0), (53, .iaload, 0, 0), (54, .iastore, 0, 0), (55, .iinc 2 1, 1, 0), (58, .goto (-56), 2, 0)], 61),
  (61, [(61, .aload_n 1, 0, 0), (62, .getfield 18, 2, 6), (65, .iconst 0, 0, 0), (66, .aload_n 0, 0, 0), (67, .getfield 18, 2, 6), (70, .iconst 0, 0, 0), (71, .iconst 3, 3, 0), (72, .invokestatic 33, 1002, 0), (75, .return_, 0, 0)], 76)]
theorem t_State_copyFrom : z_chkM 49 b_State_copyFrom = true := by decide +kernel
def b_State_has : List BK := [(0, [(0, .iload_n 2, 0, 0), (1, .ifCond .lt 17, 18, 0)], 4),
  (4, [(4, .iload_n 2, 0, 0), (5, .aload_n 0, 0, 0), (6, .getfield 15, 1, 6), (9, .iload_n 1, 0, 0), (10, .iaload, 0, 0), (11, .if_icmp .ge 7, 18, 0)], 14),
  (14, [(14, .iconst 1, 1, 0), (15, .goto 4, 19, 0)], 18),
  (18, [(18, .iconst 0, 0, 0)], 19),
  (19, [(19, .ireturn, 0, 0)], 20)]
theorem t_State_has : z_chkM 50 b_State_has = true := by decide +kernel
def b_State_isFull : List BK := [(0, [(0, .aload_n 0, 0, 0), (1, .getfield 15, 1, 6), (4, .iload_n 1, 0, 0), (5, .iaload, 0, 0), (6, .getstatic 39, 1, 1), (9, .iload_n 1, 0, 0), (10, .iaload, 0, 0), (11, .if_icmp .lt 7, 18, 0)], 14),
  (14, [(14, .iconst 1, 1, 0), (15, .goto 4, 19, 0)], 18),
  (18, [(18, .iconst 0, 0, 0)], 19),
  (19, [(19, .ireturn, 0, 0)], 20)]
theorem t_State_isFull : z_chkM 51 b_State_isFull = true := by decide +kernel
def b_State_cell : List BK := [(0, [(0, .aload_n 0, 0, 0), (1, .getfield 9, 0, 6), (4, .getstatic 30, 2, 1), (7, .iload_n 1, 0, 0), (8, .iaload, 0, 0), (9, .iload_n 2, 0, 0), (10, .getstatic 27, 0, 1), (13, .iload_n 1, 0, 0), (14, .iaload, 0, 0), (15, .imul, 0, 0), (16, .iadd, 0, 0), (17, .iload_n 3, 0, 0), (18, .iadd, 0, 0), (19, .iaload, 0, 0), (20, .ireturn, 0, 0)], 21)]
theorem t_State_cell : z_chkM 52 b_State_cell = true := by decide +kernel
def b_State_put : List BK := [(0, [(0, .aload_n 0, 0, 0), (1, .getfield 9, 0, 6), (4, .getstatic 30, 2, 1), (7, .iload_n 1, 0, 0), (8, .iaload, 0, 0), (9, .iload_n 2, 0, 0), (10, .getstatic 27, 0, 1), (13, .iload_n 1, 0, 0), (14, .iaload, 0, 0), (15, .imul, 0, 0), (16, .iadd, 0, 0), (17, .iload_n 3, 0, 0), (18, .iadd, 0, 0), (19, .iload 4, 0, 0), (21, .iastore, 0, 0), (22, .return_, 0, 0)], 23)]
theorem t_State_put : z_chkM 53 b_State_put = true := by decide +kernel
def b_State_addRow : List BK := [(0, [(0, .aload_n 0, 0, 0), (1, .iload_n 1, 0, 0), (2, .invokevirtual 42, 51, 2), (5, .ifCond .eq 5, 10, 0)], 8),
  (8, [(8, .iconst (-1), 1, 1), (9, .ireturn, 0, 0)], 10),
  (10, [(10, .aload_n 0, 0, 0), (11, .getfield 15, 1, 6), (14, .iload_n 1, 0, 0), (15, .iaload, 0, 0), (16, .istore 7, 0, 0), (18, .getstatic 27, 0, 1), (21, .iload_n 1, 0, 0), (22, .iaload, 0, 0), (23, .istore 8, 0, 0), (25, .aload_n 0, 0, 0), (26, .getfield 15, 1, 6), (29, .iload_n 1, 0, 0), (30, .iload 7, 0, 0), (32, .iconst 1, 1, 0), (33, .iadd, 0, 0), (34, .iastore, 0, 0), (35, .aload_n 0, 0, 0), (36, .iload_n 1, 0, 0), (37, .iload 7, 0, 0), (39, .iconst 0, 0, 0), (40, .iload_n 2, 0, 0), (41, .invokevirtual 46, 53, 5), (44, .aload_n 0, 0, 0), (45, .iload_n 1, 0, 0), (46, .iload 7, 0, 0), (48, .iconst 1, 1, 0), (49, .iload_n 3, 0, 0), (50, .invokevirtual 46, 53, 5), (53, .iload 8, 0, 0), (55, .iconst 2, 2, 0), (56, .if_icmp .le 13, 69, 0)], 59),
  (59, [(59, .aload_n 0, 0, 0), (60, .iload_n 1, 0, 0), (61, .iload 7, 0, 0), (63, .iconst 2, 2, 0), (64, .iload 4, 0, 0), (66, .invokevirtual 46, 53, 5)], 69),
  (69, [(69, .iload 8, 0, 0), (71, .iconst 3, 3, 0), (72, .if_icmp .le 13, 85, 0)], 75),
  (75, [(75, .aload_n 0, 0, 0), (76, .iload_n 1, 0, 0), (77, .iload 7, 0, 0), (79, .iconst 3, 3, 0), (80, .iload 5, 0, 0), (82, .invokevirtual 46, 53, 5)], 85),
  (85, [(85, .iload 8, 0, 0), (87, .iconst 4, 4, 0), (88, .if_icmp .le 13, 101, 0)], 91),
  (91, [(91, .aload_n 0, 0, 0), (92, .iload_n 1, 0, 0), (93, .iload 7, 0, 0), (95, .iconst 4, 4, 0), (96, .iload 6, 0, 0), (98, .invokevirtual 46, 53, 5)], 101),
  (101, [(101, .iload 7, 0, 0), (103, .ireturn, 0, 0)], 104)]
theorem t_State_addRow : z_chkM 54 b_State_addRow = true := by decide +kernel
def b_State_addRequest : List BK := [(0, [(0, .aload_n 0, 0, 0), (1, .iconst 5, 5, 0), (2, .iload_n 1, 0, 0), (3, .iload_n 2, 0, 0), (4, .iload_n 3, 0, 0), (5, .iload 4, 0, 0), (7, .iload 5, 0, 0), (9, .invokevirtual 50, 54, 7), (12, .istore 7, 0, 0), (14, .iload 7, 0, 0), (16, .iconst (-1), 1, 1), (17, .if_icmp .eq 24, 41, 0)], 20),
  (20, [(20, .aload_n 0, 0, 0), (21, .iconst 5, 5, 0), (22, .iload 7, 0, 0), (24, .iconst 5, 5, 0), (25, .iload 6, 0, 0), (27, .invokevirtual 46, 53, 5), (30, .aload_n 0, 0, 0), (31, .iconst 5, 5, 0), (32, .iload 7, 0, 0), (34, .bipush 6, 6, 0), (36, .bipush (-2), 2, 1), (38, .invokevirtual 46, 53, 5)], 41),
  (41, [(41, .iload 7, 0, 0), (43, .ireturn, 0, 0)], 44)]
theorem t_State_addRequest : z_chkM 55 b_State_addRequest = true := by decide +kernel
def b_State_removeRow : List BK := [(0, [(0, .aload_n 0, 0, 0), (1, .iload_n 1, 0, 0), (2, .iload_n 2, 0, 0), (3, .invokevirtual 54, 50, 3), (6, .ifCond .ne 4, 10, 0)], 9),
  (9, [(9, .return_, 0, 0)], 10),
  (10, [(10, .getstatic 27, 0, 1), (13, .iload_n 1, 0, 0), (14, .iaload, 0, 0), (15, .istore_n 3, 0, 0), (16, .getstatic 30, 2, 1), (19, .iload_n 1, 0, 0), (20, .iaload, 0, 0), (21, .iload_n 2, 0, 0), (22, .iload_n 3, 0, 0), (23, .imul, 0, 0), (24, .iadd, 0, 0), (25, .istore 4, 0, 0), (27, .aload_n 0, 0, 0), (28, .getfield 9, 0, 6), (31, .iload 4, 0, 0), (33, .iload_n 3, 0, 0), (34, .iadd, 0, 0), (35, .aload_n 0, 0, 0), (36, .getfield 9, 0, 6), (39, .iload 4, 0, 0), (41, .aload_n 0, 0, 0), (42, .getfield 15, 1, 6), (45, .iload_n 1, 0, 0), (46, .iaload, 0, 0), (47, .iload_n 2, 0, 0), (48, .isub, 0, 0), (49, .iconst 1, 1, 0), (50, .isub, 0, 0), (51, .iload_n 3, 0, 0), (52, .imul, 0, 0), (53, .invokestatic 33, 1002, 0), (56, .aload_n 0, 0, 0), (57, .getfield 15, 1, 6), (60, .iload_n 1, 0, 0), (61, .dup2, 0, 0), (62, .iaload, 0, 0), (63, .iconst 1, 1, 0), (64, .isub, 0, 0), (65, .iastore, 0, 0), (66, .return_, 0, 0)], 67)]
theorem t_State_removeRow : z_chkM 56 b_State_removeRow = true := by decide +kernel
def b_State_isRecalled : List BK := [(0, [(0, .aload_n 0, 0, 0), (1, .iconst 5, 5, 0), (2, .iload_n 1, 0, 0), (3, .bipush 6, 6, 0), (5, .invokevirtual 58, 52, 4), (8, .bipush (-2), 2, 1), (10, .if_icmp .eq 7, 17, 0)], 13),
  (13, [(13, .iconst 1, 1, 0), (14, .goto 4, 18, 0)], 17),
  (17, [(17, .iconst 0, 0, 0)], 18),
  (18, [(18, .ireturn, 0, 0)], 19)]
theorem t_State_isRecalled : z_chkM 57 b_State_isRecalled = true := by decide +kernel
def b_State_postsAbove : List BK := [(0, [(0, .iconst 0, 0, 0), (1, .istore_n 2, 0, 0), (2, .aload_n 0, 0, 0), (3, .iconst 4, 4, 0), (4, .iload_n 1, 0, 0), (5, .iconst 0, 0, 0), (6, .invokevirtual 58, 52, 4), (9, .istore_n 3, 0, 0)], 10),
  (10, [(10, .aload_n 0, 0, 0), (11, .iconst 4, 4, 0), (12, .iload_n 3, 0, 0), (13, .invokevirtual 54, 50, 3), (16, .ifCond .eq 23, 39, 0)], 19),
  (19, [(19, .iload_n 2, 0, 0), (20, .bipush 12, 12, 0), (22, .if_icmp .ge 17, 39, 0)], 25),
  (25, [(25, .iinc 2 1, 1, 0), (28, .aload_n 0, 0, 0), (29, .iconst 4, 4, 0), (30, .iload_n 3, 0, 0), (31, .iconst 0, 0, 0), (32, .invokevirtual 58, 52, 4), (35, .istore_n 3, 0, 0), (36, .goto (-26), 10, 0)], 39),
  (39, [(39, .iload_n 2, 0, 0), (40, .ireturn, 0, 0)], 41)]
theorem t_State_postsAbove : z_chkM 58 b_State_postsAbove = true := by decide +kernel
def b_State_postsBelow : List BK := [(0, [(0, .iconst 0, 0, 0), (1, .istore_n 2, 0, 0), (2, .iconst 0, 0, 0), (3, .istore_n 3, 0, 0)], 4),
  (4, [(4, .iload_n 3, 0, 0), (5, .aload_n 0, 0, 0), (6, .getfield 15, 1, 6), (9, .iconst 4, 4, 0), (10, .iaload, 0, 0), (11, .if_icmp .ge 23, 34, 0)], 14),
  (14, [(14, .aload_n 0, 0, 0), (15, .iconst 4, 4, 0), (16, .iload_n 3, 0, 0), (17, .iconst 0, 0, 0), (18, .invokevirtual 58, 52, 4), (21, .iload_n 1, 0, 0), (22, .if_icmp .ne 6, 28, 0)], 25),
  (25, [(25, .iinc 2 1, 1, 0)], 28),
  (28, [(28, .iinc 3 1, 1, 0), (31, .goto (-27), 4, 0)], 34),
  (34, [(34, .iload_n 2, 0, 0), (35, .ireturn, 0, 0)], 36)]
theorem t_State_postsBelow : z_chkM 59 b_State_postsBelow = true := by decide +kernel
def b_State_covers : List BK := [(0, [(0, .getstatic 30, 2, 1), (3, .iload_n 1, 0, 0), (4, .iaload, 0, 0), (5, .iload_n 2, 0, 0), (6, .getstatic 27, 0, 1), (9, .iload_n 1, 0, 0), (10, .iaload, 0, 0), (11, .imul, 0, 0), (12, .iadd, 0, 0), (13, .getstatic 62, 3, 1), (16, .iload_n 1, 0, 0), (17, .iaload, 0, 0), (18, .iadd, 0, 0), (19, .istore 4, 0, 0), (21, .aload_n 0, 0, 0), (22, .getfield 9, 0, 6), (25, .iload 4, 0, 0), (27, .iaload, 0, 0), (28, .iload_n 3, 0, 0), (29, .if_icmp .gt 20, 49, 0)], 32),
  (32, [(32, .iload_n 3, 0, 0), (33, .aload_n 0, 0, 0), (34, .getfield 9, 0, 6), (37, .iload 4, 0, 0), (39, .iconst 1, 1, 0), (40, .iadd, 0, 0), (41, .iaload, 0, 0), (42, .if_icmp .gt 7, 49, 0)], 45),
  (45, [(45, .iconst 1, 1, 0), (46, .goto 4, 50, 0)], 49),
  (49, [(49, .iconst 0, 0, 0)], 50),
  (50, [(50, .ireturn, 0, 0)], 51)]
theorem t_State_covers : z_chkM 60 b_State_covers = true := by decide +kernel
def b_State_holderAt : List BK := [(0, [(0, .iconst 0, 0, 0), (1, .istore_n 3, 0, 0)], 2),
  (2, [(2, .iload_n 3, 0, 0), (3, .aload_n 0, 0, 0), (4, .getfield 15, 1, 6), (7, .iconst 0, 0, 0), (8, .iaload, 0, 0), (9, .if_icmp .ge 38, 47, 0)], 12),
  (12, [(12, .aload_n 0, 0, 0), (13, .iconst 0, 0, 0), (14, .iload_n 3, 0, 0), (15, .iconst 0, 0, 0), (16, .invokevirtual 58, 52, 4), (19, .iload_n 1, 0, 0), (20, .if_icmp .ne 21, 41, 0)], 23),
  (23, [(23, .aload_n 0, 0, 0), (24, .iconst 0, 0, 0), (25, .iload_n 3, 0, 0), (26, .iload_n 2, 0, 0), (27, .invokevirtual 65, 60, 4), (30, .ifCond .eq 11, 41, 0)], 33),
  (33, [(33, .aload_n 0, 0, 0), (34, .iconst 0, 0, 0), (35, .iload_n 3, 0, 0), (36, .iconst 1, 1, 0), (37, .invokevirtual 58, 52, 4), (40, .ireturn, 0, 0)], 41),
  (41, [(41, .iinc 3 1, 1, 0), (44, .goto (-42), 2, 0)], 47),
  (47, [(47, .iconst (-1), 1, 1), (48, .ireturn, 0, 0)], 49)]
theorem t_State_holderAt : z_chkM 61 b_State_holderAt = true := by decide +kernel
def b_State_awayBits : List BK := [(0, [(0, .iconst 0, 0, 0), (1, .istore_n 3, 0, 0), (2, .iconst 0, 0, 0), (3, .istore 4, 0, 0)], 5),
  (5, [(5, .iload 4, 0, 0), (7, .aload_n 0, 0, 0), (8, .getfield 15, 1, 6), (11, .iconst 1, 1, 0), (12, .iaload, 0, 0), (13, .if_icmp .ge 39, 52, 0)], 16),
  (16, [(16, .iload 4, 0, 0), (18, .iload_n 2, 0, 0), (19, .if_icmp .eq 27, 46, 0)], 22),
  (22, [(22, .aload_n 0, 0, 0), (23, .iconst 1, 1, 0), (24, .iload 4, 0, 0), (26, .iload_n 1, 0, 0), (27, .invokevirtual 65, 60, 4), (30, .ifCond .eq 16, 46, 0)], 33),
  (33, [(33, .iload_n 3, 0, 0), (34, .iconst 1, 1, 0), (35, .aload_n 0, 0, 0), (36, .iconst 1, 1, 0), (37, .iload 4, 0, 0), (39, .iconst 0, 0, 0), (40, .invokevirtual 58, 52, 4), (43, .ishl, 0, 0), (44, .ior, 0, 0), (45, .istore_n 3, 0, 0)], 46),
  (46, [(46, .iinc 4 1, 1, 0), (49, .goto (-44), 5, 0)], 52),
  (52, [(52, .iload_n 3, 0, 0), (53, .ireturn, 0, 0)], 54)]
theorem t_State_awayBits : z_chkM 62 b_State_awayBits = true := by decide +kernel
def b_State_foeBits : List BK := [(0, [(0, .iconst 0, 0, 0), (1, .istore_n 2, 0, 0), (2, .iconst 0, 0, 0), (3, .istore_n 3, 0, 0)], 4),
  (4, [(4, .iload_n 3, 0, 0), (5, .aload_n 0, 0, 0), (6, .getfield 15, 1, 6), (9, .iconst 3, 3, 0), (10, .iaload, 0, 0), (11, .if_icmp .ge 32, 43, 0)], 14),
  (14, [(14, .aload_n 0, 0, 0), (15, .iconst 3, 3, 0), (16, .iload_n 3, 0, 0), (17, .iconst 1, 1, 0), (18, .invokevirtual 58, 52, 4), (21, .iload_n 1, 0, 0), (22, .if_icmp .ne 15, 37, 0)], 25),
  (25, [(25, .iload_n 2, 0, 0), (26, .iconst 1, 1, 0), (27, .aload_n 0, 0, 0), (28, .iconst 3, 3, 0), (29, .iload_n 3, 0, 0), (30, .iconst 0, 0, 0), (31, .invokevirtual 58, 52, 4), (34, .ishl, 0, 0), (35, .ior, 0, 0), (36, .istore_n 2, 0, 0)], 37),
  (37, [(37, .iinc 3 1, 1, 0), (40, .goto (-36), 4, 0)], 43),
  (43, [(43, .iload_n 2, 0, 0), (44, .ireturn, 0, 0)], 45)]
theorem t_State_foeBits : z_chkM 63 b_State_foeBits = true := by decide +kernel
def b_State_nextChange : List BK := [(0, [(0, .sipush 1000, 1000, 0), (3, .istore_n 2, 0, 0), (4, .iconst 0, 0, 0), (5, .istore_n 3, 0, 0)], 6),
  (6, [(6, .iload_n 3, 0, 0), (7, .iconst 2, 2, 0), (8, .if_icmp .gt 90, 98, 0)], 11),
  (11, [(11, .iconst 0, 0, 0), (12, .istore 4, 0, 0)], 14),
  (14, [(14, .iload 4, 0, 0), (16, .aload_n 0, 0, 0), (17, .getfield 15, 1, 6), (20, .iload_n 3, 0, 0), (21, .iaload, 0, 0), (22, .if_icmp .ge 70, 92, 0)], 25),
  (25, [(25, .aload_n 0, 0, 0), (26, .iload_n 3, 0, 0), (27, .iload 4, 0, 0), (29, .getstatic 62, 3, 1), (32, .iload_n 3, 0, 0), (33, .iaload, 0, 0), (34, .invokevirtual 58, 52, 4), (37, .istore 5, 0, 0), (39, .aload_n 0, 0, 0), (40, .iload_n 3, 0, 0), (41, .iload 4, 0, 0), (43, .getstatic 62, 3, 1), (46, .iload_n 3, 0, 0), (47, .iaload, 0, 0), (48, .iconst 1, 1, 0), (49, .iadd, 0, 0), (50, .invokevirtual 58, 52, 4), (53, .iconst 1, 1, 0), (54, .iadd, 0, 0), (55, .istore 6, 0, 0), (57, .iload 5, 0, 0), (59, .iload_n 1, 0, 0), (60, .if_icmp .le 13, 73, 0)], 63),
  (63, [(63, .iload_n 2, 0, 0), (64, .iload 5, 0, 0), (66, .invokestatic 69, 1001, 0), (69, .istore_n 2, 0, 0), (70, .goto 16, 86, 0)], 73),
  (73, [(73, .iload 6, 0, 0), (75, .iload_n 1, 0, 0), (76, .if_icmp .le 10, 86, 0)], 79),
  (79, [(79, .iload_n 2, 0, 0), (80, .iload 6, 0, 0), (82, .invokestatic 69, 1001, 0), (85, .istore_n 2, 0, 0)], 86),
  (86, [(86, .iinc 4 1, 1, 0), (89, .goto (-75), 14, 0)], 92),
  (92, [(92, .iinc 3 1, 1, 0), (95, .goto (-89), 6, 0)], 98),
  (98, [(98, .iload_n 2, 0, 0), (99, .ireturn, 0, 0)], 100)]
theorem t_State_nextChange : z_chkM 64 b_State_nextChange = true := by decide +kernel
def b_State_joinedBits : List BK := [(0, [(0, .lconst 0, 0, 0), (1, .lstore_n 3, 0, 0), (2, .iload_n 2, 0, 0), (3, .istore 5, 0, 0), (5, .iload_n 2, 0, 0), (6, .istore 6, 0, 0), (8, .iconst 1, 1, 0), (9, .istore 7, 0, 0), (11, .iconst 0, 0, 0), (12, .istore 8, 0, 0)], 14),
  (14, [(14, .iload 8, 0, 0), (16, .iload_n 1, 0, 0), (17, .if_icmp .ge 132, 149, 0)], 20),
  (20, [(20, .iload 7, 0, 0), (22, .ifCond .eq 127, 149, 0)], 25),
  (25, [(25, .iconst 0, 0, 0), (26, .istore 7, 0, 0), (28, .iconst 0, 0, 0), (29, .istore 9, 0, 0)], 31),
  (31, [(31, .iload 9, 0, 0), (33, .iload_n 1, 0, 0), (34, .if_icmp .ge 109, 143, 0)], 37),
  (37, [(37, .aload_n 0, 0, 0), (38, .iconst 5, 5, 0), (39, .iload 9, 0, 0), (41, .iconst 5, 5, 0), (42, .invokevirtual 58, 52, 4), (45, .istore 10, 0, 0), (47, .iload 10, 0, 0), (49, .iload 5, 0, 0), (51, .aload_n 0, 0, 0), (52, .getfield 18, 2, 6), (55, .iconst 0, 0, 0), (56, .iaload, 0, 0), (57, .isub, 0, 0), (58, .if_icmp .lt 21, 79, 0)], 61),
  (61, [(61, .iload 10, 0, 0), (63, .iload 6, 0, 0), (65, .aload_n 0, 0, 0), (66, .getfield 18, 2, 6), (69, .iconst 0, 0, 0), (70, .iaload, 0, 0), (71, .iadd, 0, 0), (72, .if_icmp .gt 7, 79, 0)], 75),
  (75, [(75, .iconst 1, 1, 0), (76, .goto 4, 80, 0)], 79),
  (79, [(79, .iconst 0, 0, 0)], 80),
  (80, [(80, .istore 11, 0, 0), (82, .iload 11, 0, 0), (84, .ifCond .eq 53, 137, 0)], 87),
  (87, [(87, .lload_n 3, 0, 0), (88, .iload 9, 0, 0), (90, .lshr, 0, 0), (91, .lconst 1, 0, 0), (92, .land, 0, 0), (93, .lconst 0, 0, 0), (94, .lcmp, 0, 0), (95, .ifCond .ne 42, 137, 0)], 98),
  (98, [(98, .aload_n 0, 0, 0), (99, .iload 9, 0, 0), (101, .iload_n 1, 0, 0), (102, .iload_n 2, 0, 0), (103, .invokevirtual 75, 66, 4), (106, .ifCond .eq 31, 137, 0)], 109),
  (109, [(109, .lload_n 3, 0, 0), (110, .lconst 1, 0, 0), (111, .iload 9, 0, 0), (113, .lshl, 0, 0), (114, .lor, 0, 0), (115, .lstore_n 3, 0, 0), (116, .iload 5, 0, 0), (118, .iload 10, 0, 0), (120, .invokestatic 69, 1001, 0), (123, .istore 5, 0, 0), (125, .iload 6, 0, 0), (127, .iload 10, 0, 0), (129, .invokestatic 78, 1000, 0), (132, .istore 6, 0, 0), (134, .iconst 1, 1, 0), (135, .istore 7, 0, 0)], 137),
  (137, [(137, .iinc 9 1, 1, 0), (140, .goto (-109), 31, 0)], 143),
  (143, [(143, .iinc 8 1, 1, 0), (146, .goto (-132), 14, 0)], 149),
  (149, [(149, .lload_n 3, 0, 0), (150, .lreturn, 0, 0)], 151)]
theorem t_State_joinedBits : z_chkM 65 b_State_joinedBits = true := by decide +kernel
def b_State_canJoin : List BK := [(0, [(0, .aload_n 0, 0, 0), (1, .iconst 5, 5, 0), (2, .iload_n 1, 0, 0), (3, .bipush 6, 6, 0), (5, .invokevirtual 58, 52, 4), (8, .istore 4, 0, 0), (10, .aload_n 0, 0, 0), (11, .iconst 5, 5, 0), (12, .iload_n 1, 0, 0), (13, .iconst 0, 0, 0), (14, .invokevirtual 58, 52, 4), (17, .aload_n 0, 0, 0), (18, .iconst 5, 5, 0), (19, .iload_n 2, 0, 0), (20, .iconst 0, 0, 0), (21, .invokevirtual 58, 52, 4), (24, .if_icmp .ne 54, 78, 0)], 27),
  (27, [(27, .aload_n 0, 0, 0), (28, .iconst 5, 5, 0), (29, .iload_n 1, 0, 0), (30, .iconst 2, 2, 0), (31, .invokevirtual 58, 52, 4), (34, .aload_n 0, 0, 0), (35, .iconst 5, 5, 0), (36, .iload_n 2, 0, 0), (37, .iconst 2, 2, 0), (38, .invokevirtual 58, 52, 4), (41, .if_icmp .ne 37, 78, 0)], 44),
  (44, [(44, .aload_n 0, 0, 0), (45, .iconst 5, 5, 0), (46, .iload_n 1, 0, 0), (47, .iconst 3, 3, 0), (48, .invokevirtual 58, 52, 4), (51, .aload_n 0, 0, 0), (52, .iconst 5, 5, 0), (53, .iload_n 2, 0, 0), (54, .iconst 3, 3, 0), (55, .invokevirtual 58, 52, 4), (58, .if_icmp .ne 20, 78, 0)], 61),
  (61, [(61, .iload 4, 0, 0), (63, .bipush (-2), 2, 1), (65, .if_icmp .eq 9, 74, 0)], 68),
  (68, [(68, .iload 4, 0, 0), (70, .iload_n 3, 0, 0), (71, .if_icmp .le 7, 78, 0)], 74),
  (74, [(74, .iconst 1, 1, 0), (75, .goto 4, 79, 0)], 78),
  (78, [(78, .iconst 0, 0, 0)], 79),
  (79, [(79, .ireturn, 0, 0)], 80)]
theorem t_State_canJoin : z_chkM 66 b_State_canJoin = true := by decide +kernel
def b_State_amountOf : List BK := [(0, [(0, .iconst 0, 0, 0), (1, .istore_n 3, 0, 0), (2, .iconst 0, 0, 0), (3, .istore 4, 0, 0)], 5),
  (5, [(5, .iload 4, 0, 0), (7, .aload_n 0, 0, 0), (8, .getfield 15, 1, 6), (11, .iconst 5, 5, 0), (12, .iaload, 0, 0), (13, .if_icmp .ge 31, 44, 0)], 16),
  (16, [(16, .lload_n 1, 0, 0), (17, .iload 4, 0, 0), (19, .lshr, 0, 0), (20, .lconst 1, 0, 0), (21, .land, 0, 0), (22, .lconst 0, 0, 0), (23, .lcmp, 0, 0), (24, .ifCond .eq 14, 38, 0)], 27),
  (27, [(27, .iload_n 3, 0, 0), (28, .aload_n 0, 0, 0), (29, .iconst 5, 5, 0), (30, .iload 4, 0, 0), (32, .iconst 4, 4, 0), (33, .invokevirtual 58, 52, 4), (36, .iadd, 0, 0), (37, .istore_n 3, 0, 0)], 38),
  (38, [(38, .iinc 4 1, 1, 0), (41, .goto (-36), 5, 0)], 44),
  (44, [(44, .iload_n 3, 0, 0), (45, .ireturn, 0, 0)], 46)]
theorem t_State_amountOf : z_chkM 67 b_State_amountOf = true := by decide +kernel
def b_Tape_init : List BK := [(0, [(0, .aload_n 0, 0, 0), (1, .invokespecial 3, 1003, 0), (4, .aload_n 0, 0, 0), (5, .sipush 400, 400, 0), (8, .newarray .byte, 1, 0), (10, .putfield 9, 0, 7), (13, .aload_n 0, 0, 0), (14, .iconst 0, 0, 0), (15, .putfield 15, 1, 7), (18, .return_, 0, 0)], 19)]
theorem t_Tape_init : z_chkM 68 b_Tape_init = true := by decide +kernel
def b_Tape_add : List BK := [(0, [(0, .bipush 24, 24, 0), (2, .istore_n 2, 0, 0)], 3),
  (3, [(3, .iload_n 2, 0, 0), (4, .ifCond .lt 42, 46, 0)], 7),
  (7, [(7, .aload_n 0, 0, 0), (8, .getfield 15, 1, 7), (11, .sipush 400, 400, 0), (14, .if_icmp .ge 32, 46, 0)], 17),
  (17, [(17, .aload_n 0, 0, 0), (18, .getfield 9, 0, 7), (21, .aload_n 0, 0, 0), (22, .getfield 15, 1, 7), (25, .iload_n 1, 0, 0), (26, .iload_n 2, 0, 0), (27, .ishr, 0, 0), (28, .i2b, 0, 0), (29, .bastore, 0, 0), (30, .aload_n 0, 0, 0), (31, .dup, 0, 0), (32, .getfield 15, 1, 7), (35, .iconst 1, 1, 0), (36, .iadd, 0, 0), (37, .putfield 15, 1, 7), (40, .iinc 2 (-8), 8, 1), (43, .goto (-40), 3, 0)], 46),
  (46, [(46, .return_, 0, 0)], 47)]
theorem t_Tape_add : z_chkM 69 b_Tape_add = true := by decide +kernel
def b_Tape_byteAt : List BK := [(0, [(0, .iload_n 1, 0, 0), (1, .ifCond .lt 24, 25, 0)], 4),
  (4, [(4, .iload_n 1, 0, 0), (5, .aload_n 0, 0, 0), (6, .getfield 15, 1, 7), (9, .if_icmp .ge 16, 25, 0)], 12),
  (12, [(12, .aload_n 0, 0, 0), (13, .getfield 9, 0, 7), (16, .iload_n 1, 0, 0), (17, .baload, 0, 0), (18, .sipush 255, 255, 0), (21, .iand, 0, 0), (22, .goto 4, 26, 0)], 25),
  (25, [(25, .iconst (-1), 1, 1)], 26),
  (26, [(26, .ireturn, 0, 0)], 27)]
theorem t_Tape_byteAt : z_chkM 70 b_Tape_byteAt = true := by decide +kernel
def b_Web_init : List BK := [(0, [(0, .aload_n 0, 0, 0), (1, .invokespecial 3, 1003, 0), (4, .aload_n 0, 0, 0), (5, .bipush 16, 16, 0), (7, .newarray .int, 0, 0), (9, .putfield 9, 0, 8), (12, .return_, 0, 0)], 13)]
theorem t_Web_init : z_chkM 71 b_Web_init = true := by decide +kernel
def b_Web_spin : List BK := [(0, [(0, .iconst 0, 0, 0), (1, .istore_n 3, 0, 0)], 2),
  (2, [(2, .iload_n 3, 0, 0), (3, .bipush 16, 16, 0), (5, .if_icmp .ge 16, 21, 0)], 8),
  (8, [(8, .aload_n 0, 0, 0), (9, .getfield 9, 0, 8), (12, .iload_n 3, 0, 0), (13, .iconst 0, 0, 0), (14, .iastore, 0, 0), (15, .iinc 3 1, 1, 0), (18, .goto (-16), 2, 0)], 21),
  (21, [(21, .iconst 0, 0, 0), (22, .istore_n 3, 0, 0)], 23),
  (23, [(23, .iload_n 3, 0, 0), (24, .aload_n 1, 0, 0), (25, .getfield 15, 1, 6), (28, .iconst 2, 2, 0), (29, .iaload, 0, 0), (30, .if_icmp .ge 43, 73, 0)], 33),
  (33, [(33, .aload_n 1, 0, 0), (34, .iconst 2, 2, 0), (35, .iload_n 3, 0, 0), (36, .iload_n 2, 0, 0), (37, .invokevirtual 20, 60, 4), (40, .ifCond .eq 27, 67, 0)], 43),
  (43, [(43, .aload_n 0, 0, 0), (44, .getfield 9, 0, 8), (47, .aload_n 1, 0, 0), (48, .iconst 2, 2, 0), (49, .iload_n 3, 0, 0), (50, .iconst 0, 0, 0), (51, .invokevirtual 24, 52, 4), (54, .dup2, 0, 0), (55, .iaload, 0, 0), (56, .iconst 1, 1, 0), (57, .aload_n 1, 0, 0), (58, .iconst 2, 2, 0), (59, .iload_n 3, 0, 0), (60, .iconst 1, 1, 0), (61, .invokevirtual 24, 52, 4), (64, .ishl, 0, 0), (65, .ior, 0, 0), (66, .iastore, 0, 0)], 67),
  (67, [(67, .iinc 3 1, 1, 0), (70, .goto (-47), 23, 0)], 73),
  (73, [(73, .return_, 0, 0)], 74)]
theorem t_Web_spin : z_chkM 72 b_Web_spin = true := by decide +kernel
def b_Web_ringBits : List BK := [(0, [(0, .iconst 0, 0, 0), (1, .istore_n 1, 0, 0), (2, .iconst 0, 0, 0), (3, .istore_n 2, 0, 0)], 4),
  (4, [(4, .iload_n 2, 0, 0), (5, .bipush 16, 16, 0), (7, .if_icmp .ge 27, 34, 0)], 10),
  (10, [(10, .aload_n 0, 0, 0), (11, .iload_n 2, 0, 0), (12, .invokevirtual 28, 74, 2), (15, .iload_n 2, 0, 0), (16, .invokestatic 32, 130, 2), (19, .ifCond .eq 9, 28, 0)], 22),
  (22, [(22, .iload_n 1, 0, 0), (23, .iconst 1, 1, 0), (24, .iload_n 2, 0, 0), (25, .ishl, 0, 0), (26, .ior, 0, 0), (27, .istore_n 1, 0, 0)], 28),
  (28, [(28, .iinc 2 1, 1, 0), (31, .goto (-27), 4, 0)], 34),
  (34, [(34, .iload_n 1, 0, 0), (35, .ireturn, 0, 0)], 36)]
theorem t_Web_ringBits : z_chkM 73 b_Web_ringBits = true := by decide +kernel
def b_Web_reachedFrom : List BK := [(0, [(0, .aload_n 0, 0, 0), (1, .getfield 9, 0, 8), (4, .iload_n 1, 0, 0), (5, .iaload, 0, 0), (6, .istore_n 2, 0, 0), (7, .iconst 0, 0, 0), (8, .istore_n 3, 0, 0)], 9),
  (9, [(9, .iload_n 3, 0, 0), (10, .bipush 16, 16, 0), (12, .if_icmp .ge 44, 56, 0)], 15),
  (15, [(15, .iconst 0, 0, 0), (16, .istore 4, 0, 0)], 18),
  (18, [(18, .iload 4, 0, 0), (20, .bipush 16, 16, 0), (22, .if_icmp .ge 28, 50, 0)], 25),
  (25, [(25, .iload_n 2, 0, 0), (26, .iload 4, 0, 0), (28, .invokestatic 32, 130, 2), (31, .ifCond .eq 13, 44, 0)], 34),
  (34, [(34, .iload_n 2, 0, 0), (35, .aload_n 0, 0, 0), (36, .getfield 9, 0, 8), (39, .iload 4, 0, 0), (41, .iaload, 0, 0), (42, .ior, 0, 0), (43, .istore_n 2, 0, 0)], 44),
  (44, [(44, .iinc 4 1, 1, 0), (47, .goto (-29), 18, 0)], 50),
  (50, [(50, .iinc 3 1, 1, 0), (53, .goto (-44), 9, 0)], 56),
  (56, [(56, .iload_n 2, 0, 0), (57, .ireturn, 0, 0)], 58)]
theorem t_Web_reachedFrom : z_chkM 74 b_Web_reachedFrom = true := by decide +kernel
def b_Web_longestLine : List BK := [(0, [(0, .iconst 0, 0, 0), (1, .istore_n 1, 0, 0), (2, .iconst 0, 0, 0), (3, .istore_n 2, 0, 0)], 4),
  (4, [(4, .iload_n 2, 0, 0), (5, .bipush 16, 16, 0), (7, .if_icmp .ge 32, 39, 0)], 10),
  (10, [(10, .aload_n 0, 0, 0), (11, .getfield 9, 0, 8), (14, .iload_n 2, 0, 0), (15, .iaload, 0, 0), (16, .ifCond .eq 17, 33, 0)], 19),
  (19, [(19, .iload_n 1, 0, 0), (20, .aload_n 0, 0, 0), (21, .iload_n 2, 0, 0), (22, .iconst 1, 1, 0), (23, .iload_n 2, 0, 0), (24, .ishl, 0, 0), (25, .iconst 1, 1, 0), (26, .invokevirtual 36, 76, 4), (29, .invokestatic 39, 1000, 0), (32, .istore_n 1, 0, 0)], 33),
  (33, [(33, .iinc 2 1, 1, 0), (36, .goto (-32), 4, 0)], 39),
  (39, [(39, .iload_n 1, 0, 0), (40, .ireturn, 0, 0)], 41)]
theorem t_Web_longestLine : z_chkM 75 b_Web_longestLine = true := by decide +kernel
def b_Web_lineFrom : List BK := [(0, [(0, .iload_n 3, 0, 0), (1, .istore 4, 0, 0), (3, .aload_n 0, 0, 0), (4, .getfield 9, 0, 8), (7, .iload_n 1, 0, 0), (8, .iaload, 0, 0), (9, .iload_n 2, 0, 0), (10, .iconst (-1), 1, 1), (11, .ixor, 0, 0), (12, .iand, 0, 0), (13, .istore 5, 0, 0), (15, .iconst 0, 0, 0), (16, .istore 6, 0, 0)], 18),
  (18, [(18, .iload 6, 0, 0), (20, .bipush 16, 16, 0), (22, .if_icmp .ge 47, 69, 0)], 25),
  (25, [(25, .iload_n 3, 0, 0), (26, .bipush 16, 16, 0), (28, .if_icmp .ge 41, 69, 0)], 31),
  (31, [(31, .iload 5, 0, 0), (33, .iload 6, 0, 0), (35, .invokestatic 32, 130, 2), (38, .ifCond .eq 25, 63, 0)], 41),
  (41, [(41, .iload 4, 0, 0), (43, .aload_n 0, 0, 0), (44, .iload 6, 0, 0), (46, .iload_n 2, 0, 0), (47, .iconst 1, 1, 0), (48, .iload 6, 0, 0), (50, .ishl, 0, 0), (51, .ior, 0, 0), (52, .iload_n 3, 0, 0), (53, .iconst 1, 1, 0), (54, .iadd, 0, 0), (55, .invokevirtual 36, 76, 4), (58, .invokestatic 39, 1000, 0), (61, .istore 4, 0, 0)], 63),
  (63, [(63, .iinc 6 1, 1, 0), (66, .goto (-48), 18, 0)], 69),
  (69, [(69, .iload 4, 0, 0), (71, .ireturn, 0, 0)], 72)]
theorem t_Web_lineFrom : z_chkM 76 b_Web_lineFrom = true := by decide +kernel
end
section
def b_Appr_init : List BK := [(0, [(0, .aload_n 0, 0, 0), (1, .invokespecial 1, 1003, 0), (4, .aload_n 0, 0, 0), (5, .new 7, 0, 6), (8, .dup, 0, 0), (9, .invokespecial 9, 47, 1), (12, .putfield 10, 0, 9), (15, .aload_n 0, 0, 0), (16, .new 16, 0, 3), (19, .dup, 0, 0), (20, .invokespecial 18, 14, 1), (23, .putfield 19, 1, 9), (26, .aload_n 0, 0, 0), (27, .iconst 2, 2, 0), (28, .anewarray 7, 0, 6), (31, .putfield 23, 2, 9), (34, .iconst 0, 0, 0), (35, .istore_n 1, 0, 0)], 36),
  (36, [(36, .iload_n 1, 0, 0), (37, .iconst 2, 2, 0), (38, .if_icmp .ge 22, 60, 0)], 41),
  (41, [(41, .aload_n 0, 0, 0), (42, .getfield 23, 2, 9), (45, .iload_n 1, 0, 0), (46, .new 7, 0, 6), (49, .dup, 0, 0), (50, .invokespecial 9, 47, 1), (53, .aastore, 0, 0), (54, .iinc 1 1, 1, 0), (57, .goto (-21), 36, 0)], 60),
  (60, [(60, .aload_n 0, 0, 0), (61, .iconst 0, 0, 0), (62, .putfield 27, 3, 9), (65, .aload_n 0, 0, 0), (66, .new 31, 0, 7), (69, .dup, 0, 0), (70, .invokespecial 33, 68, 1), (73, .putfield 34, 4, 9), (76, .aload_n 0, 0, 0), (77, .new 7, 0, 6), (80, .dup, 0, 0), (81, .invokespecial 9, 47, 1), (84, .putfield 38, 5, 9), (87, .aload_n 0, 0, 0), (88, .new 41, 0, 4), (91, .dup, 0, 0), (92, .aload_n 0, 0, 0), (93, .getfield 34, 4, 9), (96, .aload_n 0, 0, 0), (97, .getfield 38, 5, 9), (100, .invokespecial 43, 18, 3), (103, .putfield 46, 6, 9), (106, .aload_n 0, 0, 0), (107, .new 50, 0, 1), (110, .dup, 0, 0), (111, .invokespecial 52, 5, 1), (114, .putfield 53, 7, 9), (117, .aload_n 0, 0, 0), (118, .new 57, 0, 2), (121, .dup, 0, 0), (122, .invokespecial 59, 12, 1), (125, .putfield 60, 8, 9), (128, .aload_n 0, 0, 0), (129, .new 64, 0, 0), (132, .dup, 0, 0), (133, .aload_n 0, 0, 0), (134, .getfield 10, 0, 9), (137, .invokespecial 66, 0, 2), (140, .putfield 69, 9, 9), (143, .aload_n 0, 0, 0), (144, .new 73, 0, 5), (147, .dup, 0, 0), (148, .aload_n 0, 0, 0), (149, .getfield 10, 0, 9), (152, .aload_n 0, 0, 0), (153, .getfield 69, 9, 9), (156, .invokespecial 75, 32, 3), (159, .putfield 78, 10, 9), (162, .aload_n 0, 0, 0), (163, .new 82, 0, 8), (166, .dup, 0, 0), (167, .invokespecial 84, 71, 1), (170, .putfield 85, 11, 9), (173, .aload_n 0, 0, 0), (174, .bipush 16, 16, 0), (176, .newarray .int, 0, 0), (178, .putfield 89, 12, 9), (181, .aload_n 0, 0, 0), (182, .bipush 40, 40, 0), (184, .newarray .int, 0, 0), (186, .putfield 93, 13, 9), (189, .return_, 0, 0)], 190)]
theorem t_Appr_init : z_chkM 77 b_Appr_init = true := by decide +kernel
def b_Appr_feed : List BK := [(0, [(0, .aload_n 0, 0, 0), (1, .getfield 34, 4, 9), (4, .getfield 96, 1, 7), (7, .bipush 20, 20, 0), (9, .iadd, 0, 0), (10, .sipush 400, 400, 0), (13, .if_icmp .le 5, 18, 0)], 16),
  (16, [(16, .iconst (-1), 1, 1), (17, .ireturn, 0, 0)], 18),
  (18, [(18, .aload_n 0, 0, 0), (19, .getfield 34, 4, 9), (22, .iload_n 1, 0, 0), (23, .invokevirtual 99, 69, 2), (26, .aload_n 0, 0, 0), (27, .getfield 34, 4, 9), (30, .iload_n 2, 0, 0), (31, .invokevirtual 99, 69, 2), (34, .aload_n 0, 0, 0), (35, .getfield 34, 4, 9), (38, .iload_n 3, 0, 0), (39, .invokevirtual 99, 69, 2), (42, .aload_n 0, 0, 0), (43, .getfield 34, 4, 9), (46, .iload 4, 0, 0), (48, .invokevirtual 99, 69, 2), (51, .aload_n 0, 0, 0), (52, .getfield 34, 4, 9), (55, .iload 5, 0, 0), (57, .invokevirtual 99, 69, 2), (60, .aload_n 0, 0, 0), (61, .getfield 34, 4, 9), (64, .getfield 96, 1, 7), (67, .ireturn, 0, 0)], 68)]
theorem t_Appr_feed : z_chkM 78 b_Appr_feed = true := by decide +kernel
def b_Appr_end : List BK := [(0, [(0, .iload_n 1, 0, 0), (1, .ifCond .lt 14, 15, 0)], 4),
  (4, [(4, .iload_n 1, 0, 0), (5, .aload_n 0, 0, 0), (6, .getfield 34, 4, 9), (9, .getfield 96, 1, 7), (12, .if_icmp .le 5, 17, 0)], 15),
  (15, [(15, .iconst (-1), 1, 1), (16, .ireturn, 0, 0)], 17),
  (17, [(17, .aload_n 0, 0, 0), (18, .getfield 34, 4, 9), (21, .iload_n 1, 0, 0), (22, .putfield 96, 1, 7), (25, .iload_n 1, 0, 0), (26, .ireturn, 0, 0)], 27)]
theorem t_Appr_end : z_chkM 79 b_Appr_end = true := by decide +kernel
def b_Appr_tell : List BK := [(0, [(0, .aload_n 0, 0, 0), (1, .getfield 46, 6, 9), (4, .invokevirtual 103, 19, 1), (7, .istore_n 1, 0, 0), (8, .aload_n 0, 0, 0), (9, .getfield 34, 4, 9), (12, .iconst 0, 0, 0), (13, .putfield 96, 1, 7), (16, .iload_n 1, 0, 0), (17, .ifCond .eq 8, 25, 0)], 20),
  (20, [(20, .bipush (-2), 2, 1), (22, .iload_n 1, 0, 0), (23, .isub, 0, 0), (24, .ireturn, 0, 0)], 25),
  (25, [(25, .aload_n 0, 0, 0), (26, .getfield 10, 0, 9), (29, .aload_n 0, 0, 0), (30, .getfield 38, 5, 9), (33, .invokevirtual 107, 49, 2), (36, .aload_n 0, 0, 0), (37, .getfield 19, 1, 9), (40, .invokevirtual 110, 15, 1), (43, .aload_n 0, 0, 0), (44, .getfield 10, 0, 9), (47, .getfield 113, 1, 6), (50, .iconst 4, 4, 0), (51, .iaload, 0, 0), (52, .ireturn, 0, 0)], 53)]
theorem t_Appr_tell : z_chkM 80 b_Appr_tell = true := by decide +kernel
def b_Appr_request : List BK := [(0, [(0, .iload_n 1, 0, 0), (1, .invokestatic 116, 121, 1), (4, .ifCond .eq 38, 42, 0)], 7),
  (7, [(7, .aload_n 0, 0, 0), (8, .getfield 10, 0, 9), (11, .iconst 4, 4, 0), (12, .iload_n 2, 0, 0), (13, .invokevirtual 120, 50, 3), (16, .ifCond .eq 26, 42, 0)], 19),
  (19, [(19, .iload_n 3, 0, 0), (20, .invokestatic 124, 126, 1), (23, .ifCond .eq 19, 42, 0)], 26),
  (26, [(26, .iload 4, 0, 0), (28, .invokestatic 127, 127, 1), (31, .ifCond .eq 11, 42, 0)], 34),
  (34, [(34, .iload 5, 0, 0), (36, .invokestatic 130, 122, 1), (39, .ifCond .ne 5, 44, 0)], 42),
  (42, [(42, .iconst (-1), 1, 1), (43, .ireturn, 0, 0)], 44),
  (44, [(44, .aload_n 0, 0, 0), (45, .getfield 10, 0, 9), (48, .iconst 5, 5, 0), (49, .invokevirtual 133, 51, 2), (52, .ifCond .eq 6, 58, 0)], 55),
  (55, [(55, .bipush (-2), 2, 1), (57, .ireturn, 0, 0)], 58),
  (58, [(58, .aload_n 0, 0, 0), (59, .getfield 19, 1, 9), (62, .aload_n 0, 0, 0), (63, .getfield 10, 0, 9), (66, .invokevirtual 136, 16, 2), (69, .aload_n 0, 0, 0), (70, .getfield 10, 0, 9), (73, .iload_n 1, 0, 0), (74, .iload_n 2, 0, 0), (75, .iload_n 3, 0, 0), (76, .bipush 10, 10, 0), (78, .irem, 0, 0), (79, .iload_n 3, 0, 0), (80, .bipush 10, 10, 0), (82, .idiv, 0, 0), (83, .iload 4, 0, 0), (85, .iload 5, 0, 0), (87, .invokevirtual 139, 55, 7), (90, .ireturn, 0, 0)], 91)]
theorem t_Appr_request : z_chkM 81 b_Appr_request = true := by decide +kernel
def b_Appr_recall : List BK := [(0, [(0, .aload_n 0, 0, 0), (1, .iload_n 1, 0, 0), (2, .iload_n 2, 0, 0), (3, .invokevirtual 143, 133, 3), (6, .istore_n 3, 0, 0), (7, .iload_n 3, 0, 0), (8, .ifCond .eq 5, 13, 0)], 11),
  (11, [(11, .iload_n 3, 0, 0), (12, .ireturn, 0, 0)], 13),
  (13, [(13, .aload_n 0, 0, 0), (14, .getfield 19, 1, 9), (17, .aload_n 0, 0, 0), (18, .getfield 10, 0, 9), (21, .invokevirtual 136, 16, 2), (24, .aload_n 0, 0, 0), (25, .getfield 10, 0, 9), (28, .iconst 5, 5, 0), (29, .iload_n 1, 0, 0), (30, .bipush 6, 6, 0), (32, .iload_n 2, 0, 0), (33, .invokevirtual 147, 53, 5), (36, .iconst 1, 1, 0), (37, .ireturn, 0, 0)], 38)]
theorem t_Appr_recall : z_chkM 82 b_Appr_recall = true := by decide +kernel
def b_Appr_amend : List BK := [(0, [(0, .aload_n 0, 0, 0), (1, .iload_n 1, 0, 0), (2, .iload_n 3, 0, 0), (3, .invokevirtual 143, 133, 3), (6, .istore 4, 0, 0), (8, .iload 4, 0, 0), (10, .iconst (-1), 1, 1), (11, .if_icmp .eq 10, 21, 0)], 14),
  (14, [(14, .iload_n 2, 0, 0), (15, .invokestatic 127, 127, 1), (18, .ifCond .ne 5, 23, 0)], 21),
  (21, [(21, .iconst (-1), 1, 1), (22, .ireturn, 0, 0)], 23),
  (23, [(23, .aload_n 0, 0, 0), (24, .getfield 10, 0, 9), (27, .iconst 5, 5, 0), (28, .invokevirtual 133, 51, 2), (31, .ifCond .eq 6, 37, 0)], 34),
  (34, [(34, .bipush (-2), 2, 1), (36, .ireturn, 0, 0)], 37),
  (37, [(37, .iload 4, 0, 0), (39, .ifCond .eq 6, 45, 0)], 42),
  (42, [(42, .iload 4, 0, 0), (44, .ireturn, 0, 0)], 45),
  (45, [(45, .aload_n 0, 0, 0), (46, .getfield 19, 1, 9), (49, .aload_n 0, 0, 0), (50, .getfield 10, 0, 9), (53, .invokevirtual 136, 16, 2), (56, .aload_n 0, 0, 0), (57, .getfield 10, 0, 9), (60, .iconst 5, 5, 0), (61, .iload_n 1, 0, 0), (62, .bipush 6, 6, 0), (64, .iload_n 3, 0, 0), (65, .invokevirtual 147, 53, 5), (68, .aload_n 0, 0, 0), (69, .getfield 10, 0, 9), (72, .aload_n 0, 0, 0), (73, .getfield 10, 0, 9), (76, .iconst 5, 5, 0), (77, .iload_n 1, 0, 0), (78, .iconst 0, 0, 0), (79, .invokevirtual 151, 52, 4), (82, .aload_n 0, 0, 0), (83, .getfield 10, 0, 9), (86, .iconst 5, 5, 0), (87, .iload_n 1, 0, 0), (88, .iconst 1, 1, 0), (89, .invokevirtual 151, 52, 4), (92, .aload_n 0, 0, 0), (93, .getfield 10, 0, 9), (96, .iconst 5, 5, 0), (97, .iload_n 1, 0, 0), (98, .iconst 2, 2, 0), (99, .invokevirtual 151, 52, 4), (102, .aload_n 0, 0, 0), (103, .getfield 10, 0, 9), (106, .iconst 5, 5, 0), (107, .iload_n 1, 0, 0), (108, .iconst 3, 3, 0), (109, .invokevirtual 151, 52, 4), (112, .iload_n 2, 0, 0), (113, .iload_n 3, 0, 0), (114, .invokevirtual 139, 55, 7), (117, .ireturn, 0, 0)], 118)]
theorem t_Appr_amend : z_chkM 83 b_Appr_amend = true := by decide +kernel
def b_Appr_hold : List BK := [(0, [(0, .aload_n 0, 0, 0), (1, .getfield 10, 0, 9), (4, .iconst 4, 4, 0), (5, .iload_n 1, 0, 0), (6, .invokevirtual 120, 50, 3), (9, .ifCond .eq 19, 28, 0)], 12),
  (12, [(12, .iload_n 2, 0, 0), (13, .invokestatic 116, 121, 1), (16, .ifCond .eq 12, 28, 0)], 19),
  (19, [(19, .iload_n 3, 0, 0), (20, .iload 4, 0, 0), (22, .invokestatic 155, 123, 2), (25, .ifCond .ne 5, 30, 0)], 28),
  (28, [(28, .iconst (-1), 1, 1), (29, .ireturn, 0, 0)], 30),
  (30, [(30, .aload_n 0, 0, 0), (31, .iconst 0, 0, 0), (32, .iload_n 1, 0, 0), (33, .iload_n 2, 0, 0), (34, .iload_n 3, 0, 0), (35, .iload 4, 0, 0), (37, .iconst 0, 0, 0), (38, .invokevirtual 158, 132, 7), (41, .ireturn, 0, 0)], 42)]
theorem t_Appr_hold : z_chkM 84 b_Appr_hold = true := by decide +kernel
def b_Appr_away : List BK := [(0, [(0, .iload_n 1, 0, 0), (1, .invokestatic 116, 121, 1), (4, .ifCond .eq 11, 15, 0)], 7),
  (7, [(7, .iload_n 2, 0, 0), (8, .iload_n 3, 0, 0), (9, .invokestatic 155, 123, 2), (12, .ifCond .ne 5, 17, 0)], 15),
  (15, [(15, .iconst (-1), 1, 1), (16, .ireturn, 0, 0)], 17),
  (17, [(17, .aload_n 0, 0, 0), (18, .iconst 1, 1, 0), (19, .iload_n 1, 0, 0), (20, .iload_n 2, 0, 0), (21, .iload_n 3, 0, 0), (22, .iconst 0, 0, 0), (23, .iconst 0, 0, 0), (24, .invokevirtual 158, 132, 7), (27, .ireturn, 0, 0)], 28)]
theorem t_Appr_away : z_chkM 85 b_Appr_away = true := by decide +kernel
def b_Appr_stand : List BK := [(0, [(0, .iload_n 1, 0, 0), (1, .invokestatic 116, 121, 1), (4, .ifCond .eq 32, 36, 0)], 7),
  (7, [(7, .iload_n 2, 0, 0), (8, .invokestatic 116, 121, 1), (11, .ifCond .eq 25, 36, 0)], 14),
  (14, [(14, .iload_n 1, 0, 0), (15, .iload_n 2, 0, 0), (16, .if_icmp .eq 20, 36, 0)], 19),
  (19, [(19, .iload_n 3, 0, 0), (20, .iload 4, 0, 0), (22, .invokestatic 155, 123, 2), (25, .ifCond .eq 11, 36, 0)], 28),
  (28, [(28, .iload 5, 0, 0), (30, .invokestatic 161, 128, 1), (33, .ifCond .ne 5, 38, 0)], 36),
  (36, [(36, .iconst (-1), 1, 1), (37, .ireturn, 0, 0)], 38),
  (38, [(38, .aload_n 0, 0, 0), (39, .iconst 2, 2, 0), (40, .iload_n 1, 0, 0), (41, .iload_n 2, 0, 0), (42, .iload_n 3, 0, 0), (43, .iload 4, 0, 0), (45, .iload 5, 0, 0), (47, .invokevirtual 158, 132, 7), (50, .ireturn, 0, 0)], 51)]
theorem t_Appr_stand : z_chkM 86 b_Appr_stand = true := by decide +kernel
def b_Appr_foe : List BK := [(0, [(0, .iload_n 1, 0, 0), (1, .invokestatic 116, 121, 1), (4, .ifCond .eq 13, 17, 0)], 7),
  (7, [(7, .iload_n 2, 0, 0), (8, .ifCond .lt 9, 17, 0)], 11),
  (11, [(11, .iload_n 2, 0, 0), (12, .bipush 10, 10, 0), (14, .if_icmp .lt 5, 19, 0)], 17),
  (17, [(17, .iconst (-1), 1, 1), (18, .ireturn, 0, 0)], 19),
  (19, [(19, .aload_n 0, 0, 0), (20, .getfield 10, 0, 9), (23, .iload_n 2, 0, 0), (24, .invokevirtual 164, 63, 2), (27, .iload_n 1, 0, 0), (28, .invokestatic 168, 130, 2), (31, .ifCond .eq 6, 37, 0)], 34),
  (34, [(34, .bipush (-2), 2, 1), (36, .ireturn, 0, 0)], 37),
  (37, [(37, .aload_n 0, 0, 0), (38, .iconst 3, 3, 0), (39, .iload_n 1, 0, 0), (40, .iload_n 2, 0, 0), (41, .iconst 0, 0, 0), (42, .iconst 0, 0, 0), (43, .iconst 0, 0, 0), (44, .invokevirtual 158, 132, 7), (47, .ireturn, 0, 0)], 48)]
theorem t_Appr_foe : z_chkM 87 b_Appr_foe = true := by decide +kernel
def b_Appr_drop : List BK := [(0, [(0, .iload_n 1, 0, 0), (1, .invokestatic 171, 125, 1), (4, .ifCond .eq 15, 19, 0)], 7),
  (7, [(7, .aload_n 0, 0, 0), (8, .getfield 10, 0, 9), (11, .iload_n 1, 0, 0), (12, .iload_n 2, 0, 0), (13, .invokevirtual 120, 50, 3), (16, .ifCond .ne 5, 21, 0)], 19),
  (19, [(19, .iconst (-1), 1, 1), (20, .ireturn, 0, 0)], 21),
  (21, [(21, .aload_n 0, 0, 0), (22, .getfield 19, 1, 9), (25, .aload_n 0, 0, 0), (26, .getfield 10, 0, 9), (29, .invokevirtual 136, 16, 2), (32, .aload_n 0, 0, 0), (33, .getfield 10, 0, 9), (36, .iload_n 1, 0, 0), (37, .iload_n 2, 0, 0), (38, .invokevirtual 174, 56, 3), (41, .aload_n 0, 0, 0), (42, .getfield 10, 0, 9), (45, .getfield 113, 1, 6), (48, .iload_n 1, 0, 0), (49, .iaload, 0, 0), (50, .ireturn, 0, 0)], 51)]
theorem t_Appr_drop : z_chkM 88 b_Appr_drop = true := by decide +kernel
def b_Appr_limit : List BK := [(0, [(0, .aload_n 0, 0, 0), (1, .getfield 10, 0, 9), (4, .iconst 4, 4, 0), (5, .iload_n 1, 0, 0), (6, .invokevirtual 120, 50, 3), (9, .ifCond .eq 17, 26, 0)], 12),
  (12, [(12, .iload_n 2, 0, 0), (13, .invokestatic 178, 124, 1), (16, .ifCond .eq 10, 26, 0)], 19),
  (19, [(19, .iload_n 3, 0, 0), (20, .invokestatic 161, 128, 1), (23, .ifCond .ne 5, 28, 0)], 26),
  (26, [(26, .iconst (-1), 1, 1), (27, .ireturn, 0, 0)], 28),
  (28, [(28, .aload_n 0, 0, 0), (29, .getfield 10, 0, 9), (32, .iconst 4, 4, 0), (33, .iload_n 1, 0, 0), (34, .iconst 1, 1, 0), (35, .iload_n 2, 0, 0), (36, .iadd, 0, 0), (37, .invokevirtual 151, 52, 4), (40, .istore 4, 0, 0), (42, .iload 4, 0, 0), (44, .iload_n 3, 0, 0), (45, .if_icmp .ne 6, 51, 0)], 48),
  (48, [(48, .bipush (-2), 2, 1), (50, .ireturn, 0, 0)], 51),
  (51, [(51, .aload_n 0, 0, 0), (52, .getfield 19, 1, 9), (55, .aload_n 0, 0, 0), (56, .getfield 10, 0, 9), (59, .invokevirtual 136, 16, 2), (62, .aload_n 0, 0, 0), (63, .getfield 10, 0, 9), (66, .iconst 4, 4, 0), (67, .iload_n 1, 0, 0), (68, .iconst 1, 1, 0), (69, .iload_n 2, 0, 0), (70, .iadd, 0, 0), (71, .iload_n 3, 0, 0), (72, .invokevirtual 147, 53, 5), (75, .iload 4, 0, 0), (77, .ireturn, 0, 0)], 78)]
theorem t_Appr_limit : z_chkM 89 b_Appr_limit = true := by decide +kernel
def b_Appr_set : List BK := [(0, [(0, .iload_n 1, 0, 0), (1, .ifCond .lt 21, 22, 0)], 4),
  (4, [(4, .iload_n 1, 0, 0), (5, .iconst 3, 3, 0), (6, .if_icmp .ge 16, 22, 0)], 9),
  (9, [(9, .iload_n 2, 0, 0), (10, .ifCond .lt 12, 22, 0)], 13),
  (13, [(13, .iload_n 2, 0, 0), (14, .getstatic 181, 5, 0), (17, .iload_n 1, 0, 0), (18, .iaload, 0, 0), (19, .if_icmp .le 5, 24, 0)], 22),
  (22, [(22, .iconst (-1), 1, 1), (23, .ireturn, 0, 0)], 24),
  (24, [(24, .aload_n 0, 0, 0), (25, .getfield 10, 0, 9), (28, .getfield 184, 2, 6), (31, .iload_n 1, 0, 0), (32, .iaload, 0, 0), (33, .istore_n 3, 0, 0), (34, .iload_n 3, 0, 0), (35, .iload_n 2, 0, 0), (36, .if_icmp .ne 6, 42, 0)], 39),
  (39, [(39, .bipush (-2), 2, 1), (41, .ireturn, 0, 0)], 42),
  (42, [(42, .aload_n 0, 0, 0), (43, .getfield 19, 1, 9), (46, .aload_n 0, 0, 0), (47, .getfield 10, 0, 9), (50, .invokevirtual 136, 16, 2), (53, .aload_n 0, 0, 0), (54, .getfield 10, 0, 9), (57, .getfield 184, 2, 6), (60, .iload_n 1, 0, 0), (61, .iload_n 2, 0, 0), (62, .iastore, 0, 0), (63, .iload_n 3, 0, 0), (64, .ireturn, 0, 0)], 65)]
theorem t_Appr_set : z_chkM 90 b_Appr_set = true := by decide +kernel
def b_Appr_undo : List BK := [(0, [(0, .aload_n 0, 0, 0), (1, .getfield 19, 1, 9), (4, .aload_n 0, 0, 0), (5, .getfield 10, 0, 9), (8, .invokevirtual 187, 17, 2), (11, .ireturn, 0, 0)], 12)]
theorem t_Appr_undo : z_chkM 91 b_Appr_undo = true := by decide +kernel
def b_Appr_keep : List BK := [(0, [(0, .iload_n 1, 0, 0), (1, .invokestatic 191, 129, 1), (4, .ifCond .ne 5, 9, 0)], 7),
  (7, [(7, .iconst (-1), 1, 1), (8, .ireturn, 0, 0)], 9),
  (9, [(9, .aload_n 0, 0, 0), (10, .getfield 23, 2, 9), (13, .iload_n 1, 0, 0), (14, .aaload, 0, 0), (15, .aload_n 0, 0, 0), (16, .getfield 10, 0, 9), (19, .invokevirtual 107, 49, 2), (22, .aload_n 0, 0, 0), (23, .dup, 0, 0), (24, .getfield 27, 3, 9), (27, .iconst 1, 1, 0), (28, .iload_n 1, 0, 0), (29, .ishl, 0, 0), (30, .ior, 0, 0), (31, .putfield 27, 3, 9), (34, .aload_n 0, 0, 0), (35, .getfield 10, 0, 9), (38, .getfield 113, 1, 6), (41, .iconst 5, 5, 0), (42, .iaload, 0, 0), (43, .ireturn, 0, 0)], 44)]
theorem t_Appr_keep : z_chkM 92 b_Appr_keep = true := by decide +kernel
def b_Appr_back : List BK := [(0, [(0, .iload_n 1, 0, 0), (1, .invokestatic 191, 129, 1), (4, .ifCond .ne 5, 9, 0)], 7),
  (7, [(7, .iconst (-1), 1, 1), (8, .ireturn, 0, 0)], 9),
  (9, [(9, .aload_n 0, 0, 0), (10, .getfield 27, 3, 9), (13, .iload_n 1, 0, 0), (14, .invokestatic 168, 130, 2), (17, .ifCond .ne 6, 23, 0)], 20),
  (20, [(20, .bipush (-2), 2, 1), (22, .ireturn, 0, 0)], 23),
  (23, [(23, .aload_n 0, 0, 0), (24, .getfield 10, 0, 9), (27, .aload_n 0, 0, 0), (28, .getfield 23, 2, 9), (31, .iload_n 1, 0, 0), (32, .aaload, 0, 0), (33, .invokevirtual 107, 49, 2), (36, .aload_n 0, 0, 0), (37, .getfield 19, 1, 9), (40, .invokevirtual 110, 15, 1), (43, .aload_n 0, 0, 0), (44, .getfield 10, 0, 9), (47, .getfield 113, 1, 6), (50, .iconst 5, 5, 0), (51, .iaload, 0, 0), (52, .ireturn, 0, 0)], 53)]
theorem t_Appr_back : z_chkM 93 b_Appr_back = true := by decide +kernel
def b_Appr_post : List BK := [(0, [(0, .aload_n 0, 0, 0), (1, .getfield 10, 0, 9), (4, .iconst 4, 4, 0), (5, .iload_n 1, 0, 0), (6, .invokevirtual 120, 50, 3), (9, .ifCond .ne 5, 14, 0)], 12),
  (12, [(12, .iconst (-1), 1, 1), (13, .ireturn, 0, 0)], 14),
  (14, [(14, .iload_n 2, 0, 0), (15, .ifCond .lt 19, 34, 0)], 18),
  (18, [(18, .iload_n 2, 0, 0), (19, .iconst 4, 4, 0), (20, .if_icmp .ge 14, 34, 0)], 23),
  (23, [(23, .aload_n 0, 0, 0), (24, .getfield 10, 0, 9), (27, .iconst 4, 4, 0), (28, .iload_n 1, 0, 0), (29, .iload_n 2, 0, 0), (30, .invokevirtual 151, 52, 4), (33, .ireturn, 0, 0)], 34),
  (34, [(34, .iload_n 2, 0, 0), (35, .iconst 4, 4, 0), (36, .if_icmp .ne 12, 48, 0)], 39),
  (39, [(39, .aload_n 0, 0, 0), (40, .getfield 10, 0, 9), (43, .iload_n 1, 0, 0), (44, .invokevirtual 194, 58, 2), (47, .ireturn, 0, 0)], 48),
  (48, [(48, .iload_n 2, 0, 0), (49, .iconst 5, 5, 0), (50, .if_icmp .ne 14, 64, 0)], 53),
  (53, [(53, .aload_n 0, 0, 0), (54, .getfield 10, 0, 9), (57, .iload_n 1, 0, 0), (58, .invokevirtual 197, 59, 2), (61, .goto 4, 65, 0)], 64),
  (64, [(64, .iconst (-1), 1, 1)], 65),
  (65, [(65, .ireturn, 0, 0)], 66)]
theorem t_Appr_post : z_chkM 94 b_Appr_post = true := by decide +kernel
def b_Appr_entry : List BK := [(0, [(0, .iload_n 1, 0, 0), (1, .invokestatic 171, 125, 1), (4, .ifCond .eq 28, 32, 0)], 7),
  (7, [(7, .aload_n 0, 0, 0), (8, .getfield 10, 0, 9), (11, .iload_n 1, 0, 0), (12, .iload_n 2, 0, 0), (13, .invokevirtual 120, 50, 3), (16, .ifCond .eq 16, 32, 0)], 19),
  (19, [(19, .iload_n 3, 0, 0), (20, .ifCond .lt 12, 32, 0)], 23),
  (23, [(23, .iload_n 3, 0, 0), (24, .getstatic 200, 0, 0), (27, .iload_n 1, 0, 0), (28, .iaload, 0, 0), (29, .if_icmp .lt 5, 34, 0)], 32),
  (32, [(32, .iconst (-1), 1, 1), (33, .ireturn, 0, 0)], 34),
  (34, [(34, .aload_n 0, 0, 0), (35, .getfield 10, 0, 9), (38, .iload_n 1, 0, 0), (39, .iload_n 2, 0, 0), (40, .iload_n 3, 0, 0), (41, .invokevirtual 151, 52, 4), (44, .ireturn, 0, 0)], 45)]
theorem t_Appr_entry : z_chkM 95 b_Appr_entry = true := by decide +kernel
def b_Appr_asked : List BK := [(0, [(0, .aload_n 0, 0, 0), (1, .getfield 10, 0, 9), (4, .iconst 5, 5, 0), (5, .iload_n 1, 0, 0), (6, .invokevirtual 120, 50, 3), (9, .ifCond .ne 5, 14, 0)], 12),
  (12, [(12, .iconst (-1), 1, 1), (13, .ireturn, 0, 0)], 14),
  (14, [(14, .iload_n 2, 0, 0), (15, .ifCond .lt 20, 35, 0)], 18),
  (18, [(18, .iload_n 2, 0, 0), (19, .bipush 6, 6, 0), (21, .if_icmp .gt 14, 35, 0)], 24),
  (24, [(24, .aload_n 0, 0, 0), (25, .getfield 10, 0, 9), (28, .iconst 5, 5, 0), (29, .iload_n 1, 0, 0), (30, .iload_n 2, 0, 0), (31, .invokevirtual 151, 52, 4), (34, .ireturn, 0, 0)], 35),
  (35, [(35, .iload_n 2, 0, 0), (36, .bipush 7, 7, 0), (38, .if_icmp .ne 19, 57, 0)], 41),
  (41, [(41, .aload_n 0, 0, 0), (42, .iload_n 1, 0, 0), (43, .aload_n 0, 0, 0), (44, .getfield 10, 0, 9), (47, .iconst 5, 5, 0), (48, .iload_n 1, 0, 0), (49, .iconst 5, 5, 0), (50, .invokevirtual 151, 52, 4), (53, .invokevirtual 203, 134, 3), (56, .ireturn, 0, 0)], 57),
  (57, [(57, .iload_n 2, 0, 0), (58, .bipush 8, 8, 0), (60, .if_icmp .ne 14, 74, 0)], 63),
  (63, [(63, .aload_n 0, 0, 0), (64, .iload_n 1, 0, 0), (65, .invokevirtual 206, 97, 2), (68, .invokestatic 210, 271, 1), (71, .goto 4, 75, 0)], 74),
  (74, [(74, .iconst (-1), 1, 1)], 75),
  (75, [(75, .ireturn, 0, 0)], 76)]
theorem t_Appr_asked : z_chkM 96 b_Appr_asked = true := by decide +kernel
def b_Appr_joined : List BK := [(0, [(0, .aload_n 0, 0, 0), (1, .getfield 10, 0, 9), (4, .iconst 5, 5, 0), (5, .iload_n 1, 0, 0), (6, .invokevirtual 120, 50, 3), (9, .ifCond .ne 7, 16, 0)], 12),
  (12, [(12, .ldc2_w 216, 1, 3), (15, .lreturn, 0, 0)], 16),
  (16, [(16, .aload_n 0, 0, 0), (17, .getfield 10, 0, 9), (20, .iload_n 1, 0, 0), (21, .aload_n 0, 0, 0), (22, .getfield 10, 0, 9), (25, .iconst 5, 5, 0), (26, .iload_n 1, 0, 0), (27, .iconst 5, 5, 0), (28, .invokevirtual 151, 52, 4), (31, .invokevirtual 218, 65, 3), (34, .lreturn, 0, 0)], 35)]
theorem t_Appr_joined : z_chkM 97 b_Appr_joined = true := by decide +kernel
def b_Appr_step : List BK := [(0, [(0, .aload_n 0, 0, 0), (1, .getfield 10, 0, 9), (4, .iconst 5, 5, 0), (5, .iload_n 1, 0, 0), (6, .invokevirtual 120, 50, 3), (9, .ifCond .ne 5, 14, 0)], 12),
  (12, [(12, .iconst (-1), 1, 1), (13, .ireturn, 0, 0)], 14),
  (14, [(14, .aload_n 0, 0, 0), (15, .getfield 78, 10, 9), (18, .aload_n 0, 0, 0), (19, .iload_n 1, 0, 0), (20, .invokevirtual 222, 135, 2), (23, .invokevirtual 226, 33, 2), (26, .iload_n 2, 0, 0), (27, .iconst (-1), 1, 1), (28, .if_icmp .ne 19, 47, 0)], 31),
  (31, [(31, .iload_n 3, 0, 0), (32, .ifCond .ne 13, 45, 0)], 35),
  (35, [(35, .aload_n 0, 0, 0), (36, .getfield 78, 10, 9), (39, .getfield 230, 4, 5), (42, .goto 4, 46, 0)], 45),
  (45, [(45, .iconst (-1), 1, 1)], 46),
  (46, [(46, .ireturn, 0, 0)], 47),
  (47, [(47, .aload_n 0, 0, 0), (48, .getfield 78, 10, 9), (51, .iload_n 2, 0, 0), (52, .invokevirtual 233, 37, 2), (55, .ifCond .eq 13, 68, 0)], 58),
  (58, [(58, .iload_n 3, 0, 0), (59, .ifCond .lt 9, 68, 0)], 62),
  (62, [(62, .iload_n 3, 0, 0), (63, .bipush 6, 6, 0), (65, .if_icmp .lt 5, 70, 0)], 68),
  (68, [(68, .iconst (-1), 1, 1), (69, .ireturn, 0, 0)], 70),
  (70, [(70, .aload_n 0, 0, 0), (71, .getfield 78, 10, 9), (74, .iload_n 2, 0, 0), (75, .iload_n 3, 0, 0), (76, .invokevirtual 235, 38, 3), (79, .ireturn, 0, 0)], 80)]
theorem t_Appr_step : z_chkM 98 b_Appr_step = true := by decide +kernel
def b_Appr_chain : List BK := [(0, [(0, .aload_n 0, 0, 0), (1, .getfield 10, 0, 9), (4, .iconst 5, 5, 0), (5, .iload_n 1, 0, 0), (6, .invokevirtual 120, 50, 3), (9, .ifCond .eq 7, 16, 0)], 12),
  (12, [(12, .iload_n 3, 0, 0), (13, .ifCond .ge 5, 18, 0)], 16),
  (16, [(16, .iconst (-1), 1, 1), (17, .ireturn, 0, 0)], 18),
  (18, [(18, .aload_n 0, 0, 0), (19, .getfield 78, 10, 9), (22, .aload_n 0, 0, 0), (23, .iload_n 1, 0, 0), (24, .invokevirtual 222, 135, 2), (27, .invokevirtual 226, 33, 2), (30, .aload_n 0, 0, 0), (31, .getfield 78, 10, 9), (34, .iload_n 2, 0, 0), (35, .invokevirtual 233, 37, 2), (38, .ifCond .ne 5, 43, 0)], 41),
  (41, [(41, .iconst (-1), 1, 1), (42, .ireturn, 0, 0)], 43),
  (43, [(43, .iload_n 3, 0, 0), (44, .aload_n 0, 0, 0), (45, .getfield 78, 10, 9), (48, .iload_n 2, 0, 0), (49, .iconst 5, 5, 0), (50, .invokevirtual 235, 38, 3), (53, .if_icmp .gt 15, 68, 0)], 56),
  (56, [(56, .aload_n 0, 0, 0), (57, .getfield 78, 10, 9), (60, .iload_n 2, 0, 0), (61, .iload_n 3, 0, 0), (62, .invokevirtual 237, 40, 3), (65, .goto 5, 70, 0)], 68),
  (68, [(68, .bipush (-2), 2, 1)], 70),
  (70, [(70, .ireturn, 0, 0)], 71)]
theorem t_Appr_chain : z_chkM 99 b_Appr_chain = true := by decide +kernel
def b_Appr_ends : List BK := [(0, [(0, .aload_n 0, 0, 0), (1, .getfield 10, 0, 9), (4, .iconst 5, 5, 0), (5, .iload_n 1, 0, 0), (6, .invokevirtual 120, 50, 3), (9, .ifCond .eq 12, 21, 0)], 12),
  (12, [(12, .iload_n 2, 0, 0), (13, .ifCond .lt 8, 21, 0)], 16),
  (16, [(16, .iload_n 2, 0, 0), (17, .iconst 3, 3, 0), (18, .if_icmp .le 5, 23, 0)], 21),
  (21, [(21, .iconst (-1), 1, 1), (22, .ireturn, 0, 0)], 23),
  (23, [(23, .aload_n 0, 0, 0), (24, .getfield 78, 10, 9), (27, .aload_n 0, 0, 0), (28, .iload_n 1, 0, 0), (29, .invokevirtual 222, 135, 2), (32, .invokevirtual 226, 33, 2), (35, .iload_n 2, 0, 0), (36, .iconst 3, 3, 0), (37, .if_icmp .ne 12, 49, 0)], 40),
  (40, [(40, .aload_n 0, 0, 0), (41, .getfield 78, 10, 9), (44, .iconst 0, 0, 0), (45, .invokevirtual 240, 39, 2), (48, .ireturn, 0, 0)], 49),
  (49, [(49, .aload_n 0, 0, 0), (50, .getfield 10, 0, 9), (53, .iload_n 1, 0, 0), (54, .invokevirtual 243, 57, 2), (57, .ifCond .ne 12, 69, 0)], 60),
  (60, [(60, .aload_n 0, 0, 0), (61, .getfield 78, 10, 9), (64, .iload_n 2, 0, 0), (65, .invokevirtual 246, 42, 2), (68, .ireturn, 0, 0)], 69),
  (69, [(69, .iload_n 2, 0, 0), (70, .ifCond .ne 5, 75, 0)], 73),
  (73, [(73, .iconst 3, 3, 0), (74, .ireturn, 0, 0)], 75),
  (75, [(75, .iload_n 2, 0, 0), (76, .iconst 1, 1, 0), (77, .if_icmp .ne 17, 94, 0)], 80),
  (80, [(80, .aload_n 0, 0, 0), (81, .getfield 10, 0, 9), (84, .iconst 5, 5, 0), (85, .iload_n 1, 0, 0), (86, .bipush 6, 6, 0), (88, .invokevirtual 151, 52, 4), (91, .goto 5, 96, 0)], 94),
  (94, [(94, .bipush (-2), 2, 1)], 96),
  (96, [(96, .ireturn, 0, 0)], 97)]
theorem t_Appr_ends : z_chkM 100 b_Appr_ends = true := by decide +kernel
def b_Appr_decides : List BK := [(0, [(0, .aload_n 0, 0, 0), (1, .getfield 10, 0, 9), (4, .iconst 4, 4, 0), (5, .iload_n 1, 0, 0), (6, .invokevirtual 120, 50, 3), (9, .ifCond .eq 30, 39, 0)], 12),
  (12, [(12, .iload_n 2, 0, 0), (13, .invokestatic 130, 122, 1), (16, .ifCond .eq 23, 39, 0)], 19),
  (19, [(19, .iload 4, 0, 0), (21, .invokestatic 124, 126, 1), (24, .ifCond .eq 15, 39, 0)], 27),
  (27, [(27, .iload_n 3, 0, 0), (28, .iconst (-1), 1, 1), (29, .if_icmp .eq 12, 41, 0)], 32),
  (32, [(32, .iload_n 3, 0, 0), (33, .invokestatic 116, 121, 1), (36, .ifCond .ne 5, 41, 0)], 39),
  (39, [(39, .iconst (-1), 1, 1), (40, .ireturn, 0, 0)], 41),
  (41, [(41, .aload_n 0, 0, 0), (42, .getfield 60, 8, 9), (45, .iload_n 3, 0, 0), (46, .iload 4, 0, 0), (48, .bipush 10, 10, 0), (50, .irem, 0, 0), (51, .iload 4, 0, 0), (53, .bipush 10, 10, 0), (55, .idiv, 0, 0), (56, .invokevirtual 249, 13, 4), (59, .aload_n 0, 0, 0), (60, .getfield 69, 9, 9), (63, .aload_n 0, 0, 0), (64, .getfield 60, 8, 9), (67, .iload_n 1, 0, 0), (68, .iload_n 2, 0, 0), (69, .invokevirtual 253, 1, 4), (72, .ifCond .eq 13, 85, 0)], 75),
  (75, [(75, .aload_n 0, 0, 0), (76, .getfield 69, 9, 9), (79, .invokevirtual 257, 4, 1), (82, .goto 13, 95, 0)], 85),
  (85, [(85, .bipush (-2), 2, 1), (87, .aload_n 0, 0, 0), (88, .getfield 69, 9, 9), (91, .getfield 260, 8, 0), (94, .isub, 0, 0)], 95),
  (95, [(95, .ireturn, 0, 0)], 96)]
theorem t_Appr_decides : z_chkM 101 b_Appr_decides = true := by decide +kernel
def b_Appr_power : List BK := [(0, [(0, .iload_n 1, 0, 0), (1, .invokestatic 116, 121, 1), (4, .ifCond .eq 17, 21, 0)], 7),
  (7, [(7, .iload_n 2, 0, 0), (8, .invokestatic 130, 122, 1), (11, .ifCond .eq 10, 21, 0)], 14),
  (14, [(14, .iload_n 3, 0, 0), (15, .invokestatic 178, 124, 1), (18, .ifCond .ne 5, 23, 0)], 21),
  (21, [(21, .iconst (-1), 1, 1), (22, .ireturn, 0, 0)], 23),
  (23, [(23, .aload_n 0, 0, 0), (24, .getfield 60, 8, 9), (27, .iconst (-1), 1, 1), (28, .iconst (-1), 1, 1), (29, .iload_n 3, 0, 0), (30, .invokevirtual 249, 13, 4), (33, .bipush (-2), 2, 1), (35, .istore 4, 0, 0), (37, .iconst 0, 0, 0), (38, .istore 5, 0, 0)], 40),
  (40, [(40, .iload 5, 0, 0), (42, .aload_n 0, 0, 0), (43, .getfield 10, 0, 9), (46, .getfield 113, 1, 6), (49, .iconst 4, 4, 0), (50, .iaload, 0, 0), (51, .if_icmp .ge 51, 102, 0)], 54),
  (54, [(54, .aload_n 0, 0, 0), (55, .getfield 69, 9, 9), (58, .aload_n 0, 0, 0), (59, .getfield 60, 8, 9), (62, .iload 5, 0, 0), (64, .iload_n 2, 0, 0), (65, .invokevirtual 253, 1, 4), (68, .ifCond .eq 28, 96, 0)], 71),
  (71, [(71, .aload_n 0, 0, 0), (72, .getfield 69, 9, 9), (75, .invokevirtual 257, 4, 1), (78, .iload_n 1, 0, 0), (79, .if_icmp .ne 17, 96, 0)], 82),
  (82, [(82, .iload 4, 0, 0), (84, .aload_n 0, 0, 0), (85, .getfield 69, 9, 9), (88, .getfield 263, 7, 0), (91, .invokestatic 266, 1000, 0), (94, .istore 4, 0, 0)], 96),
  (96, [(96, .iinc 5 1, 1, 0), (99, .goto (-59), 40, 0)], 102),
  (102, [(102, .iload 4, 0, 0), (104, .ireturn, 0, 0)], 105)]
theorem t_Appr_power : z_chkM 102 b_Appr_power = true := by decide +kernel
def b_Appr_ring : List BK := [(0, [(0, .iload_n 1, 0, 0), (1, .invokestatic 130, 122, 1), (4, .ifCond .ne 5, 9, 0)], 7),
  (7, [(7, .iconst (-1), 1, 1), (8, .ireturn, 0, 0)], 9),
  (9, [(9, .aload_n 0, 0, 0), (10, .getfield 85, 11, 9), (13, .aload_n 0, 0, 0), (14, .getfield 10, 0, 9), (17, .iload_n 1, 0, 0), (18, .invokevirtual 271, 72, 3), (21, .aload_n 0, 0, 0), (22, .getfield 85, 11, 9), (25, .invokevirtual 275, 73, 1), (28, .ireturn, 0, 0)], 29)]
theorem t_Appr_ring : z_chkM 103 b_Appr_ring = true := by decide +kernel
def b_Appr_split : List BK := [(0, [(0, .aload_n 0, 0, 0), (1, .getfield 10, 0, 9), (4, .iconst 5, 5, 0), (5, .iload_n 1, 0, 0), (6, .invokevirtual 120, 50, 3), (9, .ifCond .ne 5, 14, 0)], 12),
  (12, [(12, .iconst (-1), 1, 1), (13, .ireturn, 0, 0)], 14),
  (14, [(14, .aload_n 0, 0, 0), (15, .iload_n 1, 0, 0), (16, .aload_n 0, 0, 0), (17, .getfield 10, 0, 9), (20, .iconst 5, 5, 0), (21, .iload_n 1, 0, 0), (22, .iconst 5, 5, 0), (23, .invokevirtual 151, 52, 4), (26, .invokevirtual 203, 134, 3), (29, .istore_n 2, 0, 0), (30, .aload_n 0, 0, 0), (31, .getfield 78, 10, 9), (34, .aload_n 0, 0, 0), (35, .iload_n 1, 0, 0), (36, .invokevirtual 222, 135, 2), (39, .invokevirtual 278, 34, 2), (42, .aload_n 0, 0, 0), (43, .getfield 78, 10, 9), (46, .aload_n 0, 0, 0), (47, .getfield 10, 0, 9), (50, .iconst 5, 5, 0), (51, .iload_n 1, 0, 0), (52, .iconst 4, 4, 0), (53, .invokevirtual 151, 52, 4), (56, .invokevirtual 281, 43, 2), (59, .istore_n 3, 0, 0), (60, .iload_n 3, 0, 0), (61, .iconst (-1), 1, 1), (62, .if_icmp .eq 19, 81, 0)], 65),
  (65, [(65, .aload_n 0, 0, 0), (66, .getfield 78, 10, 9), (69, .iload_n 2, 0, 0), (70, .invokevirtual 281, 43, 2), (73, .iload_n 3, 0, 0), (74, .if_icmp .eq 7, 81, 0)], 77),
  (77, [(77, .iconst 1, 1, 0), (78, .goto 4, 82, 0)], 81),
  (81, [(81, .iconst 0, 0, 0)], 82),
  (82, [(82, .ireturn, 0, 0)], 83)]
theorem t_Appr_split : z_chkM 104 b_Appr_split = true := by decide +kernel
def b_Appr_without : List BK := [(0, [(0, .aload_n 0, 0, 0), (1, .getfield 10, 0, 9), (4, .iconst 5, 5, 0), (5, .iload_n 1, 0, 0), (6, .invokevirtual 120, 50, 3), (9, .ifCond .eq 19, 28, 0)], 12),
  (12, [(12, .iload_n 2, 0, 0), (13, .invokestatic 116, 121, 1), (16, .ifCond .eq 12, 28, 0)], 19),
  (19, [(19, .iload_n 3, 0, 0), (20, .ifCond .lt 8, 28, 0)], 23),
  (23, [(23, .iload_n 3, 0, 0), (24, .iconst 2, 2, 0), (25, .if_icmp .le 5, 30, 0)], 28),
  (28, [(28, .iconst (-1), 1, 1), (29, .ireturn, 0, 0)], 30),
  (30, [(30, .aload_n 0, 0, 0), (31, .iload_n 1, 0, 0), (32, .invokevirtual 222, 135, 2), (35, .iload_n 2, 0, 0), (36, .putfield 284, 6, 2), (39, .aload_n 0, 0, 0), (40, .getfield 78, 10, 9), (43, .aload_n 0, 0, 0), (44, .getfield 60, 8, 9), (47, .invokevirtual 226, 33, 2), (50, .aload_n 0, 0, 0), (51, .getfield 78, 10, 9), (54, .iload_n 3, 0, 0), (55, .invokevirtual 246, 42, 2), (58, .ireturn, 0, 0)], 59)]
theorem t_Appr_without : z_chkM 105 b_Appr_without = true := by decide +kernel
def b_Appr_cure : List BK := [(0, [(0, .aload_n 0, 0, 0), (1, .getfield 10, 0, 9), (4, .iconst 5, 5, 0), (5, .iload_n 1, 0, 0), (6, .invokevirtual 120, 50, 3), (9, .ifCond .eq 12, 21, 0)], 12),
  (12, [(12, .iload_n 2, 0, 0), (13, .ifCond .lt 8, 21, 0)], 16),
  (16, [(16, .iload_n 2, 0, 0), (17, .iconst 1, 1, 0), (18, .if_icmp .le 5, 23, 0)], 21),
  (21, [(21, .iconst (-1), 1, 1), (22, .ireturn, 0, 0)], 23),
  (23, [(23, .aload_n 0, 0, 0), (24, .iload_n 1, 0, 0), (25, .invokevirtual 222, 135, 2), (28, .pop, 0, 0), (29, .sipush 1000, 1000, 0), (32, .istore_n 3, 0, 0), (33, .bipush (-2), 2, 1), (35, .istore 4, 0, 0), (37, .iconst 0, 0, 0), (38, .istore 5, 0, 0)], 40),
  (40, [(40, .iload 5, 0, 0), (42, .aload_n 0, 0, 0), (43, .getfield 10, 0, 9), (46, .getfield 113, 1, 6), (49, .iconst 1, 1, 0), (50, .iaload, 0, 0), (51, .if_icmp .ge 64, 115, 0)], 54),
  (54, [(54, .aload_n 0, 0, 0), (55, .getfield 60, 8, 9), (58, .iload 5, 0, 0), (60, .putfield 287, 7, 2), (63, .aload_n 0, 0, 0), (64, .getfield 78, 10, 9), (67, .aload_n 0, 0, 0), (68, .getfield 60, 8, 9), (71, .invokevirtual 226, 33, 2), (74, .aload_n 0, 0, 0), (75, .getfield 78, 10, 9), (78, .invokevirtual 290, 41, 1), (81, .ifCond .eq 28, 109, 0)], 84),
  (84, [(84, .aload_n 0, 0, 0), (85, .getfield 78, 10, 9), (88, .iconst 1, 1, 0), (89, .invokevirtual 240, 39, 2), (92, .iload_n 3, 0, 0), (93, .if_icmp .ge 16, 109, 0)], 96),
  (96, [(96, .aload_n 0, 0, 0), (97, .getfield 78, 10, 9), (100, .iconst 1, 1, 0), (101, .invokevirtual 240, 39, 2), (104, .istore_n 3, 0, 0), (105, .iload 5, 0, 0), (107, .istore 4, 0, 0)], 109),
  (109, [(109, .iinc 5 1, 1, 0), (112, .goto (-72), 40, 0)], 115),
  (115, [(115, .iload_n 2, 0, 0), (116, .ifCond .eq 10, 126, 0)], 119),
  (119, [(119, .iload 4, 0, 0), (121, .bipush (-2), 2, 1), (123, .if_icmp .ne 8, 131, 0)], 126),
  (126, [(126, .iload 4, 0, 0), (128, .goto 4, 132, 0)], 131),
  (131, [(131, .iload_n 3, 0, 0)], 132),
  (132, [(132, .ireturn, 0, 0)], 133)]
theorem t_Appr_cure : z_chkM 106 b_Appr_cure = true := by decide +kernel
def b_Appr_most : List BK := [(0, [(0, .aload_n 0, 0, 0), (1, .getfield 10, 0, 9), (4, .iconst 5, 5, 0), (5, .iload_n 1, 0, 0), (6, .invokevirtual 120, 50, 3), (9, .ifCond .eq 28, 37, 0)], 12),
  (12, [(12, .iload_n 2, 0, 0), (13, .ifCond .lt 24, 37, 0)], 16),
  (16, [(16, .iload_n 2, 0, 0), (17, .aload_n 0, 0, 0), (18, .getfield 10, 0, 9), (21, .aload_n 0, 0, 0), (22, .getfield 10, 0, 9), (25, .iconst 5, 5, 0), (26, .iload_n 1, 0, 0), (27, .iconst 1, 1, 0), (28, .invokevirtual 151, 52, 4), (31, .invokevirtual 194, 58, 2), (34, .if_icmp .le 5, 39, 0)], 37),
  (37, [(37, .iconst (-1), 1, 1), (38, .ireturn, 0, 0)], 39),
  (39, [(39, .aload_n 0, 0, 0), (40, .getfield 10, 0, 9), (43, .aload_n 0, 0, 0), (44, .iload_n 1, 0, 0), (45, .invokevirtual 206, 97, 2), (48, .invokevirtual 294, 67, 2), (51, .istore_n 3, 0, 0), (52, .aload_n 0, 0, 0), (53, .getfield 78, 10, 9), (56, .aload_n 0, 0, 0), (57, .iload_n 1, 0, 0), (58, .invokevirtual 222, 135, 2), (61, .invokevirtual 278, 34, 2), (64, .sipush 9999, 9999, 0), (67, .aload_n 0, 0, 0), (68, .getfield 78, 10, 9), (71, .iload_n 2, 0, 0), (72, .invokevirtual 297, 44, 2), (75, .iload_n 3, 0, 0), (76, .isub, 0, 0), (77, .invokestatic 300, 1001, 0), (80, .istore 4, 0, 0), (82, .iload 4, 0, 0), (84, .iconst 1, 1, 0), (85, .if_icmp .ge 8, 93, 0)], 88),
  (88, [(88, .bipush (-2), 2, 1), (90, .goto 5, 95, 0)], 93),
  (93, [(93, .iload 4, 0, 0)], 95),
  (95, [(95, .ireturn, 0, 0)], 96)]
theorem t_Appr_most : z_chkM 107 b_Appr_most = true := by decide +kernel
def b_Appr_soonest : List BK := [(0, [(0, .aload_n 0, 0, 0), (1, .getfield 10, 0, 9), (4, .iconst 5, 5, 0), (5, .iload_n 1, 0, 0), (6, .invokevirtual 120, 50, 3), (9, .ifCond .eq 30, 39, 0)], 12),
  (12, [(12, .iload_n 2, 0, 0), (13, .iload_n 3, 0, 0), (14, .invokestatic 155, 123, 2), (17, .ifCond .eq 22, 39, 0)], 20),
  (20, [(20, .iload_n 3, 0, 0), (21, .iload_n 2, 0, 0), (22, .isub, 0, 0), (23, .bipush 60, 60, 0), (25, .if_icmp .gt 14, 39, 0)], 28),
  (28, [(28, .iload 4, 0, 0), (30, .ifCond .lt 9, 39, 0)], 33),
  (33, [(33, .iload 4, 0, 0), (35, .iconst 1, 1, 0), (36, .if_icmp .le 5, 41, 0)], 39),
  (39, [(39, .iconst (-1), 1, 1), (40, .ireturn, 0, 0)], 41),
  (41, [(41, .aload_n 0, 0, 0), (42, .iload_n 1, 0, 0), (43, .invokevirtual 222, 135, 2), (46, .pop, 0, 0), (47, .sipush 1000, 1000, 0), (50, .istore 5, 0, 0), (52, .bipush (-2), 2, 1), (54, .istore 6, 0, 0), (56, .iload_n 2, 0, 0), (57, .istore 7, 0, 0)], 59),
  (59, [(59, .iload 7, 0, 0), (61, .iload_n 3, 0, 0), (62, .if_icmp .gt 80, 142, 0)], 65),
  (65, [(65, .aload_n 0, 0, 0), (66, .getfield 60, 8, 9), (69, .iload 7, 0, 0), (71, .putfield 303, 4, 2), (74, .aload_n 0, 0, 0), (75, .getfield 60, 8, 9), (78, .aload_n 0, 0, 0), (79, .iload_n 1, 0, 0), (80, .iload 7, 0, 0), (82, .invokevirtual 203, 134, 3), (85, .putfield 306, 5, 2), (88, .aload_n 0, 0, 0), (89, .getfield 78, 10, 9), (92, .aload_n 0, 0, 0), (93, .getfield 60, 8, 9), (96, .invokevirtual 226, 33, 2), (99, .aload_n 0, 0, 0), (100, .getfield 78, 10, 9), (103, .invokevirtual 290, 41, 1), (106, .ifCond .eq 30, 136, 0)], 109),
  (109, [(109, .aload_n 0, 0, 0), (110, .getfield 78, 10, 9), (113, .iconst 1, 1, 0), (114, .invokevirtual 240, 39, 2), (117, .iload 5, 0, 0), (119, .if_icmp .ge 17, 136, 0)], 122),
  (122, [(122, .aload_n 0, 0, 0), (123, .getfield 78, 10, 9), (126, .iconst 1, 1, 0), (127, .invokevirtual 240, 39, 2), (130, .istore 5, 0, 0), (132, .iload 7, 0, 0), (134, .istore 6, 0, 0)], 136),
  (136, [(136, .iinc 7 1, 1, 0), (139, .goto (-80), 59, 0)], 142),
  (142, [(142, .iload 4, 0, 0), (144, .ifCond .eq 10, 154, 0)], 147),
  (147, [(147, .iload 6, 0, 0), (149, .bipush (-2), 2, 1), (151, .if_icmp .ne 8, 159, 0)], 154),
  (154, [(154, .iload 6, 0, 0), (156, .goto 5, 161, 0)], 159),
  (159, [(159, .iload 5, 0, 0)], 161),
  (161, [(161, .ireturn, 0, 0)], 162)]
theorem t_Appr_soonest : z_chkM 108 b_Appr_soonest = true := by decide +kernel
def b_Appr_instead : List BK := [(0, [(0, .aload_n 0, 0, 0), (1, .getfield 10, 0, 9), (4, .iconst 5, 5, 0), (5, .iload_n 1, 0, 0), (6, .invokevirtual 120, 50, 3), (9, .ifCond .eq 24, 33, 0)], 12),
  (12, [(12, .aload_n 0, 0, 0), (13, .getfield 10, 0, 9), (16, .iconst 4, 4, 0), (17, .iload_n 2, 0, 0), (18, .invokevirtual 120, 50, 3), (21, .ifCond .eq 12, 33, 0)], 24),
  (24, [(24, .iload_n 3, 0, 0), (25, .ifCond .lt 8, 33, 0)], 28),
  (28, [(28, .iload_n 3, 0, 0), (29, .iconst 2, 2, 0), (30, .if_icmp .le 5, 35, 0)], 33),
  (33, [(33, .iconst (-1), 1, 1), (34, .ireturn, 0, 0)], 35),
  (35, [(35, .aload_n 0, 0, 0), (36, .iload_n 1, 0, 0), (37, .invokevirtual 222, 135, 2), (40, .iload_n 2, 0, 0), (41, .putfield 309, 3, 2), (44, .aload_n 0, 0, 0), (45, .getfield 78, 10, 9), (48, .aload_n 0, 0, 0), (49, .getfield 60, 8, 9), (52, .invokevirtual 226, 33, 2), (55, .aload_n 0, 0, 0), (56, .getfield 78, 10, 9), (59, .iload_n 3, 0, 0), (60, .invokevirtual 246, 42, 2), (63, .ireturn, 0, 0)], 64)]
theorem t_Appr_instead : z_chkM 109 b_Appr_instead = true := by decide +kernel
def b_Appr_pillar : List BK := [(0, [(0, .iload_n 1, 0, 0), (1, .ifCond .lt 8, 9, 0)], 4),
  (4, [(4, .iload_n 1, 0, 0), (5, .iconst 1, 1, 0), (6, .if_icmp .le 5, 11, 0)], 9),
  (9, [(9, .iconst (-1), 1, 1), (10, .ireturn, 0, 0)], 11),
  (11, [(11, .aload_n 0, 0, 0), (12, .invokevirtual 312, 140, 1), (15, .iconst 0, 0, 0), (16, .istore_n 2, 0, 0)], 17),
  (17, [(17, .iload_n 2, 0, 0), (18, .aload_n 0, 0, 0), (19, .getfield 10, 0, 9), (22, .getfield 113, 1, 6), (25, .iconst 5, 5, 0), (26, .iaload, 0, 0), (27, .if_icmp .ge 25, 52, 0)], 30),
  (30, [(30, .aload_n 0, 0, 0), (31, .getfield 10, 0, 9), (34, .iload_n 2, 0, 0), (35, .invokevirtual 243, 57, 2), (38, .ifCond .ne 8, 46, 0)], 41),
  (41, [(41, .aload_n 0, 0, 0), (42, .iload_n 2, 0, 0), (43, .invokevirtual 315, 142, 2)], 46),
  (46, [(46, .iinc 2 1, 1, 0), (49, .goto (-32), 17, 0)], 52),
  (52, [(52, .aload_n 0, 0, 0), (53, .iload_n 1, 0, 0), (54, .invokevirtual 318, 143, 2), (57, .ireturn, 0, 0)], 58)]
theorem t_Appr_pillar : z_chkM 110 b_Appr_pillar = true := by decide +kernel
def b_Appr_dodge : List BK := [(0, [(0, .iload_n 1, 0, 0), (1, .invokestatic 116, 121, 1), (4, .ifCond .eq 38, 42, 0)], 7),
  (7, [(7, .aload_n 0, 0, 0), (8, .getfield 10, 0, 9), (11, .iconst 4, 4, 0), (12, .iload_n 2, 0, 0), (13, .invokevirtual 120, 50, 3), (16, .ifCond .eq 26, 42, 0)], 19),
  (19, [(19, .iload_n 3, 0, 0), (20, .invokestatic 124, 126, 1), (23, .ifCond .eq 19, 42, 0)], 26),
  (26, [(26, .iload 4, 0, 0), (28, .invokestatic 127, 127, 1), (31, .ifCond .eq 11, 42, 0)], 34),
  (34, [(34, .iload 5, 0, 0), (36, .invokestatic 130, 122, 1), (39, .ifCond .ne 5, 44, 0)], 42),
  (42, [(42, .iconst (-1), 1, 1), (43, .ireturn, 0, 0)], 44),
  (44, [(44, .aload_n 0, 0, 0), (45, .getfield 60, 8, 9), (48, .iload_n 1, 0, 0), (49, .iload_n 3, 0, 0), (50, .bipush 10, 10, 0), (52, .irem, 0, 0), (53, .iload_n 3, 0, 0), (54, .bipush 10, 10, 0), (56, .idiv, 0, 0), (57, .invokevirtual 249, 13, 4), (60, .aload_n 0, 0, 0), (61, .getfield 10, 0, 9), (64, .getfield 184, 2, 6), (67, .iconst 0, 0, 0), (68, .iaload, 0, 0), (69, .iconst 1, 1, 0), (70, .iadd, 0, 0), (71, .istore 6, 0, 0), (73, .iconst 1, 1, 0), (74, .istore 7, 0, 0)], 76),
  (76, [(76, .iload 7, 0, 0), (78, .bipush 40, 40, 0), (80, .if_icmp .gt 76, 156, 0)], 83),
  (83, [(83, .iload 7, 0, 0), (85, .iload 4, 0, 0), (87, .if_icmp .gt 69, 156, 0)], 90),
  (90, [(90, .iload 5, 0, 0), (92, .iload 7, 0, 0), (94, .iconst 1, 1, 0), (95, .isub, 0, 0), (96, .iload 6, 0, 0), (98, .imul, 0, 0), (99, .iadd, 0, 0), (100, .istore 8, 0, 0), (102, .iload 8, 0, 0), (104, .sipush 1000, 1000, 0), (107, .if_icmp .lt 6, 113, 0)], 110),
  (110, [(110, .bipush (-2), 2, 1), (112, .ireturn, 0, 0)], 113),
  (113, [(113, .aload_n 0, 0, 0), (114, .getfield 93, 13, 9), (117, .iload 7, 0, 0), (119, .iconst 1, 1, 0), (120, .isub, 0, 0), (121, .aload_n 0, 0, 0), (122, .getfield 78, 10, 9), (125, .aload_n 0, 0, 0), (126, .getfield 60, 8, 9), (129, .iload_n 2, 0, 0), (130, .iload 8, 0, 0), (132, .invokevirtual 321, 35, 4), (135, .iastore, 0, 0), (136, .aload_n 0, 0, 0), (137, .iload 7, 0, 0), (139, .iload 4, 0, 0), (141, .invokevirtual 325, 144, 3), (144, .ifCond .eq 6, 150, 0)], 147),
  (147, [(147, .iload 7, 0, 0), (149, .ireturn, 0, 0)], 150),
  (150, [(150, .iinc 7 1, 1, 0), (153, .goto (-77), 76, 0)], 156),
  (156, [(156, .bipush (-2), 2, 1), (158, .ireturn, 0, 0)], 159)]
theorem t_Appr_dodge : z_chkM 111 b_Appr_dodge = true := by decide +kernel
end
section
def b_Appr_load : List BK := [(0, [(0, .iload_n 1, 0, 0), (1, .invokestatic 116, 121, 1), (4, .ifCond .eq 12, 16, 0)], 7),
  (7, [(7, .iload_n 2, 0, 0), (8, .ifCond .lt 8, 16, 0)], 11),
  (11, [(11, .iload_n 2, 0, 0), (12, .iconst 2, 2, 0), (13, .if_icmp .le 5, 18, 0)], 16),
  (16, [(16, .iconst (-1), 1, 1), (17, .ireturn, 0, 0)], 18),
  (18, [(18, .aload_n 0, 0, 0), (19, .iload_n 2, 0, 0), (20, .invokevirtual 328, 141, 2), (23, .aload_n 0, 0, 0), (24, .getfield 89, 12, 9), (27, .iload_n 1, 0, 0), (28, .iaload, 0, 0), (29, .ireturn, 0, 0)], 30)]
theorem t_Appr_load : z_chkM 112 b_Appr_load = true := by decide +kernel
def b_Appr_busiest : List BK := [(0, [(0, .iload_n 1, 0, 0), (1, .ifCond .lt 8, 9, 0)], 4),
  (4, [(4, .iload_n 1, 0, 0), (5, .iconst 1, 1, 0), (6, .if_icmp .le 5, 11, 0)], 9),
  (9, [(9, .iconst (-1), 1, 1), (10, .ireturn, 0, 0)], 11),
  (11, [(11, .aload_n 0, 0, 0), (12, .iconst 0, 0, 0), (13, .invokevirtual 328, 141, 2), (16, .aload_n 0, 0, 0), (17, .iload_n 1, 0, 0), (18, .invokevirtual 318, 143, 2), (21, .ireturn, 0, 0)], 22)]
theorem t_Appr_busiest : z_chkM 113 b_Appr_busiest = true := by decide +kernel
def b_Appr_approved : List BK := [(0, [(0, .iload_n 1, 0, 0), (1, .ifCond .lt 8, 9, 0)], 4),
  (4, [(4, .iload_n 1, 0, 0), (5, .iconst 3, 3, 0), (6, .if_icmp .le 5, 11, 0)], 9),
  (9, [(9, .iconst (-1), 1, 1), (10, .ireturn, 0, 0)], 11),
  (11, [(11, .iconst 0, 0, 0), (12, .istore_n 2, 0, 0), (13, .iconst 0, 0, 0), (14, .istore_n 3, 0, 0), (15, .bipush (-2), 2, 1), (17, .istore 4, 0, 0), (19, .bipush (-2), 2, 1), (21, .istore 5, 0, 0), (23, .iconst 0, 0, 0), (24, .istore 6, 0, 0)], 26),
  (26, [(26, .iload 6, 0, 0), (28, .aload_n 0, 0, 0), (29, .getfield 10, 0, 9), (32, .getfield 113, 1, 6), (35, .iconst 5, 5, 0), (36, .iaload, 0, 0), (37, .if_icmp .ge 72, 109, 0)], 40),
  (40, [(40, .aload_n 0, 0, 0), (41, .iload 6, 0, 0), (43, .invokevirtual 331, 136, 2), (46, .ifCond .eq 57, 103, 0)], 49),
  (49, [(49, .iinc 2 1, 1, 0), (52, .iload_n 3, 0, 0), (53, .aload_n 0, 0, 0), (54, .getfield 10, 0, 9), (57, .iconst 5, 5, 0), (58, .iload 6, 0, 0), (60, .iconst 4, 4, 0), (61, .invokevirtual 151, 52, 4), (64, .iadd, 0, 0), (65, .istore_n 3, 0, 0), (66, .aload_n 0, 0, 0), (67, .getfield 78, 10, 9), (70, .iconst 1, 1, 0), (71, .invokevirtual 240, 39, 2), (74, .aload_n 0, 0, 0), (75, .getfield 10, 0, 9), (78, .iconst 5, 5, 0), (79, .iload 6, 0, 0), (81, .iconst 5, 5, 0), (82, .invokevirtual 151, 52, 4), (85, .isub, 0, 0), (86, .istore 7, 0, 0), (88, .iload 7, 0, 0), (90, .iload 4, 0, 0), (92, .if_icmp .le 11, 103, 0)], 95),
  (95, [(95, .iload 7, 0, 0), (97, .istore 4, 0, 0), (99, .iload 6, 0, 0), (101, .istore 5, 0, 0)], 103),
  (103, [(103, .iinc 6 1, 1, 0), (106, .goto (-80), 26, 0)], 109),
  (109, [(109, .iload_n 1, 0, 0), (110, .tableswitch 33 0 2 #[26, 28, 30], 0, 0)], 136),
  (136, [(136, .iload_n 2, 0, 0), (137, .ireturn, 0, 0)], 138),
  (138, [(138, .iload_n 3, 0, 0), (139, .ireturn, 0, 0)], 140),
  (140, [(140, .iload 4, 0, 0), (142, .ireturn, 0, 0)], 143),
  (143, [(143, .iload 5, 0, 0), (145, .ireturn, 0, 0)], 146)]
theorem t_Appr_approved : z_chkM 114 b_Appr_approved = true := by decide +kernel
def b_Appr_could : List BK := [(0, [(0, .aload_n 0, 0, 0), (1, .getfield 10, 0, 9), (4, .iconst 5, 5, 0), (5, .iload_n 1, 0, 0), (6, .invokevirtual 120, 50, 3), (9, .ifCond .ne 5, 14, 0)], 12),
  (12, [(12, .iconst (-1), 1, 1), (13, .ireturn, 0, 0)], 14),
  (14, [(14, .aload_n 0, 0, 0), (15, .iload_n 1, 0, 0), (16, .invokevirtual 222, 135, 2), (19, .pop, 0, 0), (20, .iconst 0, 0, 0), (21, .istore_n 2, 0, 0), (22, .aload_n 0, 0, 0), (23, .getfield 60, 8, 9), (26, .getfield 309, 3, 2), (29, .istore_n 3, 0, 0), (30, .iconst 0, 0, 0), (31, .istore 4, 0, 0)], 33),
  (33, [(33, .iload 4, 0, 0), (35, .bipush 12, 12, 0), (37, .if_icmp .ge 84, 121, 0)], 40),
  (40, [(40, .aload_n 0, 0, 0), (41, .getfield 10, 0, 9), (44, .iconst 4, 4, 0), (45, .iload_n 3, 0, 0), (46, .invokevirtual 120, 50, 3), (49, .ifCond .eq 72, 121, 0)], 52),
  (52, [(52, .aload_n 0, 0, 0), (53, .getfield 69, 9, 9), (56, .aload_n 0, 0, 0), (57, .getfield 60, 8, 9), (60, .iload_n 3, 0, 0), (61, .aload_n 0, 0, 0), (62, .getfield 60, 8, 9), (65, .getfield 303, 4, 2), (68, .invokevirtual 253, 1, 4), (71, .ifCond .eq 33, 104, 0)], 74),
  (74, [(74, .aload_n 0, 0, 0), (75, .getfield 69, 9, 9), (78, .getfield 263, 7, 0), (81, .aload_n 0, 0, 0), (82, .getfield 60, 8, 9), (85, .getfield 306, 5, 2), (88, .if_icmp .lt 16, 104, 0)], 91),
  (91, [(91, .iload_n 2, 0, 0), (92, .aload_n 0, 0, 0), (93, .getfield 69, 9, 9), (96, .invokevirtual 257, 4, 1), (99, .invokestatic 334, 131, 1), (102, .ior, 0, 0), (103, .istore_n 2, 0, 0)], 104),
  (104, [(104, .aload_n 0, 0, 0), (105, .getfield 10, 0, 9), (108, .iconst 4, 4, 0), (109, .iload_n 3, 0, 0), (110, .iconst 0, 0, 0), (111, .invokevirtual 151, 52, 4), (114, .istore_n 3, 0, 0), (115, .iinc 4 1, 1, 0), (118, .goto (-85), 33, 0)], 121),
  (121, [(121, .iload_n 2, 0, 0), (122, .ireturn, 0, 0)], 123)]
theorem t_Appr_could : z_chkM 115 b_Appr_could = true := by decide +kernel
def b_Appr_manned : List BK := [(0, [(0, .aload_n 0, 0, 0), (1, .getfield 10, 0, 9), (4, .iconst 4, 4, 0), (5, .iload_n 1, 0, 0), (6, .invokevirtual 120, 50, 3), (9, .ifCond .eq 22, 31, 0)], 12),
  (12, [(12, .iload_n 2, 0, 0), (13, .iload_n 3, 0, 0), (14, .invokestatic 155, 123, 2), (17, .ifCond .eq 14, 31, 0)], 20),
  (20, [(20, .iload 4, 0, 0), (22, .ifCond .lt 9, 31, 0)], 25),
  (25, [(25, .iload 4, 0, 0), (27, .iconst 1, 1, 0), (28, .if_icmp .le 5, 33, 0)], 31),
  (31, [(31, .iconst (-1), 1, 1), (32, .ireturn, 0, 0)], 33),
  (33, [(33, .aload_n 0, 0, 0), (34, .getfield 60, 8, 9), (37, .iconst (-1), 1, 1), (38, .iconst (-1), 1, 1), (39, .iconst 0, 0, 0), (40, .invokevirtual 249, 13, 4), (43, .iconst 0, 0, 0), (44, .istore 5, 0, 0), (46, .iload_n 2, 0, 0), (47, .istore 6, 0, 0), (49, .iload_n 2, 0, 0), (50, .istore 7, 0, 0)], 52),
  (52, [(52, .iload 7, 0, 0), (54, .iload_n 3, 0, 0), (55, .if_icmp .gt 84, 139, 0)], 58),
  (58, [(58, .aload_n 0, 0, 0), (59, .iload 7, 0, 0), (61, .iload_n 3, 0, 0), (62, .invokevirtual 337, 139, 3), (65, .istore 6, 0, 0), (67, .iload 4, 0, 0), (69, .ifCond .ne 25, 94, 0)], 72),
  (72, [(72, .aload_n 0, 0, 0), (73, .getfield 10, 0, 9), (76, .iload_n 1, 0, 0), (77, .iload 7, 0, 0), (79, .invokevirtual 340, 61, 3), (82, .iconst (-1), 1, 1), (83, .if_icmp .eq 7, 90, 0)], 86),
  (86, [(86, .iconst 1, 1, 0), (87, .goto 21, 108, 0)], 90),
  (90, [(90, .iconst 0, 0, 0), (91, .goto 17, 108, 0)], 94),
  (94, [(94, .aload_n 0, 0, 0), (95, .getfield 69, 9, 9), (98, .aload_n 0, 0, 0), (99, .getfield 60, 8, 9), (102, .iload_n 1, 0, 0), (103, .iload 7, 0, 0), (105, .invokevirtual 253, 1, 4)], 108),
  (108, [(108, .istore 8, 0, 0), (110, .iload 8, 0, 0), (112, .ifCond .eq 13, 125, 0)], 115),
  (115, [(115, .iload 5, 0, 0), (117, .iload 6, 0, 0), (119, .iload 7, 0, 0), (121, .isub, 0, 0), (122, .iadd, 0, 0), (123, .istore 5, 0, 0)], 125),
  (125, [(125, .iload 7, 0, 0), (127, .iconst 1, 1, 0), (128, .iadd, 0, 0), (129, .iload 6, 0, 0), (131, .invokestatic 266, 1000, 0), (134, .istore 7, 0, 0), (136, .goto (-84), 52, 0)], 139),
  (139, [(139, .iload 5, 0, 0), (141, .ireturn, 0, 0)], 142)]
theorem t_Appr_manned : z_chkM 116 b_Appr_manned = true := by decide +kernel
def b_Appr_gap : List BK := [(0, [(0, .aload_n 0, 0, 0), (1, .getfield 10, 0, 9), (4, .iconst 4, 4, 0), (5, .iload_n 1, 0, 0), (6, .invokevirtual 120, 50, 3), (9, .ifCond .eq 22, 31, 0)], 12),
  (12, [(12, .iload_n 2, 0, 0), (13, .iload_n 3, 0, 0), (14, .invokestatic 155, 123, 2), (17, .ifCond .eq 14, 31, 0)], 20),
  (20, [(20, .iload 4, 0, 0), (22, .ifCond .lt 9, 31, 0)], 25),
  (25, [(25, .iload 4, 0, 0), (27, .iconst 2, 2, 0), (28, .if_icmp .le 5, 33, 0)], 31),
  (31, [(31, .iconst (-1), 1, 1), (32, .ireturn, 0, 0)], 33),
  (33, [(33, .aload_n 0, 0, 0), (34, .getfield 60, 8, 9), (37, .iconst (-1), 1, 1), (38, .iconst (-1), 1, 1), (39, .iconst 0, 0, 0), (40, .invokevirtual 249, 13, 4), (43, .iconst 0, 0, 0), (44, .istore 5, 0, 0), (46, .bipush (-2), 2, 1), (48, .istore 6, 0, 0), (50, .iconst 0, 0, 0), (51, .istore 7, 0, 0), (53, .iconst 0, 0, 0), (54, .istore 8, 0, 0), (56, .iload_n 2, 0, 0), (57, .istore 9, 0, 0), (59, .iload_n 2, 0, 0), (60, .istore 10, 0, 0)], 62),
  (62, [(62, .iload 10, 0, 0), (64, .iload_n 3, 0, 0), (65, .if_icmp .gt 92, 157, 0)], 68),
  (68, [(68, .aload_n 0, 0, 0), (69, .iload 10, 0, 0), (71, .iload_n 3, 0, 0), (72, .invokevirtual 337, 139, 3), (75, .istore 9, 0, 0), (77, .aload_n 0, 0, 0), (78, .getfield 69, 9, 9), (81, .aload_n 0, 0, 0), (82, .getfield 60, 8, 9), (85, .iload_n 1, 0, 0), (86, .iload 10, 0, 0), (88, .invokevirtual 253, 1, 4), (91, .ifCond .eq 9, 100, 0)], 94),
  (94, [(94, .iconst 0, 0, 0), (95, .istore 8, 0, 0), (97, .goto 46, 143, 0)], 100),
  (100, [(100, .iload 5, 0, 0), (102, .ifCond .ne 8, 110, 0)], 105),
  (105, [(105, .iload 10, 0, 0), (107, .goto 5, 112, 0)], 110),
  (110, [(110, .iload 6, 0, 0)], 112),
  (112, [(112, .istore 6, 0, 0), (114, .iload 5, 0, 0), (116, .iload 9, 0, 0), (118, .iload 10, 0, 0), (120, .isub, 0, 0), (121, .iadd, 0, 0), (122, .istore 5, 0, 0), (124, .iload 8, 0, 0), (126, .iload 9, 0, 0), (128, .iload 10, 0, 0), (130, .isub, 0, 0), (131, .iadd, 0, 0), (132, .istore 8, 0, 0), (134, .iload 7, 0, 0), (136, .iload 8, 0, 0), (138, .invokestatic 266, 1000, 0), (141, .istore 7, 0, 0)], 143),
  (143, [(143, .iload 10, 0, 0), (145, .iconst 1, 1, 0), (146, .iadd, 0, 0), (147, .iload 9, 0, 0), (149, .invokestatic 266, 1000, 0), (152, .istore 10, 0, 0), (154, .goto (-92), 62, 0)], 157),
  (157, [(157, .iload 4, 0, 0), (159, .ifCond .ne 6, 165, 0)], 162),
  (162, [(162, .iload 5, 0, 0), (164, .ireturn, 0, 0)], 165),
  (165, [(165, .iload 4, 0, 0), (167, .iconst 1, 1, 0), (168, .if_icmp .ne 8, 176, 0)], 171),
  (171, [(171, .iload 6, 0, 0), (173, .goto 5, 178, 0)], 176),
  (176, [(176, .iload 7, 0, 0)], 178),
  (178, [(178, .ireturn, 0, 0)], 179)]
theorem t_Appr_gap : z_chkM 117 b_Appr_gap = true := by decide +kernel
def b_Appr_letter : List BK := [(0, [(0, .iload_n 1, 0, 0), (1, .iconst (-1), 1, 1), (2, .if_icmp .ge 5, 7, 0)], 5),
  (5, [(5, .iconst (-1), 1, 1), (6, .ireturn, 0, 0)], 7),
  (7, [(7, .aload_n 0, 0, 0), (8, .getfield 53, 7, 9), (11, .aload_n 0, 0, 0), (12, .getfield 10, 0, 9), (15, .iload_n 1, 0, 0), (16, .invokevirtual 343, 6, 3), (19, .ireturn, 0, 0)], 20)]
theorem t_Appr_letter : z_chkM 118 b_Appr_letter = true := by decide +kernel
def b_Appr_tangle : List BK := [(0, [(0, .iload_n 1, 0, 0), (1, .invokestatic 130, 122, 1), (4, .ifCond .ne 5, 9, 0)], 7),
  (7, [(7, .iconst (-1), 1, 1), (8, .ireturn, 0, 0)], 9),
  (9, [(9, .aload_n 0, 0, 0), (10, .getfield 85, 11, 9), (13, .aload_n 0, 0, 0), (14, .getfield 10, 0, 9), (17, .iload_n 1, 0, 0), (18, .invokevirtual 271, 72, 3), (21, .aload_n 0, 0, 0), (22, .getfield 85, 11, 9), (25, .invokevirtual 347, 75, 1), (28, .ireturn, 0, 0)], 29)]
theorem t_Appr_tangle : z_chkM 119 b_Appr_tangle = true := by decide +kernel
def b_Appr_count : List BK := [(0, [(0, .iload_n 1, 0, 0), (1, .tableswitch 192 0 13 #[71, 81, 91, 101, 111, 121, 131, 141, 151, 161, 166, 171, 179, 187], 0, 0)], 72),
  (72, [(72, .aload_n 0, 0, 0), (73, .getfield 10, 0, 9), (76, .getfield 113, 1, 6), (79, .iconst 4, 4, 0), (80, .iaload, 0, 0), (81, .ireturn, 0, 0)], 82),
  (82, [(82, .aload_n 0, 0, 0), (83, .getfield 10, 0, 9), (86, .getfield 113, 1, 6), (89, .iconst 0, 0, 0), (90, .iaload, 0, 0), (91, .ireturn, 0, 0)], 92),
  (92, [(92, .aload_n 0, 0, 0), (93, .getfield 10, 0, 9), (96, .getfield 113, 1, 6), (99, .iconst 1, 1, 0), (100, .iaload, 0, 0), (101, .ireturn, 0, 0)], 102),
  (102, [(102, .aload_n 0, 0, 0), (103, .getfield 10, 0, 9), (106, .getfield 113, 1, 6), (109, .iconst 2, 2, 0), (110, .iaload, 0, 0), (111, .ireturn, 0, 0)], 112),
  (112, [(112, .aload_n 0, 0, 0), (113, .getfield 10, 0, 9), (116, .getfield 113, 1, 6), (119, .iconst 3, 3, 0), (120, .iaload, 0, 0), (121, .ireturn, 0, 0)], 122),
  (122, [(122, .aload_n 0, 0, 0), (123, .getfield 10, 0, 9), (126, .getfield 184, 2, 6), (129, .iconst 0, 0, 0), (130, .iaload, 0, 0), (131, .ireturn, 0, 0)], 132),
  (132, [(132, .aload_n 0, 0, 0), (133, .getfield 10, 0, 9), (136, .getfield 184, 2, 6), (139, .iconst 1, 1, 0), (140, .iaload, 0, 0), (141, .ireturn, 0, 0)], 142),
  (142, [(142, .aload_n 0, 0, 0), (143, .getfield 10, 0, 9), (146, .getfield 184, 2, 6), (149, .iconst 2, 2, 0), (150, .iaload, 0, 0), (151, .ireturn, 0, 0)], 152),
  (152, [(152, .aload_n 0, 0, 0), (153, .getfield 10, 0, 9), (156, .getfield 113, 1, 6), (159, .iconst 5, 5, 0), (160, .iaload, 0, 0), (161, .ireturn, 0, 0)], 162),
  (162, [(162, .aload_n 0, 0, 0), (163, .invokevirtual 350, 137, 1), (166, .ireturn, 0, 0)], 167),
  (167, [(167, .aload_n 0, 0, 0), (168, .invokevirtual 353, 138, 1), (171, .ireturn, 0, 0)], 172),
  (172, [(172, .aload_n 0, 0, 0), (173, .getfield 19, 1, 9), (176, .getfield 356, 2, 3), (179, .ireturn, 0, 0)], 180),
  (180, [(180, .aload_n 0, 0, 0), (181, .getfield 34, 4, 9), (184, .getfield 96, 1, 7), (187, .ireturn, 0, 0)], 188),
  (188, [(188, .aload_n 0, 0, 0), (189, .getfield 27, 3, 9), (192, .ireturn, 0, 0)], 193),
  (193, [(193, .iconst (-1), 1, 1), (194, .ireturn, 0, 0)], 195)]
theorem t_Appr_count : z_chkM 120 b_Appr_count = true := by decide +kernel
def b_Appr_isPerson : List BK := [(0, [(0, .iload_n 0, 0, 0), (1, .ifCond .lt 13, 14, 0)], 4),
  (4, [(4, .iload_n 0, 0, 0), (5, .bipush 16, 16, 0), (7, .if_icmp .ge 7, 14, 0)], 10),
  (10, [(10, .iconst 1, 1, 0), (11, .goto 4, 15, 0)], 14),
  (14, [(14, .iconst 0, 0, 0)], 15),
  (15, [(15, .ireturn, 0, 0)], 16)]
theorem t_Appr_isPerson : z_chkM 121 b_Appr_isPerson = true := by decide +kernel
def b_Appr_isDay : List BK := [(0, [(0, .iload_n 0, 0, 0), (1, .ifCond .lt 14, 15, 0)], 4),
  (4, [(4, .iload_n 0, 0, 0), (5, .sipush 1000, 1000, 0), (8, .if_icmp .ge 7, 15, 0)], 11),
  (11, [(11, .iconst 1, 1, 0), (12, .goto 4, 16, 0)], 15),
  (15, [(15, .iconst 0, 0, 0)], 16),
  (16, [(16, .ireturn, 0, 0)], 17)]
theorem t_Appr_isDay : z_chkM 122 b_Appr_isDay = true := by decide +kernel
def b_Appr_areDays : List BK := [(0, [(0, .iload_n 0, 0, 0), (1, .invokestatic 130, 122, 1), (4, .ifCond .eq 19, 23, 0)], 7),
  (7, [(7, .iload_n 1, 0, 0), (8, .invokestatic 130, 122, 1), (11, .ifCond .eq 12, 23, 0)], 14),
  (14, [(14, .iload_n 0, 0, 0), (15, .iload_n 1, 0, 0), (16, .if_icmp .gt 7, 23, 0)], 19),
  (19, [(19, .iconst 1, 1, 0), (20, .goto 4, 24, 0)], 23),
  (23, [(23, .iconst 0, 0, 0)], 24),
  (24, [(24, .ireturn, 0, 0)], 25)]
theorem t_Appr_areDays : z_chkM 123 b_Appr_areDays = true := by decide +kernel
def b_Appr_isKind : List BK := [(0, [(0, .iload_n 0, 0, 0), (1, .ifCond .lt 12, 13, 0)], 4),
  (4, [(4, .iload_n 0, 0, 0), (5, .iconst 3, 3, 0), (6, .if_icmp .ge 7, 13, 0)], 9),
  (9, [(9, .iconst 1, 1, 0), (10, .goto 4, 14, 0)], 13),
  (13, [(13, .iconst 0, 0, 0)], 14),
  (14, [(14, .ireturn, 0, 0)], 15)]
theorem t_Appr_isKind : z_chkM 124 b_Appr_isKind = true := by decide +kernel
def b_Appr_isEntryKind : List BK := [(0, [(0, .iload_n 0, 0, 0), (1, .ifCond .lt 12, 13, 0)], 4),
  (4, [(4, .iload_n 0, 0, 0), (5, .iconst 3, 3, 0), (6, .if_icmp .gt 7, 13, 0)], 9),
  (9, [(9, .iconst 1, 1, 0), (10, .goto 4, 14, 0)], 13),
  (13, [(13, .iconst 0, 0, 0)], 14),
  (14, [(14, .ireturn, 0, 0)], 15)]
theorem t_Appr_isEntryKind : z_chkM 125 b_Appr_isEntryKind = true := by decide +kernel
def b_Appr_isWhich : List BK := [(0, [(0, .iload_n 0, 0, 0), (1, .ifCond .lt 13, 14, 0)], 4),
  (4, [(4, .iload_n 0, 0, 0), (5, .bipush 30, 30, 0), (7, .if_icmp .ge 7, 14, 0)], 10),
  (10, [(10, .iconst 1, 1, 0), (11, .goto 4, 15, 0)], 14),
  (14, [(14, .iconst 0, 0, 0)], 15),
  (15, [(15, .ireturn, 0, 0)], 16)]
theorem t_Appr_isWhich : z_chkM 126 b_Appr_isWhich = true := by decide +kernel
def b_Appr_isAmount : List BK := [(0, [(0, .iload_n 0, 0, 0), (1, .iconst 1, 1, 0), (2, .if_icmp .lt 14, 16, 0)], 5),
  (5, [(5, .iload_n 0, 0, 0), (6, .sipush 9999, 9999, 0), (9, .if_icmp .gt 7, 16, 0)], 12),
  (12, [(12, .iconst 1, 1, 0), (13, .goto 4, 17, 0)], 16),
  (16, [(16, .iconst 0, 0, 0)], 17),
  (17, [(17, .ireturn, 0, 0)], 18)]
theorem t_Appr_isAmount : z_chkM 127 b_Appr_isAmount = true := by decide +kernel
def b_Appr_isLimit : List BK := [(0, [(0, .iload_n 0, 0, 0), (1, .ifCond .lt 14, 15, 0)], 4),
  (4, [(4, .iload_n 0, 0, 0), (5, .sipush 9999, 9999, 0), (8, .if_icmp .gt 7, 15, 0)], 11),
  (11, [(11, .iconst 1, 1, 0), (12, .goto 4, 16, 0)], 15),
  (15, [(15, .iconst 0, 0, 0)], 16),
  (16, [(16, .ireturn, 0, 0)], 17)]
theorem t_Appr_isLimit : z_chkM 128 b_Appr_isLimit = true := by decide +kernel
def b_Appr_isShelf : List BK := [(0, [(0, .iload_n 0, 0, 0), (1, .ifCond .lt 12, 13, 0)], 4),
  (4, [(4, .iload_n 0, 0, 0), (5, .iconst 2, 2, 0), (6, .if_icmp .ge 7, 13, 0)], 9),
  (9, [(9, .iconst 1, 1, 0), (10, .goto 4, 14, 0)], 13),
  (13, [(13, .iconst 0, 0, 0)], 14),
  (14, [(14, .ireturn, 0, 0)], 15)]
theorem t_Appr_isShelf : z_chkM 129 b_Appr_isShelf = true := by decide +kernel
def b_Appr_isIn : List BK := [(0, [(0, .iload_n 0, 0, 0), (1, .iload_n 1, 0, 0), (2, .ishr, 0, 0), (3, .iconst 1, 1, 0), (4, .iand, 0, 0), (5, .ifCond .eq 7, 12, 0)], 8),
  (8, [(8, .iconst 1, 1, 0), (9, .goto 4, 13, 0)], 12),
  (12, [(12, .iconst 0, 0, 0)], 13),
  (13, [(13, .ireturn, 0, 0)], 14)]
theorem t_Appr_isIn : z_chkM 130 b_Appr_isIn = true := by decide +kernel
def b_Appr_bitOf : List BK := [(0, [(0, .iload_n 0, 0, 0), (1, .invokestatic 116, 121, 1), (4, .ifCond .eq 9, 13, 0)], 7),
  (7, [(7, .iconst 1, 1, 0), (8, .iload_n 0, 0, 0), (9, .ishl, 0, 0), (10, .goto 4, 14, 0)], 13),
  (13, [(13, .iconst 0, 0, 0)], 14),
  (14, [(14, .ireturn, 0, 0)], 15)]
theorem t_Appr_bitOf : z_chkM 131 b_Appr_bitOf = true := by decide +kernel
def b_Appr_addEntry : List BK := [(0, [(0, .aload_n 0, 0, 0), (1, .getfield 10, 0, 9), (4, .iload_n 1, 0, 0), (5, .invokevirtual 133, 51, 2), (8, .ifCond .eq 6, 14, 0)], 11),
  (11, [(11, .bipush (-2), 2, 1), (13, .ireturn, 0, 0)], 14),
  (14, [(14, .aload_n 0, 0, 0), (15, .getfield 19, 1, 9), (18, .aload_n 0, 0, 0), (19, .getfield 10, 0, 9), (22, .invokevirtual 136, 16, 2), (25, .aload_n 0, 0, 0), (26, .getfield 10, 0, 9), (29, .iload_n 1, 0, 0), (30, .iload_n 2, 0, 0), (31, .iload_n 3, 0, 0), (32, .iload 4, 0, 0), (34, .iload 5, 0, 0), (36, .iload 6, 0, 0), (38, .invokevirtual 357, 54, 7), (41, .ireturn, 0, 0)], 42)]
theorem t_Appr_addEntry : z_chkM 132 b_Appr_addEntry = true := by decide +kernel
def b_Appr_refusalOfRecall : List BK := [(0, [(0, .aload_n 0, 0, 0), (1, .getfield 10, 0, 9), (4, .iconst 5, 5, 0), (5, .iload_n 1, 0, 0), (6, .invokevirtual 120, 50, 3), (9, .ifCond .eq 24, 33, 0)], 12),
  (12, [(12, .iload_n 2, 0, 0), (13, .invokestatic 130, 122, 1), (16, .ifCond .eq 17, 33, 0)], 19),
  (19, [(19, .iload_n 2, 0, 0), (20, .aload_n 0, 0, 0), (21, .getfield 10, 0, 9), (24, .iconst 5, 5, 0), (25, .iload_n 1, 0, 0), (26, .iconst 5, 5, 0), (27, .invokevirtual 151, 52, 4), (30, .if_icmp .ge 5, 35, 0)], 33),
  (33, [(33, .iconst (-1), 1, 1), (34, .ireturn, 0, 0)], 35),
  (35, [(35, .aload_n 0, 0, 0), (36, .getfield 10, 0, 9), (39, .iload_n 1, 0, 0), (40, .invokevirtual 243, 57, 2), (43, .ifCond .eq 6, 49, 0)], 46),
  (46, [(46, .bipush (-2), 2, 1), (48, .ireturn, 0, 0)], 49),
  (49, [(49, .aload_n 0, 0, 0), (50, .getfield 78, 10, 9), (53, .aload_n 0, 0, 0), (54, .iload_n 1, 0, 0), (55, .invokevirtual 222, 135, 2), (58, .invokevirtual 226, 33, 2), (61, .aload_n 0, 0, 0), (62, .getfield 78, 10, 9), (65, .invokevirtual 290, 41, 1), (68, .ifCond .eq 20, 88, 0)], 71),
  (71, [(71, .aload_n 0, 0, 0), (72, .getfield 78, 10, 9), (75, .iconst 1, 1, 0), (76, .invokevirtual 240, 39, 2), (79, .iload_n 2, 0, 0), (80, .if_icmp .gt 8, 88, 0)], 83),
  (83, [(83, .bipush (-3), 3, 1), (85, .goto 4, 89, 0)], 88),
  (88, [(88, .iconst 0, 0, 0)], 89),
  (89, [(89, .ireturn, 0, 0)], 90)]
theorem t_Appr_refusalOfRecall : z_chkM 133 b_Appr_refusalOfRecall = true := by decide +kernel
def b_Appr_wholeOn : List BK := [(0, [(0, .aload_n 0, 0, 0), (1, .getfield 10, 0, 9), (4, .iconst 5, 5, 0), (5, .iload_n 1, 0, 0), (6, .iconst 4, 4, 0), (7, .invokevirtual 151, 52, 4), (10, .aload_n 0, 0, 0), (11, .getfield 10, 0, 9), (14, .aload_n 0, 0, 0), (15, .getfield 10, 0, 9), (18, .iload_n 1, 0, 0), (19, .iload_n 2, 0, 0), (20, .invokevirtual 218, 65, 3), (23, .invokevirtual 294, 67, 2), (26, .iadd, 0, 0), (27, .ireturn, 0, 0)], 28)]
theorem t_Appr_wholeOn : z_chkM 134 b_Appr_wholeOn = true := by decide +kernel
def b_Appr_matterOf : List BK := [(0, [(0, .aload_n 0, 0, 0), (1, .getfield 60, 8, 9), (4, .aload_n 0, 0, 0), (5, .getfield 10, 0, 9), (8, .iconst 5, 5, 0), (9, .iload_n 1, 0, 0), (10, .iconst 0, 0, 0), (11, .invokevirtual 151, 52, 4), (14, .aload_n 0, 0, 0), (15, .getfield 10, 0, 9), (18, .iconst 5, 5, 0), (19, .iload_n 1, 0, 0), (20, .iconst 2, 2, 0), (21, .invokevirtual 151, 52, 4), (24, .aload_n 0, 0, 0), (25, .getfield 10, 0, 9), (28, .iconst 5, 5, 0), (29, .iload_n 1, 0, 0), (30, .iconst 3, 3, 0), (31, .invokevirtual 151, 52, 4), (34, .invokevirtual 249, 13, 4), (37, .aload_n 0, 0, 0), (38, .getfield 60, 8, 9), (41, .aload_n 0, 0, 0), (42, .getfield 10, 0, 9), (45, .iconst 5, 5, 0), (46, .iload_n 1, 0, 0), (47, .iconst 1, 1, 0), (48, .invokevirtual 151, 52, 4), (51, .putfield 309, 3, 2), (54, .aload_n 0, 0, 0), (55, .getfield 60, 8, 9), (58, .aload_n 0, 0, 0), (59, .getfield 10, 0, 9), (62, .iconst 5, 5, 0), (63, .iload_n 1, 0, 0), (64, .iconst 5, 5, 0), (65, .invokevirtual 151, 52, 4), (68, .putfield 303, 4, 2), (71, .aload_n 0, 0, 0), (72, .getfield 60, 8, 9), (75, .aload_n 0, 0, 0), (76, .iload_n 1, 0, 0), (77, .aload_n 0, 0, 0), (78, .getfield 60, 8, 9), (81, .getfield 303, 4, 2), (84, .invokevirtual 203, 134, 3), (87, .putfield 306, 5, 2), (90, .aload_n 0, 0, 0), (91, .getfield 60, 8, 9), (94, .areturn, 0, 0)], 95)]
theorem t_Appr_matterOf : z_chkM 135 b_Appr_matterOf = true := by decide +kernel
def b_Appr_isApprovedNow : List BK := [(0, [(0, .aload_n 0, 0, 0), (1, .getfield 10, 0, 9), (4, .iload_n 1, 0, 0), (5, .invokevirtual 243, 57, 2), (8, .ifCond .eq 5, 13, 0)], 11),
  (11, [(11, .iconst 0, 0, 0), (12, .ireturn, 0, 0)], 13),
  (13, [(13, .aload_n 0, 0, 0), (14, .getfield 78, 10, 9), (17, .aload_n 0, 0, 0), (18, .iload_n 1, 0, 0), (19, .invokevirtual 222, 135, 2), (22, .invokevirtual 226, 33, 2), (25, .aload_n 0, 0, 0), (26, .getfield 78, 10, 9), (29, .invokevirtual 290, 41, 1), (32, .ireturn, 0, 0)], 33)]
theorem t_Appr_isApprovedNow : z_chkM 136 b_Appr_isApprovedNow = true := by decide +kernel
def b_Appr_countRecalled : List BK := [(0, [(0, .iconst 0, 0, 0), (1, .istore_n 1, 0, 0), (2, .iconst 0, 0, 0), (3, .istore_n 2, 0, 0)], 4),
  (4, [(4, .iload_n 2, 0, 0), (5, .aload_n 0, 0, 0), (6, .getfield 10, 0, 9), (9, .getfield 113, 1, 6), (12, .iconst 5, 5, 0), (13, .iaload, 0, 0), (14, .if_icmp .ge 23, 37, 0)], 17),
  (17, [(17, .aload_n 0, 0, 0), (18, .getfield 10, 0, 9), (21, .iload_n 2, 0, 0), (22, .invokevirtual 243, 57, 2), (25, .ifCond .eq 6, 31, 0)], 28),
  (28, [(28, .iinc 1 1, 1, 0)], 31),
  (31, [(31, .iinc 2 1, 1, 0), (34, .goto (-30), 4, 0)], 37),
  (37, [(37, .iload_n 1, 0, 0), (38, .ireturn, 0, 0)], 39)]
theorem t_Appr_countRecalled : z_chkM 137 b_Appr_countRecalled = true := by decide +kernel
def b_Appr_countStuck : List BK := [(0, [(0, .iconst 0, 0, 0), (1, .istore_n 1, 0, 0), (2, .iconst 0, 0, 0), (3, .istore_n 2, 0, 0)], 4),
  (4, [(4, .iload_n 2, 0, 0), (5, .aload_n 0, 0, 0), (6, .getfield 10, 0, 9), (9, .getfield 113, 1, 6), (12, .iconst 5, 5, 0), (13, .iaload, 0, 0), (14, .if_icmp .ge 50, 64, 0)], 17),
  (17, [(17, .aload_n 0, 0, 0), (18, .getfield 10, 0, 9), (21, .iload_n 2, 0, 0), (22, .invokevirtual 243, 57, 2), (25, .ifCond .ne 33, 58, 0)], 28),
  (28, [(28, .aload_n 0, 0, 0), (29, .getfield 78, 10, 9), (32, .aload_n 0, 0, 0), (33, .iload_n 2, 0, 0), (34, .invokevirtual 222, 135, 2), (37, .invokevirtual 226, 33, 2), (40, .iload_n 1, 0, 0), (41, .aload_n 0, 0, 0), (42, .getfield 78, 10, 9), (45, .invokevirtual 290, 41, 1), (48, .ifCond .eq 7, 55, 0)], 51),
  (51, [(51, .iconst 0, 0, 0), (52, .goto 4, 56, 0)], 55),
  (55, [(55, .iconst 1, 1, 0)], 56),
  (56, [(56, .iadd, 0, 0), (57, .istore_n 1, 0, 0)], 58),
  (58, [(58, .iinc 2 1, 1, 0), (61, .goto (-57), 4, 0)], 64),
  (64, [(64, .iload_n 1, 0, 0), (65, .ireturn, 0, 0)], 66)]
theorem t_Appr_countStuck : z_chkM 138 b_Appr_countStuck = true := by decide +kernel
def b_Appr_nextDay : List BK := [(0, [(0, .iload_n 2, 0, 0), (1, .iconst 1, 1, 0), (2, .iadd, 0, 0), (3, .aload_n 0, 0, 0), (4, .getfield 10, 0, 9), (7, .iload_n 1, 0, 0), (8, .invokevirtual 360, 64, 2), (11, .invokestatic 300, 1001, 0), (14, .ireturn, 0, 0)], 15)]
theorem t_Appr_nextDay : z_chkM 139 b_Appr_nextDay = true := by decide +kernel
def b_Appr_clearTally : List BK := [(0, [(0, .iconst 0, 0, 0), (1, .istore_n 1, 0, 0)], 2),
  (2, [(2, .iload_n 1, 0, 0), (3, .bipush 16, 16, 0), (5, .if_icmp .ge 16, 21, 0)], 8),
  (8, [(8, .aload_n 0, 0, 0), (9, .getfield 89, 12, 9), (12, .iload_n 1, 0, 0), (13, .iconst 0, 0, 0), (14, .iastore, 0, 0), (15, .iinc 1 1, 1, 0), (18, .goto (-16), 2, 0)], 21),
  (21, [(21, .return_, 0, 0)], 22)]
theorem t_Appr_clearTally : z_chkM 140 b_Appr_clearTally = true := by decide +kernel
def b_Appr_tallySteps : List BK := [(0, [(0, .aload_n 0, 0, 0), (1, .invokevirtual 312, 140, 1), (4, .iconst 0, 0, 0), (5, .istore_n 2, 0, 0)], 6),
  (6, [(6, .iload_n 2, 0, 0), (7, .aload_n 0, 0, 0), (8, .getfield 10, 0, 9), (11, .getfield 113, 1, 6), (14, .iconst 5, 5, 0), (15, .iaload, 0, 0), (16, .if_icmp .ge 96, 112, 0)], 19),
  (19, [(19, .aload_n 0, 0, 0), (20, .getfield 10, 0, 9), (23, .iload_n 2, 0, 0), (24, .invokevirtual 243, 57, 2), (27, .ifCond .eq 6, 33, 0)], 30),
  (30, [(30, .goto 76, 106, 0)], 33),
  (33, [(33, .aload_n 0, 0, 0), (34, .getfield 78, 10, 9), (37, .aload_n 0, 0, 0), (38, .iload_n 2, 0, 0), (39, .invokevirtual 222, 135, 2), (42, .invokevirtual 226, 33, 2), (45, .iconst 0, 0, 0), (46, .istore_n 3, 0, 0)], 47),
  (47, [(47, .iload_n 3, 0, 0), (48, .aload_n 0, 0, 0), (49, .getfield 78, 10, 9), (52, .getfield 230, 4, 5), (55, .if_icmp .ge 51, 106, 0)], 58),
  (58, [(58, .aload_n 0, 0, 0), (59, .getfield 78, 10, 9), (62, .iload_n 3, 0, 0), (63, .iconst 2, 2, 0), (64, .invokevirtual 235, 38, 3), (67, .istore 4, 0, 0), (69, .iload 4, 0, 0), (71, .invokestatic 116, 121, 1), (74, .ifCond .eq 26, 100, 0)], 77),
  (77, [(77, .aload_n 0, 0, 0), (78, .getfield 78, 10, 9), (81, .iload_n 3, 0, 0), (82, .iload_n 1, 0, 0), (83, .invokevirtual 363, 46, 3), (86, .ifCond .eq 14, 100, 0)], 89),
  (89, [(89, .aload_n 0, 0, 0), (90, .getfield 89, 12, 9), (93, .iload 4, 0, 0), (95, .dup2, 0, 0), (96, .iaload, 0, 0), (97, .iconst 1, 1, 0), (98, .iadd, 0, 0), (99, .iastore, 0, 0)], 100),
  (100, [(100, .iinc 3 1, 1, 0), (103, .goto (-56), 47, 0)], 106),
  (106, [(106, .iinc 2 1, 1, 0), (109, .goto (-103), 6, 0)], 112),
  (112, [(112, .return_, 0, 0)], 113)]
theorem t_Appr_tallySteps : z_chkM 141 b_Appr_tallySteps = true := by decide +kernel
def b_Appr_tallyPillars : List BK := [(0, [(0, .aload_n 0, 0, 0), (1, .getfield 78, 10, 9), (4, .aload_n 0, 0, 0), (5, .iload_n 1, 0, 0), (6, .invokevirtual 222, 135, 2), (9, .invokevirtual 226, 33, 2), (12, .aload_n 0, 0, 0), (13, .getfield 78, 10, 9), (16, .invokevirtual 290, 41, 1), (19, .ifCond .ne 4, 23, 0)], 22),
  (22, [(22, .return_, 0, 0)], 23),
  (23, [(23, .aload_n 0, 0, 0), (24, .getfield 78, 10, 9), (27, .invokevirtual 366, 45, 1), (30, .istore_n 2, 0, 0), (31, .iconst 0, 0, 0), (32, .istore_n 3, 0, 0)], 33),
  (33, [(33, .iload_n 3, 0, 0), (34, .bipush 16, 16, 0), (36, .if_icmp .ge 60, 96, 0)], 39),
  (39, [(39, .iload_n 2, 0, 0), (40, .iload_n 3, 0, 0), (41, .invokestatic 168, 130, 2), (44, .ifCond .eq 46, 90, 0)], 47),
  (47, [(47, .aload_n 0, 0, 0), (48, .getfield 60, 8, 9), (51, .iload_n 3, 0, 0), (52, .putfield 284, 6, 2), (55, .aload_n 0, 0, 0), (56, .getfield 78, 10, 9), (59, .aload_n 0, 0, 0), (60, .getfield 60, 8, 9), (63, .invokevirtual 226, 33, 2), (66, .aload_n 0, 0, 0), (67, .getfield 89, 12, 9), (70, .iload_n 3, 0, 0), (71, .dup2, 0, 0), (72, .iaload, 0, 0), (73, .aload_n 0, 0, 0), (74, .getfield 78, 10, 9), (77, .invokevirtual 290, 41, 1), (80, .ifCond .eq 7, 87, 0)], 83),
  (83, [(83, .iconst 0, 0, 0), (84, .goto 4, 88, 0)], 87),
  (87, [(87, .iconst 1, 1, 0)], 88),
  (88, [(88, .iadd, 0, 0), (89, .iastore, 0, 0)], 90),
  (90, [(90, .iinc 3 1, 1, 0), (93, .goto (-60), 33, 0)], 96),
  (96, [(96, .return_, 0, 0)], 97)]
theorem t_Appr_tallyPillars : z_chkM 142 b_Appr_tallyPillars = true := by decide +kernel
def b_Appr_ofTally : List BK := [(0, [(0, .iconst 0, 0, 0), (1, .istore_n 2, 0, 0), (2, .iconst 1, 1, 0), (3, .istore_n 3, 0, 0)], 4),
  (4, [(4, .iload_n 3, 0, 0), (5, .bipush 16, 16, 0), (7, .if_icmp .ge 26, 33, 0)], 10),
  (10, [(10, .aload_n 0, 0, 0), (11, .getfield 89, 12, 9), (14, .iload_n 3, 0, 0), (15, .iaload, 0, 0), (16, .aload_n 0, 0, 0), (17, .getfield 89, 12, 9), (20, .iload_n 2, 0, 0), (21, .iaload, 0, 0), (22, .if_icmp .le 5, 27, 0)], 25),
  (25, [(25, .iload_n 3, 0, 0), (26, .istore_n 2, 0, 0)], 27),
  (27, [(27, .iinc 3 1, 1, 0), (30, .goto (-26), 4, 0)], 33),
  (33, [(33, .aload_n 0, 0, 0), (34, .getfield 89, 12, 9), (37, .iload_n 2, 0, 0), (38, .iaload, 0, 0), (39, .ifCond .ne 6, 45, 0)], 42),
  (42, [(42, .bipush (-2), 2, 1), (44, .ireturn, 0, 0)], 45),
  (45, [(45, .iload_n 1, 0, 0), (46, .ifCond .ne 7, 53, 0)], 49),
  (49, [(49, .iload_n 2, 0, 0), (50, .goto 9, 59, 0)], 53),
  (53, [(53, .aload_n 0, 0, 0), (54, .getfield 89, 12, 9), (57, .iload_n 2, 0, 0), (58, .iaload, 0, 0)], 59),
  (59, [(59, .ireturn, 0, 0)], 60)]
theorem t_Appr_ofTally : z_chkM 143 b_Appr_ofTally = true := by decide +kernel
def b_Appr_coverParts : List BK := [(0, [(0, .iload_n 1, 0, 0), (1, .iconst 1, 1, 0), (2, .if_icmp .lt 9, 11, 0)], 5),
  (5, [(5, .iload_n 1, 0, 0), (6, .bipush 40, 40, 0), (8, .if_icmp .le 5, 13, 0)], 11),
  (11, [(11, .iconst 0, 0, 0), (12, .ireturn, 0, 0)], 13),
  (13, [(13, .iload_n 2, 0, 0), (14, .iload_n 1, 0, 0), (15, .idiv, 0, 0), (16, .istore_n 3, 0, 0), (17, .iload_n 2, 0, 0), (18, .iload_n 1, 0, 0), (19, .irem, 0, 0), (20, .istore 4, 0, 0), (22, .iconst 0, 0, 0), (23, .istore 5, 0, 0)], 25),
  (25, [(25, .iload 5, 0, 0), (27, .iload_n 1, 0, 0), (28, .if_icmp .ge 35, 63, 0)], 31),
  (31, [(31, .aload_n 0, 0, 0), (32, .getfield 93, 13, 9), (35, .iload 5, 0, 0), (37, .iaload, 0, 0), (38, .iload 5, 0, 0), (40, .iload 4, 0, 0), (42, .if_icmp .ge 9, 51, 0)], 45),
  (45, [(45, .iload_n 3, 0, 0), (46, .iconst 1, 1, 0), (47, .iadd, 0, 0), (48, .goto 4, 52, 0)], 51),
  (51, [(51, .iload_n 3, 0, 0)], 52),
  (52, [(52, .if_icmp .ge 5, 57, 0)], 55),
  (55, [(55, .iconst 0, 0, 0), (56, .ireturn, 0, 0)], 57),
  (57, [(57, .iinc 5 1, 1, 0), (60, .goto (-35), 25, 0)], 63),
  (63, [(63, .iconst 1, 1, 0), (64, .ireturn, 0, 0)], 65)]
theorem t_Appr_coverParts : z_chkM 144 b_Appr_coverParts = true := by decide +kernel
def b_Appr_wordOf : List BK := [(0, [(0, .iload_n 0, 0, 0), (1, .tableswitch 83 0 8 #[51, 55, 59, 63, 67, 83, 71, 75, 79], 0, 0)], 52),
  (52, [(52, .ldc_w 369, 5, 0), (55, .areturn, 0, 0)], 56),
  (56, [(56, .ldc_w 371, 2, 0), (59, .areturn, 0, 0)], 60),
  (60, [(60, .ldc_w 373, 13, 0), (63, .areturn, 0, 0)], 64),
  (64, [(64, .ldc_w 375, 4, 0), (67, .areturn, 0, 0)], 68),
  (68, [(68, .ldc_w 377, 12, 0), (71, .areturn, 0, 0)], 72),
  (72, [(72, .ldc_w 378, 18, 0), (75, .areturn, 0, 0)], 76),
  (76, [(76, .ldc_w 380, 10, 0), (79, .areturn, 0, 0)], 80),
  (80, [(80, .ldc_w 382, 17, 0), (83, .areturn, 0, 0)], 84),
  (84, [(84, .ldc_w 384, 0, 0), (87, .areturn, 0, 0)], 88)]
theorem t_Appr_wordOf : z_chkM 145 b_Appr_wordOf = true := by decide +kernel
end
section
def b_Mod_init : List BK := [(0, [(0, .aload_n 0, 0, 0), (1, .invokespecial 1, 1003, 0), (4, .aload_n 0, 0, 0), (5, .sipush 657, 657, 0), (8, .newarray .int, 0, 0), (10, .putfield 7, 0, 10), (13, .aload_n 0, 0, 0), (14, .sipush 6570, 6570, 0), (17, .newarray .int, 0, 0), (19, .putfield 13, 1, 10), (22, .aload_n 0, 0, 0), (23, .sipush 1314, 1314, 0), (26, .newarray .int, 0, 0), (28, .putfield 16, 3, 10), (31, .aload_n 0, 0, 0), (32, .iconst 2, 2, 0), (33, .newarray .boolean, 2, 0), (35, .putfield 19, 4, 10), (38, .aload_n 0, 0, 0), (39, .iconst (-1), 1, 1), (40, .putfield 23, 5, 10), (43, .aload_n 0, 0, 0), (44, .iconst (-1), 1, 1), (45, .putfield 27, 6, 10), (48, .aload_n 0, 0, 0), (49, .bipush 16, 16, 0), (51, .newarray .int, 0, 0), (53, .putfield 30, 11, 10), (56, .aload_n 0, 0, 0), (57, .bipush 72, 72, 0), (59, .newarray .int, 0, 0), (61, .putfield 33, 15, 10), (64, .aload_n 0, 0, 0), (65, .sipush 192, 192, 0), (68, .newarray .int, 0, 0), (70, .putfield 36, 16, 10), (73, .aload_n 0, 0, 0), (74, .bipush 48, 48, 0), (76, .newarray .int, 0, 0), (78, .putfield 39, 19, 10), (81, .aload_n 0, 0, 0), (82, .sipush 400, 400, 0), (85, .newarray .byte, 1, 0), (87, .putfield 42, 20, 10), (90, .aload_n 0, 0, 0), (91, .sipush 657, 657, 0), (94, .newarray .int, 0, 0), (96, .putfield 46, 26, 10), (99, .aload_n 0, 0, 0), (100, .getfield 7, 0, 10), (103, .invokestatic 49, 147, 1), (106, .return_, 0, 0)], 107)]
theorem t_Mod_init : z_chkM 146 b_Mod_init = true := by decide +kernel
def b_Mod_begins : List BK := [(0, [(0, .iconst 0, 0, 0), (1, .istore_n 1, 0, 0)], 2),
  (2, [(2, .iload_n 1, 0, 0), (3, .sipush 657, 657, 0), (6, .if_icmp .ge 13, 19, 0)], 9),
  (9, [(9, .aload_n 0, 0, 0), (10, .iload_n 1, 0, 0), (11, .iconst 0, 0, 0), (12, .iastore, 0, 0), (13, .iinc 1 1, 1, 0), (16, .goto (-14), 2, 0)], 19),
  (19, [(19, .aload_n 0, 0, 0), (20, .bipush 6, 6, 0), (22, .iconst 1, 1, 0), (23, .iastore, 0, 0), (24, .aload_n 0, 0, 0), (25, .bipush 7, 7, 0), (27, .iconst 2, 2, 0), (28, .iastore, 0, 0), (29, .return_, 0, 0)], 30)]
theorem t_Mod_begins : z_chkM 147 b_Mod_begins = true := by decide +kernel
def b_Mod_in : List BK := [(0, [(0, .lload_n 0, 0, 0), (1, .lload_n 2, 0, 0), (2, .lcmp, 0, 0), (3, .ifCond .lt 14, 17, 0)], 6),
  (6, [(6, .lload_n 0, 0, 0), (7, .lload 4, 0, 0), (9, .lcmp, 0, 0), (10, .ifCond .gt 7, 17, 0)], 13),
  (13, [(13, .iconst 1, 1, 0), (14, .goto 4, 18, 0)], 17),
  (17, [(17, .iconst 0, 0, 0)], 18),
  (18, [(18, .ireturn, 0, 0)], 19)]
theorem t_Mod_in : z_chkM 148 b_Mod_in = true := by decide +kernel
def b_Mod_has : List BK := [(0, [(0, .iload_n 0, 0, 0), (1, .iload_n 1, 0, 0), (2, .ishr, 0, 0), (3, .iconst 1, 1, 0), (4, .iand, 0, 0), (5, .iconst 1, 1, 0), (6, .if_icmp .ne 7, 13, 0)], 9),
  (9, [(9, .iconst 1, 1, 0), (10, .goto 4, 14, 0)], 13),
  (13, [(13, .iconst 0, 0, 0)], 14),
  (14, [(14, .ireturn, 0, 0)], 15)]
theorem t_Mod_has : z_chkM 149 b_Mod_has = true := by decide +kernel
def b_Mod_posts : List BK := [(0, [(0, .aload_n 0, 0, 0), (1, .getfield 7, 0, 10), (4, .iconst 0, 0, 0), (5, .iaload, 0, 0), (6, .ireturn, 0, 0)], 7)]
theorem t_Mod_posts : z_chkM 150 b_Mod_posts = true := by decide +kernel
def b_Mod_requests : List BK := [(0, [(0, .aload_n 0, 0, 0), (1, .getfield 7, 0, 10), (4, .bipush 8, 8, 0), (6, .iaload, 0, 0), (7, .ireturn, 0, 0)], 8)]
theorem t_Mod_requests : z_chkM 151 b_Mod_requests = true := by decide +kernel
def b_Mod_isPost : List BK := [(0, [(0, .iload_n 1, 0, 0), (1, .i2l, 0, 0), (2, .lconst 0, 0, 0), (3, .aload_n 0, 0, 0), (4, .invokevirtual 53, 150, 1), (7, .iconst 1, 1, 0), (8, .isub, 0, 0), (9, .i2l, 0, 0), (10, .invokestatic 57, 148, 3), (13, .ireturn, 0, 0)], 14)]
theorem t_Mod_isPost : z_chkM 152 b_Mod_isPost = true := by decide +kernel
def b_Mod_isRequest : List BK := [(0, [(0, .iload_n 1, 0, 0), (1, .i2l, 0, 0), (2, .lconst 0, 0, 0), (3, .aload_n 0, 0, 0), (4, .invokevirtual 61, 151, 1), (7, .iconst 1, 1, 0), (8, .isub, 0, 0), (9, .i2l, 0, 0), (10, .invokestatic 57, 148, 3), (13, .ireturn, 0, 0)], 14)]
theorem t_Mod_isRequest : z_chkM 153 b_Mod_isRequest = true := by decide +kernel
def b_Mod_isPerson : List BK := [(0, [(0, .iload_n 0, 0, 0), (1, .i2l, 0, 0), (2, .lconst 0, 0, 0), (3, .ldc2_w 64, 15, 2), (6, .invokestatic 57, 148, 3), (9, .ireturn, 0, 0)], 10)]
theorem t_Mod_isPerson : z_chkM 154 b_Mod_isPerson = true := by decide +kernel
def b_Mod_isDay : List BK := [(0, [(0, .iload_n 0, 0, 0), (1, .i2l, 0, 0), (2, .lconst 0, 0, 0), (3, .ldc2_w 66, 999, 2), (6, .invokestatic 57, 148, 3), (9, .ireturn, 0, 0)], 10)]
theorem t_Mod_isDay : z_chkM 155 b_Mod_isDay = true := by decide +kernel
def b_Mod_areDays : List BK := [(0, [(0, .iload_n 0, 0, 0), (1, .invokestatic 68, 155, 1), (4, .ifCond .eq 20, 24, 0)], 7),
  (7, [(7, .iload_n 1, 0, 0), (8, .i2l, 0, 0), (9, .iload_n 0, 0, 0), (10, .i2l, 0, 0), (11, .ldc2_w 66, 999, 2), (14, .invokestatic 57, 148, 3), (17, .ifCond .eq 7, 24, 0)], 20),
  (20, [(20, .iconst 1, 1, 0), (21, .goto 4, 25, 0)], 24),
  (24, [(24, .iconst 0, 0, 0)], 25),
  (25, [(25, .ireturn, 0, 0)], 26)]
theorem t_Mod_areDays : z_chkM 156 b_Mod_areDays = true := by decide +kernel
def b_Mod_upper : List BK := [(0, [(0, .aload_n 0, 0, 0), (1, .getfield 7, 0, 10), (4, .bipush 9, 9, 0), (6, .iconst 4, 4, 0), (7, .iload_n 1, 0, 0), (8, .imul, 0, 0), (9, .iadd, 0, 0), (10, .iaload, 0, 0), (11, .ireturn, 0, 0)], 12)]
theorem t_Mod_upper : z_chkM 157 b_Mod_upper = true := by decide +kernel
def b_Mod_limitOf : List BK := [(0, [(0, .aload_n 0, 0, 0), (1, .getfield 7, 0, 10), (4, .bipush 9, 9, 0), (6, .iconst 4, 4, 0), (7, .iload_n 1, 0, 0), (8, .imul, 0, 0), (9, .iadd, 0, 0), (10, .iconst 1, 1, 0), (11, .iadd, 0, 0), (12, .iload_n 2, 0, 0), (13, .iadd, 0, 0), (14, .iaload, 0, 0), (15, .ireturn, 0, 0)], 16)]
theorem t_Mod_limitOf : z_chkM 158 b_Mod_limitOf = true := by decide +kernel
def b_Mod_of : List BK := [(0, [(0, .aload_n 0, 0, 0), (1, .getfield 7, 0, 10), (4, .sipush 377, 377, 0), (7, .bipush 7, 7, 0), (9, .iload_n 1, 0, 0), (10, .imul, 0, 0), (11, .iadd, 0, 0), (12, .iload_n 2, 0, 0), (13, .iadd, 0, 0), (14, .iaload, 0, 0), (15, .ireturn, 0, 0)], 16)]
theorem t_Mod_of : z_chkM 159 b_Mod_of = true := by decide +kernel
def b_Mod_longOf : List BK := [(0, [(0, .iload_n 0, 0, 0), (1, .tableswitch 33 0 2 #[27, 29, 31], 0, 0)], 28),
  (28, [(28, .iconst 4, 4, 0), (29, .ireturn, 0, 0)], 30),
  (30, [(30, .iconst 3, 3, 0), (31, .ireturn, 0, 0)], 32),
  (32, [(32, .iconst 5, 5, 0), (33, .ireturn, 0, 0)], 34),
  (34, [(34, .iconst 2, 2, 0), (35, .ireturn, 0, 0)], 36)]
theorem t_Mod_longOf : z_chkM 160 b_Mod_longOf = true := by decide +kernel
def b_Mod_beginOf : List BK := [(0, [(0, .iload_n 0, 0, 0), (1, .tableswitch 38 0 2 #[27, 30, 34], 0, 0)], 28),
  (28, [(28, .bipush 57, 57, 0), (30, .ireturn, 0, 0)], 31),
  (31, [(31, .sipush 153, 153, 0), (34, .ireturn, 0, 0)], 35),
  (35, [(35, .sipush 225, 225, 0), (38, .ireturn, 0, 0)], 39),
  (39, [(39, .sipush 345, 345, 0), (42, .ireturn, 0, 0)], 43)]
theorem t_Mod_beginOf : z_chkM 161 b_Mod_beginOf = true := by decide +kernel
def b_Mod_many : List BK := [(0, [(0, .aload_n 0, 0, 0), (1, .getfield 7, 0, 10), (4, .iconst 1, 1, 0), (5, .iload_n 1, 0, 0), (6, .iadd, 0, 0), (7, .iaload, 0, 0), (8, .ireturn, 0, 0)], 9)]
theorem t_Mod_many : z_chkM 162 b_Mod_many = true := by decide +kernel
def b_Mod_entryOf : List BK := [(0, [(0, .aload_n 0, 0, 0), (1, .getfield 7, 0, 10), (4, .iload_n 1, 0, 0), (5, .invokestatic 72, 161, 1), (8, .iload_n 1, 0, 0), (9, .invokestatic 76, 160, 1), (12, .iload_n 2, 0, 0), (13, .imul, 0, 0), (14, .iadd, 0, 0), (15, .iload_n 3, 0, 0), (16, .iadd, 0, 0), (17, .iaload, 0, 0), (18, .ireturn, 0, 0)], 19)]
theorem t_Mod_entryOf : z_chkM 163 b_Mod_entryOf = true := by decide +kernel
def b_Mod_isAway : List BK := [(0, [(0, .iload_n 1, 0, 0), (1, .aload_n 0, 0, 0), (2, .getfield 23, 5, 10), (5, .if_icmp .ne 5, 10, 0)], 8),
  (8, [(8, .iconst 1, 1, 0), (9, .ireturn, 0, 0)], 10),
  (10, [(10, .iconst 0, 0, 0), (11, .istore_n 3, 0, 0)], 12),
  (12, [(12, .iload_n 3, 0, 0), (13, .aload_n 0, 0, 0), (14, .iconst 1, 1, 0), (15, .invokevirtual 79, 162, 2), (18, .if_icmp .ge 54, 72, 0)], 21),
  (21, [(21, .iload_n 3, 0, 0), (22, .aload_n 0, 0, 0), (23, .getfield 27, 6, 10), (26, .if_icmp .eq 40, 66, 0)], 29),
  (29, [(29, .aload_n 0, 0, 0), (30, .iconst 1, 1, 0), (31, .iload_n 3, 0, 0), (32, .iconst 0, 0, 0), (33, .invokevirtual 82, 163, 4), (36, .iload_n 1, 0, 0), (37, .if_icmp .ne 29, 66, 0)], 40),
  (40, [(40, .iload_n 2, 0, 0), (41, .i2l, 0, 0), (42, .aload_n 0, 0, 0), (43, .iconst 1, 1, 0), (44, .iload_n 3, 0, 0), (45, .iconst 1, 1, 0), (46, .invokevirtual 82, 163, 4), (49, .i2l, 0, 0), (50, .aload_n 0, 0, 0), (51, .iconst 1, 1, 0), (52, .iload_n 3, 0, 0), (53, .iconst 2, 2, 0), (54, .invokevirtual 82, 163, 4), (57, .i2l, 0, 0), (58, .invokestatic 57, 148, 3), (61, .ifCond .eq 5, 66, 0)], 64),
  (64, [(64, .iconst 1, 1, 0), (65, .ireturn, 0, 0)], 66),
  (66, [(66, .iinc 3 1, 1, 0), (69, .goto (-57), 12, 0)], 72),
  (72, [(72, .iconst 0, 0, 0), (73, .ireturn, 0, 0)], 74)]
theorem t_Mod_isAway : z_chkM 164 b_Mod_isAway = true := by decide +kernel
def b_Mod_isFoe : List BK := [(0, [(0, .iconst 0, 0, 0), (1, .istore_n 2, 0, 0)], 2),
  (2, [(2, .iload_n 2, 0, 0), (3, .aload_n 0, 0, 0), (4, .iconst 3, 3, 0), (5, .invokevirtual 79, 162, 2), (8, .if_icmp .ge 36, 44, 0)], 11),
  (11, [(11, .aload_n 0, 0, 0), (12, .iconst 3, 3, 0), (13, .iload_n 2, 0, 0), (14, .iconst 0, 0, 0), (15, .invokevirtual 82, 163, 4), (18, .iload_n 1, 0, 0), (19, .if_icmp .ne 19, 38, 0)], 22),
  (22, [(22, .aload_n 0, 0, 0), (23, .iconst 3, 3, 0), (24, .iload_n 2, 0, 0), (25, .iconst 1, 1, 0), (26, .invokevirtual 82, 163, 4), (29, .aload_n 0, 0, 0), (30, .getfield 86, 8, 10), (33, .if_icmp .ne 5, 38, 0)], 36),
  (36, [(36, .iconst 1, 1, 0), (37, .ireturn, 0, 0)], 38),
  (38, [(38, .iinc 2 1, 1, 0), (41, .goto (-39), 2, 0)], 44),
  (44, [(44, .iconst 0, 0, 0), (45, .ireturn, 0, 0)], 46)]
theorem t_Mod_isFoe : z_chkM 165 b_Mod_isFoe = true := by decide +kernel
def b_Mod_holderOf : List BK := [(0, [(0, .iconst 0, 0, 0), (1, .istore_n 3, 0, 0)], 2),
  (2, [(2, .iload_n 3, 0, 0), (3, .aload_n 0, 0, 0), (4, .iconst 0, 0, 0), (5, .invokevirtual 79, 162, 2), (8, .if_icmp .ge 52, 60, 0)], 11),
  (11, [(11, .aload_n 0, 0, 0), (12, .iconst 0, 0, 0), (13, .iload_n 3, 0, 0), (14, .iconst 0, 0, 0), (15, .invokevirtual 82, 163, 4), (18, .iload_n 1, 0, 0), (19, .if_icmp .ne 35, 54, 0)], 22),
  (22, [(22, .iload_n 2, 0, 0), (23, .i2l, 0, 0), (24, .aload_n 0, 0, 0), (25, .iconst 0, 0, 0), (26, .iload_n 3, 0, 0), (27, .iconst 2, 2, 0), (28, .invokevirtual 82, 163, 4), (31, .i2l, 0, 0), (32, .aload_n 0, 0, 0), (33, .iconst 0, 0, 0), (34, .iload_n 3, 0, 0), (35, .iconst 3, 3, 0), (36, .invokevirtual 82, 163, 4), (39, .i2l, 0, 0), (40, .invokestatic 57, 148, 3), (43, .ifCond .eq 11, 54, 0)], 46),
  (46, [(46, .aload_n 0, 0, 0), (47, .iconst 0, 0, 0), (48, .iload_n 3, 0, 0), (49, .iconst 1, 1, 0), (50, .invokevirtual 82, 163, 4), (53, .ireturn, 0, 0)], 54),
  (54, [(54, .iinc 3 1, 1, 0), (57, .goto (-55), 2, 0)], 60),
  (60, [(60, .iconst (-1), 1, 1), (61, .ireturn, 0, 0)], 62)]
theorem t_Mod_holderOf : z_chkM 166 b_Mod_holderOf = true := by decide +kernel
def b_Mod_asks : List BK := [(0, [(0, .aload_n 0, 0, 0), (1, .dup, 0, 0), (2, .getfield 89, 10, 10), (5, .iconst 1, 1, 0), (6, .iload_n 1, 0, 0), (7, .ishl, 0, 0), (8, .ior, 0, 0), (9, .putfield 89, 10, 10), (12, .iload_n 1, 0, 0), (13, .aload_n 0, 0, 0), (14, .getfield 92, 7, 10), (17, .if_icmp .ne 5, 22, 0)], 20),
  (20, [(20, .iconst 0, 0, 0), (21, .ireturn, 0, 0)], 22),
  (22, [(22, .aload_n 0, 0, 0), (23, .getfield 30, 11, 10), (26, .aload_n 0, 0, 0), (27, .getfield 95, 12, 10), (30, .iload_n 1, 0, 0), (31, .iastore, 0, 0), (32, .aload_n 0, 0, 0), (33, .dup, 0, 0), (34, .getfield 95, 12, 10), (37, .iconst 1, 1, 0), (38, .iadd, 0, 0), (39, .putfield 95, 12, 10), (42, .aload_n 0, 0, 0), (43, .iload_n 1, 0, 0), (44, .aload_n 0, 0, 0), (45, .getfield 98, 9, 10), (48, .invokevirtual 101, 164, 3), (51, .ifCond .ne 18, 69, 0)], 54),
  (54, [(54, .aload_n 0, 0, 0), (55, .iload_n 1, 0, 0), (56, .invokevirtual 105, 165, 2), (59, .ifCond .ne 10, 69, 0)], 62),
  (62, [(62, .aload_n 0, 0, 0), (63, .iload_n 2, 0, 0), (64, .putfield 108, 13, 10), (67, .iconst 1, 1, 0), (68, .ireturn, 0, 0)], 69),
  (69, [(69, .iconst 0, 0, 0), (70, .istore_n 3, 0, 0)], 71),
  (71, [(71, .iload_n 3, 0, 0), (72, .aload_n 0, 0, 0), (73, .iconst 2, 2, 0), (74, .invokevirtual 79, 162, 2), (77, .if_icmp .ge 104, 181, 0)], 80),
  (80, [(80, .aload_n 0, 0, 0), (81, .iconst 2, 2, 0), (82, .iload_n 3, 0, 0), (83, .iconst 0, 0, 0), (84, .invokevirtual 82, 163, 4), (87, .iload_n 1, 0, 0), (88, .if_icmp .ne 87, 175, 0)], 91),
  (91, [(91, .aload_n 0, 0, 0), (92, .getfield 98, 9, 10), (95, .i2l, 0, 0), (96, .aload_n 0, 0, 0), (97, .iconst 2, 2, 0), (98, .iload_n 3, 0, 0), (99, .iconst 2, 2, 0), (100, .invokevirtual 82, 163, 4), (103, .i2l, 0, 0), (104, .aload_n 0, 0, 0), (105, .iconst 2, 2, 0), (106, .iload_n 3, 0, 0), (107, .iconst 3, 3, 0), (108, .invokevirtual 82, 163, 4), (111, .i2l, 0, 0), (112, .invokestatic 57, 148, 3), (115, .ifCond .eq 60, 175, 0)], 118),
  (118, [(118, .aload_n 0, 0, 0), (119, .getfield 89, 10, 10), (122, .aload_n 0, 0, 0), (123, .iconst 2, 2, 0), (124, .iload_n 3, 0, 0), (125, .iconst 1, 1, 0), (126, .invokevirtual 82, 163, 4), (129, .invokestatic 111, 149, 2), (132, .ifCond .eq 6, 138, 0)], 135),
  (135, [(135, .goto 40, 175, 0)], 138),
  (138, [(138, .aload_n 0, 0, 0), (139, .iconst 2, 2, 0), (140, .iload_n 3, 0, 0), (141, .iconst 4, 4, 0), (142, .invokevirtual 82, 163, 4), (145, .istore 4, 0, 0), (147, .aload_n 0, 0, 0), (148, .aload_n 0, 0, 0), (149, .iconst 2, 2, 0), (150, .iload_n 3, 0, 0), (151, .iconst 1, 1, 0), (152, .invokevirtual 82, 163, 4), (155, .iload 4, 0, 0), (157, .iload_n 2, 0, 0), (158, .if_icmp .ge 8, 166, 0)], 161),
  (161, [(161, .iload 4, 0, 0), (163, .goto 4, 167, 0)], 166),
  (166, [(166, .iload_n 2, 0, 0)], 167),
  (167, [(167, .invokevirtual 114, 167, 3), (170, .ifCond .eq 5, 175, 0)], 173),
  (173, [(173, .iconst 1, 1, 0), (174, .ireturn, 0, 0)], 175),
  (175, [(175, .iinc 3 1, 1, 0), (178, .goto (-107), 71, 0)], 181),
  (181, [(181, .aload_n 0, 0, 0), (182, .dup, 0, 0), (183, .getfield 95, 12, 10), (186, .iconst 1, 1, 0), (187, .isub, 0, 0), (188, .putfield 95, 12, 10), (191, .iconst 0, 0, 0), (192, .ireturn, 0, 0)], 193)]
theorem t_Mod_asks : z_chkM 167 b_Mod_asks = true := by decide +kernel
def b_Mod_decider : List BK := [(0, [(0, .aload_n 0, 0, 0), (1, .iload_n 2, 0, 0), (2, .putfield 98, 9, 10), (5, .aload_n 0, 0, 0), (6, .iconst 0, 0, 0), (7, .putfield 89, 10, 10), (10, .aload_n 0, 0, 0), (11, .iconst 0, 0, 0), (12, .putfield 95, 12, 10), (15, .aload_n 0, 0, 0), (16, .iload_n 1, 0, 0), (17, .iload_n 2, 0, 0), (18, .invokevirtual 117, 166, 3), (21, .istore 4, 0, 0), (23, .iload 4, 0, 0), (25, .iconst (-1), 1, 1), (26, .if_icmp .ne 10, 36, 0)], 29),
  (29, [(29, .aload_n 0, 0, 0), (30, .iconst 2, 2, 0), (31, .putfield 121, 14, 10), (34, .iconst (-1), 1, 1), (35, .ireturn, 0, 0)], 36),
  (36, [(36, .aload_n 0, 0, 0), (37, .iload 4, 0, 0), (39, .aload_n 0, 0, 0), (40, .iload_n 1, 0, 0), (41, .iload_n 3, 0, 0), (42, .invokevirtual 124, 158, 3), (45, .invokevirtual 114, 167, 3), (48, .ifCond .eq 15, 63, 0)], 51),
  (51, [(51, .aload_n 0, 0, 0), (52, .getfield 30, 11, 10), (55, .aload_n 0, 0, 0), (56, .getfield 95, 12, 10), (59, .iconst 1, 1, 0), (60, .isub, 0, 0), (61, .iaload, 0, 0), (62, .ireturn, 0, 0)], 63),
  (63, [(63, .aload_n 0, 0, 0), (64, .iload 4, 0, 0), (66, .aload_n 0, 0, 0), (67, .getfield 92, 7, 10), (70, .if_icmp .ne 7, 77, 0)], 73),
  (73, [(73, .iconst 4, 4, 0), (74, .goto 18, 92, 0)], 77),
  (77, [(77, .aload_n 0, 0, 0), (78, .iload 4, 0, 0), (80, .iload_n 2, 0, 0), (81, .invokevirtual 101, 164, 3), (84, .ifCond .eq 7, 91, 0)], 87),
  (87, [(87, .iconst 3, 3, 0), (88, .goto 4, 92, 0)], 91),
  (91, [(91, .iconst 5, 5, 0)], 92),
  (92, [(92, .putfield 121, 14, 10), (95, .iconst (-1), 1, 1), (96, .ireturn, 0, 0)], 97)]
theorem t_Mod_decider : z_chkM 168 b_Mod_decider = true := by decide +kernel
def b_Mod_asksFor : List BK := [(0, [(0, .aload_n 0, 0, 0), (1, .iload_n 1, 0, 0), (2, .putfield 92, 7, 10), (5, .aload_n 0, 0, 0), (6, .iload_n 2, 0, 0), (7, .putfield 86, 8, 10), (10, .return_, 0, 0)], 11)]
theorem t_Mod_asksFor : z_chkM 169 b_Mod_asksFor = true := by decide +kernel
def b_Mod_joinedTo : List BK := [(0, [(0, .lconst 1, 0, 0), (1, .iload_n 1, 0, 0), (2, .lshl, 0, 0), (3, .lstore_n 2, 0, 0), (4, .iconst 1, 1, 0), (5, .istore 4, 0, 0)], 7),
  (7, [(7, .iload 4, 0, 0), (9, .ifCond .eq 69, 78, 0)], 12),
  (12, [(12, .iconst 0, 0, 0), (13, .istore 4, 0, 0), (15, .iconst 0, 0, 0), (16, .istore 5, 0, 0)], 18),
  (18, [(18, .iload 5, 0, 0), (20, .iload_n 1, 0, 0), (21, .if_icmp .ge 54, 75, 0)], 24),
  (24, [(24, .lload_n 2, 0, 0), (25, .iload 5, 0, 0), (27, .lshr, 0, 0), (28, .lconst 1, 0, 0), (29, .land, 0, 0), (30, .lconst 1, 0, 0), (31, .lcmp, 0, 0), (32, .ifCond .eq 37, 69, 0)], 35),
  (35, [(35, .aload_n 0, 0, 0), (36, .iload 5, 0, 0), (38, .iload_n 1, 0, 0), (39, .invokevirtual 127, 171, 3), (42, .ifCond .eq 27, 69, 0)], 45),
  (45, [(45, .aload_n 0, 0, 0), (46, .iload 5, 0, 0), (48, .iload_n 1, 0, 0), (49, .lload_n 2, 0, 0), (50, .invokevirtual 130, 172, 4), (53, .ifCond .ne 6, 59, 0)], 56),
  (56, [(56, .goto 13, 69, 0)], 59),
  (59, [(59, .lload_n 2, 0, 0), (60, .lconst 1, 0, 0), (61, .iload 5, 0, 0), (63, .lshl, 0, 0), (64, .lor, 0, 0), (65, .lstore_n 2, 0, 0), (66, .iconst 1, 1, 0), (67, .istore 4, 0, 0)], 69),
  (69, [(69, .iinc 5 1, 1, 0), (72, .goto (-54), 18, 0)], 75),
  (75, [(75, .goto (-68), 7, 0)], 78),
  (78, [(78, .lload_n 2, 0, 0), (79, .lconst 1, 0, 0), (80, .iload_n 1, 0, 0), (81, .lshl, 0, 0), (82, .lxor, 0, 0), (83, .lreturn, 0, 0)], 84)]
theorem t_Mod_joinedTo : z_chkM 170 b_Mod_joinedTo = true := by decide +kernel
def b_Mod_mayJoin : List BK := [(0, [(0, .aload_n 0, 0, 0), (1, .iload_n 1, 0, 0), (2, .iconst 0, 0, 0), (3, .invokevirtual 134, 159, 3), (6, .aload_n 0, 0, 0), (7, .iload_n 2, 0, 0), (8, .iconst 0, 0, 0), (9, .invokevirtual 134, 159, 3), (12, .if_icmp .ne 37, 49, 0)], 15),
  (15, [(15, .aload_n 0, 0, 0), (16, .iload_n 1, 0, 0), (17, .iconst 2, 2, 0), (18, .invokevirtual 134, 159, 3), (21, .aload_n 0, 0, 0), (22, .iload_n 2, 0, 0), (23, .iconst 2, 2, 0), (24, .invokevirtual 134, 159, 3), (27, .if_icmp .ne 22, 49, 0)], 30),
  (30, [(30, .aload_n 0, 0, 0), (31, .iload_n 1, 0, 0), (32, .iconst 3, 3, 0), (33, .invokevirtual 134, 159, 3), (36, .aload_n 0, 0, 0), (37, .iload_n 2, 0, 0), (38, .iconst 3, 3, 0), (39, .invokevirtual 134, 159, 3), (42, .if_icmp .ne 7, 49, 0)], 45),
  (45, [(45, .iconst 1, 1, 0), (46, .goto 4, 50, 0)], 49),
  (49, [(49, .iconst 0, 0, 0)], 50),
  (50, [(50, .istore_n 3, 0, 0), (51, .iload_n 3, 0, 0), (52, .ifCond .eq 35, 87, 0)], 55),
  (55, [(55, .aload_n 0, 0, 0), (56, .iload_n 1, 0, 0), (57, .bipush 6, 6, 0), (59, .invokevirtual 134, 159, 3), (62, .bipush (-2), 2, 1), (64, .if_icmp .eq 19, 83, 0)], 67),
  (67, [(67, .aload_n 0, 0, 0), (68, .iload_n 1, 0, 0), (69, .bipush 6, 6, 0), (71, .invokevirtual 134, 159, 3), (74, .aload_n 0, 0, 0), (75, .iload_n 2, 0, 0), (76, .iconst 5, 5, 0), (77, .invokevirtual 134, 159, 3), (80, .if_icmp .le 7, 87, 0)], 83),
  (83, [(83, .iconst 1, 1, 0), (84, .goto 4, 88, 0)], 87),
  (87, [(87, .iconst 0, 0, 0)], 88),
  (88, [(88, .ireturn, 0, 0)], 89)]
theorem t_Mod_mayJoin : z_chkM 171 b_Mod_mayJoin = true := by decide +kernel
def b_Mod_isNear : List BK := [(0, [(0, .iconst 0, 0, 0), (1, .istore 5, 0, 0)], 3),
  (3, [(3, .iload 5, 0, 0), (5, .iload_n 2, 0, 0), (6, .if_icmp .gt 65, 71, 0)], 9),
  (9, [(9, .lload_n 3, 0, 0), (10, .iload 5, 0, 0), (12, .lshr, 0, 0), (13, .lconst 1, 0, 0), (14, .land, 0, 0), (15, .lconst 1, 0, 0), (16, .lcmp, 0, 0), (17, .ifCond .ne 48, 65, 0)], 20),
  (20, [(20, .aload_n 0, 0, 0), (21, .iload_n 1, 0, 0), (22, .iconst 5, 5, 0), (23, .invokevirtual 134, 159, 3), (26, .i2l, 0, 0), (27, .aload_n 0, 0, 0), (28, .iload 5, 0, 0), (30, .iconst 5, 5, 0), (31, .invokevirtual 134, 159, 3), (34, .aload_n 0, 0, 0), (35, .getfield 7, 0, 10), (38, .iconst 5, 5, 0), (39, .iaload, 0, 0), (40, .isub, 0, 0), (41, .i2l, 0, 0), (42, .aload_n 0, 0, 0), (43, .iload 5, 0, 0), (45, .iconst 5, 5, 0), (46, .invokevirtual 134, 159, 3), (49, .aload_n 0, 0, 0), (50, .getfield 7, 0, 10), (53, .iconst 5, 5, 0), (54, .iaload, 0, 0), (55, .iadd, 0, 0), (56, .i2l, 0, 0), (57, .invokestatic 57, 148, 3), (60, .ifCond .eq 5, 65, 0)], 63),
  (63, [(63, .iconst 1, 1, 0), (64, .ireturn, 0, 0)], 65),
  (65, [(65, .iinc 5 1, 1, 0), (68, .goto (-65), 3, 0)], 71),
  (71, [(71, .iconst 0, 0, 0), (72, .ireturn, 0, 0)], 73)]
theorem t_Mod_isNear : z_chkM 172 b_Mod_isNear = true := by decide +kernel
def b_Mod_bits : List BK := [(0, [(0, .iconst 0, 0, 0), (1, .istore_n 2, 0, 0), (2, .lload_n 0, 0, 0), (3, .lstore_n 3, 0, 0)], 4),
  (4, [(4, .lload_n 3, 0, 0), (5, .lconst 0, 0, 0), (6, .lcmp, 0, 0), (7, .ifCond .eq 15, 22, 0)], 10),
  (10, [(10, .iinc 2 1, 1, 0), (13, .lload_n 3, 0, 0), (14, .lload_n 3, 0, 0), (15, .lconst 1, 0, 0), (16, .lsub, 0, 0), (17, .land, 0, 0), (18, .lstore_n 3, 0, 0), (19, .goto (-15), 4, 0)], 22),
  (22, [(22, .iload_n 2, 0, 0), (23, .ireturn, 0, 0)], 24)]
theorem t_Mod_bits : z_chkM 173 b_Mod_bits = true := by decide +kernel
def b_Mod_wholeOf : List BK := [(0, [(0, .aload_n 0, 0, 0), (1, .iload_n 1, 0, 0), (2, .invokevirtual 137, 170, 2), (5, .lstore_n 2, 0, 0), (6, .aload_n 0, 0, 0), (7, .iload_n 1, 0, 0), (8, .iconst 4, 4, 0), (9, .invokevirtual 134, 159, 3), (12, .istore 4, 0, 0), (14, .iconst 0, 0, 0), (15, .istore 5, 0, 0)], 17),
  (17, [(17, .iload 5, 0, 0), (19, .iload_n 1, 0, 0), (20, .if_icmp .ge 36, 56, 0)], 23),
  (23, [(23, .iload 4, 0, 0), (25, .lload_n 2, 0, 0), (26, .iload 5, 0, 0), (28, .lshr, 0, 0), (29, .lconst 1, 0, 0), (30, .land, 0, 0), (31, .lconst 1, 0, 0), (32, .lcmp, 0, 0), (33, .ifCond .ne 13, 46, 0)], 36),
  (36, [(36, .aload_n 0, 0, 0), (37, .iload 5, 0, 0), (39, .iconst 4, 4, 0), (40, .invokevirtual 134, 159, 3), (43, .goto 4, 47, 0)], 46),
  (46, [(46, .iconst 0, 0, 0)], 47),
  (47, [(47, .iadd, 0, 0), (48, .istore 4, 0, 0), (50, .iinc 5 1, 1, 0), (53, .goto (-36), 17, 0)], 56),
  (56, [(56, .iload 4, 0, 0), (58, .ireturn, 0, 0)], 59)]
theorem t_Mod_wholeOf : z_chkM 174 b_Mod_wholeOf = true := by decide +kernel
def b_Mod_puts : List BK := [(0, [(0, .bipush 6, 6, 0), (2, .aload_n 0, 0, 0), (3, .getfield 141, 17, 10), (6, .imul, 0, 0), (7, .istore 5, 0, 0), (9, .aload_n 0, 0, 0), (10, .getfield 33, 15, 10), (13, .iload 5, 0, 0), (15, .iload_n 1, 0, 0), (16, .iastore, 0, 0), (17, .aload_n 0, 0, 0), (18, .getfield 33, 15, 10), (21, .iload 5, 0, 0), (23, .iconst 1, 1, 0), (24, .iadd, 0, 0), (25, .iload_n 2, 0, 0), (26, .iastore, 0, 0), (27, .aload_n 0, 0, 0), (28, .getfield 33, 15, 10), (31, .iload 5, 0, 0), (33, .iconst 2, 2, 0), (34, .iadd, 0, 0), (35, .iload_n 3, 0, 0), (36, .iconst (-1), 1, 1), (37, .if_icmp .ne 8, 45, 0)], 40),
  (40, [(40, .bipush (-2), 2, 1), (42, .goto 4, 46, 0)], 45),
  (45, [(45, .iload_n 3, 0, 0)], 46),
  (46, [(46, .iastore, 0, 0), (47, .aload_n 0, 0, 0), (48, .getfield 33, 15, 10), (51, .iload 5, 0, 0), (53, .iconst 3, 3, 0), (54, .iadd, 0, 0), (55, .iload_n 3, 0, 0), (56, .iconst (-1), 1, 1), (57, .if_icmp .ne 8, 65, 0)], 60),
  (60, [(60, .bipush (-2), 2, 1), (62, .goto 7, 69, 0)], 65),
  (65, [(65, .aload_n 0, 0, 0), (66, .getfield 108, 13, 10)], 69),
  (69, [(69, .iastore, 0, 0), (70, .aload_n 0, 0, 0), (71, .getfield 33, 15, 10), (74, .iload 5, 0, 0), (76, .iconst 4, 4, 0), (77, .iadd, 0, 0), (78, .iload 4, 0, 0), (80, .iastore, 0, 0), (81, .aload_n 0, 0, 0), (82, .getfield 33, 15, 10), (85, .iload 5, 0, 0), (87, .iconst 5, 5, 0), (88, .iadd, 0, 0), (89, .iload_n 3, 0, 0), (90, .iconst (-1), 1, 1), (91, .if_icmp .ne 8, 99, 0)], 94),
  (94, [(94, .bipush (-2), 2, 1), (96, .goto 9, 105, 0)], 99),
  (99, [(99, .aload_n 0, 0, 0), (100, .getfield 95, 12, 10), (103, .iconst 1, 1, 0), (104, .isub, 0, 0)], 105),
  (105, [(105, .iastore, 0, 0), (106, .iconst 0, 0, 0), (107, .istore 6, 0, 0)], 109),
  (109, [(109, .iload 6, 0, 0), (111, .aload_n 0, 0, 0), (112, .getfield 95, 12, 10), (115, .if_icmp .ge 36, 151, 0)], 118),
  (118, [(118, .iload_n 3, 0, 0), (119, .iconst (-1), 1, 1), (120, .if_icmp .eq 31, 151, 0)], 123),
  (123, [(123, .aload_n 0, 0, 0), (124, .getfield 36, 16, 10), (127, .bipush 16, 16, 0), (129, .aload_n 0, 0, 0), (130, .getfield 141, 17, 10), (133, .imul, 0, 0), (134, .iload 6, 0, 0), (136, .iadd, 0, 0), (137, .aload_n 0, 0, 0), (138, .getfield 30, 11, 10), (141, .iload 6, 0, 0), (143, .iaload, 0, 0), (144, .iastore, 0, 0), (145, .iinc 6 1, 1, 0), (148, .goto (-39), 109, 0)], 151),
  (151, [(151, .aload_n 0, 0, 0), (152, .dup, 0, 0), (153, .getfield 141, 17, 10), (156, .iconst 1, 1, 0), (157, .iadd, 0, 0), (158, .putfield 141, 17, 10), (161, .return_, 0, 0)], 162)]
theorem t_Mod_puts : z_chkM 175 b_Mod_puts = true := by decide +kernel
def b_Mod_climbs : List BK := [(0, [(0, .iload_n 2, 0, 0), (1, .aload_n 0, 0, 0), (2, .getfield 7, 0, 10), (5, .bipush 7, 7, 0), (7, .iaload, 0, 0), (8, .iadd, 0, 0), (9, .sipush 999, 999, 0), (12, .if_icmp .ge 15, 27, 0)], 15),
  (15, [(15, .iload_n 2, 0, 0), (16, .aload_n 0, 0, 0), (17, .getfield 7, 0, 10), (20, .bipush 7, 7, 0), (22, .iaload, 0, 0), (23, .iadd, 0, 0), (24, .goto 6, 30, 0)], 27),
  (27, [(27, .sipush 999, 999, 0)], 30),
  (30, [(30, .istore 5, 0, 0), (32, .iconst 0, 0, 0), (33, .istore 6, 0, 0), (35, .iload_n 2, 0, 0), (36, .istore 7, 0, 0)], 38),
  (38, [(38, .iload 7, 0, 0), (40, .iload 5, 0, 0), (42, .if_icmp .gt 82, 124, 0)], 45),
  (45, [(45, .aload_n 0, 0, 0), (46, .iload_n 1, 0, 0), (47, .iload 7, 0, 0), (49, .iload_n 3, 0, 0), (50, .invokevirtual 144, 168, 4), (53, .istore 8, 0, 0), (55, .iload 7, 0, 0), (57, .iload_n 2, 0, 0), (58, .if_icmp .ne 9, 67, 0)], 61),
  (61, [(61, .aload_n 0, 0, 0), (62, .getfield 121, 14, 10), (65, .istore 6, 0, 0)], 67),
  (67, [(67, .iload 8, 0, 0), (69, .iconst (-1), 1, 1), (70, .if_icmp .ne 6, 76, 0)], 73),
  (73, [(73, .goto 45, 118, 0)], 76),
  (76, [(76, .aload_n 0, 0, 0), (77, .aload_n 0, 0, 0), (78, .getfield 108, 13, 10), (81, .iload 4, 0, 0), (83, .if_icmp .lt 7, 90, 0)], 86),
  (86, [(86, .iconst 1, 1, 0), (87, .goto 4, 91, 0)], 90),
  (90, [(90, .iconst 0, 0, 0)], 91),
  (91, [(91, .putfield 147, 18, 10), (94, .aload_n 0, 0, 0), (95, .iload_n 1, 0, 0), (96, .iload 7, 0, 0), (98, .iload 8, 0, 0), (100, .aload_n 0, 0, 0), (101, .getfield 147, 18, 10), (104, .ifCond .eq 7, 111, 0)], 107),
  (107, [(107, .iconst 0, 0, 0), (108, .goto 4, 112, 0)], 111),
  (111, [(111, .iconst 1, 1, 0)], 112),
  (112, [(112, .invokevirtual 151, 175, 5), (115, .iload 7, 0, 0), (117, .ireturn, 0, 0)], 118),
  (118, [(118, .iinc 7 1, 1, 0), (121, .goto (-83), 38, 0)], 124),
  (124, [(124, .aload_n 0, 0, 0), (125, .iload_n 1, 0, 0), (126, .iload 5, 0, 0), (128, .iconst (-1), 1, 1), (129, .iload 6, 0, 0), (131, .invokevirtual 151, 175, 5), (134, .iload 5, 0, 0), (136, .ireturn, 0, 0)], 137)]
theorem t_Mod_climbs : z_chkM 176 b_Mod_climbs = true := by decide +kernel
def b_Mod_routesBy : List BK := [(0, [(0, .aload_n 0, 0, 0), (1, .aload_n 0, 0, 0), (2, .iload_n 1, 0, 0), (3, .iconst 0, 0, 0), (4, .invokevirtual 134, 159, 3), (7, .aload_n 0, 0, 0), (8, .iload_n 1, 0, 0), (9, .iconst 2, 2, 0), (10, .invokevirtual 134, 159, 3), (13, .invokevirtual 155, 169, 3), (16, .aload_n 0, 0, 0), (17, .iconst 0, 0, 0), (18, .putfield 141, 17, 10), (21, .aload_n 0, 0, 0), (22, .iconst 0, 0, 0), (23, .putfield 147, 18, 10), (26, .aload_n 0, 0, 0), (27, .iload_n 1, 0, 0), (28, .iconst 1, 1, 0), (29, .invokevirtual 134, 159, 3), (32, .istore_n 3, 0, 0), (33, .aload_n 0, 0, 0), (34, .iload_n 1, 0, 0), (35, .iconst 5, 5, 0), (36, .invokevirtual 134, 159, 3), (39, .istore 4, 0, 0)], 41),
  (41, [(41, .iload_n 3, 0, 0), (42, .iconst (-1), 1, 1), (43, .if_icmp .eq 51, 94, 0)], 46),
  (46, [(46, .iload 4, 0, 0), (48, .sipush 999, 999, 0), (51, .if_icmp .gt 43, 94, 0)], 54),
  (54, [(54, .aload_n 0, 0, 0), (55, .getfield 147, 18, 10), (58, .ifCond .ne 36, 94, 0)], 61),
  (61, [(61, .aload_n 0, 0, 0), (62, .iload_n 3, 0, 0), (63, .iload 4, 0, 0), (65, .aload_n 0, 0, 0), (66, .iload_n 1, 0, 0), (67, .iconst 3, 3, 0), (68, .invokevirtual 134, 159, 3), (71, .iload_n 2, 0, 0), (72, .invokevirtual 159, 176, 5), (75, .aload_n 0, 0, 0), (76, .getfield 7, 0, 10), (79, .bipush 6, 6, 0), (81, .iaload, 0, 0), (82, .iadd, 0, 0), (83, .istore 4, 0, 0), (85, .aload_n 0, 0, 0), (86, .iload_n 3, 0, 0), (87, .invokevirtual 163, 157, 2), (90, .istore_n 3, 0, 0), (91, .goto (-50), 41, 0)], 94),
  (94, [(94, .return_, 0, 0)], 95)]
theorem t_Mod_routesBy : z_chkM 177 b_Mod_routesBy = true := by decide +kernel
def b_Mod_routes : List BK := [(0, [(0, .aload_n 0, 0, 0), (1, .iload_n 1, 0, 0), (2, .aload_n 0, 0, 0), (3, .iload_n 1, 0, 0), (4, .invokevirtual 166, 174, 2), (7, .invokevirtual 169, 177, 3), (10, .return_, 0, 0)], 11)]
theorem t_Mod_routes : z_chkM 178 b_Mod_routes = true := by decide +kernel
def b_Mod_last : List BK := [(0, [(0, .aload_n 0, 0, 0), (1, .getfield 33, 15, 10), (4, .bipush 6, 6, 0), (6, .aload_n 0, 0, 0), (7, .getfield 141, 17, 10), (10, .iconst 1, 1, 0), (11, .isub, 0, 0), (12, .imul, 0, 0), (13, .iload_n 1, 0, 0), (14, .iadd, 0, 0), (15, .iaload, 0, 0), (16, .ireturn, 0, 0)], 17)]
theorem t_Mod_last : z_chkM 179 b_Mod_last = true := by decide +kernel
def b_Mod_isRecalled : List BK := [(0, [(0, .aload_n 0, 0, 0), (1, .iload_n 1, 0, 0), (2, .bipush 6, 6, 0), (4, .invokevirtual 134, 159, 3), (7, .bipush (-2), 2, 1), (9, .if_icmp .eq 7, 16, 0)], 12),
  (12, [(12, .iconst 1, 1, 0), (13, .goto 4, 17, 0)], 16),
  (16, [(16, .iconst 0, 0, 0)], 17),
  (17, [(17, .ireturn, 0, 0)], 18)]
theorem t_Mod_isRecalled : z_chkM 180 b_Mod_isRecalled = true := by decide +kernel
def b_Mod_aboveOf : List BK := [(0, [(0, .iconst 0, 0, 0), (1, .istore_n 2, 0, 0), (2, .aload_n 0, 0, 0), (3, .iload_n 1, 0, 0), (4, .invokevirtual 163, 157, 2), (7, .istore_n 3, 0, 0)], 8),
  (8, [(8, .iload_n 3, 0, 0), (9, .iconst (-1), 1, 1), (10, .if_icmp .eq 15, 25, 0)], 13),
  (13, [(13, .iinc 2 1, 1, 0), (16, .aload_n 0, 0, 0), (17, .iload_n 3, 0, 0), (18, .invokevirtual 163, 157, 2), (21, .istore_n 3, 0, 0), (22, .goto (-14), 8, 0)], 25),
  (25, [(25, .iload_n 2, 0, 0), (26, .ireturn, 0, 0)], 27)]
theorem t_Mod_aboveOf : z_chkM 181 b_Mod_aboveOf = true := by decide +kernel
def b_Mod_belowOf : List BK := [(0, [(0, .iconst 0, 0, 0), (1, .istore_n 2, 0, 0), (2, .iconst 0, 0, 0), (3, .istore_n 3, 0, 0)], 4),
  (4, [(4, .iload_n 3, 0, 0), (5, .aload_n 0, 0, 0), (6, .invokevirtual 53, 150, 1), (9, .if_icmp .ge 26, 35, 0)], 12),
  (12, [(12, .iload_n 2, 0, 0), (13, .aload_n 0, 0, 0), (14, .iload_n 3, 0, 0), (15, .invokevirtual 163, 157, 2), (18, .iload_n 1, 0, 0), (19, .if_icmp .ne 7, 26, 0)], 22),
  (22, [(22, .iconst 1, 1, 0), (23, .goto 4, 27, 0)], 26),
  (26, [(26, .iconst 0, 0, 0)], 27),
  (27, [(27, .iadd, 0, 0), (28, .istore_n 2, 0, 0), (29, .iinc 3 1, 1, 0), (32, .goto (-28), 4, 0)], 35),
  (35, [(35, .iload_n 2, 0, 0), (36, .ireturn, 0, 0)], 37)]
theorem t_Mod_belowOf : z_chkM 182 b_Mod_belowOf = true := by decide +kernel
def b_Mod_post : List BK := [(0, [(0, .aload_n 0, 0, 0), (1, .iload_n 1, 0, 0), (2, .invokevirtual 172, 152, 2), (5, .ifCond .ne 5, 10, 0)], 8),
  (8, [(8, .iconst (-1), 1, 1), (9, .ireturn, 0, 0)], 10),
  (10, [(10, .iload_n 2, 0, 0), (11, .tableswitch 78 0 5 #[37, 57, 57, 57, 66, 72], 0, 0)], 48),
  (48, [(48, .aload_n 0, 0, 0), (49, .iload_n 1, 0, 0), (50, .invokevirtual 163, 157, 2), (53, .iconst (-1), 1, 1), (54, .if_icmp .ne 8, 62, 0)], 57),
  (57, [(57, .bipush (-2), 2, 1), (59, .goto 8, 67, 0)], 62),
  (62, [(62, .aload_n 0, 0, 0), (63, .iload_n 1, 0, 0), (64, .invokevirtual 163, 157, 2)], 67),
  (67, [(67, .ireturn, 0, 0)], 68),
  (68, [(68, .aload_n 0, 0, 0), (69, .iload_n 1, 0, 0), (70, .iload_n 2, 0, 0), (71, .iconst 1, 1, 0), (72, .isub, 0, 0), (73, .invokevirtual 124, 158, 3), (76, .ireturn, 0, 0)], 77),
  (77, [(77, .aload_n 0, 0, 0), (78, .iload_n 1, 0, 0), (79, .invokevirtual 175, 181, 2), (82, .ireturn, 0, 0)], 83),
  (83, [(83, .aload_n 0, 0, 0), (84, .iload_n 1, 0, 0), (85, .invokevirtual 178, 182, 2), (88, .ireturn, 0, 0)], 89),
  (89, [(89, .iconst (-1), 1, 1), (90, .ireturn, 0, 0)], 91)]
theorem t_Mod_post : z_chkM 183 b_Mod_post = true := by decide +kernel
def b_Mod_isEntry : List BK := [(0, [(0, .iload_n 1, 0, 0), (1, .i2l, 0, 0), (2, .lconst 0, 0, 0), (3, .ldc2_w 181, 3, 2), (6, .invokestatic 57, 148, 3), (9, .ifCond .eq 24, 33, 0)], 12),
  (12, [(12, .iload_n 2, 0, 0), (13, .i2l, 0, 0), (14, .lconst 0, 0, 0), (15, .aload_n 0, 0, 0), (16, .iload_n 1, 0, 0), (17, .invokevirtual 79, 162, 2), (20, .iconst 1, 1, 0), (21, .isub, 0, 0), (22, .i2l, 0, 0), (23, .invokestatic 57, 148, 3), (26, .ifCond .eq 7, 33, 0)], 29),
  (29, [(29, .iconst 1, 1, 0), (30, .goto 4, 34, 0)], 33),
  (33, [(33, .iconst 0, 0, 0)], 34),
  (34, [(34, .ireturn, 0, 0)], 35)]
theorem t_Mod_isEntry : z_chkM 184 b_Mod_isEntry = true := by decide +kernel
def b_Mod_entry : List BK := [(0, [(0, .aload_n 0, 0, 0), (1, .iload_n 1, 0, 0), (2, .iload_n 2, 0, 0), (3, .invokevirtual 183, 184, 3), (6, .ifCond .eq 29, 35, 0)], 9),
  (9, [(9, .iload_n 3, 0, 0), (10, .i2l, 0, 0), (11, .lconst 0, 0, 0), (12, .iload_n 1, 0, 0), (13, .invokestatic 76, 160, 1), (16, .iconst 1, 1, 0), (17, .isub, 0, 0), (18, .i2l, 0, 0), (19, .invokestatic 57, 148, 3), (22, .ifCond .eq 13, 35, 0)], 25),
  (25, [(25, .aload_n 0, 0, 0), (26, .iload_n 1, 0, 0), (27, .iload_n 2, 0, 0), (28, .iload_n 3, 0, 0), (29, .invokevirtual 82, 163, 4), (32, .goto 4, 36, 0)], 35),
  (35, [(35, .iconst (-1), 1, 1)], 36),
  (36, [(36, .ireturn, 0, 0)], 37)]
theorem t_Mod_entry : z_chkM 185 b_Mod_entry = true := by decide +kernel
def b_Mod_asked : List BK := [(0, [(0, .aload_n 0, 0, 0), (1, .iload_n 1, 0, 0), (2, .invokevirtual 186, 153, 2), (5, .ifCond .ne 5, 10, 0)], 8),
  (8, [(8, .iconst (-1), 1, 1), (9, .ireturn, 0, 0)], 10),
  (10, [(10, .iload_n 2, 0, 0), (11, .tableswitch 71 0 8 #[49, 49, 49, 49, 49, 49, 49, 56, 62], 0, 0)], 60),
  (60, [(60, .aload_n 0, 0, 0), (61, .iload_n 1, 0, 0), (62, .iload_n 2, 0, 0), (63, .invokevirtual 134, 159, 3), (66, .ireturn, 0, 0)], 67),
  (67, [(67, .aload_n 0, 0, 0), (68, .iload_n 1, 0, 0), (69, .invokevirtual 166, 174, 2), (72, .ireturn, 0, 0)], 73),
  (73, [(73, .aload_n 0, 0, 0), (74, .iload_n 1, 0, 0), (75, .invokevirtual 137, 170, 2), (78, .invokestatic 189, 173, 1), (81, .ireturn, 0, 0)], 82),
  (82, [(82, .iconst (-1), 1, 1), (83, .ireturn, 0, 0)], 84)]
theorem t_Mod_asked : z_chkM 186 b_Mod_asked = true := by decide +kernel
def b_Mod_joined : List BK := [(0, [(0, .aload_n 0, 0, 0), (1, .iload_n 1, 0, 0), (2, .invokevirtual 186, 153, 2), (5, .ifCond .eq 11, 16, 0)], 8),
  (8, [(8, .aload_n 0, 0, 0), (9, .iload_n 1, 0, 0), (10, .invokevirtual 137, 170, 2), (13, .goto 6, 19, 0)], 16),
  (16, [(16, .ldc2_w 193, 1, 3)], 19),
  (19, [(19, .lreturn, 0, 0)], 20)]
theorem t_Mod_joined : z_chkM 187 b_Mod_joined = true := by decide +kernel
def b_Mod_step : List BK := [(0, [(0, .aload_n 0, 0, 0), (1, .iload_n 1, 0, 0), (2, .invokevirtual 186, 153, 2), (5, .ifCond .ne 5, 10, 0)], 8),
  (8, [(8, .iconst (-1), 1, 1), (9, .ireturn, 0, 0)], 10),
  (10, [(10, .aload_n 0, 0, 0), (11, .iload_n 1, 0, 0), (12, .invokevirtual 195, 178, 2), (15, .iload_n 2, 0, 0), (16, .iconst (-1), 1, 1), (17, .if_icmp .ne 12, 29, 0)], 20),
  (20, [(20, .iload_n 3, 0, 0), (21, .ifCond .ne 8, 29, 0)], 24),
  (24, [(24, .aload_n 0, 0, 0), (25, .getfield 141, 17, 10), (28, .ireturn, 0, 0)], 29),
  (29, [(29, .iload_n 2, 0, 0), (30, .i2l, 0, 0), (31, .lconst 0, 0, 0), (32, .aload_n 0, 0, 0), (33, .getfield 141, 17, 10), (36, .iconst 1, 1, 0), (37, .isub, 0, 0), (38, .i2l, 0, 0), (39, .invokestatic 57, 148, 3), (42, .ifCond .eq 29, 71, 0)], 45),
  (45, [(45, .iload_n 3, 0, 0), (46, .i2l, 0, 0), (47, .lconst 0, 0, 0), (48, .ldc2_w 199, 5, 2), (51, .invokestatic 57, 148, 3), (54, .ifCond .eq 17, 71, 0)], 57),
  (57, [(57, .aload_n 0, 0, 0), (58, .getfield 33, 15, 10), (61, .bipush 6, 6, 0), (63, .iload_n 2, 0, 0), (64, .imul, 0, 0), (65, .iload_n 3, 0, 0), (66, .iadd, 0, 0), (67, .iaload, 0, 0), (68, .goto 4, 72, 0)], 71),
  (71, [(71, .iconst (-1), 1, 1)], 72),
  (72, [(72, .ireturn, 0, 0)], 73)]
theorem t_Mod_step : z_chkM 188 b_Mod_step = true := by decide +kernel
def b_Mod_chain : List BK := [(0, [(0, .aload_n 0, 0, 0), (1, .iload_n 1, 0, 0), (2, .invokevirtual 186, 153, 2), (5, .ifCond .ne 5, 10, 0)], 8),
  (8, [(8, .iconst (-1), 1, 1), (9, .ireturn, 0, 0)], 10),
  (10, [(10, .aload_n 0, 0, 0), (11, .iload_n 1, 0, 0), (12, .invokevirtual 195, 178, 2), (15, .iload_n 2, 0, 0), (16, .i2l, 0, 0), (17, .lconst 0, 0, 0), (18, .aload_n 0, 0, 0), (19, .getfield 141, 17, 10), (22, .iconst 1, 1, 0), (23, .isub, 0, 0), (24, .i2l, 0, 0), (25, .invokestatic 57, 148, 3), (28, .ifCond .eq 7, 35, 0)], 31),
  (31, [(31, .iload_n 3, 0, 0), (32, .ifCond .ge 5, 37, 0)], 35),
  (35, [(35, .iconst (-1), 1, 1), (36, .ireturn, 0, 0)], 37),
  (37, [(37, .iload_n 3, 0, 0), (38, .aload_n 0, 0, 0), (39, .getfield 33, 15, 10), (42, .bipush 6, 6, 0), (44, .iload_n 2, 0, 0), (45, .imul, 0, 0), (46, .iconst 5, 5, 0), (47, .iadd, 0, 0), (48, .iaload, 0, 0), (49, .if_icmp .gt 17, 66, 0)], 52),
  (52, [(52, .aload_n 0, 0, 0), (53, .getfield 36, 16, 10), (56, .bipush 16, 16, 0), (58, .iload_n 2, 0, 0), (59, .imul, 0, 0), (60, .iload_n 3, 0, 0), (61, .iadd, 0, 0), (62, .iaload, 0, 0), (63, .goto 5, 68, 0)], 66),
  (66, [(66, .bipush (-2), 2, 1)], 68),
  (68, [(68, .ireturn, 0, 0)], 69)]
theorem t_Mod_chain : z_chkM 189 b_Mod_chain = true := by decide +kernel
def b_Mod_ends : List BK := [(0, [(0, .aload_n 0, 0, 0), (1, .iload_n 1, 0, 0), (2, .invokevirtual 186, 153, 2), (5, .ifCond .eq 15, 20, 0)], 8),
  (8, [(8, .iload_n 2, 0, 0), (9, .i2l, 0, 0), (10, .lconst 0, 0, 0), (11, .ldc2_w 181, 3, 2), (14, .invokestatic 57, 148, 3), (17, .ifCond .ne 5, 22, 0)], 20),
  (20, [(20, .iconst (-1), 1, 1), (21, .ireturn, 0, 0)], 22),
  (22, [(22, .aload_n 0, 0, 0), (23, .iload_n 1, 0, 0), (24, .invokevirtual 195, 178, 2), (27, .iload_n 2, 0, 0), (28, .iconst 3, 3, 0), (29, .if_icmp .ne 9, 38, 0)], 32),
  (32, [(32, .aload_n 0, 0, 0), (33, .iconst 0, 0, 0), (34, .invokevirtual 201, 179, 2), (37, .ireturn, 0, 0)], 38),
  (38, [(38, .aload_n 0, 0, 0), (39, .iload_n 1, 0, 0), (40, .invokevirtual 204, 180, 2), (43, .ifCond .eq 29, 72, 0)], 46),
  (46, [(46, .iload_n 2, 0, 0), (47, .ifCond .ne 7, 54, 0)], 50),
  (50, [(50, .iconst 3, 3, 0), (51, .goto 20, 71, 0)], 54),
  (54, [(54, .iload_n 2, 0, 0), (55, .iconst 1, 1, 0), (56, .if_icmp .ne 13, 69, 0)], 59),
  (59, [(59, .aload_n 0, 0, 0), (60, .iload_n 1, 0, 0), (61, .bipush 6, 6, 0), (63, .invokevirtual 134, 159, 3), (66, .goto 5, 71, 0)], 69),
  (69, [(69, .bipush (-2), 2, 1)], 71),
  (71, [(71, .ireturn, 0, 0)], 72),
  (72, [(72, .aload_n 0, 0, 0), (73, .iload_n 2, 0, 0), (74, .invokevirtual 207, 191, 2), (77, .ireturn, 0, 0)], 78)]
theorem t_Mod_ends : z_chkM 190 b_Mod_ends = true := by decide +kernel
def b_Mod_endBy : List BK := [(0, [(0, .iload_n 1, 0, 0), (1, .lookupswitch 46 #[(0, 27), (1, 40)], 0, 0)], 28),
  (28, [(28, .aload_n 0, 0, 0), (29, .getfield 147, 18, 10), (32, .ifCond .eq 7, 39, 0)], 35),
  (35, [(35, .iconst 1, 1, 0), (36, .goto 4, 40, 0)], 39),
  (39, [(39, .iconst 2, 2, 0)], 40),
  (40, [(40, .ireturn, 0, 0)], 41),
  (41, [(41, .aload_n 0, 0, 0), (42, .iconst 1, 1, 0), (43, .invokevirtual 201, 179, 2), (46, .ireturn, 0, 0)], 47),
  (47, [(47, .aload_n 0, 0, 0), (48, .getfield 147, 18, 10), (51, .ifCond .eq 11, 62, 0)], 54),
  (54, [(54, .aload_n 0, 0, 0), (55, .iconst 2, 2, 0), (56, .invokevirtual 201, 179, 2), (59, .goto 5, 64, 0)], 62),
  (62, [(62, .bipush (-2), 2, 1)], 64),
  (64, [(64, .ireturn, 0, 0)], 65)]
theorem t_Mod_endBy : z_chkM 191 b_Mod_endBy = true := by decide +kernel
def b_Mod_isWhich : List BK := [(0, [(0, .iload_n 0, 0, 0), (1, .i2l, 0, 0), (2, .lconst 0, 0, 0), (3, .ldc2_w 210, 29, 2), (6, .invokestatic 57, 148, 3), (9, .ireturn, 0, 0)], 10)]
theorem t_Mod_isWhich : z_chkM 192 b_Mod_isWhich = true := by decide +kernel
def b_Mod_decides : List BK := [(0, [(0, .aload_n 0, 0, 0), (1, .iload_n 1, 0, 0), (2, .invokevirtual 172, 152, 2), (5, .ifCond .eq 30, 35, 0)], 8),
  (8, [(8, .iload_n 2, 0, 0), (9, .invokestatic 68, 155, 1), (12, .ifCond .eq 23, 35, 0)], 15),
  (15, [(15, .iload_n 3, 0, 0), (16, .iconst (-1), 1, 1), (17, .if_icmp .eq 10, 27, 0)], 20),
  (20, [(20, .iload_n 3, 0, 0), (21, .invokestatic 212, 154, 1), (24, .ifCond .eq 11, 35, 0)], 27),
  (27, [(27, .iload 4, 0, 0), (29, .invokestatic 215, 192, 1), (32, .ifCond .ne 5, 37, 0)], 35),
  (35, [(35, .iconst (-1), 1, 1), (36, .ireturn, 0, 0)], 37),
  (37, [(37, .aload_n 0, 0, 0), (38, .iload_n 3, 0, 0), (39, .iload 4, 0, 0), (41, .bipush 10, 10, 0), (43, .irem, 0, 0), (44, .invokevirtual 155, 169, 3), (47, .aload_n 0, 0, 0), (48, .iload_n 1, 0, 0), (49, .iload_n 2, 0, 0), (50, .iload 4, 0, 0), (52, .bipush 10, 10, 0), (54, .idiv, 0, 0), (55, .invokevirtual 144, 168, 4), (58, .istore 5, 0, 0), (60, .iload 5, 0, 0), (62, .iconst (-1), 1, 1), (63, .if_icmp .ne 13, 76, 0)], 66),
  (66, [(66, .bipush (-2), 2, 1), (68, .aload_n 0, 0, 0), (69, .getfield 121, 14, 10), (72, .isub, 0, 0), (73, .goto 5, 78, 0)], 76),
  (76, [(76, .iload 5, 0, 0)], 78),
  (78, [(78, .ireturn, 0, 0)], 79)]
theorem t_Mod_decides : z_chkM 193 b_Mod_decides = true := by decide +kernel
def b_Mod_power : List BK := [(0, [(0, .iload_n 1, 0, 0), (1, .invokestatic 212, 154, 1), (4, .ifCond .eq 22, 26, 0)], 7),
  (7, [(7, .iload_n 2, 0, 0), (8, .invokestatic 68, 155, 1), (11, .ifCond .eq 15, 26, 0)], 14),
  (14, [(14, .iload_n 3, 0, 0), (15, .i2l, 0, 0), (16, .lconst 0, 0, 0), (17, .ldc2_w 218, 2, 2), (20, .invokestatic 57, 148, 3), (23, .ifCond .ne 5, 28, 0)], 26),
  (26, [(26, .iconst (-1), 1, 1), (27, .ireturn, 0, 0)], 28),
  (28, [(28, .aload_n 0, 0, 0), (29, .iconst (-1), 1, 1), (30, .iconst (-1), 1, 1), (31, .invokevirtual 155, 169, 3), (34, .bipush (-2), 2, 1), (36, .istore 4, 0, 0), (38, .iconst 0, 0, 0), (39, .istore 5, 0, 0)], 41),
  (41, [(41, .iload 5, 0, 0), (43, .aload_n 0, 0, 0), (44, .invokevirtual 53, 150, 1), (47, .if_icmp .ge 36, 83, 0)], 50),
  (50, [(50, .aload_n 0, 0, 0), (51, .iload 5, 0, 0), (53, .iload_n 2, 0, 0), (54, .iload_n 3, 0, 0), (55, .invokevirtual 144, 168, 4), (58, .iload_n 1, 0, 0), (59, .if_icmp .ne 18, 77, 0)], 62),
  (62, [(62, .aload_n 0, 0, 0), (63, .getfield 108, 13, 10), (66, .iload 4, 0, 0), (68, .if_icmp .le 9, 77, 0)], 71),
  (71, [(71, .aload_n 0, 0, 0), (72, .getfield 108, 13, 10), (75, .istore 4, 0, 0)], 77),
  (77, [(77, .iinc 5 1, 1, 0), (80, .goto (-39), 41, 0)], 83),
  (83, [(83, .iload 4, 0, 0), (85, .ireturn, 0, 0)], 86)]
theorem t_Mod_power : z_chkM 194 b_Mod_power = true := by decide +kernel
def b_Mod_behind : List BK := [(0, [(0, .iconst 0, 0, 0), (1, .istore_n 3, 0, 0), (2, .iconst 1, 1, 0), (3, .iload_n 1, 0, 0), (4, .ishl, 0, 0), (5, .istore 4, 0, 0)], 7),
  (7, [(7, .iload 4, 0, 0), (9, .ifCond .eq 98, 107, 0)], 12),
  (12, [(12, .iconst 0, 0, 0), (13, .istore 5, 0, 0), (15, .iconst 0, 0, 0), (16, .istore 6, 0, 0)], 18),
  (18, [(18, .iload 6, 0, 0), (20, .aload_n 0, 0, 0), (21, .iconst 2, 2, 0), (22, .invokevirtual 79, 162, 2), (25, .if_icmp .ge 66, 91, 0)], 28),
  (28, [(28, .iload 4, 0, 0), (30, .aload_n 0, 0, 0), (31, .iconst 2, 2, 0), (32, .iload 6, 0, 0), (34, .iconst 0, 0, 0), (35, .invokevirtual 82, 163, 4), (38, .invokestatic 111, 149, 2), (41, .ifCond .eq 44, 85, 0)], 44),
  (44, [(44, .iload_n 2, 0, 0), (45, .i2l, 0, 0), (46, .aload_n 0, 0, 0), (47, .iconst 2, 2, 0), (48, .iload 6, 0, 0), (50, .iconst 2, 2, 0), (51, .invokevirtual 82, 163, 4), (54, .i2l, 0, 0), (55, .aload_n 0, 0, 0), (56, .iconst 2, 2, 0), (57, .iload 6, 0, 0), (59, .iconst 3, 3, 0), (60, .invokevirtual 82, 163, 4), (63, .i2l, 0, 0), (64, .invokestatic 57, 148, 3), (67, .ifCond .eq 18, 85, 0)], 70),
  (70, [(70, .iload 5, 0, 0), (72, .iconst 1, 1, 0), (73, .aload_n 0, 0, 0), (74, .iconst 2, 2, 0), (75, .iload 6, 0, 0), (77, .iconst 1, 1, 0), (78, .invokevirtual 82, 163, 4), (81, .ishl, 0, 0), (82, .ior, 0, 0), (83, .istore 5, 0, 0)], 85),
  (85, [(85, .iinc 6 1, 1, 0), (88, .goto (-70), 18, 0)], 91),
  (91, [(91, .iload 5, 0, 0), (93, .iload_n 3, 0, 0), (94, .iconst (-1), 1, 1), (95, .ixor, 0, 0), (96, .iand, 0, 0), (97, .istore 4, 0, 0), (99, .iload_n 3, 0, 0), (100, .iload 5, 0, 0), (102, .ior, 0, 0), (103, .istore_n 3, 0, 0), (104, .goto (-97), 7, 0)], 107),
  (107, [(107, .iload_n 3, 0, 0), (108, .ireturn, 0, 0)], 109)]
theorem t_Mod_behind : z_chkM 195 b_Mod_behind = true := by decide +kernel
def b_Mod_ring : List BK := [(0, [(0, .iload_n 1, 0, 0), (1, .invokestatic 68, 155, 1), (4, .ifCond .ne 5, 9, 0)], 7),
  (7, [(7, .iconst (-1), 1, 1), (8, .ireturn, 0, 0)], 9),
  (9, [(9, .iconst 0, 0, 0), (10, .istore_n 2, 0, 0), (11, .iconst 0, 0, 0), (12, .istore_n 3, 0, 0)], 13),
  (13, [(13, .iload_n 3, 0, 0), (14, .bipush 16, 16, 0), (16, .if_icmp .ge 32, 48, 0)], 19),
  (19, [(19, .iload_n 2, 0, 0), (20, .aload_n 0, 0, 0), (21, .iload_n 3, 0, 0), (22, .iload_n 1, 0, 0), (23, .invokevirtual 220, 195, 3), (26, .iload_n 3, 0, 0), (27, .invokestatic 111, 149, 2), (30, .ifCond .eq 9, 39, 0)], 33),
  (33, [(33, .iconst 1, 1, 0), (34, .iload_n 3, 0, 0), (35, .ishl, 0, 0), (36, .goto 4, 40, 0)], 39),
  (39, [(39, .iconst 0, 0, 0)], 40),
  (40, [(40, .ior, 0, 0), (41, .istore_n 2, 0, 0), (42, .iinc 3 1, 1, 0), (45, .goto (-32), 13, 0)], 48),
  (48, [(48, .iload_n 2, 0, 0), (49, .ireturn, 0, 0)], 50)]
theorem t_Mod_ring : z_chkM 196 b_Mod_ring = true := by decide +kernel
def b_Mod_split : List BK := [(0, [(0, .aload_n 0, 0, 0), (1, .iload_n 1, 0, 0), (2, .invokevirtual 186, 153, 2), (5, .ifCond .ne 5, 10, 0)], 8),
  (8, [(8, .iconst (-1), 1, 1), (9, .ireturn, 0, 0)], 10),
  (10, [(10, .aload_n 0, 0, 0), (11, .iload_n 1, 0, 0), (12, .aload_n 0, 0, 0), (13, .iload_n 1, 0, 0), (14, .iconst 4, 4, 0), (15, .invokevirtual 134, 159, 3), (18, .invokevirtual 169, 177, 3), (21, .aload_n 0, 0, 0), (22, .getfield 147, 18, 10), (25, .istore_n 2, 0, 0), (26, .aload_n 0, 0, 0), (27, .getfield 141, 17, 10), (30, .istore_n 3, 0, 0), (31, .aload_n 0, 0, 0), (32, .iload_n 1, 0, 0), (33, .invokevirtual 195, 178, 2), (36, .iload_n 2, 0, 0), (37, .ifCond .eq 22, 59, 0)], 40),
  (40, [(40, .aload_n 0, 0, 0), (41, .getfield 147, 18, 10), (44, .ifCond .eq 11, 55, 0)], 47),
  (47, [(47, .aload_n 0, 0, 0), (48, .getfield 141, 17, 10), (51, .iload_n 3, 0, 0), (52, .if_icmp .le 7, 59, 0)], 55),
  (55, [(55, .iconst 1, 1, 0), (56, .goto 4, 60, 0)], 59),
  (59, [(59, .iconst 0, 0, 0)], 60),
  (60, [(60, .ireturn, 0, 0)], 61)]
theorem t_Mod_split : z_chkM 197 b_Mod_split = true := by decide +kernel
def b_Mod_without : List BK := [(0, [(0, .aload_n 0, 0, 0), (1, .iload_n 1, 0, 0), (2, .invokevirtual 186, 153, 2), (5, .ifCond .eq 22, 27, 0)], 8),
  (8, [(8, .iload_n 2, 0, 0), (9, .invokestatic 212, 154, 1), (12, .ifCond .eq 15, 27, 0)], 15),
  (15, [(15, .iload_n 3, 0, 0), (16, .i2l, 0, 0), (17, .lconst 0, 0, 0), (18, .ldc2_w 218, 2, 2), (21, .invokestatic 57, 148, 3), (24, .ifCond .ne 5, 29, 0)], 27),
  (27, [(27, .iconst (-1), 1, 1), (28, .ireturn, 0, 0)], 29),
  (29, [(29, .aload_n 0, 0, 0), (30, .iload_n 2, 0, 0), (31, .putfield 23, 5, 10), (34, .aload_n 0, 0, 0), (35, .iload_n 1, 0, 0), (36, .invokevirtual 195, 178, 2), (39, .aload_n 0, 0, 0), (40, .iconst (-1), 1, 1), (41, .putfield 23, 5, 10), (44, .aload_n 0, 0, 0), (45, .iload_n 3, 0, 0), (46, .invokevirtual 207, 191, 2), (49, .ireturn, 0, 0)], 50)]
theorem t_Mod_without : z_chkM 198 b_Mod_without = true := by decide +kernel
def b_Mod_cure : List BK := [(0, [(0, .aload_n 0, 0, 0), (1, .iload_n 1, 0, 0), (2, .invokevirtual 186, 153, 2), (5, .ifCond .eq 13, 18, 0)], 8),
  (8, [(8, .iload_n 2, 0, 0), (9, .i2l, 0, 0), (10, .lconst 0, 0, 0), (11, .lconst 1, 0, 0), (12, .invokestatic 57, 148, 3), (15, .ifCond .ne 5, 20, 0)], 18),
  (18, [(18, .iconst (-1), 1, 1), (19, .ireturn, 0, 0)], 20),
  (20, [(20, .bipush (-2), 2, 1), (22, .istore_n 3, 0, 0), (23, .bipush (-2), 2, 1), (25, .istore 4, 0, 0), (27, .iconst 0, 0, 0), (28, .istore 5, 0, 0)], 30),
  (30, [(30, .iload 5, 0, 0), (32, .aload_n 0, 0, 0), (33, .iconst 1, 1, 0), (34, .invokevirtual 79, 162, 2), (37, .if_icmp .ge 61, 98, 0)], 40),
  (40, [(40, .aload_n 0, 0, 0), (41, .iload 5, 0, 0), (43, .putfield 27, 6, 10), (46, .aload_n 0, 0, 0), (47, .iload_n 1, 0, 0), (48, .invokevirtual 195, 178, 2), (51, .aload_n 0, 0, 0), (52, .iconst (-1), 1, 1), (53, .putfield 27, 6, 10), (56, .aload_n 0, 0, 0), (57, .getfield 147, 18, 10), (60, .ifCond .eq 32, 92, 0)], 63),
  (63, [(63, .iload_n 3, 0, 0), (64, .bipush (-2), 2, 1), (66, .if_icmp .eq 16, 82, 0)], 69),
  (69, [(69, .aload_n 0, 0, 0), (70, .iconst 1, 1, 0), (71, .invokevirtual 201, 179, 2), (74, .iload 4, 0, 0), (76, .if_icmp .lt 6, 82, 0)], 79),
  (79, [(79, .goto 13, 92, 0)], 82),
  (82, [(82, .iload 5, 0, 0), (84, .istore_n 3, 0, 0), (85, .aload_n 0, 0, 0), (86, .iconst 1, 1, 0), (87, .invokevirtual 201, 179, 2), (90, .istore 4, 0, 0)], 92),
  (92, [(92, .iinc 5 1, 1, 0), (95, .goto (-65), 30, 0)], 98),
  (98, [(98, .iload_n 2, 0, 0), (99, .ifCond .ne 7, 106, 0)], 102),
  (102, [(102, .iload_n 3, 0, 0), (103, .goto 5, 108, 0)], 106),
  (106, [(106, .iload 4, 0, 0)], 108),
  (108, [(108, .ireturn, 0, 0)], 109)]
theorem t_Mod_cure : z_chkM 199 b_Mod_cure = true := by decide +kernel
def b_Mod_most : List BK := [(0, [(0, .aload_n 0, 0, 0), (1, .iload_n 1, 0, 0), (2, .invokevirtual 186, 153, 2), (5, .ifCond .eq 23, 28, 0)], 8),
  (8, [(8, .iload_n 2, 0, 0), (9, .i2l, 0, 0), (10, .lconst 0, 0, 0), (11, .aload_n 0, 0, 0), (12, .aload_n 0, 0, 0), (13, .iload_n 1, 0, 0), (14, .iconst 1, 1, 0), (15, .invokevirtual 134, 159, 3), (18, .invokevirtual 175, 181, 2), (21, .i2l, 0, 0), (22, .invokestatic 57, 148, 3), (25, .ifCond .ne 5, 30, 0)], 28),
  (28, [(28, .iconst (-1), 1, 1), (29, .ireturn, 0, 0)], 30),
  (30, [(30, .aload_n 0, 0, 0), (31, .iload_n 1, 0, 0), (32, .invokevirtual 166, 174, 2), (35, .aload_n 0, 0, 0), (36, .iload_n 1, 0, 0), (37, .iconst 4, 4, 0), (38, .invokevirtual 134, 159, 3), (41, .isub, 0, 0), (42, .istore_n 3, 0, 0), (43, .aload_n 0, 0, 0), (44, .iload_n 1, 0, 0), (45, .sipush 10000, 10000, 0), (48, .invokevirtual 169, 177, 3), (51, .bipush (-2), 2, 1), (53, .istore 4, 0, 0), (55, .iconst 0, 0, 0), (56, .istore 5, 0, 0)], 58),
  (58, [(58, .iload 5, 0, 0), (60, .aload_n 0, 0, 0), (61, .getfield 141, 17, 10), (64, .if_icmp .ge 63, 127, 0)], 67),
  (67, [(67, .iload 5, 0, 0), (69, .iload_n 2, 0, 0), (70, .if_icmp .gt 57, 127, 0)], 73),
  (73, [(73, .aload_n 0, 0, 0), (74, .getfield 33, 15, 10), (77, .bipush 6, 6, 0), (79, .iload 5, 0, 0), (81, .imul, 0, 0), (82, .iconst 2, 2, 0), (83, .iadd, 0, 0), (84, .iaload, 0, 0), (85, .bipush (-2), 2, 1), (87, .if_icmp .eq 34, 121, 0)], 90),
  (90, [(90, .aload_n 0, 0, 0), (91, .getfield 33, 15, 10), (94, .bipush 6, 6, 0), (96, .iload 5, 0, 0), (98, .imul, 0, 0), (99, .iconst 3, 3, 0), (100, .iadd, 0, 0), (101, .iaload, 0, 0), (102, .iload 4, 0, 0), (104, .if_icmp .le 17, 121, 0)], 107),
  (107, [(107, .aload_n 0, 0, 0), (108, .getfield 33, 15, 10), (111, .bipush 6, 6, 0), (113, .iload 5, 0, 0), (115, .imul, 0, 0), (116, .iconst 3, 3, 0), (117, .iadd, 0, 0), (118, .iaload, 0, 0), (119, .istore 4, 0, 0)], 121),
  (121, [(121, .iinc 5 1, 1, 0), (124, .goto (-66), 58, 0)], 127),
  (127, [(127, .iload 4, 0, 0), (129, .iload_n 3, 0, 0), (130, .isub, 0, 0), (131, .istore 5, 0, 0), (133, .iload 5, 0, 0), (135, .iconst 1, 1, 0), (136, .if_icmp .ge 8, 144, 0)], 139),
  (139, [(139, .bipush (-2), 2, 1), (141, .goto 5, 146, 0)], 144),
  (144, [(144, .iload 5, 0, 0)], 146),
  (146, [(146, .ireturn, 0, 0)], 147)]
theorem t_Mod_most : z_chkM 200 b_Mod_most = true := by decide +kernel
def b_Mod_laysLoads : List BK := [(0, [(0, .iconst 0, 0, 0), (1, .istore_n 1, 0, 0)], 2),
  (2, [(2, .iload_n 1, 0, 0), (3, .bipush 48, 48, 0), (5, .if_icmp .ge 16, 21, 0)], 8),
  (8, [(8, .aload_n 0, 0, 0), (9, .getfield 39, 19, 10), (12, .iload_n 1, 0, 0), (13, .iconst 0, 0, 0), (14, .iastore, 0, 0), (15, .iinc 1 1, 1, 0), (18, .goto (-16), 2, 0)], 21),
  (21, [(21, .iconst 0, 0, 0), (22, .istore_n 1, 0, 0)], 23),
  (23, [(23, .iload_n 1, 0, 0), (24, .aload_n 0, 0, 0), (25, .invokevirtual 61, 151, 1), (28, .if_icmp .ge 49, 77, 0)], 31),
  (31, [(31, .aload_n 0, 0, 0), (32, .iload_n 1, 0, 0), (33, .invokevirtual 204, 180, 2), (36, .ifCond .eq 6, 42, 0)], 39),
  (39, [(39, .goto 32, 71, 0)], 42),
  (42, [(42, .aload_n 0, 0, 0), (43, .iload_n 1, 0, 0), (44, .invokevirtual 195, 178, 2), (47, .iconst 0, 0, 0), (48, .istore_n 2, 0, 0)], 49),
  (49, [(49, .iload_n 2, 0, 0), (50, .aload_n 0, 0, 0), (51, .getfield 141, 17, 10), (54, .if_icmp .ge 17, 71, 0)], 57),
  (57, [(57, .aload_n 0, 0, 0), (58, .bipush 6, 6, 0), (60, .iload_n 2, 0, 0), (61, .imul, 0, 0), (62, .invokevirtual 223, 202, 2), (65, .iinc 2 1, 1, 0), (68, .goto (-19), 49, 0)], 71),
  (71, [(71, .iinc 1 1, 1, 0), (74, .goto (-51), 23, 0)], 77),
  (77, [(77, .return_, 0, 0)], 78)]
theorem t_Mod_laysLoads : z_chkM 201 b_Mod_laysLoads = true := by decide +kernel
def b_Mod_counts : List BK := [(0, [(0, .aload_n 0, 0, 0), (1, .getfield 33, 15, 10), (4, .iload_n 1, 0, 0), (5, .iconst 2, 2, 0), (6, .iadd, 0, 0), (7, .iaload, 0, 0), (8, .istore_n 2, 0, 0), (9, .iload_n 2, 0, 0), (10, .bipush (-2), 2, 1), (12, .if_icmp .ne 4, 16, 0)], 15),
  (15, [(15, .return_, 0, 0)], 16),
  (16, [(16, .aload_n 0, 0, 0), (17, .getfield 39, 19, 10), (20, .iload_n 2, 0, 0), (21, .dup2, 0, 0), (22, .iaload, 0, 0), (23, .iconst 1, 1, 0), (24, .iadd, 0, 0), (25, .iastore, 0, 0), (26, .aload_n 0, 0, 0), (27, .getfield 39, 19, 10), (30, .bipush 16, 16, 0), (32, .iload_n 2, 0, 0), (33, .iadd, 0, 0), (34, .dup2, 0, 0), (35, .iaload, 0, 0), (36, .aload_n 0, 0, 0), (37, .getfield 33, 15, 10), (40, .iload_n 1, 0, 0), (41, .iconst 4, 4, 0), (42, .iadd, 0, 0), (43, .iaload, 0, 0), (44, .ifCond .ne 7, 51, 0)], 47),
  (47, [(47, .iconst 1, 1, 0), (48, .goto 4, 52, 0)], 51),
  (51, [(51, .iconst 0, 0, 0)], 52),
  (52, [(52, .iadd, 0, 0), (53, .iastore, 0, 0), (54, .aload_n 0, 0, 0), (55, .getfield 39, 19, 10), (58, .bipush 32, 32, 0), (60, .iload_n 2, 0, 0), (61, .iadd, 0, 0), (62, .dup2, 0, 0), (63, .iaload, 0, 0), (64, .aload_n 0, 0, 0), (65, .getfield 33, 15, 10), (68, .iload_n 1, 0, 0), (69, .iconst 5, 5, 0), (70, .iadd, 0, 0), (71, .iaload, 0, 0), (72, .ifCond .le 7, 79, 0)], 75),
  (75, [(75, .iconst 1, 1, 0), (76, .goto 4, 80, 0)], 79),
  (79, [(79, .iconst 0, 0, 0)], 80),
  (80, [(80, .iadd, 0, 0), (81, .iastore, 0, 0), (82, .return_, 0, 0)], 83)]
theorem t_Mod_counts : z_chkM 202 b_Mod_counts = true := by decide +kernel
def b_Mod_load : List BK := [(0, [(0, .iload_n 1, 0, 0), (1, .invokestatic 212, 154, 1), (4, .ifCond .eq 15, 19, 0)], 7),
  (7, [(7, .iload_n 2, 0, 0), (8, .i2l, 0, 0), (9, .lconst 0, 0, 0), (10, .ldc2_w 218, 2, 2), (13, .invokestatic 57, 148, 3), (16, .ifCond .ne 5, 21, 0)], 19),
  (19, [(19, .iconst (-1), 1, 1), (20, .ireturn, 0, 0)], 21),
  (21, [(21, .aload_n 0, 0, 0), (22, .invokevirtual 226, 201, 1), (25, .aload_n 0, 0, 0), (26, .getfield 39, 19, 10), (29, .bipush 16, 16, 0), (31, .iload_n 2, 0, 0), (32, .imul, 0, 0), (33, .iload_n 1, 0, 0), (34, .iadd, 0, 0), (35, .iaload, 0, 0), (36, .ireturn, 0, 0)], 37)]
theorem t_Mod_load : z_chkM 203 b_Mod_load = true := by decide +kernel
def b_Mod_busiest : List BK := [(0, [(0, .iload_n 1, 0, 0), (1, .i2l, 0, 0), (2, .lconst 0, 0, 0), (3, .lconst 1, 0, 0), (4, .invokestatic 57, 148, 3), (7, .ifCond .ne 5, 12, 0)], 10),
  (10, [(10, .iconst (-1), 1, 1), (11, .ireturn, 0, 0)], 12),
  (12, [(12, .aload_n 0, 0, 0), (13, .invokevirtual 226, 201, 1), (16, .bipush (-2), 2, 1), (18, .istore_n 2, 0, 0), (19, .iconst 0, 0, 0), (20, .istore_n 3, 0, 0)], 21),
  (21, [(21, .iload_n 3, 0, 0), (22, .bipush 16, 16, 0), (24, .if_icmp .ge 41, 65, 0)], 27),
  (27, [(27, .aload_n 0, 0, 0), (28, .getfield 39, 19, 10), (31, .iload_n 3, 0, 0), (32, .iaload, 0, 0), (33, .ifCond .le 26, 59, 0)], 36),
  (36, [(36, .iload_n 2, 0, 0), (37, .bipush (-2), 2, 1), (39, .if_icmp .eq 18, 57, 0)], 42),
  (42, [(42, .aload_n 0, 0, 0), (43, .getfield 39, 19, 10), (46, .iload_n 3, 0, 0), (47, .iaload, 0, 0), (48, .aload_n 0, 0, 0), (49, .getfield 39, 19, 10), (52, .iload_n 2, 0, 0), (53, .iaload, 0, 0), (54, .if_icmp .le 5, 59, 0)], 57),
  (57, [(57, .iload_n 3, 0, 0), (58, .istore_n 2, 0, 0)], 59),
  (59, [(59, .iinc 3 1, 1, 0), (62, .goto (-41), 21, 0)], 65),
  (65, [(65, .iload_n 1, 0, 0), (66, .ifCond .eq 9, 75, 0)], 69),
  (69, [(69, .iload_n 2, 0, 0), (70, .bipush (-2), 2, 1), (72, .if_icmp .ne 7, 79, 0)], 75),
  (75, [(75, .iload_n 2, 0, 0), (76, .goto 9, 85, 0)], 79),
  (79, [(79, .aload_n 0, 0, 0), (80, .getfield 39, 19, 10), (83, .iload_n 2, 0, 0), (84, .iaload, 0, 0)], 85),
  (85, [(85, .ireturn, 0, 0)], 86)]
theorem t_Mod_busiest : z_chkM 204 b_Mod_busiest = true := by decide +kernel
def b_Mod_approved : List BK := [(0, [(0, .iload_n 1, 0, 0), (1, .i2l, 0, 0), (2, .lconst 0, 0, 0), (3, .ldc2_w 181, 3, 2), (6, .invokestatic 57, 148, 3), (9, .ifCond .ne 5, 14, 0)], 12),
  (12, [(12, .iconst (-1), 1, 1), (13, .ireturn, 0, 0)], 14),
  (14, [(14, .iconst 0, 0, 0), (15, .istore_n 2, 0, 0), (16, .iconst 0, 0, 0), (17, .istore_n 3, 0, 0), (18, .bipush (-2), 2, 1), (20, .istore 4, 0, 0), (22, .bipush (-2), 2, 1), (24, .istore 5, 0, 0), (26, .iconst 0, 0, 0), (27, .istore 6, 0, 0)], 29),
  (29, [(29, .iload 6, 0, 0), (31, .aload_n 0, 0, 0), (32, .invokevirtual 61, 151, 1), (35, .if_icmp .ge 83, 118, 0)], 38),
  (38, [(38, .aload_n 0, 0, 0), (39, .iload 6, 0, 0), (41, .invokevirtual 204, 180, 2), (44, .ifCond .eq 6, 50, 0)], 47),
  (47, [(47, .goto 65, 112, 0)], 50),
  (50, [(50, .aload_n 0, 0, 0), (51, .iload 6, 0, 0), (53, .invokevirtual 195, 178, 2), (56, .aload_n 0, 0, 0), (57, .getfield 147, 18, 10), (60, .ifCond .ne 6, 66, 0)], 63),
  (63, [(63, .goto 49, 112, 0)], 66),
  (66, [(66, .iinc 2 1, 1, 0), (69, .iload_n 3, 0, 0), (70, .aload_n 0, 0, 0), (71, .iload 6, 0, 0), (73, .iconst 4, 4, 0), (74, .invokevirtual 134, 159, 3), (77, .iadd, 0, 0), (78, .istore_n 3, 0, 0), (79, .aload_n 0, 0, 0), (80, .iconst 1, 1, 0), (81, .invokevirtual 201, 179, 2), (84, .aload_n 0, 0, 0), (85, .iload 6, 0, 0), (87, .iconst 5, 5, 0), (88, .invokevirtual 134, 159, 3), (91, .isub, 0, 0), (92, .istore 7, 0, 0), (94, .iload 7, 0, 0), (96, .iload 4, 0, 0), (98, .if_icmp .gt 6, 104, 0)], 101),
  (101, [(101, .goto 11, 112, 0)], 104),
  (104, [(104, .iload 7, 0, 0), (106, .istore 4, 0, 0), (108, .iload 6, 0, 0), (110, .istore 5, 0, 0)], 112),
  (112, [(112, .iinc 6 1, 1, 0), (115, .goto (-86), 29, 0)], 118),
  (118, [(118, .iload_n 1, 0, 0), (119, .tableswitch 32 0 2 #[25, 27, 29], 0, 0)], 144),
  (144, [(144, .iload_n 2, 0, 0), (145, .ireturn, 0, 0)], 146),
  (146, [(146, .iload_n 3, 0, 0), (147, .ireturn, 0, 0)], 148),
  (148, [(148, .iload 4, 0, 0), (150, .ireturn, 0, 0)], 151),
  (151, [(151, .iload 5, 0, 0), (153, .ireturn, 0, 0)], 154)]
theorem t_Mod_approved : z_chkM 205 b_Mod_approved = true := by decide +kernel
def b_Mod_could : List BK := [(0, [(0, .aload_n 0, 0, 0), (1, .iload_n 1, 0, 0), (2, .invokevirtual 186, 153, 2), (5, .ifCond .ne 5, 10, 0)], 8),
  (8, [(8, .iconst (-1), 1, 1), (9, .ireturn, 0, 0)], 10),
  (10, [(10, .aload_n 0, 0, 0), (11, .iload_n 1, 0, 0), (12, .invokevirtual 166, 174, 2), (15, .istore_n 2, 0, 0), (16, .aload_n 0, 0, 0), (17, .aload_n 0, 0, 0), (18, .iload_n 1, 0, 0), (19, .iconst 0, 0, 0), (20, .invokevirtual 134, 159, 3), (23, .aload_n 0, 0, 0), (24, .iload_n 1, 0, 0), (25, .iconst 2, 2, 0), (26, .invokevirtual 134, 159, 3), (29, .invokevirtual 155, 169, 3), (32, .iconst 0, 0, 0), (33, .istore_n 3, 0, 0), (34, .aload_n 0, 0, 0), (35, .iload_n 1, 0, 0), (36, .iconst 1, 1, 0), (37, .invokevirtual 134, 159, 3), (40, .istore 4, 0, 0)], 42),
  (42, [(42, .iload 4, 0, 0), (44, .iconst (-1), 1, 1), (45, .if_icmp .eq 55, 100, 0)], 48),
  (48, [(48, .aload_n 0, 0, 0), (49, .iload 4, 0, 0), (51, .aload_n 0, 0, 0), (52, .iload_n 1, 0, 0), (53, .iconst 5, 5, 0), (54, .invokevirtual 134, 159, 3), (57, .aload_n 0, 0, 0), (58, .iload_n 1, 0, 0), (59, .iconst 3, 3, 0), (60, .invokevirtual 134, 159, 3), (63, .invokevirtual 144, 168, 4), (66, .istore 5, 0, 0), (68, .iload 5, 0, 0), (70, .iconst (-1), 1, 1), (71, .if_icmp .eq 18, 89, 0)], 74),
  (74, [(74, .aload_n 0, 0, 0), (75, .getfield 108, 13, 10), (78, .iload_n 2, 0, 0), (79, .if_icmp .lt 10, 89, 0)], 82),
  (82, [(82, .iload_n 3, 0, 0), (83, .iconst 1, 1, 0), (84, .iload 5, 0, 0), (86, .ishl, 0, 0), (87, .ior, 0, 0), (88, .istore_n 3, 0, 0)], 89),
  (89, [(89, .aload_n 0, 0, 0), (90, .iload 4, 0, 0), (92, .invokevirtual 163, 157, 2), (95, .istore 4, 0, 0), (97, .goto (-55), 42, 0)], 100),
  (100, [(100, .iload_n 3, 0, 0), (101, .ireturn, 0, 0)], 102)]
theorem t_Mod_could : z_chkM 206 b_Mod_could = true := by decide +kernel
def b_Mod_isManned : List BK := [(0, [(0, .iconst 0, 0, 0), (1, .istore_n 3, 0, 0)], 2),
  (2, [(2, .iload_n 3, 0, 0), (3, .iconst 3, 3, 0), (4, .if_icmp .ge 22, 26, 0)], 7),
  (7, [(7, .aload_n 0, 0, 0), (8, .iload_n 1, 0, 0), (9, .iload_n 2, 0, 0), (10, .iload_n 3, 0, 0), (11, .invokevirtual 144, 168, 4), (14, .iconst (-1), 1, 1), (15, .if_icmp .eq 5, 20, 0)], 18),
  (18, [(18, .iconst 1, 1, 0), (19, .ireturn, 0, 0)], 20),
  (20, [(20, .iinc 3 1, 1, 0), (23, .goto (-21), 2, 0)], 26),
  (26, [(26, .iconst 0, 0, 0), (27, .ireturn, 0, 0)], 28)]
theorem t_Mod_isManned : z_chkM 207 b_Mod_isManned = true := by decide +kernel
end
section
def b_Mod_manned : List BK := [(0, [(0, .aload_n 0, 0, 0), (1, .iload_n 1, 0, 0), (2, .invokevirtual 172, 152, 2), (5, .ifCond .eq 22, 27, 0)], 8),
  (8, [(8, .iload_n 2, 0, 0), (9, .iload_n 3, 0, 0), (10, .invokestatic 229, 156, 2), (13, .ifCond .eq 14, 27, 0)], 16),
  (16, [(16, .iload 4, 0, 0), (18, .i2l, 0, 0), (19, .lconst 0, 0, 0), (20, .lconst 1, 0, 0), (21, .invokestatic 57, 148, 3), (24, .ifCond .ne 5, 29, 0)], 27),
  (27, [(27, .iconst (-1), 1, 1), (28, .ireturn, 0, 0)], 29),
  (29, [(29, .aload_n 0, 0, 0), (30, .iconst (-1), 1, 1), (31, .iconst (-1), 1, 1), (32, .invokevirtual 155, 169, 3), (35, .iconst 0, 0, 0), (36, .istore 5, 0, 0), (38, .iload_n 2, 0, 0), (39, .istore 6, 0, 0)], 41),
  (41, [(41, .iload 6, 0, 0), (43, .iload_n 3, 0, 0), (44, .if_icmp .gt 48, 92, 0)], 47),
  (47, [(47, .iload 5, 0, 0), (49, .iload 4, 0, 0), (51, .ifCond .ne 17, 68, 0)], 54),
  (54, [(54, .aload_n 0, 0, 0), (55, .iload_n 1, 0, 0), (56, .iload 6, 0, 0), (58, .invokevirtual 117, 166, 3), (61, .iconst (-1), 1, 1), (62, .if_icmp .eq 20, 82, 0)], 65),
  (65, [(65, .goto 13, 78, 0)], 68),
  (68, [(68, .aload_n 0, 0, 0), (69, .iload_n 1, 0, 0), (70, .iload 6, 0, 0), (72, .invokevirtual 232, 207, 3), (75, .ifCond .eq 7, 82, 0)], 78),
  (78, [(78, .iconst 1, 1, 0), (79, .goto 4, 83, 0)], 82),
  (82, [(82, .iconst 0, 0, 0)], 83),
  (83, [(83, .iadd, 0, 0), (84, .istore 5, 0, 0), (86, .iinc 6 1, 1, 0), (89, .goto (-48), 41, 0)], 92),
  (92, [(92, .iload 5, 0, 0), (94, .ireturn, 0, 0)], 95)]
theorem t_Mod_manned : z_chkM 208 b_Mod_manned = true := by decide +kernel
def b_Mod_recalledMany : List BK := [(0, [(0, .iconst 0, 0, 0), (1, .istore_n 1, 0, 0), (2, .iconst 0, 0, 0), (3, .istore_n 2, 0, 0)], 4),
  (4, [(4, .iload_n 2, 0, 0), (5, .aload_n 0, 0, 0), (6, .invokevirtual 61, 151, 1), (9, .if_icmp .ge 25, 34, 0)], 12),
  (12, [(12, .iload_n 1, 0, 0), (13, .aload_n 0, 0, 0), (14, .iload_n 2, 0, 0), (15, .invokevirtual 204, 180, 2), (18, .ifCond .eq 7, 25, 0)], 21),
  (21, [(21, .iconst 1, 1, 0), (22, .goto 4, 26, 0)], 25),
  (25, [(25, .iconst 0, 0, 0)], 26),
  (26, [(26, .iadd, 0, 0), (27, .istore_n 1, 0, 0), (28, .iinc 2 1, 1, 0), (31, .goto (-27), 4, 0)], 34),
  (34, [(34, .iload_n 1, 0, 0), (35, .ireturn, 0, 0)], 36)]
theorem t_Mod_recalledMany : z_chkM 209 b_Mod_recalledMany = true := by decide +kernel
def b_Mod_stuckMany : List BK := [(0, [(0, .iconst 0, 0, 0), (1, .istore_n 1, 0, 0), (2, .iconst 0, 0, 0), (3, .istore_n 2, 0, 0)], 4),
  (4, [(4, .iload_n 2, 0, 0), (5, .aload_n 0, 0, 0), (6, .invokevirtual 61, 151, 1), (9, .if_icmp .ge 40, 49, 0)], 12),
  (12, [(12, .aload_n 0, 0, 0), (13, .iload_n 2, 0, 0), (14, .invokevirtual 204, 180, 2), (17, .ifCond .eq 6, 23, 0)], 20),
  (20, [(20, .goto 23, 43, 0)], 23),
  (23, [(23, .aload_n 0, 0, 0), (24, .iload_n 2, 0, 0), (25, .invokevirtual 195, 178, 2), (28, .iload_n 1, 0, 0), (29, .aload_n 0, 0, 0), (30, .getfield 147, 18, 10), (33, .ifCond .eq 7, 40, 0)], 36),
  (36, [(36, .iconst 0, 0, 0), (37, .goto 4, 41, 0)], 40),
  (40, [(40, .iconst 1, 1, 0)], 41),
  (41, [(41, .iadd, 0, 0), (42, .istore_n 1, 0, 0)], 43),
  (43, [(43, .iinc 2 1, 1, 0), (46, .goto (-42), 4, 0)], 49),
  (49, [(49, .iload_n 1, 0, 0), (50, .ireturn, 0, 0)], 51)]
theorem t_Mod_stuckMany : z_chkM 210 b_Mod_stuckMany = true := by decide +kernel
def b_Mod_count : List BK := [(0, [(0, .iload_n 1, 0, 0), (1, .tableswitch 146 0 13 #[71, 76, 76, 76, 76, 84, 84, 84, 91, 96, 101, 106, 111, 116], 0, 0)], 72),
  (72, [(72, .aload_n 0, 0, 0), (73, .invokevirtual 53, 150, 1), (76, .ireturn, 0, 0)], 77),
  (77, [(77, .aload_n 0, 0, 0), (78, .iload_n 1, 0, 0), (79, .iconst 1, 1, 0), (80, .isub, 0, 0), (81, .invokevirtual 79, 162, 2), (84, .ireturn, 0, 0)], 85),
  (85, [(85, .aload_n 0, 0, 0), (86, .getfield 7, 0, 10), (89, .iload_n 1, 0, 0), (90, .iaload, 0, 0), (91, .ireturn, 0, 0)], 92),
  (92, [(92, .aload_n 0, 0, 0), (93, .invokevirtual 61, 151, 1), (96, .ireturn, 0, 0)], 97),
  (97, [(97, .aload_n 0, 0, 0), (98, .invokevirtual 235, 209, 1), (101, .ireturn, 0, 0)], 102),
  (102, [(102, .aload_n 0, 0, 0), (103, .invokevirtual 238, 210, 1), (106, .ireturn, 0, 0)], 107),
  (107, [(107, .aload_n 0, 0, 0), (108, .getfield 241, 2, 10), (111, .ireturn, 0, 0)], 112),
  (112, [(112, .aload_n 0, 0, 0), (113, .getfield 244, 21, 10), (116, .ireturn, 0, 0)], 117),
  (117, [(117, .aload_n 0, 0, 0), (118, .getfield 19, 4, 10), (121, .iconst 0, 0, 0), (122, .baload, 0, 0), (123, .ifCond .eq 7, 130, 0)], 126),
  (126, [(126, .iconst 1, 1, 0), (127, .goto 4, 131, 0)], 130),
  (130, [(130, .iconst 0, 0, 0)], 131),
  (131, [(131, .aload_n 0, 0, 0), (132, .getfield 19, 4, 10), (135, .iconst 1, 1, 0), (136, .baload, 0, 0), (137, .ifCond .eq 7, 144, 0)], 140),
  (140, [(140, .iconst 2, 2, 0), (141, .goto 4, 145, 0)], 144),
  (144, [(144, .iconst 0, 0, 0)], 145),
  (145, [(145, .iadd, 0, 0), (146, .ireturn, 0, 0)], 147),
  (147, [(147, .iconst (-1), 1, 1), (148, .ireturn, 0, 0)], 149)]
theorem t_Mod_count : z_chkM 211 b_Mod_count = true := by decide +kernel
def b_Mod_keepsAct : List BK := [(0, [(0, .aload_n 0, 0, 0), (1, .getfield 241, 2, 10), (4, .bipush 10, 10, 0), (6, .if_icmp .ne 46, 52, 0)], 9),
  (9, [(9, .sipush 657, 657, 0), (12, .istore_n 1, 0, 0)], 13),
  (13, [(13, .iload_n 1, 0, 0), (14, .sipush 6570, 6570, 0), (17, .if_icmp .ge 25, 42, 0)], 20),
  (20, [(20, .aload_n 0, 0, 0), (21, .getfield 13, 1, 10), (24, .iload_n 1, 0, 0), (25, .sipush 657, 657, 0), (28, .isub, 0, 0), (29, .aload_n 0, 0, 0), (30, .getfield 13, 1, 10), (33, .iload_n 1, 0, 0), (34, .iaload, 0, 0), (35, .iastore, 0, 0), (36, .iinc 1 1, 1, 0), (39, .goto (-26), 13, 0)], 42),
  (42, [(42, .aload_n 0, 0, 0), (43, .dup, 0, 0), (44, .getfield 241, 2, 10), (47, .iconst 1, 1, 0), (48, .isub, 0, 0), (49, .putfield 241, 2, 10)], 52),
  (52, [(52, .iconst 0, 0, 0), (53, .istore_n 1, 0, 0)], 54),
  (54, [(54, .iload_n 1, 0, 0), (55, .sipush 657, 657, 0), (58, .if_icmp .ge 30, 88, 0)], 61),
  (61, [(61, .aload_n 0, 0, 0), (62, .getfield 13, 1, 10), (65, .sipush 657, 657, 0), (68, .aload_n 0, 0, 0), (69, .getfield 241, 2, 10), (72, .imul, 0, 0), (73, .iload_n 1, 0, 0), (74, .iadd, 0, 0), (75, .aload_n 0, 0, 0), (76, .getfield 7, 0, 10), (79, .iload_n 1, 0, 0), (80, .iaload, 0, 0), (81, .iastore, 0, 0), (82, .iinc 1 1, 1, 0), (85, .goto (-31), 54, 0)], 88),
  (88, [(88, .aload_n 0, 0, 0), (89, .dup, 0, 0), (90, .getfield 241, 2, 10), (93, .iconst 1, 1, 0), (94, .iadd, 0, 0), (95, .putfield 241, 2, 10), (98, .return_, 0, 0)], 99)]
theorem t_Mod_keepsAct : z_chkM 212 b_Mod_keepsAct = true := by decide +kernel
def b_Mod_comes : List BK := [(0, [(0, .aload_n 0, 0, 0), (1, .invokevirtual 61, 151, 1), (4, .istore 7, 0, 0), (6, .sipush 377, 377, 0), (9, .bipush 7, 7, 0), (11, .iload 7, 0, 0), (13, .imul, 0, 0), (14, .iadd, 0, 0), (15, .istore 8, 0, 0), (17, .aload_n 0, 0, 0), (18, .getfield 7, 0, 10), (21, .iload 8, 0, 0), (23, .iconst 0, 0, 0), (24, .iadd, 0, 0), (25, .iload_n 1, 0, 0), (26, .iastore, 0, 0), (27, .aload_n 0, 0, 0), (28, .getfield 7, 0, 10), (31, .iload 8, 0, 0), (33, .iconst 1, 1, 0), (34, .iadd, 0, 0), (35, .iload_n 2, 0, 0), (36, .iastore, 0, 0), (37, .aload_n 0, 0, 0), (38, .getfield 7, 0, 10), (41, .iload 8, 0, 0), (43, .iconst 2, 2, 0), (44, .iadd, 0, 0), (45, .iload_n 3, 0, 0), (46, .iastore, 0, 0), (47, .aload_n 0, 0, 0), (48, .getfield 7, 0, 10), (51, .iload 8, 0, 0), (53, .iconst 3, 3, 0), (54, .iadd, 0, 0), (55, .iload 4, 0, 0), (57, .iastore, 0, 0), (58, .aload_n 0, 0, 0), (59, .getfield 7, 0, 10), (62, .iload 8, 0, 0), (64, .iconst 4, 4, 0), (65, .iadd, 0, 0), (66, .iload 5, 0, 0), (68, .iastore, 0, 0), (69, .aload_n 0, 0, 0), (70, .getfield 7, 0, 10), (73, .iload 8, 0, 0), (75, .iconst 5, 5, 0), (76, .iadd, 0, 0), (77, .iload 6, 0, 0), (79, .iastore, 0, 0), (80, .aload_n 0, 0, 0), (81, .getfield 7, 0, 10), (84, .iload 8, 0, 0), (86, .bipush 6, 6, 0), (88, .iadd, 0, 0), (89, .bipush (-2), 2, 1), (91, .iastore, 0, 0), (92, .aload_n 0, 0, 0), (93, .getfield 7, 0, 10), (96, .bipush 8, 8, 0), (98, .dup2, 0, 0), (99, .iaload, 0, 0), (100, .iconst 1, 1, 0), (101, .iadd, 0, 0), (102, .iastore, 0, 0), (103, .iload 7, 0, 0), (105, .ireturn, 0, 0)], 106)]
theorem t_Mod_comes : z_chkM 213 b_Mod_comes = true := by decide +kernel
def b_Mod_request : List BK := [(0, [(0, .iload_n 1, 0, 0), (1, .invokestatic 212, 154, 1), (4, .ifCond .eq 39, 43, 0)], 7),
  (7, [(7, .aload_n 0, 0, 0), (8, .iload_n 2, 0, 0), (9, .invokevirtual 172, 152, 2), (12, .ifCond .eq 31, 43, 0)], 15),
  (15, [(15, .iload_n 3, 0, 0), (16, .invokestatic 215, 192, 1), (19, .ifCond .eq 24, 43, 0)], 22),
  (22, [(22, .iload 4, 0, 0), (24, .i2l, 0, 0), (25, .lconst 1, 0, 0), (26, .ldc2_w 247, 9999, 2), (29, .invokestatic 57, 148, 3), (32, .ifCond .eq 11, 43, 0)], 35),
  (35, [(35, .iload 5, 0, 0), (37, .invokestatic 68, 155, 1), (40, .ifCond .ne 5, 45, 0)], 43),
  (43, [(43, .iconst (-1), 1, 1), (44, .ireturn, 0, 0)], 45),
  (45, [(45, .aload_n 0, 0, 0), (46, .invokevirtual 61, 151, 1), (49, .bipush 40, 40, 0), (51, .if_icmp .ne 6, 57, 0)], 54),
  (54, [(54, .bipush (-2), 2, 1), (56, .ireturn, 0, 0)], 57),
  (57, [(57, .aload_n 0, 0, 0), (58, .invokevirtual 249, 212, 1), (61, .aload_n 0, 0, 0), (62, .iload_n 1, 0, 0), (63, .iload_n 2, 0, 0), (64, .iload_n 3, 0, 0), (65, .bipush 10, 10, 0), (67, .irem, 0, 0), (68, .iload_n 3, 0, 0), (69, .bipush 10, 10, 0), (71, .idiv, 0, 0), (72, .iload 4, 0, 0), (74, .iload 5, 0, 0), (76, .invokevirtual 252, 213, 7), (79, .ireturn, 0, 0)], 80)]
theorem t_Mod_request : z_chkM 214 b_Mod_request = true := by decide +kernel
def b_Mod_mayRecall : List BK := [(0, [(0, .aload_n 0, 0, 0), (1, .iload_n 1, 0, 0), (2, .invokevirtual 186, 153, 2), (5, .ifCond .eq 20, 25, 0)], 8),
  (8, [(8, .iload_n 2, 0, 0), (9, .invokestatic 68, 155, 1), (12, .ifCond .eq 13, 25, 0)], 15),
  (15, [(15, .iload_n 2, 0, 0), (16, .aload_n 0, 0, 0), (17, .iload_n 1, 0, 0), (18, .iconst 5, 5, 0), (19, .invokevirtual 134, 159, 3), (22, .if_icmp .ge 5, 27, 0)], 25),
  (25, [(25, .iconst (-1), 1, 1), (26, .ireturn, 0, 0)], 27),
  (27, [(27, .aload_n 0, 0, 0), (28, .iload_n 1, 0, 0), (29, .invokevirtual 204, 180, 2), (32, .ifCond .eq 6, 38, 0)], 35),
  (35, [(35, .bipush (-2), 2, 1), (37, .ireturn, 0, 0)], 38),
  (38, [(38, .aload_n 0, 0, 0), (39, .iload_n 1, 0, 0), (40, .invokevirtual 195, 178, 2), (43, .aload_n 0, 0, 0), (44, .getfield 147, 18, 10), (47, .ifCond .eq 17, 64, 0)], 50),
  (50, [(50, .aload_n 0, 0, 0), (51, .iconst 1, 1, 0), (52, .invokevirtual 201, 179, 2), (55, .iload_n 2, 0, 0), (56, .if_icmp .gt 8, 64, 0)], 59),
  (59, [(59, .bipush (-3), 3, 1), (61, .goto 4, 65, 0)], 64),
  (64, [(64, .iconst 1, 1, 0)], 65),
  (65, [(65, .ireturn, 0, 0)], 66)]
theorem t_Mod_mayRecall : z_chkM 215 b_Mod_mayRecall = true := by decide +kernel
def b_Mod_recall : List BK := [(0, [(0, .aload_n 0, 0, 0), (1, .iload_n 1, 0, 0), (2, .iload_n 2, 0, 0), (3, .invokevirtual 256, 215, 3), (6, .istore_n 3, 0, 0), (7, .iload_n 3, 0, 0), (8, .ifCond .ge 5, 13, 0)], 11),
  (11, [(11, .iload_n 3, 0, 0), (12, .ireturn, 0, 0)], 13),
  (13, [(13, .aload_n 0, 0, 0), (14, .invokevirtual 249, 212, 1), (17, .aload_n 0, 0, 0), (18, .getfield 7, 0, 10), (21, .sipush 377, 377, 0), (24, .bipush 7, 7, 0), (26, .iload_n 1, 0, 0), (27, .imul, 0, 0), (28, .iadd, 0, 0), (29, .bipush 6, 6, 0), (31, .iadd, 0, 0), (32, .iload_n 2, 0, 0), (33, .iastore, 0, 0), (34, .iconst 1, 1, 0), (35, .ireturn, 0, 0)], 36)]
theorem t_Mod_recall : z_chkM 216 b_Mod_recall = true := by decide +kernel
def b_Mod_amend : List BK := [(0, [(0, .aload_n 0, 0, 0), (1, .iload_n 1, 0, 0), (2, .iload_n 3, 0, 0), (3, .invokevirtual 256, 215, 3), (6, .istore 4, 0, 0), (8, .iload 4, 0, 0), (10, .iconst (-1), 1, 1), (11, .if_icmp .eq 15, 26, 0)], 14),
  (14, [(14, .iload_n 2, 0, 0), (15, .i2l, 0, 0), (16, .lconst 1, 0, 0), (17, .ldc2_w 247, 9999, 2), (20, .invokestatic 57, 148, 3), (23, .ifCond .ne 5, 28, 0)], 26),
  (26, [(26, .iconst (-1), 1, 1), (27, .ireturn, 0, 0)], 28),
  (28, [(28, .iload 4, 0, 0), (30, .bipush (-2), 2, 1), (32, .if_icmp .eq 12, 44, 0)], 35),
  (35, [(35, .aload_n 0, 0, 0), (36, .invokevirtual 61, 151, 1), (39, .bipush 40, 40, 0), (41, .if_icmp .ne 6, 47, 0)], 44),
  (44, [(44, .bipush (-2), 2, 1), (46, .ireturn, 0, 0)], 47),
  (47, [(47, .iload 4, 0, 0), (49, .ifCond .ge 6, 55, 0)], 52),
  (52, [(52, .iload 4, 0, 0), (54, .ireturn, 0, 0)], 55),
  (55, [(55, .aload_n 0, 0, 0), (56, .invokevirtual 249, 212, 1), (59, .aload_n 0, 0, 0), (60, .getfield 7, 0, 10), (63, .sipush 377, 377, 0), (66, .bipush 7, 7, 0), (68, .iload_n 1, 0, 0), (69, .imul, 0, 0), (70, .iadd, 0, 0), (71, .bipush 6, 6, 0), (73, .iadd, 0, 0), (74, .iload_n 3, 0, 0), (75, .iastore, 0, 0), (76, .aload_n 0, 0, 0), (77, .aload_n 0, 0, 0), (78, .iload_n 1, 0, 0), (79, .iconst 0, 0, 0), (80, .invokevirtual 134, 159, 3), (83, .aload_n 0, 0, 0), (84, .iload_n 1, 0, 0), (85, .iconst 1, 1, 0), (86, .invokevirtual 134, 159, 3), (89, .aload_n 0, 0, 0), (90, .iload_n 1, 0, 0), (91, .iconst 2, 2, 0), (92, .invokevirtual 134, 159, 3), (95, .aload_n 0, 0, 0), (96, .iload_n 1, 0, 0), (97, .iconst 3, 3, 0), (98, .invokevirtual 134, 159, 3), (101, .iload_n 2, 0, 0), (102, .iload_n 3, 0, 0), (103, .invokevirtual 252, 213, 7), (106, .ireturn, 0, 0)], 107)]
theorem t_Mod_amend : z_chkM 217 b_Mod_amend = true := by decide +kernel
def b_Mod_mostOf : List BK := [(0, [(0, .iload_n 0, 0, 0), (1, .iconst 3, 3, 0), (2, .if_icmp .ne 8, 10, 0)], 5),
  (5, [(5, .bipush 16, 16, 0), (7, .goto 5, 12, 0)], 10),
  (10, [(10, .bipush 24, 24, 0)], 12),
  (12, [(12, .ireturn, 0, 0)], 13)]
theorem t_Mod_mostOf : z_chkM 218 b_Mod_mostOf = true := by decide +kernel
def b_Mod_comesEntry : List BK := [(0, [(0, .aload_n 0, 0, 0), (1, .iload_n 1, 0, 0), (2, .invokevirtual 79, 162, 2), (5, .istore 7, 0, 0), (7, .iload 7, 0, 0), (9, .iload_n 1, 0, 0), (10, .invokestatic 259, 218, 1), (13, .if_icmp .ne 6, 19, 0)], 16),
  (16, [(16, .bipush (-2), 2, 1), (18, .ireturn, 0, 0)], 19),
  (19, [(19, .aload_n 0, 0, 0), (20, .invokevirtual 249, 212, 1), (23, .iload_n 1, 0, 0), (24, .invokestatic 72, 161, 1), (27, .iload_n 1, 0, 0), (28, .invokestatic 76, 160, 1), (31, .iload 7, 0, 0), (33, .imul, 0, 0), (34, .iadd, 0, 0), (35, .istore 8, 0, 0), (37, .iconst 0, 0, 0), (38, .istore 9, 0, 0)], 40),
  (40, [(40, .iload 9, 0, 0), (42, .iload_n 1, 0, 0), (43, .invokestatic 76, 160, 1), (46, .if_icmp .ge 62, 108, 0)], 49),
  (49, [(49, .aload_n 0, 0, 0), (50, .getfield 7, 0, 10), (53, .iload 8, 0, 0), (55, .iload 9, 0, 0), (57, .iadd, 0, 0), (58, .iload 9, 0, 0), (60, .ifCond .ne 7, 67, 0)], 63),
  (63, [(63, .iload_n 2, 0, 0), (64, .goto 37, 101, 0)], 67),
  (67, [(67, .iload 9, 0, 0), (69, .iconst 1, 1, 0), (70, .if_icmp .ne 7, 77, 0)], 73),
  (73, [(73, .iload_n 3, 0, 0), (74, .goto 27, 101, 0)], 77),
  (77, [(77, .iload 9, 0, 0), (79, .iconst 2, 2, 0), (80, .if_icmp .ne 8, 88, 0)], 83),
  (83, [(83, .iload 4, 0, 0), (85, .goto 16, 101, 0)], 88),
  (88, [(88, .iload 9, 0, 0), (90, .iconst 3, 3, 0), (91, .if_icmp .ne 8, 99, 0)], 94),
  (94, [(94, .iload 5, 0, 0), (96, .goto 5, 101, 0)], 99),
  (99, [(99, .iload 6, 0, 0)], 101),
  (101, [(101, .iastore, 0, 0), (102, .iinc 9 1, 1, 0), (105, .goto (-65), 40, 0)], 108),
  (108, [(108, .aload_n 0, 0, 0), (109, .getfield 7, 0, 10), (112, .iconst 1, 1, 0), (113, .iload_n 1, 0, 0), (114, .iadd, 0, 0), (115, .dup2, 0, 0), (116, .iaload, 0, 0), (117, .iconst 1, 1, 0), (118, .iadd, 0, 0), (119, .iastore, 0, 0), (120, .iload 7, 0, 0), (122, .ireturn, 0, 0)], 123)]
theorem t_Mod_comesEntry : z_chkM 219 b_Mod_comesEntry = true := by decide +kernel
def b_Mod_hold : List BK := [(0, [(0, .aload_n 0, 0, 0), (1, .iload_n 1, 0, 0), (2, .invokevirtual 172, 152, 2), (5, .ifCond .eq 33, 38, 0)], 8),
  (8, [(8, .iload_n 2, 0, 0), (9, .invokestatic 212, 154, 1), (12, .ifCond .eq 26, 38, 0)], 15),
  (15, [(15, .iload_n 3, 0, 0), (16, .iload 4, 0, 0), (18, .invokestatic 229, 156, 2), (21, .ifCond .eq 17, 38, 0)], 24),
  (24, [(24, .aload_n 0, 0, 0), (25, .iconst 0, 0, 0), (26, .iload_n 1, 0, 0), (27, .iload_n 2, 0, 0), (28, .iload_n 3, 0, 0), (29, .iload 4, 0, 0), (31, .iconst 0, 0, 0), (32, .invokevirtual 262, 219, 7), (35, .goto 4, 39, 0)], 38),
  (38, [(38, .iconst (-1), 1, 1)], 39),
  (39, [(39, .ireturn, 0, 0)], 40)]
theorem t_Mod_hold : z_chkM 220 b_Mod_hold = true := by decide +kernel
def b_Mod_away : List BK := [(0, [(0, .iload_n 1, 0, 0), (1, .invokestatic 212, 154, 1), (4, .ifCond .eq 24, 28, 0)], 7),
  (7, [(7, .iload_n 2, 0, 0), (8, .iload_n 3, 0, 0), (9, .invokestatic 229, 156, 2), (12, .ifCond .eq 16, 28, 0)], 15),
  (15, [(15, .aload_n 0, 0, 0), (16, .iconst 1, 1, 0), (17, .iload_n 1, 0, 0), (18, .iload_n 2, 0, 0), (19, .iload_n 3, 0, 0), (20, .iconst 0, 0, 0), (21, .iconst 0, 0, 0), (22, .invokevirtual 262, 219, 7), (25, .goto 4, 29, 0)], 28),
  (28, [(28, .iconst (-1), 1, 1)], 29),
  (29, [(29, .ireturn, 0, 0)], 30)]
theorem t_Mod_away : z_chkM 221 b_Mod_away = true := by decide +kernel
def b_Mod_stand : List BK := [(0, [(0, .iload_n 1, 0, 0), (1, .invokestatic 212, 154, 1), (4, .ifCond .eq 41, 45, 0)], 7),
  (7, [(7, .iload_n 2, 0, 0), (8, .invokestatic 212, 154, 1), (11, .ifCond .eq 34, 45, 0)], 14),
  (14, [(14, .iload_n 1, 0, 0), (15, .iload_n 2, 0, 0), (16, .if_icmp .eq 29, 45, 0)], 19),
  (19, [(19, .iload_n 3, 0, 0), (20, .iload 4, 0, 0), (22, .invokestatic 229, 156, 2), (25, .ifCond .eq 20, 45, 0)], 28),
  (28, [(28, .iload 5, 0, 0), (30, .i2l, 0, 0), (31, .lconst 0, 0, 0), (32, .ldc2_w 247, 9999, 2), (35, .invokestatic 57, 148, 3), (38, .ifCond .eq 7, 45, 0)], 41),
  (41, [(41, .iconst 1, 1, 0), (42, .goto 4, 46, 0)], 45),
  (45, [(45, .iconst 0, 0, 0)], 46),
  (46, [(46, .istore 6, 0, 0), (48, .iload 6, 0, 0), (50, .ifCond .eq 18, 68, 0)], 53),
  (53, [(53, .aload_n 0, 0, 0), (54, .iconst 2, 2, 0), (55, .iload_n 1, 0, 0), (56, .iload_n 2, 0, 0), (57, .iload_n 3, 0, 0), (58, .iload 4, 0, 0), (60, .iload 5, 0, 0), (62, .invokevirtual 262, 219, 7), (65, .goto 4, 69, 0)], 68),
  (68, [(68, .iconst (-1), 1, 1)], 69),
  (69, [(69, .ireturn, 0, 0)], 70)]
theorem t_Mod_stand : z_chkM 222 b_Mod_stand = true := by decide +kernel
def b_Mod_foe : List BK := [(0, [(0, .iload_n 1, 0, 0), (1, .invokestatic 212, 154, 1), (4, .ifCond .eq 15, 19, 0)], 7),
  (7, [(7, .iload_n 2, 0, 0), (8, .i2l, 0, 0), (9, .lconst 0, 0, 0), (10, .ldc2_w 265, 9, 2), (13, .invokestatic 57, 148, 3), (16, .ifCond .ne 5, 21, 0)], 19),
  (19, [(19, .iconst (-1), 1, 1), (20, .ireturn, 0, 0)], 21),
  (21, [(21, .iconst 0, 0, 0), (22, .istore_n 3, 0, 0)], 23),
  (23, [(23, .iload_n 3, 0, 0), (24, .aload_n 0, 0, 0), (25, .iconst 3, 3, 0), (26, .invokevirtual 79, 162, 2), (29, .if_icmp .ge 34, 63, 0)], 32),
  (32, [(32, .aload_n 0, 0, 0), (33, .iconst 3, 3, 0), (34, .iload_n 3, 0, 0), (35, .iconst 0, 0, 0), (36, .invokevirtual 82, 163, 4), (39, .iload_n 1, 0, 0), (40, .if_icmp .ne 17, 57, 0)], 43),
  (43, [(43, .aload_n 0, 0, 0), (44, .iconst 3, 3, 0), (45, .iload_n 3, 0, 0), (46, .iconst 1, 1, 0), (47, .invokevirtual 82, 163, 4), (50, .iload_n 2, 0, 0), (51, .if_icmp .ne 6, 57, 0)], 54),
  (54, [(54, .bipush (-2), 2, 1), (56, .ireturn, 0, 0)], 57),
  (57, [(57, .iinc 3 1, 1, 0), (60, .goto (-37), 23, 0)], 63),
  (63, [(63, .aload_n 0, 0, 0), (64, .iconst 3, 3, 0), (65, .iload_n 1, 0, 0), (66, .iload_n 2, 0, 0), (67, .iconst 0, 0, 0), (68, .iconst 0, 0, 0), (69, .iconst 0, 0, 0), (70, .invokevirtual 262, 219, 7), (73, .ireturn, 0, 0)], 74)]
theorem t_Mod_foe : z_chkM 223 b_Mod_foe = true := by decide +kernel
def b_Mod_drop : List BK := [(0, [(0, .aload_n 0, 0, 0), (1, .iload_n 1, 0, 0), (2, .iload_n 2, 0, 0), (3, .invokevirtual 183, 184, 3), (6, .ifCond .ne 5, 11, 0)], 9),
  (9, [(9, .iconst (-1), 1, 1), (10, .ireturn, 0, 0)], 11),
  (11, [(11, .aload_n 0, 0, 0), (12, .invokevirtual 249, 212, 1), (15, .aload_n 0, 0, 0), (16, .getfield 7, 0, 10), (19, .iconst 1, 1, 0), (20, .iload_n 1, 0, 0), (21, .iadd, 0, 0), (22, .dup2, 0, 0), (23, .iaload, 0, 0), (24, .iconst 1, 1, 0), (25, .isub, 0, 0), (26, .iastore, 0, 0), (27, .iload_n 1, 0, 0), (28, .invokestatic 76, 160, 1), (31, .istore_n 3, 0, 0), (32, .iload_n 1, 0, 0), (33, .invokestatic 72, 161, 1), (36, .istore 4, 0, 0), (38, .iload 4, 0, 0), (40, .iload_n 3, 0, 0), (41, .iload_n 2, 0, 0), (42, .imul, 0, 0), (43, .iadd, 0, 0), (44, .istore 5, 0, 0)], 46),
  (46, [(46, .iload 5, 0, 0), (48, .iload 4, 0, 0), (50, .iload_n 3, 0, 0), (51, .aload_n 0, 0, 0), (52, .iload_n 1, 0, 0), (53, .invokevirtual 79, 162, 2), (56, .imul, 0, 0), (57, .iadd, 0, 0), (58, .if_icmp .ge 25, 83, 0)], 61),
  (61, [(61, .aload_n 0, 0, 0), (62, .getfield 7, 0, 10), (65, .iload 5, 0, 0), (67, .aload_n 0, 0, 0), (68, .getfield 7, 0, 10), (71, .iload 5, 0, 0), (73, .iload_n 3, 0, 0), (74, .iadd, 0, 0), (75, .iaload, 0, 0), (76, .iastore, 0, 0), (77, .iinc 5 1, 1, 0), (80, .goto (-34), 46, 0)], 83),
  (83, [(83, .aload_n 0, 0, 0), (84, .iload_n 1, 0, 0), (85, .invokevirtual 79, 162, 2), (88, .ireturn, 0, 0)], 89)]
theorem t_Mod_drop : z_chkM 224 b_Mod_drop = true := by decide +kernel
def b_Mod_becomes : List BK := [(0, [(0, .aload_n 0, 0, 0), (1, .getfield 7, 0, 10), (4, .iload_n 1, 0, 0), (5, .iaload, 0, 0), (6, .istore_n 3, 0, 0), (7, .iload_n 3, 0, 0), (8, .iload_n 2, 0, 0), (9, .if_icmp .ne 6, 15, 0)], 12),
  (12, [(12, .bipush (-2), 2, 1), (14, .ireturn, 0, 0)], 15),
  (15, [(15, .aload_n 0, 0, 0), (16, .invokevirtual 249, 212, 1), (19, .aload_n 0, 0, 0), (20, .getfield 7, 0, 10), (23, .iload_n 1, 0, 0), (24, .iload_n 2, 0, 0), (25, .iastore, 0, 0), (26, .iload_n 3, 0, 0), (27, .ireturn, 0, 0)], 28)]
theorem t_Mod_becomes : z_chkM 225 b_Mod_becomes = true := by decide +kernel
def b_Mod_limit : List BK := [(0, [(0, .aload_n 0, 0, 0), (1, .iload_n 1, 0, 0), (2, .invokevirtual 172, 152, 2), (5, .ifCond .eq 45, 50, 0)], 8),
  (8, [(8, .iload_n 2, 0, 0), (9, .i2l, 0, 0), (10, .lconst 0, 0, 0), (11, .ldc2_w 218, 2, 2), (14, .invokestatic 57, 148, 3), (17, .ifCond .eq 33, 50, 0)], 20),
  (20, [(20, .iload_n 3, 0, 0), (21, .i2l, 0, 0), (22, .lconst 0, 0, 0), (23, .ldc2_w 247, 9999, 2), (26, .invokestatic 57, 148, 3), (29, .ifCond .eq 21, 50, 0)], 32),
  (32, [(32, .aload_n 0, 0, 0), (33, .bipush 9, 9, 0), (35, .iconst 4, 4, 0), (36, .iload_n 1, 0, 0), (37, .imul, 0, 0), (38, .iadd, 0, 0), (39, .iconst 1, 1, 0), (40, .iadd, 0, 0), (41, .iload_n 2, 0, 0), (42, .iadd, 0, 0), (43, .iload_n 3, 0, 0), (44, .invokevirtual 267, 225, 3), (47, .goto 4, 51, 0)], 50),
  (50, [(50, .iconst (-1), 1, 1)], 51),
  (51, [(51, .ireturn, 0, 0)], 52)]
theorem t_Mod_limit : z_chkM 226 b_Mod_limit = true := by decide +kernel
def b_Mod_highest : List BK := [(0, [(0, .iload_n 0, 0, 0), (1, .ifCond .ne 8, 9, 0)], 4),
  (4, [(4, .bipush 99, 99, 0), (6, .goto 15, 21, 0)], 9),
  (9, [(9, .iload_n 0, 0, 0), (10, .iconst 1, 1, 0), (11, .if_icmp .ne 8, 19, 0)], 14),
  (14, [(14, .bipush 9, 9, 0), (16, .goto 5, 21, 0)], 19),
  (19, [(19, .bipush 30, 30, 0)], 21),
  (21, [(21, .ireturn, 0, 0)], 22)]
theorem t_Mod_highest : z_chkM 227 b_Mod_highest = true := by decide +kernel
def b_Mod_set : List BK := [(0, [(0, .iload_n 1, 0, 0), (1, .i2l, 0, 0), (2, .lconst 0, 0, 0), (3, .ldc2_w 218, 2, 2), (6, .invokestatic 57, 148, 3), (9, .ifCond .eq 28, 37, 0)], 12),
  (12, [(12, .iload_n 2, 0, 0), (13, .i2l, 0, 0), (14, .lconst 0, 0, 0), (15, .iload_n 1, 0, 0), (16, .invokestatic 270, 227, 1), (19, .i2l, 0, 0), (20, .invokestatic 57, 148, 3), (23, .ifCond .eq 14, 37, 0)], 26),
  (26, [(26, .aload_n 0, 0, 0), (27, .iconst 5, 5, 0), (28, .iload_n 1, 0, 0), (29, .iadd, 0, 0), (30, .iload_n 2, 0, 0), (31, .invokevirtual 267, 225, 3), (34, .goto 4, 38, 0)], 37),
  (37, [(37, .iconst (-1), 1, 1)], 38),
  (38, [(38, .ireturn, 0, 0)], 39)]
theorem t_Mod_set : z_chkM 228 b_Mod_set = true := by decide +kernel
def b_Mod_undo : List BK := [(0, [(0, .aload_n 0, 0, 0), (1, .getfield 241, 2, 10), (4, .ifCond .ne 5, 9, 0)], 7),
  (7, [(7, .iconst (-1), 1, 1), (8, .ireturn, 0, 0)], 9),
  (9, [(9, .aload_n 0, 0, 0), (10, .dup, 0, 0), (11, .getfield 241, 2, 10), (14, .iconst 1, 1, 0), (15, .isub, 0, 0), (16, .putfield 241, 2, 10), (19, .iconst 0, 0, 0), (20, .istore_n 1, 0, 0)], 21),
  (21, [(21, .iload_n 1, 0, 0), (22, .sipush 657, 657, 0), (25, .if_icmp .ge 30, 55, 0)], 28),
  (28, [(28, .aload_n 0, 0, 0), (29, .getfield 7, 0, 10), (32, .iload_n 1, 0, 0), (33, .aload_n 0, 0, 0), (34, .getfield 13, 1, 10), (37, .sipush 657, 657, 0), (40, .aload_n 0, 0, 0), (41, .getfield 241, 2, 10), (44, .imul, 0, 0), (45, .iload_n 1, 0, 0), (46, .iadd, 0, 0), (47, .iaload, 0, 0), (48, .iastore, 0, 0), (49, .iinc 1 1, 1, 0), (52, .goto (-31), 21, 0)], 55),
  (55, [(55, .aload_n 0, 0, 0), (56, .getfield 241, 2, 10), (59, .ireturn, 0, 0)], 60)]
theorem t_Mod_undo : z_chkM 229 b_Mod_undo = true := by decide +kernel
def b_Mod_keep : List BK := [(0, [(0, .iload_n 1, 0, 0), (1, .i2l, 0, 0), (2, .lconst 0, 0, 0), (3, .lconst 1, 0, 0), (4, .invokestatic 57, 148, 3), (7, .ifCond .ne 5, 12, 0)], 10),
  (10, [(10, .iconst (-1), 1, 1), (11, .ireturn, 0, 0)], 12),
  (12, [(12, .iconst 0, 0, 0), (13, .istore_n 2, 0, 0)], 14),
  (14, [(14, .iload_n 2, 0, 0), (15, .sipush 657, 657, 0), (18, .if_icmp .ge 27, 45, 0)], 21),
  (21, [(21, .aload_n 0, 0, 0), (22, .getfield 16, 3, 10), (25, .sipush 657, 657, 0), (28, .iload_n 1, 0, 0), (29, .imul, 0, 0), (30, .iload_n 2, 0, 0), (31, .iadd, 0, 0), (32, .aload_n 0, 0, 0), (33, .getfield 7, 0, 10), (36, .iload_n 2, 0, 0), (37, .iaload, 0, 0), (38, .iastore, 0, 0), (39, .iinc 2 1, 1, 0), (42, .goto (-28), 14, 0)], 45),
  (45, [(45, .aload_n 0, 0, 0), (46, .getfield 19, 4, 10), (49, .iload_n 1, 0, 0), (50, .iconst 1, 1, 0), (51, .bastore, 0, 0), (52, .aload_n 0, 0, 0), (53, .invokevirtual 61, 151, 1), (56, .ireturn, 0, 0)], 57)]
theorem t_Mod_keep : z_chkM 230 b_Mod_keep = true := by decide +kernel
def b_Mod_back : List BK := [(0, [(0, .iload_n 1, 0, 0), (1, .i2l, 0, 0), (2, .lconst 0, 0, 0), (3, .lconst 1, 0, 0), (4, .invokestatic 57, 148, 3), (7, .ifCond .ne 5, 12, 0)], 10),
  (10, [(10, .iconst (-1), 1, 1), (11, .ireturn, 0, 0)], 12),
  (12, [(12, .aload_n 0, 0, 0), (13, .getfield 19, 4, 10), (16, .iload_n 1, 0, 0), (17, .baload, 0, 0), (18, .ifCond .ne 6, 24, 0)], 21),
  (21, [(21, .bipush (-2), 2, 1), (23, .ireturn, 0, 0)], 24),
  (24, [(24, .iconst 0, 0, 0), (25, .istore_n 2, 0, 0)], 26),
  (26, [(26, .iload_n 2, 0, 0), (27, .sipush 657, 657, 0), (30, .if_icmp .ge 27, 57, 0)], 33),
  (33, [(33, .aload_n 0, 0, 0), (34, .getfield 7, 0, 10), (37, .iload_n 2, 0, 0), (38, .aload_n 0, 0, 0), (39, .getfield 16, 3, 10), (42, .sipush 657, 657, 0), (45, .iload_n 1, 0, 0), (46, .imul, 0, 0), (47, .iload_n 2, 0, 0), (48, .iadd, 0, 0), (49, .iaload, 0, 0), (50, .iastore, 0, 0), (51, .iinc 2 1, 1, 0), (54, .goto (-28), 26, 0)], 57),
  (57, [(57, .aload_n 0, 0, 0), (58, .iconst 0, 0, 0), (59, .putfield 241, 2, 10), (62, .aload_n 0, 0, 0), (63, .invokevirtual 61, 151, 1), (66, .ireturn, 0, 0)], 67)]
theorem t_Mod_back : z_chkM 231 b_Mod_back = true := by decide +kernel
def b_Mod_puts4 : List BK := [(0, [(0, .bipush 24, 24, 0), (2, .istore_n 2, 0, 0)], 3),
  (3, [(3, .iload_n 2, 0, 0), (4, .ifCond .lt 32, 36, 0)], 7),
  (7, [(7, .aload_n 0, 0, 0), (8, .getfield 42, 20, 10), (11, .aload_n 0, 0, 0), (12, .getfield 244, 21, 10), (15, .iload_n 1, 0, 0), (16, .iload_n 2, 0, 0), (17, .ishr, 0, 0), (18, .i2b, 0, 0), (19, .bastore, 0, 0), (20, .aload_n 0, 0, 0), (21, .dup, 0, 0), (22, .getfield 244, 21, 10), (25, .iconst 1, 1, 0), (26, .iadd, 0, 0), (27, .putfield 244, 21, 10), (30, .iinc 2 (-8), 8, 1), (33, .goto (-30), 3, 0)], 36),
  (36, [(36, .return_, 0, 0)], 37)]
theorem t_Mod_puts4 : z_chkM 232 b_Mod_puts4 = true := by decide +kernel
def b_Mod_feed : List BK := [(0, [(0, .aload_n 0, 0, 0), (1, .getfield 244, 21, 10), (4, .sipush 380, 380, 0), (7, .if_icmp .le 5, 12, 0)], 10),
  (10, [(10, .iconst (-1), 1, 1), (11, .ireturn, 0, 0)], 12),
  (12, [(12, .aload_n 0, 0, 0), (13, .iload_n 1, 0, 0), (14, .invokevirtual 273, 232, 2), (17, .aload_n 0, 0, 0), (18, .iload_n 2, 0, 0), (19, .invokevirtual 273, 232, 2), (22, .aload_n 0, 0, 0), (23, .iload_n 3, 0, 0), (24, .invokevirtual 273, 232, 2), (27, .aload_n 0, 0, 0), (28, .iload 4, 0, 0), (30, .invokevirtual 273, 232, 2), (33, .aload_n 0, 0, 0), (34, .iload 5, 0, 0), (36, .invokevirtual 273, 232, 2), (39, .aload_n 0, 0, 0), (40, .getfield 244, 21, 10), (43, .ireturn, 0, 0)], 44)]
theorem t_Mod_feed : z_chkM 233 b_Mod_feed = true := by decide +kernel
def b_Mod_end : List BK := [(0, [(0, .iload_n 1, 0, 0), (1, .i2l, 0, 0), (2, .lconst 0, 0, 0), (3, .aload_n 0, 0, 0), (4, .getfield 244, 21, 10), (7, .i2l, 0, 0), (8, .invokestatic 57, 148, 3), (11, .ifCond .ne 5, 16, 0)], 14),
  (14, [(14, .iconst (-1), 1, 1), (15, .ireturn, 0, 0)], 16),
  (16, [(16, .aload_n 0, 0, 0), (17, .iload_n 1, 0, 0), (18, .putfield 244, 21, 10), (21, .iload_n 1, 0, 0), (22, .ireturn, 0, 0)], 23)]
theorem t_Mod_end : z_chkM 234 b_Mod_end = true := by decide +kernel
def b_Mod_byteAt : List BK := [(0, [(0, .iload_n 1, 0, 0), (1, .aload_n 0, 0, 0), (2, .getfield 244, 21, 10), (5, .if_icmp .ge 16, 21, 0)], 8),
  (8, [(8, .aload_n 0, 0, 0), (9, .getfield 42, 20, 10), (12, .iload_n 1, 0, 0), (13, .baload, 0, 0), (14, .sipush 255, 255, 0), (17, .iand, 0, 0), (18, .goto 4, 22, 0)], 21),
  (21, [(21, .iconst (-1), 1, 1)], 22),
  (22, [(22, .ireturn, 0, 0)], 23)]
theorem t_Mod_byteAt : z_chkM 235 b_Mod_byteAt = true := by decide +kernel
def b_Mod_nextByte : List BK := [(0, [(0, .aload_n 0, 0, 0), (1, .aload_n 0, 0, 0), (2, .getfield 276, 22, 10), (5, .invokevirtual 279, 235, 2), (8, .bipush 32, 32, 0), (10, .if_icmp .ne 16, 26, 0)], 13),
  (13, [(13, .aload_n 0, 0, 0), (14, .dup, 0, 0), (15, .getfield 276, 22, 10), (18, .iconst 1, 1, 0), (19, .iadd, 0, 0), (20, .putfield 276, 22, 10), (23, .goto (-23), 0, 0)], 26),
  (26, [(26, .aload_n 0, 0, 0), (27, .aload_n 0, 0, 0), (28, .getfield 276, 22, 10), (31, .invokevirtual 279, 235, 2), (34, .ireturn, 0, 0)], 35)]
theorem t_Mod_nextByte : z_chkM 236 b_Mod_nextByte = true := by decide +kernel
def b_Mod_fails : List BK := [(0, [(0, .aload_n 0, 0, 0), (1, .bipush 8, 8, 0), (3, .iload_n 2, 0, 0), (4, .imul, 0, 0), (5, .iload_n 1, 0, 0), (6, .iadd, 0, 0), (7, .putfield 282, 23, 10), (10, .iconst 0, 0, 0), (11, .ireturn, 0, 0)], 12)]
theorem t_Mod_fails : z_chkM 237 b_Mod_fails = true := by decide +kernel
def b_Mod_isWord : List BK := [(0, [(0, .aload_n 0, 0, 0), (1, .invokevirtual 285, 236, 1), (4, .iconst (-1), 1, 1), (5, .if_icmp .ne 10, 15, 0)], 8),
  (8, [(8, .aload_n 0, 0, 0), (9, .getfield 244, 21, 10), (12, .goto 7, 19, 0)], 15),
  (15, [(15, .aload_n 0, 0, 0), (16, .getfield 276, 22, 10)], 19),
  (19, [(19, .istore_n 2, 0, 0), (20, .iconst 0, 0, 0), (21, .istore_n 3, 0, 0)], 22),
  (22, [(22, .iload_n 3, 0, 0), (23, .aload_n 1, 0, 0), (24, .invokevirtual 288, 276, 1), (27, .if_icmp .ge 24, 51, 0)], 30),
  (30, [(30, .aload_n 0, 0, 0), (31, .iload_n 2, 0, 0), (32, .iload_n 3, 0, 0), (33, .iadd, 0, 0), (34, .invokevirtual 279, 235, 2), (37, .aload_n 1, 0, 0), (38, .iload_n 3, 0, 0), (39, .invokevirtual 293, 272, 2), (42, .if_icmp .ne 9, 51, 0)], 45),
  (45, [(45, .iinc 3 1, 1, 0), (48, .goto (-26), 22, 0)], 51),
  (51, [(51, .iload_n 3, 0, 0), (52, .aload_n 1, 0, 0), (53, .invokevirtual 288, 276, 1), (56, .if_icmp .ne 27, 83, 0)], 59),
  (59, [(59, .aload_n 0, 0, 0), (60, .iload_n 2, 0, 0), (61, .iload_n 3, 0, 0), (62, .iadd, 0, 0), (63, .invokevirtual 279, 235, 2), (66, .i2l, 0, 0), (67, .ldc2_w 297, 97, 2), (70, .ldc2_w 299, 122, 2), (73, .invokestatic 57, 148, 3), (76, .ifCond .ne 7, 83, 0)], 79),
  (79, [(79, .iconst 1, 1, 0), (80, .goto 4, 84, 0)], 83),
  (83, [(83, .iconst 0, 0, 0)], 84),
  (84, [(84, .ireturn, 0, 0)], 85)]
theorem t_Mod_isWord : z_chkM 238 b_Mod_isWord = true := by decide +kernel
def b_Mod_takes : List BK := [(0, [(0, .iload_n 2, 0, 0), (1, .ifCond .ne 13, 14, 0)], 4),
  (4, [(4, .aload_n 0, 0, 0), (5, .iconst 3, 3, 0), (6, .aload_n 0, 0, 0), (7, .getfield 276, 22, 10), (10, .invokevirtual 301, 237, 3), (13, .ireturn, 0, 0)], 14),
  (14, [(14, .aload_n 0, 0, 0), (15, .dup, 0, 0), (16, .getfield 276, 22, 10), (19, .aload_n 1, 0, 0), (20, .invokevirtual 288, 276, 1), (23, .iadd, 0, 0), (24, .putfield 276, 22, 10), (27, .iconst 1, 1, 0), (28, .ireturn, 0, 0)], 29)]
theorem t_Mod_takes : z_chkM 239 b_Mod_takes = true := by decide +kernel
def b_Mod_readsNumber : List BK := [(0, [(0, .aload_n 0, 0, 0), (1, .invokevirtual 285, 236, 1), (4, .i2l, 0, 0), (5, .ldc2_w 304, 48, 2), (8, .ldc2_w 306, 57, 2), (11, .invokestatic 57, 148, 3), (14, .ifCond .ne 13, 27, 0)], 17),
  (17, [(17, .aload_n 0, 0, 0), (18, .iconst 1, 1, 0), (19, .aload_n 0, 0, 0), (20, .getfield 276, 22, 10), (23, .invokevirtual 301, 237, 3), (26, .ireturn, 0, 0)], 27),
  (27, [(27, .aload_n 0, 0, 0), (28, .aload_n 0, 0, 0), (29, .getfield 276, 22, 10), (32, .putfield 308, 25, 10), (35, .aload_n 0, 0, 0), (36, .iconst 0, 0, 0), (37, .putfield 311, 24, 10)], 40),
  (40, [(40, .aload_n 0, 0, 0), (41, .aload_n 0, 0, 0), (42, .getfield 276, 22, 10), (45, .invokevirtual 279, 235, 2), (48, .i2l, 0, 0), (49, .ldc2_w 304, 48, 2), (52, .ldc2_w 306, 57, 2), (55, .invokestatic 57, 148, 3), (58, .ifCond .eq 49, 107, 0)], 61),
  (61, [(61, .aload_n 0, 0, 0), (62, .getfield 311, 24, 10), (65, .ldc_w 314, 100000, 1), (68, .if_icmp .ge 26, 94, 0)], 71),
  (71, [(71, .aload_n 0, 0, 0), (72, .bipush 10, 10, 0), (74, .aload_n 0, 0, 0), (75, .getfield 311, 24, 10), (78, .imul, 0, 0), (79, .aload_n 0, 0, 0), (80, .aload_n 0, 0, 0), (81, .getfield 276, 22, 10), (84, .invokevirtual 279, 235, 2), (87, .iadd, 0, 0), (88, .bipush 48, 48, 0), (90, .isub, 0, 0), (91, .putfield 311, 24, 10)], 94),
  (94, [(94, .aload_n 0, 0, 0), (95, .dup, 0, 0), (96, .getfield 276, 22, 10), (99, .iconst 1, 1, 0), (100, .iadd, 0, 0), (101, .putfield 276, 22, 10), (104, .goto (-64), 40, 0)], 107),
  (107, [(107, .aload_n 0, 0, 0), (108, .getfield 311, 24, 10), (111, .i2l, 0, 0), (112, .iload_n 1, 0, 0), (113, .i2l, 0, 0), (114, .iload_n 2, 0, 0), (115, .i2l, 0, 0), (116, .invokestatic 57, 148, 3), (119, .ifCond .ne 15, 134, 0)], 122),
  (122, [(122, .aload_n 0, 0, 0), (123, .iconst 2, 2, 0), (124, .aload_n 0, 0, 0), (125, .getfield 308, 25, 10), (128, .invokevirtual 301, 237, 3), (131, .ifCond .eq 7, 138, 0)], 134),
  (134, [(134, .iconst 1, 1, 0), (135, .goto 4, 139, 0)], 138),
  (138, [(138, .iconst 0, 0, 0)], 139),
  (139, [(139, .ireturn, 0, 0)], 140)]
theorem t_Mod_readsNumber : z_chkM 240 b_Mod_readsNumber = true := by decide +kernel
def b_Mod_readsTo : List BK := [(0, [(0, .aload_n 0, 0, 0), (1, .iload_n 2, 0, 0), (2, .iload_n 3, 0, 0), (3, .invokevirtual 315, 240, 3), (6, .ifCond .ne 5, 11, 0)], 9),
  (9, [(9, .iconst 0, 0, 0), (10, .ireturn, 0, 0)], 11),
  (11, [(11, .aload_n 0, 0, 0), (12, .getfield 46, 26, 10), (15, .iload_n 1, 0, 0), (16, .aload_n 0, 0, 0), (17, .getfield 311, 24, 10), (20, .iastore, 0, 0), (21, .iconst 1, 1, 0), (22, .ireturn, 0, 0)], 23)]
theorem t_Mod_readsTo : z_chkM 241 b_Mod_readsTo = true := by decide +kernel
def b_Mod_readsDays : List BK := [(0, [(0, .aload_n 0, 0, 0), (1, .iload_n 1, 0, 0), (2, .iconst 0, 0, 0), (3, .sipush 999, 999, 0), (6, .invokevirtual 318, 241, 4), (9, .ifCond .eq 26, 35, 0)], 12),
  (12, [(12, .aload_n 0, 0, 0), (13, .iload_n 1, 0, 0), (14, .iconst 1, 1, 0), (15, .iadd, 0, 0), (16, .aload_n 0, 0, 0), (17, .getfield 46, 26, 10), (20, .iload_n 1, 0, 0), (21, .iaload, 0, 0), (22, .sipush 999, 999, 0), (25, .invokevirtual 318, 241, 4), (28, .ifCond .eq 7, 35, 0)], 31),
  (31, [(31, .iconst 1, 1, 0), (32, .goto 4, 36, 0)], 35),
  (35, [(35, .iconst 0, 0, 0)], 36),
  (36, [(36, .ireturn, 0, 0)], 37)]
theorem t_Mod_readsDays : z_chkM 242 b_Mod_readsDays = true := by decide +kernel
def b_Mod_readsPost : List BK := [(0, [(0, .aload_n 0, 0, 0), (1, .getfield 46, 26, 10), (4, .iconst 0, 0, 0), (5, .iaload, 0, 0), (6, .istore_n 1, 0, 0), (7, .aload_n 0, 0, 0), (8, .ldc_w 322, 12, 0), (11, .iload_n 1, 0, 0), (12, .bipush 12, 12, 0), (14, .if_icmp .ge 7, 21, 0)], 17),
  (17, [(17, .iconst 1, 1, 0), (18, .goto 4, 22, 0)], 21),
  (21, [(21, .iconst 0, 0, 0)], 22),
  (22, [(22, .invokevirtual 324, 239, 3), (25, .ifCond .ne 5, 30, 0)], 28),
  (28, [(28, .iconst 0, 0, 0), (29, .ireturn, 0, 0)], 30),
  (30, [(30, .bipush 9, 9, 0), (32, .iconst 4, 4, 0), (33, .iload_n 1, 0, 0), (34, .imul, 0, 0), (35, .iadd, 0, 0), (36, .istore_n 2, 0, 0), (37, .aload_n 0, 0, 0), (38, .getfield 46, 26, 10), (41, .iload_n 2, 0, 0), (42, .iconst (-1), 1, 1), (43, .iastore, 0, 0), (44, .aload_n 0, 0, 0), (45, .ldc_w 328, 14, 0), (48, .invokevirtual 330, 238, 2), (51, .ifCond .eq 16, 67, 0)], 54),
  (54, [(54, .aload_n 0, 0, 0), (55, .dup, 0, 0), (56, .getfield 276, 22, 10), (59, .iconst 3, 3, 0), (60, .iadd, 0, 0), (61, .putfield 276, 22, 10), (64, .goto 17, 81, 0)], 67),
  (67, [(67, .aload_n 0, 0, 0), (68, .iload_n 2, 0, 0), (69, .iconst 0, 0, 0), (70, .iload_n 1, 0, 0), (71, .iconst 1, 1, 0), (72, .isub, 0, 0), (73, .invokevirtual 318, 241, 4), (76, .ifCond .ne 5, 81, 0)], 79),
  (79, [(79, .iconst 0, 0, 0), (80, .ireturn, 0, 0)], 81),
  (81, [(81, .iconst 0, 0, 0), (82, .istore_n 3, 0, 0)], 83),
  (83, [(83, .iload_n 3, 0, 0), (84, .iconst 3, 3, 0), (85, .if_icmp .ge 27, 112, 0)], 88),
  (88, [(88, .aload_n 0, 0, 0), (89, .iload_n 2, 0, 0), (90, .iconst 1, 1, 0), (91, .iadd, 0, 0), (92, .iload_n 3, 0, 0), (93, .iadd, 0, 0), (94, .iconst 0, 0, 0), (95, .sipush 9999, 9999, 0), (98, .invokevirtual 318, 241, 4), (101, .ifCond .ne 5, 106, 0)], 104),
  (104, [(104, .iconst 0, 0, 0), (105, .ireturn, 0, 0)], 106),
  (106, [(106, .iinc 3 1, 1, 0), (109, .goto (-26), 83, 0)], 112),
  (112, [(112, .aload_n 0, 0, 0), (113, .getfield 46, 26, 10), (116, .iconst 0, 0, 0), (117, .dup2, 0, 0), (118, .iaload, 0, 0), (119, .iconst 1, 1, 0), (120, .iadd, 0, 0), (121, .iastore, 0, 0), (122, .iconst 1, 1, 0), (123, .ireturn, 0, 0)], 124)]
theorem t_Mod_readsPost : z_chkM 243 b_Mod_readsPost = true := by decide +kernel
def b_Mod_readsHold : List BK := [(0, [(0, .aload_n 0, 0, 0), (1, .iload_n 1, 0, 0), (2, .iconst 0, 0, 0), (3, .aload_n 0, 0, 0), (4, .getfield 46, 26, 10), (7, .iconst 0, 0, 0), (8, .iaload, 0, 0), (9, .iconst 1, 1, 0), (10, .isub, 0, 0), (11, .invokevirtual 318, 241, 4), (14, .ifCond .eq 30, 44, 0)], 17),
  (17, [(17, .aload_n 0, 0, 0), (18, .iload_n 1, 0, 0), (19, .iconst 1, 1, 0), (20, .iadd, 0, 0), (21, .iconst 0, 0, 0), (22, .bipush 15, 15, 0), (24, .invokevirtual 318, 241, 4), (27, .ifCond .eq 17, 44, 0)], 30),
  (30, [(30, .aload_n 0, 0, 0), (31, .iload_n 1, 0, 0), (32, .iconst 2, 2, 0), (33, .iadd, 0, 0), (34, .invokevirtual 334, 242, 2), (37, .ifCond .eq 7, 44, 0)], 40),
  (40, [(40, .iconst 1, 1, 0), (41, .goto 4, 45, 0)], 44),
  (44, [(44, .iconst 0, 0, 0)], 45),
  (45, [(45, .ireturn, 0, 0)], 46)]
theorem t_Mod_readsHold : z_chkM 244 b_Mod_readsHold = true := by decide +kernel
def b_Mod_readsStand : List BK := [(0, [(0, .aload_n 0, 0, 0), (1, .iload_n 1, 0, 0), (2, .iconst 0, 0, 0), (3, .bipush 15, 15, 0), (5, .invokevirtual 318, 241, 4), (8, .ifCond .eq 16, 24, 0)], 11),
  (11, [(11, .aload_n 0, 0, 0), (12, .iload_n 1, 0, 0), (13, .iconst 1, 1, 0), (14, .iadd, 0, 0), (15, .iconst 0, 0, 0), (16, .bipush 15, 15, 0), (18, .invokevirtual 318, 241, 4), (21, .ifCond .ne 5, 26, 0)], 24),
  (24, [(24, .iconst 0, 0, 0), (25, .ireturn, 0, 0)], 26),
  (26, [(26, .aload_n 0, 0, 0), (27, .getfield 46, 26, 10), (30, .iload_n 1, 0, 0), (31, .iaload, 0, 0), (32, .aload_n 0, 0, 0), (33, .getfield 46, 26, 10), (36, .iload_n 1, 0, 0), (37, .iconst 1, 1, 0), (38, .iadd, 0, 0), (39, .iaload, 0, 0), (40, .if_icmp .ne 13, 53, 0)], 43),
  (43, [(43, .aload_n 0, 0, 0), (44, .iconst 2, 2, 0), (45, .aload_n 0, 0, 0), (46, .getfield 308, 25, 10), (49, .invokevirtual 301, 237, 3), (52, .ireturn, 0, 0)], 53),
  (53, [(53, .aload_n 0, 0, 0), (54, .iload_n 1, 0, 0), (55, .iconst 2, 2, 0), (56, .iadd, 0, 0), (57, .invokevirtual 334, 242, 2), (60, .ifCond .eq 21, 81, 0)], 63),
  (63, [(63, .aload_n 0, 0, 0), (64, .iload_n 1, 0, 0), (65, .iconst 4, 4, 0), (66, .iadd, 0, 0), (67, .iconst 0, 0, 0), (68, .sipush 9999, 9999, 0), (71, .invokevirtual 318, 241, 4), (74, .ifCond .eq 7, 81, 0)], 77),
  (77, [(77, .iconst 1, 1, 0), (78, .goto 4, 82, 0)], 81),
  (81, [(81, .iconst 0, 0, 0)], 82),
  (82, [(82, .ireturn, 0, 0)], 83)]
theorem t_Mod_readsStand : z_chkM 245 b_Mod_readsStand = true := by decide +kernel
def b_Mod_entryWord : List BK := [(0, [(0, .iload_n 0, 0, 0), (1, .tableswitch 39 0 2 #[27, 31, 35], 0, 0)], 28),
  (28, [(28, .ldc_w 337, 5, 0), (31, .areturn, 0, 0)], 32),
  (32, [(32, .ldc_w 339, 2, 0), (35, .areturn, 0, 0)], 36),
  (36, [(36, .ldc_w 341, 13, 0), (39, .areturn, 0, 0)], 40),
  (40, [(40, .ldc_w 343, 4, 0), (43, .areturn, 0, 0)], 44)]
theorem t_Mod_entryWord : z_chkM 246 b_Mod_entryWord = true := by decide +kernel
def b_Mod_readsEntry : List BK := [(0, [(0, .aload_n 0, 0, 0), (1, .getfield 46, 26, 10), (4, .iconst 1, 1, 0), (5, .iload_n 1, 0, 0), (6, .iadd, 0, 0), (7, .iaload, 0, 0), (8, .istore_n 2, 0, 0), (9, .aload_n 0, 0, 0), (10, .iload_n 1, 0, 0), (11, .invokestatic 345, 246, 1), (14, .iload_n 2, 0, 0), (15, .iload_n 1, 0, 0), (16, .invokestatic 259, 218, 1), (19, .if_icmp .ge 7, 26, 0)], 22),
  (22, [(22, .iconst 1, 1, 0), (23, .goto 4, 27, 0)], 26),
  (26, [(26, .iconst 0, 0, 0)], 27),
  (27, [(27, .invokevirtual 324, 239, 3), (30, .ifCond .ne 5, 35, 0)], 33),
  (33, [(33, .iconst 0, 0, 0), (34, .ireturn, 0, 0)], 35),
  (35, [(35, .iload_n 1, 0, 0), (36, .invokestatic 72, 161, 1), (39, .iload_n 1, 0, 0), (40, .invokestatic 76, 160, 1), (43, .iload_n 2, 0, 0), (44, .imul, 0, 0), (45, .iadd, 0, 0), (46, .istore_n 3, 0, 0), (47, .iconst 0, 0, 0), (48, .istore 4, 0, 0), (50, .iload_n 1, 0, 0), (51, .ifCond .ne 13, 64, 0)], 54),
  (54, [(54, .aload_n 0, 0, 0), (55, .iload_n 3, 0, 0), (56, .invokevirtual 349, 244, 2), (59, .istore 4, 0, 0), (61, .goto 85, 146, 0)], 64),
  (64, [(64, .iload_n 1, 0, 0), (65, .iconst 1, 1, 0), (66, .if_icmp .ne 34, 100, 0)], 69),
  (69, [(69, .aload_n 0, 0, 0), (70, .iload_n 3, 0, 0), (71, .iconst 0, 0, 0), (72, .bipush 15, 15, 0), (74, .invokevirtual 318, 241, 4), (77, .ifCond .eq 17, 94, 0)], 80),
  (80, [(80, .aload_n 0, 0, 0), (81, .iload_n 3, 0, 0), (82, .iconst 1, 1, 0), (83, .iadd, 0, 0), (84, .invokevirtual 334, 242, 2), (87, .ifCond .eq 7, 94, 0)], 90),
  (90, [(90, .iconst 1, 1, 0), (91, .goto 4, 95, 0)], 94),
  (94, [(94, .iconst 0, 0, 0)], 95),
  (95, [(95, .istore 4, 0, 0), (97, .goto 49, 146, 0)], 100),
  (100, [(100, .iload_n 1, 0, 0), (101, .iconst 2, 2, 0), (102, .if_icmp .ne 13, 115, 0)], 105),
  (105, [(105, .aload_n 0, 0, 0), (106, .iload_n 3, 0, 0), (107, .invokevirtual 352, 245, 2), (110, .istore 4, 0, 0), (112, .goto 34, 146, 0)], 115),
  (115, [(115, .aload_n 0, 0, 0), (116, .iload_n 3, 0, 0), (117, .iconst 0, 0, 0), (118, .bipush 15, 15, 0), (120, .invokevirtual 318, 241, 4), (123, .ifCond .eq 20, 143, 0)], 126),
  (126, [(126, .aload_n 0, 0, 0), (127, .iload_n 3, 0, 0), (128, .iconst 1, 1, 0), (129, .iadd, 0, 0), (130, .iconst 0, 0, 0), (131, .bipush 9, 9, 0), (133, .invokevirtual 318, 241, 4), (136, .ifCond .eq 7, 143, 0)], 139),
  (139, [(139, .iconst 1, 1, 0), (140, .goto 4, 144, 0)], 143),
  (143, [(143, .iconst 0, 0, 0)], 144),
  (144, [(144, .istore 4, 0, 0)], 146),
  (146, [(146, .iload 4, 0, 0), (148, .ifCond .eq 15, 163, 0)], 151),
  (151, [(151, .aload_n 0, 0, 0), (152, .getfield 46, 26, 10), (155, .iconst 1, 1, 0), (156, .iload_n 1, 0, 0), (157, .iadd, 0, 0), (158, .dup2, 0, 0), (159, .iaload, 0, 0), (160, .iconst 1, 1, 0), (161, .iadd, 0, 0), (162, .iastore, 0, 0)], 163),
  (163, [(163, .iload 4, 0, 0), (165, .ireturn, 0, 0)], 166)]
theorem t_Mod_readsEntry : z_chkM 247 b_Mod_readsEntry = true := by decide +kernel
def b_Mod_setWord : List BK := [(0, [(0, .iload_n 0, 0, 0), (1, .ifCond .ne 9, 10, 0)], 4),
  (4, [(4, .ldc_w 355, 18, 0), (7, .goto 17, 24, 0)], 10),
  (10, [(10, .iload_n 0, 0, 0), (11, .iconst 1, 1, 0), (12, .if_icmp .ne 9, 21, 0)], 15),
  (15, [(15, .ldc_w 357, 10, 0), (18, .goto 6, 24, 0)], 21),
  (21, [(21, .ldc_w 359, 17, 0)], 24),
  (24, [(24, .areturn, 0, 0)], 25)]
theorem t_Mod_setWord : z_chkM 248 b_Mod_setWord = true := by decide +kernel
def b_Mod_readsSet : List BK := [(0, [(0, .aload_n 0, 0, 0), (1, .iload_n 1, 0, 0), (2, .invokestatic 361, 248, 1), (5, .aload_n 0, 0, 0), (6, .getfield 364, 27, 10), (9, .iload_n 1, 0, 0), (10, .invokestatic 111, 149, 2), (13, .ifCond .ne 7, 20, 0)], 16),
  (16, [(16, .iconst 1, 1, 0), (17, .goto 4, 21, 0)], 20),
  (20, [(20, .iconst 0, 0, 0)], 21),
  (21, [(21, .invokevirtual 324, 239, 3), (24, .ifCond .ne 5, 29, 0)], 27),
  (27, [(27, .iconst 0, 0, 0), (28, .ireturn, 0, 0)], 29),
  (29, [(29, .aload_n 0, 0, 0), (30, .dup, 0, 0), (31, .getfield 364, 27, 10), (34, .iconst 1, 1, 0), (35, .iload_n 1, 0, 0), (36, .ishl, 0, 0), (37, .ior, 0, 0), (38, .putfield 364, 27, 10), (41, .aload_n 0, 0, 0), (42, .iconst 5, 5, 0), (43, .iload_n 1, 0, 0), (44, .iadd, 0, 0), (45, .iconst 0, 0, 0), (46, .iload_n 1, 0, 0), (47, .invokestatic 270, 227, 1), (50, .invokevirtual 318, 241, 4), (53, .ireturn, 0, 0)], 54)]
theorem t_Mod_readsSet : z_chkM 249 b_Mod_readsSet = true := by decide +kernel
def b_Mod_readsPart : List BK := [(0, [(0, .aload_n 0, 0, 0), (1, .ldc_w 322, 12, 0), (4, .invokevirtual 330, 238, 2), (7, .ifCond .eq 8, 15, 0)], 10),
  (10, [(10, .aload_n 0, 0, 0), (11, .invokevirtual 367, 243, 1), (14, .ireturn, 0, 0)], 15),
  (15, [(15, .iconst 0, 0, 0), (16, .istore_n 1, 0, 0)], 17),
  (17, [(17, .iload_n 1, 0, 0), (18, .iconst 4, 4, 0), (19, .if_icmp .ge 26, 45, 0)], 22),
  (22, [(22, .aload_n 0, 0, 0), (23, .iload_n 1, 0, 0), (24, .invokestatic 345, 246, 1), (27, .invokevirtual 330, 238, 2), (30, .ifCond .eq 9, 39, 0)], 33),
  (33, [(33, .aload_n 0, 0, 0), (34, .iload_n 1, 0, 0), (35, .invokevirtual 371, 247, 2), (38, .ireturn, 0, 0)], 39),
  (39, [(39, .iinc 1 1, 1, 0), (42, .goto (-25), 17, 0)], 45),
  (45, [(45, .iconst 0, 0, 0), (46, .istore_n 1, 0, 0)], 47),
  (47, [(47, .iload_n 1, 0, 0), (48, .iconst 3, 3, 0), (49, .if_icmp .ge 26, 75, 0)], 52),
  (52, [(52, .aload_n 0, 0, 0), (53, .iload_n 1, 0, 0), (54, .invokestatic 361, 248, 1), (57, .invokevirtual 330, 238, 2), (60, .ifCond .eq 9, 69, 0)], 63),
  (63, [(63, .aload_n 0, 0, 0), (64, .iload_n 1, 0, 0), (65, .invokevirtual 374, 249, 2), (68, .ireturn, 0, 0)], 69),
  (69, [(69, .iinc 1 1, 1, 0), (72, .goto (-25), 47, 0)], 75),
  (75, [(75, .aload_n 0, 0, 0), (76, .iconst 1, 1, 0), (77, .aload_n 0, 0, 0), (78, .getfield 276, 22, 10), (81, .invokevirtual 301, 237, 3), (84, .ireturn, 0, 0)], 85)]
theorem t_Mod_readsPart : z_chkM 250 b_Mod_readsPart = true := by decide +kernel
def b_Mod_readsAll : List BK := [(0, [(0, .aload_n 0, 0, 0), (1, .getfield 46, 26, 10), (4, .invokestatic 49, 147, 1), (7, .aload_n 0, 0, 0), (8, .iconst 0, 0, 0), (9, .putfield 276, 22, 10), (12, .aload_n 0, 0, 0), (13, .iconst 0, 0, 0), (14, .putfield 364, 27, 10), (17, .aload_n 0, 0, 0), (18, .invokevirtual 285, 236, 1), (21, .iconst (-1), 1, 1), (22, .if_icmp .ne 5, 27, 0)], 25),
  (25, [(25, .iconst 1, 1, 0), (26, .ireturn, 0, 0)], 27),
  (27, [(27, .aload_n 0, 0, 0), (28, .invokevirtual 377, 250, 1), (31, .istore_n 1, 0, 0)], 32),
  (32, [(32, .iload_n 1, 0, 0), (33, .ifCond .eq 30, 63, 0)], 36),
  (36, [(36, .aload_n 0, 0, 0), (37, .invokevirtual 285, 236, 1), (40, .bipush 59, 59, 0), (42, .if_icmp .ne 21, 63, 0)], 45),
  (45, [(45, .aload_n 0, 0, 0), (46, .dup, 0, 0), (47, .getfield 276, 22, 10), (50, .iconst 1, 1, 0), (51, .iadd, 0, 0), (52, .putfield 276, 22, 10), (55, .aload_n 0, 0, 0), (56, .invokevirtual 377, 250, 1), (59, .istore_n 1, 0, 0), (60, .goto (-28), 32, 0)], 63),
  (63, [(63, .iload_n 1, 0, 0), (64, .ifCond .eq 27, 91, 0)], 67),
  (67, [(67, .aload_n 0, 0, 0), (68, .invokevirtual 285, 236, 1), (71, .iconst (-1), 1, 1), (72, .if_icmp .eq 15, 87, 0)], 75),
  (75, [(75, .aload_n 0, 0, 0), (76, .iconst 1, 1, 0), (77, .aload_n 0, 0, 0), (78, .getfield 276, 22, 10), (81, .invokevirtual 301, 237, 3), (84, .ifCond .eq 7, 91, 0)], 87),
  (87, [(87, .iconst 1, 1, 0), (88, .goto 4, 92, 0)], 91),
  (91, [(91, .iconst 0, 0, 0)], 92),
  (92, [(92, .ireturn, 0, 0)], 93)]
theorem t_Mod_readsAll : z_chkM 251 b_Mod_readsAll = true := by decide +kernel
def b_Mod_tell : List BK := [(0, [(0, .aload_n 0, 0, 0), (1, .invokevirtual 380, 251, 1), (4, .istore_n 1, 0, 0), (5, .aload_n 0, 0, 0), (6, .iconst 0, 0, 0), (7, .putfield 244, 21, 10), (10, .iload_n 1, 0, 0), (11, .ifCond .ne 11, 22, 0)], 14),
  (14, [(14, .bipush (-2), 2, 1), (16, .aload_n 0, 0, 0), (17, .getfield 282, 23, 10), (20, .isub, 0, 0), (21, .ireturn, 0, 0)], 22),
  (22, [(22, .iconst 0, 0, 0), (23, .istore_n 2, 0, 0)], 24),
  (24, [(24, .iload_n 2, 0, 0), (25, .sipush 657, 657, 0), (28, .if_icmp .ge 21, 49, 0)], 31),
  (31, [(31, .aload_n 0, 0, 0), (32, .getfield 7, 0, 10), (35, .iload_n 2, 0, 0), (36, .aload_n 0, 0, 0), (37, .getfield 46, 26, 10), (40, .iload_n 2, 0, 0), (41, .iaload, 0, 0), (42, .iastore, 0, 0), (43, .iinc 2 1, 1, 0), (46, .goto (-22), 24, 0)], 49),
  (49, [(49, .aload_n 0, 0, 0), (50, .iconst 0, 0, 0), (51, .putfield 241, 2, 10), (54, .aload_n 0, 0, 0), (55, .invokevirtual 53, 150, 1), (58, .ireturn, 0, 0)], 59)]
theorem t_Mod_tell : z_chkM 252 b_Mod_tell = true := by decide +kernel
def b_Mod_soonest : List BK := [(0, [(0, .aload_n 0, 0, 0), (1, .iload_n 1, 0, 0), (2, .invokevirtual 186, 153, 2), (5, .ifCond .eq 30, 35, 0)], 8),
  (8, [(8, .iload_n 2, 0, 0), (9, .iload_n 3, 0, 0), (10, .invokestatic 229, 156, 2), (13, .ifCond .eq 22, 35, 0)], 16),
  (16, [(16, .iload_n 3, 0, 0), (17, .iload_n 2, 0, 0), (18, .bipush 60, 60, 0), (20, .iadd, 0, 0), (21, .if_icmp .gt 14, 35, 0)], 24),
  (24, [(24, .iload 4, 0, 0), (26, .i2l, 0, 0), (27, .lconst 0, 0, 0), (28, .lconst 1, 0, 0), (29, .invokestatic 57, 148, 3), (32, .ifCond .ne 5, 37, 0)], 35),
  (35, [(35, .iconst (-1), 1, 1), (36, .ireturn, 0, 0)], 37),
  (37, [(37, .sipush 377, 377, 0), (40, .bipush 7, 7, 0), (42, .iload_n 1, 0, 0), (43, .imul, 0, 0), (44, .iadd, 0, 0), (45, .iconst 5, 5, 0), (46, .iadd, 0, 0), (47, .istore 5, 0, 0), (49, .aload_n 0, 0, 0), (50, .getfield 7, 0, 10), (53, .iload 5, 0, 0), (55, .iaload, 0, 0), (56, .istore 6, 0, 0), (58, .bipush (-2), 2, 1), (60, .istore 7, 0, 0), (62, .bipush (-2), 2, 1), (64, .istore 8, 0, 0), (66, .iload_n 2, 0, 0), (67, .istore 9, 0, 0)], 69),
  (69, [(69, .iload 9, 0, 0), (71, .iload_n 3, 0, 0), (72, .if_icmp .gt 61, 133, 0)], 75),
  (75, [(75, .aload_n 0, 0, 0), (76, .getfield 7, 0, 10), (79, .iload 5, 0, 0), (81, .iload 9, 0, 0), (83, .iastore, 0, 0), (84, .aload_n 0, 0, 0), (85, .iload_n 1, 0, 0), (86, .invokevirtual 195, 178, 2), (89, .aload_n 0, 0, 0), (90, .getfield 147, 18, 10), (93, .ifCond .eq 34, 127, 0)], 96),
  (96, [(96, .iload 7, 0, 0), (98, .bipush (-2), 2, 1), (100, .if_icmp .eq 16, 116, 0)], 103),
  (103, [(103, .aload_n 0, 0, 0), (104, .iconst 1, 1, 0), (105, .invokevirtual 201, 179, 2), (108, .iload 8, 0, 0), (110, .if_icmp .lt 6, 116, 0)], 113),
  (113, [(113, .goto 14, 127, 0)], 116),
  (116, [(116, .iload 9, 0, 0), (118, .istore 7, 0, 0), (120, .aload_n 0, 0, 0), (121, .iconst 1, 1, 0), (122, .invokevirtual 201, 179, 2), (125, .istore 8, 0, 0)], 127),
  (127, [(127, .iinc 9 1, 1, 0), (130, .goto (-61), 69, 0)], 133),
  (133, [(133, .aload_n 0, 0, 0), (134, .getfield 7, 0, 10), (137, .iload 5, 0, 0), (139, .iload 6, 0, 0), (141, .iastore, 0, 0), (142, .iload 4, 0, 0), (144, .ifCond .ne 8, 152, 0)], 147),
  (147, [(147, .iload 7, 0, 0), (149, .goto 5, 154, 0)], 152),
  (152, [(152, .iload 8, 0, 0)], 154),
  (154, [(154, .ireturn, 0, 0)], 155)]
theorem t_Mod_soonest : z_chkM 253 b_Mod_soonest = true := by decide +kernel
def b_Mod_instead : List BK := [(0, [(0, .aload_n 0, 0, 0), (1, .iload_n 1, 0, 0), (2, .invokevirtual 186, 153, 2), (5, .ifCond .eq 23, 28, 0)], 8),
  (8, [(8, .aload_n 0, 0, 0), (9, .iload_n 2, 0, 0), (10, .invokevirtual 172, 152, 2), (13, .ifCond .eq 15, 28, 0)], 16),
  (16, [(16, .iload_n 3, 0, 0), (17, .i2l, 0, 0), (18, .lconst 0, 0, 0), (19, .ldc2_w 218, 2, 2), (22, .invokestatic 57, 148, 3), (25, .ifCond .ne 5, 30, 0)], 28),
  (28, [(28, .iconst (-1), 1, 1), (29, .ireturn, 0, 0)], 30),
  (30, [(30, .sipush 377, 377, 0), (33, .bipush 7, 7, 0), (35, .iload_n 1, 0, 0), (36, .imul, 0, 0), (37, .iadd, 0, 0), (38, .iconst 1, 1, 0), (39, .iadd, 0, 0), (40, .istore 4, 0, 0), (42, .aload_n 0, 0, 0), (43, .getfield 7, 0, 10), (46, .iload 4, 0, 0), (48, .iaload, 0, 0), (49, .istore 5, 0, 0), (51, .aload_n 0, 0, 0), (52, .getfield 7, 0, 10), (55, .iload 4, 0, 0), (57, .iload_n 2, 0, 0), (58, .iastore, 0, 0), (59, .aload_n 0, 0, 0), (60, .iload_n 1, 0, 0), (61, .invokevirtual 195, 178, 2), (64, .aload_n 0, 0, 0), (65, .getfield 7, 0, 10), (68, .iload 4, 0, 0), (70, .iload 5, 0, 0), (72, .iastore, 0, 0), (73, .aload_n 0, 0, 0), (74, .iload_n 3, 0, 0), (75, .invokevirtual 207, 191, 2), (78, .ireturn, 0, 0)], 79)]
theorem t_Mod_instead : z_chkM 254 b_Mod_instead = true := by decide +kernel
def b_Mod_isApprovedNow : List BK := [(0, [(0, .aload_n 0, 0, 0), (1, .iload_n 1, 0, 0), (2, .invokevirtual 195, 178, 2), (5, .aload_n 0, 0, 0), (6, .getfield 147, 18, 10), (9, .ireturn, 0, 0)], 10)]
theorem t_Mod_isApprovedNow : z_chkM 255 b_Mod_isApprovedNow = true := by decide +kernel
def b_Mod_fallsBy : List BK := [(0, [(0, .iconst 0, 0, 0), (1, .istore_n 2, 0, 0), (2, .iconst 0, 0, 0), (3, .istore_n 3, 0, 0)], 4),
  (4, [(4, .iload_n 3, 0, 0), (5, .aload_n 0, 0, 0), (6, .invokevirtual 61, 151, 1), (9, .if_icmp .ge 54, 63, 0)], 12),
  (12, [(12, .aload_n 0, 0, 0), (13, .iload_n 3, 0, 0), (14, .invokevirtual 204, 180, 2), (17, .ifCond .ne 40, 57, 0)], 20),
  (20, [(20, .aload_n 0, 0, 0), (21, .iload_n 3, 0, 0), (22, .invokevirtual 383, 255, 2), (25, .ifCond .ne 6, 31, 0)], 28),
  (28, [(28, .goto 29, 57, 0)], 31),
  (31, [(31, .aload_n 0, 0, 0), (32, .iload_n 1, 0, 0), (33, .putfield 23, 5, 10), (36, .iload_n 2, 0, 0), (37, .aload_n 0, 0, 0), (38, .iload_n 3, 0, 0), (39, .invokevirtual 383, 255, 2), (42, .ifCond .eq 7, 49, 0)], 45),
  (45, [(45, .iconst 0, 0, 0), (46, .goto 4, 50, 0)], 49),
  (49, [(49, .iconst 1, 1, 0)], 50),
  (50, [(50, .iadd, 0, 0), (51, .istore_n 2, 0, 0), (52, .aload_n 0, 0, 0), (53, .iconst (-1), 1, 1), (54, .putfield 23, 5, 10)], 57),
  (57, [(57, .iinc 3 1, 1, 0), (60, .goto (-56), 4, 0)], 63),
  (63, [(63, .iload_n 2, 0, 0), (64, .ireturn, 0, 0)], 65)]
theorem t_Mod_fallsBy : z_chkM 256 b_Mod_fallsBy = true := by decide +kernel
def b_Mod_pillar : List BK := [(0, [(0, .iload_n 1, 0, 0), (1, .i2l, 0, 0), (2, .lconst 0, 0, 0), (3, .lconst 1, 0, 0), (4, .invokestatic 57, 148, 3), (7, .ifCond .ne 5, 12, 0)], 10),
  (10, [(10, .iconst (-1), 1, 1), (11, .ireturn, 0, 0)], 12),
  (12, [(12, .bipush (-2), 2, 1), (14, .istore_n 2, 0, 0), (15, .iconst 0, 0, 0), (16, .istore_n 3, 0, 0), (17, .iconst 0, 0, 0), (18, .istore 4, 0, 0)], 20),
  (20, [(20, .iload 4, 0, 0), (22, .bipush 16, 16, 0), (24, .if_icmp .ge 32, 56, 0)], 27),
  (27, [(27, .aload_n 0, 0, 0), (28, .iload 4, 0, 0), (30, .invokevirtual 386, 256, 2), (33, .istore 5, 0, 0), (35, .iload 5, 0, 0), (37, .iload_n 3, 0, 0), (38, .if_icmp .gt 6, 44, 0)], 41),
  (41, [(41, .goto 9, 50, 0)], 44),
  (44, [(44, .iload 4, 0, 0), (46, .istore_n 2, 0, 0), (47, .iload 5, 0, 0), (49, .istore_n 3, 0, 0)], 50),
  (50, [(50, .iinc 4 1, 1, 0), (53, .goto (-33), 20, 0)], 56),
  (56, [(56, .iload_n 1, 0, 0), (57, .ifCond .eq 9, 66, 0)], 60),
  (60, [(60, .iload_n 2, 0, 0), (61, .bipush (-2), 2, 1), (63, .if_icmp .ne 7, 70, 0)], 66),
  (66, [(66, .iload_n 2, 0, 0), (67, .goto 4, 71, 0)], 70),
  (70, [(70, .iload_n 3, 0, 0)], 71),
  (71, [(71, .ireturn, 0, 0)], 72)]
theorem t_Mod_pillar : z_chkM 257 b_Mod_pillar = true := by decide +kernel
def b_Mod_gap : List BK := [(0, [(0, .aload_n 0, 0, 0), (1, .iload_n 1, 0, 0), (2, .invokevirtual 172, 152, 2), (5, .ifCond .eq 24, 29, 0)], 8),
  (8, [(8, .iload_n 2, 0, 0), (9, .iload_n 3, 0, 0), (10, .invokestatic 229, 156, 2), (13, .ifCond .eq 16, 29, 0)], 16),
  (16, [(16, .iload 4, 0, 0), (18, .i2l, 0, 0), (19, .lconst 0, 0, 0), (20, .ldc2_w 218, 2, 2), (23, .invokestatic 57, 148, 3), (26, .ifCond .ne 5, 31, 0)], 29),
  (29, [(29, .iconst (-1), 1, 1), (30, .ireturn, 0, 0)], 31),
  (31, [(31, .aload_n 0, 0, 0), (32, .iconst (-1), 1, 1), (33, .iconst (-1), 1, 1), (34, .invokevirtual 155, 169, 3), (37, .iconst 0, 0, 0), (38, .istore 5, 0, 0), (40, .bipush (-2), 2, 1), (42, .istore 6, 0, 0), (44, .iconst 0, 0, 0), (45, .istore 7, 0, 0), (47, .iconst 0, 0, 0), (48, .istore 8, 0, 0), (50, .iload_n 2, 0, 0), (51, .istore 9, 0, 0)], 53),
  (53, [(53, .iload 9, 0, 0), (55, .iload_n 3, 0, 0), (56, .if_icmp .gt 71, 127, 0)], 59),
  (59, [(59, .aload_n 0, 0, 0), (60, .iload_n 1, 0, 0), (61, .iload 9, 0, 0), (63, .invokevirtual 232, 207, 3), (66, .ifCond .eq 7, 73, 0)], 69),
  (69, [(69, .iconst 0, 0, 0), (70, .goto 7, 77, 0)], 73),
  (73, [(73, .iload 7, 0, 0), (75, .iconst 1, 1, 0), (76, .iadd, 0, 0)], 77),
  (77, [(77, .istore 7, 0, 0), (79, .iload 5, 0, 0), (81, .iload 7, 0, 0), (83, .ifCond .le 7, 90, 0)], 86),
  (86, [(86, .iconst 1, 1, 0), (87, .goto 4, 91, 0)], 90),
  (90, [(90, .iconst 0, 0, 0)], 91),
  (91, [(91, .iadd, 0, 0), (92, .istore 5, 0, 0), (94, .iload 7, 0, 0), (96, .ifCond .le 14, 110, 0)], 99),
  (99, [(99, .iload 6, 0, 0), (101, .bipush (-2), 2, 1), (103, .if_icmp .ne 7, 110, 0)], 106),
  (106, [(106, .iload 9, 0, 0), (108, .istore 6, 0, 0)], 110),
  (110, [(110, .iload 7, 0, 0), (112, .iload 8, 0, 0), (114, .if_icmp .le 7, 121, 0)], 117),
  (117, [(117, .iload 7, 0, 0), (119, .istore 8, 0, 0)], 121),
  (121, [(121, .iinc 9 1, 1, 0), (124, .goto (-71), 53, 0)], 127),
  (127, [(127, .iload 4, 0, 0), (129, .ifCond .ne 8, 137, 0)], 132),
  (132, [(132, .iload 5, 0, 0), (134, .goto 16, 150, 0)], 137),
  (137, [(137, .iload 4, 0, 0), (139, .iconst 1, 1, 0), (140, .if_icmp .ne 8, 148, 0)], 143),
  (143, [(143, .iload 6, 0, 0), (145, .goto 5, 150, 0)], 148),
  (148, [(148, .iload 8, 0, 0)], 150),
  (150, [(150, .ireturn, 0, 0)], 151)]
theorem t_Mod_gap : z_chkM 258 b_Mod_gap = true := by decide +kernel
def b_Mod_isDodged : List BK := [(0, [(0, .iload 5, 0, 0), (2, .istore 6, 0, 0), (4, .iconst 0, 0, 0), (5, .istore 7, 0, 0)], 7),
  (7, [(7, .iload 7, 0, 0), (9, .iload 4, 0, 0), (11, .if_icmp .ge 80, 91, 0)], 14),
  (14, [(14, .iload 6, 0, 0), (16, .sipush 999, 999, 0), (19, .if_icmp .le 5, 24, 0)], 22),
  (22, [(22, .iconst 0, 0, 0), (23, .ireturn, 0, 0)], 24),
  (24, [(24, .aload_n 0, 0, 0), (25, .iconst 0, 0, 0), (26, .putfield 141, 17, 10), (29, .aload_n 0, 0, 0), (30, .iconst 0, 0, 0), (31, .putfield 147, 18, 10), (34, .aload_n 0, 0, 0), (35, .iload_n 1, 0, 0), (36, .iload 6, 0, 0), (38, .iload_n 2, 0, 0), (39, .iload_n 3, 0, 0), (40, .iload 4, 0, 0), (42, .idiv, 0, 0), (43, .iload 7, 0, 0), (45, .iload_n 3, 0, 0), (46, .iload 4, 0, 0), (48, .irem, 0, 0), (49, .if_icmp .ge 7, 56, 0)], 52),
  (52, [(52, .iconst 1, 1, 0), (53, .goto 4, 57, 0)], 56),
  (56, [(56, .iconst 0, 0, 0)], 57),
  (57, [(57, .iadd, 0, 0), (58, .invokevirtual 159, 176, 5), (61, .istore 8, 0, 0), (63, .aload_n 0, 0, 0), (64, .getfield 147, 18, 10), (67, .ifCond .ne 5, 72, 0)], 70),
  (70, [(70, .iconst 0, 0, 0), (71, .ireturn, 0, 0)], 72),
  (72, [(72, .iload 6, 0, 0), (74, .aload_n 0, 0, 0), (75, .getfield 7, 0, 10), (78, .iconst 5, 5, 0), (79, .iaload, 0, 0), (80, .iconst 1, 1, 0), (81, .iadd, 0, 0), (82, .iadd, 0, 0), (83, .istore 6, 0, 0), (85, .iinc 7 1, 1, 0), (88, .goto (-81), 7, 0)], 91),
  (91, [(91, .iconst 1, 1, 0), (92, .ireturn, 0, 0)], 93)]
theorem t_Mod_isDodged : z_chkM 259 b_Mod_isDodged = true := by decide +kernel
def b_Mod_dodge : List BK := [(0, [(0, .iload_n 1, 0, 0), (1, .invokestatic 212, 154, 1), (4, .ifCond .eq 39, 43, 0)], 7),
  (7, [(7, .aload_n 0, 0, 0), (8, .iload_n 2, 0, 0), (9, .invokevirtual 172, 152, 2), (12, .ifCond .eq 31, 43, 0)], 15),
  (15, [(15, .iload_n 3, 0, 0), (16, .invokestatic 215, 192, 1), (19, .ifCond .eq 24, 43, 0)], 22),
  (22, [(22, .iload 4, 0, 0), (24, .i2l, 0, 0), (25, .lconst 1, 0, 0), (26, .ldc2_w 247, 9999, 2), (29, .invokestatic 57, 148, 3), (32, .ifCond .eq 11, 43, 0)], 35),
  (35, [(35, .iload 5, 0, 0), (37, .invokestatic 68, 155, 1), (40, .ifCond .ne 5, 45, 0)], 43),
  (43, [(43, .iconst (-1), 1, 1), (44, .ireturn, 0, 0)], 45),
  (45, [(45, .aload_n 0, 0, 0), (46, .iload_n 1, 0, 0), (47, .iload_n 3, 0, 0), (48, .bipush 10, 10, 0), (50, .irem, 0, 0), (51, .invokevirtual 155, 169, 3), (54, .iconst 1, 1, 0), (55, .istore 6, 0, 0)], 57),
  (57, [(57, .iload 6, 0, 0), (59, .bipush 40, 40, 0), (61, .if_icmp .gt 37, 98, 0)], 64),
  (64, [(64, .iload 6, 0, 0), (66, .iload 4, 0, 0), (68, .if_icmp .gt 30, 98, 0)], 71),
  (71, [(71, .aload_n 0, 0, 0), (72, .iload_n 2, 0, 0), (73, .iload_n 3, 0, 0), (74, .bipush 10, 10, 0), (76, .idiv, 0, 0), (77, .iload 4, 0, 0), (79, .iload 6, 0, 0), (81, .iload 5, 0, 0), (83, .invokevirtual 389, 259, 6), (86, .ifCond .eq 6, 92, 0)], 89),
  (89, [(89, .iload 6, 0, 0), (91, .ireturn, 0, 0)], 92),
  (92, [(92, .iinc 6 1, 1, 0), (95, .goto (-38), 57, 0)], 98),
  (98, [(98, .bipush (-2), 2, 1), (100, .ireturn, 0, 0)], 101)]
theorem t_Mod_dodge : z_chkM 260 b_Mod_dodge = true := by decide +kernel
def b_Mod_lineFrom : List BK := [(0, [(0, .iconst 0, 0, 0), (1, .istore 4, 0, 0), (3, .iconst 0, 0, 0), (4, .istore 5, 0, 0)], 6),
  (6, [(6, .iload 5, 0, 0), (8, .aload_n 0, 0, 0), (9, .iconst 2, 2, 0), (10, .invokevirtual 79, 162, 2), (13, .if_icmp .ge 100, 113, 0)], 16),
  (16, [(16, .aload_n 0, 0, 0), (17, .iconst 2, 2, 0), (18, .iload 5, 0, 0), (20, .iconst 1, 1, 0), (21, .invokevirtual 82, 163, 4), (24, .istore 6, 0, 0), (26, .aload_n 0, 0, 0), (27, .iconst 2, 2, 0), (28, .iload 5, 0, 0), (30, .iconst 0, 0, 0), (31, .invokevirtual 82, 163, 4), (34, .iload_n 1, 0, 0), (35, .if_icmp .ne 72, 107, 0)], 38),
  (38, [(38, .iload_n 3, 0, 0), (39, .i2l, 0, 0), (40, .aload_n 0, 0, 0), (41, .iconst 2, 2, 0), (42, .iload 5, 0, 0), (44, .iconst 2, 2, 0), (45, .invokevirtual 82, 163, 4), (48, .i2l, 0, 0), (49, .aload_n 0, 0, 0), (50, .iconst 2, 2, 0), (51, .iload 5, 0, 0), (53, .iconst 3, 3, 0), (54, .invokevirtual 82, 163, 4), (57, .i2l, 0, 0), (58, .invokestatic 57, 148, 3), (61, .ifCond .eq 46, 107, 0)], 64),
  (64, [(64, .iload_n 2, 0, 0), (65, .iload 6, 0, 0), (67, .invokestatic 111, 149, 2), (70, .ifCond .eq 6, 76, 0)], 73),
  (73, [(73, .goto 34, 107, 0)], 76),
  (76, [(76, .aload_n 0, 0, 0), (77, .iload 6, 0, 0), (79, .iload_n 2, 0, 0), (80, .iconst 1, 1, 0), (81, .iload 6, 0, 0), (83, .ishl, 0, 0), (84, .ior, 0, 0), (85, .iload_n 3, 0, 0), (86, .invokevirtual 393, 261, 4), (89, .istore 7, 0, 0), (91, .iload 7, 0, 0), (93, .iload 4, 0, 0), (95, .if_icmp .le 8, 103, 0)], 98),
  (98, [(98, .iload 7, 0, 0), (100, .goto 5, 105, 0)], 103),
  (103, [(103, .iload 4, 0, 0)], 105),
  (105, [(105, .istore 4, 0, 0)], 107),
  (107, [(107, .iinc 5 1, 1, 0), (110, .goto (-104), 6, 0)], 113),
  (113, [(113, .iload 4, 0, 0), (115, .iconst 1, 1, 0), (116, .iadd, 0, 0), (117, .ireturn, 0, 0)], 118)]
theorem t_Mod_lineFrom : z_chkM 261 b_Mod_lineFrom = true := by decide +kernel
def b_Mod_tangle : List BK := [(0, [(0, .iload_n 1, 0, 0), (1, .invokestatic 68, 155, 1), (4, .ifCond .ne 5, 9, 0)], 7),
  (7, [(7, .iconst (-1), 1, 1), (8, .ireturn, 0, 0)], 9),
  (9, [(9, .iconst 0, 0, 0), (10, .istore_n 2, 0, 0), (11, .iconst 0, 0, 0), (12, .istore_n 3, 0, 0)], 13),
  (13, [(13, .iload_n 3, 0, 0), (14, .bipush 16, 16, 0), (16, .if_icmp .ge 33, 49, 0)], 19),
  (19, [(19, .aload_n 0, 0, 0), (20, .iload_n 3, 0, 0), (21, .iconst 1, 1, 0), (22, .iload_n 3, 0, 0), (23, .ishl, 0, 0), (24, .iload_n 1, 0, 0), (25, .invokevirtual 393, 261, 4), (28, .istore 4, 0, 0), (30, .iload 4, 0, 0), (32, .iload_n 2, 0, 0), (33, .if_icmp .le 8, 41, 0)], 36),
  (36, [(36, .iload 4, 0, 0), (38, .goto 4, 42, 0)], 41),
  (41, [(41, .iload_n 2, 0, 0)], 42),
  (42, [(42, .istore_n 2, 0, 0), (43, .iinc 3 1, 1, 0), (46, .goto (-33), 13, 0)], 49),
  (49, [(49, .iload_n 2, 0, 0), (50, .iconst 2, 2, 0), (51, .if_icmp .ge 7, 58, 0)], 54),
  (54, [(54, .iconst 0, 0, 0), (55, .goto 4, 59, 0)], 58),
  (58, [(58, .iload_n 2, 0, 0)], 59),
  (59, [(59, .ireturn, 0, 0)], 60)]
theorem t_Mod_tangle : z_chkM 262 b_Mod_tangle = true := by decide +kernel
def b_Mod_spell : List BK := [(0, [(0, .aload_n 0, 0, 0), (1, .getfield 396, 28, 10), (4, .aload_n 0, 0, 0), (5, .getfield 399, 29, 10), (8, .if_icmp .ne 8, 16, 0)], 11),
  (11, [(11, .aload_n 0, 0, 0), (12, .iload_n 1, 0, 0), (13, .putfield 402, 30, 10)], 16),
  (16, [(16, .aload_n 0, 0, 0), (17, .dup, 0, 0), (18, .getfield 396, 28, 10), (21, .iconst 1, 1, 0), (22, .iadd, 0, 0), (23, .putfield 396, 28, 10), (26, .return_, 0, 0)], 27)]
theorem t_Mod_spell : z_chkM 263 b_Mod_spell = true := by decide +kernel
def b_Mod_spellWord : List BK := [(0, [(0, .iconst 0, 0, 0), (1, .istore_n 2, 0, 0)], 2),
  (2, [(2, .iload_n 2, 0, 0), (3, .aload_n 1, 0, 0), (4, .invokevirtual 288, 276, 1), (7, .if_icmp .ge 18, 25, 0)], 10),
  (10, [(10, .aload_n 0, 0, 0), (11, .aload_n 1, 0, 0), (12, .iload_n 2, 0, 0), (13, .invokevirtual 293, 272, 2), (16, .invokevirtual 405, 263, 2), (19, .iinc 2 1, 1, 0), (22, .goto (-20), 2, 0)], 25),
  (25, [(25, .return_, 0, 0)], 26)]
theorem t_Mod_spellWord : z_chkM 264 b_Mod_spellWord = true := by decide +kernel
def b_Mod_spellPart : List BK := [(0, [(0, .aload_n 0, 0, 0), (1, .getfield 396, 28, 10), (4, .ifCond .le 9, 13, 0)], 7),
  (7, [(7, .aload_n 0, 0, 0), (8, .bipush 59, 59, 0), (10, .invokevirtual 405, 263, 2)], 13),
  (13, [(13, .aload_n 0, 0, 0), (14, .aload_n 1, 0, 0), (15, .invokevirtual 408, 264, 2), (18, .return_, 0, 0)], 19)]
theorem t_Mod_spellPart : z_chkM 265 b_Mod_spellPart = true := by decide +kernel
def b_Mod_spellNumber : List BK := [(0, [(0, .aload_n 0, 0, 0), (1, .bipush 32, 32, 0), (3, .invokevirtual 405, 263, 2), (6, .iconst 1, 1, 0), (7, .istore_n 2, 0, 0)], 8),
  (8, [(8, .iload_n 1, 0, 0), (9, .iload_n 2, 0, 0), (10, .idiv, 0, 0), (11, .bipush 10, 10, 0), (13, .if_icmp .lt 11, 24, 0)], 16),
  (16, [(16, .iload_n 2, 0, 0), (17, .bipush 10, 10, 0), (19, .imul, 0, 0), (20, .istore_n 2, 0, 0), (21, .goto (-13), 8, 0)], 24),
  (24, [(24, .iload_n 2, 0, 0), (25, .ifCond .le 24, 49, 0)], 28),
  (28, [(28, .aload_n 0, 0, 0), (29, .bipush 48, 48, 0), (31, .iload_n 1, 0, 0), (32, .iload_n 2, 0, 0), (33, .idiv, 0, 0), (34, .bipush 10, 10, 0), (36, .irem, 0, 0), (37, .iadd, 0, 0), (38, .invokevirtual 405, 263, 2), (41, .iload_n 2, 0, 0), (42, .bipush 10, 10, 0), (44, .idiv, 0, 0), (45, .istore_n 2, 0, 0), (46, .goto (-22), 24, 0)], 49),
  (49, [(49, .return_, 0, 0)], 50)]
theorem t_Mod_spellNumber : z_chkM 266 b_Mod_spellNumber = true := by decide +kernel
def b_Mod_spellPost : List BK := [(0, [(0, .aload_n 0, 0, 0), (1, .ldc_w 322, 12, 0), (4, .invokevirtual 412, 265, 2), (7, .aload_n 0, 0, 0), (8, .iload_n 1, 0, 0), (9, .invokevirtual 163, 157, 2), (12, .iconst (-1), 1, 1), (13, .if_icmp .ne 13, 26, 0)], 16),
  (16, [(16, .aload_n 0, 0, 0), (17, .ldc_w 415, 1, 0), (20, .invokevirtual 408, 264, 2), (23, .goto 12, 35, 0)], 26),
  (26, [(26, .aload_n 0, 0, 0), (27, .aload_n 0, 0, 0), (28, .iload_n 1, 0, 0), (29, .invokevirtual 163, 157, 2), (32, .invokevirtual 417, 266, 2)], 35),
  (35, [(35, .iconst 0, 0, 0), (36, .istore_n 2, 0, 0)], 37),
  (37, [(37, .iload_n 2, 0, 0), (38, .iconst 3, 3, 0), (39, .if_icmp .ge 19, 58, 0)], 42),
  (42, [(42, .aload_n 0, 0, 0), (43, .aload_n 0, 0, 0), (44, .iload_n 1, 0, 0), (45, .iload_n 2, 0, 0), (46, .invokevirtual 124, 158, 3), (49, .invokevirtual 417, 266, 2), (52, .iinc 2 1, 1, 0), (55, .goto (-18), 37, 0)], 58),
  (58, [(58, .return_, 0, 0)], 59)]
theorem t_Mod_spellPost : z_chkM 267 b_Mod_spellPost = true := by decide +kernel
def b_Mod_spellEntry : List BK := [(0, [(0, .aload_n 0, 0, 0), (1, .iload_n 1, 0, 0), (2, .invokestatic 345, 246, 1), (5, .invokevirtual 412, 265, 2), (8, .iconst 0, 0, 0), (9, .istore_n 3, 0, 0)], 10),
  (10, [(10, .iload_n 3, 0, 0), (11, .iload_n 1, 0, 0), (12, .invokestatic 76, 160, 1), (15, .if_icmp .ge 20, 35, 0)], 18),
  (18, [(18, .aload_n 0, 0, 0), (19, .aload_n 0, 0, 0), (20, .iload_n 1, 0, 0), (21, .iload_n 2, 0, 0), (22, .iload_n 3, 0, 0), (23, .invokevirtual 82, 163, 4), (26, .invokevirtual 417, 266, 2), (29, .iinc 3 1, 1, 0), (32, .goto (-22), 10, 0)], 35),
  (35, [(35, .return_, 0, 0)], 36)]
theorem t_Mod_spellEntry : z_chkM 268 b_Mod_spellEntry = true := by decide +kernel
def b_Mod_spellSet : List BK := [(0, [(0, .aload_n 0, 0, 0), (1, .getfield 7, 0, 10), (4, .iconst 5, 5, 0), (5, .iload_n 1, 0, 0), (6, .iadd, 0, 0), (7, .iaload, 0, 0), (8, .iload_n 1, 0, 0), (9, .if_icmp .ne 4, 13, 0)], 12),
  (12, [(12, .return_, 0, 0)], 13),
  (13, [(13, .aload_n 0, 0, 0), (14, .iload_n 1, 0, 0), (15, .invokestatic 361, 248, 1), (18, .invokevirtual 412, 265, 2), (21, .aload_n 0, 0, 0), (22, .aload_n 0, 0, 0), (23, .getfield 7, 0, 10), (26, .iconst 5, 5, 0), (27, .iload_n 1, 0, 0), (28, .iadd, 0, 0), (29, .iaload, 0, 0), (30, .invokevirtual 417, 266, 2), (33, .return_, 0, 0)], 34)]
theorem t_Mod_spellSet : z_chkM 269 b_Mod_spellSet = true := by decide +kernel
def b_Mod_letter : List BK := [(0, [(0, .iload_n 1, 0, 0), (1, .iconst (-1), 1, 1), (2, .if_icmp .ge 5, 7, 0)], 5),
  (5, [(5, .iconst (-1), 1, 1), (6, .ireturn, 0, 0)], 7),
  (7, [(7, .aload_n 0, 0, 0), (8, .iconst 0, 0, 0), (9, .putfield 396, 28, 10), (12, .aload_n 0, 0, 0), (13, .iload_n 1, 0, 0), (14, .putfield 399, 29, 10), (17, .aload_n 0, 0, 0), (18, .bipush (-2), 2, 1), (20, .putfield 402, 30, 10), (23, .iconst 0, 0, 0), (24, .istore_n 2, 0, 0)], 25),
  (25, [(25, .iload_n 2, 0, 0), (26, .aload_n 0, 0, 0), (27, .invokevirtual 53, 150, 1), (30, .if_icmp .ge 14, 44, 0)], 33),
  (33, [(33, .aload_n 0, 0, 0), (34, .iload_n 2, 0, 0), (35, .invokevirtual 420, 267, 2), (38, .iinc 2 1, 1, 0), (41, .goto (-16), 25, 0)], 44),
  (44, [(44, .iconst 0, 0, 0), (45, .istore_n 2, 0, 0)], 46),
  (46, [(46, .iload_n 2, 0, 0), (47, .iconst 4, 4, 0), (48, .if_icmp .ge 32, 80, 0)], 51),
  (51, [(51, .iconst 0, 0, 0), (52, .istore_n 3, 0, 0)], 53),
  (53, [(53, .iload_n 3, 0, 0), (54, .aload_n 0, 0, 0), (55, .iload_n 2, 0, 0), (56, .invokevirtual 79, 162, 2), (59, .if_icmp .ge 15, 74, 0)], 62),
  (62, [(62, .aload_n 0, 0, 0), (63, .iload_n 2, 0, 0), (64, .iload_n 3, 0, 0), (65, .invokevirtual 423, 268, 3), (68, .iinc 3 1, 1, 0), (71, .goto (-18), 53, 0)], 74),
  (74, [(74, .iinc 2 1, 1, 0), (77, .goto (-31), 46, 0)], 80),
  (80, [(80, .iconst 0, 0, 0), (81, .istore_n 2, 0, 0)], 82),
  (82, [(82, .iload_n 2, 0, 0), (83, .iconst 3, 3, 0), (84, .if_icmp .ge 14, 98, 0)], 87),
  (87, [(87, .aload_n 0, 0, 0), (88, .iload_n 2, 0, 0), (89, .invokevirtual 426, 269, 2), (92, .iinc 2 1, 1, 0), (95, .goto (-13), 82, 0)], 98),
  (98, [(98, .iload_n 1, 0, 0), (99, .iconst (-1), 1, 1), (100, .if_icmp .ne 10, 110, 0)], 103),
  (103, [(103, .aload_n 0, 0, 0), (104, .getfield 396, 28, 10), (107, .goto 7, 114, 0)], 110),
  (110, [(110, .aload_n 0, 0, 0), (111, .getfield 402, 30, 10)], 114),
  (114, [(114, .ireturn, 0, 0)], 115)]
theorem t_Mod_letter : z_chkM 270 b_Mod_letter = true := by decide +kernel
end
section
def b_Lng_bitCount : List BK := [(0, [(0, .lload_n 0, 0, 0), (1, .lload_n 0, 0, 0), (2, .iconst 1, 1, 0), (3, .lushr, 0, 0), (4, .ldc2_w 314, 6148914691236517205, 2), (7, .land, 0, 0), (8, .lsub, 0, 0), (9, .lstore_n 0, 0, 0), (10, .lload_n 0, 0, 0), (11, .ldc2_w 316, 3689348814741910323, 2), (14, .land, 0, 0), (15, .lload_n 0, 0, 0), (16, .iconst 2, 2, 0), (17, .lushr, 0, 0), (18, .ldc2_w 316, 3689348814741910323, 2), (21, .land, 0, 0), (22, .ladd, 0, 0), (23, .lstore_n 0, 0, 0), (24, .lload_n 0, 0, 0), (25, .lload_n 0, 0, 0), (26, .iconst 4, 4, 0), (27, .lushr, 0, 0), (28, .ladd, 0, 0), (29, .ldc2_w 318, 1085102592571150095, 2), (32, .land, 0, 0), (33, .lstore_n 0, 0, 0), (34, .lload_n 0, 0, 0), (35, .lload_n 0, 0, 0), (36, .bipush 8, 8, 0), (38, .lushr, 0, 0), (39, .ladd, 0, 0), (40, .lstore_n 0, 0, 0), (41, .lload_n 0, 0, 0), (42, .lload_n 0, 0, 0), (43, .bipush 16, 16, 0), (45, .lushr, 0, 0), (46, .ladd, 0, 0), (47, .lstore_n 0, 0, 0), (48, .lload_n 0, 0, 0), (49, .lload_n 0, 0, 0), (50, .bipush 32, 32, 0), (52, .lushr, 0, 0), (53, .ladd, 0, 0), (54, .lstore_n 0, 0, 0), (55, .lload_n 0, 0, 0), (56, .l2i, 0, 0), (57, .bipush 127, 127, 0), (59, .iand, 0, 0), (60, .ireturn, 0, 0)], 61)]
theorem t_Lng_bitCount : z_chkM 271 b_Lng_bitCount = true := by decide +kernel
def b_Str_charAt : List BK := [(0, [(0, .aload_n 0, 0, 0), (1, .invokevirtual 492, 275, 1), (4, .ifCond .eq 12, 16, 0)], 7),
  (7, [(7, .aload_n 0, 0, 0), (8, .getfield 9, 0, 12), (11, .iload_n 1, 0, 0), (12, .invokestatic 495, 277, 2), (15, .ireturn, 0, 0)], 16),
  (16, [(16, .aload_n 0, 0, 0), (17, .getfield 9, 0, 12), (20, .iload_n 1, 0, 0), (21, .invokestatic 498, 9999, 0), (24, .ireturn, 0, 0)], 25)]
theorem t_Str_charAt : z_chkM 272 b_Str_charAt = true := by decide +kernel
def b_Str_checkIndex : List BK := [(0, [(0, .iload_n 0, 0, 0), (1, .iload_n 1, 0, 0), (2, .getstatic 1053, 7, 0), (5, .invokestatic 1059, 278, 3), (8, .pop, 0, 0), (9, .return_, 0, 0)], 10)]
theorem t_Str_checkIndex : z_chkM 273 b_Str_checkIndex = true := by decide +kernel
def b_Str_coder : List BK := [(0, [(0, .getstatic 38, 6, 0), (3, .ifCond .eq 10, 13, 0)], 6),
  (6, [(6, .aload_n 0, 0, 0), (7, .getfield 15, 1, 12), (10, .goto 4, 14, 0)], 13),
  (13, [(13, .iconst 1, 1, 0)], 14),
  (14, [(14, .ireturn, 0, 0)], 15)]
theorem t_Str_coder : z_chkM 274 b_Str_coder = true := by decide +kernel
def b_Str_isLatin1 : List BK := [(0, [(0, .getstatic 38, 6, 0), (3, .ifCond .eq 14, 17, 0)], 6),
  (6, [(6, .aload_n 0, 0, 0), (7, .getfield 15, 1, 12), (10, .ifCond .ne 7, 17, 0)], 13),
  (13, [(13, .iconst 1, 1, 0), (14, .goto 4, 18, 0)], 17),
  (17, [(17, .iconst 0, 0, 0)], 18),
  (18, [(18, .ireturn, 0, 0)], 19)]
theorem t_Str_isLatin1 : z_chkM 275 b_Str_isLatin1 = true := by decide +kernel
def b_Str_length : List BK := [(0, [(0, .aload_n 0, 0, 0), (1, .getfield 9, 0, 12), (4, .arraylength, 0, 0), (5, .aload_n 0, 0, 0), (6, .invokevirtual 335, 274, 1), (9, .ishr, 0, 0), (10, .ireturn, 0, 0)], 11)]
theorem t_Str_length : z_chkM 276 b_Str_length = true := by decide +kernel
def b_Lat_charAt : List BK := [(0, [(0, .iload_n 1, 0, 0), (1, .aload_n 0, 0, 0), (2, .arraylength, 0, 0), (3, .invokestatic 9, 273, 2), (6, .aload_n 0, 0, 0), (7, .iload_n 1, 0, 0), (8, .baload, 0, 0), (9, .sipush 255, 255, 0), (12, .iand, 0, 0), (13, .i2c, 0, 0), (14, .ireturn, 0, 0)], 15)]
theorem t_Lat_charAt : z_chkM 277 b_Lat_charAt = true := by decide +kernel
def b_Prec_checkIndex : List BK := [(0, [(0, .iload_n 0, 0, 0), (1, .ifCond .lt 8, 9, 0)], 4),
  (4, [(4, .iload_n 0, 0, 0), (5, .iload_n 1, 0, 0), (6, .if_icmp .lt 10, 16, 0)], 9),
  (9, [(9, .aload_n 2, 0, 0), (10, .iload_n 0, 0, 0), (11, .iload_n 1, 0, 0), (12, .invokestatic 95, 9999, 0), (15, .athrow, 0, 0)], 16),
  (16, [(16, .iload_n 0, 0, 0), (17, .ireturn, 0, 0)], 18)]
theorem t_Prec_checkIndex : z_chkM 278 b_Prec_checkIndex = true := by decide +kernel
end
section
/-! numbers: every int is iI of an Int -/
def iI (a : Int) : Int32 := Int32.ofInt a
def lI (a : Int) : Int64 := Int64.ofInt a
/-- in the ints' range -/
def ir (a : Int) : Prop := -2147483648 ≤ a ∧ a ≤ 2147483647
theorem iI_toInt {a : Int} (h1 : -2147483648 ≤ a) (h2 : a ≤ 2147483647) : (iI a).toInt = a := by
  unfold iI
  rw [Int32.toInt_ofInt]
  exact Int.bmod_eq_of_le (by have : Int32.size = 4294967296 := rfl; omega) (by have : Int32.size = 4294967296 := rfl; omega)
theorem iI_ex (x : Int32) : ∃ a : Int, (-2147483648 ≤ a ∧ a ≤ 2147483647) ∧ x = iI a := by
  refine ⟨x.toInt, ⟨?_, ?_⟩, ?_⟩
  · have := Int32.le_toInt x; simpa using this
  · have := Int32.toInt_lt x; simp at this; omega
  · exact (Int32.ofInt_toInt x).symm
theorem iI_nI (n : Nat) : nI n = iI (n : Int) := by
  unfold nI iI
  exact (Int32.ofInt_eq_ofNat ..).symm
theorem iI_0 : (0 : Int32) = iI 0 := by decide
theorem iI_1 : (1 : Int32) = iI 1 := by decide
theorem iI_m1 : (-1 : Int32) = iI (-1) := by decide
theorem iI_add (a b : Int) : iI a + iI b = iI (a + b) := (Int32.ofInt_add a b).symm
theorem iI_sub (a b : Int) : iI a - iI b = iI (a - b) := (Int32.ofInt_sub a b).symm
theorem iI_mul (a b : Int) : iI a * iI b = iI (a * b) := (Int32.ofInt_mul a b).symm
theorem iI_inj {a b : Int} (ha : -2147483648 ≤ a) (ha2 : a ≤ 2147483647) (hb : -2147483648 ≤ b) (hb2 : b ≤ 2147483647) : iI a = iI b ↔ a = b := by
  rw [← Int32.toInt_inj, iI_toInt ha ha2, iI_toInt hb hb2]
theorem iI_lt {a b : Int} (ha : -2147483648 ≤ a) (ha2 : a ≤ 2147483647) (hb : -2147483648 ≤ b) (hb2 : b ≤ 2147483647) : iI a < iI b ↔ a < b := by
  rw [Int32.lt_iff_toInt_lt, iI_toInt ha ha2, iI_toInt hb hb2]
theorem iI_le {a b : Int} (ha : -2147483648 ≤ a) (ha2 : a ≤ 2147483647) (hb : -2147483648 ≤ b) (hb2 : b ≤ 2147483647) : iI a ≤ iI b ↔ a ≤ b := by
  rw [Int32.le_iff_toInt_le, iI_toInt ha ha2, iI_toInt hb hb2]
theorem iI_cl {a : Int} (ha : 0 ≤ a) (ha2 : a ≤ 2147483647) : (iI a).toNatClampNeg = a.toNat := by
  show (iI a).toInt.toNat = a.toNat
  rw [iI_toInt (by omega) ha2]
theorem iI_in {a : Int} {n : Nat} (ha : -2147483648 ≤ a) (ha2 : a ≤ 2147483647) : vp_in (iI a) n ↔ 0 ≤ a ∧ a < (n : Int) := by
  rw [vp_in_iff, iI_toInt ha ha2]
theorem iI_div {a b : Int} (ha : 0 ≤ a) (ha2 : a ≤ 2147483647) (hb : 0 < b) (hb2 : b ≤ 2147483647) : iI a / iI b = iI (a / b) := by
  obtain ⟨n, rfl⟩ := Int.eq_ofNat_of_zero_le ha
  obtain ⟨m, rfl⟩ := Int.eq_ofNat_of_zero_le (Int.le_of_lt hb)
  rw [← iI_nI, ← iI_nI, pk_div (by omega) (by omega) (by omega), iI_nI]
  rfl
theorem iI_rem {a b : Int} (ha : 0 ≤ a) (ha2 : a ≤ 2147483647) (hb : 0 < b) (hb2 : b ≤ 2147483647) : iI a - iI a / iI b * iI b = iI (a % b) := by
  rw [iI_div ha ha2 hb hb2, iI_mul, iI_sub]
  congr 1
  rw [Int.emod_def, Int.mul_comm]
theorem lI_toInt {a : Int} (h1 : -9223372036854775808 ≤ a) (h2 : a ≤ 9223372036854775807) : (lI a).toInt = a := by
  unfold lI
  rw [Int64.toInt_ofInt]
  exact Int.bmod_eq_of_le (by have : Int64.size = 18446744073709551616 := rfl; omega) (by have : Int64.size = 18446744073709551616 := rfl; omega)
theorem lI_lN (n : Nat) : lN n = lI (n : Int) := by
  unfold lN lI
  exact (Int64.ofInt_eq_ofNat ..).symm
theorem lI_neg (n : Nat) : -(lN n) = lI (-(n : Int)) := by
  rw [lI_lN]
  exact (Int64.ofInt_neg ..).symm
theorem lI_of {a : Int} (h1 : -2147483648 ≤ a) (h2 : a ≤ 2147483647) : (iI a).toInt64 = lI a := by
  rw [← Int64.toInt_inj, Int32.toInt_toInt64, iI_toInt h1 h2, lI_toInt (by omega) (by omega)]
theorem lI_le {a b : Int} (ha : -9223372036854775808 ≤ a) (ha2 : a ≤ 9223372036854775807) (hb : -9223372036854775808 ≤ b) (hb2 : b ≤ 9223372036854775807) : lI a ≤ lI b ↔ a ≤ b := by
  rw [Int64.le_iff_toInt_le, lI_toInt ha ha2, lI_toInt hb hb2]
theorem lI_lt {a b : Int} (ha : -9223372036854775808 ≤ a) (ha2 : a ≤ 9223372036854775807) (hb : -9223372036854775808 ≤ b) (hb2 : b ≤ 9223372036854775807) : lI a < lI b ↔ a < b := by
  rw [Int64.lt_iff_toInt_lt, lI_toInt ha ha2, lI_toInt hb hb2]
theorem lI_inj {a b : Int} (ha : -9223372036854775808 ≤ a) (ha2 : a ≤ 9223372036854775807) (hb : -9223372036854775808 ≤ b) (hb2 : b ≤ 9223372036854775807) : lI a = lI b ↔ a = b := by
  rw [← Int64.toInt_inj, lI_toInt ha ha2, lI_toInt hb hb2]
/-! what a comparison of longs leaves -/
theorem lg_lt0 (x y : Int64) : lg_cmp x y < 0 ↔ x < y := by
  unfold lg_cmp
  split
  · next h => exact ⟨fun q => absurd q (by decide), fun q => by rw [gt_iff_lt] at h; rw [Int64.lt_iff_toInt_lt] at q h; omega⟩
  · split
    · next h => subst h; exact ⟨fun q => absurd q (by decide), fun q => by rw [Int64.lt_iff_toInt_lt] at q; omega⟩
    · next h1 h2 =>
      refine ⟨fun _ => ?_, fun _ => by decide⟩
      rw [gt_iff_lt] at h1
      rw [Int64.lt_iff_toInt_lt] at h1 ⊢
      rw [← Int64.toInt_inj] at h2
      omega
theorem lg_le0 (x y : Int64) : lg_cmp x y ≤ 0 ↔ x ≤ y := by
  unfold lg_cmp
  split
  · next h => exact ⟨fun q => absurd q (by decide), fun q => by rw [gt_iff_lt, Int64.lt_iff_toInt_lt] at h; rw [Int64.le_iff_toInt_le] at q; omega⟩
  · next h1 =>
    have : x ≤ y := by rw [gt_iff_lt, Int64.lt_iff_toInt_lt] at h1; rw [Int64.le_iff_toInt_le]; omega
    split
    · exact ⟨fun _ => this, fun _ => by decide⟩
    · exact ⟨fun _ => this, fun _ => by decide⟩
theorem lg_0le (x y : Int64) : 0 ≤ lg_cmp x y ↔ y ≤ x := lg_cmp_ge x y
theorem lg_0lt (x y : Int64) : 0 < lg_cmp x y ↔ y < x := by
  rw [← Int32.not_le, lg_le0, Int64.lt_iff_toInt_lt, Int64.le_iff_toInt_le]
  omega
theorem lg_eq0 (x y : Int64) : lg_cmp x y = 0 ↔ x = y := by
  unfold lg_cmp
  split
  · next h => exact ⟨fun q => absurd q (by decide), fun q => by subst q; rw [gt_iff_lt, Int64.lt_iff_toInt_lt] at h; omega⟩
  · split
    · next h => exact ⟨fun _ => h, fun _ => rfl⟩
    · next h => exact ⟨fun q => absurd q (by decide), fun q => absurd q h⟩
end
section
/-! bits of ints (the first rows began as rows of the kit's laws to paste) -/
theorem zb_or0 (a b : Nat) : nI a ||| nI b = nI (a ||| b) := by
  apply Int32.toBitVec_inj.1
  show BitVec.ofNat 32 a ||| BitVec.ofNat 32 b = BitVec.ofNat 32 (a ||| b)
  apply BitVec.eq_of_getLsbD_eq
  intro i hi
  simp [hi]
theorem zb_sl : ∀ n, n < 32 → ((nI n &&& 31).toBitVec.smod 32).toNat = n := by decide +kernel
theorem zb_or (a b : Nat) : iI (a : Int) ||| iI (b : Int) = iI ((a ||| b : Nat) : Int) := by rw [← iI_nI, ← iI_nI, ← iI_nI, zb_or0]
theorem zb_shl : ∀ a : Nat, a < 31 → iI 1 <<< (iI (a : Int) &&& 31) = iI ((2 ^ a : Nat) : Int) := by decide +kernel
theorem zb_bit {m j : Nat} (hm : m < 2147483648) (hj : j < 31) : (iI (m : Int) >>> (iI (j : Int) &&& 31)) &&& iI 1 = iI (if m.testBit j then 1 else 0) := by
  rw [← iI_nI, ← iI_nI, pk_shrN (by omega) _ j (zb_sl j (by omega))]
  have h1 : iI 1 = (1 : Int32) := by decide
  rw [h1, pk_andN (m := 1) (by have := Nat.div_le_self m (2 ^ j); omega) 1 (by decide)]
  rw [iI_nI]
  congr 1
  rw [Nat.testBit_eq_decide_div_mod_eq]
  have : m / 2 ^ j % 2 < 2 := Nat.mod_lt _ (by decide)
  by_cases h : m / 2 ^ j % 2 = 1
  · simp [h]
  · have h0 : m / 2 ^ j % 2 = 0 := by omega
    simp [h0]
theorem zb_lt {m j : Nat} (hm : m < 65536) (hj : j < 16) : m ||| 2 ^ j < 65536 := Nat.or_lt_two_pow (n := 16) hm (Nat.pow_lt_pow_right (by decide) hj)
theorem zb_test (m j i : Nat) : (m ||| 2 ^ j).testBit i = (m.testBit i || decide (j = i)) := by
  rw [Nat.testBit_or, Nat.testBit_two_pow]
/-! sets of small numbers as masks -/
def bitsF (P : Nat → Bool) (g : Nat → Nat) : Nat → Nat
  | 0 => 0
  | n + 1 => if P n then bitsF P g n ||| 2 ^ g n else bitsF P g n
theorem bitsF_lt {P : Nat → Bool} {g : Nat → Nat} {w : Nat} : ∀ {n : Nat}, (∀ k, k < n → P k = true → g k < w) → bitsF P g n < 2 ^ w
  | 0, _ => Nat.two_pow_pos w
  | n + 1, h => by
    have ih := bitsF_lt (P := P) (g := g) (n := n) (fun k hk => h k (by omega))
    unfold bitsF
    split
    · next hp => exact Nat.or_lt_two_pow ih (Nat.pow_lt_pow_right (by decide) (h n (by omega) hp))
    · exact ih
theorem bitsF_test {P : Nat → Bool} {g : Nat → Nat} {i : Nat} : ∀ {n : Nat}, (bitsF P g n).testBit i = true ↔ ∃ k, k < n ∧ P k = true ∧ g k = i
  | 0 => by simp [bitsF]
  | n + 1 => by
    have ih := bitsF_test (P := P) (g := g) (i := i) (n := n)
    unfold bitsF
    split
    · next hp =>
      rw [zb_test, Bool.or_eq_true, ih, decide_eq_true_iff]
      constructor
      · rintro (⟨k, h1, h2, h3⟩ | h)
        · exact ⟨k, by omega, h2, h3⟩
        · exact ⟨n, by omega, hp, h⟩
      · rintro ⟨k, h1, h2, h3⟩
        rcases Nat.lt_or_ge k n with q | q
        · exact Or.inl ⟨k, q, h2, h3⟩
        · rw [show k = n by omega] at h3; exact Or.inr h3
    · next hp =>
      rw [ih]
      constructor
      · rintro ⟨k, h1, h2, h3⟩; exact ⟨k, by omega, h2, h3⟩
      · rintro ⟨k, h1, h2, h3⟩
        rcases Nat.lt_or_ge k n with q | q
        · exact ⟨k, q, h2, h3⟩
        · rw [show k = n by omega] at h2; exact absurd h2 hp
/-! longs -/
theorem zl_tb (n : Nat) : (lN n).toBitVec = BitVec.ofNat 64 n := rfl
theorem zl_inj {a b : Int64} (h : a.toBitVec = b.toBitVec) : a = b := Int64.toBitVec_inj.1 h
theorem zl_c : ∀ k, k < 64 → ((nI k).toInt64 &&& 63) = lN k := by decide +kernel
theorem zl_sm : ∀ k, k < 64 → (BitVec.ofNat 64 k).smod 64 = BitVec.ofNat 64 k := by decide +kernel
theorem zl_or {a b : Nat} (ha : a < 2 ^ 64) (hb : b < 2 ^ 64) : lN a ||| lN b = lN (a ||| b) := by
  apply zl_inj
  rw [Int64.toBitVec_or, zl_tb, zl_tb, zl_tb]
  apply BitVec.eq_of_toNat_eq
  rw [BitVec.toNat_or, BitVec.toNat_ofNat, BitVec.toNat_ofNat, BitVec.toNat_ofNat, Nat.mod_eq_of_lt ha, Nat.mod_eq_of_lt hb, Nat.mod_eq_of_lt (Nat.or_lt_two_pow ha hb)]
theorem zl_and {a b : Nat} (ha : a < 2 ^ 64) (hb : b < 2 ^ 64) : lN a &&& lN b = lN (a &&& b) := by
  apply zl_inj
  rw [Int64.toBitVec_and, zl_tb, zl_tb, zl_tb]
  apply BitVec.eq_of_toNat_eq
  rw [BitVec.toNat_and, BitVec.toNat_ofNat, BitVec.toNat_ofNat, BitVec.toNat_ofNat, Nat.mod_eq_of_lt ha, Nat.mod_eq_of_lt hb, Nat.mod_eq_of_lt (Nat.lt_of_le_of_lt Nat.and_le_left ha)]
theorem zl_shl : ∀ k : Nat, k < 62 → lN 1 <<< ((iI (k : Int)).toInt64 &&& 63) = lN (2 ^ k) := by decide +kernel
theorem zl_shr {n k : Nat} (hn : n < 2 ^ 62) (hk : k < 64) : lN n >>> ((iI (k : Int)).toInt64 &&& 63) = lN (n / 2 ^ k) := by
  rw [← iI_nI, zl_c k hk]
  have hd : n / 2 ^ k ≤ n := Nat.div_le_self _ _
  apply Int64.toInt_inj.mp
  have hD : ((lN k).toBitVec.smod 64).toNat = k := by
    rw [zl_tb, zl_sm k hk, BitVec.toNat_ofNat, Nat.mod_eq_of_lt (by omega)]
  have e : (lN n >>> lN k).toInt = (lN n).toInt >>> k := by
    rw [show (lN n).toInt >>> k = (lN n).toInt >>> ((lN k).toBitVec.smod 64).toNat by rw [hD]]
    exact BitVec.toInt_sshiftRight ..
  rw [e, Int.shiftRight_eq_div_pow, pk_lT (by omega), pk_lT (by omega)]
  rfl
theorem zl_bit {m j : Nat} (hm : m < 2 ^ 62) (hj : j < 62) : (lN m >>> ((iI (j : Int)).toInt64 &&& 63)) &&& lN 1 = lN (if m.testBit j then 1 else 0) := by
  have hd := Nat.div_le_self m (2 ^ j)
  rw [zl_shr hm (by omega), zl_and (by omega) (by omega)]
  congr 1
  rw [Nat.testBit_eq_decide_div_mod_eq, Nat.and_one_is_mod]
  have : m / 2 ^ j % 2 < 2 := Nat.mod_lt _ (by decide)
  by_cases h : m / 2 ^ j % 2 = 1
  · simp [h]
  · have h0 : m / 2 ^ j % 2 = 0 := by omega
    simp [h0]
theorem zl_ne0 (b : Bool) : z_cond .ne (lg_cmp (lN (if b then 1 else 0)) (lN 0)) 0 ↔ b = true := by
  show ¬ lg_cmp _ _ = 0 ↔ _
  rw [lg_eq0]
  cases b <;> decide
theorem zl_eq0 (b : Bool) : z_cond .eq (lg_cmp (lN (if b then 1 else 0)) (lN 0)) 0 ↔ b = false := by
  show lg_cmp _ _ = 0 ↔ _
  rw [lg_eq0]
  cases b <;> decide
end
section
/-! THE MATHEMATICS: an order with its requests. M.1 d: how many rows of kind d (0 hold, 1 away, 2 stand, 3 foe, 4 post, 5 request); M.2.1 d k c: the cell; M.2.2 w: window, pace, wait -/
abbrev Od : Type := (Nat → Nat) × (Nat → Nat → Nat → Int) × (Nat → Nat)
def oW (d : Nat) : Nat := [4, 3, 5, 2, 4, 7].getD d 0
def oX (d : Nat) : Nat := [24, 24, 24, 16, 12, 40].getD d 0
def oB (d : Nat) : Nat := [0, 96, 168, 288, 320, 368].getD d 0
def oF (d : Nat) : Nat := [2, 1, 2].getD d 0
/-- the place of a cell in the class's row -/
def zi (d k c : Nat) : Nat := oB d + k * oW d + c
/-- the class's three rows hold M -/
def RS (f s t : Nat → Int32) (M : Od) : Prop :=
  (∀ d, d < 6 → s d = iI (M.1 d : Int) ∧ M.1 d ≤ oX d) ∧ (∀ d k c, d < 6 → k < M.1 d → c < oW d → f (zi d k c) = iI (M.2.1 d k c)) ∧ (∀ w, w < 3 → t w = iI (M.2.2 w : Int))
/-- all numbers are as the document has them -/
def OKM (M : Od) : Prop :=
  (∀ k, k < M.1 0 → 0 ≤ M.2.1 0 k 0 ∧ M.2.1 0 k 0 < M.1 4 ∧ 0 ≤ M.2.1 0 k 1 ∧ M.2.1 0 k 1 < 16 ∧ 0 ≤ M.2.1 0 k 2 ∧ M.2.1 0 k 2 ≤ M.2.1 0 k 3 ∧ M.2.1 0 k 3 ≤ 999) ∧
  (∀ k, k < M.1 1 → 0 ≤ M.2.1 1 k 0 ∧ M.2.1 1 k 0 < 16 ∧ 0 ≤ M.2.1 1 k 1 ∧ M.2.1 1 k 1 ≤ M.2.1 1 k 2 ∧ M.2.1 1 k 2 ≤ 999) ∧
  (∀ k, k < M.1 2 → 0 ≤ M.2.1 2 k 0 ∧ M.2.1 2 k 0 < 16 ∧ 0 ≤ M.2.1 2 k 1 ∧ M.2.1 2 k 1 < 16 ∧ M.2.1 2 k 0 ≠ M.2.1 2 k 1 ∧ 0 ≤ M.2.1 2 k 2 ∧ M.2.1 2 k 2 ≤ M.2.1 2 k 3 ∧ M.2.1 2 k 3 ≤ 999 ∧ 0 ≤ M.2.1 2 k 4 ∧ M.2.1 2 k 4 ≤ 9999) ∧
  (∀ k, k < M.1 3 → 0 ≤ M.2.1 3 k 0 ∧ M.2.1 3 k 0 < 16 ∧ 0 ≤ M.2.1 3 k 1 ∧ M.2.1 3 k 1 < 10) ∧
  (∀ k, k < M.1 4 → (M.2.1 4 k 0 = -2 ∨ (0 ≤ M.2.1 4 k 0 ∧ M.2.1 4 k 0 < k)) ∧ ∀ c, 1 ≤ c → c < 4 → 0 ≤ M.2.1 4 k c ∧ M.2.1 4 k c ≤ 9999) ∧
  (∀ k, k < M.1 5 → 0 ≤ M.2.1 5 k 0 ∧ M.2.1 5 k 0 < 16 ∧ 0 ≤ M.2.1 5 k 1 ∧ M.2.1 5 k 1 < M.1 4 ∧ 0 ≤ M.2.1 5 k 2 ∧ M.2.1 5 k 2 < 10 ∧ 0 ≤ M.2.1 5 k 3 ∧ M.2.1 5 k 3 < 3 ∧ 1 ≤ M.2.1 5 k 4 ∧ M.2.1 5 k 4 ≤ 9999 ∧ 0 ≤ M.2.1 5 k 5 ∧ M.2.1 5 k 5 ≤ 999 ∧ (M.2.1 5 k 6 = -2 ∨ (0 ≤ M.2.1 5 k 6 ∧ M.2.1 5 k 6 ≤ 999))) ∧
  M.2.2 0 ≤ 99 ∧ M.2.2 1 ≤ 9 ∧ M.2.2 2 ≤ 30 ∧ ∀ d, d < 6 → M.1 d ≤ oX d
theorem zi_lt {d k c : Nat} {M : Od} (hd : d < 6) (hk : k < M.1 d) (hx : M.1 d ≤ oX d) (hc : c < oW d) : zi d k c < 648 := by
  have key : ∀ d, d < 6 → ∀ c, c < oW d → oB d + (oX d - 1) * oW d + c < 648 ∧ 0 < oX d := by decide +kernel
  obtain ⟨h1, h2⟩ := key d hd c hc
  unfold zi
  have : k * oW d ≤ (oX d - 1) * oW d := Nat.mul_le_mul_right _ (by omega)
  omega
theorem RS.size {f s t : Nat → Int32} {M : Od} (h : RS f s t M) (d : Nat) (hd : d < 6) : s d = iI (M.1 d : Int) := (h.1 d hd).1
theorem RS.max {f s t : Nat → Int32} {M : Od} (h : RS f s t M) (d : Nat) (hd : d < 6) : M.1 d ≤ oX d := (h.1 d hd).2
theorem oX_le : ∀ d, oX d ≤ 40 := by
  intro d
  by_cases h : d < 6
  · have key : ∀ d, d < 6 → oX d ≤ 40 := by decide +kernel
    exact key d h
  · unfold oX; rw [List.getD_eq_getElem?_getD, List.getElem?_eq_none (by show 6 ≤ d; omega)]; exact Nat.zero_le _
theorem RS.max40 {f s t : Nat → Int32} {M : Od} (h : RS f s t M) (d : Nat) (hd : d < 6) : M.1 d ≤ 40 := Nat.le_trans (h.max d hd) (oX_le d)
/-! small numbers in the walk -/
theorem zn_i (t : Nat) : z_nn t 0 = iI (t : Int) := rfl
theorem zn_m (t u : Nat) : z_nn t (u + 1) = iI (-(t : Int)) := rfl
theorem zn_cl {t : Nat} (h : t < 2147483648) : (z_nn t 0).toNatClampNeg = t := by rw [zn_i, iI_cl (by omega) (by omega)]; omega
theorem zN_cl {t : Nat} (h : t < 2147483648) : (iI (t : Int)).toNatClampNeg = t := by rw [iI_cl (by omega) (by omega)]; omega
theorem zn_in {t n : Nat} (h : t < n) (h2 : t < 2147483648) : vp_in (z_nn t 0) n := by rw [zn_i, iI_in (by omega) (by omega)]; omega
theorem zN_in {t n : Nat} (h : t < n) (h2 : t < 2147483648) : vp_in (iI (t : Int)) n := by rw [iI_in (by omega) (by omega)]; omega
theorem zn_inc (k : Nat) : iI (k : Int) + z_nn 1 0 = iI ((k + 1 : Nat) : Int) := by rw [zn_i, iI_add]; rfl
/-! comparisons of the walk -/
theorem zc_lt {a b : Int} (h1 : -2147483648 ≤ a) (h2 : a ≤ 2147483647) (h3 : -2147483648 ≤ b) (h4 : b ≤ 2147483647) : z_cond .lt (iI a) (iI b) ↔ a < b := iI_lt h1 h2 h3 h4
theorem zc_ge {a b : Int} (h1 : -2147483648 ≤ a) (h2 : a ≤ 2147483647) (h3 : -2147483648 ≤ b) (h4 : b ≤ 2147483647) : z_cond .ge (iI a) (iI b) ↔ b ≤ a := iI_le h3 h4 h1 h2
theorem zc_gt {a b : Int} (h1 : -2147483648 ≤ a) (h2 : a ≤ 2147483647) (h3 : -2147483648 ≤ b) (h4 : b ≤ 2147483647) : z_cond .gt (iI a) (iI b) ↔ b < a := iI_lt h3 h4 h1 h2
theorem zc_le {a b : Int} (h1 : -2147483648 ≤ a) (h2 : a ≤ 2147483647) (h3 : -2147483648 ≤ b) (h4 : b ≤ 2147483647) : z_cond .le (iI a) (iI b) ↔ a ≤ b := iI_le h1 h2 h3 h4
theorem zc_eq {a b : Int} (h1 : -2147483648 ≤ a) (h2 : a ≤ 2147483647) (h3 : -2147483648 ≤ b) (h4 : b ≤ 2147483647) : z_cond .eq (iI a) (iI b) ↔ a = b := iI_inj h1 h2 h3 h4
theorem zc_ne {a b : Int} (h1 : -2147483648 ≤ a) (h2 : a ≤ 2147483647) (h3 : -2147483648 ≤ b) (h4 : b ≤ 2147483647) : z_cond .ne (iI a) (iI b) ↔ a ≠ b := not_congr (iI_inj h1 h2 h3 h4)
theorem zc_lt0 {a : Int} (h1 : -2147483648 ≤ a) (h2 : a ≤ 2147483647) : z_cond .lt (iI a) 0 ↔ a < 0 := by rw [iI_0]; exact zc_lt h1 h2 (by omega) (by omega)
theorem zc_ge0 {a : Int} (h1 : -2147483648 ≤ a) (h2 : a ≤ 2147483647) : z_cond .ge (iI a) 0 ↔ 0 ≤ a := by rw [iI_0]; exact zc_ge h1 h2 (by omega) (by omega)
theorem zc_gt0 {a : Int} (h1 : -2147483648 ≤ a) (h2 : a ≤ 2147483647) : z_cond .gt (iI a) 0 ↔ 0 < a := by rw [iI_0]; exact zc_gt h1 h2 (by omega) (by omega)
theorem zc_le0 {a : Int} (h1 : -2147483648 ≤ a) (h2 : a ≤ 2147483647) : z_cond .le (iI a) 0 ↔ a ≤ 0 := by rw [iI_0]; exact zc_le h1 h2 (by omega) (by omega)
theorem zc_eq0 {a : Int} (h1 : -2147483648 ≤ a) (h2 : a ≤ 2147483647) : z_cond .eq (iI a) 0 ↔ a = 0 := by rw [iI_0]; exact zc_eq h1 h2 (by omega) (by omega)
theorem zc_ne0 {a : Int} (h1 : -2147483648 ≤ a) (h2 : a ≤ 2147483647) : z_cond .ne (iI a) 0 ↔ a ≠ 0 := by rw [iI_0]; exact zc_ne h1 h2 (by omega) (by omega)
/-- a truth value -/
def bI (b : Bool) : Int32 := if b then iI 1 else iI 0
theorem bI_01 (b : Bool) : bI b = 0 ∨ bI b = 1 := by cases b <;> decide
theorem zc_bne (b : Bool) : z_cond .ne (bI b) 0 ↔ b = true := by show bI b ≠ 0 ↔ _; cases b <;> decide
theorem zc_beq (b : Bool) : z_cond .eq (bI b) 0 ↔ b = false := by show bI b = 0 ↔ _; cases b <;> decide
end
section
/-! State's small methods. Its world: the object, its three rows -/
def wS (f s t : Nat → Int32) : List AE := [.inr (.inr (6, [.ref 1, .ref 2, .ref 3])), .inl (0, 648, f), .inl (0, 6, s), .inl (0, 3, t)]
def pS : List (Nat × List Nat) := [(0, []), (0, [0]), (0, [1]), (0, [2])]
/-- a specification of a method of State that leaves it as it is -/
def spS (rk : Nat) (P : (Nat → Int32) → (Nat → Int32) → (Nat → Int32) → List Value → (Option Value → Prop) → Prop) : Sp := (rk, 0, 0, pS, fun as σ K => ∃ f s t, σ = wS f s t ∧ P f s t as (fun r => K r none))
theorem OKM.cell {M : Od} (h : OKM M) {d k c : Nat} (hd : d < 6) (hk : k < M.1 d) (hc : c < oW d) : -2 ≤ M.2.1 d k c ∧ M.2.1 d k c ≤ 9999 := by
  obtain ⟨h0, h1, h2, h3, h4, h5, h6, h7, h8, h9⟩ := h
  have hx : ∀ d, d < 6 → M.1 d ≤ 40 := fun d hd => Nat.le_trans (h9 d hd) (oX_le d)
  have w0 : oW 0 = 4 := rfl
  have w1 : oW 1 = 3 := rfl
  have w2 : oW 2 = 5 := rfl
  have w3 : oW 3 = 2 := rfl
  have w4 : oW 4 = 4 := rfl
  have w5 : oW 5 = 7 := rfl
  have x4 := hx 4 (by omega)
  match d, hd, hk, hc with
  | 0, _, hk, hc => have := h0 k hk; match c, hc with
    | 0, _ => omega
    | 1, _ => omega
    | 2, _ => omega
    | 3, _ => omega
    | c + 4, hc => omega
  | 1, _, hk, hc => have := h1 k hk; match c, hc with
    | 0, _ => omega
    | 1, _ => omega
    | 2, _ => omega
    | c + 3, hc => omega
  | 2, _, hk, hc => have := h2 k hk; match c, hc with
    | 0, _ => omega
    | 1, _ => omega
    | 2, _ => omega
    | 3, _ => omega
    | 4, _ => omega
    | c + 5, hc => omega
  | 3, _, hk, hc => have := h3 k hk; match c, hc with
    | 0, _ => omega
    | 1, _ => omega
    | c + 2, hc => omega
  | 4, _, hk, hc => have a := hx 4 (by omega); have := h4 k hk; match c, hc with
    | 0, _ => omega
    | c + 1, hc => have := this.2 (c + 1) (by omega) (by omega); omega
  | 5, _, hk, hc => have := h5 k hk; match c, hc with
    | 0, _ => omega
    | 1, _ => omega
    | 2, _ => omega
    | 3, _ => omega
    | 4, _ => omega
    | 5, _ => omega
    | 6, _ => omega
    | c + 7, hc => omega
  | d + 6, hd, _, _ => omega
def sp_has : Sp := spS 0 (fun f s t as K => ∃ (M : Od) (d : Nat) (k : Int), as = [.ref 0, .int (iI d), .int (iI k)] ∧ RS f s t M ∧ d < 6 ∧ ir k ∧ K (some (.int (bI (decide (0 ≤ k ∧ k < M.1 d))))))
theorem v_has (l : Launch) : z_V l 50 sp_has := by
  refine z_V.of (by decide +kernel) ?_
  rintro as σ K ⟨f, s, t, rfl, M, d, k, rfl, hR, hd, hk, hK⟩
  have hs := hR.size d hd
  have hm := hR.max40 d hd
  obtain ⟨k1, k2⟩ := hk
  refine AW.go (bs := b_State_has) [] 50 t_State_has ?_
  refine And.intro (fun h => ?_) (fun h => ?_)
  · rw [zc_lt0 k1 k2] at h
    refine And.intro (Or.inl rfl) (Or.inl ⟨rfl, ?_⟩)
    rwa [decide_eq_false (by omega)] at hK
  · rw [zc_lt0 k1 k2] at h
    refine And.intro (zN_in hd (by omega)) ?_
    refine And.intro (fun h2 => ?_) (fun h2 => ?_)
    · rw [zN_cl (by omega), hs, zc_ge k1 k2 (by omega) (by omega)] at h2
      refine And.intro (Or.inl rfl) (Or.inl ⟨rfl, ?_⟩)
      rwa [decide_eq_false (by omega)] at hK
    · rw [zN_cl (by omega), hs, zc_ge k1 k2 (by omega) (by omega)] at h2
      refine And.intro (Or.inr rfl) (Or.inl ⟨rfl, ?_⟩)
      rwa [decide_eq_true (by omega)] at hK
theorem zi_eq (d k c : Nat) : iI ((oB d : Nat) : Int) + iI (k : Int) * iI ((oW d : Nat) : Int) + iI (c : Int) = iI ((zi d k c : Nat) : Int) := by
  rw [iI_mul, iI_add, iI_add]; rfl
/-- a value of a static table -/
theorem z_tab {d : Nat} (xs : List Nat) (hd : d < 2147483648) : nI (xs.getD (iI (d : Int)).toNatClampNeg 0) = iI ((xs.getD d 0 : Nat) : Int) := by
  rw [zN_cl hd, iI_nI]
def sp_cell : Sp := spS 0 (fun f s t as K => ∃ (M : Od) (d k c : Nat), as = [.ref 0, .int (iI d), .int (iI k), .int (iI c)] ∧ RS f s t M ∧ d < 6 ∧ k < M.1 d ∧ c < oW d ∧ K (some (.int (iI (M.2.1 d k c)))))
theorem v_cell (l : Launch) : z_V l 52 sp_cell := by
  refine z_V.of (by decide +kernel) ?_
  rintro as σ K ⟨f, s, t, rfl, M, d, k, c, rfl, hR, hd, hk, hc, hK⟩
  have hz := zi_lt hd hk (hR.max d hd) hc
  have e := zi_eq d k c
  refine AW.go (bs := b_State_cell) [] 50 t_State_cell ?_
  refine And.intro (zN_in hd (by omega)) ?_
  refine And.intro (zN_in hd (by omega)) ?_
  have e2 : nI ([0, 96, 168, 288, 320, 368].getD (iI (d : Int)).toNatClampNeg 0) + iI (k : Int) * nI ([4, 3, 5, 2, 4, 7].getD (iI (d : Int)).toNatClampNeg 0) + iI (c : Int) = iI ((zi d k c : Nat) : Int) := by
    rw [z_tab _ (by omega), z_tab _ (by omega)]; exact e
  show _ ∧ _
  rw [e2]
  refine And.intro (zN_in hz (by omega)) (Or.inl ⟨rfl, ?_⟩)
  rw [zN_cl (by omega), hR.2.1 d k c hd hk hc]
  exact hK
def sp_isFull : Sp := spS 0 (fun f s t as K => ∃ (M : Od) (d : Nat), as = [.ref 0, .int (iI d)] ∧ RS f s t M ∧ d < 6 ∧ K (some (.int (bI (decide (oX d ≤ M.1 d))))))
theorem v_isFull (l : Launch) : z_V l 51 sp_isFull := by
  refine z_V.of (by decide +kernel) ?_
  rintro as σ K ⟨f, s, t, rfl, M, d, rfl, hR, hd, hK⟩
  have hs := hR.size d hd
  have hm := hR.max40 d hd
  have hx := oX_le d
  refine AW.go (bs := b_State_isFull) [] 50 t_State_isFull ?_
  refine And.intro (zN_in hd (by omega)) ?_
  refine And.intro (zN_in hd (by omega)) ?_
  have e2 : nI ([24, 24, 24, 16, 12, 40].getD (iI (d : Int)).toNatClampNeg 0) = iI ((oX d : Nat) : Int) := z_tab _ (by omega)
  rw [e2, zN_cl (by omega), hs]
  refine And.intro (fun h => ?_) (fun h => ?_)
  · rw [zc_lt (by omega) (by omega) (by omega) (by omega)] at h
    refine And.intro (Or.inl rfl) (Or.inl ⟨rfl, ?_⟩)
    rwa [decide_eq_false (by omega)] at hK
  · rw [zc_lt (by omega) (by omega) (by omega) (by omega)] at h
    refine And.intro (Or.inr rfl) (Or.inl ⟨rfl, ?_⟩)
    rwa [decide_eq_true (by omega)] at hK
def sp_isRecalled : Sp := spS 1 (fun f s t as K => ∃ (M : Od) (k : Nat), as = [.ref 0, .int (iI k)] ∧ RS f s t M ∧ OKM M ∧ k < M.1 5 ∧ K (some (.int (bI (decide (M.2.1 5 k 6 ≠ -2))))))
theorem v_isRecalled (l : Launch) : z_V l 57 sp_isRecalled := by
  refine z_V.of (by decide +kernel) ?_
  rintro as σ K ⟨f, s, t, rfl, M, k, rfl, hR, hO, hk, hK⟩
  have hc := hO.cell (c := 6) (by omega : 5 < 6) hk (by decide)
  refine AW.go (bs := b_State_isRecalled) [] 50 t_State_isRecalled ?_
  refine ⟨_, v_cell l, by decide, f, s, t, rfl, M, 5, k, 6, rfl, hR, by omega, hk, by decide, ?_⟩
  refine And.intro (fun h => ?_) (fun h => ?_)
  · have h := (zc_eq (by omega) (by omega) (by omega) (by omega)).mp h
    refine And.intro (Or.inl rfl) (Or.inl ⟨rfl, ?_⟩)
    rwa [decide_eq_false (by omega)] at hK
  · have h := mt (zc_eq (by omega) (by omega) (by omega) (by omega)).mpr h
    refine And.intro (Or.inr rfl) (Or.inl ⟨rfl, ?_⟩)
    rwa [decide_eq_true (by omega)] at hK
end
section
/-! who holds a post, who is away, who is a foe -/
def cov (M : Od) (d k : Nat) (day : Int) : Bool := decide (M.2.1 d k (oF d) ≤ day) && decide (day ≤ M.2.1 d k (oF d + 1))
theorem oF_lt : ∀ d, d < 3 → oF d + 1 < oW d := by decide +kernel
def sp_covers : Sp := spS 0 (fun f s t as K => ∃ (M : Od) (d k : Nat) (day : Int), as = [.ref 0, .int (iI d), .int (iI k), .int (iI day)] ∧ RS f s t M ∧ OKM M ∧ d < 3 ∧ k < M.1 d ∧ ir day ∧ K (some (.int (bI (cov M d k day)))))
theorem v_covers (l : Launch) : z_V l 60 sp_covers := by
  refine z_V.of (by decide +kernel) ?_
  rintro as σ K ⟨f, s, t, rfl, M, d, k, day, rfl, hR, hO, hd, hk, ⟨d1, d2⟩, hK⟩
  have hf := oF_lt d hd
  have hz := zi_lt (by omega : d < 6) hk (hR.max d (by omega)) hf
  have ez : zi d k (oF d + 1) = zi d k (oF d) + 1 := rfl
  have c1 := hO.cell (by omega : d < 6) hk (by omega : oF d < oW d)
  have c2 := hO.cell (by omega : d < 6) hk hf
  have r1 := hR.2.1 d k (oF d) (by omega) hk (by omega)
  have r2 := hR.2.1 d k (oF d + 1) (by omega) hk hf
  refine AW.go (bs := b_State_covers) [] 60 t_State_covers ?_
  refine And.intro (zN_in (by show d < 6; omega) (by omega)) ?_
  refine And.intro (zN_in (by show d < 6; omega) (by omega)) ?_
  refine And.intro (zN_in hd (by omega)) ?_
  show _ ∧ _
  have e2 : nI ([0, 96, 168, 288, 320, 368].getD (iI (d : Int)).toNatClampNeg 0) + iI (k : Int) * nI ([4, 3, 5, 2, 4, 7].getD (iI (d : Int)).toNatClampNeg 0) + nI ([2, 1, 2].getD (iI (d : Int)).toNatClampNeg 0) = iI ((zi d k (oF d) : Nat) : Int) := by
    rw [z_tab _ (by omega), z_tab _ (by omega), z_tab _ (by omega)]; exact zi_eq d k (oF d)
  rw [e2]
  refine And.intro (zN_in (by omega) (by omega)) ?_
  refine And.intro (fun h => ?_) (fun h => ?_)
  · rw [zN_cl (by omega), r1, zc_gt (by omega) (by omega) d1 d2] at h
    refine And.intro (Or.inl rfl) (Or.inl ⟨rfl, ?_⟩)
    rwa [cov, decide_eq_false (by omega), Bool.false_and] at hK
  · rw [zN_cl (by omega), r1, zc_gt (by omega) (by omega) d1 d2] at h
    show _ ∧ _
    rw [zn_inc]
    refine And.intro (zN_in hz (by omega)) ?_
    refine And.intro (fun h2 => ?_) (fun h2 => ?_)
    · rw [zN_cl (by omega), ← ez, r2, zc_gt d1 d2 (by omega) (by omega)] at h2
      refine And.intro (Or.inl rfl) (Or.inl ⟨rfl, ?_⟩)
      rwa [cov, decide_eq_true (by omega), decide_eq_false (by omega), Bool.and_false] at hK
    · rw [zN_cl (by omega), ← ez, r2, zc_gt d1 d2 (by omega) (by omega)] at h2
      refine And.intro (Or.inr rfl) (Or.inl ⟨rfl, ?_⟩)
      rwa [cov, decide_eq_true (by omega), decide_eq_true (by omega), Bool.and_true] at hK
def hold1 (M : Od) (p day : Int) (k : Nat) : Bool := decide (M.2.1 0 k 0 = p) && cov M 0 k day
def holder (M : Od) (p day : Int) : Int := match (List.range (M.1 0)).find? (hold1 M p day) with
  | some k => M.2.1 0 k 1
  | none => -1
theorem find_some {n k : Nat} {P : Nat → Bool} (hk : k < n) (hp : P k = true) (h : ∀ i, i < k → P i = false) : (List.range n).find? P = some k := by
  rw [List.find?_range_eq_some]
  exact ⟨hp, List.mem_range.mpr hk, fun j hj => by rw [h j hj]; rfl⟩
theorem find_none {n : Nat} {P : Nat → Bool} (h : ∀ i, i < n → P i = false) : (List.range n).find? P = none := by
  rw [List.find?_range_eq_none]
  intro i hi
  rw [h i hi]; rfl
def sp_holderAt : Sp := spS 1 (fun f s t as K => ∃ (M : Od) (p day : Int), as = [.ref 0, .int (iI p), .int (iI day)] ∧ RS f s t M ∧ OKM M ∧ ir p ∧ ir day ∧ K (some (.int (iI (holder M p day)))))
theorem v_holderAt (l : Launch) : z_V l 61 sp_holderAt := by
  refine z_V.of (by decide +kernel) ?_
  rintro as σ K ⟨f, s, t, rfl, M, p, day, rfl, hR, hO, ⟨p1, p2⟩, hdy, hK⟩
  have hs := hR.size 0 (by omega)
  have hm := hR.max40 0 (by omega)
  have loop : ∀ (n k : Nat) (x : Int32), M.1 0 ≤ k + n → k ≤ M.1 0 → x = iI (k : Int) → (∀ i, i < k → hold1 M p day i = false) → AW l 61 1 0 0 4 none (fun r σ' => (σ' = wS f s t ∧ K r none) ∨ K r (some σ')) 2 [some (.ref 0), some (.int (iI p)), some (.int (iI day)), some (.int x)] [] (wS f s t) 0 0 := by
    intro n
    induction n with
    | zero =>
      intro k x h1 h2 hx hh
      subst hx
      refine AW.go (bs := b_State_holderAt) [2] 60 t_State_holderAt ?_
      refine And.intro (zn_in (by omega) (by omega)) ?_
      refine And.intro (fun h => ?_) (fun h => ?_)
      · refine Or.inl ⟨rfl, ?_⟩
        rw [holder, find_none (fun i hi => hh i (by omega))] at hK
        exact hK
      · rw [zn_cl (by omega), hs, zc_ge (by omega) (by omega) (by omega) (by omega)] at h
        omega
    | succ n ih =>
      intro k x h1 h2 hx hh
      subst hx
      refine AW.go (bs := b_State_holderAt) [2] 60 t_State_holderAt ?_
      refine And.intro (zn_in (by omega) (by omega)) ?_
      refine And.intro (fun h => ?_) (fun h => ?_)
      · rw [zn_cl (by omega), hs, zc_ge (by omega) (by omega) (by omega) (by omega)] at h
        refine Or.inl ⟨rfl, ?_⟩
        rw [holder, find_none (fun i hi => hh i (by omega))] at hK
        exact hK
      · rw [zn_cl (by omega), hs, zc_ge (by omega) (by omega) (by omega) (by omega)] at h
        have hk : k < M.1 0 := by omega
        have c0 := hO.cell (by omega : 0 < 6) hk (by decide : 0 < oW 0)
        have next : hold1 M p day k = false → ∀ i, i < k + 1 → hold1 M p day i = false := by
          intro h0 i hi
          rcases Nat.lt_or_ge i k with q | q
          · exact hh i q
          · rw [show i = k by omega]; exact h0
        refine ⟨_, v_cell l, by decide, f, s, t, rfl, M, 0, k, 0, rfl, hR, by omega, hk, by decide, ?_⟩
        refine And.intro (fun h => ?_) (fun h => ?_)
        · rw [zc_ne (by omega) (by omega) p1 p2] at h
          exact ih (k + 1) _ (by omega) (by omega) (zn_inc k) (next (by rw [hold1, decide_eq_false (by omega), Bool.false_and]))
        · rw [zc_ne (by omega) (by omega) p1 p2] at h
          refine ⟨_, v_covers l, by decide, f, s, t, rfl, M, 0, k, day, rfl, hR, hO, by omega, hk, hdy, ?_⟩
          refine And.intro (fun h3 => ?_) (fun h3 => ?_)
          · rw [zc_beq] at h3
            exact ih (k + 1) _ (by omega) (by omega) (zn_inc k) (next (by rw [hold1, h3, Bool.and_false]))
          · rw [zc_beq] at h3
            refine ⟨_, v_cell l, by decide, f, s, t, rfl, M, 0, k, 1, rfl, hR, by omega, hk, by decide, ?_⟩
            refine Or.inl ⟨rfl, ?_⟩
            rw [holder, find_some hk (by rw [hold1, decide_eq_true (by omega), Bool.true_and]; simpa using h3) hh] at hK
            exact hK
  refine AW.go (bs := b_State_holderAt) [2] 60 t_State_holderAt ?_
  exact loop (M.1 0) 0 _ (by omega) (by omega) rfl (fun i hi => by omega)
end
section
theorem OKM.per {M : Od} (h : OKM M) {k : Nat} (hk : k < M.1 1) : ∃ p : Nat, p < 16 ∧ M.2.1 1 k 0 = (p : Int) := ⟨(M.2.1 1 k 0).toNat, by have := h.2.1 k hk; omega, by have := h.2.1 k hk; omega⟩
theorem OKM.foep {M : Od} (h : OKM M) {k : Nat} (hk : k < M.1 3) : ∃ p : Nat, p < 16 ∧ M.2.1 3 k 0 = (p : Int) := ⟨(M.2.1 3 k 0).toNat, by have := h.2.2.2.1 k hk; omega, by have := h.2.2.2.1 k hk; omega⟩
def aw1 (M : Od) (lo day : Int) (k : Nat) : Bool := decide ((k : Int) ≠ lo) && cov M 1 k day
def awayM (M : Od) (lo day : Int) (n : Nat) : Nat := bitsF (aw1 M lo day) (fun k => (M.2.1 1 k 0).toNat) n
theorem awayM_lt {M : Od} (h : OKM M) {lo day : Int} {n : Nat} (hn : n ≤ M.1 1) : awayM M lo day n < 65536 := by
  refine bitsF_lt (w := 16) (fun k hk _ => ?_)
  obtain ⟨p, h1, h2⟩ := h.per (k := k) (by omega)
  simp only [h2]; omega
def sp_awayBits : Sp := spS 1 (fun f s t as K => ∃ (M : Od) (day lo : Int), as = [.ref 0, .int (iI day), .int (iI lo)] ∧ RS f s t M ∧ OKM M ∧ ir day ∧ ir lo ∧ K (some (.int (iI (awayM M lo day (M.1 1))))))
theorem v_awayBits (l : Launch) : z_V l 62 sp_awayBits := by
  refine z_V.of (by decide +kernel) ?_
  rintro as σ K ⟨f, s, t, rfl, M, day, lo, rfl, hR, hO, hdy, ⟨l1, l2⟩, hK⟩
  have hs := hR.size 1 (by omega)
  have hm := hR.max40 1 (by omega)
  have loop : ∀ (n k : Nat) (x y : Int32), n = M.1 1 - k → k ≤ M.1 1 → x = iI (k : Int) → y = iI ((awayM M lo day k : Nat) : Int) → AW l 62 1 0 0 4 none (fun r σ' => (σ' = wS f s t ∧ K r none) ∨ K r (some σ')) 5 [some (.ref 0), some (.int (iI day)), some (.int (iI lo)), some (.int y), some (.int x)] [] (wS f s t) 0 0 := by
    intro n
    induction n using Nat.strongRecOn with
    | ind n ih =>
      intro k x y hn h2 hx hy
      subst hx; subst hy
      refine AW.go (bs := b_State_awayBits) [5] 60 t_State_awayBits ?_
      refine And.intro (zn_in (by omega) (by omega)) ?_
      refine And.intro (fun h => ?_) (fun h => ?_)
      · rw [zn_cl (by omega), hs, zc_ge (by omega) (by omega) (by omega) (by omega)] at h
        refine Or.inl ⟨rfl, ?_⟩
        rw [show k = M.1 1 by omega]
        exact hK
      · rw [zn_cl (by omega), hs, zc_ge (by omega) (by omega) (by omega) (by omega)] at h
        have hk : k < M.1 1 := by omega
        have skip : aw1 M lo day k = false → awayM M lo day (k + 1) = awayM M lo day k := by
          intro h0; unfold awayM; rw [bitsF, h0]; rfl
        refine And.intro (fun h3 => ?_) (fun h3 => ?_)
        · rw [zc_eq (by omega) (by omega) l1 l2] at h3
          exact ih _ (by omega) (k + 1) _ _ rfl (by omega) (zn_inc k) (by rw [skip (by rw [aw1, decide_eq_false (by omega), Bool.false_and])])
        · rw [zc_eq (by omega) (by omega) l1 l2] at h3
          refine ⟨_, v_covers l, by decide, f, s, t, rfl, M, 1, k, day, rfl, hR, hO, by omega, hk, hdy, ?_⟩
          refine And.intro (fun h4 => ?_) (fun h4 => ?_)
          · rw [zc_beq] at h4
            exact ih _ (by omega) (k + 1) _ _ rfl (by omega) (zn_inc k) (by rw [skip (by rw [aw1, h4, Bool.and_false])])
          · rw [zc_beq] at h4
            obtain ⟨p, hp1, hp2⟩ := hO.per hk
            refine ⟨_, v_cell l, by decide, f, s, t, rfl, M, 1, k, 0, rfl, hR, by omega, hk, by decide, ?_⟩
            refine ih _ (by omega) (k + 1) _ _ rfl (by omega) (zn_inc k) ?_
            show iI _ ||| iI 1 <<< (iI (M.2.1 1 k 0) &&& 31) = _
            rw [hp2, zb_shl p (by omega), zb_or]
            congr 2
            unfold awayM
            rw [bitsF, aw1, decide_eq_true (by omega), Bool.true_and, if_pos (by simpa using h4), hp2]
            rfl
  refine AW.go (bs := b_State_awayBits) [5] 60 t_State_awayBits ?_
  exact loop _ 0 _ _ rfl (by omega) rfl rfl
def foe1 (M : Od) (v : Int) (k : Nat) : Bool := decide (M.2.1 3 k 1 = v)
def foeM (M : Od) (v : Int) (n : Nat) : Nat := bitsF (foe1 M v) (fun k => (M.2.1 3 k 0).toNat) n
theorem foeM_lt {M : Od} (h : OKM M) {v : Int} {n : Nat} (hn : n ≤ M.1 3) : foeM M v n < 65536 := by
  refine bitsF_lt (w := 16) (fun k hk _ => ?_)
  obtain ⟨p, h1, h2⟩ := h.foep (k := k) (by omega)
  simp only [h2]; omega
def sp_foeBits : Sp := spS 1 (fun f s t as K => ∃ (M : Od) (v : Int), as = [.ref 0, .int (iI v)] ∧ RS f s t M ∧ OKM M ∧ ir v ∧ K (some (.int (iI (foeM M v (M.1 3))))))
theorem v_foeBits (l : Launch) : z_V l 63 sp_foeBits := by
  refine z_V.of (by decide +kernel) ?_
  rintro as σ K ⟨f, s, t, rfl, M, v, rfl, hR, hO, ⟨l1, l2⟩, hK⟩
  have hs := hR.size 3 (by omega)
  have hm := hR.max40 3 (by omega)
  have loop : ∀ (n k : Nat) (x y : Int32), n = M.1 3 - k → k ≤ M.1 3 → x = iI (k : Int) → y = iI ((foeM M v k : Nat) : Int) → AW l 63 1 0 0 4 none (fun r σ' => (σ' = wS f s t ∧ K r none) ∨ K r (some σ')) 4 [some (.ref 0), some (.int (iI v)), some (.int y), some (.int x)] [] (wS f s t) 0 0 := by
    intro n
    induction n using Nat.strongRecOn with
    | ind n ih =>
      intro k x y hn h2 hx hy
      subst hx; subst hy
      refine AW.go (bs := b_State_foeBits) [4] 60 t_State_foeBits ?_
      refine And.intro (zn_in (by omega) (by omega)) ?_
      refine And.intro (fun h => ?_) (fun h => ?_)
      · rw [zn_cl (by omega), hs, zc_ge (by omega) (by omega) (by omega) (by omega)] at h
        refine Or.inl ⟨rfl, ?_⟩
        rw [show k = M.1 3 by omega]
        exact hK
      · rw [zn_cl (by omega), hs, zc_ge (by omega) (by omega) (by omega) (by omega)] at h
        have hk : k < M.1 3 := by omega
        have c1 := hO.cell (by omega : 3 < 6) hk (by decide : 1 < oW 3)
        refine ⟨_, v_cell l, by decide, f, s, t, rfl, M, 3, k, 1, rfl, hR, by omega, hk, by decide, ?_⟩
        refine And.intro (fun h3 => ?_) (fun h3 => ?_)
        · rw [zc_ne (by omega) (by omega) l1 l2] at h3
          refine ih _ (by omega) (k + 1) _ _ rfl (by omega) (zn_inc k) ?_
          unfold foeM
          rw [bitsF, foe1, decide_eq_false (by omega)]
          rfl
        · rw [zc_ne (by omega) (by omega) l1 l2] at h3
          obtain ⟨p, hp1, hp2⟩ := hO.foep hk
          refine ⟨_, v_cell l, by decide, f, s, t, rfl, M, 3, k, 0, rfl, hR, by omega, hk, by decide, ?_⟩
          refine ih _ (by omega) (k + 1) _ _ rfl (by omega) (zn_inc k) ?_
          show iI _ ||| iI 1 <<< (iI (M.2.1 3 k 0) &&& 31) = _
          rw [hp2, zb_shl p (by omega), zb_or]
          congr 2
          unfold foeM
          rw [bitsF, foe1, decide_eq_true (by omega), if_pos rfl, hp2]
          rfl
  refine AW.go (bs := b_State_foeBits) [4] 60 t_State_foeBits ?_
  exact loop _ 0 _ _ rfl (by omega) rfl rfl
/-- how many posts lie above, from u on -/
def upN (M : Od) : Nat → Int → Nat
  | 0, _ => 0
  | n + 1, u => if 0 ≤ u ∧ u < M.1 4 then 1 + upN M n (M.2.1 4 u.toNat 0) else 0
theorem upN_le (M : Od) : ∀ (n : Nat) (u : Int), upN M n u ≤ n
  | 0, _ => Nat.le_refl 0
  | n + 1, u => by
    unfold upN
    split
    · have := upN_le M n (M.2.1 4 u.toNat 0); omega
    · omega
def sp_postsAbove : Sp := spS 1 (fun f s t as K => ∃ (M : Od) (p : Nat), as = [.ref 0, .int (iI p)] ∧ RS f s t M ∧ OKM M ∧ p < M.1 4 ∧ K (some (.int (iI (upN M 12 (M.2.1 4 p 0) : Nat)))))
theorem v_postsAbove (l : Launch) : z_V l 58 sp_postsAbove := by
  refine z_V.of (by decide +kernel) ?_
  rintro as σ K ⟨f, s, t, rfl, M, p, rfl, hR, hO, hp, hK⟩
  have hm := hR.max40 4 (by omega)
  have loop : ∀ (n a : Nat) (u : Int) (x y : Int32), a + n = 12 → x = iI u → -2 ≤ u ∧ u ≤ 9999 → y = iI (a : Int) → a + upN M n u = upN M 12 (M.2.1 4 p 0) → AW l 58 1 0 0 4 none (fun r σ' => (σ' = wS f s t ∧ K r none) ∨ K r (some σ')) 10 [some (.ref 0), some (.int (iI p)), some (.int y), some (.int x)] [] (wS f s t) 0 0 := by
    intro n
    induction n with
    | zero =>
      intro a u x y ha hx hu hy hv
      subst hx; subst hy
      refine AW.go (bs := b_State_postsAbove) [10] 60 t_State_postsAbove ?_
      refine ⟨_, v_has l, by decide, f, s, t, rfl, M, 4, u, rfl, hR, by omega, ⟨by omega, by omega⟩, ?_⟩
      refine And.intro (fun h => ?_) (fun h => ?_)
      · refine Or.inl ⟨rfl, ?_⟩
        rw [upN, Nat.add_zero] at hv
        rw [hv]; exact hK
      · refine And.intro (fun h => ?_) (fun h => ?_)
        · refine Or.inl ⟨rfl, ?_⟩
          rw [upN, Nat.add_zero] at hv
          rw [hv]; exact hK
        · rw [show z_nn 12 0 = iI 12 from rfl, zc_ge (by omega) (by omega) (by omega) (by omega)] at h
          omega
    | succ n ih =>
      intro a u x y ha hx hu hy hv
      subst hx; subst hy
      refine AW.go (bs := b_State_postsAbove) [10] 60 t_State_postsAbove ?_
      refine ⟨_, v_has l, by decide, f, s, t, rfl, M, 4, u, rfl, hR, by omega, ⟨by omega, by omega⟩, ?_⟩
      refine And.intro (fun h => ?_) (fun h => ?_)
      · rw [zc_beq, decide_eq_false_iff_not] at h
        refine Or.inl ⟨rfl, ?_⟩
        rw [upN, if_neg h, Nat.add_zero] at hv
        rw [hv]; exact hK
      · rw [zc_beq, decide_eq_false_iff_not, Classical.not_not] at h
        obtain ⟨q, hq⟩ : ∃ q : Nat, u = (q : Int) := ⟨u.toNat, by omega⟩
        subst hq
        have hq4 : q < M.1 4 := by omega
        refine And.intro (fun h2 => ?_) (fun h2 => ?_)
        · rw [show z_nn 12 0 = iI 12 from rfl, zc_ge (by omega) (by omega) (by omega) (by omega)] at h2
          omega
        · have c1 := hO.cell (by omega : 4 < 6) hq4 (by decide : 0 < oW 4)
          refine ⟨_, v_cell l, by decide, f, s, t, rfl, M, 4, q, 0, rfl, hR, by omega, hq4, by decide, ?_⟩
          refine ih (a + 1) (M.2.1 4 q 0) _ _ (by omega) rfl (by omega) (zn_inc a) ?_
          rw [upN, if_pos h, Int.toNat_natCast] at hv
          omega
  refine AW.go (bs := b_State_postsAbove) [10] 60 t_State_postsAbove ?_
  have c1 := hO.cell (by omega : 4 < 6) hp (by decide : 0 < oW 4)
  refine ⟨_, v_cell l, by decide, f, s, t, rfl, M, 4, p, 0, rfl, hR, by omega, hp, by decide, ?_⟩
  exact loop 12 0 _ _ _ rfl rfl (by omega) rfl (by omega)
/-- how many of the first n have it -/
def cntF (P : Nat → Bool) : Nat → Nat
  | 0 => 0
  | n + 1 => if P n then cntF P n + 1 else cntF P n
theorem cntF_le (P : Nat → Bool) : ∀ n, cntF P n ≤ n
  | 0 => Nat.le_refl 0
  | n + 1 => by have := cntF_le P n; unfold cntF; split <;> omega
def sp_postsBelow : Sp := spS 1 (fun f s t as K => ∃ (M : Od) (p : Nat), as = [.ref 0, .int (iI p)] ∧ RS f s t M ∧ OKM M ∧ p < M.1 4 ∧ K (some (.int (iI (cntF (fun k => decide (M.2.1 4 k 0 = p)) (M.1 4) : Nat)))))
theorem v_postsBelow (l : Launch) : z_V l 59 sp_postsBelow := by
  refine z_V.of (by decide +kernel) ?_
  rintro as σ K ⟨f, s, t, rfl, M, p, rfl, hR, hO, hp, hK⟩
  have hs := hR.size 4 (by omega)
  have hm := hR.max40 4 (by omega)
  have loop : ∀ (n k : Nat) (x y : Int32), n = M.1 4 - k → k ≤ M.1 4 → x = iI (k : Int) → y = iI ((cntF (fun k => decide (M.2.1 4 k 0 = p)) k : Nat) : Int) → AW l 59 1 0 0 4 none (fun r σ' => (σ' = wS f s t ∧ K r none) ∨ K r (some σ')) 4 [some (.ref 0), some (.int (iI p)), some (.int y), some (.int x)] [] (wS f s t) 0 0 := by
    intro n
    induction n using Nat.strongRecOn with
    | ind n ih =>
      intro k x y hn h2 hx hy
      subst hx; subst hy
      refine AW.go (bs := b_State_postsBelow) [4] 60 t_State_postsBelow ?_
      refine And.intro (zn_in (by omega) (by omega)) ?_
      refine And.intro (fun h => ?_) (fun h => ?_)
      · rw [zn_cl (by omega), hs, zc_ge (by omega) (by omega) (by omega) (by omega)] at h
        refine Or.inl ⟨rfl, ?_⟩
        rw [show k = M.1 4 by omega]
        exact hK
      · rw [zn_cl (by omega), hs, zc_ge (by omega) (by omega) (by omega) (by omega)] at h
        have hk : k < M.1 4 := by omega
        have c1 := hO.cell (by omega : 4 < 6) hk (by decide : 0 < oW 4)
        refine ⟨_, v_cell l, by decide, f, s, t, rfl, M, 4, k, 0, rfl, hR, by omega, hk, by decide, ?_⟩
        refine And.intro (fun h3 => ?_) (fun h3 => ?_)
        · rw [zc_ne (by omega) (by omega) (by omega) (by omega)] at h3
          refine ih _ (by omega) (k + 1) _ _ rfl (by omega) (zn_inc k) ?_
          rw [cntF, if_neg (by simpa using h3)]
        · rw [zc_ne (by omega) (by omega) (by omega) (by omega), Classical.not_not] at h3
          refine ih _ (by omega) (k + 1) _ _ rfl (by omega) (zn_inc k) ?_
          rw [cntF, if_pos (by simpa using h3)]
          exact zn_inc _
  refine AW.go (bs := b_State_postsBelow) [4] 60 t_State_postsBelow ?_
  exact loop _ 0 _ _ rfl (by omega) rfl rfl
end
section
theorem z_V.mono {l : Launch} {j : Nat} {sp : Sp} (h : z_V l j sp) (tr : Tr) (hm : ∀ as σ K, tr as σ K → sp.2.2.2.2 as σ K) : z_V l j (sp.1, sp.2.1, sp.2.2.1, sp.2.2.2.1, tr) := fun as σ K ht => h as σ K (hm as σ K ht)
/-- the same with equations in place of forms -/
def sp_cellE : Sp := spS 0 (fun f s t as K => ∃ (M : Od) (d k c : Nat) (x y z : Int32), as = [.ref 0, .int x, .int y, .int z] ∧ x = iI d ∧ y = iI k ∧ z = iI c ∧ RS f s t M ∧ d < 6 ∧ k < M.1 d ∧ c < oW d ∧ K (some (.int (iI (M.2.1 d k c)))))
theorem v_cellE (l : Launch) : z_V l 52 sp_cellE := (v_cell l).mono _ (by
  rintro as σ K ⟨f, s, t, rfl, M, d, k, c, x, y, z, rfl, rfl, rfl, rfl, h⟩
  exact ⟨f, s, t, rfl, M, d, k, c, rfl, h⟩)
/-- up to nx nothing changes from a day on -/
def chg1 (M : Od) (day nx : Int) (d k : Nat) : Prop := ∀ d', day ≤ d' → d' < nx → cov M d k d' = cov M d k day
def chg (M : Od) (day nx : Int) : Prop := day < nx ∧ nx ≤ 1000 ∧ ∀ d k, d < 3 → k < M.1 d → chg1 M day nx d k
def sp_nextChange : Sp := spS 1 (fun f s t as K => ∃ (M : Od) (day : Int), as = [.ref 0, .int (iI day)] ∧ RS f s t M ∧ OKM M ∧ 0 ≤ day ∧ day ≤ 999 ∧ ∀ nx, chg M day nx → K (some (.int (iI nx))))
theorem min_iI {a b : Int} (ha : -2147483648 ≤ a) (ha2 : a ≤ 2147483647) (hb : -2147483648 ≤ b) (hb2 : b ≤ 2147483647) : (if iI b < iI a then iI b else iI a) = iI (min a b) := by
  by_cases h : b < a
  · rw [if_pos ((iI_lt hb hb2 ha ha2).mpr h)]; congr 1; omega
  · rw [if_neg (fun q => h ((iI_lt hb hb2 ha ha2).mp q))]; congr 1; omega
theorem max_iI {a b : Int} (ha : -2147483648 ≤ a) (ha2 : a ≤ 2147483647) (hb : -2147483648 ≤ b) (hb2 : b ≤ 2147483647) : (if iI a < iI b then iI b else iI a) = iI (max a b) := by
  by_cases h : a < b
  · rw [if_pos ((iI_lt ha ha2 hb hb2).mpr h)]; congr 1; omega
  · rw [if_neg (fun q => h ((iI_lt ha ha2 hb hb2).mp q))]; congr 1; omega
theorem v_nextChange (l : Launch) : z_V l 64 sp_nextChange := by
  refine z_V.of (by decide +kernel) ?_
  rintro as σ K ⟨f, s, t, rfl, M, day, rfl, hR, hO, y1, y2, hK⟩
  have mono : ∀ {nx nx' : Int} {d k : Nat}, nx' ≤ nx → chg1 M day nx d k → chg1 M day nx' d k := fun h1 h2 d' h3 h4 => h2 d' h3 (by omega)
  have outer : ∀ (n d : Nat) (nx : Int) (x y : Int32) (v4 v5 v6 : Option Value), d + n = 3 → x = iI nx → y = iI (d : Int) → day < nx → nx ≤ 1000 → (∀ d0 k0, d0 < d → k0 < M.1 d0 → chg1 M day nx d0 k0) → AW l 64 1 0 0 4 none (fun r σ' => (σ' = wS f s t ∧ K r none) ∨ K r (some σ')) 6 [some (.ref 0), some (.int (iI day)), some (.int x), some (.int y), v4, v5, v6] [] (wS f s t) 0 0 := by
    intro n
    induction n with
    | zero =>
      intro d nx x y v4 v5 v6 hd hx hy h1 h2 hh
      subst hx; subst hy
      refine AW.go (bs := b_State_nextChange) [6, 14] 80 t_State_nextChange ?_
      refine And.intro (fun h => ?_) (fun h => ?_)
      · exact Or.inl ⟨rfl, hK nx ⟨h1, h2, fun d0 k0 a b => hh d0 k0 (by omega) b⟩⟩
      · rw [zn_i, zc_gt (by omega) (by omega) (by omega) (by omega)] at h
        omega
    | succ n ih =>
      intro d nx x y v4 v5 v6 hd hx hy h1 h2 hh
      subst hx; subst hy
      have hs := hR.size d (by omega)
      have hm := hR.max40 d (by omega)
      have hf := oF_lt d (by omega)
      have inner : ∀ (q k : Nat) (nx : Int) (x y : Int32) (v5 v6 : Option Value), q = M.1 d - k → k ≤ M.1 d → x = iI nx → y = iI (k : Int) → day < nx → nx ≤ 1000 → (∀ d0 k0, d0 < d → k0 < M.1 d0 → chg1 M day nx d0 k0) → (∀ k0, k0 < k → chg1 M day nx d k0) → AW l 64 1 0 0 4 none (fun r σ' => (σ' = wS f s t ∧ K r none) ∨ K r (some σ')) 14 [some (.ref 0), some (.int (iI day)), some (.int x), some (.int (iI (d : Int))), some (.int y), v5, v6] [] (wS f s t) 0 0 := by
        intro q
        induction q using Nat.strongRecOn with
        | ind q ihq =>
          intro k nx x y v5 v6 hq hk0 hx hy h1 h2 hh hi
          subst hx; subst hy
          refine AW.go (bs := b_State_nextChange) [6, 14] 80 t_State_nextChange ?_
          refine And.intro (zN_in (by omega) (by omega)) ?_
          refine And.intro (fun h => ?_) (fun h => ?_)
          · rw [zN_cl (by omega), hs, zc_ge (by omega) (by omega) (by omega) (by omega)] at h
            exact ih (d + 1) nx _ _ _ _ _ (by omega) rfl (zn_inc d) h1 h2 (fun d0 k0 a b => by
              rcases Nat.lt_or_ge d0 d with e | e
              · exact hh d0 k0 e b
              · have : d0 = d := by omega
                subst this
                exact hi k0 (by omega))
          · rw [zN_cl (by omega), hs, zc_ge (by omega) (by omega) (by omega) (by omega)] at h
            have hk : k < M.1 d := by omega
            have c1 := hO.cell (by omega : d < 6) hk (by omega : oF d < oW d)
            have c2 := hO.cell (by omega : d < 6) hk hf
            refine And.intro (zN_in (by show d < 3; omega) (by omega)) ?_
            refine ⟨_, v_cellE l, by decide, f, s, t, rfl, M, d, k, oF d, _, _, _, rfl, rfl, rfl, z_tab _ (by omega), hR, by omega, hk, by omega, ?_⟩
            refine And.intro (zN_in (by show d < 3; omega) (by omega)) ?_
            refine ⟨_, v_cellE l, by decide, f, s, t, rfl, M, d, k, oF d + 1, _, _, _, rfl, rfl, rfl, by rw [z_tab _ (by omega)]; exact zn_inc (oF d), hR, by omega, hk, hf, ?_⟩
            have hcv : ∀ d', cov M d k d' = (decide (M.2.1 d k (oF d) ≤ d') && decide (d' ≤ M.2.1 d k (oF d + 1))) := fun _ => rfl
            have step : ∀ (nx' : Int) (x : Int32) (v5 v6 : Option Value), x = iI nx' → day < nx' → nx' ≤ nx → chg1 M day nx' d k → AW l 64 1 0 0 4 none (fun r σ' => (σ' = wS f s t ∧ K r none) ∨ K r (some σ')) 14 [some (.ref 0), some (.int (iI day)), some (.int x), some (.int (iI (d : Int))), some (.int (iI (k : Int) + z_nn 1 0)), v5, v6] [] (wS f s t) 0 0 := by
              intro nx' x v5 v6 hx g1 g2 g3
              refine ihq _ (by omega) (k + 1) nx' x _ v5 v6 rfl (by omega) hx (zn_inc k) g1 (by omega) (fun d0 k0 a b => mono g2 (hh d0 k0 a b)) (fun k0 a => ?_)
              rcases Nat.lt_or_ge k0 k with e | e
              · exact mono g2 (hi k0 e)
              · rw [show k0 = k by omega]; exact g3
            refine And.intro (fun h3 => ?_) (fun h3 => ?_)
            · rw [zc_le (by omega) (by omega) (by omega) (by omega)] at h3
              show _ ∧ _
              rw [zn_i, iI_add]
              refine And.intro (fun h4 => ?_) (fun h4 => ?_)
              · rw [zc_le (by omega) (by omega) (by omega) (by omega)] at h4
                refine step nx _ _ _ rfl h1 (Int.le_refl _) (fun d' g1 g2 => ?_)
                rw [hcv, hcv, Bool.eq_iff_iff]; simp only [Bool.and_eq_true, decide_eq_true_eq]; omega
              · rw [zc_le (by omega) (by omega) (by omega) (by omega)] at h4
                refine step (min nx (M.2.1 d k (oF d + 1) + 1)) _ _ _ (min_iI (by omega) (by omega) (by omega) (by omega)) (by omega) (by omega) (fun d' g1 g2 => ?_)
                rw [hcv, hcv, Bool.eq_iff_iff]; simp only [Bool.and_eq_true, decide_eq_true_eq]; omega
            · rw [zc_le (by omega) (by omega) (by omega) (by omega)] at h3
              refine step (min nx (M.2.1 d k (oF d))) _ _ _ (min_iI (by omega) (by omega) (by omega) (by omega)) (by omega) (by omega) (fun d' g1 g2 => ?_)
              rw [hcv, hcv, Bool.eq_iff_iff]; simp only [Bool.and_eq_true, decide_eq_true_eq]; omega
      refine AW.go (bs := b_State_nextChange) [6, 14] 80 t_State_nextChange ?_
      refine And.intro (fun h => ?_) (fun h => ?_)
      · rw [zn_i, zc_gt (by omega) (by omega) (by omega) (by omega)] at h
        omega
      · exact inner _ 0 nx _ _ _ _ rfl (by omega) rfl rfl h1 h2 hh (fun k0 a => by omega)
  refine AW.go (bs := b_State_nextChange) [6, 14] 80 t_State_nextChange ?_
  exact outer 3 0 1000 _ _ _ _ _ rfl rfl rfl (by omega) (by omega) (fun d0 k0 a => by omega)
/-- may k be joined with r, were that on a day -/
def cj (M : Od) (k r : Nat) (day : Int) : Bool := decide (M.2.1 5 k 0 = M.2.1 5 r 0) && (decide (M.2.1 5 k 2 = M.2.1 5 r 2) && (decide (M.2.1 5 k 3 = M.2.1 5 r 3) && (decide (M.2.1 5 k 6 = -2) || decide (day < M.2.1 5 k 6))))
def sp_canJoin : Sp := spS 1 (fun f s t as K => ∃ (M : Od) (k r : Nat) (day : Int), as = [.ref 0, .int (iI k), .int (iI r), .int (iI day)] ∧ RS f s t M ∧ OKM M ∧ k < M.1 5 ∧ r < M.1 5 ∧ ir day ∧ K (some (.int (bI (cj M k r day)))))
theorem v_canJoin (l : Launch) : z_V l 66 sp_canJoin := by
  refine z_V.of (by decide +kernel) ?_
  rintro as σ K ⟨f, s, t, rfl, M, k, r, day, rfl, hR, hO, hk, hr, ⟨d1, d2⟩, hK⟩
  have a0 := hO.cell (by omega : 5 < 6) hk (by decide : 0 < oW 5)
  have a2 := hO.cell (by omega : 5 < 6) hk (by decide : 2 < oW 5)
  have a3 := hO.cell (by omega : 5 < 6) hk (by decide : 3 < oW 5)
  have a6 := hO.cell (by omega : 5 < 6) hk (by decide : 6 < oW 5)
  have b0 := hO.cell (by omega : 5 < 6) hr (by decide : 0 < oW 5)
  have b2 := hO.cell (by omega : 5 < 6) hr (by decide : 2 < oW 5)
  have b3 := hO.cell (by omega : 5 < 6) hr (by decide : 3 < oW 5)
  have no : cj M k r day = false → (0 : Int32) = 0 ∨ (0 : Int32) = 1 → K (some (.int (iI 0))) none := by
    intro h _; rw [h] at hK; exact hK
  refine AW.go (bs := b_State_canJoin) [] 90 t_State_canJoin ?_
  refine ⟨_, v_cell l, by decide, f, s, t, rfl, M, 5, k, 6, rfl, hR, by omega, hk, by decide, ?_⟩
  refine ⟨_, v_cell l, by decide, f, s, t, rfl, M, 5, k, 0, rfl, hR, by omega, hk, by decide, ?_⟩
  refine ⟨_, v_cell l, by decide, f, s, t, rfl, M, 5, r, 0, rfl, hR, by omega, hr, by decide, ?_⟩
  refine And.intro (fun h => ?_) (fun h => ?_)
  · rw [zc_ne (by omega) (by omega) (by omega) (by omega)] at h
    refine And.intro (Or.inl rfl) (Or.inl ⟨rfl, no ?_ (Or.inl rfl)⟩)
    rw [cj, decide_eq_false (by omega), Bool.false_and]
  · rw [zc_ne (by omega) (by omega) (by omega) (by omega), Classical.not_not] at h
    refine ⟨_, v_cell l, by decide, f, s, t, rfl, M, 5, k, 2, rfl, hR, by omega, hk, by decide, ?_⟩
    refine ⟨_, v_cell l, by decide, f, s, t, rfl, M, 5, r, 2, rfl, hR, by omega, hr, by decide, ?_⟩
    refine And.intro (fun h2 => ?_) (fun h2 => ?_)
    · rw [zc_ne (by omega) (by omega) (by omega) (by omega)] at h2
      refine And.intro (Or.inl rfl) (Or.inl ⟨rfl, no ?_ (Or.inl rfl)⟩)
      rw [cj, decide_eq_true h, decide_eq_false (by omega), Bool.false_and, Bool.and_false]
    · rw [zc_ne (by omega) (by omega) (by omega) (by omega), Classical.not_not] at h2
      refine ⟨_, v_cell l, by decide, f, s, t, rfl, M, 5, k, 3, rfl, hR, by omega, hk, by decide, ?_⟩
      refine ⟨_, v_cell l, by decide, f, s, t, rfl, M, 5, r, 3, rfl, hR, by omega, hr, by decide, ?_⟩
      refine And.intro (fun h3 => ?_) (fun h3 => ?_)
      · rw [zc_ne (by omega) (by omega) (by omega) (by omega)] at h3
        refine And.intro (Or.inl rfl) (Or.inl ⟨rfl, no ?_ (Or.inl rfl)⟩)
        rw [cj, decide_eq_true h, decide_eq_true h2, decide_eq_false (by omega), Bool.false_and, Bool.and_false, Bool.and_false]
      · rw [zc_ne (by omega) (by omega) (by omega) (by omega), Classical.not_not] at h3
        refine And.intro (fun h4 => ?_) (fun h4 => ?_)
        · have h4 := (zc_eq (by omega) (by omega) (by omega) (by omega)).mp h4
          refine And.intro (Or.inr rfl) (Or.inl ⟨rfl, ?_⟩)
          rwa [cj, decide_eq_true h, decide_eq_true h2, decide_eq_true h3, decide_eq_true (by omega)] at hK
        · have h4 := mt (zc_eq (by omega) (by omega) (by omega) (by omega)).mpr h4
          refine And.intro (fun h5 => ?_) (fun h5 => ?_)
          · rw [zc_le (by omega) (by omega) d1 d2] at h5
            refine And.intro (Or.inl rfl) (Or.inl ⟨rfl, no ?_ (Or.inl rfl)⟩)
            rw [cj, decide_eq_false (show ¬ M.2.1 5 k 6 = -2 by omega), decide_eq_false (show ¬ day < M.2.1 5 k 6 by omega)]
            simp
          · rw [zc_le (by omega) (by omega) d1 d2] at h5
            refine And.intro (Or.inr rfl) (Or.inl ⟨rfl, ?_⟩)
            rwa [cj, decide_eq_true h, decide_eq_true h2, decide_eq_true h3, decide_eq_true (show day < M.2.1 5 k 6 by omega), Bool.or_true] at hK
/-- the amounts of a set -/
def amt (M : Od) (m : Nat) : Nat → Int
  | 0 => 0
  | n + 1 => if m.testBit n then amt M m n + M.2.1 5 n 4 else amt M m n
theorem amt_rng {M : Od} (hO : OKM M) (m : Nat) : ∀ {n : Nat}, n ≤ M.1 5 → 0 ≤ amt M m n ∧ amt M m n ≤ 9999 * n
  | 0, _ => ⟨Int.le_refl 0, Int.le_refl 0⟩
  | n + 1, h => by
    have ih := amt_rng hO m (n := n) (by omega)
    have c := hO.2.2.2.2.2.1 n (by omega)
    unfold amt
    split <;> push_cast <;> omega
def sp_amountOf : Sp := spS 1 (fun f s t as K => ∃ (M : Od) (m : Nat), as = [.ref 0, .long (lN m)] ∧ RS f s t M ∧ OKM M ∧ m < 2 ^ 62 ∧ K (some (.int (iI (amt M m (M.1 5))))))
theorem v_amountOf (l : Launch) : z_V l 67 sp_amountOf := by
  refine z_V.of (by decide +kernel) ?_
  rintro as σ K ⟨f, s, t, rfl, M, m, rfl, hR, hO, hm2, hK⟩
  have hs := hR.size 5 (by omega)
  have hm := hR.max40 5 (by omega)
  have loop : ∀ (n k : Nat) (x y : Int32), n = M.1 5 - k → k ≤ M.1 5 → x = iI (k : Int) → y = iI (amt M m k) → AW l 67 1 0 0 4 none (fun r σ' => (σ' = wS f s t ∧ K r none) ∨ K r (some σ')) 5 [some (.ref 0), some (.long (lN m)), none, some (.int y), some (.int x)] [] (wS f s t) 0 0 := by
    intro n
    induction n using Nat.strongRecOn with
    | ind n ih =>
      intro k x y hn h2 hx hy
      subst hx; subst hy
      refine AW.go (bs := b_State_amountOf) [5] 60 t_State_amountOf ?_
      refine And.intro (zn_in (by omega) (by omega)) ?_
      refine And.intro (fun h => ?_) (fun h => ?_)
      · rw [zn_cl (by omega), hs, zc_ge (by omega) (by omega) (by omega) (by omega)] at h
        refine Or.inl ⟨rfl, ?_⟩
        rw [show k = M.1 5 by omega]
        exact hK
      · rw [zn_cl (by omega), hs, zc_ge (by omega) (by omega) (by omega) (by omega)] at h
        have hk : k < M.1 5 := by omega
        show _ ∧ _
        rw [show (lN (1 : Fin 2).val) = lN 1 from rfl, show (lN (0 : Fin 2).val) = lN 0 from rfl, zl_bit hm2 (by omega)]
        refine And.intro (fun h3 => ?_) (fun h3 => ?_)
        · rw [zl_eq0] at h3
          refine ih _ (by omega) (k + 1) _ _ rfl (by omega) (zn_inc k) ?_
          rw [amt, h3]; rfl
        · rw [zl_eq0] at h3
          refine ⟨_, v_cell l, by decide, f, s, t, rfl, M, 5, k, 4, rfl, hR, by omega, hk, by decide, ?_⟩
          refine ih _ (by omega) (k + 1) _ _ rfl (by omega) (zn_inc k) ?_
          rw [amt, if_pos (by simpa using h3)]
          exact iI_add _ _
  refine AW.go (bs := b_State_amountOf) [5] 60 t_State_amountOf ?_
  exact loop _ 0 _ _ rfl (by omega) rfl rfl
end
section
/-! requests that are joined -/
def nearW (M : Od) (x y : Int) : Prop := y - (M.2.2 0 : Int) ≤ x ∧ x ≤ y + (M.2.2 0 : Int)
def Jcl (M : Od) (r : Nat) (day : Int) (S : Nat → Prop) : Prop := ∀ k, k < r → cj M k r day = true → (nearW M (M.2.1 5 k 5) day ∨ ∃ i, S i ∧ nearW M (M.2.1 5 k 5) (M.2.1 5 i 5)) → S k
/-- joined: in every set that holds those near to the day, or to one in it -/
def Jc (M : Od) (r : Nat) (day : Int) (k : Nat) : Prop := ∀ S, Jcl M r day S → S k
noncomputable def jm (M : Od) (r : Nat) (day : Int) : Nat := bitsF (fun k => @decide (Jc M r day k) (Classical.propDecidable _)) id r
theorem Jc.lt {M : Od} {r : Nat} {day : Int} {k : Nat} (h : Jc M r day k) : k < r ∧ cj M k r day = true := h (fun k => k < r ∧ cj M k r day = true) (fun k h1 h2 _ => ⟨h1, h2⟩)
theorem Jc.closed {M : Od} {r : Nat} {day : Int} : Jcl M r day (Jc M r day) := by
  intro k h1 h2 h3 S hS
  refine hS k h1 h2 ?_
  rcases h3 with h | ⟨i, h4, h5⟩
  · exact Or.inl h
  · exact Or.inr ⟨i, h4 S hS, h5⟩
theorem jm_test {M : Od} {r : Nat} {day : Int} {k : Nat} : (jm M r day).testBit k = true ↔ Jc M r day k := by
  unfold jm
  rw [bitsF_test]
  constructor
  · rintro ⟨i, h1, h2, h3⟩
    have : i = k := h3
    subst this
    exact @of_decide_eq_true _ (Classical.propDecidable _) h2
  · intro h
    exact ⟨k, h.lt.1, @decide_eq_true _ (Classical.propDecidable _) h, rfl⟩
theorem jm_eq {M : Od} {r : Nat} {day : Int} {m : Nat} (h1 : ∀ k, m.testBit k = true → Jc M r day k) (h2 : Jcl M r day (fun k => m.testBit k = true)) : m = jm M r day := by
  apply Nat.eq_of_testBit_eq
  intro i
  rw [Bool.eq_iff_iff, jm_test]
  exact ⟨h1 i, fun h => h _ h2⟩
theorem jm_lt (M : Od) (r : Nat) (day : Int) : jm M r day < 2 ^ r := bitsF_lt (fun k hk _ => hk)
theorem mask_lt {m r : Nat} (h : ∀ i, m.testBit i = true → i < r) : m < 2 ^ r := by
  apply Nat.lt_of_not_le
  intro hle
  obtain ⟨i, h1, h2⟩ := Nat.exists_ge_and_testBit_of_ge_two_pow hle
  exact absurd (h i h2) (by omega)
theorem cntF_add {P P' : Nat → Bool} {k : Nat} (hk : P k = false) (hp : ∀ i, P' i = (P i || decide (k = i))) : ∀ n, cntF P' n = if k < n then cntF P n + 1 else cntF P n
  | 0 => by simp [cntF]
  | n + 1 => by
    have ih := cntF_add hk hp n
    unfold cntF
    rw [hp n, ih]
    by_cases e : k = n
    · subst e
      simp [hk]
    · rw [decide_eq_false e, Bool.or_false]
      by_cases h1 : k < n
      · rw [if_pos h1, if_pos (by omega : k < n + 1)]
        split <;> omega
      · rw [if_neg h1, if_neg (show ¬ k < n + 1 by omega)]
theorem cntF_full {P : Nat → Bool} : ∀ {n : Nat}, n ≤ cntF P n → ∀ i, i < n → P i = true
  | 0, _, i, h => by omega
  | n + 1, h, i, hi => by
    have hl := cntF_le P n
    unfold cntF at h
    split at h
    · next hp =>
      rcases Nat.lt_or_ge i n with q | q
      · exact cntF_full (n := n) (by omega) i q
      · rw [show i = n by omega]; exact hp
    · omega
/-- what holds while the set grows -/
def jInv (M : Od) (r : Nat) (day : Int) (B : Nat) (fi la : Int) : Prop :=
  (∀ i, B.testBit i = true → Jc M r day i ∧ fi ≤ M.2.1 5 i 5 ∧ M.2.1 5 i 5 ≤ la) ∧ 0 ≤ fi ∧ fi ≤ day ∧ day ≤ la ∧ la ≤ 999 ∧
  ∀ x, fi - (M.2.2 0 : Int) ≤ x → x ≤ la + (M.2.2 0 : Int) → nearW M x day ∨ ∃ i, B.testBit i = true ∧ nearW M x (M.2.1 5 i 5)
def jIn (M : Od) (r : Nat) (day : Int) (B : Nat) (fi la : Int) (k : Nat) : Prop := cj M k r day = true → fi - (M.2.2 0 : Int) ≤ M.2.1 5 k 5 → M.2.1 5 k 5 ≤ la + (M.2.2 0 : Int) → B.testBit k = true
theorem jInv_end {M : Od} {r : Nat} {day : Int} {B : Nat} {fi la : Int} (h : jInv M r day B fi la) (hc : ∀ k, k < r → jIn M r day B fi la k) : B = jm M r day := by
  obtain ⟨h1, h2, h3, h4, h5, h6⟩ := h
  refine jm_eq (fun k hk => (h1 k hk).1) (fun k g1 g2 g3 => ?_)
  rcases g3 with g | ⟨i, gi, g⟩
  · exact hc k g1 g2 (by unfold nearW at g; omega) (by unfold nearW at g; omega)
  · have := h1 i gi
    exact hc k g1 g2 (by unfold nearW at g; omega) (by unfold nearW at g; omega)
def sp_joinedBits : Sp := spS 2 (fun f s t as K => ∃ (M : Od) (r : Nat) (day : Int), as = [.ref 0, .int (iI r), .int (iI day)] ∧ RS f s t M ∧ OKM M ∧ r < M.1 5 ∧ 0 ≤ day ∧ day ≤ 999 ∧ K (some (.long (lN (jm M r day)))))
theorem v_joinedBits (l : Launch) : z_V l 65 sp_joinedBits := by
  refine z_V.of (by decide +kernel) ?_
  rintro as σ K ⟨f, s, t, rfl, M, r, day, rfl, hR, hO, hr, y1, y2, hK⟩
  have hm := hR.max40 5 (by omega)
  have hw := hO.2.2.2.2.2.2.1
  have ht : t 0 = iI (M.2.2 0 : Int) := hR.2.2 0 (by omega)
  have outer : ∀ (n turn B : Nat) (fi la : Int) (g : Bool) (x3 : Int64) (x5 x6 x7 x8 : Int32) (v9 v10 v11 : Option Value), n = r - turn → turn ≤ r → x3 = lN B → x5 = iI fi → x6 = iI la → x7 = bI g → x8 = iI (turn : Int) → jInv M r day B fi la → (g = true → turn ≤ cntF B.testBit r) → (g = false → ∀ k, k < r → jIn M r day B fi la k) →
      AW l 65 2 0 0 4 none (fun r σ' => (σ' = wS f s t ∧ K r none) ∨ K r (some σ')) 14 [some (.ref 0), some (.int (iI r)), some (.int (iI day)), some (.long x3), none, some (.int x5), some (.int x6), some (.int x7), some (.int x8), v9, v10, v11] [] (wS f s t) 0 0 := by
    intro n
    induction n using Nat.strongRecOn with
    | ind n ih =>
      intro turn B fi la g x3 x5 x6 x7 x8 v9 v10 v11 hn htr e3 e5 e6 e7 e8 hI hcnt hg
      subst e3; subst e5; subst e6; subst e7; subst e8
      have inner : ∀ (q k B : Nat) (fi la : Int) (g : Bool) (x3 : Int64) (x5 x6 x7 x9 : Int32) (v10 v11 : Option Value), q = r - k → k ≤ r → x3 = lN B → x5 = iI fi → x6 = iI la → x7 = bI g → x9 = iI (k : Int) → turn < r → jInv M r day B fi la → turn ≤ cntF B.testBit r → (g = true → turn + 1 ≤ cntF B.testBit r) → (g = false → ∀ i, i < k → jIn M r day B fi la i) →
          AW l 65 2 0 0 4 none (fun r σ' => (σ' = wS f s t ∧ K r none) ∨ K r (some σ')) 31 [some (.ref 0), some (.int (iI r)), some (.int (iI day)), some (.long x3), none, some (.int x5), some (.int x6), some (.int x7), some (.int (iI (turn : Int))), some (.int x9), v10, v11] [] (wS f s t) 0 0 := by
        intro q
        induction q using Nat.strongRecOn with
        | ind q ihq =>
          intro k B fi la g x3 x5 x6 x7 x9 v10 v11 hq hkr e3 e5 e6 e7 e9 htl hI hcnt hg1 hg0
          subst e3; subst e5; subst e6; subst e7; subst e9
          have hI' := hI
          obtain ⟨i1, i2, i3, i4, i5, i6⟩ := hI'
          have hB : B < 2 ^ 62 := Nat.lt_of_lt_of_le (mask_lt (r := r) (fun i hi => (i1 i hi).1.lt.1)) (Nat.pow_le_pow_right (by decide) (by omega))
          refine AW.go (bs := b_State_joinedBits) [14, 31] 90 t_State_joinedBits ?_
          refine And.intro (fun h => ?_) (fun h => ?_)
          · rw [zc_ge (by omega) (by omega) (by omega) (by omega)] at h
            exact ih _ (by omega) (turn + 1) B fi la g _ _ _ _ _ _ _ _ rfl (by omega) rfl rfl rfl rfl (zn_inc turn) hI hg1 (fun e k' hk' => hg0 e k' (by omega))
          · rw [zc_ge (by omega) (by omega) (by omega) (by omega)] at h
            have hk : k < M.1 5 := by omega
            have c5 := hO.2.2.2.2.2.1 k hk
            have skip : ∀ (v10 v11 : Option Value), jIn M r day B fi la k → AW l 65 2 0 0 4 none (fun r σ' => (σ' = wS f s t ∧ K r none) ∨ K r (some σ')) 31 [some (.ref 0), some (.int (iI r)), some (.int (iI day)), some (.long (lN B)), none, some (.int (iI fi)), some (.int (iI la)), some (.int (bI g)), some (.int (iI (turn : Int))), some (.int (iI (k : Int) + z_nn 1 0)), v10, v11] [] (wS f s t) 0 0 := by
              intro v10 v11 hj
              refine ihq _ (by omega) (k + 1) B fi la g _ _ _ _ _ v10 v11 rfl (by omega) rfl rfl rfl rfl (zn_inc k) htl hI hcnt hg1 (fun e i hi => ?_)
              rcases Nat.lt_or_ge i k with e2 | e2
              · exact hg0 e i e2
              · rw [show i = k by omega]; exact hj
            refine ⟨_, v_cell l, by decide, f, s, t, rfl, M, 5, k, 5, rfl, hR, by omega, hk, by decide, ?_⟩
            refine And.intro (zn_in (by decide) (by omega)) ?_
            show _ ∧ _
            rw [zn_cl (by omega), ht, iI_sub]
            refine And.intro (fun h3 => ?_) (fun h3 => ?_)
            · rw [zc_lt (by omega) (by omega) (by omega) (by omega)] at h3
              refine And.intro (fun _ => skip _ _ (fun _ q1 _ => by omega)) (fun q => absurd (show z_nn 0 0 = 0 by decide) q)
            · rw [zc_lt (by omega) (by omega) (by omega) (by omega)] at h3
              refine And.intro (zn_in (by decide) (by omega)) ?_
              show _ ∧ _
              rw [zn_cl (by omega), ht, iI_add]
              refine And.intro (fun h4 => ?_) (fun h4 => ?_)
              · rw [zc_gt (by omega) (by omega) (by omega) (by omega)] at h4
                refine And.intro (fun _ => skip _ _ (fun _ _ q2 => by omega)) (fun q => absurd (show z_nn 0 0 = 0 by decide) q)
              · rw [zc_gt (by omega) (by omega) (by omega) (by omega)] at h4
                refine And.intro (fun q => absurd q (show ¬ z_nn 1 0 = 0 by decide)) (fun _ => ?_)
                show _ ∧ _
                rw [show (lN (1 : Fin 2).val) = lN 1 from rfl, show (lN (0 : Fin 2).val) = lN 0 from rfl, zl_bit hB (by omega)]
                refine And.intro (fun h5 => ?_) (fun h5 => ?_)
                · rw [zl_ne0] at h5
                  exact skip _ _ (fun _ _ _ => h5)
                · rw [zl_ne0] at h5
                  have h5' : B.testBit k = false := by simpa using h5
                  refine ⟨_, v_canJoin l, by decide, f, s, t, rfl, M, k, r, day, rfl, hR, hO, hk, hr, ⟨by omega, by omega⟩, ?_⟩
                  refine And.intro (fun h6 => ?_) (fun h6 => ?_)
                  · rw [zc_beq] at h6
                    exact skip _ _ (fun q _ _ => by rw [h6] at q; cases q)
                  · rw [zc_beq] at h6
                    have h6' : cj M k r day = true := by simpa using h6
                    have hJ : Jc M r day k := Jc.closed k (by omega) h6' (by
                      rcases i6 (M.2.1 5 k 5) (by omega) (by omega) with q | ⟨i, q1, q2⟩
                      · exact Or.inl q
                      · exact Or.inr ⟨i, (i1 i q1).1, q2⟩)
                    have hc := cntF_add (P := B.testBit) (P' := (B ||| 2 ^ k).testBit) h5' (fun i => zb_test B k i) r
                    rw [if_pos (by omega)] at hc
                    refine ihq _ (by omega) (k + 1) (B ||| 2 ^ k) (min fi (M.2.1 5 k 5)) (max la (M.2.1 5 k 5)) true _ _ _ _ _ _ _ rfl (by omega) ?_ (min_iI (by omega) (by omega) (by omega) (by omega)) (max_iI (by omega) (by omega) (by omega) (by omega)) rfl (zn_inc k) htl ?_ (by omega) (fun _ => by omega) (fun q => by cases q)
                    · show lN B ||| lN 1 <<< ((iI (k : Int)).toInt64 &&& 63) = _
                      rw [zl_shl k (by omega), zl_or (by omega) (by
                        have : 2 ^ k < 2 ^ 62 := Nat.pow_lt_pow_right (by decide) (by omega)
                        omega)]
                    · refine ⟨fun i hi => ?_, by omega, by omega, by omega, by omega, fun x a b => ?_⟩
                      · rw [zb_test, Bool.or_eq_true, decide_eq_true_iff] at hi
                        rcases hi with hi | hi
                        · have := i1 i hi
                          exact ⟨this.1, by omega, by omega⟩
                        · subst hi
                          exact ⟨hJ, by omega, by omega⟩
                      · have old : ∀ x, (nearW M x day ∨ ∃ i, B.testBit i = true ∧ nearW M x (M.2.1 5 i 5)) → nearW M x day ∨ ∃ i, (B ||| 2 ^ k).testBit i = true ∧ nearW M x (M.2.1 5 i 5) := by
                          rintro x (q | ⟨i, q1, q2⟩)
                          · exact Or.inl q
                          · exact Or.inr ⟨i, by rw [zb_test, q1]; rfl, q2⟩
                        have new : nearW M x (M.2.1 5 k 5) → nearW M x day ∨ ∃ i, (B ||| 2 ^ k).testBit i = true ∧ nearW M x (M.2.1 5 i 5) := fun q => Or.inr ⟨k, by rw [zb_test, decide_eq_true rfl, Bool.or_true], q⟩
                        by_cases g1 : fi - (M.2.2 0 : Int) ≤ x
                        · by_cases g2 : x ≤ la + (M.2.2 0 : Int)
                          · exact old x (i6 x g1 g2)
                          · exact new ⟨by omega, by omega⟩
                        · exact new ⟨by omega, by omega⟩
      obtain ⟨j1, j2, j3, j4, j5, j6⟩ := id hI
      have full : turn = r → B = jm M r day := by
        intro e
        cases g with
        | false => exact jInv_end hI (hg rfl)
        | true => exact jInv_end hI (fun k hk _ _ _ => cntF_full (by have := hcnt rfl; omega) k hk)
      refine AW.go (bs := b_State_joinedBits) [14, 31] 90 t_State_joinedBits ?_
      refine And.intro (fun h => ?_) (fun h => ?_)
      · rw [zc_ge (by omega) (by omega) (by omega) (by omega)] at h
        refine Or.inl ⟨rfl, ?_⟩
        rw [full (by omega)]
        exact hK
      · rw [zc_ge (by omega) (by omega) (by omega) (by omega)] at h
        refine And.intro (fun h2 => ?_) (fun h2 => ?_)
        · rw [zc_beq] at h2
          refine Or.inl ⟨rfl, ?_⟩
          rw [jInv_end hI (hg h2)]
          exact hK
        · rw [zc_beq] at h2
          have h2' : g = true := by simpa using h2
          exact inner _ 0 B fi la false _ _ _ _ _ _ _ rfl (by omega) rfl rfl rfl rfl rfl (by omega) hI (hcnt h2') (fun q => by cases q) (fun _ i hi => by omega)
  refine AW.go (bs := b_State_joinedBits) [14, 31] 90 t_State_joinedBits ?_
  exact outer _ 0 0 day day true _ _ _ _ _ _ _ _ rfl (by omega) rfl rfl rfl rfl rfl ⟨fun i hi => by simp at hi, y1, Int.le_refl _, Int.le_refl _, y2, fun x a b => Or.inl ⟨a, b⟩⟩ (fun _ => Nat.zero_le _) (fun h => by cases h)
end
section
/-! State's methods that change it -/
def spM (rk : Nat) (P : (Nat → Int32) → (Nat → Int32) → (Nat → Int32) → List Value → (Option Value → (Nat → Int32) → (Nat → Int32) → (Nat → Int32) → Prop) → Prop) : Sp := (rk, 0, 0, pS, fun as σ K => ∃ f s t, σ = wS f s t ∧ P f s t as (fun r f s t => K r (some (wS f s t))))
theorem b_0 : oB 0 = 0 := rfl
theorem b_1 : oB 1 = 96 := rfl
theorem b_2 : oB 2 = 168 := rfl
theorem b_3 : oB 3 = 288 := rfl
theorem b_4 : oB 4 = 320 := rfl
theorem b_5 : oB 5 = 368 := rfl
theorem w_0 : oW 0 = 4 := rfl
theorem w_1 : oW 1 = 3 := rfl
theorem w_2 : oW 2 = 5 := rfl
theorem w_3 : oW 3 = 2 := rfl
theorem w_4 : oW 4 = 4 := rfl
theorem w_5 : oW 5 = 7 := rfl
theorem x_0 : oX 0 = 24 := rfl
theorem x_1 : oX 1 = 24 := rfl
theorem x_2 : oX 2 = 24 := rfl
theorem x_3 : oX 3 = 16 := rfl
theorem x_4 : oX 4 = 12 := rfl
theorem x_5 : oX 5 = 40 := rfl
theorem d6 {d : Nat} (h : d < 6) : d = 0 ∨ d = 1 ∨ d = 2 ∨ d = 3 ∨ d = 4 ∨ d = 5 := by omega
theorem zi_inj {d k c d' k' c' : Nat} (hd : d < 6) (hd' : d' < 6) (hk : k < oX d) (hk' : k' < oX d') (hc : c < oW d) (hc' : c' < oW d') (h : zi d k c = zi d' k' c') : d = d' ∧ k = k' ∧ c = c' := by
  rcases d6 hd with rfl | rfl | rfl | rfl | rfl | rfl <;> rcases d6 hd' with rfl | rfl | rfl | rfl | rfl | rfl <;> simp only [zi, b_0, b_1, b_2, b_3, b_4, b_5, w_0, w_1, w_2, w_3, w_4, w_5, x_0, x_1, x_2, x_3, x_4, x_5] at * <;> refine ⟨?_, ?_, ?_⟩ <;> first | trivial | omega
theorem zi_lt' {d k c : Nat} (hd : d < 6) (hk : k < oX d) (hc : c < oW d) : zi d k c < 648 := by
  rcases d6 hd with rfl | rfl | rfl | rfl | rfl | rfl <;> simp only [zi, b_0, b_1, b_2, b_3, b_4, b_5, w_0, w_1, w_2, w_3, w_4, w_5, x_0, x_1, x_2, x_3, x_4, x_5] at * <;> omega
def sp_put : Sp := spM 0 (fun f s t as K => ∃ (d k c : Nat) (v : Int32), as = [.ref 0, .int (iI d), .int (iI k), .int (iI c), .int v] ∧ d < 6 ∧ k < oX d ∧ c < oW d ∧ K none (upd f (zi d k c) v) s t)
theorem v_put (l : Launch) : z_V l 53 sp_put := by
  refine z_V.of (by decide +kernel) ?_
  rintro as σ K ⟨f, s, t, rfl, d, k, c, v, rfl, hd, hk, hc, hK⟩
  have hz := zi_lt' hd hk hc
  refine AW.go (bs := b_State_put) [] 50 t_State_put ?_
  refine And.intro (zN_in hd (by omega)) ?_
  refine And.intro (zN_in hd (by omega)) ?_
  have e2 : nI ([0, 96, 168, 288, 320, 368].getD (iI (d : Int)).toNatClampNeg 0) + iI (k : Int) * nI ([4, 3, 5, 2, 4, 7].getD (iI (d : Int)).toNatClampNeg 0) + iI (c : Int) = iI ((zi d k c : Nat) : Int) := by
    rw [z_tab _ (by omega), z_tab _ (by omega)]; exact zi_eq d k c
  show _ ∧ _
  rw [e2]
  refine And.intro (zN_in hz (by omega)) (Or.inr ?_)
  rw [zN_cl (by omega)]
  exact hK
/-- a row behind the others -/
def oAdd (M : Od) (d : Nat) (row : Nat → Int) : Od := (fun x => if x = d then M.1 x + 1 else M.1 x, fun x k c => if x = d ∧ k = M.1 d then row c else M.2.1 x k c, M.2.2)
/-- the row k goes -/
def oDel (M : Od) (d k : Nat) : Od := (fun x => if x = d then M.1 x - 1 else M.1 x, fun x i c => if x = d ∧ k ≤ i then M.2.1 x (i + 1) c else M.2.1 x i c, M.2.2)
/-- one cell -/
def oPut (M : Od) (d k c : Nat) (v : Int) : Od := (M.1, fun x i y => if x = d ∧ i = k ∧ y = c then v else M.2.1 x i y, M.2.2)
def oSet (M : Od) (w v : Nat) : Od := (M.1, M.2.1, fun x => if x = w then v else M.2.2 x)
def oNew : Od := (fun _ => 0, fun _ _ _ => 0, fun w => [0, 1, 2].getD w 0)
theorem RS.put {f s t : Nat → Int32} {M : Od} (h : RS f s t M) {d k c : Nat} (hd : d < 6) (hk : k < M.1 d) (hc : c < oW d) (v : Int) : RS (upd f (zi d k c) (iI v)) s t (oPut M d k c v) := by
  refine ⟨h.1, fun d' k' c' h1 h2 h3 => ?_, h.2.2⟩
  show upd f (zi d k c) (iI v) (zi d' k' c') = iI (if d' = d ∧ k' = k ∧ c' = c then v else M.2.1 d' k' c')
  unfold upd
  by_cases e : zi d' k' c' = zi d k c
  · obtain ⟨e1, e2, e3⟩ := zi_inj h1 hd (Nat.lt_of_lt_of_le h2 (h.max d' h1)) (Nat.lt_of_lt_of_le hk (h.max d hd)) h3 hc e
    rw [if_pos e, if_pos ⟨e1, e2, e3⟩]
  · rw [if_neg e, if_neg (fun q => e (by rw [q.1, q.2.1, q.2.2]))]
    exact h.2.1 d' k' c' h1 h2 h3
def rw5 (a b c d e : Int32) (i : Nat) : Int32 := match i with
  | 0 => a
  | 1 => b
  | 2 => c
  | 3 => d
  | _ => e
def sp_addRow : Sp := spM 1 (fun f s t as K => ∃ (M : Od) (d : Nat) (a b c x e : Int32), as = [.ref 0, .int (iI d), .int a, .int b, .int c, .int x, .int e] ∧ RS f s t M ∧ d < 6 ∧ M.1 d < oX d ∧
  ∀ f', (∀ i, i < 5 → i < oW d → f' (zi d (M.1 d) i) = rw5 a b c x e i) → (∀ y, (∀ i, i < 5 → i < oW d → y ≠ zi d (M.1 d) i) → f' y = f y) → K (some (.int (iI (M.1 d)))) f' (upd s d (iI ((M.1 d : Int) + 1))) t)
theorem v_addRow (l : Launch) : z_V l 54 sp_addRow := by
  refine z_V.of (by decide +kernel) ?_
  rintro as σ K ⟨f, s, t, rfl, M, d, a, b, c, x, e, rfl, hR, hd, hn, hK⟩
  have hs := hR.size d hd
  have hm := hR.max40 d hd
  have hw : 2 ≤ oW d ∧ oW d ≤ 7 := by
    have key : ∀ d, d < 6 → 2 ≤ oW d ∧ oW d ≤ 7 := by decide +kernel
    exact key d hd
  have inj : ∀ {i i' : Nat}, i < oW d → i' < oW d → zi d (M.1 d) i = zi d (M.1 d) i' → i = i' := fun h1 h2 h3 => (zi_inj hd hd hn hn h1 h2 h3).2.2
  have ne : ∀ {i i' : Nat}, i < oW d → i' < oW d → i ≠ i' → ¬ zi d (M.1 d) i = zi d (M.1 d) i' := fun h1 h2 h3 h4 => h3 (inj h1 h2 h4)
  refine AW.go (bs := b_State_addRow) [] 120 t_State_addRow ?_
  refine ⟨_, v_isFull l, by decide, f, s, t, rfl, M, d, rfl, hR, hd, ?_⟩
  refine And.intro (fun h => ?_) (fun h => ?_)
  · refine And.intro (zN_in hd (by omega)) ?_
    refine And.intro (zN_in hd (by omega)) ?_
    refine And.intro (zN_in hd (by omega)) ?_
    show ∃ sp : Sp, _
    have ew : nI ([4, 3, 5, 2, 4, 7].getD (iI (d : Int)).toNatClampNeg 0) = iI ((oW d : Nat) : Int) := z_tab _ (by omega)
    rw [ew, zN_cl (by omega), hs, zn_i 1, iI_add]
    refine ⟨_, v_put l, by decide, f, _, t, rfl, d, M.1 d, 0, a, rfl, hd, hn, by omega, ?_⟩
    refine ⟨_, v_put l, by decide, _, _, t, rfl, d, M.1 d, 1, b, rfl, hd, hn, by omega, ?_⟩
    refine And.intro (fun h2 => ?_) (fun h2 => ?_)
    · rw [zn_i, zc_le (by omega) (by omega) (by omega) (by omega)] at h2
      refine And.intro (fun h3 => ?_) (fun h3 => by rw [zn_i, zc_le (by omega) (by omega) (by omega) (by omega)] at h3; omega)
      refine And.intro (fun h4 => ?_) (fun h4 => by rw [zn_i, zc_le (by omega) (by omega) (by omega) (by omega)] at h4; omega)
      refine Or.inr (hK _ (fun i h5 h6 => ?_) (fun y hy => ?_))
      · have : i = 0 ∨ i = 1 := by omega
        rcases this with rfl | rfl
        · simp only [upd]; rw [if_neg (ne (by omega) (by omega) (by omega)), if_pos trivial]; rfl
        · simp only [upd]; rw [if_pos trivial]; rfl
      · simp only [upd]; rw [if_neg (hy 1 (by omega) (by omega)), if_neg (hy 0 (by omega) (by omega))]
    · rw [zn_i, zc_le (by omega) (by omega) (by omega) (by omega)] at h2
      refine ⟨_, v_put l, by decide, _, _, t, rfl, d, M.1 d, 2, c, rfl, hd, hn, by omega, ?_⟩
      refine And.intro (fun h3 => ?_) (fun h3 => ?_)
      · rw [zn_i, zc_le (by omega) (by omega) (by omega) (by omega)] at h3
        refine And.intro (fun h4 => ?_) (fun h4 => by rw [zn_i, zc_le (by omega) (by omega) (by omega) (by omega)] at h4; omega)
        refine Or.inr (hK _ (fun i h5 h6 => ?_) (fun y hy => ?_))
        · have : i = 0 ∨ i = 1 ∨ i = 2 := by omega
          rcases this with rfl | rfl | rfl
          · simp only [upd]; rw [if_neg (ne (by omega) (by omega) (by omega)), if_neg (ne (by omega) (by omega) (by omega)), if_pos trivial]; rfl
          · simp only [upd]; rw [if_neg (ne (by omega) (by omega) (by omega)), if_pos trivial]; rfl
          · simp only [upd]; rw [if_pos trivial]; rfl
        · simp only [upd]; rw [if_neg (hy 2 (by omega) (by omega)), if_neg (hy 1 (by omega) (by omega)), if_neg (hy 0 (by omega) (by omega))]
      · rw [zn_i, zc_le (by omega) (by omega) (by omega) (by omega)] at h3
        refine ⟨_, v_put l, by decide, _, _, t, rfl, d, M.1 d, 3, x, rfl, hd, hn, by omega, ?_⟩
        refine And.intro (fun h4 => ?_) (fun h4 => ?_)
        · rw [zn_i, zc_le (by omega) (by omega) (by omega) (by omega)] at h4
          refine Or.inr (hK _ (fun i h5 h6 => ?_) (fun y hy => ?_))
          · have : i = 0 ∨ i = 1 ∨ i = 2 ∨ i = 3 := by omega
            rcases this with rfl | rfl | rfl | rfl
            · simp only [upd]; rw [if_neg (ne (by omega) (by omega) (by omega)), if_neg (ne (by omega) (by omega) (by omega)), if_neg (ne (by omega) (by omega) (by omega)), if_pos trivial]; rfl
            · simp only [upd]; rw [if_neg (ne (by omega) (by omega) (by omega)), if_neg (ne (by omega) (by omega) (by omega)), if_pos trivial]; rfl
            · simp only [upd]; rw [if_neg (ne (by omega) (by omega) (by omega)), if_pos trivial]; rfl
            · simp only [upd]; rw [if_pos trivial]; rfl
          · simp only [upd]; rw [if_neg (hy 3 (by omega) (by omega)), if_neg (hy 2 (by omega) (by omega)), if_neg (hy 1 (by omega) (by omega)), if_neg (hy 0 (by omega) (by omega))]
        · rw [zn_i, zc_le (by omega) (by omega) (by omega) (by omega)] at h4
          refine ⟨_, v_put l, by decide, _, _, t, rfl, d, M.1 d, 4, e, rfl, hd, hn, by omega, ?_⟩
          refine Or.inr (hK _ (fun i h5 h6 => ?_) (fun y hy => ?_))
          · have : i = 0 ∨ i = 1 ∨ i = 2 ∨ i = 3 ∨ i = 4 := by omega
            rcases this with rfl | rfl | rfl | rfl | rfl
            · simp only [upd]; rw [if_neg (ne (by omega) (by omega) (by omega)), if_neg (ne (by omega) (by omega) (by omega)), if_neg (ne (by omega) (by omega) (by omega)), if_neg (ne (by omega) (by omega) (by omega)), if_pos trivial]; rfl
            · simp only [upd]; rw [if_neg (ne (by omega) (by omega) (by omega)), if_neg (ne (by omega) (by omega) (by omega)), if_neg (ne (by omega) (by omega) (by omega)), if_pos trivial]; rfl
            · simp only [upd]; rw [if_neg (ne (by omega) (by omega) (by omega)), if_neg (ne (by omega) (by omega) (by omega)), if_pos trivial]; rfl
            · simp only [upd]; rw [if_neg (ne (by omega) (by omega) (by omega)), if_pos trivial]; rfl
            · simp only [upd]; rw [if_pos trivial]; rfl
          · simp only [upd]; rw [if_neg (hy 4 (by omega) (by omega)), if_neg (hy 3 (by omega) (by omega)), if_neg (hy 2 (by omega) (by omega)), if_neg (hy 1 (by omega) (by omega)), if_neg (hy 0 (by omega) (by omega))]
  · rw [zc_beq, decide_eq_false_iff_not] at h
    omega
theorem RS.add {f s t f' : Nat → Int32} {M : Od} (h : RS f s t M) {d : Nat} (hd : d < 6) (hn : M.1 d < oX d) {row : Nat → Int} (h1 : ∀ c, c < oW d → f' (zi d (M.1 d) c) = iI (row c)) (h2 : ∀ y, (∀ c, c < oW d → y ≠ zi d (M.1 d) c) → f' y = f y) : RS f' (upd s d (iI ((M.1 d : Int) + 1))) t (oAdd M d row) := by
  refine ⟨fun x hx => ?_, fun x k c hx hk hc => ?_, h.2.2⟩
  · show upd s d (iI ((M.1 d : Int) + 1)) x = iI ((if x = d then M.1 x + 1 else M.1 x : Nat) : Int) ∧ (if x = d then M.1 x + 1 else M.1 x) ≤ oX x
    unfold upd
    by_cases e : x = d
    · subst e; rw [if_pos rfl, if_pos rfl]; exact ⟨by push_cast; rfl, by omega⟩
    · rw [if_neg e, if_neg e]; exact h.1 x hx
  · replace hk : k < (if x = d then M.1 x + 1 else M.1 x) := hk
    show f' (zi x k c) = iI (if x = d ∧ k = M.1 d then row c else M.2.1 x k c)
    by_cases e : x = d ∧ k = M.1 d
    · rw [if_pos e, e.1, e.2]; exact h1 c (by rw [← e.1]; exact hc)
    · rw [if_neg e]
      have hk' : k < M.1 x := by
        by_cases e1 : x = d
        · rw [if_pos e1] at hk
          subst e1
          have : ¬ k = M.1 x := fun q => e ⟨rfl, q⟩
          omega
        · rw [if_neg e1] at hk; exact hk
      rw [h2 _ (fun c' hc' q => ?_)]
      · exact h.2.1 x k c hx hk' hc
      · obtain ⟨q1, q2, -⟩ := zi_inj hx hd (Nat.lt_of_lt_of_le hk' (h.max x hx)) hn hc hc' q
        exact e ⟨q1, q2⟩
/-- a row of at most five columns -/
def sp_addRowM : Sp := spM 1 (fun f s t as K => ∃ (M : Od) (d : Nat) (a b c x e : Int), as = [.ref 0, .int (iI d), .int (iI a), .int (iI b), .int (iI c), .int (iI x), .int (iI e)] ∧ RS f s t M ∧ d < 5 ∧ M.1 d < oX d ∧
  ∀ f' s', RS f' s' t (oAdd M d (fun i => [a, b, c, x, e].getD i 0)) → K (some (.int (iI (M.1 d)))) f' s' t)
theorem v_addRowM (l : Launch) : z_V l 54 sp_addRowM := (v_addRow l).mono _ (by
  rintro as σ K ⟨f, s, t, rfl, M, d, a, b, c, x, e, rfl, hR, hd, hn, hK⟩
  have hw : oW d ≤ 5 := by
    have key : ∀ d, d < 5 → oW d ≤ 5 := by decide +kernel
    exact key d hd
  refine ⟨f, s, t, rfl, M, d, _, _, _, _, _, rfl, hR, by omega, hn, fun f' h1 h2 => hK f' _ (hR.add (by omega) hn (fun c' hc' => ?_) (fun y hy => h2 y (fun i _ hi => hy i hi)))⟩
  rw [h1 c' (by omega) hc']
  have : c' = 0 ∨ c' = 1 ∨ c' = 2 ∨ c' = 3 ∨ c' = 4 := by omega
  rcases this with rfl | rfl | rfl | rfl | rfl <;> rfl)
def sp_addRequest : Sp := spM 2 (fun f s t as K => ∃ (M : Od) (p o v k a y : Int), as = [.ref 0, .int (iI p), .int (iI o), .int (iI v), .int (iI k), .int (iI a), .int (iI y)] ∧ RS f s t M ∧ M.1 5 < 40 ∧
  ∀ f' s', RS f' s' t (oAdd M 5 (fun i => [p, o, v, k, a, y, -2].getD i 0)) → K (some (.int (iI (M.1 5)))) f' s' t)
theorem v_addRequest (l : Launch) : z_V l 55 sp_addRequest := by
  refine z_V.of (by decide +kernel) ?_
  rintro as σ K ⟨f, s, t, rfl, M, p, o, v, k, a, y, rfl, hR, hn, hK⟩
  have ne : ∀ {i i' : Nat}, i < 7 → i' < 7 → i ≠ i' → ¬ zi 5 (M.1 5) i = zi 5 (M.1 5) i' := fun h1 h2 h3 h4 => h3 (zi_inj (by omega) (by omega) hn hn h1 h2 h4).2.2
  refine AW.go (bs := b_State_addRequest) [] 120 t_State_addRequest ?_
  refine ⟨_, v_addRow l, by decide, f, s, t, rfl, M, 5, _, _, _, _, _, rfl, hR, by omega, hn, fun f1 h1 h2 => ?_⟩
  refine And.intro (fun h => ?_) (fun h => ?_)
  · have h := (zc_eq (by omega) (by omega) (by omega) (by omega)).mp h
    omega
  · refine ⟨_, v_put l, by decide, _, _, t, rfl, 5, M.1 5, 5, _, rfl, by omega, hn, by decide, ?_⟩
    refine ⟨_, v_put l, by decide, _, _, t, rfl, 5, M.1 5, 6, _, rfl, by omega, hn, by decide, ?_⟩
    refine Or.inr (hK _ _ (hR.add (by omega) hn (fun c hc => ?_) (fun y hy => ?_)))
    · have hc : c < 7 := hc
      have : c < 5 ∨ c = 5 ∨ c = 6 := by omega
      rcases this with h3 | rfl | rfl
      · simp only [upd]
        rw [if_neg (ne (by omega) (by omega) (by omega)), if_neg (ne (by omega) (by omega) (by omega)), h1 c h3 hc]
        have : c = 0 ∨ c = 1 ∨ c = 2 ∨ c = 3 ∨ c = 4 := by omega
        rcases this with rfl | rfl | rfl | rfl | rfl <;> rfl
      · simp only [upd]
        rw [if_neg (ne (by omega) (by omega) (by omega)), if_pos trivial]; rfl
      · simp only [upd]
        rw [if_pos trivial]; rfl
    · simp only [upd]
      rw [if_neg (hy 6 (by decide)), if_neg (hy 5 (by decide))]
      exact h2 y (fun i _ hi => hy i hi)
end
section
theorem RS.del {f s t : Nat → Int32} {M : Od} (h : RS f s t M) {d k : Nat} (hd : d < 6) (hk : k < M.1 d) : RS (va_cpy f f (zi d k 0 + oW d) (zi d k 0) ((M.1 d - k - 1) * oW d)) (upd s d (iI ((M.1 d : Int) - 1))) t (oDel M d k) := by
  refine ⟨fun x hx => ?_, fun x i c hx hi hc => ?_, h.2.2⟩
  · show upd s d (iI ((M.1 d : Int) - 1)) x = iI ((if x = d then M.1 x - 1 else M.1 x : Nat) : Int) ∧ (if x = d then M.1 x - 1 else M.1 x) ≤ oX x
    have := h.1 x hx
    unfold upd
    by_cases e : x = d
    · subst e; rw [if_pos rfl, if_pos rfl]; exact ⟨by congr 1; omega, by omega⟩
    · rw [if_neg e, if_neg e]; exact this
  · replace hi : i < (if x = d then M.1 x - 1 else M.1 x) := hi
    show va_cpy f f (zi d k 0 + oW d) (zi d k 0) ((M.1 d - k - 1) * oW d) (zi x i c) = iI (if x = d ∧ k ≤ i then M.2.1 x (i + 1) c else M.2.1 x i c)
    have mx := h.max x hx
    have md := h.max d hd
    unfold va_cpy
    by_cases e : x = d
    · subst e
      rw [if_pos rfl] at hi
      by_cases e2 : k ≤ i
      · have hin : zi x k 0 ≤ zi x i c ∧ zi x i c < zi x k 0 + (M.1 x - k - 1) * oW x := by
          rcases d6 hx with rfl | rfl | rfl | rfl | rfl | rfl <;> simp only [zi, b_0, b_1, b_2, b_3, b_4, b_5, w_0, w_1, w_2, w_3, w_4, w_5, x_0, x_1, x_2, x_3, x_4, x_5] at * <;> refine ⟨?_, ?_⟩ <;> omega
        have hix : zi x k 0 + oW x + (zi x i c - zi x k 0) = zi x (i + 1) c := by
          rcases d6 hx with rfl | rfl | rfl | rfl | rfl | rfl <;> simp only [zi, b_0, b_1, b_2, b_3, b_4, b_5, w_0, w_1, w_2, w_3, w_4, w_5, x_0, x_1, x_2, x_3, x_4, x_5] at * <;> omega
        rw [if_pos hin, if_pos ⟨rfl, e2⟩, hix]
        exact h.2.1 x (i + 1) c hx (by omega) hc
      · have hin : ¬ (zi x k 0 ≤ zi x i c ∧ zi x i c < zi x k 0 + (M.1 x - k - 1) * oW x) := by
          rcases d6 hx with rfl | rfl | rfl | rfl | rfl | rfl <;> simp only [zi, b_0, b_1, b_2, b_3, b_4, b_5, w_0, w_1, w_2, w_3, w_4, w_5, x_0, x_1, x_2, x_3, x_4, x_5] at * <;> omega
        rw [if_neg hin, if_neg (fun q => e2 q.2)]
        exact h.2.1 x i c hx (by omega) hc
    · rw [if_neg e] at hi
      have hin : ¬ (zi d k 0 ≤ zi x i c ∧ zi x i c < zi d k 0 + (M.1 d - k - 1) * oW d) := by
        rcases d6 hx with rfl | rfl | rfl | rfl | rfl | rfl <;> rcases d6 hd with rfl | rfl | rfl | rfl | rfl | rfl <;> first | exact absurd rfl e | (simp only [zi, b_0, b_1, b_2, b_3, b_4, b_5, w_0, w_1, w_2, w_3, w_4, w_5, x_0, x_1, x_2, x_3, x_4, x_5] at *; omega)
      rw [if_neg hin, if_neg (fun q => e q.1)]
      exact h.2.1 x i c hx hi hc
def sp_removeRow : Sp := spM 1 (fun f s t as K => ∃ (M : Od) (d k : Nat), as = [.ref 0, .int (iI d), .int (iI k)] ∧ RS f s t M ∧ d < 6 ∧ k < M.1 d ∧ ∀ f' s', RS f' s' t (oDel M d k) → K none f' s' t)
theorem v_removeRow (l : Launch) : z_V l 56 sp_removeRow := by
  refine z_V.of (by decide +kernel) ?_
  rintro as σ K ⟨f, s, t, rfl, M, d, k, rfl, hR, hd, hk, hK⟩
  have hs := hR.size d hd
  have hm := hR.max40 d hd
  have mx := hR.max d hd
  have hw : oW d ≤ 7 := by
    have key : ∀ d, d < 6 → oW d ≤ 7 := by decide +kernel
    exact key d hd
  have hsum : zi d k 0 + oW d + (M.1 d - k - 1) * oW d ≤ 648 := by
    rcases d6 hd with rfl | rfl | rfl | rfl | rfl | rfl <;> simp only [zi, b_0, b_1, b_2, b_3, b_4, b_5, w_0, w_1, w_2, w_3, w_4, w_5, x_0, x_1, x_2, x_3, x_4, x_5] at * <;> omega
  have hmul : (M.1 d - k - 1) * oW d ≤ 648 := by omega
  refine AW.go (bs := b_State_removeRow) [] 90 t_State_removeRow ?_
  refine ⟨_, v_has l, by decide, f, s, t, rfl, M, d, (k : Int), rfl, hR, hd, ⟨by omega, by omega⟩, ?_⟩
  refine And.intro (fun h => ?_) (fun h => ?_)
  · refine And.intro (zN_in hd (by omega)) ?_
    refine And.intro (zN_in hd (by omega)) ?_
    refine And.intro (zN_in hd (by omega)) ?_
    have ew : nI ([4, 3, 5, 2, 4, 7].getD (iI (d : Int)).toNatClampNeg 0) = iI ((oW d : Nat) : Int) := z_tab _ (by omega)
    have eb : nI ([0, 96, 168, 288, 320, 368].getD (iI (d : Int)).toNatClampNeg 0) = iI ((oB d : Nat) : Int) := z_tab _ (by omega)
    have e1 : iI ((oB d : Nat) : Int) + iI (k : Int) * iI ((oW d : Nat) : Int) = iI ((zi d k 0 : Nat) : Int) := by
      rw [iI_mul, iI_add]; rfl
    have e2 : iI ((zi d k 0 : Nat) : Int) + iI ((oW d : Nat) : Int) = iI ((zi d k 0 + oW d : Nat) : Int) := by rw [iI_add]; rfl
    have e3 : (iI (M.1 d : Int) - iI (k : Int) - iI 1) * iI ((oW d : Nat) : Int) = iI (((M.1 d - k - 1) * oW d : Nat) : Int) := by
      rw [iI_sub, iI_sub, iI_mul]; congr 1; push_cast; rw [Int.ofNat_sub (by omega), Int.ofNat_sub (by omega)]; rfl
    show _ ∧ _ ∧ _
    rw [ew, eb, e1, e2, zN_cl (by omega : d < 2147483648), hs, zn_i 1]
    rw [show ((1 : Nat) : Int) = 1 from rfl, e3]
    refine ⟨?_, ?_, ?_, ?_, ?_, ?_⟩
    · rw [iI_0, iI_lt (by omega) (by omega) (by omega) (by omega)]; omega
    · rw [iI_0, iI_lt (by omega) (by omega) (by omega) (by omega)]; omega
    · rw [iI_0, iI_lt (by omega) (by omega) (by omega) (by omega)]; omega
    · rw [zN_cl (by omega), zN_cl (by omega)]; omega
    · rw [zN_cl (by omega), zN_cl (by omega)]; omega
    · rw [zN_cl (by omega), zN_cl (by omega), zN_cl (by omega)]
      refine And.intro (zN_in hd (by omega)) ?_
      refine And.intro (zN_in hd (by omega)) (Or.inr ?_)
      rw [zN_cl (by omega), hs, zn_i 1, iI_sub]
      exact hK _ _ (hR.del hd hk)
  · rw [zc_bne, decide_eq_true_eq] at h
    omega
theorem RS_new {f s t : Nat → Int32} (h1 : ∀ d, d < 6 → s d = iI 0) (h2 : ∀ w, w < 3 → t w = iI (([0, 1, 2].getD w 0 : Nat) : Int)) : RS f s t oNew :=
  ⟨fun d hd => ⟨h1 d hd, Nat.zero_le _⟩, fun d k c _ hk _ => absurd hk (Nat.not_lt_zero k), h2⟩
def sp_clear : Sp := spM 0 (fun f s t as K => as = [.ref 0] ∧ ∀ s' t', (∀ d, d < 6 → s' d = iI 0) → (∀ w, w < 3 → t' w = iI (([0, 1, 2].getD w 0 : Nat) : Int)) → K none f s' t')
theorem v_clear (l : Launch) : z_V l 48 sp_clear := by
  refine z_V.of (by decide +kernel) ?_
  rintro as σ K ⟨f, s, t, rfl, rfl, hK⟩
  have loop2 : ∀ (n k : Nat) (x : Int32) (s' t' : Nat → Int32), n = 3 - k → k ≤ 3 → x = iI (k : Int) → (∀ d, d < 6 → s' d = iI 0) → (∀ w, w < k → t' w = iI (([0, 1, 2].getD w 0 : Nat) : Int)) → AW l 48 0 0 0 4 none (fun r σ' => (σ' = wS f s t ∧ K r none) ∨ K r (some σ')) 23 [some (.ref 0), some (.int x)] [] (wS f s' t') 0 0 := by
    intro n
    induction n using Nat.strongRecOn with
    | ind n ih =>
      intro k x s' t' hn hk hx hs ht
      subst hx
      refine AW.go (bs := b_State_clear) [2, 23] 60 t_State_clear ?_
      refine And.intro (fun h => ?_) (fun h => ?_)
      · rw [zn_i, zc_ge (by omega) (by omega) (by omega) (by omega)] at h
        exact Or.inr (hK s' t' hs (fun w hw => ht w (by omega)))
      · rw [zn_i, zc_ge (by omega) (by omega) (by omega) (by omega)] at h
        refine And.intro (zN_in (by show k < 3; omega) (by omega)) ?_
        refine And.intro (zN_in (by show k < 3; omega) (by omega)) ?_
        refine ih _ (by omega) (k + 1) _ s' _ rfl (by omega) (zn_inc k) hs (fun w hw => ?_)
        rw [zN_cl (by omega), iI_nI]
        unfold upd
        by_cases e : w = k
        · rw [if_pos e, e]
        · rw [if_neg e]; exact ht w (by omega)
  have loop1 : ∀ (n k : Nat) (x : Int32) (s' : Nat → Int32), n = 6 - k → k ≤ 6 → x = iI (k : Int) → (∀ d, d < k → s' d = iI 0) → AW l 48 0 0 0 4 none (fun r σ' => (σ' = wS f s t ∧ K r none) ∨ K r (some σ')) 2 [some (.ref 0), some (.int x)] [] (wS f s' t) 0 0 := by
    intro n
    induction n using Nat.strongRecOn with
    | ind n ih =>
      intro k x s' hn hk hx hs
      subst hx
      refine AW.go (bs := b_State_clear) [2, 23] 60 t_State_clear ?_
      refine And.intro (fun h => ?_) (fun h => ?_)
      · rw [zn_i, zc_ge (by omega) (by omega) (by omega) (by omega)] at h
        exact loop2 3 0 _ s' t rfl (by omega) rfl (fun d hd => hs d (by omega)) (fun w hw => by omega)
      · rw [zn_i, zc_ge (by omega) (by omega) (by omega) (by omega)] at h
        refine And.intro (zN_in (by omega) (by omega)) ?_
        refine ih _ (by omega) (k + 1) _ _ rfl (by omega) (zn_inc k) (fun d hd => ?_)
        rw [zN_cl (by omega)]
        unfold upd
        by_cases e : d = k
        · rw [if_pos e]; rfl
        · rw [if_neg e]; exact hs d (by omega)
  refine AW.go (bs := b_State_clear) [2, 23] 60 t_State_clear ?_
  exact loop1 6 0 _ s rfl (by omega) rfl (fun d hd => by omega)
/-- two States side by side -/
def wS2 (f s t g u v : Nat → Int32) : List AE := [.inr (.inr (6, [.ref 1, .ref 2, .ref 3])), .inl (0, 648, f), .inl (0, 6, s), .inl (0, 3, t), .inr (.inr (6, [.ref 5, .ref 6, .ref 7])), .inl (0, 648, g), .inl (0, 6, u), .inl (0, 3, v)]
def pS2 : List (Nat × List Nat) := [(0, []), (0, [0]), (0, [1]), (0, [2]), (1, []), (1, [0]), (1, [1]), (1, [2])]
def sp_copyFrom : Sp := (1, 0, 0, pS2, fun as σ K => ∃ (f s t g u v : Nat → Int32) (M : Od), as = [.ref 0, .ref 4] ∧ σ = wS2 f s t g u v ∧ RS g u v M ∧ ∀ f' s' t', RS f' s' t' M → K none (some (wS2 f' s' t' g u v)))
theorem v_copyFrom (l : Launch) : z_V l 49 sp_copyFrom := by
  refine z_V.of (by decide +kernel) ?_
  rintro as σ K ⟨f, s, t, g, u, v, M, rfl, rfl, hR, hK⟩
  have loop : ∀ (n d : Nat) (x : Int32) (f' s' : Nat → Int32) (v3 : Option Value), n = 6 - d → d ≤ 6 → x = iI (d : Int) → (∀ x, x < d → s' x = u x) → (∀ x k c, x < d → k < M.1 x → c < oW x → f' (zi x k c) = g (zi x k c)) → AW l 49 1 0 0 8 none (fun r σ' => (σ' = wS2 f s t g u v ∧ K r none) ∨ K r (some σ')) 2 [some (.ref 0), some (.ref 4), some (.int x), v3] [] (wS2 f' s' t g u v) 0 0 := by
    intro n
    induction n using Nat.strongRecOn with
    | ind n ih =>
      intro d x f' s' v3 hn hd hx hs hf
      subst hx
      refine AW.go (bs := b_State_copyFrom) [2] 90 t_State_copyFrom ?_
      refine And.intro (fun h => ?_) (fun h => ?_)
      · rw [zn_i, zc_ge (by omega) (by omega) (by omega) (by omega)] at h
        refine ⟨by decide, by decide, by decide, by decide, by decide, Or.inr (hK _ _ _ ⟨fun x hx => ?_, fun x k c hx hk hc => ?_, fun w hw => ?_⟩)⟩
        · rw [hs x (by omega)]; exact hR.1 x hx
        · rw [hf x k c (by omega) hk hc]; exact hR.2.1 x k c hx hk hc
        · show va_cpy v t _ _ _ w = _
          rw [show (z_nn 0 0).toNatClampNeg = 0 from zn_cl (by omega), show (z_nn 3 0).toNatClampNeg = 3 from zn_cl (by omega)]
          unfold va_cpy
          rw [if_pos ⟨by omega, by omega⟩, show 0 + (w - 0) = w by omega]
          exact hR.2.2 w hw
      · rw [zn_i, zc_ge (by omega) (by omega) (by omega) (by omega)] at h
        have hd6 : d < 6 := by omega
        have hu := hR.size d hd6
        have hm := hR.max d hd6
        have hm4 := hR.max40 d hd6
        have hsum : oB d + M.1 d * oW d ≤ 648 := by
          rcases d6 hd6 with rfl | rfl | rfl | rfl | rfl | rfl <;> simp only [b_0, b_1, b_2, b_3, b_4, b_5, w_0, w_1, w_2, w_3, w_4, w_5, x_0, x_1, x_2, x_3, x_4, x_5] at * <;> omega
        have hmul : M.1 d * oW d ≤ 648 := by omega
        have hb : oB d ≤ 648 := by omega
        refine And.intro (zN_in hd6 (by omega)) ?_
        refine And.intro (zN_in hd6 (by omega)) ?_
        refine And.intro (zN_in hd6 (by omega)) ?_
        refine And.intro (zN_in hd6 (by omega)) ?_
        have ew : nI ([4, 3, 5, 2, 4, 7].getD (iI (d : Int)).toNatClampNeg 0) = iI ((oW d : Nat) : Int) := z_tab _ (by omega)
        have eb : nI ([0, 96, 168, 288, 320, 368].getD (iI (d : Int)).toNatClampNeg 0) = iI ((oB d : Nat) : Int) := z_tab _ (by omega)
        have e3 : iI (M.1 d : Int) * iI ((oW d : Nat) : Int) = iI ((M.1 d * oW d : Nat) : Int) := by rw [iI_mul]; rfl
        show _ ∧ _ ∧ _
        rw [ew, eb, zN_cl (by omega : d < 2147483648), hu, e3]
        refine ⟨?_, ?_, ?_, ?_, ?_, ?_⟩
        · rw [iI_0, iI_lt (by omega) (by omega) (by omega) (by omega)]; omega
        · rw [iI_0, iI_lt (by omega) (by omega) (by omega) (by omega)]; omega
        · rw [iI_0, iI_lt (by omega) (by omega) (by omega) (by omega)]; omega
        · rw [zN_cl (by omega), zN_cl (by omega)]; omega
        · rw [zN_cl (by omega), zN_cl (by omega)]; omega
        · rw [zN_cl (by omega), zN_cl (by omega)]
          refine And.intro (zN_in hd6 (by omega)) ?_
          refine And.intro (zN_in hd6 (by omega)) ?_
          refine ih _ (by omega) (d + 1) _ _ _ _ rfl (by omega) (zn_inc d) (fun x hx => ?_) (fun x k c hx hk hc => ?_)
          · rw [zN_cl (by omega)]
            unfold upd
            by_cases e : x = d
            · rw [if_pos e, e]
            · rw [if_neg e]; exact hs x (by omega)
          · show va_cpy g f' (oB d) (oB d) (M.1 d * oW d) (zi x k c) = _
            have mx := hR.max x (by omega)
            unfold va_cpy
            by_cases e : x = d
            · subst e
              rw [if_pos (by rcases d6 hd6 with rfl | rfl | rfl | rfl | rfl | rfl <;> simp only [zi, b_0, b_1, b_2, b_3, b_4, b_5, w_0, w_1, w_2, w_3, w_4, w_5, x_0, x_1, x_2, x_3, x_4, x_5] at * <;> refine ⟨?_, ?_⟩ <;> omega)]
              congr 1
              unfold zi
              omega
            · rw [if_neg (by rcases d6 hd6 with rfl | rfl | rfl | rfl | rfl | rfl <;> rcases d6 (show x < 6 by omega) with rfl | rfl | rfl | rfl | rfl | rfl <;> first | exact absurd rfl e | (simp only [zi, b_0, b_1, b_2, b_3, b_4, b_5, w_0, w_1, w_2, w_3, w_4, w_5, x_0, x_1, x_2, x_3, x_4, x_5] at *; omega))]
              exact hf x k c (by omega) hk hc
  refine AW.go (bs := b_State_copyFrom) [2] 90 t_State_copyFrom ?_
  exact loop 6 0 _ f s _ rfl (by omega) rfl (fun x hx => by omega) (fun x k c hx => by omega)
end
section
/-! small static questions: they have no world -/
def sp0 (rk : Nat) (P : List Value → (Option Value → Prop) → Prop) : Sp := (rk, 0, 0, [], fun as σ K => σ = [] ∧ P as (fun r => K r none))
def spR (rk : Nat) (lo hi : Int) : Sp := sp0 rk (fun as K => ∃ a : Int, as = [.int (iI a)] ∧ ir a ∧ K (some (.int (bI (decide (lo ≤ a ∧ a ≤ hi))))))
theorem v_isPerson (l : Launch) : z_V l 121 (spR 0 0 15) := by
  refine z_V.of (by decide +kernel) ?_
  rintro as σ K ⟨rfl, a, rfl, ⟨a1, a2⟩, hK⟩
  refine AW.go (bs := b_Appr_isPerson) [] 50 t_Appr_isPerson ?_
  refine And.intro (fun h => ?_) (fun h => ?_)
  · rw [zc_lt0 a1 a2] at h
    refine And.intro (Or.inl rfl) (Or.inl ⟨rfl, ?_⟩)
    rwa [decide_eq_false (by omega)] at hK
  · rw [zc_lt0 a1 a2] at h
    refine And.intro (fun h2 => ?_) (fun h2 => ?_)
    · rw [zn_i, zc_ge a1 a2 (by omega) (by omega)] at h2
      refine And.intro (Or.inl rfl) (Or.inl ⟨rfl, ?_⟩)
      rwa [decide_eq_false (by omega)] at hK
    · rw [zn_i, zc_ge a1 a2 (by omega) (by omega)] at h2
      refine And.intro (Or.inr rfl) (Or.inl ⟨rfl, ?_⟩)
      rwa [decide_eq_true (by omega)] at hK
theorem v_isDay (l : Launch) : z_V l 122 (spR 0 0 999) := by
  refine z_V.of (by decide +kernel) ?_
  rintro as σ K ⟨rfl, a, rfl, ⟨a1, a2⟩, hK⟩
  refine AW.go (bs := b_Appr_isDay) [] 50 t_Appr_isDay ?_
  refine And.intro (fun h => ?_) (fun h => ?_)
  · rw [zc_lt0 a1 a2] at h
    refine And.intro (Or.inl rfl) (Or.inl ⟨rfl, ?_⟩)
    rwa [decide_eq_false (by omega)] at hK
  · rw [zc_lt0 a1 a2] at h
    refine And.intro (fun h2 => ?_) (fun h2 => ?_)
    · rw [zn_i, zc_ge a1 a2 (by omega) (by omega)] at h2
      refine And.intro (Or.inl rfl) (Or.inl ⟨rfl, ?_⟩)
      rwa [decide_eq_false (by omega)] at hK
    · rw [zn_i, zc_ge a1 a2 (by omega) (by omega)] at h2
      refine And.intro (Or.inr rfl) (Or.inl ⟨rfl, ?_⟩)
      rwa [decide_eq_true (by omega)] at hK
theorem v_isKind (l : Launch) : z_V l 124 (spR 0 0 2) := by
  refine z_V.of (by decide +kernel) ?_
  rintro as σ K ⟨rfl, a, rfl, ⟨a1, a2⟩, hK⟩
  refine AW.go (bs := b_Appr_isKind) [] 50 t_Appr_isKind ?_
  refine And.intro (fun h => ?_) (fun h => ?_)
  · rw [zc_lt0 a1 a2] at h
    refine And.intro (Or.inl rfl) (Or.inl ⟨rfl, ?_⟩)
    rwa [decide_eq_false (by omega)] at hK
  · rw [zc_lt0 a1 a2] at h
    refine And.intro (fun h2 => ?_) (fun h2 => ?_)
    · rw [zn_i, zc_ge a1 a2 (by omega) (by omega)] at h2
      refine And.intro (Or.inl rfl) (Or.inl ⟨rfl, ?_⟩)
      rwa [decide_eq_false (by omega)] at hK
    · rw [zn_i, zc_ge a1 a2 (by omega) (by omega)] at h2
      refine And.intro (Or.inr rfl) (Or.inl ⟨rfl, ?_⟩)
      rwa [decide_eq_true (by omega)] at hK
theorem v_isEntryKind (l : Launch) : z_V l 125 (spR 0 0 3) := by
  refine z_V.of (by decide +kernel) ?_
  rintro as σ K ⟨rfl, a, rfl, ⟨a1, a2⟩, hK⟩
  refine AW.go (bs := b_Appr_isEntryKind) [] 50 t_Appr_isEntryKind ?_
  refine And.intro (fun h => ?_) (fun h => ?_)
  · rw [zc_lt0 a1 a2] at h
    refine And.intro (Or.inl rfl) (Or.inl ⟨rfl, ?_⟩)
    rwa [decide_eq_false (by omega)] at hK
  · rw [zc_lt0 a1 a2] at h
    refine And.intro (fun h2 => ?_) (fun h2 => ?_)
    · rw [zn_i, zc_gt a1 a2 (by omega) (by omega)] at h2
      refine And.intro (Or.inl rfl) (Or.inl ⟨rfl, ?_⟩)
      rwa [decide_eq_false (by omega)] at hK
    · rw [zn_i, zc_gt a1 a2 (by omega) (by omega)] at h2
      refine And.intro (Or.inr rfl) (Or.inl ⟨rfl, ?_⟩)
      rwa [decide_eq_true (by omega)] at hK
theorem v_isWhich (l : Launch) : z_V l 126 (spR 0 0 29) := by
  refine z_V.of (by decide +kernel) ?_
  rintro as σ K ⟨rfl, a, rfl, ⟨a1, a2⟩, hK⟩
  refine AW.go (bs := b_Appr_isWhich) [] 50 t_Appr_isWhich ?_
  refine And.intro (fun h => ?_) (fun h => ?_)
  · rw [zc_lt0 a1 a2] at h
    refine And.intro (Or.inl rfl) (Or.inl ⟨rfl, ?_⟩)
    rwa [decide_eq_false (by omega)] at hK
  · rw [zc_lt0 a1 a2] at h
    refine And.intro (fun h2 => ?_) (fun h2 => ?_)
    · rw [zn_i, zc_ge a1 a2 (by omega) (by omega)] at h2
      refine And.intro (Or.inl rfl) (Or.inl ⟨rfl, ?_⟩)
      rwa [decide_eq_false (by omega)] at hK
    · rw [zn_i, zc_ge a1 a2 (by omega) (by omega)] at h2
      refine And.intro (Or.inr rfl) (Or.inl ⟨rfl, ?_⟩)
      rwa [decide_eq_true (by omega)] at hK
theorem v_isLimit (l : Launch) : z_V l 128 (spR 0 0 9999) := by
  refine z_V.of (by decide +kernel) ?_
  rintro as σ K ⟨rfl, a, rfl, ⟨a1, a2⟩, hK⟩
  refine AW.go (bs := b_Appr_isLimit) [] 50 t_Appr_isLimit ?_
  refine And.intro (fun h => ?_) (fun h => ?_)
  · rw [zc_lt0 a1 a2] at h
    refine And.intro (Or.inl rfl) (Or.inl ⟨rfl, ?_⟩)
    rwa [decide_eq_false (by omega)] at hK
  · rw [zc_lt0 a1 a2] at h
    refine And.intro (fun h2 => ?_) (fun h2 => ?_)
    · rw [zn_i, zc_gt a1 a2 (by omega) (by omega)] at h2
      refine And.intro (Or.inl rfl) (Or.inl ⟨rfl, ?_⟩)
      rwa [decide_eq_false (by omega)] at hK
    · rw [zn_i, zc_gt a1 a2 (by omega) (by omega)] at h2
      refine And.intro (Or.inr rfl) (Or.inl ⟨rfl, ?_⟩)
      rwa [decide_eq_true (by omega)] at hK
theorem v_isShelf (l : Launch) : z_V l 129 (spR 0 0 1) := by
  refine z_V.of (by decide +kernel) ?_
  rintro as σ K ⟨rfl, a, rfl, ⟨a1, a2⟩, hK⟩
  refine AW.go (bs := b_Appr_isShelf) [] 50 t_Appr_isShelf ?_
  refine And.intro (fun h => ?_) (fun h => ?_)
  · rw [zc_lt0 a1 a2] at h
    refine And.intro (Or.inl rfl) (Or.inl ⟨rfl, ?_⟩)
    rwa [decide_eq_false (by omega)] at hK
  · rw [zc_lt0 a1 a2] at h
    refine And.intro (fun h2 => ?_) (fun h2 => ?_)
    · rw [zn_i, zc_ge a1 a2 (by omega) (by omega)] at h2
      refine And.intro (Or.inl rfl) (Or.inl ⟨rfl, ?_⟩)
      rwa [decide_eq_false (by omega)] at hK
    · rw [zn_i, zc_ge a1 a2 (by omega) (by omega)] at h2
      refine And.intro (Or.inr rfl) (Or.inl ⟨rfl, ?_⟩)
      rwa [decide_eq_true (by omega)] at hK
theorem v_isAmount (l : Launch) : z_V l 127 (spR 0 1 9999) := by
  refine z_V.of (by decide +kernel) ?_
  rintro as σ K ⟨rfl, a, rfl, ⟨a1, a2⟩, hK⟩
  refine AW.go (bs := b_Appr_isAmount) [] 50 t_Appr_isAmount ?_
  refine And.intro (fun h => ?_) (fun h => ?_)
  · rw [zn_i, zc_lt a1 a2 (by omega) (by omega)] at h
    refine And.intro (Or.inl rfl) (Or.inl ⟨rfl, ?_⟩)
    rwa [decide_eq_false (by omega)] at hK
  · rw [zn_i, zc_lt a1 a2 (by omega) (by omega)] at h
    refine And.intro (fun h2 => ?_) (fun h2 => ?_)
    · rw [zn_i, zc_gt a1 a2 (by omega) (by omega)] at h2
      refine And.intro (Or.inl rfl) (Or.inl ⟨rfl, ?_⟩)
      rwa [decide_eq_false (by omega)] at hK
    · rw [zn_i, zc_gt a1 a2 (by omega) (by omega)] at h2
      refine And.intro (Or.inr rfl) (Or.inl ⟨rfl, ?_⟩)
      rwa [decide_eq_true (by omega)] at hK
def dys (a b : Int) : Bool := decide (0 ≤ a ∧ a ≤ b ∧ b ≤ 999)
def sp_areDays : Sp := sp0 1 (fun as K => ∃ a b : Int, as = [.int (iI a), .int (iI b)] ∧ ir a ∧ ir b ∧ K (some (.int (bI (dys a b)))))
theorem v_areDays (l : Launch) : z_V l 123 sp_areDays := by
  refine z_V.of (by decide +kernel) ?_
  rintro as σ K ⟨rfl, a, b, rfl, ⟨a1, a2⟩, ⟨b1, b2⟩, hK⟩
  refine AW.go (bs := b_Appr_areDays) [] 50 t_Appr_areDays ?_
  refine ⟨_, v_isDay l, by decide, rfl, a, rfl, ⟨a1, a2⟩, ?_⟩
  refine And.intro (fun h => ?_) (fun h => ?_)
  · rw [zc_beq, decide_eq_false_iff_not] at h
    refine And.intro (Or.inl rfl) (Or.inl ⟨rfl, ?_⟩)
    rwa [dys, decide_eq_false (by omega)] at hK
  · rw [zc_beq, decide_eq_false_iff_not, Classical.not_not] at h
    refine ⟨_, v_isDay l, by decide, rfl, b, rfl, ⟨b1, b2⟩, ?_⟩
    refine And.intro (fun h2 => ?_) (fun h2 => ?_)
    · rw [zc_beq, decide_eq_false_iff_not] at h2
      refine And.intro (Or.inl rfl) (Or.inl ⟨rfl, ?_⟩)
      rwa [dys, decide_eq_false (by omega)] at hK
    · rw [zc_beq, decide_eq_false_iff_not, Classical.not_not] at h2
      refine And.intro (fun h3 => ?_) (fun h3 => ?_)
      · rw [zc_gt a1 a2 b1 b2] at h3
        refine And.intro (Or.inl rfl) (Or.inl ⟨rfl, ?_⟩)
        rwa [dys, decide_eq_false (by omega)] at hK
      · rw [zc_gt a1 a2 b1 b2] at h3
        refine And.intro (Or.inr rfl) (Or.inl ⟨rfl, ?_⟩)
        rwa [dys, decide_eq_true (by omega)] at hK
def sp_isIn : Sp := sp0 0 (fun as K => ∃ m j : Nat, as = [.int (iI m), .int (iI j)] ∧ m < 2147483648 ∧ j < 31 ∧ K (some (.int (bI (m.testBit j)))))
theorem v_isIn (l : Launch) : z_V l 130 sp_isIn := by
  refine z_V.of (by decide +kernel) ?_
  rintro as σ K ⟨rfl, m, j, rfl, hm, hj, hK⟩
  refine AW.go (bs := b_Appr_isIn) [] 50 t_Appr_isIn ?_
  show _ ∧ _
  rw [show z_nn 1 0 = iI 1 from rfl, zb_bit hm hj]
  refine And.intro (fun h => ?_) (fun h => ?_)
  · rw [zc_eq0 (by split <;> omega) (by split <;> omega)] at h
    have : m.testBit j = false := by
      cases hb : m.testBit j with
      | false => rfl
      | true => rw [hb] at h; simp at h
    refine And.intro (Or.inl rfl) (Or.inl ⟨rfl, ?_⟩)
    rwa [this] at hK
  · rw [zc_eq0 (by split <;> omega) (by split <;> omega)] at h
    have : m.testBit j = true := by
      cases hb : m.testBit j with
      | true => rfl
      | false => rw [hb] at h; simp at h
    refine And.intro (Or.inr rfl) (Or.inl ⟨rfl, ?_⟩)
    rwa [this] at hK
def bitI (p : Int) : Nat := if 0 ≤ p ∧ p ≤ 15 then 2 ^ p.toNat else 0
theorem bitI_lt (p : Int) : bitI p < 65536 := by
  unfold bitI
  split
  · have : 2 ^ p.toNat < 2 ^ 16 := Nat.pow_lt_pow_right (by decide) (by omega)
    exact this
  · decide
theorem bitI_test (p : Int) (i : Nat) (hi : i < 16) : (bitI p).testBit i = decide (p = (i : Int)) := by
  unfold bitI
  split
  · rw [Nat.testBit_two_pow, decide_eq_decide]; omega
  · rw [Nat.zero_testBit, eq_comm, decide_eq_false_iff_not]; omega
def sp_bitOf : Sp := sp0 1 (fun as K => ∃ p : Int, as = [.int (iI p)] ∧ ir p ∧ K (some (.int (iI (bitI p : Nat)))))
theorem v_bitOf (l : Launch) : z_V l 131 sp_bitOf := by
  refine z_V.of (by decide +kernel) ?_
  rintro as σ K ⟨rfl, p, rfl, ⟨a1, a2⟩, hK⟩
  refine AW.go (bs := b_Appr_bitOf) [] 50 t_Appr_bitOf ?_
  refine ⟨_, v_isPerson l, by decide, rfl, p, rfl, ⟨a1, a2⟩, ?_⟩
  refine And.intro (fun h => ?_) (fun h => ?_)
  · rw [zc_beq, decide_eq_false_iff_not] at h
    refine Or.inl ⟨rfl, ?_⟩
    rwa [bitI, if_neg h] at hK
  · rw [zc_beq, decide_eq_false_iff_not, Classical.not_not] at h
    refine Or.inl ⟨rfl, ?_⟩
    rw [bitI, if_pos h] at hK
    have := zb_shl p.toNat (by omega)
    rw [Int.toNat_of_nonneg h.1] at this
    rw [show z_nn 1 0 = iI 1 from rfl, this]
    exact hK
end
section
/-! who decides: asked one by one -/
def tk (M : Od) (k : Nat) : Nat := (M.2.1 2 k 1).toNat
def askL (M : Od) (day : Int) (rec : Nat → Int → Nat → Nat × Option (Int × List Nat)) (p : Nat) (w : Int) : Nat → Nat → Nat → Nat × Option (Int × List Nat)
  | 0, _, A => (A, none)
  | q + 1, k, A => if M.2.1 2 k 0 = (p : Int) ∧ cov M 2 k day = true ∧ A.testBit (tk M k) = false then
      (match rec (tk M k) (min w (M.2.1 2 k 4)) A with
        | (A', some (x, L)) => (A', some (x, p :: L))
        | (A', none) => askL M day rec p w q (k + 1) A')
    else askL M day rec p w q (k + 1) A
/-- the asked ones behind it; the limit and the line of the one who decides -/
def askF (M : Od) (bar : Nat) (ak day : Int) : Nat → Nat → Int → Nat → Nat × Option (Int × List Nat)
  | 0, _, _, A => (A, none)
  | n + 1, p, w, A => if (p : Int) = ak then (A ||| 2 ^ p, none) else if bar.testBit p = false then (A ||| 2 ^ p, some (w, [p])) else askL M day (askF M bar ak day n) p w (M.1 2) 0 (A ||| 2 ^ p)
theorem OKM.tk {M : Od} (h : OKM M) {k : Nat} (hk : k < M.1 2) : M.2.1 2 k 1 = (tk M k : Int) ∧ tk M k < 16 := by
  have := h.2.2.1 k hk
  unfold _root_.Jvm.Pilot.CApprovalRoutesLaw_law_r5540_7e9a96.tk
  omega
/-- what an answer is like -/
def aOK (n : Nat) (r : Nat × Option (Int × List Nat)) : Prop := r.1 < 65536 ∧ ∀ x L, r.2 = some (x, L) → 0 ≤ x ∧ x ≤ 9999 ∧ 1 ≤ L.length ∧ L.length ≤ n ∧ ∀ e ∈ L, e < 16
theorem askL_ok {M : Od} (hO : OKM M) {day : Int} {rec : Nat → Int → Nat → Nat × Option (Int × List Nat)} {p n : Nat} {w : Int} (hp : p < 16) (h0 : 0 ≤ w) (h1 : w ≤ 9999) (hr : ∀ p w A, p < 16 → 0 ≤ w → w ≤ 9999 → A < 65536 → aOK n (rec p w A)) : ∀ (q k A : Nat), k + q ≤ M.1 2 → A < 65536 → aOK (n + 1) (askL M day rec p w q k A) := by
  intro q
  induction q with
  | zero => intro k A _ hA; exact ⟨hA, fun x L h => by cases h⟩
  | succ q ih =>
    intro k A hk hA
    unfold askL
    split
    · have t := hO.tk (k := k) (by omega)
      have c := hO.2.2.1 k (by omega)
      have g := hr (tk M k) (min w (M.2.1 2 k 4)) A t.2 (by omega) (by omega) hA
      split
      · next A' x L e =>
        rw [e] at g
        obtain ⟨g1, g2⟩ := g
        refine ⟨g1, fun x' L' h => ?_⟩
        cases h
        obtain ⟨a1, a2, a3, a4, a5⟩ := g2 x L rfl
        refine ⟨a1, a2, by simp, by simp; omega, fun e he => ?_⟩
        rcases List.mem_cons.mp he with rfl | he
        · exact hp
        · exact a5 e he
      · next A' e =>
        rw [e] at g
        exact ih (k + 1) A' (by omega) g.1
    · exact ih (k + 1) A (by omega) hA
theorem askF_ok {M : Od} (hO : OKM M) {bar : Nat} {ak day : Int} : ∀ (n p : Nat) (w : Int) (A : Nat), p < 16 → 0 ≤ w → w ≤ 9999 → A < 65536 → aOK n (askF M bar ak day n p w A) := by
  intro n
  induction n with
  | zero => intro p w A _ _ _ hA; exact ⟨hA, fun x L h => by cases h⟩
  | succ n ih =>
    intro p w A hp h0 h1 hA
    have hA' := zb_lt hA hp
    unfold askF
    split
    · exact ⟨hA', fun x L h => by cases h⟩
    · split
      · refine ⟨hA', fun x L h => ?_⟩
        cases h
        exact ⟨h0, h1, by simp, by simp, fun e he => by rw [List.mem_singleton.mp he]; exact hp⟩
      · exact askL_ok hO hp h0 h1 ih _ _ _ (by omega) hA'
/-- Desk's world: the object, its line, its State -/
def wD (ln f s t : Nat → Int32) (ak dy br ad dp lm rs : Int32) : List AE := [.inr (.inr (0, [.ref 2, .ref 1, .int ak, .int dy, .int br, .int ad, .int dp, .int lm, .int rs])), .inl (0, 16, ln), .inr (.inr (6, [.ref 3, .ref 4, .ref 5])), .inl (0, 648, f), .inl (0, 6, s), .inl (0, 3, t)]
def pD : List (Nat × List Nat) := [(0, []), (0, [1]), (0, [0]), (0, [0, 0]), (0, [0, 1]), (0, [0, 2])]
/-- how the line and the numbers are behind an answer -/
def aRes (lv : Nat) (ln ln' : Nat → Int32) (dp lm : Int32) (r : Option (Int × List Nat)) : Prop := (∀ i, i < lv → ln' i = ln i) ∧ ∀ x L, r = some (x, L) → lm = iI x ∧ dp = iI ((lv + L.length : Nat) - 1 : Int) ∧ ∀ (i e : Nat), L[i]? = some e → ln' (lv + i) = iI (e : Int)
def sp_askOne (n : Nat) : Sp := (10 + n, 0, 0, pD, fun as σ K => ∃ (ln f s t : Nat → Int32) (M : Od) (ak day : Int) (bar A p lv : Nat) (w : Int) (dp lm rs : Int32), as = [.ref 0, .int (iI p), .int (iI w), .int (iI lv)] ∧ σ = wD ln f s t (iI ak) (iI day) (iI bar) (iI A) dp lm rs ∧ RS f s t M ∧ OKM M ∧ lv + n = 16 ∧ p < 16 ∧ 0 ≤ w ∧ w ≤ 9999 ∧ A < 65536 ∧ bar < 65536 ∧ ir ak ∧ ir day ∧
  ∀ ln' dp' lm', aRes lv ln ln' dp' lm' (askF M bar ak day n p w A).2 → K (some (.int (bI (askF M bar ak day n p w A).2.isSome))) (some (wD ln' f s t (iI ak) (iI day) (iI bar) (iI (askF M bar ak day n p w A).1) dp' lm' rs)))
theorem v_askOne (l : Launch) : ∀ n, z_V l 2 (sp_askOne n) := by
  intro n
  induction n with
  | zero =>
    refine z_V.of (by decide +kernel) ?_
    rintro as σ K ⟨ln, f, s, t, M, ak, day, bar, A, p, lv, w, dp, lm, rs, rfl, rfl, hR, hO, hlv, hp, h0, h1, hA, hbar, hak, hdy, hK⟩
    refine AW.go (bs := b_Desk_askOne) [63] 90 t_Desk_askOne ?_
    refine And.intro (fun h => ?_) (fun h => ?_)
    · rw [zn_i, zc_lt (by omega) (by omega) (by omega) (by omega)] at h
      omega
    · exact And.intro (Or.inl rfl) (Or.inr (hK ln dp lm ⟨fun _ _ => rfl, fun x L h => by cases h⟩))
  | succ n ih =>
    refine z_V.of (by decide +kernel) ?_
    rintro as σ K ⟨ln, f, s, t, M, ak, day, bar, A, p, lv, w, dp, lm, rs, rfl, rfl, hR, hO, hlv, hp, h0, h1, hA, hbar, ⟨k1, k2⟩, hdy, hK⟩
    have hs := hR.size 2 (by omega)
    have hm := hR.max40 2 (by omega)
    have hA' := zb_lt hA hp
    have ea : iI (A : Int) ||| iI 1 <<< (iI (p : Int) &&& 31) = iI ((A ||| 2 ^ p : Nat) : Int) := by rw [zb_shl p (by omega), zb_or]
    have loop : ∀ (q k B : Nat) (x : Int32) (b : Int32) (ln1 : Nat → Int32) (dp1 lm1 : Int32) (v5 v6 : Option Value), q = M.1 2 - k → k ≤ M.1 2 → x = iI (k : Int) → b = iI (B : Int) → B < 65536 → (∀ i, i < lv → ln1 i = ln i) → ln1 lv = iI (p : Int) → askL M day (askF M bar ak day n) p w (M.1 2 - k) k B = askF M bar ak day (n + 1) p w A →
        AW l 2 (10 + (n + 1)) 0 0 6 none (fun r σ' => (σ' = wD ln f s t (iI ak) (iI day) (iI bar) (iI A) dp lm rs ∧ K r none) ∨ K r (some σ')) 63 [some (.ref 0), some (.int (iI p)), some (.int (iI w)), some (.int (iI lv)), some (.int x), v5, v6] [] (wD ln1 f s t (iI ak) (iI day) (iI bar) b dp1 lm1 rs) 0 0 := by
      intro q
      induction q using Nat.strongRecOn with
      | ind q ihq =>
        intro k B x b ln1 dp1 lm1 v5 v6 hq hk0 hx hb hB hl1 hl2 hfin
        subst hx; subst hb
        refine AW.go (bs := b_Desk_askOne) [63] 90 t_Desk_askOne ?_
        refine And.intro (zn_in (by omega) (by omega)) ?_
        refine And.intro (fun h => ?_) (fun h => ?_)
        · rw [zn_cl (by omega), hs, zc_ge (by omega) (by omega) (by omega) (by omega)] at h
          rw [show M.1 2 - k = 0 by omega, askL] at hfin
          rw [← hfin] at hK
          exact And.intro (Or.inl rfl) (Or.inr (hK ln1 dp1 lm1 ⟨hl1, fun x L h => by cases h⟩))
        · rw [zn_cl (by omega), hs, zc_ge (by omega) (by omega) (by omega) (by omega)] at h
          have hk : k < M.1 2 := by omega
          have c := hO.2.2.1 k hk
          have ht := hO.tk hk
          rw [show M.1 2 - k = (M.1 2 - (k + 1)) + 1 by omega, askL] at hfin
          have skip : ∀ (v5 v6 : Option Value), ¬ (M.2.1 2 k 0 = (p : Int) ∧ cov M 2 k day = true ∧ B.testBit (tk M k) = false) → AW l 2 (10 + (n + 1)) 0 0 6 none (fun r σ' => (σ' = wD ln f s t (iI ak) (iI day) (iI bar) (iI A) dp lm rs ∧ K r none) ∨ K r (some σ')) 63 [some (.ref 0), some (.int (iI p)), some (.int (iI w)), some (.int (iI lv)), some (.int (iI (k : Int) + z_nn 1 0)), v5, v6] [] (wD ln1 f s t (iI ak) (iI day) (iI bar) (iI B) dp1 lm1 rs) 0 0 := by
            intro v5 v6 hno
            rw [if_neg hno] at hfin
            exact ihq _ (by omega) (k + 1) B _ _ ln1 dp1 lm1 v5 v6 rfl (by omega) (zn_inc k) rfl hB hl1 hl2 hfin
          refine ⟨_, v_cell l, by show 0 < _; omega, f, s, t, rfl, M, 2, k, 0, rfl, hR, by omega, hk, by decide, ?_⟩
          refine And.intro (fun h3 => ?_) (fun h3 => ?_)
          · rw [zc_ne (by omega) (by omega) (by omega) (by omega)] at h3
            exact skip _ _ (fun q => h3 q.1)
          · rw [zc_ne (by omega) (by omega) (by omega) (by omega), Classical.not_not] at h3
            refine ⟨_, v_covers l, by show 0 < _; omega, f, s, t, rfl, M, 2, k, day, rfl, hR, hO, by omega, hk, hdy, ?_⟩
            refine And.intro (fun h4 => ?_) (fun h4 => ?_)
            · rw [zc_bne] at h4
              refine ⟨_, v_cell l, by show 0 < _; omega, f, s, t, rfl, M, 2, k, 1, rfl, hR, by omega, hk, by decide, ?_⟩
              refine ⟨_, v_cell l, by show 0 < _; omega, f, s, t, rfl, M, 2, k, 4, rfl, hR, by omega, hk, by decide, ?_⟩
              show ∃ sp : Sp, _
              rw [min_iI (by omega) (by omega) (by omega) (by omega), ht.1]
              refine ⟨_, v_isIn l, by show 0 < _; omega, rfl, B, tk M k, rfl, by omega, by omega, ?_⟩
              refine And.intro (fun h5 => ?_) (fun h5 => ?_)
              · rw [zc_bne] at h5
                exact skip _ _ (fun q => by rw [h5] at q; cases q.2.2)
              · rw [zc_bne] at h5
                have h5' : B.testBit (tk M k) = false := by simpa using h5
                rw [if_pos ⟨h3, h4, h5'⟩] at hfin
                show ∃ sp : Sp, _
                rw [zn_inc]
                refine ⟨_, ih, by show 10 + n < 10 + (n + 1); omega, ln1, f, s, t, M, ak, day, bar, B, tk M k, lv + 1, min w (M.2.1 2 k 4), dp1, lm1, rs, rfl, rfl, hR, hO, by omega, ht.2, by omega, by omega, hB, hbar, ⟨k1, k2⟩, hdy, fun ln2 dp2 lm2 hres => ?_⟩
                have hok := askF_ok hO (bar := bar) (ak := ak) (day := day) n (tk M k) (min w (M.2.1 2 k 4)) B ht.2 (by omega) (by omega) hB
                refine And.intro (fun h6 => ?_) (fun h6 => ?_)
                · rw [zc_beq] at h6
                  cases hr : askF M bar ak day n (tk M k) (min w (M.2.1 2 k 4)) B with
                  | mk B' r =>
                    rw [hr] at hfin hok h6 hres
                    cases r with
                    | some z => cases h6
                    | none => exact ihq _ (by omega) (k + 1) B' _ _ ln2 dp2 lm2 _ _ rfl (by omega) (zn_inc k) rfl hok.1 (fun i hi => by rw [hres.1 i (by omega)]; exact hl1 i hi) (by rw [hres.1 lv (by omega)]; exact hl2) hfin
                · rw [zc_beq] at h6
                  cases hr : askF M bar ak day n (tk M k) (min w (M.2.1 2 k 4)) B with
                  | mk B' r =>
                    rw [hr] at hfin hok h6 hres
                    cases r with
                    | none => exact absurd rfl h6
                    | some z =>
                      obtain ⟨x, L⟩ := z
                      rw [← hfin] at hK
                      obtain ⟨g1, g2, g3⟩ := hres.2 x L rfl
                      refine And.intro (Or.inr rfl) (Or.inr (hK ln2 dp2 lm2 ⟨fun i hi => by rw [hres.1 i (by omega)]; exact hl1 i hi, fun x' L' e => ?_⟩))
                      cases e
                      refine ⟨g1, by rw [g2]; congr 1; simp only [List.length_cons]; omega, fun i e hi => ?_⟩
                      cases i with
                      | zero =>
                        have : p = e := by simpa using hi
                        rw [Nat.add_zero, hres.1 lv (by omega), hl2, this]
                      | succ i =>
                        rw [show lv + (i + 1) = lv + 1 + i by omega]
                        exact g3 i e (by simpa using hi)
            · rw [zc_bne] at h4
              exact skip _ _ (fun q => h4 q.2.1)
    refine AW.go (bs := b_Desk_askOne) [63] 90 t_Desk_askOne ?_
    refine And.intro (fun h => ?_) (fun h => ?_)
    · show _ ∧ _
      rw [show z_nn 1 0 = iI 1 from rfl, ea]
      refine And.intro (zN_in (by omega) (by omega)) ?_
      rw [zN_cl (by omega)]
      have hpre : ∀ i, i < lv → upd ln lv (iI (p : Int)) i = ln i := fun i hi => by unfold upd; rw [if_neg (by omega)]
      have hat : upd ln lv (iI (p : Int)) lv = iI (p : Int) := by unfold upd; rw [if_pos rfl]
      refine And.intro (fun h2 => ?_) (fun h2 => ?_)
      · rw [zc_ne (by omega) (by omega) k1 k2] at h2
        refine ⟨_, v_isIn l, by show 0 < 10 + (n + 1); omega, rfl, bar, p, rfl, by omega, by omega, ?_⟩
        refine And.intro (fun h3 => ?_) (fun h3 => ?_)
        · rw [zc_bne] at h3
          refine loop _ 0 (A ||| 2 ^ p) _ _ _ dp lm _ _ rfl (by omega) rfl rfl hA' hpre hat ?_
          rw [askF, if_neg h2, if_neg (by rw [h3]; decide), Nat.sub_zero]
        · rw [zc_bne] at h3
          have h3' : bar.testBit p = false := by simpa using h3
          rw [askF, if_neg h2, if_pos h3'] at hK
          refine And.intro (Or.inr rfl) (Or.inr (hK _ _ _ ⟨hpre, fun x L e => ?_⟩))
          cases e
          refine ⟨rfl, by congr 1; simp, fun i e hi => ?_⟩
          cases i with
          | zero => have : p = e := by simpa using hi
                    rw [Nat.add_zero, hat, this]
          | succ i => simp at hi
      · rw [zc_ne (by omega) (by omega) k1 k2, Classical.not_not] at h2
        rw [askF, if_pos h2] at hK
        exact And.intro (Or.inl rfl) (Or.inr (hK _ _ _ ⟨hpre, fun x L e => by cases e⟩))
    · rw [zn_i, zc_lt (by omega) (by omega) (by omega) (by omega)] at h
      omega
end
section
/-- what is asked about: person, vendor, kind; who is absent on all days, which AWAY is spared -/
abbrev Mt : Type := Int × Int × Int × Int × Int
def mP (m : Mt) : Int := m.1
def mV (m : Mt) : Int := m.2.1
def mK (m : Mt) : Int := m.2.2.1
def mA (m : Mt) : Int := m.2.2.2.1
def mL (m : Mt) : Int := m.2.2.2.2
def mOK (m : Mt) : Prop := ir (mP m) ∧ ir (mV m) ∧ 0 ≤ mK m ∧ mK m < 3 ∧ ir (mA m) ∧ ir (mL m)
def awB (M : Od) (m : Mt) (day : Int) : Nat := awayM M (mL m) day (M.1 1) ||| bitI (mA m)
def brB (M : Od) (m : Mt) (day : Int) : Nat := awB M m day ||| foeM M (mV m) (M.1 3)
theorem awB_lt {M : Od} (hO : OKM M) (m : Mt) (day : Int) : awB M m day < 65536 := Nat.or_lt_two_pow (n := 16) (awayM_lt hO (Nat.le_refl _)) (bitI_lt _)
theorem brB_lt {M : Od} (hO : OKM M) (m : Mt) (day : Int) : brB M m day < 65536 := Nat.or_lt_two_pow (n := 16) (awB_lt hO m day) (foeM_lt hO (Nat.le_refl _))
/-- the limit and the line of the one who decides at a post on a day -/
def decF (M : Od) (m : Mt) (post : Nat) (day : Int) : Option (Int × List Nat) :=
  if holder M post day = -1 then none else if holder M post day = mP m then none else (askF M (brB M m day) (mP m) day 16 (holder M post day).toNat (M.2.1 4 post (1 + (mK m).toNat)) 0).2
def reaF (M : Od) (m : Mt) (post : Nat) (day : Int) : Int :=
  if holder M post day = -1 then 2 else if holder M post day = mP m then 4 else if (awB M m day).testBit (holder M post day).toNat then 3 else 5
theorem holder_rng {M : Od} (hO : OKM M) (p day : Int) : holder M p day = -1 ∨ (0 ≤ holder M p day ∧ holder M p day < 16) := by
  unfold holder
  split
  · next k hk =>
    have := List.mem_range.mp (List.mem_of_find?_eq_some hk)
    have := hO.1 k this
    omega
  · exact Or.inl rfl
/-- Desk's world with the Matter -/
def wDM (ln f s t : Nat → Int32) (ak dy br ad dp lm rs : Int32) (p v k o y w a l : Int32) : List AE := [.inr (.inr (0, [.ref 2, .ref 1, .int ak, .int dy, .int br, .int ad, .int dp, .int lm, .int rs])), .inl (0, 16, ln), .inr (.inr (6, [.ref 3, .ref 4, .ref 5])), .inl (0, 648, f), .inl (0, 6, s), .inl (0, 3, t), .inr (.inr (2, [.int p, .int v, .int k, .int o, .int y, .int w, .int a, .int l]))]
def pDM : List (Nat × List Nat) := [(0, []), (0, [1]), (0, [0]), (0, [0, 0]), (0, [0, 1]), (0, [0, 2]), (1, [])]
def sp_ask : Sp := (30, 0, 0, pDM, fun as σ K => ∃ (ln f s t : Nat → Int32) (M : Od) (m : Mt) (post : Nat) (day : Int) (ak dy br ad dp lm rs o y w : Int32), as = [.ref 0, .ref 6, .int (iI post), .int (iI day)] ∧ σ = wDM ln f s t ak dy br ad dp lm rs (iI (mP m)) (iI (mV m)) (iI (mK m)) o y w (iI (mA m)) (iI (mL m)) ∧ RS f s t M ∧ OKM M ∧ mOK m ∧ post < M.1 4 ∧ ir day ∧
  ∀ ln' ak' dy' br' ad' dp' lm', aRes 0 ln ln' dp' lm' (decF M m post day) → K (some (.int (bI (decF M m post day).isSome))) (some (wDM ln' f s t ak' dy' br' ad' dp' lm' (iI (reaF M m post day)) (iI (mP m)) (iI (mV m)) (iI (mK m)) o y w (iI (mA m)) (iI (mL m)))))
theorem v_ask (l : Launch) : z_V l 1 sp_ask := by
  refine z_V.of (by decide +kernel) ?_
  rintro as σ K ⟨ln, f, s, t, M, m, post, day, ak, dy, br, ad, dp, lm, rs, o, y, w, rfl, rfl, hR, hO, ⟨m1, m2, m3, m4, m5, m6⟩, hp, hdy, hK⟩
  have hm := hR.max40 4 (by omega)
  have hh := holder_rng hO post day
  have haw := awB_lt hO m day
  refine AW.go (bs := b_Desk_ask) [78] 120 t_Desk_ask ?_
  refine ⟨_, v_holderAt l, by decide, f, s, t, rfl, M, post, day, rfl, hR, hO, ⟨by omega, by omega⟩, hdy, ?_⟩
  refine And.intro (fun h => ?_) (fun h => ?_)
  · have h := mt (zc_eq (a := holder M post day) (b := -1) (by omega) (by omega) (by omega) (by omega)).mpr (fun q => h q)
    have hpos : 0 ≤ holder M post day ∧ holder M post day < 16 := by omega
    obtain ⟨q, hq⟩ : ∃ q : Nat, holder M post day = (q : Int) := ⟨(holder M post day).toNat, by omega⟩
    have hq16 : q < 16 := by omega
    refine ⟨_, v_awayBits l, by decide, f, s, t, rfl, M, day, mL m, rfl, hR, hO, hdy, m6, ?_⟩
    refine ⟨_, v_bitOf l, by decide, rfl, mA m, rfl, m5, ?_⟩
    show _ ∧ _
    rw [zb_or]
    refine And.intro (fun h2 => ?_) (fun h2 => ?_)
    · rw [zc_ne (by omega) (by omega) m1.1 m1.2] at h2
      show ∃ sp : Sp, _
      rw [hq]
      have hdec : decF M m post day = (askF M (brB M m day) (mP m) day 16 q (M.2.1 4 post (1 + (mK m).toNat)) 0).2 := by
        unfold decF; rw [if_neg h, if_neg h2, hq, Int.toNat_natCast]
      have hrea : reaF M m post day = if (awB M m day).testBit q then 3 else 5 := by
        unfold reaF; rw [if_neg h, if_neg h2, hq, Int.toNat_natCast]
      have hc := hO.2.2.2.2.1 post hp
      have hcl := hc.2 (1 + (mK m).toNat) (by omega) (by omega)
      have tail : ∀ rs' : Int32, rs' = iI (reaF M m post day) → ∀ (st : List Value), st = [] → AW l 1 30 0 0 7 none (fun r σ' => (σ' = wDM ln f s t ak dy br ad dp lm rs (iI (mP m)) (iI (mV m)) (iI (mK m)) o y w (iI (mA m)) (iI (mL m)) ∧ K r none) ∨ K r (some σ')) 78 [some (.ref 0), some (.ref 6), some (.int (iI post)), some (.int (iI day)), some (.int (iI q)), some (.int (iI (awB M m day : Nat)))] [.int rs', .ref 0] (wDM ln f s t ak dy br ad dp lm rs (iI (mP m)) (iI (mV m)) (iI (mK m)) o y w (iI (mA m)) (iI (mL m))) 0 0 := by
        intro rs' hrs st _
        subst hrs
        refine AW.go (bs := b_Desk_ask) [] 120 t_Desk_ask ?_
        refine ⟨_, v_foeBits l, by decide, f, s, t, rfl, M, mV m, rfl, hR, hO, m2, ?_⟩
        show ∃ sp : Sp, _
        rw [zb_or]
        refine ⟨_, v_cellE l, by decide, f, s, t, rfl, M, 4, post, 1 + (mK m).toNat, _, _, _, rfl, rfl, rfl, by rw [zn_i, iI_add]; congr 1; omega, hR, by omega, hp, by show _ < 4; omega, ?_⟩
        refine ⟨_, v_askOne l 16, by decide, ln, f, s, t, M, mP m, day, brB M m day, 0, q, 0, _, dp, lm, _, rfl, rfl, hR, hO, by omega, hq16, hcl.1, hcl.2, by omega, brB_lt hO m day, m1, hdy, fun ln' dp' lm' hres => ?_⟩
        rw [hdec] at hK
        refine And.intro (bI_01 _) (Or.inr (hK ln' _ _ _ _ dp' lm' hres))
      refine ⟨_, v_isIn l, by decide, rfl, awB M m day, q, rfl, by omega, by omega, ?_⟩
      refine And.intro (fun h3 => ?_) (fun h3 => ?_)
      · rw [zc_beq] at h3
        exact tail _ (by rw [hrea, h3]; rfl) [] rfl
      · rw [zc_beq] at h3
        exact tail _ (by rw [hrea, if_pos (by simpa using h3)]; rfl) [] rfl
    · rw [zc_ne (by omega) (by omega) m1.1 m1.2, Classical.not_not] at h2
      have e1 : decF M m post day = none := by unfold decF; rw [if_neg h, if_pos h2]
      have e2 : reaF M m post day = 4 := by unfold reaF; rw [if_neg h, if_pos h2]
      rw [e1, e2] at hK
      exact And.intro (Or.inl rfl) (Or.inr (hK ln _ _ _ _ dp lm ⟨fun _ _ => rfl, fun x L e => by cases e⟩))
  · have h : holder M post day = -1 := (zc_eq (a := holder M post day) (b := -1) (by omega) (by omega) (by omega) (by omega)).mp (Classical.not_not.mp h)
    have e1 : decF M m post day = none := by unfold decF; rw [if_pos h]
    have e2 : reaF M m post day = 2 := by unfold reaF; rw [if_pos h]
    rw [e1, e2] at hK
    exact And.intro (Or.inl rfl) (Or.inr (hK ln _ _ _ _ dp lm ⟨fun _ _ => rfl, fun x L e => by cases e⟩))
def sp_decider : Sp := (0, 0, 0, pD, fun as σ K => ∃ (ln f s t : Nat → Int32) (ak dy br ad lm rs : Int32) (dp : Nat), as = [.ref 0] ∧ σ = wD ln f s t ak dy br ad (iI dp) lm rs ∧ dp < 16 ∧ K (some (.int (ln dp))) none)
theorem v_decider (l : Launch) : z_V l 4 sp_decider := by
  refine z_V.of (by decide +kernel) ?_
  rintro as σ K ⟨ln, f, s, t, ak, dy, br, ad, lm, rs, dp, rfl, rfl, hd, hK⟩
  refine AW.go (bs := b_Desk_decider) [] 40 t_Desk_decider ?_
  refine And.intro (zN_in hd (by omega)) (Or.inl ⟨rfl, ?_⟩)
  rw [zN_cl (by omega)]
  exact hK
def sp_inLine : Sp := (0, 0, 0, pD, fun as σ K => ∃ (ln f s t : Nat → Int32) (ak dy br ad dp lm rs : Int32) (i : Nat), as = [.ref 0, .int (iI i)] ∧ σ = wD ln f s t ak dy br ad dp lm rs ∧ i < 16 ∧ K (some (.int (ln i))) none)
theorem v_inLine (l : Launch) : z_V l 3 sp_inLine := by
  refine z_V.of (by decide +kernel) ?_
  rintro as σ K ⟨ln, f, s, t, ak, dy, br, ad, dp, lm, rs, i, rfl, rfl, hi, hK⟩
  refine AW.go (bs := b_Desk_inLine) [] 40 t_Desk_inLine ?_
  refine And.intro (fun h => ?_) (fun h => ?_)
  · rw [zc_lt0 (by omega) (by omega)] at h; omega
  · refine And.intro (fun h => ?_) (fun h => ?_)
    · rw [zn_i, zc_ge (by omega) (by omega) (by omega) (by omega)] at h; omega
    · refine And.intro (zN_in hi (by omega)) (Or.inl ⟨rfl, ?_⟩)
      rw [zN_cl (by omega)]
      exact hK
/-- Matter -/
def wM (p v k o y w a l : Int32) : List AE := [.inr (.inr (2, [.int p, .int v, .int k, .int o, .int y, .int w, .int a, .int l]))]
def sp_begin : Sp := (0, 0, 0, [(0, [])], fun as σ K => ∃ (p v k o y w a l x1 x2 x3 : Int32), as = [.ref 0, .int x1, .int x2, .int x3] ∧ σ = wM p v k o y w a l ∧ K none (some (wM x1 x2 x3 (iI 0) (iI 0) (iI 0) (iI (-1)) (iI (-1)))))
theorem v_begin (l : Launch) : z_V l 13 sp_begin := by
  refine z_V.of (by decide +kernel) ?_
  rintro as σ K ⟨p, v, k, o, y, w, a, l, x1, x2, x3, rfl, rfl, hK⟩
  refine AW.go (bs := b_Matter_begin) [] 60 t_Matter_begin ?_
  exact Or.inr hK
end
section
/-! a step of a route -/
theorem find_congr {n : Nat} {P Q : Nat → Bool} (h : ∀ k, k < n → P k = Q k) : (List.range n).find? P = (List.range n).find? Q := by
  cases hq : (List.range n).find? Q with
  | some k =>
    rw [List.find?_range_eq_some] at hq ⊢
    have hk := List.mem_range.mp hq.2.1
    exact ⟨by rw [h k hk]; exact hq.1, hq.2.1, fun j hj => by rw [h j (by omega)]; exact hq.2.2 j hj⟩
  | none =>
    rw [List.find?_range_eq_none] at hq ⊢
    intro i hi
    rw [h i hi]; exact hq i hi
theorem bitsF_congr {P Q : Nat → Bool} {g : Nat → Nat} : ∀ {n : Nat}, (∀ k, k < n → P k = Q k) → bitsF P g n = bitsF Q g n
  | 0, _ => rfl
  | n + 1, h => by
    unfold bitsF
    rw [h n (by omega), bitsF_congr (n := n) (fun k hk => h k (by omega))]
theorem holder_chg {M : Od} {y y2 nx : Int} (h : chg M y nx) (h1 : y ≤ y2) (h2 : y2 < nx) (p : Int) : holder M p y2 = holder M p y := by
  unfold holder
  rw [find_congr (fun k hk => ?_)]
  unfold hold1
  rw [h.2.2 0 k (by omega) hk y2 h1 h2]
theorem askL_chg {M : Od} {y y2 : Int} (h : ∀ k, k < M.1 2 → cov M 2 k y2 = cov M 2 k y) {r1 r2 : Nat → Int → Nat → Nat × Option (Int × List Nat)} (hr : ∀ p w A, r1 p w A = r2 p w A) (p : Nat) (w : Int) : ∀ (q k A : Nat), k + q ≤ M.1 2 → askL M y2 r1 p w q k A = askL M y r2 p w q k A := by
  intro q
  induction q with
  | zero => intro k A _; rfl
  | succ q ih =>
    intro k A hk
    unfold askL
    rw [h k (by omega), hr]
    split
    · split
      · rfl
      · exact ih _ _ (by omega)
    · exact ih _ _ (by omega)
theorem askF_chg {M : Od} {y y2 : Int} (h : ∀ k, k < M.1 2 → cov M 2 k y2 = cov M 2 k y) (bar : Nat) (ak : Int) : ∀ (n p : Nat) (w : Int) (A : Nat), askF M bar ak y2 n p w A = askF M bar ak y n p w A := by
  intro n
  induction n with
  | zero => intro p w A; rfl
  | succ n ih =>
    intro p w A
    unfold askF
    rw [askL_chg h ih p w _ _ _ (by omega)]
theorem awB_chg {M : Od} {y y2 nx : Int} (h : chg M y nx) (h1 : y ≤ y2) (h2 : y2 < nx) (m : Mt) : awB M m y2 = awB M m y := by
  unfold awB awayM
  rw [bitsF_congr (fun k hk => ?_)]
  unfold aw1
  rw [h.2.2 1 k (by omega) hk y2 h1 h2]
theorem decF_chg {M : Od} {y y2 nx : Int} (h : chg M y nx) (h1 : y ≤ y2) (h2 : y2 < nx) (m : Mt) (post : Nat) : decF M m post y2 = decF M m post y := by
  unfold decF brB
  rw [holder_chg h h1 h2, awB_chg h h1 h2, askF_chg (fun k hk => h.2.2 2 k (by omega) hk y2 h1 h2)]
/-- the first day from y on, n more at most, on which someone decides; else the last -/
def dayF (M : Od) (m : Mt) (post : Nat) : Nat → Int → Int
  | 0, y => y
  | n + 1, y => if (decF M m post y).isSome then y else dayF M m post n (y + 1)
theorem dayF_skip {M : Od} {m : Mt} {post : Nat} : ∀ (j n : Nat) (y : Int), (∀ i : Nat, i < j → (decF M m post (y + i)).isSome = false) → j ≤ n → dayF M m post n y = dayF M m post (n - j) (y + j) := by
  intro j
  induction j with
  | zero => intro n y _ _; simp
  | succ j ih =>
    intro n y h hn
    obtain ⟨n', rfl⟩ : ∃ n', n = n' + 1 := ⟨n - 1, by omega⟩
    have h0 := h 0 (by omega)
    rw [show y + ((0 : Nat) : Int) = y by omega] at h0
    rw [dayF, h0, if_neg (by decide), ih n' (y + 1) (fun i hi => by have := h (i + 1) (by omega); rw [show y + 1 + (i : Int) = y + ((i + 1 : Nat) : Int) by push_cast; omega]; exact this) (by omega)]
    congr 1
    · omega
    · push_cast; omega
theorem dayF_some {M : Od} {m : Mt} {post n : Nat} {y : Int} (h : (decF M m post y).isSome = true) : dayF M m post n y = y := by
  cases n with
  | zero => rfl
  | succ n => rw [dayF, if_pos h]
theorem dayF_rng (M : Od) (m : Mt) (post : Nat) : ∀ (n : Nat) (y : Int), y ≤ dayF M m post n y ∧ dayF M m post n y ≤ y + n
  | 0, y => ⟨Int.le_refl _, by simp [dayF]⟩
  | n + 1, y => by
    have := dayF_rng M m post n (y + 1)
    unfold dayF
    split
    · omega
    · push_cast; omega
abbrev SE : Type := Nat × Int × Option (Int × List Nat) × Int
def lastW (M : Od) (d : Int) : Int := min (d + (M.2.2 2 : Int)) 999
def stepF (M : Od) (m : Mt) (post : Nat) (d : Int) : SE := (post, dayF M m post (lastW M d - d).toNat d, decF M m post (dayF M m post (lastW M d - d).toNat d), reaF M m post d)
/-- the columns of a step, if w is the whole -/
def sC (e : SE) (w : Int) (c : Nat) : Int := match c with
  | 0 => (e.1 : Int)
  | 1 => e.2.1
  | 2 => (match e.2.2.1 with | some (_, L) => ((L.getLast?.getD 0 : Nat) : Int) | none => -2)
  | 3 => (match e.2.2.1 with | some (x, _) => x | none => -2)
  | 4 => (match e.2.2.1 with | some (x, _) => (if x < w then 1 else 0) | none => e.2.2.2)
  | _ => (match e.2.2.1 with | some (_, L) => ((L.length : Nat) : Int) - 1 | none => -2)
def RR (sp ls : Nat → Int32) (w : Int) (R : List SE) : Prop := ∀ (i : Nat) (e : SE), R[i]? = some e → (∀ c, c < 6 → sp (6 * i + c) = iI (sC e w c)) ∧ ∀ x L, e.2.2.1 = some (x, L) → ∀ (j q : Nat), L[j]? = some q → ls (16 * i + j) = iI (q : Int)
theorem decF_ok {M : Od} (hO : OKM M) {m : Mt} (hm : mOK m) {post : Nat} (hp : post < M.1 4) {day x : Int} {L : List Nat} (h : decF M m post day = some (x, L)) : 0 ≤ x ∧ x ≤ 9999 ∧ 1 ≤ L.length ∧ L.length ≤ 16 ∧ ∀ e ∈ L, e < 16 := by
  unfold decF at h
  split at h
  · cases h
  · split at h
    · cases h
    · next h1 h2 =>
      have hh := holder_rng hO post day
      obtain ⟨m1, m2, m3, m4, m5, m6⟩ := hm
      have hc := (hO.2.2.2.2.1 post hp).2 (1 + (mK m).toNat) (by omega) (by omega)
      exact (askF_ok hO (bar := brB M m day) (ak := mP m) (day := day) 16 _ _ 0 (by omega) hc.1 hc.2 (by omega)).2 x L h
theorem reaF_rng (M : Od) (m : Mt) (post : Nat) (day : Int) : 2 ≤ reaF M m post day ∧ reaF M m post day ≤ 5 := by
  unfold reaF; split <;> (try split) <;> (try split) <;> omega
/-- Route's world: the object, its rows, Desk with its line, State, Matter -/
def wR (sp ls ln f s t : Nat → Int32) (len ak dy br ad dp lm rs : Int32) (p v k o y w a l : Int32) : List AE := [.inr (.inr (5, [.ref 5, .ref 3, .ref 1, .ref 2, .int len])), .inl (0, 72, sp), .inl (0, 192, ls), .inr (.inr (0, [.ref 5, .ref 4, .int ak, .int dy, .int br, .int ad, .int dp, .int lm, .int rs])), .inl (0, 16, ln), .inr (.inr (6, [.ref 6, .ref 7, .ref 8])), .inl (0, 648, f), .inl (0, 6, s), .inl (0, 3, t), .inr (.inr (2, [.int p, .int v, .int k, .int o, .int y, .int w, .int a, .int l]))]
def pR : List (Nat × List Nat) := [(0, []), (0, [2]), (0, [3]), (0, [1]), (0, [1, 1]), (0, [0]), (0, [0, 0]), (0, [0, 1]), (0, [0, 2]), (1, [])]
end
section
theorem RR.push {sp ls sp' ls' : Nat → Int32} {w : Int} {R : List SE} {e : SE} (h : RR sp ls w R) (h1 : ∀ j, j < 6 * R.length → sp' j = sp j) (h2 : ∀ c, c < 6 → sp' (6 * R.length + c) = iI (sC e w c)) (h3 : ∀ j, j < 16 * R.length → ls' j = ls j) (h4 : ∀ x L, e.2.2.1 = some (x, L) → ∀ (j q : Nat), L[j]? = some q → ls' (16 * R.length + j) = iI (q : Int)) (h5 : ∀ x L, e.2.2.1 = some (x, L) → L.length ≤ 16) (h6 : ∀ (i : Nat) (e : SE), R[i]? = some e → ∀ x L, e.2.2.1 = some (x, L) → L.length ≤ 16) : RR sp' ls' w (R ++ [e]) := by
  intro i e' he
  by_cases hi : i < R.length
  · rw [List.getElem?_append_left hi] at he
    obtain ⟨g1, g2⟩ := h i e' he
    refine ⟨fun c hc => ?_, fun x L hx j q hj => ?_⟩
    · rw [h1 _ (by omega)]; exact g1 c hc
    · have hl := h6 i e' he x L hx
      have hjl := (List.getElem?_eq_some_iff.mp hj).1
      rw [h3 _ (by omega)]; exact g2 x L hx j q hj
  · rw [List.getElem?_append_right (by omega)] at he
    have hz : i - R.length < 1 := (List.getElem?_eq_some_iff.mp he).1
    have : i = R.length := by omega
    subst this
    rw [Nat.sub_self] at he
    cases he
    exact ⟨h2, h4⟩
/-- every step's line is short -/
def sOK (e : SE) : Prop := ∀ x L, e.2.2.1 = some (x, L) → 0 ≤ x ∧ x ≤ 9999 ∧ 1 ≤ L.length ∧ L.length ≤ 16 ∧ ∀ q ∈ L, q < 16
theorem getLast_at {L : List Nat} (h : 1 ≤ L.length) : L[L.length - 1]? = some (L.getLast?.getD 0) := by
  rw [List.getLast?_eq_getElem?]
  have : L.length - 1 < L.length := by omega
  rw [List.getElem?_eq_getElem this]; rfl
theorem aw_94 {l : Launch} {Post : Option Value → List AE → Prop} {sp ls ln f s t : Nat → Int32} {M : Od} {m : Mt} {R : List SE} {post : Nat} {d w yv : Int} {ak dy br ad dp lm rs o y : Int32} {x4 : Int32} {v8 v9 : Option Value} (hO : OKM M) (hm : mOK m) (hp : post < M.1 4) (hy0 : 0 ≤ yv) (hy1 : yv ≤ 999) (hw : ir w) (hlen : R.length < 12) (hRR : RR sp ls w R) (hsok : ∀ (i : Nat) (e : SE), R[i]? = some e → sOK e) (hres : aRes 0 ln ln dp lm (decF M m post yv))
    (hK : ∀ sp' ls', RR sp' ls' w (R ++ [(post, yv, decF M m post yv, reaF M m post d)]) → Post none (wR sp' ls' ln f s t (iI ((R.length : Int) + 1)) ak dy br ad dp lm rs (iI (mP m)) (iI (mV m)) (iI (mK m)) o y (iI w) (iI (mA m)) (iI (mL m)))) :
    AW l 36 31 0 0 10 none Post 94 [some (.ref 0), some (.ref 9), some (.int (iI post)), some (.int (iI d)), some (.int x4), some (.int (bI (decF M m post yv).isSome)), some (.int (iI (reaF M m post d))), some (.int (iI yv)), v8, v9] [] (wR sp ls ln f s t (iI R.length) ak dy br ad dp lm rs (iI (mP m)) (iI (mV m)) (iI (mK m)) o y (iI w) (iI (mA m)) (iI (mL m))) 0 0 := by
  have hcl : ∀ c : Nat, c < 6 → (iI (R.length : Int) * z_nn 6 0 + z_nn c 0).toNatClampNeg = 6 * R.length + c := by
    intro c hc
    rw [zn_i, zn_i, iI_mul, iI_add, iI_cl (by omega) (by omega)]; omega
  have hix : ∀ c : Nat, c < 6 → vp_in (iI (R.length : Int) * z_nn 6 0 + z_nn c 0) 72 := by
    intro c hc
    rw [zn_i, zn_i, iI_mul, iI_add, iI_in (by omega) (by omega)]; omega
  have hrea := reaF_rng M m post d
  cases hdec : decF M m post yv with
  | none =>
    refine AW.go (bs := b_Route_takeStep) [238] 200 t_Route_takeStep ?_
    refine And.intro (hix 0 (by omega)) ?_
    refine And.intro (hix 1 (by omega)) ?_
    refine And.intro (fun _ => ?_) (fun h => absurd (show bI false = 0 by decide) h)
    refine And.intro (hix 2 (by omega)) ?_
    refine And.intro (fun _ => ?_) (fun h => absurd (show bI false = 0 by decide) h)
    refine And.intro (hix 3 (by omega)) ?_
    refine And.intro (fun _ => ?_) (fun h => absurd (show bI false = 0 by decide) h)
    refine And.intro (hix 5 (by omega)) ?_
    refine And.intro (fun _ => ?_) (fun h => absurd (show bI false = 0 by decide) h)
    refine And.intro (hix 4 (by omega)) ?_
    show Post _ _
    rw [hcl 0 (by omega), hcl 1 (by omega), hcl 2 (by omega), hcl 3 (by omega), hcl 4 (by omega), hcl 5 (by omega), zn_i 1, iI_add]
    refine hK _ _ (hRR.push (fun j hj => ?_) (fun c hc => ?_) (fun _ _ => rfl) (fun x L h => by rw [hdec] at h; cases h) (fun x L h => by rw [hdec] at h; cases h) (fun i e he x L h => (hsok i e he x L h).2.2.2.1))
    · simp only [upd]
      rw [if_neg (by omega), if_neg (by omega), if_neg (by omega), if_neg (by omega), if_neg (by omega), if_neg (by omega)]
    · have : c = 0 ∨ c = 1 ∨ c = 2 ∨ c = 3 ∨ c = 4 ∨ c = 5 := by omega
      rcases this with rfl | rfl | rfl | rfl | rfl | rfl <;> simp [upd, sC, hdec] <;> rfl
  | some z =>
    obtain ⟨x, L⟩ := z
    rw [hdec] at hres
    obtain ⟨g1, g2, g3⟩ := hres.2 x L rfl
    obtain ⟨q1, q2, q3, q4, q5⟩ := decF_ok hO hm hp hdec
    have hdp : dp = iI ((L.length - 1 : Nat) : Int) := by rw [g2]; congr 1; omega
    have hlast : ln (L.length - 1) = iI ((L.getLast?.getD 0 : Nat) : Int) := by
      have := g3 (L.length - 1) _ (getLast_at q3)
      rw [Nat.zero_add] at this; exact this
    subst g1
    subst hdp
    have loop : ∀ (n i : Nat) (z : Int32) (sp' ls' : Nat → Int32), n = L.length - i → i ≤ L.length → z = iI (i : Int) → (∀ j, j < 16 * R.length → ls' j = ls j) → (∀ (j q : Nat), j < i → L[j]? = some q → ls' (16 * R.length + j) = iI (q : Int)) → (∀ j, j < 6 * R.length → sp' j = sp j) → (∀ c, c < 6 → sp' (6 * R.length + c) = iI (sC (post, yv, decF M m post yv, reaF M m post d) w c)) →
        AW l 36 31 0 0 10 none Post 238 [some (.ref 0), some (.ref 9), some (.int (iI post)), some (.int (iI d)), some (.int x4), some (.int (bI true)), some (.int (iI (reaF M m post d))), some (.int (iI yv)), some (.int (iI (R.length : Int) * z_nn 6 0)), some (.int z)] [] (wR sp' ls' ln f s t (iI R.length) ak dy br ad (iI ((L.length - 1 : Nat) : Int)) (iI x) rs (iI (mP m)) (iI (mV m)) (iI (mK m)) o y (iI w) (iI (mA m)) (iI (mL m))) 0 0 := by
      intro n
      induction n using Nat.strongRecOn with
      | ind n ih =>
        intro i z sp' ls' hn hi hz h1 h2 h3 h4
        subst hz
        refine AW.go (bs := b_Route_takeStep) [238] 100 t_Route_takeStep ?_
        refine And.intro (fun h => ?_) (fun h => ?_)
        · rw [zc_gt (by omega) (by omega) (by omega) (by omega)] at h
          show Post _ _
          rw [zn_i 1, iI_add]
          refine hK _ _ (hRR.push h3 h4 h1 (fun x' L' e j q hj => ?_) (fun x' L' e => ?_) (fun i e he x L h => (hsok i e he x L h).2.2.2.1))
          · rw [hdec] at e; cases e
            exact h2 j q (by have := (List.getElem?_eq_some_iff.mp hj).1; omega) hj
          · rw [hdec] at e; cases e; exact q4
        · rw [zc_gt (by omega) (by omega) (by omega) (by omega)] at h
          obtain ⟨e, he⟩ : ∃ e, L[i]? = some e := ⟨_, List.getElem?_eq_getElem (by omega)⟩
          have hli := g3 i e he
          rw [Nat.zero_add] at hli
          refine ⟨_, v_inLine l, by decide, ln, f, s, t, ak, dy, br, ad, _, _, rs, i, rfl, rfl, by omega, ?_⟩
          have ei : iI (R.length : Int) * z_nn 16 0 + iI (i : Int) = iI ((16 * R.length + i : Nat) : Int) := by
            rw [zn_i, iI_mul, iI_add]; congr 1; push_cast; omega
          show _ ∧ _
          rw [ei]
          refine And.intro (zN_in (by omega) (by omega)) ?_
          rw [zN_cl (by omega)]
          refine ih _ (by omega) (i + 1) _ sp' _ rfl (by omega) (zn_inc i) (fun j hj => ?_) (fun j q hj hq => ?_) h3 h4
          · unfold upd; rw [if_neg (by omega)]; exact h1 j hj
          · unfold upd
            by_cases e2 : j = i
            · subst e2
              rw [if_pos rfl, hli]
              rw [he] at hq; cases hq; rfl
            · rw [if_neg (by omega)]; exact h2 j q (by omega) hq
    refine AW.go (bs := b_Route_takeStep) [238] 200 t_Route_takeStep ?_
    refine And.intro (hix 0 (by omega)) ?_
    refine And.intro (hix 1 (by omega)) ?_
    refine And.intro (fun h => absurd h (show ¬ bI true = 0 by decide)) (fun _ => ?_)
    refine ⟨_, v_decider l, by decide, ln, f, s, t, ak, dy, br, ad, iI x, rs, L.length - 1, rfl, rfl, by omega, ?_⟩
    refine And.intro (hix 2 (by omega)) ?_
    refine And.intro (fun h => absurd h (show ¬ bI true = 0 by decide)) (fun _ => ?_)
    refine And.intro (hix 3 (by omega)) ?_
    refine And.intro (fun h => absurd h (show ¬ bI true = 0 by decide)) (fun _ => ?_)
    refine And.intro (hix 5 (by omega)) ?_
    refine And.intro (fun h => absurd h (show ¬ bI true = 0 by decide)) (fun _ => ?_)
    refine And.intro (fun h => ?_) (fun h => ?_)
    · rw [zc_lt (by omega) (by omega) hw.1 hw.2] at h
      refine And.intro (hix 4 (by omega)) ?_
      refine loop _ 0 _ _ ls rfl (by omega) rfl (fun _ _ => rfl) (fun j q hj => by omega) (fun j hj => ?_) (fun c hc => ?_)
      · rw [hcl 0 (by omega), hcl 1 (by omega), hcl 2 (by omega), hcl 3 (by omega), hcl 4 (by omega), hcl 5 (by omega)]
        simp only [upd]
        rw [if_neg (by omega), if_neg (by omega), if_neg (by omega), if_neg (by omega), if_neg (by omega), if_neg (by omega)]
      · rw [hcl 0 (by omega), hcl 1 (by omega), hcl 2 (by omega), hcl 3 (by omega), hcl 4 (by omega), hcl 5 (by omega)]
        have : c = 0 ∨ c = 1 ∨ c = 2 ∨ c = 3 ∨ c = 4 ∨ c = 5 := by omega
        rcases this with rfl | rfl | rfl | rfl | rfl | rfl
        · simp [upd, sC]
        · simp [upd, sC]
        · simp [upd, sC, hdec]; exact hlast
        · simp [upd, sC, hdec]
        · simp [upd, sC, hdec, h]; rfl
        · simp [upd, sC, hdec]; congr 1; omega
    · rw [zc_lt (by omega) (by omega) hw.1 hw.2] at h
      refine And.intro (hix 4 (by omega)) ?_
      refine loop _ 0 _ _ ls rfl (by omega) rfl (fun _ _ => rfl) (fun j q hj => by omega) (fun j hj => ?_) (fun c hc => ?_)
      · rw [hcl 0 (by omega), hcl 1 (by omega), hcl 2 (by omega), hcl 3 (by omega), hcl 4 (by omega), hcl 5 (by omega)]
        simp only [upd]
        rw [if_neg (by omega), if_neg (by omega), if_neg (by omega), if_neg (by omega), if_neg (by omega), if_neg (by omega)]
      · rw [hcl 0 (by omega), hcl 1 (by omega), hcl 2 (by omega), hcl 3 (by omega), hcl 4 (by omega), hcl 5 (by omega)]
        have : c = 0 ∨ c = 1 ∨ c = 2 ∨ c = 3 ∨ c = 4 ∨ c = 5 := by omega
        rcases this with rfl | rfl | rfl | rfl | rfl | rfl
        · simp [upd, sC]
        · simp [upd, sC]
        · simp [upd, sC, hdec]; exact hlast
        · simp [upd, sC, hdec]
        · simp [upd, sC, hdec, h]; rfl
        · simp [upd, sC, hdec]; congr 1; omega
end
section
/-- a contract out of the walk, with the end as a name -/
theorem z_V.ofP {l : Launch} {j : Nat} {sp : Sp} (hp : plainName (k_cn (k_ci j)) = true)
    (h : ∀ as σ K (Post : Option Value → List AE → Prop), sp.2.2.2.2 as σ K → (∀ r σ', K r (some σ') → Post r σ') → (∀ r, K r none → Post r σ) → z_ent as (k_nL j) (fun L => AW l j sp.1 sp.2.1 sp.2.2.1 σ.length none Post 0 L [] σ 0 0)) : z_V l j sp :=
  z_V.of hp (fun as σ K ht => h as σ K _ ht (fun _ _ q => Or.inr q) (fun _ q => Or.inl ⟨rfl, q⟩))
def sp_takeStep : Sp := (31, 0, 0, pR, fun as σ K => ∃ (sp ls ln f s t : Nat → Int32) (M : Od) (m : Mt) (R : List SE) (post : Nat) (d w : Int) (ak dy br ad dp lm rs o y : Int32), as = [.ref 0, .ref 9, .int (iI post), .int (iI d)] ∧ σ = wR sp ls ln f s t (iI R.length) ak dy br ad dp lm rs (iI (mP m)) (iI (mV m)) (iI (mK m)) o y (iI w) (iI (mA m)) (iI (mL m)) ∧ RS f s t M ∧ OKM M ∧ mOK m ∧ post < M.1 4 ∧ 0 ≤ d ∧ d ≤ 999 ∧ ir w ∧ R.length < 12 ∧ RR sp ls w R ∧ (∀ e ∈ R, sOK e) ∧
  ∀ sp' ls' ln' ak' dy' br' ad' dp' lm' rs', RR sp' ls' w (R ++ [stepF M m post d]) → K none (some (wR sp' ls' ln' f s t (iI ((R.length : Int) + 1)) ak' dy' br' ad' dp' lm' rs' (iI (mP m)) (iI (mV m)) (iI (mK m)) o y (iI w) (iI (mA m)) (iI (mL m)))))
theorem v_takeStep (l : Launch) : z_V l 36 sp_takeStep := by
  refine z_V.ofP (by decide +kernel) ?_
  rintro as σ K Post ⟨sp, ls, ln, f, s, t, M, m, R, post, d, w, ak, dy, br, ad, dp, lm, rs, o, y, rfl, rfl, hR, hO, hm, hp, d0, d1, hw, hlen, hRR, hsok, hK⟩ hP1 hP0
  have hwt := hO.2.2.2.2.2.2.2.2.1
  have ht : t 2 = iI (M.2.2 2 : Int) := hR.2.2 2 (by omega)
  have hp40 := hR.max40 4 (by omega)
  have hl0 : d ≤ lastW M d ∧ lastW M d ≤ 999 := by unfold lastW; omega
  have loop : ∀ (n : Nat) (yv : Int) (x5 x7 : Int32) (ln' : Nat → Int32) (ak dy br ad dp lm rs : Int32) (v8 v9 : Option Value), n = (lastW M d - yv).toNat → d ≤ yv → yv ≤ lastW M d → x5 = bI (decF M m post yv).isSome → x7 = iI yv → aRes 0 ln' ln' dp lm (decF M m post yv) → dayF M m post (lastW M d - yv).toNat yv = dayF M m post (lastW M d - d).toNat d →
      AW l 36 31 0 0 10 none Post 43 [some (.ref 0), some (.ref 9), some (.int (iI post)), some (.int (iI d)), some (.int (iI (lastW M d))), some (.int x5), some (.int (iI (reaF M m post d))), some (.int x7), v8, v9] [] (wR sp ls ln' f s t (iI R.length) ak dy br ad dp lm rs (iI (mP m)) (iI (mV m)) (iI (mK m)) o y (iI w) (iI (mA m)) (iI (mL m))) 0 0 := by
    intro n
    induction n using Nat.strongRecOn with
    | ind n ih =>
      intro yv x5 x7 ln' ak dy br ad dp lm rs v8 v9 hn h1 h2 hx5 hx7 hres hday
      subst hx5; subst hx7
      have fin : ∀ (v8 v9 : Option Value), dayF M m post (lastW M d - d).toNat d = yv → AW l 36 31 0 0 10 none Post 94 [some (.ref 0), some (.ref 9), some (.int (iI post)), some (.int (iI d)), some (.int (iI (lastW M d))), some (.int (bI (decF M m post yv).isSome)), some (.int (iI (reaF M m post d))), some (.int (iI yv)), v8, v9] [] (wR sp ls ln' f s t (iI R.length) ak dy br ad dp lm rs (iI (mP m)) (iI (mV m)) (iI (mK m)) o y (iI w) (iI (mA m)) (iI (mL m))) 0 0 := by
        intro v8 v9 e
        refine aw_94 hO hm hp (by omega) (by omega) hw hlen hRR (fun i e he => hsok e (List.mem_of_getElem? he)) hres (fun sp' ls' hh => hP1 _ _ (hK sp' ls' ln' ak dy br ad dp lm rs ?_))
        unfold stepF
        rw [e]
        exact hh
      refine AW.go (bs := b_Route_takeStep) [43, 94] 100 t_Route_takeStep ?_
      refine And.intro (fun h => ?_) (fun h => ?_)
      · rw [zc_bne] at h
        exact fin _ _ (by rw [← hday, dayF_some h])
      · rw [zc_bne] at h
        have hno : (decF M m post yv).isSome = false := by simpa using h
        refine And.intro (fun h3 => ?_) (fun h3 => ?_)
        · rw [zc_ge (by omega) (by omega) (by omega) (by omega)] at h3
          exact fin _ _ (by rw [← hday, show (lastW M d - yv).toNat = 0 by omega]; rfl)
        · rw [zc_ge (by omega) (by omega) (by omega) (by omega)] at h3
          refine ⟨_, v_nextChange l, by decide, f, s, t, rfl, M, yv, rfl, hR, hO, by omega, by omega, fun nx hnx => ?_⟩
          obtain ⟨n1, n2, -⟩ := id hnx
          show ∃ sp : Sp, _
          rw [zn_i 1, iI_add, min_iI (by omega) (by omega) (by omega) (by omega), max_iI (by omega) (by omega) (by omega) (by omega)]
          obtain ⟨y', hy'⟩ : ∃ y', y' = max (yv + 1) (min (lastW M d) nx) := ⟨_, rfl⟩
          rw [show ((1 : Nat) : Int) = 1 from rfl, ← hy']
          have hb : yv < y' ∧ y' ≤ lastW M d ∧ y' ≤ nx := by omega
          refine ⟨_, v_ask l, by decide, ln', f, s, t, M, m, post, y', ak, dy, br, ad, dp, lm, rs, o, y, iI w, rfl, rfl, hR, hO, hm, hp, ⟨by omega, by omega⟩, fun ln2 ak2 dy2 br2 ad2 dp2 lm2 hr2 => ?_⟩
          refine ih _ (by omega) y' _ _ ln2 ak2 dy2 br2 ad2 dp2 lm2 _ _ _ rfl (by omega) (by omega) rfl rfl ⟨fun _ _ => rfl, hr2.2⟩ ?_
          rw [← hday, dayF_skip (y' - yv).toNat (lastW M d - yv).toNat yv (fun i hi => ?_) (by omega)]
          · congr 1 <;> omega
          · rw [decF_chg hnx (by omega) (by omega)]; exact hno
  refine AW.go (bs := b_Route_takeStep) [43, 94] 100 t_Route_takeStep ?_
  refine And.intro (zn_in (by omega) (by omega)) ?_
  show ∃ sp : Sp, _
  rw [zn_cl (by omega), ht, iI_add, zn_i 999, min_iI (by omega) (by omega) (by omega) (by omega)]
  refine ⟨_, v_ask l, by decide, ln, f, s, t, M, m, post, d, ak, dy, br, ad, dp, lm, rs, o, y, iI w, rfl, rfl, hR, hO, hm, hp, ⟨by omega, by omega⟩, fun ln2 ak2 dy2 br2 ad2 dp2 lm2 hr2 => ?_⟩
  exact loop _ d _ _ ln2 ak2 dy2 br2 ad2 dp2 lm2 _ _ _ rfl (Int.le_refl _) hl0.1 rfl rfl ⟨fun _ _ => rfl, hr2.2⟩ rfl
end
section
/-! what a route answers -/
def wQ (sp ls ln f s t : Nat → Int32) (len ak dy br ad dp lm rs : Int32) : List AE := [.inr (.inr (5, [.ref 5, .ref 3, .ref 1, .ref 2, .int len])), .inl (0, 72, sp), .inl (0, 192, ls), .inr (.inr (0, [.ref 5, .ref 4, .int ak, .int dy, .int br, .int ad, .int dp, .int lm, .int rs])), .inl (0, 16, ln), .inr (.inr (6, [.ref 6, .ref 7, .ref 8])), .inl (0, 648, f), .inl (0, 6, s), .inl (0, 3, t)]
def pQ : List (Nat × List Nat) := [(0, []), (0, [2]), (0, [3]), (0, [1]), (0, [1, 1]), (0, [0]), (0, [0, 0]), (0, [0, 1]), (0, [0, 2])]
/-- a contract that only reads a route -/
def spQ (rk : Nat) (P : Int → List SE → List Value → (Option Value → Prop) → Prop) : Sp := (rk, 0, 0, pQ, fun as σ K => ∃ (sp ls ln f s t : Nat → Int32) (ak dy br ad dp lm rs : Int32) (w : Int) (R : List SE), σ = wQ sp ls ln f s t (iI R.length) ak dy br ad dp lm rs ∧ RR sp ls w R ∧ R.length ≤ 12 ∧ P w R as (fun r => K r none))
def rOK (e : SE) : Prop := e.1 < 12 ∧ 0 ≤ e.2.1 ∧ e.2.1 ≤ 999 ∧ sOK e ∧ 2 ≤ e.2.2.2 ∧ e.2.2.2 ≤ 5
theorem sC_rng {e : SE} (h : rOK e) (w : Int) (c : Nat) : -2 ≤ sC e w c ∧ sC e w c ≤ 9999 := by
  obtain ⟨h1, h2, h3, h4, h5, h6⟩ := h
  unfold sC
  split
  · omega
  · omega
  · split
    · next x L he =>
      obtain ⟨q1, q2, q3, q4, q5⟩ := h4 x L he
      have := getLast_at q3
      have := q5 _ (List.mem_of_getElem? this)
      omega
    · omega
  · split
    · next x L he =>
      obtain ⟨q1, q2, q3, q4, q5⟩ := h4 x L he
      omega
    · omega
  · split
    · split <;> omega
    · omega
  · split
    · next x L he =>
      obtain ⟨q1, q2, q3, q4, q5⟩ := h4 x L he
      omega
    · omega
def sp_rhas : Sp := spQ 0 (fun w R as K => ∃ k : Int, as = [.ref 0, .int (iI k)] ∧ ir k ∧ K (some (.int (bI (decide (0 ≤ k ∧ k < R.length))))))
theorem v_rhas (l : Launch) : z_V l 37 sp_rhas := by
  refine z_V.ofP (by decide +kernel) ?_
  rintro as σ K Post ⟨sp, ls, ln, f, s, t, ak, dy, br, ad, dp, lm, rs, w, R, rfl, hRR, hl, k, rfl, ⟨k1, k2⟩, hK⟩ hP1 hP0
  refine AW.go (bs := b_Route_has) [] 50 t_Route_has ?_
  refine And.intro (fun h => ?_) (fun h => ?_)
  · rw [zc_lt0 k1 k2] at h
    refine And.intro (Or.inl rfl) (hP0 _ ?_)
    rwa [decide_eq_false (by omega)] at hK
  · rw [zc_lt0 k1 k2] at h
    refine And.intro (fun h2 => ?_) (fun h2 => ?_)
    · rw [zc_ge k1 k2 (by omega) (by omega)] at h2
      refine And.intro (Or.inl rfl) (hP0 _ ?_)
      rwa [decide_eq_false (by omega)] at hK
    · rw [zc_ge k1 k2 (by omega) (by omega)] at h2
      refine And.intro (Or.inr rfl) (hP0 _ ?_)
      rwa [decide_eq_true (by omega)] at hK
def sp_rcell : Sp := spQ 0 (fun w R as K => ∃ (k c : Nat) (e : SE) (x y : Int32), as = [.ref 0, .int x, .int y] ∧ x = iI k ∧ y = iI c ∧ R[k]? = some e ∧ c < 6 ∧ K (some (.int (iI (sC e w c)))))
theorem v_rcell (l : Launch) : z_V l 38 sp_rcell := by
  refine z_V.ofP (by decide +kernel) ?_
  rintro as σ K Post ⟨sp, ls, ln, f, s, t, ak, dy, br, ad, dp, lm, rs, w, R, rfl, hRR, hl, k, c, e, x, y, rfl, rfl, rfl, he, hc, hK⟩ hP1 hP0
  have hk := (List.getElem?_eq_some_iff.mp he).1
  have ei : iI (k : Int) * z_nn 6 0 + iI (c : Int) = iI ((6 * k + c : Nat) : Int) := by
    rw [zn_i, iI_mul, iI_add]; congr 1; push_cast; omega
  refine AW.go (bs := b_Route_cell) [] 50 t_Route_cell ?_
  show _ ∧ _
  rw [ei]
  refine And.intro (zN_in (by omega) (by omega)) (hP0 _ ?_)
  rw [zN_cl (by omega), (hRR k e he).1 c hc]
  exact hK
def sp_rinLine : Sp := spQ 0 (fun w R as K => ∃ (k i q : Nat) (e : SE) (x : Int) (L : List Nat), as = [.ref 0, .int (iI k), .int (iI i)] ∧ R[k]? = some e ∧ e.2.2.1 = some (x, L) ∧ L.length ≤ 16 ∧ L[i]? = some q ∧ K (some (.int (iI (q : Int)))))
theorem v_rinLine (l : Launch) : z_V l 40 sp_rinLine := by
  refine z_V.ofP (by decide +kernel) ?_
  rintro as σ K Post ⟨sp, ls, ln, f, s, t, ak, dy, br, ad, dp, lm, rs, w, R, rfl, hRR, hl, k, i, q, e, x, L, rfl, he, hx, hL, hq, hK⟩ hP1 hP0
  have hk := (List.getElem?_eq_some_iff.mp he).1
  have hi := (List.getElem?_eq_some_iff.mp hq).1
  have ei : iI (k : Int) * z_nn 16 0 + iI (i : Int) = iI ((16 * k + i : Nat) : Int) := by
    rw [zn_i, iI_mul, iI_add]; congr 1; push_cast; omega
  refine AW.go (bs := b_Route_inLine) [] 50 t_Route_inLine ?_
  show _ ∧ _
  rw [ei]
  refine And.intro (zN_in (by omega) (by omega)) (hP0 _ ?_)
  rw [zN_cl (by omega), (hRR k e he).2 x L hx i q hq]
  exact hK
def lC (R : List SE) (w : Int) (c : Nat) : Int := match R.getLast? with
  | some e => sC e w c
  | none => -1
theorem lC_rng {R : List SE} (h : ∀ e ∈ R, rOK e) (w : Int) (c : Nat) : -2 ≤ lC R w c ∧ lC R w c ≤ 9999 := by
  unfold lC
  split
  · next e he => exact sC_rng (h e (List.mem_of_getLast? he)) w c
  · omega
def sp_lastCell : Sp := spQ 1 (fun w R as K => ∃ (c : Nat), as = [.ref 0, .int (iI c)] ∧ c < 6 ∧ K (some (.int (iI (lC R w c)))))
theorem v_lastCell (l : Launch) : z_V l 39 sp_lastCell := by
  refine z_V.ofP (by decide +kernel) ?_
  rintro as σ K Post ⟨sp, ls, ln, f, s, t, ak, dy, br, ad, dp, lm, rs, w, R, rfl, hRR, hl, c, rfl, hc, hK⟩ hP1 hP0
  refine AW.go (bs := b_Route_lastCell) [] 50 t_Route_lastCell ?_
  refine And.intro (fun h => ?_) (fun h => ?_)
  · rw [zc_le0 (by omega) (by omega)] at h
    refine hP0 _ ?_
    have : R = [] := List.eq_nil_of_length_eq_zero (by omega)
    subst this
    exact hK
  · rw [zc_le0 (by omega) (by omega)] at h
    obtain ⟨e, he⟩ : ∃ e, R[R.length - 1]? = some e := ⟨_, List.getElem?_eq_getElem (by omega)⟩
    refine ⟨_, v_rcell l, by decide, sp, ls, ln, f, s, t, ak, dy, br, ad, dp, lm, rs, w, R, rfl, hRR, hl, R.length - 1, c, e, _, _, rfl, ?_, rfl, he, hc, hP0 _ ?_⟩
    · rw [zn_i, iI_sub]; congr 1; omega
    · rw [lC, List.getLast?_eq_getElem?, he] at hK
      exact hK
def sp_isApproved : Sp := spQ 2 (fun w R as K => (∀ e ∈ R, rOK e) ∧ as = [.ref 0] ∧ K (some (.int (bI (decide (lC R w 4 = 0))))))
theorem v_isApproved (l : Launch) : z_V l 41 sp_isApproved := by
  refine z_V.ofP (by decide +kernel) ?_
  rintro as σ K Post ⟨sp, ls, ln, f, s, t, ak, dy, br, ad, dp, lm, rs, w, R, rfl, hRR, hl, hok, rfl, hK⟩ hP1 hP0
  have hr := lC_rng hok w 4
  refine AW.go (bs := b_Route_isApproved) [] 50 t_Route_isApproved ?_
  refine ⟨_, v_lastCell l, by decide, sp, ls, ln, f, s, t, ak, dy, br, ad, dp, lm, rs, w, R, rfl, hRR, hl, 4, rfl, by omega, ?_⟩
  refine And.intro (fun h => ?_) (fun h => ?_)
  · rw [zc_ne0 (by omega) (by omega)] at h
    refine And.intro (Or.inl rfl) (hP0 _ ?_)
    rwa [decide_eq_false h] at hK
  · rw [zc_ne0 (by omega) (by omega)] at h
    refine And.intro (Or.inr rfl) (hP0 _ ?_)
    rwa [decide_eq_true (by omega)] at hK
def outF (R : List SE) (w : Int) (c : Int) : Int := if c = 0 then (if lC R w 4 = 0 then 1 else 2) else if c = 1 then lC R w 1 else if lC R w 4 = 0 then lC R w 2 else -2
def sp_outcome : Sp := spQ 3 (fun w R as K => ∃ c : Int, (∀ e ∈ R, rOK e) ∧ as = [.ref 0, .int (iI c)] ∧ ir c ∧ K (some (.int (iI (outF R w c)))))
theorem v_outcome (l : Launch) : z_V l 42 sp_outcome := by
  refine z_V.ofP (by decide +kernel) ?_
  rintro as σ K Post ⟨sp, ls, ln, f, s, t, ak, dy, br, ad, dp, lm, rs, w, R, rfl, hRR, hl, c, hok, rfl, ⟨c1, c2⟩, hK⟩ hP1 hP0
  unfold outF at hK
  refine AW.go (bs := b_Route_outcome) [] 80 t_Route_outcome ?_
  refine And.intro (fun h => ?_) (fun h => ?_)
  · rw [zc_ne0 c1 c2] at h
    rw [if_neg h] at hK
    refine And.intro (fun h => ?_) (fun h => ?_)
    · rw [zn_i, zc_ne c1 c2 (by omega) (by omega)] at h
      rw [if_neg (by omega)] at hK
      refine ⟨_, v_isApproved l, by decide, sp, ls, ln, f, s, t, ak, dy, br, ad, dp, lm, rs, w, R, rfl, hRR, hl, hok, rfl, ?_⟩
      refine And.intro (fun h => ?_) (fun h => ?_)
      · rw [zc_beq, decide_eq_false_iff_not] at h
        rw [if_neg h] at hK
        exact hP0 _ hK
      · rw [zc_beq, decide_eq_false_iff_not, Classical.not_not] at h
        rw [if_pos h] at hK
        refine ⟨_, v_lastCell l, by decide, sp, ls, ln, f, s, t, ak, dy, br, ad, dp, lm, rs, w, R, rfl, hRR, hl, 2, rfl, by omega, hP0 _ hK⟩
    · rw [zn_i, zc_ne c1 c2 (by omega) (by omega), Classical.not_not] at h
      rw [if_pos (by omega)] at hK
      refine ⟨_, v_lastCell l, by decide, sp, ls, ln, f, s, t, ak, dy, br, ad, dp, lm, rs, w, R, rfl, hRR, hl, 1, rfl, by omega, hP0 _ hK⟩
  · rw [zc_ne0 c1 c2, Classical.not_not] at h
    rw [if_pos h] at hK
    refine ⟨_, v_isApproved l, by decide, sp, ls, ln, f, s, t, ak, dy, br, ad, dp, lm, rs, w, R, rfl, hRR, hl, hok, rfl, ?_⟩
    refine And.intro (fun h => ?_) (fun h => ?_)
    · rw [zc_beq, decide_eq_false_iff_not] at h
      rw [if_neg h] at hK
      exact hP0 _ hK
    · rw [zc_beq, decide_eq_false_iff_not, Classical.not_not] at h
      rw [if_pos h] at hK
      exact hP0 _ hK
def cvF (w x : Int) : List SE → Nat → Int
  | [], _ => -1
  | e :: R, k => if x ≤ sC e w 3 then (k : Int) else cvF w x R (k + 1)
def sp_firstCovering : Sp := spQ 1 (fun w R as K => ∃ x : Int, (∀ e ∈ R, rOK e) ∧ as = [.ref 0, .int (iI x)] ∧ ir x ∧ K (some (.int (iI (cvF w x R 0)))))
theorem v_firstCovering (l : Launch) : z_V l 43 sp_firstCovering := by
  refine z_V.ofP (by decide +kernel) ?_
  rintro as σ K Post ⟨sp, ls, ln, f, s, t, ak, dy, br, ad, dp, lm, rs, w, R, rfl, hRR, hl, x, hok, rfl, ⟨x1, x2⟩, hK⟩ hP1 hP0
  have loop : ∀ (n k : Nat) (z : Int32), n = R.length - k → k ≤ R.length → z = iI (k : Int) → cvF w x (R.drop k) k = cvF w x R 0 →
      AW l 43 1 0 0 9 none Post 2 [some (.ref 0), some (.int (iI x)), some (.int z)] [] (wQ sp ls ln f s t (iI R.length) ak dy br ad dp lm rs) 0 0 := by
    intro n
    induction n using Nat.strongRecOn with
    | ind n ih =>
      intro k z hn hk hz hcv
      subst hz
      refine AW.go (bs := b_Route_firstCovering) [2] 60 t_Route_firstCovering ?_
      refine And.intro (fun h => ?_) (fun h => ?_)
      · rw [zc_ge (by omega) (by omega) (by omega) (by omega)] at h
        refine hP0 _ ?_
        rw [List.drop_eq_nil_of_le (by omega), cvF] at hcv
        rw [← hcv] at hK
        exact hK
      · rw [zc_ge (by omega) (by omega) (by omega) (by omega)] at h
        obtain ⟨e, he⟩ : ∃ e, R[k]? = some e := ⟨_, List.getElem?_eq_getElem (by omega)⟩
        have hr := sC_rng (hok e (List.mem_of_getElem? he)) w 3
        rw [List.drop_eq_getElem_cons (by omega), (List.getElem?_eq_some_iff.mp he).2, cvF] at hcv
        refine ⟨_, v_rcell l, by decide, sp, ls, ln, f, s, t, ak, dy, br, ad, dp, lm, rs, w, R, rfl, hRR, hl, k, 3, e, _, _, rfl, rfl, rfl, he, by omega, ?_⟩
        refine And.intro (fun h => ?_) (fun h => ?_)
        · rw [zc_lt (by omega) (by omega) x1 x2] at h
          rw [if_neg (by omega)] at hcv
          exact ih _ (by omega) (k + 1) _ rfl (by omega) (zn_inc k) hcv
        · rw [zc_lt (by omega) (by omega) x1 x2] at h
          rw [if_pos (by omega)] at hcv
          rw [← hcv] at hK
          exact hP0 _ hK
  refine AW.go (bs := b_Route_firstCovering) [2] 60 t_Route_firstCovering ?_
  exact loop _ 0 _ rfl (by omega) rfl rfl
def glF (w : Int) : List SE → Int → Int
  | [], g => g
  | e :: R, g => glF w R (max g (sC e w 3))
def sp_greatestLimit : Sp := spQ 1 (fun w R as K => ∃ x : Int, (∀ e ∈ R, rOK e) ∧ as = [.ref 0, .int (iI x)] ∧ ir x ∧ K (some (.int (iI (glF w (R.take (x + 1).toNat) 0)))))
theorem v_greatestLimit (l : Launch) : z_V l 44 sp_greatestLimit := by
  refine z_V.ofP (by decide +kernel) ?_
  rintro as σ K Post ⟨sp, ls, ln, f, s, t, ak, dy, br, ad, dp, lm, rs, w, R, rfl, hRR, hl, x, hok, rfl, ⟨x1, x2⟩, hK⟩ hP1 hP0
  have loop : ∀ (n k : Nat) (z : Int32) (g : Int), n = R.length - k → k ≤ R.length → z = iI (k : Int) → 0 ≤ g → g ≤ 9999 → glF w ((R.take (x + 1).toNat).drop k) g = glF w (R.take (x + 1).toNat) 0 →
      AW l 44 1 0 0 9 none Post 4 [some (.ref 0), some (.int (iI x)), some (.int (iI g)), some (.int z)] [] (wQ sp ls ln f s t (iI R.length) ak dy br ad dp lm rs) 0 0 := by
    intro n
    induction n using Nat.strongRecOn with
    | ind n ih =>
      intro k z g hn hk hz g0 g1 hcv
      subst hz
      refine AW.go (bs := b_Route_greatestLimit) [4] 60 t_Route_greatestLimit ?_
      refine And.intro (fun h => ?_) (fun h => ?_)
      · rw [zc_ge (by omega) (by omega) (by omega) (by omega)] at h
        refine hP0 _ ?_
        rw [List.drop_eq_nil_of_le (by rw [List.length_take]; omega), glF] at hcv
        rw [← hcv] at hK
        exact hK
      · rw [zc_ge (by omega) (by omega) (by omega) (by omega)] at h
        refine And.intro (fun h2 => ?_) (fun h2 => ?_)
        · rw [zc_gt (by omega) (by omega) x1 x2] at h2
          refine hP0 _ ?_
          rw [List.drop_eq_nil_of_le (by rw [List.length_take]; omega), glF] at hcv
          rw [← hcv] at hK
          exact hK
        · rw [zc_gt (by omega) (by omega) x1 x2] at h2
          obtain ⟨e, he⟩ : ∃ e, R[k]? = some e := ⟨_, List.getElem?_eq_getElem (by omega)⟩
          have hr := sC_rng (hok e (List.mem_of_getElem? he)) w 3
          rw [List.drop_eq_getElem_cons (by rw [List.length_take]; omega), List.getElem_take, (List.getElem?_eq_some_iff.mp he).2, glF] at hcv
          refine ⟨_, v_rcell l, by decide, sp, ls, ln, f, s, t, ak, dy, br, ad, dp, lm, rs, w, R, rfl, hRR, hl, k, 3, e, _, _, rfl, rfl, rfl, he, by omega, ?_⟩
          show AW _ _ _ _ _ _ _ _ _ _ _ _ _ _
          rw [max_iI (by omega) (by omega) (by omega) (by omega)]
          exact ih _ (by omega) (k + 1) _ _ rfl (by omega) (zn_inc k) (by omega) (by omega) hcv
  refine AW.go (bs := b_Route_greatestLimit) [4] 60 t_Route_greatestLimit ?_
  exact loop _ 0 _ 0 rfl (by omega) rfl (by omega) (by omega) rfl
def doF (w : Int) : List SE → Nat → Nat
  | [], g => g
  | e :: R, g => doF w R (g ||| bitI (sC e w 2))
def sp_doers : Sp := spQ 2 (fun w R as K => (∀ e ∈ R, rOK e) ∧ as = [.ref 0] ∧ K (some (.int (iI (doF w R 0 : Nat)))))
theorem v_doers (l : Launch) : z_V l 45 sp_doers := by
  refine z_V.ofP (by decide +kernel) ?_
  rintro as σ K Post ⟨sp, ls, ln, f, s, t, ak, dy, br, ad, dp, lm, rs, w, R, rfl, hRR, hl, hok, rfl, hK⟩ hP1 hP0
  have loop : ∀ (n k g : Nat) (z : Int32), n = R.length - k → k ≤ R.length → z = iI (k : Int) → doF w (R.drop k) g = doF w R 0 →
      AW l 45 2 0 0 9 none Post 4 [some (.ref 0), some (.int (iI (g : Int))), some (.int z)] [] (wQ sp ls ln f s t (iI R.length) ak dy br ad dp lm rs) 0 0 := by
    intro n
    induction n using Nat.strongRecOn with
    | ind n ih =>
      intro k g z hn hk hz hcv
      subst hz
      refine AW.go (bs := b_Route_doers) [4] 60 t_Route_doers ?_
      refine And.intro (fun h => ?_) (fun h => ?_)
      · rw [zc_ge (by omega) (by omega) (by omega) (by omega)] at h
        refine hP0 _ ?_
        rw [List.drop_eq_nil_of_le (by omega), doF] at hcv
        rw [← hcv] at hK
        exact hK
      · rw [zc_ge (by omega) (by omega) (by omega) (by omega)] at h
        obtain ⟨e, he⟩ : ∃ e, R[k]? = some e := ⟨_, List.getElem?_eq_getElem (by omega)⟩
        have hr := sC_rng (hok e (List.mem_of_getElem? he)) w 2
        rw [List.drop_eq_getElem_cons (by omega), (List.getElem?_eq_some_iff.mp he).2, doF] at hcv
        refine ⟨_, v_rcell l, by decide, sp, ls, ln, f, s, t, ak, dy, br, ad, dp, lm, rs, w, R, rfl, hRR, hl, k, 2, e, _, _, rfl, rfl, rfl, he, by omega, ?_⟩
        refine ⟨_, v_bitOf l, by decide, rfl, _, rfl, ⟨by omega, by omega⟩, ?_⟩
        show AW _ _ _ _ _ _ _ _ _ _ _ _ _ _
        rw [zb_or]
        exact ih _ (by omega) (k + 1) _ _ rfl (by omega) (zn_inc k) hcv
  refine AW.go (bs := b_Route_doers) [4] 60 t_Route_doers ?_
  exact loop _ 0 0 _ rfl (by omega) rfl rfl
def caF (e : SE) (w c : Int) : Bool := if c = 0 then true else if c = 1 then decide (sC e w 4 = 0) else decide (0 < sC e w 5)
def sp_countsAs : Sp := spQ 1 (fun w R as K => ∃ (k : Nat) (c : Int) (e : SE), (∀ e ∈ R, rOK e) ∧ as = [.ref 0, .int (iI k), .int (iI c)] ∧ R[k]? = some e ∧ ir c ∧ K (some (.int (bI (caF e w c)))))
theorem v_countsAs (l : Launch) : z_V l 46 sp_countsAs := by
  refine z_V.ofP (by decide +kernel) ?_
  rintro as σ K Post ⟨sp, ls, ln, f, s, t, ak, dy, br, ad, dp, lm, rs, w, R, rfl, hRR, hl, k, c, e, hok, rfl, he, ⟨c1, c2⟩, hK⟩ hP1 hP0
  unfold caF at hK
  refine AW.go (bs := b_Route_countsAs) [] 80 t_Route_countsAs ?_
  refine And.intro (fun h => ?_) (fun h => ?_)
  · rw [zc_ne0 c1 c2] at h
    rw [if_neg h] at hK
    refine And.intro (fun h => ?_) (fun h => ?_)
    · rw [zn_i, zc_ne c1 c2 (by omega) (by omega)] at h
      rw [if_neg (by omega)] at hK
      have hr := sC_rng (hok e (List.mem_of_getElem? he)) w 5
      refine ⟨_, v_rcell l, by decide, sp, ls, ln, f, s, t, ak, dy, br, ad, dp, lm, rs, w, R, rfl, hRR, hl, k, 5, e, _, _, rfl, rfl, rfl, he, by omega, ?_⟩
      refine And.intro (fun h => ?_) (fun h => ?_)
      · rw [zc_le0 (by omega) (by omega)] at h
        rw [decide_eq_false (by omega)] at hK
        exact And.intro (Or.inl rfl) (hP0 _ hK)
      · rw [zc_le0 (by omega) (by omega)] at h
        rw [decide_eq_true (by omega)] at hK
        exact And.intro (Or.inr rfl) (hP0 _ hK)
    · rw [zn_i, zc_ne c1 c2 (by omega) (by omega), Classical.not_not] at h
      rw [if_pos (by omega)] at hK
      have hr := sC_rng (hok e (List.mem_of_getElem? he)) w 4
      refine ⟨_, v_rcell l, by decide, sp, ls, ln, f, s, t, ak, dy, br, ad, dp, lm, rs, w, R, rfl, hRR, hl, k, 4, e, _, _, rfl, rfl, rfl, he, by omega, ?_⟩
      refine And.intro (fun h => ?_) (fun h => ?_)
      · rw [zc_ne0 (by omega) (by omega)] at h
        rw [decide_eq_false (by omega)] at hK
        exact And.intro (Or.inl rfl) (hP0 _ hK)
      · rw [zc_ne0 (by omega) (by omega)] at h
        rw [decide_eq_true (by omega)] at hK
        exact And.intro (Or.inr rfl) (hP0 _ hK)
  · rw [zc_ne0 c1 c2, Classical.not_not] at h
    rw [if_pos h] at hK
    exact And.intro (Or.inr rfl) (hP0 _ hK)
end
section
/-! a route to its end -/
theorem stepF_ok {M : Od} (hO : OKM M) {m : Mt} (hm : mOK m) {post : Nat} (hp : post < M.1 4) {d : Int} (d0 : 0 ≤ d) (d1 : d ≤ 999) : rOK (stepF M m post d) := by
  have h1 := hO.2.2.2.2.2.2.2.2.2 4 (by omega)
  rw [x_4] at h1
  have h2 := dayF_rng M m post (lastW M d - d).toNat d
  have h3 : d ≤ lastW M d ∧ lastW M d ≤ 999 := by unfold lastW; omega
  refine ⟨by show post < 12; omega, by show 0 ≤ dayF _ _ _ _ _; omega, by show dayF _ _ _ _ _ ≤ 999; omega, fun x L h => decF_ok hO hm hp h, (reaF_rng M m post d).1, (reaF_rng M m post d).2⟩
def routeF (M : Od) (m : Mt) (w : Int) : Nat → Int → Int → List SE
  | 0, _, _ => []
  | n + 1, p, d => if 0 ≤ p ∧ p < M.1 4 ∧ d ≤ 999 then (if sC (stepF M m p.toNat d) w 4 = 0 then [stepF M m p.toNat d] else stepF M m p.toNat d :: routeF M m w n (M.2.1 4 p.toNat 0) ((stepF M m p.toNat d).2.1 + M.2.2 1)) else []
theorem routeF_ok {M : Od} (hO : OKM M) {m : Mt} (hm : mOK m) (w : Int) : ∀ (n : Nat) (p d : Int), 0 ≤ d → (∀ e ∈ routeF M m w n p d, rOK e) ∧ (routeF M m w n p d).length ≤ n := by
  intro n
  induction n with
  | zero => intro p d _; exact ⟨fun e he => absurd he (by simp [routeF]), Nat.le_refl _⟩
  | succ n ih =>
    intro p d hd
    unfold routeF
    split
    · next h =>
      have h1 := stepF_ok hO hm (post := p.toNat) (by omega) hd h.2.2
      split
      · exact ⟨fun e he => by rw [List.mem_singleton] at he; subst he; exact h1, by simp⟩
      · have h2 := ih (M.2.1 4 p.toNat 0) ((stepF M m p.toNat d).2.1 + M.2.2 1) (by have := h1.2.1; omega)
        refine ⟨fun e he => ?_, by simp; exact h2.2⟩
        rw [List.mem_cons] at he
        rcases he with rfl | he
        · exact h1
        · exact h2.1 e he
    · exact ⟨fun e he => absurd he (by simp), by simp⟩
def sp_follow : Sp := (32, 0, 0, pR, fun as σ K => ∃ (sp ls ln f s t : Nat → Int32) (M : Od) (m : Mt) (o y w : Int) (len ak dy br ad dp lm rs : Int32), as = [.ref 0, .ref 9] ∧ σ = wR sp ls ln f s t len ak dy br ad dp lm rs (iI (mP m)) (iI (mV m)) (iI (mK m)) (iI o) (iI y) (iI w) (iI (mA m)) (iI (mL m)) ∧ RS f s t M ∧ OKM M ∧ mOK m ∧ ir o ∧ 0 ≤ y ∧ y ≤ 9999 ∧ ir w ∧
  ∀ sp' ls' ln' ak' dy' br' ad' dp' lm' rs', RR sp' ls' w (routeF M m w 12 o y) → K none (some (wR sp' ls' ln' f s t (iI ((routeF M m w 12 o y).length : Int)) ak' dy' br' ad' dp' lm' rs' (iI (mP m)) (iI (mV m)) (iI (mK m)) (iI o) (iI y) (iI w) (iI (mA m)) (iI (mL m)))))
theorem lC_snoc (R : List SE) (e : SE) (w : Int) (c : Nat) : lC (R ++ [e]) w c = sC e w c := by
  unfold lC; rw [List.getLast?_concat]
theorem v_follow (l : Launch) : z_V l 33 sp_follow := by
  refine z_V.ofP (by decide +kernel) ?_
  rintro as σ K Post ⟨sp, ls, ln, f, s, t, M, m, o, y, w, len, ak, dy, br, ad, dp, lm, rs, rfl, rfl, hR, hO, hm, ⟨o1, o2⟩, y0, y1, hw, hK⟩ hP1 hP0
  have hpc := hO.2.2.2.2.2.2.2.1
  have ht : t 1 = iI (M.2.2 1 : Int) := hR.2.2 1 (by omega)
  have hx4 := hO.2.2.2.2.2.2.2.2.2 4 (by omega)
  rw [x_4] at hx4
  have loop : ∀ (n : Nat) (R : List SE) (p d : Int) (xd xl : Int32) (sp ls ln : Nat → Int32) (ak dy br ad dp lm rs : Int32), R.length + n = 12 → ir p → 0 ≤ d → d ≤ 9999 → xd = iI d → xl = iI (R.length : Int) → RR sp ls w R → (∀ e ∈ R, rOK e) → R ++ routeF M m w n p d = routeF M m w 12 o y →
      AW l 33 32 0 0 10 none Post 18 [some (.ref 0), some (.ref 9), some (.int (iI p)), some (.int xd), some (.int xl)] [] (wR sp ls ln f s t (iI R.length) ak dy br ad dp lm rs (iI (mP m)) (iI (mV m)) (iI (mK m)) (iI o) (iI y) (iI w) (iI (mA m)) (iI (mL m))) 0 0 := by
    intro n
    induction n with
    | zero =>
      intro R p d xd xl sp ls ln ak dy br ad dp lm rs hn hp d0 d1 hxd hxl hRR hok he
      subst hxd; subst hxl
      rw [routeF, List.append_nil] at he
      subst he
      refine AW.go (bs := b_Route_follow) [18] 80 t_Route_follow ?_
      refine And.intro (fun h => ?_) (fun h => ?_)
      · exact hP1 _ _ (hK sp ls ln ak dy br ad dp lm rs hRR)
      · rw [zn_i, zc_ge (by omega) (by omega) (by omega) (by omega)] at h; omega
    | succ n ih =>
      intro R p d xd xl sp ls ln ak dy br ad dp lm rs hn hp d0 d1 hxd hxl hRR hok he
      subst hxd; subst hxl
      refine AW.go (bs := b_Route_follow) [18] 80 t_Route_follow ?_
      refine And.intro (fun h => ?_) (fun h => ?_)
      · rw [zn_i, zc_ge (by omega) (by omega) (by omega) (by omega)] at h; omega
      · refine ⟨_, v_has l, by decide, f, s, t, rfl, M, 4, p, rfl, hR, by omega, hp, ?_⟩
        have fin : routeF M m w (n + 1) p d = [] → Post none (wR sp ls ln f s t (iI R.length) ak dy br ad dp lm rs (iI (mP m)) (iI (mV m)) (iI (mK m)) (iI o) (iI y) (iI w) (iI (mA m)) (iI (mL m))) := by
          intro e0
          rw [e0, List.append_nil] at he
          subst he
          exact hP1 _ _ (hK sp ls ln ak dy br ad dp lm rs hRR)
        refine And.intro (fun h => ?_) (fun h => ?_)
        · rw [zc_beq, decide_eq_false_iff_not] at h
          exact fin (by rw [routeF, if_neg (by omega)])
        · rw [zc_beq, decide_eq_false_iff_not, Classical.not_not] at h
          refine And.intro (fun h2 => ?_) (fun h2 => ?_)
          · rw [zn_i, zc_ge (by omega) (by omega) (by omega) (by omega)] at h2
            exact fin (by rw [routeF, if_neg (by omega)])
          · rw [zn_i, zc_ge (by omega) (by omega) (by omega) (by omega)] at h2
            obtain ⟨q, rfl⟩ : ∃ q : Nat, p = (q : Int) := ⟨p.toNat, by omega⟩
            have hq : q < M.1 4 := by omega
            have hst := stepF_ok hO hm hq d0 (by omega)
            rw [routeF, if_pos ⟨by omega, by omega, by omega⟩, Int.toNat_natCast] at he
            refine ⟨_, v_takeStep l, by decide, sp, ls, ln, f, s, t, M, m, R, q, d, w, ak, dy, br, ad, dp, lm, rs, iI o, iI y, rfl, rfl, hR, hO, hm, hq, d0, by omega, hw, by omega, hRR, fun e h => (hok e h).2.2.2.1, fun sp' ls' ln' ak' dy' br' ad' dp' lm' rs' hRR' => ?_⟩
            have hok' : ∀ e ∈ R ++ [stepF M m q d], rOK e := by
              intro e h
              rw [List.mem_append, List.mem_singleton] at h
              rcases h with h | rfl
              · exact hok e h
              · exact hst
            have hl : (R ++ [stepF M m q d]).length = R.length + 1 := by simp
            have el : iI ((R.length : Int) + 1) = iI ((R ++ [stepF M m q d]).length : Int) := by rw [hl]; rfl
            show ∃ sp : Sp, _
            rw [el]
            refine ⟨_, v_isApproved l, by decide, sp', ls', ln', f, s, t, ak', dy', br', ad', dp', lm', rs', w, R ++ [stepF M m q d], rfl, hRR', by omega, hok', rfl, ?_⟩
            rw [lC_snoc]
            refine And.intro (fun h3 => ?_) (fun h3 => ?_)
            · rw [zc_beq, decide_eq_false_iff_not] at h3
              rw [if_neg h3, List.append_cons] at he
              refine ⟨_, v_cellE l, by decide, f, s, t, rfl, M, 4, q, 0, _, _, _, rfl, rfl, rfl, rfl, hR, by omega, hq, by decide, ?_⟩
              refine ⟨_, v_lastCell l, by decide, sp', ls', ln', f, s, t, ak', dy', br', ad', dp', lm', rs', w, R ++ [stepF M m q d], rfl, hRR', by omega, 1, rfl, by omega, ?_⟩
              refine And.intro (zn_in (by omega) (by omega)) ?_
              show AW _ _ _ _ _ _ _ _ _ _ _ _ _ _
              rw [zn_cl (by omega), ht, lC_snoc, iI_add]
              have hc := hO.cell (d := 4) (c := 0) (by omega) hq (by decide)
              have h5 := hst.2.1
              have h6 := hst.2.2.1
              refine ih _ _ _ _ _ sp' ls' ln' ak' dy' br' ad' dp' lm' rs' (by omega) ⟨by omega, by omega⟩ ?_ ?_ rfl (by rw [← el, zn_i, iI_add]; rfl) hRR' hok' he
              · show 0 ≤ (stepF M m q d).2.1 + _; omega
              · show (stepF M m q d).2.1 + _ ≤ 9999; omega
            · rw [zc_beq, decide_eq_false_iff_not, Classical.not_not] at h3
              rw [if_pos h3] at he
              have hK' := hK sp' ls' ln' ak' dy' br' ad' dp' lm' rs'
              rw [← he] at hK'
              exact hP1 _ _ (hK' hRR')
  refine AW.go (bs := b_Route_follow) [18] 80 t_Route_follow ?_
  exact loop 12 [] o y _ _ sp ls ln ak dy br ad dp lm rs rfl ⟨o1, o2⟩ y0 y1 rfl rfl (fun i e h => by simp at h) (fun e h => by simp at h) rfl
def sp_climb : Sp := (33, 0, 0, pR, fun as σ K => ∃ (sp ls ln f s t : Nat → Int32) (M : Od) (m : Mt) (o y : Int) (w : Int32) (len ak dy br ad dp lm rs : Int32), as = [.ref 0, .ref 9] ∧ σ = wR sp ls ln f s t len ak dy br ad dp lm rs (iI (mP m)) (iI (mV m)) (iI (mK m)) (iI o) (iI y) w (iI (mA m)) (iI (mL m)) ∧ RS f s t M ∧ OKM M ∧ mOK m ∧ ir o ∧ 0 ≤ y ∧ y ≤ 9999 ∧
  ∀ sp' ls' ln' ak' dy' br' ad' dp' lm' rs', RR sp' ls' 2147483647 (routeF M m 2147483647 12 o y) → K none (some (wR sp' ls' ln' f s t (iI ((routeF M m 2147483647 12 o y).length : Int)) ak' dy' br' ad' dp' lm' rs' (iI (mP m)) (iI (mV m)) (iI (mK m)) (iI o) (iI y) (iI 2147483647) (iI (mA m)) (iI (mL m)))))
theorem v_climb (l : Launch) : z_V l 34 sp_climb := by
  refine z_V.ofP (by decide +kernel) ?_
  rintro as σ K Post ⟨sp, ls, ln, f, s, t, M, m, o, y, w, len, ak, dy, br, ad, dp, lm, rs, rfl, rfl, hR, hO, hm, ho, y0, y1, hK⟩ hP1 hP0
  refine AW.go (bs := b_Route_climb) [] 50 t_Route_climb ?_
  refine ⟨_, v_follow l, by decide, sp, ls, ln, f, s, t, M, m, o, y, 2147483647, len, ak, dy, br, ad, dp, lm, rs, rfl, rfl, hR, hO, hm, ho, y0, y1, ⟨by omega, by omega⟩, fun sp' ls' ln' ak' dy' br' ad' dp' lm' rs' h => ?_⟩
  exact hP1 _ _ (hK sp' ls' ln' ak' dy' br' ad' dp' lm' rs' h)
def sp_limitOfFirstStep : Sp := (32, 0, 0, pR, fun as σ K => ∃ (sp ls ln f s t : Nat → Int32) (M : Od) (m : Mt) (post : Nat) (d w : Int) (len ak dy br ad dp lm rs o y : Int32), as = [.ref 0, .ref 9, .int (iI post), .int (iI d)] ∧ σ = wR sp ls ln f s t len ak dy br ad dp lm rs (iI (mP m)) (iI (mV m)) (iI (mK m)) o y (iI w) (iI (mA m)) (iI (mL m)) ∧ RS f s t M ∧ OKM M ∧ mOK m ∧ post < M.1 4 ∧ 0 ≤ d ∧ d ≤ 999 ∧ ir w ∧
  ∀ sp' ls' ln' ak' dy' br' ad' dp' lm' rs' len', K (some (.int (iI (sC (stepF M m post d) w 3)))) (some (wR sp' ls' ln' f s t len' ak' dy' br' ad' dp' lm' rs' (iI (mP m)) (iI (mV m)) (iI (mK m)) o y (iI w) (iI (mA m)) (iI (mL m)))))
theorem v_limitOfFirstStep (l : Launch) : z_V l 35 sp_limitOfFirstStep := by
  refine z_V.ofP (by decide +kernel) ?_
  rintro as σ K Post ⟨sp, ls, ln, f, s, t, M, m, post, d, w, len, ak, dy, br, ad, dp, lm, rs, o, y, rfl, rfl, hR, hO, hm, hp, d0, d1, hw, hK⟩ hP1 hP0
  refine AW.go (bs := b_Route_limitOfFirstStep) [] 50 t_Route_limitOfFirstStep ?_
  refine ⟨_, v_takeStep l, by decide, sp, ls, ln, f, s, t, M, m, [], post, d, w, ak, dy, br, ad, dp, lm, rs, o, y, rfl, rfl, hR, hO, hm, hp, d0, d1, hw, by decide, fun i e h => by simp at h, fun e h => by simp at h, fun sp' ls' ln' ak' dy' br' ad' dp' lm' rs' h => ?_⟩
  refine ⟨_, v_rcell l, by decide, sp', ls', ln', f, s, t, ak', dy', br', ad', dp', lm', rs', w, [stepF M m post d], rfl, h, (by show 1 ≤ 12; omega), 0, 3, stepF M m post d, _, _, rfl, rfl, rfl, rfl, by omega, ?_⟩
  exact hP1 _ _ (hK sp' ls' ln' ak' dy' br' ad' dp' lm' rs' _)
end
section
/-! who gives to whom -/
theorem cntF_mono {P P' : Nat → Bool} (h : ∀ i, P i = true → P' i = true) : ∀ n, cntF P n ≤ cntF P' n
  | 0 => Nat.le_refl _
  | n + 1 => by
    have ih := cntF_mono h n
    unfold cntF
    by_cases e : P n = true
    · rw [if_pos e, if_pos (h n e)]; omega
    · rw [if_neg e]; split <;> omega
theorem cntF_lt {P P' : Nat → Bool} (h : ∀ i, P i = true → P' i = true) : ∀ {n i : Nat}, i < n → P i = false → P' i = true → cntF P n < cntF P' n
  | 0, i, hi, _, _ => by omega
  | n + 1, i, hi, h1, h2 => by
    unfold cntF
    rcases Nat.lt_or_ge i n with q | q
    · have ih := cntF_lt h q h1 h2
      by_cases e : P n = true
      · rw [if_pos e, if_pos (h n e)]; omega
      · rw [if_neg e]; split <;> omega
    · have : i = n := by omega
      subst this
      have := cntF_mono h i
      rw [h1, if_neg (by decide), if_pos h2]; omega
theorem zb_andn {a b : Nat} (ha : a < 65536) (hb : b < 65536) : iI (a : Int) &&& (iI (b : Int) ^^^ z_nn 1 1) = iI ((a &&& (b ^^^ 65535) : Nat) : Int) := by
  rw [← iI_nI, ← iI_nI, ← iI_nI]
  apply Int32.toBitVec_inj.1
  show BitVec.ofNat 32 a &&& (BitVec.ofNat 32 b ^^^ (z_nn 1 1).toBitVec) = BitVec.ofNat 32 _
  rw [show (z_nn 1 1).toBitVec = BitVec.allOnes 32 from by decide]
  apply BitVec.eq_of_getLsbD_eq
  intro i hi
  simp only [BitVec.getLsbD_and, BitVec.getLsbD_xor, BitVec.getLsbD_ofNat, BitVec.getLsbD_allOnes, hi, decide_true, Bool.true_and, Nat.testBit_and, Nat.testBit_xor]
  rcases Nat.lt_or_ge i 16 with q | q
  · have : (65535 : Nat).testBit i = true := by
      have key : ∀ i, i < 16 → (65535 : Nat).testBit i = true := by decide +kernel
      exact key i q
    rw [this]
  · rw [Nat.testBit_lt_two_pow (Nat.lt_of_lt_of_le ha (show (65536 : Nat) ≤ 2 ^ _ from Nat.pow_le_pow_right (n := 2) (by decide) q)), Bool.false_and, Bool.false_and]
theorem andn_test {a b : Nat} (ha : a < 65536) (i : Nat) : (a &&& (b ^^^ 65535)).testBit i = (a.testBit i && !b.testBit i) := by
  rw [Nat.testBit_and, Nat.testBit_xor]
  rcases Nat.lt_or_ge i 16 with q | q
  · have : (65535 : Nat).testBit i = true := by
      have key : ∀ i, i < 16 → (65535 : Nat).testBit i = true := by decide +kernel
      exact key i q
    rw [this]; cases b.testBit i <;> rfl
  · rw [Nat.testBit_lt_two_pow (Nat.lt_of_lt_of_le ha (show (65536 : Nat) ≤ 2 ^ _ from Nat.pow_le_pow_right (n := 2) (by decide) q)), Bool.false_and, Bool.false_and]
theorem andn_lt {a b : Nat} (ha : a < 65536) : (a &&& (b ^^^ 65535)) < 65536 := Nat.lt_of_le_of_lt Nat.and_le_left ha
def gv1 (M : Od) (p : Nat) (day : Int) (k : Nat) : Bool := decide (M.2.1 2 k 0 = (p : Int)) && cov M 2 k day
/-- those whom p gives to on a day -/
def gvM (M : Od) (day : Int) (p : Nat) : Nat := bitsF (gv1 M p day) (tk M) (M.1 2)
theorem gvM_lt {M : Od} (hO : OKM M) (day : Int) (p : Nat) : gvM M day p < 65536 := bitsF_lt (w := 16) (fun k hk _ => (hO.tk hk).2)
def wW (g : Nat → Int32) : List AE := [.inr (.inr (8, [.ref 1])), .inl (0, 16, g)]
def pW : List (Nat × List Nat) := [(0, []), (0, [0])]
def wWS (g f s t : Nat → Int32) : List AE := [.inr (.inr (8, [.ref 1])), .inl (0, 16, g), .inr (.inr (6, [.ref 3, .ref 4, .ref 5])), .inl (0, 648, f), .inl (0, 6, s), .inl (0, 3, t)]
def pWS : List (Nat × List Nat) := [(0, []), (0, [0]), (1, []), (1, [0]), (1, [1]), (1, [2])]
def sp_spin : Sp := (1, 0, 0, pWS, fun as σ K => ∃ (g f s t : Nat → Int32) (M : Od) (day : Int), as = [.ref 0, .ref 2, .int (iI day)] ∧ σ = wWS g f s t ∧ RS f s t M ∧ OKM M ∧ ir day ∧ ∀ g', (∀ p, p < 16 → g' p = iI (gvM M day p : Nat)) → K none (some (wWS g' f s t)))
theorem v_spin (l : Launch) : z_V l 72 sp_spin := by
  refine z_V.ofP (by decide +kernel) ?_
  rintro as σ K Post ⟨g, f, s, t, M, day, rfl, rfl, hR, hO, hdy, hK⟩ hP1 hP0
  have hs := hR.size 2 (by omega)
  have hm := hR.max40 2 (by omega)
  have loop2 : ∀ (n k : Nat) (x : Int32) (g : Nat → Int32), n = M.1 2 - k → k ≤ M.1 2 → x = iI (k : Int) → (∀ p, p < 16 → g p = iI (bitsF (gv1 M p day) (tk M) k : Nat)) →
      AW l 72 1 0 0 6 none Post 23 [some (.ref 0), some (.ref 2), some (.int (iI day)), some (.int x)] [] (wWS g f s t) 0 0 := by
    intro n
    induction n using Nat.strongRecOn with
    | ind n ih =>
      intro k x g hn h2 hx hg
      subst hx
      refine AW.go (bs := b_Web_spin) [23] 60 t_Web_spin ?_
      refine And.intro (zn_in (by omega) (by omega)) ?_
      refine And.intro (fun h => ?_) (fun h => ?_)
      · rw [zn_cl (by omega), hs, zc_ge (by omega) (by omega) (by omega) (by omega)] at h
        have : k = M.1 2 := by omega
        subst this
        exact hP1 _ _ (hK _ hg)
      · rw [zn_cl (by omega), hs, zc_ge (by omega) (by omega) (by omega) (by omega)] at h
        have hk : k < M.1 2 := by omega
        refine ⟨_, v_covers l, by decide, f, s, t, rfl, M, 2, k, day, rfl, hR, hO, by omega, hk, hdy, ?_⟩
        refine And.intro (fun h3 => ?_) (fun h3 => ?_)
        · rw [zc_beq] at h3
          refine ih _ (by omega) (k + 1) _ _ rfl (by omega) (zn_inc k) (fun p hp => ?_)
          rw [hg p hp, bitsF, gv1, h3, Bool.and_false]; rfl
        · rw [zc_beq, Bool.not_eq_false] at h3
          obtain ⟨t1, t2⟩ := hO.tk hk
          obtain ⟨w1, w2, -⟩ := hO.2.2.1 k hk
          obtain ⟨q, hq⟩ : ∃ q : Nat, M.2.1 2 k 0 = (q : Int) := ⟨(M.2.1 2 k 0).toNat, by omega⟩
          have hq16 : q < 16 := by omega
          refine ⟨_, v_cell l, by decide, f, s, t, rfl, M, 2, k, 0, rfl, hR, by omega, hk, by decide, ?_⟩
          rw [hq]
          refine And.intro (zN_in hq16 (by omega)) ?_
          refine ⟨_, v_cell l, by decide, f, s, t, rfl, M, 2, k, 1, rfl, hR, by omega, hk, by decide, ?_⟩
          rw [t1]
          refine And.intro (zN_in hq16 (by omega)) ?_
          show AW _ _ _ _ _ _ _ _ _ _ _ _ _ _
          rw [zN_cl (by omega), show z_nn 1 0 = iI 1 from rfl, zb_shl _ (by omega), hg q hq16, zb_or]
          refine ih _ (by omega) (k + 1) _ _ rfl (by omega) (zn_inc k) (fun p hp => ?_)
          unfold upd
          by_cases e : p = q
          · subst e
            rw [if_pos rfl, bitsF, gv1, h3, hq, decide_eq_true rfl]; rfl
          · rw [if_neg e, hg p hp, bitsF, gv1, h3, hq, decide_eq_false (by omega)]; rfl
  have loop1 : ∀ (n k : Nat) (x : Int32) (g : Nat → Int32), n = 16 - k → k ≤ 16 → x = iI (k : Int) → (∀ p, p < k → g p = iI 0) →
      AW l 72 1 0 0 6 none Post 2 [some (.ref 0), some (.ref 2), some (.int (iI day)), some (.int x)] [] (wWS g f s t) 0 0 := by
    intro n
    induction n using Nat.strongRecOn with
    | ind n ih =>
      intro k x g hn h2 hx hg
      subst hx
      refine AW.go (bs := b_Web_spin) [2, 23] 60 t_Web_spin ?_
      refine And.intro (fun h => ?_) (fun h => ?_)
      · rw [zn_i, zc_ge (by omega) (by omega) (by omega) (by omega)] at h
        exact loop2 _ 0 _ _ rfl (by omega) rfl (fun p hp => hg p (by omega))
      · rw [zn_i, zc_ge (by omega) (by omega) (by omega) (by omega)] at h
        refine And.intro (zN_in (by omega) (by omega)) ?_
        show AW _ _ _ _ _ _ _ _ _ _ _ _ _ _
        rw [zN_cl (by omega)]
        refine ih _ (by omega) (k + 1) _ _ rfl (by omega) (zn_inc k) (fun p hp => ?_)
        unfold upd
        by_cases e : p = k
        · rw [if_pos e]; rfl
        · rw [if_neg e]; exact hg p (by omega)
  refine AW.go (bs := b_Web_spin) [2] 60 t_Web_spin ?_
  exact loop1 _ 0 _ g rfl (by omega) rfl (fun p hp => by omega)
/-- closed: with one all whom it gives to -/
def gC (G : Nat → Nat) (S : Nat → Prop) : Prop := ∀ i j, i < 16 → S i → (G i).testBit j = true → S j
def Rc (G : Nat → Nat) (p q : Nat) : Prop := ∀ S : Nat → Prop, (∀ j, (G p).testBit j = true → S j) → gC G S → S q
noncomputable def rM (G : Nat → Nat) (p : Nat) : Nat := bitsF (fun k => @decide (Rc G p k) (Classical.propDecidable _)) id 16
theorem Rc.lt {G : Nat → Nat} (hG : ∀ p, p < 16 → G p < 65536) {p q : Nat} (hp : p < 16) (h : Rc G p q) : q < 16 := by
  have key : ∀ i j, i < 16 → (G i).testBit j = true → j < 16 := by
    intro i j hi hj
    apply Nat.lt_of_not_le
    intro q
    rw [Nat.testBit_lt_two_pow (Nat.lt_of_lt_of_le (hG i hi) (show (65536 : Nat) ≤ 2 ^ _ from Nat.pow_le_pow_right (n := 2) (by decide) q))] at hj
    cases hj
  exact h (fun j => j < 16) (fun j hj => key p j hp hj) (fun i j hi _ hj => key i j hi hj)
theorem rM_test {G : Nat → Nat} (hG : ∀ p, p < 16 → G p < 65536) {p q : Nat} (hp : p < 16) : (rM G p).testBit q = true ↔ Rc G p q := by
  unfold rM
  rw [bitsF_test]
  constructor
  · rintro ⟨i, h1, h2, h3⟩
    have : i = q := h3
    subst this
    exact @of_decide_eq_true _ (Classical.propDecidable _) h2
  · intro h
    exact ⟨q, h.lt hG hp, @decide_eq_true _ (Classical.propDecidable _) h, rfl⟩
theorem rM_eq {G : Nat → Nat} (hG : ∀ p, p < 16 → G p < 65536) {p m : Nat} (hp : p < 16) (h1 : ∀ q, m.testBit q = true → Rc G p q) (h2 : ∀ j, (G p).testBit j = true → m.testBit j = true) (h3 : gC G (fun q => m.testBit q = true)) : m = rM G p := by
  apply Nat.eq_of_testBit_eq
  intro i
  rw [Bool.eq_iff_iff, rM_test hG hp]
  exact ⟨h1 i, fun h => h _ h2 h3⟩
def spW (rk : Nat) (P : (Nat → Nat) → List Value → (Option Value → Prop) → Prop) : Sp := (rk, 0, 0, pW, fun as σ K => ∃ (g : Nat → Int32) (G : Nat → Nat), σ = wW g ∧ (∀ p, p < 16 → g p = iI (G p : Nat) ∧ G p < 65536) ∧ P G as (fun r => K r none))
def sp_reachedFrom : Sp := spW 1 (fun G as K => ∃ p : Nat, as = [.ref 0, .int (iI p)] ∧ p < 16 ∧ K (some (.int (iI (rM G p : Nat)))))
theorem v_reachedFrom (l : Launch) : z_V l 74 sp_reachedFrom := by
  refine z_V.ofP (by decide +kernel) ?_
  rintro as σ K Post ⟨g, G, rfl, hG, p, rfl, hp, hK⟩ hP1 hP0
  have hG2 : ∀ p, p < 16 → G p < 65536 := fun p h => (hG p h).2
  have step : ∀ (B o : Nat), o < 16 → B.testBit o = true → (∀ q, B.testBit q = true → Rc G p q) → ∀ q, (B ||| G o).testBit q = true → Rc G p q := by
    intro B o ho hB h q hq
    rw [Nat.testBit_or, Bool.or_eq_true] at hq
    rcases hq with hq | hq
    · exact h q hq
    · exact fun S h1 h2 => h2 o q ho (h o hB S h1 h2) hq
  have loop : ∀ (n t o : Nat) (B B0 : Nat) (x y : Int32), n = (16 - t) * 17 + (16 - o) → t < 16 → o ≤ 16 → x = iI (t : Int) → y = iI (o : Int) → B < 65536 → (∀ q, B.testBit q = true → Rc G p q) → (∀ j, (G p).testBit j = true → B.testBit j = true) → (∀ i, B0.testBit i = true → B.testBit i = true) → (∀ i, i < o → B0.testBit i = true → ∀ j, (G i).testBit j = true → B.testBit j = true) → (gC G (fun q => B0.testBit q = true) ∨ t ≤ cntF (fun i => B0.testBit i) 16) → (gC G (fun q => B0.testBit q = true) → B = B0) →
      AW l 74 1 0 0 2 none Post 18 [some (.ref 0), some (.int (iI p)), some (.int (iI (B : Int))), some (.int x), some (.int y)] [] (wW g) 0 0 := by
    intro n
    induction n using Nat.strongRecOn with
    | ind n ih =>
      intro t o B B0 x y hn ht ho hx hy hB h1 h2 h3 h4 h5 h6
      subst hx; subst hy
      refine AW.go (bs := b_Web_reachedFrom) [18] 80 t_Web_reachedFrom ?_
      refine And.intro (fun h => ?_) (fun h => ?_)
      · rw [zn_i, zc_ge (by omega) (by omega) (by omega) (by omega)] at h
        have ho : o = 16 := by omega
        subst ho
        have h7 : gC G (fun q => B.testBit q = true) ∨ t + 1 ≤ cntF (fun i => B.testBit i) 16 := by
          by_cases e : B = B0
          · left
            intro i j hi hs hj
            exact h4 i hi (by rw [← e]; exact hs) j hj
          · right
            rcases h5 with h5 | h5
            · exact absurd (h6 h5) e
            · obtain ⟨i, hi⟩ : ∃ i, B.testBit i ≠ B0.testBit i := by
                apply Classical.byContradiction
                intro hn
                exact e (Nat.eq_of_testBit_eq (fun i => Classical.byContradiction (fun q => hn ⟨i, q⟩)))
              have hi1 : B.testBit i = true := by
                cases hb : B.testBit i with
                | true => rfl
                | false => cases hc : B0.testBit i with
                  | false => exact absurd (by rw [hb, hc]) hi
                  | true => rw [h3 i hc] at hb; cases hb
              have hi0 : B0.testBit i = false := by
                cases hc : B0.testBit i with
                | false => rfl
                | true => exact absurd (by rw [hi1, hc]) hi
              have := cntF_lt (P := fun i => B0.testBit i) (P' := fun i => B.testBit i) h3 ((h1 i hi1).lt hG2 hp) hi0 hi1
              omega
        refine And.intro (fun h => ?_) (fun h => ?_)
        · rw [zn_i, zn_i, iI_add, zc_ge (by omega) (by omega) (by omega) (by omega)] at h
          have ht : t = 15 := by omega
          subst ht
          have : B = rM G p := by
            refine rM_eq hG2 hp h1 h2 ?_
            rcases h7 with h7 | h7
            · exact h7
            · intro i j hi _ hj
              have hj16 : j < 16 := by
                apply Nat.lt_of_not_le
                intro q
                rw [Nat.testBit_lt_two_pow (Nat.lt_of_lt_of_le (hG2 i hi) (show (65536 : Nat) ≤ 2 ^ _ from Nat.pow_le_pow_right (n := 2) (by decide) q))] at hj
                cases hj
              exact cntF_full h7 j hj16
          rw [← this] at hK
          exact hP0 _ hK
        · rw [zn_i, zn_i, iI_add, zc_ge (by omega) (by omega) (by omega) (by omega)] at h
          exact ih _ (by omega) (t + 1) 0 B B _ _ rfl (by omega) (by omega) (zn_inc t) rfl hB h1 h2 (fun _ h => h) (fun i hi => by omega) h7 (fun _ => rfl)
      · rw [zn_i, zc_ge (by omega) (by omega) (by omega) (by omega)] at h
        refine ⟨_, v_isIn l, by decide, rfl, B, o, rfl, by omega, by omega, ?_⟩
        refine And.intro (fun h8 => ?_) (fun h8 => ?_)
        · rw [zc_beq] at h8
          refine ih _ (by omega) t (o + 1) B B0 _ _ rfl ht (by omega) rfl (zn_inc o) hB h1 h2 h3 (fun i hi hi0 => ?_) h5 h6
          rcases Nat.lt_or_ge i o with q | q
          · exact h4 i q hi0
          · have : i = o := by omega
            subst this
            rw [h3 i hi0] at h8; cases h8
        · rw [zc_beq, Bool.not_eq_false] at h8
          refine And.intro (zN_in (by omega) (by omega)) ?_
          show AW _ _ _ _ _ _ _ _ _ _ _ _ _ _
          rw [zN_cl (by omega), (hG o (by omega)).1, zb_or]
          have hsub : ∀ i, B.testBit i = true → (B ||| G o).testBit i = true := fun i hi => by rw [Nat.testBit_or, hi, Bool.true_or]
          refine ih _ (by omega) t (o + 1) (B ||| G o) B0 _ _ rfl ht (by omega) rfl (zn_inc o) (Nat.or_lt_two_pow (n := 16) hB (hG2 o (by omega))) (step B o (by omega) h8 h1) (fun j hj => hsub j (h2 j hj)) (fun i hi => hsub i (h3 i hi)) (fun i hi hi0 j hj => ?_) h5 (fun hc => ?_)
          · rcases Nat.lt_or_ge i o with q | q
            · exact hsub j (h4 i q hi0 j hj)
            · have : i = o := by omega
              subst this
              rw [Nat.testBit_or, hj, Bool.or_true]
          · have e := h6 hc
            subst e
            apply Nat.eq_of_testBit_eq
            intro j
            rw [Nat.testBit_or]
            cases hb : (G o).testBit j with
            | false => rw [Bool.or_false]
            | true => rw [Bool.or_true]; exact (hc o j (by omega) h8 hb).symm
  refine AW.go (bs := b_Web_reachedFrom) [18] 80 t_Web_reachedFrom ?_
  refine And.intro (zN_in (by omega) (by omega)) ?_
  refine And.intro (fun h => ?_) (fun h => ?_)
  · rw [zn_i, zn_i, zc_ge (by omega) (by omega) (by omega) (by omega)] at h; omega
  · show AW _ _ _ _ _ _ _ _ _ _ _ _ _ _
    rw [zN_cl (by omega), (hG p hp).1]
    exact loop _ 0 0 (G p) (G p) _ _ rfl (by omega) (by omega) rfl rfl (hG2 p hp) (fun q hq S h1 h2 => h1 q hq) (fun _ h => h) (fun _ h => h) (fun i hi => by omega) (Or.inr (Nat.zero_le _)) (fun _ => rfl)
noncomputable def ringF (G : Nat → Nat) : Nat := bitsF (fun p => (rM G p).testBit p) id 16
def sp_ringBits : Sp := spW 2 (fun G as K => as = [.ref 0] ∧ K (some (.int (iI (ringF G : Nat)))))
theorem v_ringBits (l : Launch) : z_V l 73 sp_ringBits := by
  refine z_V.ofP (by decide +kernel) ?_
  rintro as σ K Post ⟨g, G, rfl, hG, rfl, hK⟩ hP1 hP0
  have hG2 : ∀ p, p < 16 → G p < 65536 := fun p h => (hG p h).2
  have loop : ∀ (n k : Nat) (x y : Int32), n = 16 - k → k ≤ 16 → x = iI (k : Int) → y = iI (bitsF (fun p => (rM G p).testBit p) id k : Nat) →
      AW l 73 2 0 0 2 none Post 4 [some (.ref 0), some (.int y), some (.int x)] [] (wW g) 0 0 := by
    intro n
    induction n using Nat.strongRecOn with
    | ind n ih =>
      intro k x y hn hk hx hy
      subst hx; subst hy
      refine AW.go (bs := b_Web_ringBits) [4] 60 t_Web_ringBits ?_
      refine And.intro (fun h => ?_) (fun h => ?_)
      · rw [zn_i, zc_ge (by omega) (by omega) (by omega) (by omega)] at h
        have : k = 16 := by omega
        subst this
        exact hP0 _ hK
      · rw [zn_i, zc_ge (by omega) (by omega) (by omega) (by omega)] at h
        refine ⟨_, v_reachedFrom l, by decide, g, G, rfl, hG, k, rfl, by omega, ?_⟩
        have hlt : rM G k < 65536 := bitsF_lt (w := 16) (fun k hk _ => hk)
        refine ⟨_, v_isIn l, by decide, rfl, rM G k, k, rfl, by omega, by omega, ?_⟩
        refine And.intro (fun h8 => ?_) (fun h8 => ?_)
        · rw [zc_beq] at h8
          refine ih _ (by omega) (k + 1) _ _ rfl (by omega) (zn_inc k) ?_
          rw [bitsF, h8]; rfl
        · rw [zc_beq, Bool.not_eq_false] at h8
          refine ih _ (by omega) (k + 1) _ _ rfl (by omega) (zn_inc k) ?_
          show iI _ ||| iI 1 <<< (iI (k : Int) &&& 31) = _
          rw [zb_shl k (by omega), zb_or, bitsF, h8]; rfl
  refine AW.go (bs := b_Web_ringBits) [4] 60 t_Web_ringBits ?_
  exact loop _ 0 _ _ rfl (by omega) rfl rfl
end
section
/-! the longest line of those who give on -/
def mxF (P : Nat → Bool) (g : Nat → Nat) : Nat → Nat
  | 0 => 0
  | n + 1 => if P n then max (mxF P g n) (g n) else mxF P g n
/-- how many are in the longest line from p on, n more at most, none of B again -/
def lnF (G : Nat → Nat) : Nat → Nat → Nat → Nat
  | 0, _, _ => 1
  | n + 1, p, B => 1 + mxF (fun q => (G p).testBit q && !B.testBit q) (fun q => lnF G n q (B ||| 2 ^ q)) 16
theorem mxF_le {P : Nat → Bool} {g : Nat → Nat} {b : Nat} (h : ∀ q, P q = true → g q ≤ b) : ∀ n, mxF P g n ≤ b
  | 0 => Nat.zero_le _
  | n + 1 => by
    have := mxF_le h n
    unfold mxF
    split
    · next e => have := h n e; omega
    · exact this
theorem lnF_le (G : Nat → Nat) : ∀ (n p B : Nat), lnF G n p B ≤ n + 1
  | 0, p, B => by simp [lnF]
  | n + 1, p, B => by
    unfold lnF
    have := mxF_le (P := fun q => (G p).testBit q && !B.testBit q) (g := fun q => lnF G n q (B ||| 2 ^ q)) (b := n + 1) (fun q _ => lnF_le G n q _) 16
    omega
def sp_lineFrom (n : Nat) : Sp := spW (10 + n) (fun G as K => ∃ (p B L : Nat), as = [.ref 0, .int (iI p), .int (iI B), .int (iI L)] ∧ p < 16 ∧ B < 65536 ∧ L + n = 16 ∧ 1 ≤ L ∧ K (some (.int (iI (L - 1 + lnF G n p B : Nat)))))
theorem v_lineFrom (l : Launch) : ∀ n, z_V l 76 (sp_lineFrom n) := by
  intro n
  induction n with
  | zero =>
    refine z_V.ofP (by decide +kernel) ?_
    rintro as σ K Post ⟨g, G, rfl, hG, p, B, L, rfl, hp, hB, hL, hL1, hK⟩ hP1 hP0
    refine AW.go (bs := b_Web_lineFrom) [] 80 t_Web_lineFrom ?_
    refine And.intro (zN_in hp (by omega)) ?_
    refine And.intro (fun h => ?_) (fun h => ?_)
    · rw [zn_i, zn_i, zc_ge (by omega) (by omega) (by omega) (by omega)] at h; omega
    · refine And.intro (fun h => ?_) (fun h => ?_)
      · refine hP0 _ ?_
        rw [lnF, show L - 1 + 1 = L by omega] at hK
        exact hK
      · rw [zn_i, zc_ge (by omega) (by omega) (by omega) (by omega)] at h; omega
  | succ n ihn =>
    refine z_V.ofP (by decide +kernel) ?_
    rintro as σ K Post ⟨g, G, rfl, hG, p, B, L, rfl, hp, hB, hL, hL1, hK⟩ hP1 hP0
    have hG2 : ∀ p, p < 16 → G p < 65536 := fun p h => (hG p h).2
    have loop : ∀ (m k : Nat) (x y : Int32), m = 16 - k → k ≤ 16 → x = iI (k : Int) → y = iI (L + mxF (fun q => (G p).testBit q && !B.testBit q) (fun q => lnF G n q (B ||| 2 ^ q)) k : Nat) →
        AW l 76 (10 + (n + 1)) 0 0 2 none Post 18 [some (.ref 0), some (.int (iI p)), some (.int (iI B)), some (.int (iI L)), some (.int y), some (.int (iI ((G p &&& (B ^^^ 65535) : Nat) : Int))), some (.int x)] [] (wW g) 0 0 := by
      intro m
      induction m using Nat.strongRecOn with
      | ind m ih =>
        intro k x y hm hk hx hy
        subst hx; subst hy
        refine AW.go (bs := b_Web_lineFrom) [18] 80 t_Web_lineFrom ?_
        refine And.intro (fun h => ?_) (fun h => ?_)
        · rw [zn_i, zc_ge (by omega) (by omega) (by omega) (by omega)] at h
          have : k = 16 := by omega
          subst this
          refine hP0 _ ?_
          rw [lnF, ← Nat.add_assoc, show L - 1 + 1 = L by omega] at hK
          exact hK
        · rw [zn_i, zc_ge (by omega) (by omega) (by omega) (by omega)] at h
          refine And.intro (fun h => ?_) (fun h => ?_)
          · rw [zn_i, zc_ge (by omega) (by omega) (by omega) (by omega)] at h; omega
          · have hlt := andn_lt (b := B) (hG2 p hp)
            refine ⟨_, v_isIn l, Nat.zero_lt_of_lt (show 9 < 10 + (n + 1) by omega), rfl, G p &&& (B ^^^ 65535), k, rfl, by omega, by omega, ?_⟩
            rw [andn_test (hG2 p hp)]
            refine And.intro (fun h8 => ?_) (fun h8 => ?_)
            · rw [zc_beq] at h8
              refine ih _ (by omega) (k + 1) _ _ rfl (by omega) (zn_inc k) ?_
              rw [mxF, if_neg (by rw [h8]; decide)]
            · rw [zc_beq, Bool.not_eq_false] at h8
              have hk16 : k < 16 := by omega
              have hle := lnF_le G n k (B ||| 2 ^ k)
              have hmx := mxF_le (P := fun q => (G p).testBit q && !B.testBit q) (g := fun q => lnF G n q (B ||| 2 ^ q)) (b := n + 1) (fun q _ => lnF_le G n q _) k
              show ∃ sp : Sp, _
              rw [show z_nn 1 0 = iI 1 from rfl, zb_shl k (by omega), zb_or, iI_add]
              refine ⟨_, ihn, (show 10 + n < 10 + (n + 1) by omega), g, G, rfl, hG, k, B ||| 2 ^ k, L + 1, rfl, hk16, zb_lt hB hk16, by omega, by omega, ?_⟩
              show AW _ _ _ _ _ _ _ _ _ _ _ _ _ _
              rw [max_iI (by omega) (by omega) (by omega) (by omega)]
              refine ih _ (by omega) (k + 1) _ _ rfl (by omega) (zn_inc k) ?_
              rw [mxF, if_pos h8]
              congr 1
              omega
    refine AW.go (bs := b_Web_lineFrom) [18] 80 t_Web_lineFrom ?_
    refine And.intro (zN_in hp (by omega)) ?_
    show AW _ _ _ _ _ _ _ _ _ _ _ _ _ _
    rw [zN_cl (by omega), (hG p hp).1, zb_andn (hG2 p hp) hB]
    exact loop _ 0 _ _ rfl (by omega) rfl rfl
def tgF (G : Nat → Nat) : Nat := mxF (fun p => decide (G p ≠ 0)) (fun p => lnF G 15 p (2 ^ p)) 16
def sp_longestLine : Sp := spW 26 (fun G as K => as = [.ref 0] ∧ K (some (.int (iI (tgF G : Nat)))))
theorem v_longestLine (l : Launch) : z_V l 75 sp_longestLine := by
  refine z_V.ofP (by decide +kernel) ?_
  rintro as σ K Post ⟨g, G, rfl, hG, rfl, hK⟩ hP1 hP0
  have hG2 : ∀ p, p < 16 → G p < 65536 := fun p h => (hG p h).2
  have loop : ∀ (n k : Nat) (x y : Int32), n = 16 - k → k ≤ 16 → x = iI (k : Int) → y = iI (mxF (fun p => decide (G p ≠ 0)) (fun p => lnF G 15 p (2 ^ p)) k : Nat) →
      AW l 75 26 0 0 2 none Post 4 [some (.ref 0), some (.int y), some (.int x)] [] (wW g) 0 0 := by
    intro n
    induction n using Nat.strongRecOn with
    | ind n ih =>
      intro k x y hn hk hx hy
      subst hx; subst hy
      refine AW.go (bs := b_Web_longestLine) [4] 60 t_Web_longestLine ?_
      refine And.intro (fun h => ?_) (fun h => ?_)
      · rw [zn_i, zc_ge (by omega) (by omega) (by omega) (by omega)] at h
        have : k = 16 := by omega
        subst this
        exact hP0 _ hK
      · rw [zn_i, zc_ge (by omega) (by omega) (by omega) (by omega)] at h
        have hk16 : k < 16 := by omega
        have hgk := hG2 k hk16
        refine And.intro (zN_in (by omega) (by omega)) ?_
        show _ ∧ _
        rw [zN_cl (by omega), (hG k hk16).1]
        refine And.intro (fun h8 => ?_) (fun h8 => ?_)
        · rw [zc_eq0 (by omega) (by omega)] at h8
          refine ih _ (by omega) (k + 1) _ _ rfl (by omega) (zn_inc k) ?_
          rw [mxF, decide_eq_false (by omega)]; rfl
        · rw [zc_eq0 (by omega) (by omega)] at h8
          have hle := lnF_le G 15 k (2 ^ k)
          have hmx := mxF_le (P := fun p => decide (G p ≠ 0)) (g := fun p => lnF G 15 p (2 ^ p)) (b := 16) (fun q _ => lnF_le G 15 q _) k
          have hpow : 2 ^ k < 2 ^ 16 := Nat.pow_lt_pow_right (by decide) hk16
          show ∃ sp : Sp, _
          rw [show z_nn 1 0 = iI 1 from rfl, zb_shl k (by omega)]
          refine ⟨_, v_lineFrom l 15, by decide, g, G, rfl, hG, k, 2 ^ k, 1, rfl, hk16, by omega, by omega, by omega, ?_⟩
          show AW _ _ _ _ _ _ _ _ _ _ _ _ _ _
          rw [max_iI (by omega) (by omega) (by omega) (by omega)]
          refine ih _ (by omega) (k + 1) _ _ rfl (by omega) (zn_inc k) ?_
          rw [mxF, decide_eq_true (by omega), if_pos rfl]
          congr 1
          omega
  refine AW.go (bs := b_Web_longestLine) [4] 60 t_Web_longestLine ?_
  exact loop _ 0 _ _ rfl (by omega) rfl rfl
end
section
/-! what was before: a ring of ten states -/
def fU {α : Type} (F : Nat → α) (q : Nat) (x : α) : Nat → α := fun i => match Nat.beq i q with
  | true => x
  | false => F i
theorem fU_eq {α : Type} (F : Nat → α) (q : Nat) (x : α) : fU F q x q = x := by
  unfold fU; rw [show Nat.beq q q = true from Nat.beq_refl q]
theorem fU_ne {α : Type} (F : Nat → α) {q i : Nat} (x : α) (h : i ≠ q) : fU F q x i = F i := by
  unfold fU
  cases hb : Nat.beq i q with
  | false => rfl
  | true => exact absurd (Nat.eq_of_beq_eq_true hb) h
def wPS (F S T : Nat → Nat → Int32) (fi sz : Int32) (f s t : Nat → Int32) : List AE := [.inr (.inr (3, [.ref 1, .int fi, .int sz])), .inr (.inl [some 2, some 6, some 10, some 14, some 18, some 22, some 26, some 30, some 34, some 38]), .inr (.inr (6, [.ref 3, .ref 4, .ref 5])), .inl (0, 648, F 0), .inl (0, 6, S 0), .inl (0, 3, T 0), .inr (.inr (6, [.ref 7, .ref 8, .ref 9])), .inl (0, 648, F 1), .inl (0, 6, S 1), .inl (0, 3, T 1), .inr (.inr (6, [.ref 11, .ref 12, .ref 13])), .inl (0, 648, F 2), .inl (0, 6, S 2), .inl (0, 3, T 2), .inr (.inr (6, [.ref 15, .ref 16, .ref 17])), .inl (0, 648, F 3), .inl (0, 6, S 3), .inl (0, 3, T 3), .inr (.inr (6, [.ref 19, .ref 20, .ref 21])), .inl (0, 648, F 4), .inl (0, 6, S 4), .inl (0, 3, T 4), .inr (.inr (6, [.ref 23, .ref 24, .ref 25])), .inl (0, 648, F 5), .inl (0, 6, S 5), .inl (0, 3, T 5), .inr (.inr (6, [.ref 27, .ref 28, .ref 29])), .inl (0, 648, F 6), .inl (0, 6, S 6), .inl (0, 3, T 6), .inr (.inr (6, [.ref 31, .ref 32, .ref 33])), .inl (0, 648, F 7), .inl (0, 6, S 7), .inl (0, 3, T 7), .inr (.inr (6, [.ref 35, .ref 36, .ref 37])), .inl (0, 648, F 8), .inl (0, 6, S 8), .inl (0, 3, T 8), .inr (.inr (6, [.ref 39, .ref 40, .ref 41])), .inl (0, 648, F 9), .inl (0, 6, S 9), .inl (0, 3, T 9), .inr (.inr (6, [.ref 43, .ref 44, .ref 45])), .inl (0, 648, f), .inl (0, 6, s), .inl (0, 3, t)]
def pPS : List (Nat × List Nat) := [(0, []), (0, [0]), (0, [0, 0]), (0, [0, 0, 0]), (0, [0, 0, 1]), (0, [0, 0, 2]), (0, [0, 1]), (0, [0, 1, 0]), (0, [0, 1, 1]), (0, [0, 1, 2]), (0, [0, 2]), (0, [0, 2, 0]), (0, [0, 2, 1]), (0, [0, 2, 2]), (0, [0, 3]), (0, [0, 3, 0]), (0, [0, 3, 1]), (0, [0, 3, 2]), (0, [0, 4]), (0, [0, 4, 0]), (0, [0, 4, 1]), (0, [0, 4, 2]), (0, [0, 5]), (0, [0, 5, 0]), (0, [0, 5, 1]), (0, [0, 5, 2]), (0, [0, 6]), (0, [0, 6, 0]), (0, [0, 6, 1]), (0, [0, 6, 2]), (0, [0, 7]), (0, [0, 7, 0]), (0, [0, 7, 1]), (0, [0, 7, 2]), (0, [0, 8]), (0, [0, 8, 0]), (0, [0, 8, 1]), (0, [0, 8, 2]), (0, [0, 9]), (0, [0, 9, 0]), (0, [0, 9, 1]), (0, [0, 9, 2]), (1, []), (1, [0]), (1, [1]), (1, [2])]
def wP (F S T : Nat → Nat → Int32) (fi sz : Int32) : List AE := [.inr (.inr (3, [.ref 1, .int fi, .int sz])), .inr (.inl [some 2, some 6, some 10, some 14, some 18, some 22, some 26, some 30, some 34, some 38]), .inr (.inr (6, [.ref 3, .ref 4, .ref 5])), .inl (0, 648, F 0), .inl (0, 6, S 0), .inl (0, 3, T 0), .inr (.inr (6, [.ref 7, .ref 8, .ref 9])), .inl (0, 648, F 1), .inl (0, 6, S 1), .inl (0, 3, T 1), .inr (.inr (6, [.ref 11, .ref 12, .ref 13])), .inl (0, 648, F 2), .inl (0, 6, S 2), .inl (0, 3, T 2), .inr (.inr (6, [.ref 15, .ref 16, .ref 17])), .inl (0, 648, F 3), .inl (0, 6, S 3), .inl (0, 3, T 3), .inr (.inr (6, [.ref 19, .ref 20, .ref 21])), .inl (0, 648, F 4), .inl (0, 6, S 4), .inl (0, 3, T 4), .inr (.inr (6, [.ref 23, .ref 24, .ref 25])), .inl (0, 648, F 5), .inl (0, 6, S 5), .inl (0, 3, T 5), .inr (.inr (6, [.ref 27, .ref 28, .ref 29])), .inl (0, 648, F 6), .inl (0, 6, S 6), .inl (0, 3, T 6), .inr (.inr (6, [.ref 31, .ref 32, .ref 33])), .inl (0, 648, F 7), .inl (0, 6, S 7), .inl (0, 3, T 7), .inr (.inr (6, [.ref 35, .ref 36, .ref 37])), .inl (0, 648, F 8), .inl (0, 6, S 8), .inl (0, 3, T 8), .inr (.inr (6, [.ref 39, .ref 40, .ref 41])), .inl (0, 648, F 9), .inl (0, 6, S 9), .inl (0, 3, T 9)]
def pP : List (Nat × List Nat) := [(0, []), (0, [0]), (0, [0, 0]), (0, [0, 0, 0]), (0, [0, 0, 1]), (0, [0, 0, 2]), (0, [0, 1]), (0, [0, 1, 0]), (0, [0, 1, 1]), (0, [0, 1, 2]), (0, [0, 2]), (0, [0, 2, 0]), (0, [0, 2, 1]), (0, [0, 2, 2]), (0, [0, 3]), (0, [0, 3, 0]), (0, [0, 3, 1]), (0, [0, 3, 2]), (0, [0, 4]), (0, [0, 4, 0]), (0, [0, 4, 1]), (0, [0, 4, 2]), (0, [0, 5]), (0, [0, 5, 0]), (0, [0, 5, 1]), (0, [0, 5, 2]), (0, [0, 6]), (0, [0, 6, 0]), (0, [0, 6, 1]), (0, [0, 6, 2]), (0, [0, 7]), (0, [0, 7, 0]), (0, [0, 7, 1]), (0, [0, 7, 2]), (0, [0, 8]), (0, [0, 8, 0]), (0, [0, 8, 1]), (0, [0, 8, 2]), (0, [0, 9]), (0, [0, 9, 0]), (0, [0, 9, 1]), (0, [0, 9, 2])]
def PR (F S T : Nat → Nat → Int32) (fi : Nat) (H : List Od) : Prop := fi < 10 ∧ H.length ≤ 10 ∧ ∀ (i : Nat) (M : Od), H[i]? = some M → RS (F ((fi + i) % 10)) (S ((fi + i) % 10)) (T ((fi + i) % 10)) M
def hisA (H : List Od) (M : Od) : List Od := (if H.length = 10 then H.drop 1 else H) ++ [M]
theorem PR.push {F S T : Nat → Nat → Int32} {fi : Nat} {H : List Od} (h : PR F S T fi H) (hl : H.length < 10) {f s t : Nat → Int32} {M : Od} (hM : RS f s t M) : PR (fU F ((fi + H.length) % 10) f) (fU S ((fi + H.length) % 10) s) (fU T ((fi + H.length) % 10) t) fi (H ++ [M]) := by
  obtain ⟨h1, h2, h3⟩ := h
  refine ⟨h1, by simp; omega, fun i M' hi => ?_⟩
  by_cases e : i < H.length
  · rw [List.getElem?_append_left e] at hi
    rw [fU_ne _ _ (by omega), fU_ne _ _ (by omega), fU_ne _ _ (by omega)]
    exact h3 i M' hi
  · rw [List.getElem?_append_right (by omega)] at hi
    have hz : i - H.length < 1 := (List.getElem?_eq_some_iff.mp hi).1
    have : i = H.length := by omega
    subst this
    rw [Nat.sub_self] at hi
    cases hi
    rw [fU_eq, fU_eq, fU_eq]; exact hM
theorem PR.tail {F S T : Nat → Nat → Int32} {fi : Nat} {H : List Od} (h : PR F S T fi H) (hl : H.length = 10) : PR F S T ((fi + 1) % 10) (H.drop 1) := by
  obtain ⟨h1, h2, h3⟩ := h
  refine ⟨by omega, by simp; omega, fun i M' hi => ?_⟩
  rw [List.getElem?_drop] at hi
  have := h3 (1 + i) M' hi
  rw [show ((fi + 1) % 10 + i) % 10 = (fi + (1 + i)) % 10 by omega]
  exact this
def sp_remember : Sp := (2, 0, 0, pPS, fun as σ K => ∃ (F S T : Nat → Nat → Int32) (fi : Nat) (H : List Od) (f s t : Nat → Int32) (M : Od), as = [.ref 0, .ref 42] ∧ σ = wPS F S T (iI fi) (iI H.length) f s t ∧ RS f s t M ∧ PR F S T fi H ∧ ∀ F' S' T' fi', PR F' S' T' fi' (hisA H M) → K none (some (wPS F' S' T' (iI (fi' : Nat)) (iI (hisA H M).length) f s t)))
set_option maxRecDepth 8000 in
theorem v_remember (l : Launch) : z_V l 16 sp_remember := by
  refine z_V.ofP (by decide +kernel) ?_
  rintro as σ K Post ⟨F, S, T, fi, H, f, s, t, M, rfl, rfl, hM, hP, hK⟩ hP1 hP0
  have core : ∀ (fi : Nat) (H : List Od), PR F S T fi H → H.length < 10 → (∀ F' S' T' fi', PR F' S' T' fi' (H ++ [M]) → Post none (wPS F' S' T' (iI (fi' : Nat)) (iI (H ++ [M]).length) f s t)) →
      AW l 16 2 0 0 46 none Post 32 [some (.ref 0), some (.ref 42)] [] (wPS F S T (iI fi) (iI H.length) f s t) 0 0 := by
    intro fi H hP hl hK
    have hp1 := hP.1
    have ei : iI (fi : Int) + iI (H.length : Int) - (iI (fi : Int) + iI (H.length : Int)) / z_nn 10 0 * z_nn 10 0 = iI (((fi + H.length) % 10 : Nat) : Int) := by
      rw [zn_i, iI_add, iI_rem (by omega) (by omega) (by omega) (by omega)]; rfl
    have hpu : ∀ {f' s' t' : Nat → Int32}, RS f' s' t' M → _ := fun h => hP.push hl h
    have el : (H ++ [M]).length = H.length + 1 := by simp
    refine AW.go (bs := b_Past_remember) [] 60 t_Past_remember ?_
    refine And.intro (by decide) ?_
    show ∃ g : Nat, _
    rw [ei]
    generalize hq : (fi + H.length) % 10 = q at hpu ⊢
    have hq10 : q < 10 := by omega
    have : q = 0 ∨ q = 1 ∨ q = 2 ∨ q = 3 ∨ q = 4 ∨ q = 5 ∨ q = 6 ∨ q = 7 ∨ q = 8 ∨ q = 9 := by omega
    rcases this with rfl | rfl | rfl | rfl | rfl | rfl | rfl | rfl | rfl | rfl
    · refine ⟨2, zN_in (t := 0) (by decide) (by decide), rfl, ?_⟩
      refine ⟨_, v_copyFrom l, by decide, F 0, S 0, T 0, f, s, t, M, rfl, rfl, hM, fun f' s' t' h => ?_⟩
      have := hK _ _ _ fi (hpu h)
      rw [el, ← zn_inc] at this
      exact this
    · refine ⟨6, zN_in (t := 1) (by decide) (by decide), rfl, ?_⟩
      refine ⟨_, v_copyFrom l, by decide, F 1, S 1, T 1, f, s, t, M, rfl, rfl, hM, fun f' s' t' h => ?_⟩
      have := hK _ _ _ fi (hpu h)
      rw [el, ← zn_inc] at this
      exact this
    · refine ⟨10, zN_in (t := 2) (by decide) (by decide), rfl, ?_⟩
      refine ⟨_, v_copyFrom l, by decide, F 2, S 2, T 2, f, s, t, M, rfl, rfl, hM, fun f' s' t' h => ?_⟩
      have := hK _ _ _ fi (hpu h)
      rw [el, ← zn_inc] at this
      exact this
    · refine ⟨14, zN_in (t := 3) (by decide) (by decide), rfl, ?_⟩
      refine ⟨_, v_copyFrom l, by decide, F 3, S 3, T 3, f, s, t, M, rfl, rfl, hM, fun f' s' t' h => ?_⟩
      have := hK _ _ _ fi (hpu h)
      rw [el, ← zn_inc] at this
      exact this
    · refine ⟨18, zN_in (t := 4) (by decide) (by decide), rfl, ?_⟩
      refine ⟨_, v_copyFrom l, by decide, F 4, S 4, T 4, f, s, t, M, rfl, rfl, hM, fun f' s' t' h => ?_⟩
      have := hK _ _ _ fi (hpu h)
      rw [el, ← zn_inc] at this
      exact this
    · refine ⟨22, zN_in (t := 5) (by decide) (by decide), rfl, ?_⟩
      refine ⟨_, v_copyFrom l, by decide, F 5, S 5, T 5, f, s, t, M, rfl, rfl, hM, fun f' s' t' h => ?_⟩
      have := hK _ _ _ fi (hpu h)
      rw [el, ← zn_inc] at this
      exact this
    · refine ⟨26, zN_in (t := 6) (by decide) (by decide), rfl, ?_⟩
      refine ⟨_, v_copyFrom l, by decide, F 6, S 6, T 6, f, s, t, M, rfl, rfl, hM, fun f' s' t' h => ?_⟩
      have := hK _ _ _ fi (hpu h)
      rw [el, ← zn_inc] at this
      exact this
    · refine ⟨30, zN_in (t := 7) (by decide) (by decide), rfl, ?_⟩
      refine ⟨_, v_copyFrom l, by decide, F 7, S 7, T 7, f, s, t, M, rfl, rfl, hM, fun f' s' t' h => ?_⟩
      have := hK _ _ _ fi (hpu h)
      rw [el, ← zn_inc] at this
      exact this
    · refine ⟨34, zN_in (t := 8) (by decide) (by decide), rfl, ?_⟩
      refine ⟨_, v_copyFrom l, by decide, F 8, S 8, T 8, f, s, t, M, rfl, rfl, hM, fun f' s' t' h => ?_⟩
      have := hK _ _ _ fi (hpu h)
      rw [el, ← zn_inc] at this
      exact this
    · refine ⟨38, zN_in (t := 9) (by decide) (by decide), rfl, ?_⟩
      refine ⟨_, v_copyFrom l, by decide, F 9, S 9, T 9, f, s, t, M, rfl, rfl, hM, fun f' s' t' h => ?_⟩
      have := hK _ _ _ fi (hpu h)
      rw [el, ← zn_inc] at this
      exact this
  unfold hisA at hK
  have hp1 := hP.1
  have hp2 := hP.2.1
  refine AW.go (bs := b_Past_remember) [32] 60 t_Past_remember ?_
  refine And.intro (fun h => ?_) (fun h => ?_)
  · rw [zn_i, zc_ne (by omega) (by omega) (by omega) (by omega)] at h
    rw [if_neg (by omega)] at hK
    exact core fi H hP (by omega) (fun F' S' T' fi' h => hP1 _ _ (hK F' S' T' fi' h))
  · rw [zn_i, zc_ne (by omega) (by omega) (by omega) (by omega)] at h
    rw [if_pos (by omega)] at hK
    refine And.intro (by decide) ?_
    have e1 : iI (fi : Int) + z_nn 1 0 - (iI (fi : Int) + z_nn 1 0) / z_nn 10 0 * z_nn 10 0 = iI (((fi + 1) % 10 : Nat) : Int) := by
      rw [zn_i, zn_i, iI_add, iI_rem (by omega) (by omega) (by omega) (by omega)]; rfl
    have e2 : iI (H.length : Int) - z_nn 1 0 = iI ((H.drop 1).length : Int) := by
      rw [zn_i, iI_sub]; congr 1; simp; omega
    show AW _ _ _ _ _ _ _ _ _ _ _ _ _ _
    rw [e1, e2]
    exact core _ _ (hP.tail (by omega)) (by simp; omega) (fun F' S' T' fi' h => hP1 _ _ (hK F' S' T' fi' h))
def sp_takeBack : Sp := (2, 0, 0, pPS, fun as σ K => ∃ (F S T : Nat → Nat → Int32) (fi : Nat) (H : List Od) (f s t : Nat → Int32), as = [.ref 0, .ref 42] ∧ σ = wPS F S T (iI fi) (iI H.length) f s t ∧ PR F S T fi H ∧ (H = [] → K (some (.int (iI (-1)))) none) ∧
  ∀ H0 M, H = H0 ++ [M] → ∀ f' s' t', RS f' s' t' M → PR F S T fi H0 → K (some (.int (iI (H0.length : Nat)))) (some (wPS F S T (iI fi) (iI H0.length) f' s' t')))
set_option maxRecDepth 8000 in
theorem v_takeBack (l : Launch) : z_V l 17 sp_takeBack := by
  refine z_V.ofP (by decide +kernel) ?_
  rintro as σ K Post ⟨F, S, T, fi, H, f, s, t, rfl, rfl, hP, hK0, hK⟩ hP1 hP0
  obtain ⟨hp1, hp2, hp3⟩ := hP
  refine AW.go (bs := b_Past_takeBack) [] 60 t_Past_takeBack ?_
  refine And.intro (fun h => ?_) (fun h => ?_)
  · rw [zc_ne0 (by omega) (by omega)] at h
    rcases List.eq_nil_or_concat H with e | ⟨H0, M, e⟩
    · subst e; exact absurd rfl h
    · rw [List.concat_eq_append] at e
      subst e
      have el : (H0 ++ [M]).length = H0.length + 1 := by simp
      have hK2 := hK H0 M rfl
      have hM := hp3 H0.length M (by simp)
      have hP' : PR F S T fi H0 := ⟨hp1, by omega, fun i M' hi => hp3 i M' (by rw [List.getElem?_append_left (List.getElem?_eq_some_iff.mp hi).1]; exact hi)⟩
      have e2 : iI ((H0 ++ [M]).length : Int) - z_nn 1 0 = iI (H0.length : Int) := by
        rw [zn_i, iI_sub, el]; congr 1; omega
      have ei : iI (fi : Int) + iI (H0.length : Int) - (iI (fi : Int) + iI (H0.length : Int)) / z_nn 10 0 * z_nn 10 0 = iI (((fi + H0.length) % 10 : Nat) : Int) := by
        rw [zn_i, iI_add, iI_rem (by omega) (by omega) (by omega) (by omega)]; rfl
      refine And.intro (by decide) ?_
      show ∃ g : Nat, _
      rw [e2, ei]
      generalize hq : (fi + H0.length) % 10 = q at hM ⊢
      have hq10 : q < 10 := by omega
      have : q = 0 ∨ q = 1 ∨ q = 2 ∨ q = 3 ∨ q = 4 ∨ q = 5 ∨ q = 6 ∨ q = 7 ∨ q = 8 ∨ q = 9 := by omega
      rcases this with rfl | rfl | rfl | rfl | rfl | rfl | rfl | rfl | rfl | rfl
      · refine ⟨2, zN_in (t := 0) (by decide) (by decide), rfl, ?_⟩
        refine ⟨_, v_copyFrom l, by decide, f, s, t, F 0, S 0, T 0, M, rfl, rfl, hM, fun f' s' t' h => ?_⟩
        exact hP1 _ _ (hK2 f' s' t' h hP')
      · refine ⟨6, zN_in (t := 1) (by decide) (by decide), rfl, ?_⟩
        refine ⟨_, v_copyFrom l, by decide, f, s, t, F 1, S 1, T 1, M, rfl, rfl, hM, fun f' s' t' h => ?_⟩
        exact hP1 _ _ (hK2 f' s' t' h hP')
      · refine ⟨10, zN_in (t := 2) (by decide) (by decide), rfl, ?_⟩
        refine ⟨_, v_copyFrom l, by decide, f, s, t, F 2, S 2, T 2, M, rfl, rfl, hM, fun f' s' t' h => ?_⟩
        exact hP1 _ _ (hK2 f' s' t' h hP')
      · refine ⟨14, zN_in (t := 3) (by decide) (by decide), rfl, ?_⟩
        refine ⟨_, v_copyFrom l, by decide, f, s, t, F 3, S 3, T 3, M, rfl, rfl, hM, fun f' s' t' h => ?_⟩
        exact hP1 _ _ (hK2 f' s' t' h hP')
      · refine ⟨18, zN_in (t := 4) (by decide) (by decide), rfl, ?_⟩
        refine ⟨_, v_copyFrom l, by decide, f, s, t, F 4, S 4, T 4, M, rfl, rfl, hM, fun f' s' t' h => ?_⟩
        exact hP1 _ _ (hK2 f' s' t' h hP')
      · refine ⟨22, zN_in (t := 5) (by decide) (by decide), rfl, ?_⟩
        refine ⟨_, v_copyFrom l, by decide, f, s, t, F 5, S 5, T 5, M, rfl, rfl, hM, fun f' s' t' h => ?_⟩
        exact hP1 _ _ (hK2 f' s' t' h hP')
      · refine ⟨26, zN_in (t := 6) (by decide) (by decide), rfl, ?_⟩
        refine ⟨_, v_copyFrom l, by decide, f, s, t, F 6, S 6, T 6, M, rfl, rfl, hM, fun f' s' t' h => ?_⟩
        exact hP1 _ _ (hK2 f' s' t' h hP')
      · refine ⟨30, zN_in (t := 7) (by decide) (by decide), rfl, ?_⟩
        refine ⟨_, v_copyFrom l, by decide, f, s, t, F 7, S 7, T 7, M, rfl, rfl, hM, fun f' s' t' h => ?_⟩
        exact hP1 _ _ (hK2 f' s' t' h hP')
      · refine ⟨34, zN_in (t := 8) (by decide) (by decide), rfl, ?_⟩
        refine ⟨_, v_copyFrom l, by decide, f, s, t, F 8, S 8, T 8, M, rfl, rfl, hM, fun f' s' t' h => ?_⟩
        exact hP1 _ _ (hK2 f' s' t' h hP')
      · refine ⟨38, zN_in (t := 9) (by decide) (by decide), rfl, ?_⟩
        refine ⟨_, v_copyFrom l, by decide, f, s, t, F 9, S 9, T 9, M, rfl, rfl, hM, fun f' s' t' h => ?_⟩
        exact hP1 _ _ (hK2 f' s' t' h hP')
  · rw [zc_ne0 (by omega) (by omega)] at h
    have : H = [] := List.eq_nil_of_length_eq_zero (by omega)
    exact hP0 _ (hK0 this)
def sp_forget : Sp := (0, 0, 0, pP, fun as σ K => ∃ (F S T : Nat → Nat → Int32) (fi sz : Int32), as = [.ref 0] ∧ σ = wP F S T fi sz ∧ K none (some (wP F S T fi (iI 0))))
set_option maxRecDepth 8000 in
theorem v_forget (l : Launch) : z_V l 15 sp_forget := by
  refine z_V.ofP (by decide +kernel) ?_
  rintro as σ K Post ⟨F, S, T, fi, sz, rfl, rfl, hK⟩ hP1 hP0
  refine AW.go (bs := b_Past_forget) [] 60 t_Past_forget ?_
  exact hP1 _ _ hK
end
section
/-! the tape -/
def wT (tb : Nat → Int32) (tz : Int32) : List AE := [.inr (.inr (7, [.ref 1, .int tz])), .inl (1, 400, tb)]
def pT : List (Nat × List Nat) := [(0, []), (0, [0])]
/-- the byte j of four, as it is stored -/
def bt (a : Int32) (j : Nat) : Int32 := vp_nar .byte ((a >>> (iI (24 - 8 * (j : Int)) &&& 31)).toInt8.toInt32)
def sp_add : Sp := (0, 0, 0, pT, fun as σ K => ∃ (tb : Nat → Int32) (n : Nat) (a : Int32), as = [.ref 0, .int a] ∧ σ = wT tb (iI n) ∧ n + 4 ≤ 400 ∧ ∀ tb', (∀ i, i < n → tb' i = tb i) → (∀ j, j < 4 → tb' (n + j) = bt a j) → K none (some (wT tb' (iI (n + 4 : Nat)))))
set_option maxRecDepth 20000 in
theorem v_add (l : Launch) : z_V l 69 sp_add := by
  refine z_V.ofP (by decide +kernel) ?_
  rintro as σ K Post ⟨tb, n, a, rfl, rfl, hn, hK⟩ hP1 hP0
  have loop : ∀ (q k : Nat) (x : Int32) (tb' : Nat → Int32) (z : Int32), q = 4 - k → k ≤ 4 → x = iI (24 - 8 * (k : Int)) → z = iI (n + k : Nat) → (∀ i, i < n → tb' i = tb i) → (∀ j, j < k → tb' (n + j) = bt a j) →
      AW l 69 0 0 0 2 none Post 3 [some (.ref 0), some (.int a), some (.int x)] [] (wT tb' z) 0 0 := by
    intro q
    induction q using Nat.strongRecOn with
    | ind q ih =>
      intro k x tb' z hq hk hx hz h1 h2
      subst hx; subst hz
      refine AW.go (bs := b_Tape_add) [3] 60 t_Tape_add ?_
      refine And.intro (fun h => ?_) (fun h => ?_)
      · rw [zc_lt0 (by omega) (by omega)] at h
        have : k = 4 := by omega
        subst this
        exact hP1 _ _ (hK tb' h1 h2)
      · rw [zc_lt0 (by omega) (by omega)] at h
        refine And.intro (fun h3 => ?_) (fun h3 => ?_)
        · rw [zn_i, zc_ge (by omega) (by omega) (by omega) (by omega)] at h3; omega
        · refine And.intro (zN_in (by omega) (by omega)) ?_
          show AW _ _ _ _ _ _ _ _ _ _ _ _ _ _
          rw [zN_cl (by omega)]
          refine ih _ (by omega) (k + 1) _ _ _ rfl (by omega) (by rw [zn_m, iI_add]; congr 1; omega) (zn_inc _) (fun i hi => ?_) (fun j hj => ?_)
          · unfold upd; rw [if_neg (by omega)]; exact h1 i hi
          · unfold upd
            by_cases e : j = k
            · rw [if_pos (by omega), e]; rfl
            · rw [if_neg (by omega)]; exact h2 j (by omega)
  refine AW.go (bs := b_Tape_add) [3] 60 t_Tape_add ?_
  exact loop _ 0 _ _ _ rfl (by omega) rfl rfl (fun _ _ => rfl) (fun j hj => by omega)
/-- the byte at a place; -1 behind the last -/
def byI (n : Nat) (B : Nat → Int32) (i : Int) : Int := if 0 ≤ i ∧ i < n then (B i.toNat &&& 255).toInt else -1
theorem and255 (x : Int32) : 0 ≤ (x &&& 255).toInt ∧ (x &&& 255).toInt ≤ 255 := by
  have e : (x &&& 255).toBitVec = x.toBitVec &&& 255#32 := rfl
  have h1 : (x &&& 255).toBitVec.toNat ≤ 255 := by
    rw [e, BitVec.toNat_and]; exact Nat.and_le_right
  have h2 : (x &&& 255).toInt = ((x &&& 255).toBitVec.toNat : Int) := by
    show (x &&& 255).toBitVec.toInt = _
    rw [BitVec.toInt_eq_toNat_cond, if_pos (by omega)]
  omega
theorem byI_rng (n : Nat) (B : Nat → Int32) (i : Int) : -1 ≤ byI n B i ∧ byI n B i ≤ 255 := by
  unfold byI
  split
  · have := and255 (B i.toNat); omega
  · omega
theorem byI_iI (x : Int32) : x &&& z_nn 255 0 = iI (x &&& 255).toInt := by
  show x &&& 255 = Int32.ofInt _
  rw [Int32.ofInt_toInt]
def sp_byteAt : Sp := (0, 0, 0, pT, fun as σ K => ∃ (tb B : Nat → Int32) (n : Nat) (i : Int), as = [.ref 0, .int (iI i)] ∧ σ = wT tb (iI n) ∧ n ≤ 400 ∧ ir i ∧ (∀ i, i < n → tb i = B i) ∧ K (some (.int (iI (byI n B i)))) none)
set_option maxRecDepth 20000 in
theorem v_byteAt (l : Launch) : z_V l 70 sp_byteAt := by
  refine z_V.ofP (by decide +kernel) ?_
  rintro as σ K Post ⟨tb, B, n, i, rfl, rfl, hn, ⟨i1, i2⟩, hB, hK⟩ hP1 hP0
  unfold byI at hK
  refine AW.go (bs := b_Tape_byteAt) [] 60 t_Tape_byteAt ?_
  refine And.intro (fun h => ?_) (fun h => ?_)
  · rw [zc_lt0 i1 i2] at h
    rw [if_neg (by omega)] at hK
    exact hP0 _ hK
  · rw [zc_lt0 i1 i2] at h
    refine And.intro (fun h2 => ?_) (fun h2 => ?_)
    · rw [zc_ge i1 i2 (by omega) (by omega)] at h2
      rw [if_neg (by omega)] at hK
      exact hP0 _ hK
    · rw [zc_ge i1 i2 (by omega) (by omega)] at h2
      rw [if_pos (by omega)] at hK
      refine And.intro ((iI_in i1 i2).mpr (by omega)) ?_
      show Post _ _
      rw [iI_cl (by omega) i2, hB _ (by omega), byI_iI]
      exact hP0 _ hK
end
section
/-! the class's own world -/
def wA (f s t f1 s1 t1 f2 s2 t2 tb f3 s3 t3 nu ln sp ls g ta pl : Nat → Int32) (pf ps pt : Nat → Nat → Int32) (fi hz ks tz ra rf rt la lb lc mp mv mk mo my mw ma ml ak dy br ad dp lm rs len : Int32) : List AE := [.inr (.inr (9, [.ref 1, .ref 5, .ref 47, .int ks, .ref 56, .ref 58, .ref 62, .ref 64, .ref 65, .ref 66, .ref 68, .ref 71, .ref 73, .ref 74])),
  .inr (.inr (6, [.ref 2, .ref 3, .ref 4])), .inl (0, 648, f), .inl (0, 6, s), .inl (0, 3, t),
  .inr (.inr (3, [.ref 6, .int fi, .int hz])), .inr (.inl [some 7, some 11, some 15, some 19, some 23, some 27, some 31, some 35, some 39, some 43]),
  .inr (.inr (6, [.ref 8, .ref 9, .ref 10])), .inl (0, 648, (pf 0)), .inl (0, 6, (ps 0)), .inl (0, 3, (pt 0)),
  .inr (.inr (6, [.ref 12, .ref 13, .ref 14])), .inl (0, 648, (pf 1)), .inl (0, 6, (ps 1)), .inl (0, 3, (pt 1)),
  .inr (.inr (6, [.ref 16, .ref 17, .ref 18])), .inl (0, 648, (pf 2)), .inl (0, 6, (ps 2)), .inl (0, 3, (pt 2)),
  .inr (.inr (6, [.ref 20, .ref 21, .ref 22])), .inl (0, 648, (pf 3)), .inl (0, 6, (ps 3)), .inl (0, 3, (pt 3)),
  .inr (.inr (6, [.ref 24, .ref 25, .ref 26])), .inl (0, 648, (pf 4)), .inl (0, 6, (ps 4)), .inl (0, 3, (pt 4)),
  .inr (.inr (6, [.ref 28, .ref 29, .ref 30])), .inl (0, 648, (pf 5)), .inl (0, 6, (ps 5)), .inl (0, 3, (pt 5)),
  .inr (.inr (6, [.ref 32, .ref 33, .ref 34])), .inl (0, 648, (pf 6)), .inl (0, 6, (ps 6)), .inl (0, 3, (pt 6)),
  .inr (.inr (6, [.ref 36, .ref 37, .ref 38])), .inl (0, 648, (pf 7)), .inl (0, 6, (ps 7)), .inl (0, 3, (pt 7)),
  .inr (.inr (6, [.ref 40, .ref 41, .ref 42])), .inl (0, 648, (pf 8)), .inl (0, 6, (ps 8)), .inl (0, 3, (pt 8)),
  .inr (.inr (6, [.ref 44, .ref 45, .ref 46])), .inl (0, 648, (pf 9)), .inl (0, 6, (ps 9)), .inl (0, 3, (pt 9)),
  .inr (.inl [some 48, some 52]),
  .inr (.inr (6, [.ref 49, .ref 50, .ref 51])), .inl (0, 648, f1), .inl (0, 6, s1), .inl (0, 3, t1),
  .inr (.inr (6, [.ref 53, .ref 54, .ref 55])), .inl (0, 648, f2), .inl (0, 6, s2), .inl (0, 3, t2),
  .inr (.inr (7, [.ref 57, .int tz])), .inl (1, 400, tb),
  .inr (.inr (6, [.ref 59, .ref 60, .ref 61])), .inl (0, 648, f3), .inl (0, 6, s3), .inl (0, 3, t3),
  .inr (.inr (4, [.ref 56, .ref 58, .ref 63, .int ra, .int rf, .int rt])), .inl (0, 5, nu),
  .inr (.inr (1, [.int la, .int lb, .int lc])),
  .inr (.inr (2, [.int mp, .int mv, .int mk, .int mo, .int my, .int mw, .int ma, .int ml])),
  .inr (.inr (0, [.ref 1, .ref 67, .int ak, .int dy, .int br, .int ad, .int dp, .int lm, .int rs])), .inl (0, 16, ln),
  .inr (.inr (5, [.ref 1, .ref 66, .ref 69, .ref 70, .int len])), .inl (0, 72, sp), .inl (0, 192, ls),
  .inr (.inr (8, [.ref 72])), .inl (0, 16, g),
  .inl (0, 16, ta), .inl (0, 40, pl)]
def pA : List (Nat × List Nat) := [(0, []), (0, [0]), (0, [0, 0]), (0, [0, 1]), (0, [0, 2]), (0, [1]), (0, [1, 0]), (0, [1, 0, 0]), (0, [1, 0, 0, 0]), (0, [1, 0, 0, 1]), (0, [1, 0, 0, 2]), (0, [1, 0, 1]), (0, [1, 0, 1, 0]), (0, [1, 0, 1, 1]), (0, [1, 0, 1, 2]), (0, [1, 0, 2]), (0, [1, 0, 2, 0]), (0, [1, 0, 2, 1]), (0, [1, 0, 2, 2]), (0, [1, 0, 3]), (0, [1, 0, 3, 0]), (0, [1, 0, 3, 1]), (0, [1, 0, 3, 2]), (0, [1, 0, 4]), (0, [1, 0, 4, 0]), (0, [1, 0, 4, 1]), (0, [1, 0, 4, 2]), (0, [1, 0, 5]), (0, [1, 0, 5, 0]), (0, [1, 0, 5, 1]), (0, [1, 0, 5, 2]), (0, [1, 0, 6]), (0, [1, 0, 6, 0]), (0, [1, 0, 6, 1]), (0, [1, 0, 6, 2]), (0, [1, 0, 7]), (0, [1, 0, 7, 0]), (0, [1, 0, 7, 1]), (0, [1, 0, 7, 2]), (0, [1, 0, 8]), (0, [1, 0, 8, 0]), (0, [1, 0, 8, 1]), (0, [1, 0, 8, 2]), (0, [1, 0, 9]), (0, [1, 0, 9, 0]), (0, [1, 0, 9, 1]), (0, [1, 0, 9, 2]), (0, [2]), (0, [2, 0]), (0, [2, 0, 0]), (0, [2, 0, 1]), (0, [2, 0, 2]), (0, [2, 1]), (0, [2, 1, 0]), (0, [2, 1, 1]), (0, [2, 1, 2]), (0, [4]), (0, [4, 0]), (0, [5]), (0, [5, 0]), (0, [5, 1]), (0, [5, 2]), (0, [6]), (0, [6, 2]), (0, [7]), (0, [8]), (0, [9]), (0, [9, 1]), (0, [10]), (0, [10, 2]), (0, [10, 3]), (0, [11]), (0, [11, 0]), (0, [12]), (0, [13])]
/-! calls within the class's world: the long walk over its places is done once -/
def rhoA : List Nat := [0, 1, 2, 3, 4, 5, 6, 7, 8, 9, 10, 11, 12, 13, 14, 15, 16, 17, 18, 19, 20, 21, 22, 23, 24, 25, 26, 27, 28, 29, 30, 31, 32, 33, 34, 35, 36, 37, 38, 39, 40, 41, 42, 43, 44, 45, 46, 47, 48, 49, 50, 51, 52, 53, 54, 55, 56, 57, 58, 59, 60, 61, 62, 63, 64, 65, 66, 67, 68, 69, 70, 71, 72, 73, 74]
set_option maxRecDepth 20000 in
theorem rhoA_eq (σ : List AE) (as : List Value) (k : List Nat → Prop) (f s t f1 s1 t1 f2 s2 t2 tb f3 s3 t3 nu ln sp ls g ta pl : Nat → Int32) (pf ps pt : Nat → Nat → Int32) (fi hz ks tz ra rf rt la lb lc mp mv mk mo my mw ma ml ak dy br ad dp lm rs len : Int32) : σ = (wA f s t f1 s1 t1 f2 s2 t2 tb f3 s3 t3 nu ln sp ls g ta pl pf ps pt fi hz ks tz ra rf rt la lb lc mp mv mk mo my mw ma ml ak dy br ad dp lm rs len) → z_rho σ (.ref 0 :: as) pA k = k rhoA := by
  rintro rfl
  rfl
theorem okrA : z_okr rhoA 75 = true := by decide +kernel
theorem okrB (L : LC) (as rest : List Value) (f s t f1 s1 t1 f2 s2 t2 tb f3 s3 t3 nu ln sp ls g ta pl : Nat → Int32) (pf ps pt : Nat → Nat → Int32) (fi hz ks tz ra rf rt la lb lc mp mv mk mo my mw ma ml ak dy br ad dp lm rs len : Int32) : (z_okr rhoA (List.length (wA f s t f1 s1 t1 f2 s2 t2 tb f3 s3 t3 nu ln sp ls g ta pl pf ps pt fi hz ks tz ra rf rt la lb lc mp mv mk mo my mw ma ml ak dy br ad dp lm rs len)) && (Nat.blt rhoA.length 1000 && z_okA 0 L as rest (wA f s t f1 s1 t1 f2 s2 t2 tb f3 s3 t3 nu ln sp ls g ta pl pf ps pt fi hz ks tz ra rf rt la lb lc mp mv mk mo my mw ma ml ak dy br ad dp lm rs len))) = true := by
  have e : List.length (wA f s t f1 s1 t1 f2 s2 t2 tb f3 s3 t3 nu ln sp ls g ta pl pf ps pt fi hz ks tz ra rf rt la lb lc mp mv mk mo my mw ma ml ak dy br ad dp lm rs len) = 75 := rfl
  rw [e, okrA]; rfl
set_option maxRecDepth 20000 in
theorem lwA (k : List AE → Prop) (f s t f1 s1 t1 f2 s2 t2 tb f3 s3 t3 nu ln sp ls g ta pl : Nat → Int32) (pf ps pt : Nat → Nat → Int32) (fi hz ks tz ra rf rt la lb lc mp mv mk mo my mw ma ml ak dy br ad dp lm rs len : Int32) : z_lw (wA f s t f1 s1 t1 f2 s2 t2 tb f3 s3 t3 nu ln sp ls g ta pl pf ps pt fi hz ks tz ra rf rt la lb lc mp mv mk mo my mw ma ml ak dy br ad dp lm rs len) rhoA rhoA k = k (wA f s t f1 s1 t1 f2 s2 t2 tb f3 s3 t3 nu ln sp ls g ta pl pf ps pt fi hz ks tz ra rf rt la lb lc mp mv mk mo my mw ma ml ak dy br ad dp lm rs len) := rfl
set_option maxRecDepth 20000 in
theorem wbA (k : List AE → Prop) (σ : List AE) (f s t f1 s1 t1 f2 s2 t2 tb f3 s3 t3 nu ln sp ls g ta pl : Nat → Int32) (pf ps pt : Nat → Nat → Int32) (fi hz ks tz ra rf rt la lb lc mp mv mk mo my mw ma ml ak dy br ad dp lm rs len : Int32) (hσ : ∃ (f_ s_ t_ f1_ s1_ t1_ f2_ s2_ t2_ tb_ f3_ s3_ t3_ nu_ ln_ sp_ ls_ g_ ta_ pl_ : Nat → Int32) (pf_ ps_ pt_ : Nat → Nat → Int32) (fi_ hz_ ks_ tz_ ra_ rf_ rt_ la_ lb_ lc_ mp_ mv_ mk_ mo_ my_ mw_ ma_ ml_ ak_ dy_ br_ ad_ dp_ lm_ rs_ len_ : Int32), σ = (wA f_ s_ t_ f1_ s1_ t1_ f2_ s2_ t2_ tb_ f3_ s3_ t3_ nu_ ln_ sp_ ls_ g_ ta_ pl_ pf_ ps_ pt_ fi_ hz_ ks_ tz_ ra_ rf_ rt_ la_ lb_ lc_ mp_ mv_ mk_ mo_ my_ mw_ ma_ ml_ ak_ dy_ br_ ad_ dp_ lm_ rs_ len_)) : z_wbK (z_fwK rhoA 1000) rhoA σ (wA f s t f1 s1 t1 f2 s2 t2 tb f3 s3 t3 nu ln sp ls g ta pl pf ps pt fi hz ks tz ra rf rt la lb lc mp mv mk mo my mw ma ml ak dy br ad dp lm rs len) k = k (wA f s t f1 s1 t1 f2 s2 t2 tb f3 s3 t3 nu ln sp ls g ta pl pf ps pt fi hz ks tz ra rf rt la lb lc mp mv mk mo my mw ma ml ak dy br ad dp lm rs len) := by
  obtain ⟨f_, s_, t_, f1_, s1_, t1_, f2_, s2_, t2_, tb_, f3_, s3_, t3_, nu_, ln_, sp_, ls_, g_, ta_, pl_, pf_, ps_, pt_, fi_, hz_, ks_, tz_, ra_, rf_, rt_, la_, lb_, lc_, mp_, mv_, mk_, mo_, my_, mw_, ma_, ml_, ak_, dy_, br_, ad_, dp_, lm_, rs_, len_, rfl⟩ := hσ
  rfl
set_option maxRecDepth 20000 in
theorem callA {l : Launch} {rk MC MS j : Nat} {L : LC} {args : List Value} {rest : List Value} {f s t f1 s1 t1 f2 s2 t2 tb f3 s3 t3 nu ln sp ls g ta pl : Nat → Int32} {pf ps pt : Nat → Nat → Int32} {fi hz ks tz ra rf rt la lb lc mp mv mk mo my mw ma ml ak dy br ad dp lm rs len : Int32} {ce sl : Nat} {k : List Value → List AE → Nat → Nat → Prop} {rk0 : Nat} {tr : Tr} (ha : ∀ k, z_vsK (z_ivK rhoA) (.ref 0 :: args) k = k (.ref 0 :: args)) (hv : z_V l j (rk0, 0, 0, pA, tr)) (hr : rk0 < rk) (hb : (Nat.ble (ce + 0) MC && (Nat.ble (sl + 0) MS && Nat.ble (z_cs rest) 8)) = true) (h : tr (.ref 0 :: args) (wA f s t f1 s1 t1 f2 s2 t2 tb f3 s3 t3 nu ln sp ls g ta pl pf ps pt fi hz ks tz ra rf rt la lb lc mp mv mk mo my mw ma ml ak dy br ad dp lm rs len) (z_kk 0 0 1000 rhoA rest (wA f s t f1 s1 t1 f2 s2 t2 tb f3 s3 t3 nu ln sp ls g ta pl pf ps pt fi hz ks tz ra rf rt la lb lc mp mv mk mo my mw ma ml ak dy br ad dp lm rs len) ce sl k)) : z_call l rk MC MS j L (.ref 0 :: args) rest (wA f s t f1 s1 t1 f2 s2 t2 tb f3 s3 t3 nu ln sp ls g ta pl pf ps pt fi hz ks tz ra rf rt la lb lc mp mv mk mo my mw ma ml ak dy br ad dp lm rs len) ce sl k := by
  refine ⟨(rk0, 0, 0, pA, tr), hv, hr, ?_⟩
  split
  · rw [rhoA_eq _ _ _ f s t f1 s1 t1 f2 s2 t2 tb f3 s3 t3 nu ln sp ls g ta pl pf ps pt fi hz ks tz ra rf rt la lb lc mp mv mk mo my mw ma ml ak dy br ad dp lm rs len rfl]
    split
    · rw [lwA]
      rw [ha]
      exact h
    · next he => exact Bool.noConfusion (he.symm.trans (okrB L (.ref 0 :: args) rest f s t f1 s1 t1 f2 s2 t2 tb f3 s3 t3 nu ln sp ls g ta pl pf ps pt fi hz ks tz ra rf rt la lb lc mp mv mk mo my mw ma ml ak dy br ad dp lm rs len))
  · next he => exact Bool.noConfusion (he.symm.trans hb)
/-! behind such a call -/
set_option maxRecDepth 20000 in
theorem kkA0 (x : Int32) (rest : List Value) (σ σl : List AE) (ce sl : Nat) (k : List Value → List AE → Nat → Nat → Prop) : z_kk 0 0 1000 rhoA rest σ ce sl k (some (.int x)) (some σl) = z_wbK (z_fwK rhoA 1000) rhoA σ σl (fun σ => k ((.int x) :: rest) σ ce (sl + 0)) := by
  unfold z_kk z_pushK z_cvK
  rfl
set_option maxRecDepth 20000 in
theorem kkA {rest : List Value} {σ : List AE} {ce sl : Nat} {k : List Value → List AE → Nat → Nat → Prop} {x : Int32} {σ' : List AE} (hσ : ∃ (f s t f1 s1 t1 f2 s2 t2 tb f3 s3 t3 nu ln sp ls g ta pl : Nat → Int32) (pf ps pt : Nat → Nat → Int32) (fi hz ks tz ra rf rt la lb lc mp mv mk mo my mw ma ml ak dy br ad dp lm rs len : Int32), σ = (wA f s t f1 s1 t1 f2 s2 t2 tb f3 s3 t3 nu ln sp ls g ta pl pf ps pt fi hz ks tz ra rf rt la lb lc mp mv mk mo my mw ma ml ak dy br ad dp lm rs len)) (hσ' : ∃ (f s t f1 s1 t1 f2 s2 t2 tb f3 s3 t3 nu ln sp ls g ta pl : Nat → Int32) (pf ps pt : Nat → Nat → Int32) (fi hz ks tz ra rf rt la lb lc mp mv mk mo my mw ma ml ak dy br ad dp lm rs len : Int32), σ' = (wA f s t f1 s1 t1 f2 s2 t2 tb f3 s3 t3 nu ln sp ls g ta pl pf ps pt fi hz ks tz ra rf rt la lb lc mp mv mk mo my mw ma ml ak dy br ad dp lm rs len)) (h : k ((.int x) :: rest) σ' ce sl) : z_kk 0 0 1000 rhoA rest σ ce sl k (some (.int x)) (some σ') := by
  obtain ⟨f, s, t, f1, s1, t1, f2, s2, t2, tb, f3, s3, t3, nu, ln, sp, ls, g, ta, pl, pf, ps, pt, fi, hz, ks, tz, ra, rf, rt, la, lb, lc, mp, mv, mk, mo, my, mw, ma, ml, ak, dy, br, ad, dp, lm, rs, len, rfl⟩ := hσ'
  rw [kkA0, wbA _ σ f s t f1 s1 t1 f2 s2 t2 tb f3 s3 t3 nu ln sp ls g ta pl pf ps pt fi hz ks tz ra rf rt la lb lc mp mv mk mo my mw ma ml ak dy br ad dp lm rs len hσ]
  exact h
set_option maxRecDepth 20000 in
theorem kkL0 (x : Int64) (rest : List Value) (σ σl : List AE) (ce sl : Nat) (k : List Value → List AE → Nat → Nat → Prop) : z_kk 0 0 1000 rhoA rest σ ce sl k (some (.long x)) (some σl) = z_wbK (z_fwK rhoA 1000) rhoA σ σl (fun σ => k ((.long x) :: rest) σ ce (sl + 0)) := by
  unfold z_kk z_pushK z_cvK
  rfl
set_option maxRecDepth 20000 in
theorem kkL {rest : List Value} {σ : List AE} {ce sl : Nat} {k : List Value → List AE → Nat → Nat → Prop} {x : Int64} {σ' : List AE} (hσ : ∃ (f s t f1 s1 t1 f2 s2 t2 tb f3 s3 t3 nu ln sp ls g ta pl : Nat → Int32) (pf ps pt : Nat → Nat → Int32) (fi hz ks tz ra rf rt la lb lc mp mv mk mo my mw ma ml ak dy br ad dp lm rs len : Int32), σ = (wA f s t f1 s1 t1 f2 s2 t2 tb f3 s3 t3 nu ln sp ls g ta pl pf ps pt fi hz ks tz ra rf rt la lb lc mp mv mk mo my mw ma ml ak dy br ad dp lm rs len)) (hσ' : ∃ (f s t f1 s1 t1 f2 s2 t2 tb f3 s3 t3 nu ln sp ls g ta pl : Nat → Int32) (pf ps pt : Nat → Nat → Int32) (fi hz ks tz ra rf rt la lb lc mp mv mk mo my mw ma ml ak dy br ad dp lm rs len : Int32), σ' = (wA f s t f1 s1 t1 f2 s2 t2 tb f3 s3 t3 nu ln sp ls g ta pl pf ps pt fi hz ks tz ra rf rt la lb lc mp mv mk mo my mw ma ml ak dy br ad dp lm rs len)) (h : k ((.long x) :: rest) σ' ce sl) : z_kk 0 0 1000 rhoA rest σ ce sl k (some (.long x)) (some σ') := by
  obtain ⟨f, s, t, f1, s1, t1, f2, s2, t2, tb, f3, s3, t3, nu, ln, sp, ls, g, ta, pl, pf, ps, pt, fi, hz, ks, tz, ra, rf, rt, la, lb, lc, mp, mv, mk, mo, my, mw, ma, ml, ak, dy, br, ad, dp, lm, rs, len, rfl⟩ := hσ'
  rw [kkL0, wbA _ σ f s t f1 s1 t1 f2 s2 t2 tb f3 s3 t3 nu ln sp ls g ta pl pf ps pt fi hz ks tz ra rf rt la lb lc mp mv mk mo my mw ma ml ak dy br ad dp lm rs len hσ]
  exact h
set_option maxRecDepth 20000 in
theorem kkR0 (rest : List Value) (σ σl : List AE) (ce sl : Nat) (k : List Value → List AE → Nat → Nat → Prop) : z_kk 0 0 1000 rhoA rest σ ce sl k (some (.ref 65)) (some σl) = z_wbK (z_fwK rhoA 1000) rhoA σ σl (fun σ => k (.ref 65 :: rest) σ ce (sl + 0)) := by
  unfold z_kk z_pushK z_cvK
  rfl
set_option maxRecDepth 20000 in
theorem kkR {rest : List Value} {σ : List AE} {ce sl : Nat} {k : List Value → List AE → Nat → Nat → Prop} {σ' : List AE} (hσ : ∃ (f s t f1 s1 t1 f2 s2 t2 tb f3 s3 t3 nu ln sp ls g ta pl : Nat → Int32) (pf ps pt : Nat → Nat → Int32) (fi hz ks tz ra rf rt la lb lc mp mv mk mo my mw ma ml ak dy br ad dp lm rs len : Int32), σ = (wA f s t f1 s1 t1 f2 s2 t2 tb f3 s3 t3 nu ln sp ls g ta pl pf ps pt fi hz ks tz ra rf rt la lb lc mp mv mk mo my mw ma ml ak dy br ad dp lm rs len)) (hσ' : ∃ (f s t f1 s1 t1 f2 s2 t2 tb f3 s3 t3 nu ln sp ls g ta pl : Nat → Int32) (pf ps pt : Nat → Nat → Int32) (fi hz ks tz ra rf rt la lb lc mp mv mk mo my mw ma ml ak dy br ad dp lm rs len : Int32), σ' = (wA f s t f1 s1 t1 f2 s2 t2 tb f3 s3 t3 nu ln sp ls g ta pl pf ps pt fi hz ks tz ra rf rt la lb lc mp mv mk mo my mw ma ml ak dy br ad dp lm rs len)) (h : k ((.ref 65) :: rest) σ' ce sl) : z_kk 0 0 1000 rhoA rest σ ce sl k (some (.ref 65)) (some σ') := by
  obtain ⟨f, s, t, f1, s1, t1, f2, s2, t2, tb, f3, s3, t3, nu, ln, sp, ls, g, ta, pl, pf, ps, pt, fi, hz, ks, tz, ra, rf, rt, la, lb, lc, mp, mv, mk, mo, my, mw, ma, ml, ak, dy, br, ad, dp, lm, rs, len, rfl⟩ := hσ'
  rw [kkR0, wbA _ σ f s t f1 s1 t1 f2 s2 t2 tb f3 s3 t3 nu ln sp ls g ta pl pf ps pt fi hz ks tz ra rf rt la lb lc mp mv mk mo my mw ma ml ak dy br ad dp lm rs len hσ]
  exact h
set_option maxRecDepth 20000 in
theorem kkV0 (rest : List Value) (σ σl : List AE) (ce sl : Nat) (k : List Value → List AE → Nat → Nat → Prop) : z_kk 0 0 1000 rhoA rest σ ce sl k none (some σl) = z_wbK (z_fwK rhoA 1000) rhoA σ σl (fun σ => k rest σ ce (sl + 0)) := by
  unfold z_kk z_pushK
  rfl
set_option maxRecDepth 20000 in
theorem kkV {rest : List Value} {σ : List AE} {ce sl : Nat} {k : List Value → List AE → Nat → Nat → Prop} {σ' : List AE} (hσ : ∃ (f s t f1 s1 t1 f2 s2 t2 tb f3 s3 t3 nu ln sp ls g ta pl : Nat → Int32) (pf ps pt : Nat → Nat → Int32) (fi hz ks tz ra rf rt la lb lc mp mv mk mo my mw ma ml ak dy br ad dp lm rs len : Int32), σ = (wA f s t f1 s1 t1 f2 s2 t2 tb f3 s3 t3 nu ln sp ls g ta pl pf ps pt fi hz ks tz ra rf rt la lb lc mp mv mk mo my mw ma ml ak dy br ad dp lm rs len)) (hσ' : ∃ (f s t f1 s1 t1 f2 s2 t2 tb f3 s3 t3 nu ln sp ls g ta pl : Nat → Int32) (pf ps pt : Nat → Nat → Int32) (fi hz ks tz ra rf rt la lb lc mp mv mk mo my mw ma ml ak dy br ad dp lm rs len : Int32), σ' = (wA f s t f1 s1 t1 f2 s2 t2 tb f3 s3 t3 nu ln sp ls g ta pl pf ps pt fi hz ks tz ra rf rt la lb lc mp mv mk mo my mw ma ml ak dy br ad dp lm rs len)) (h : k rest σ' ce sl) : z_kk 0 0 1000 rhoA rest σ ce sl k none (some σ') := by
  obtain ⟨f, s, t, f1, s1, t1, f2, s2, t2, tb, f3, s3, t3, nu, ln, sp, ls, g, ta, pl, pf, ps, pt, fi, hz, ks, tz, ra, rf, rt, la, lb, lc, mp, mv, mk, mo, my, mw, ma, ml, ak, dy, br, ad, dp, lm, rs, len, rfl⟩ := hσ'
  rw [kkV0, wbA _ σ f s t f1 s1 t1 f2 s2 t2 tb f3 s3 t3 nu ln sp ls g ta pl pf ps pt fi hz ks tz ra rf rt la lb lc mp mv mk mo my mw ma ml ak dy br ad dp lm rs len hσ]
  exact h
set_option maxRecDepth 20000 in
theorem isW {f s t f1 s1 t1 f2 s2 t2 tb f3 s3 t3 nu ln sp ls g ta pl : Nat → Int32} {pf ps pt : Nat → Nat → Int32} {fi hz ks tz ra rf rt la lb lc mp mv mk mo my mw ma ml ak dy br ad dp lm rs len : Int32} : ∃ (f_ s_ t_ f1_ s1_ t1_ f2_ s2_ t2_ tb_ f3_ s3_ t3_ nu_ ln_ sp_ ls_ g_ ta_ pl_ : Nat → Int32) (pf_ ps_ pt_ : Nat → Nat → Int32) (fi_ hz_ ks_ tz_ ra_ rf_ rt_ la_ lb_ lc_ mp_ mv_ mk_ mo_ my_ mw_ ma_ ml_ ak_ dy_ br_ ad_ dp_ lm_ rs_ len_ : Int32), (wA f s t f1 s1 t1 f2 s2 t2 tb f3 s3 t3 nu ln sp ls g ta pl pf ps pt fi hz ks tz ra rf rt la lb lc mp mv mk mo my mw ma ml ak dy br ad dp lm rs len) = (wA f_ s_ t_ f1_ s1_ t1_ f2_ s2_ t2_ tb_ f3_ s3_ t3_ nu_ ln_ sp_ ls_ g_ ta_ pl_ pf_ ps_ pt_ fi_ hz_ ks_ tz_ ra_ rf_ rt_ la_ lb_ lc_ mp_ mv_ mk_ mo_ my_ mw_ ma_ ml_ ak_ dy_ br_ ad_ dp_ lm_ rs_ len_) := ⟨_, _, _, _, _, _, _, _, _, _, _, _, _, _, _, _, _, _, _, _, _, _, _, _, _, _, _, _, _, _, _, _, _, _, _, _, _, _, _, _, _, _, _, _, _, _, _, _, _, rfl⟩
/-- what a run of calls leaves: the order with its requests, those before, the shelves, the tape -/
abbrev St : Type := Od × List Od × (Option Od × Option Od) × (Nat × (Nat → Int32))
def kmask (k : Option Od × Option Od) : Nat := (if k.1.isSome then 1 else 0) + (if k.2.isSome then 2 else 0)
def OKS (S : St) : Prop := OKM S.1 ∧ (∀ M ∈ S.2.1, OKM M) ∧ S.2.1.length ≤ 10 ∧ (∀ M, S.2.2.1.1 = some M → OKM M) ∧ (∀ M, S.2.2.1.2 = some M → OKM M) ∧ S.2.2.2.1 ≤ 400
def AR (S : St) (f s t f1 s1 t1 f2 s2 t2 tb : Nat → Int32) (pf ps pt : Nat → Nat → Int32) (fi hz ks tz : Int32) : Prop :=
  RS f s t S.1 ∧ (∃ q : Nat, fi = iI q ∧ PR pf ps pt q S.2.1) ∧ hz = iI S.2.1.length ∧ ks = iI (kmask S.2.2.1 : Nat) ∧ (∀ M, S.2.2.1.1 = some M → RS f1 s1 t1 M) ∧ (∀ M, S.2.2.1.2 = some M → RS f2 s2 t2 M) ∧ tz = iI S.2.2.2.1 ∧ ∀ i, i < S.2.2.2.1 → tb i = S.2.2.2.2 i
def isA (S : St) (σ : List AE) : Prop := OKS S ∧ ∃ (f s t f1 s1 t1 f2 s2 t2 tb f3 s3 t3 nu ln sp ls g ta pl : Nat → Int32) (pf ps pt : Nat → Nat → Int32) (fi hz ks tz ra rf rt la lb lc mp mv mk mo my mw ma ml ak dy br ad dp lm rs len : Int32), σ = (wA f s t f1 s1 t1 f2 s2 t2 tb f3 s3 t3 nu ln sp ls g ta pl pf ps pt fi hz ks tz ra rf rt la lb lc mp mv mk mo my mw ma ml ak dy br ad dp lm rs len) ∧ AR S f s t f1 s1 t1 f2 s2 t2 tb pf ps pt fi hz ks tz
theorem isA.w {S : St} {σ : List AE} (h : isA S σ) : ∃ (f s t f1 s1 t1 f2 s2 t2 tb f3 s3 t3 nu ln sp ls g ta pl : Nat → Int32) (pf ps pt : Nat → Nat → Int32) (fi hz ks tz ra rf rt la lb lc mp mv mk mo my mw ma ml ak dy br ad dp lm rs len : Int32), σ = (wA f s t f1 s1 t1 f2 s2 t2 tb f3 s3 t3 nu ln sp ls g ta pl pf ps pt fi hz ks tz ra rf rt la lb lc mp mv mk mo my mw ma ml ak dy br ad dp lm rs len) := by
  obtain ⟨_, f, s, t, f1, s1, t1, f2, s2, t2, tb, f3, s3, t3, nu, ln, sp, ls, g, ta, pl, pf, ps, pt, fi, hz, ks, tz, ra, rf, rt, la, lb, lc, mp, mv, mk, mo, my, mw, ma, ml, ak, dy, br, ad, dp, lm, rs, len, h, _⟩ := h
  exact ⟨_, _, _, _, _, _, _, _, _, _, _, _, _, _, _, _, _, _, _, _, _, _, _, _, _, _, _, _, _, _, _, _, _, _, _, _, _, _, _, _, _, _, _, _, _, _, _, _, _, h⟩
theorem isA.mk {S : St} {f s t f1 s1 t1 f2 s2 t2 tb f3 s3 t3 nu ln sp ls g ta pl : Nat → Int32} {pf ps pt : Nat → Nat → Int32} {fi hz ks tz ra rf rt la lb lc mp mv mk mo my mw ma ml ak dy br ad dp lm rs len : Int32} (h1 : OKS S) (h2 : AR S f s t f1 s1 t1 f2 s2 t2 tb pf ps pt fi hz ks tz) : isA S (wA f s t f1 s1 t1 f2 s2 t2 tb f3 s3 t3 nu ln sp ls g ta pl pf ps pt fi hz ks tz ra rf rt la lb lc mp mv mk mo my mw ma ml ak dy br ad dp lm rs len) := ⟨h1, _, _, _, _, _, _, _, _, _, _, _, _, _, _, _, _, _, _, _, _, _, _, _, _, _, _, _, _, _, _, _, _, _, _, _, _, _, _, _, _, _, _, _, _, _, _, _, _, _, rfl, h2⟩
/-- a contract of the class: answer and next state -/
def spA (rk : Nat) (P : St → List Value → (Option Value → St → Prop) → Prop) : Sp := (rk, 0, 0, pA, fun as σ K => ∃ S, isA S σ ∧ P S as (fun r S' => ∀ σ', isA S' σ' → K r (some σ')))
def mtR (M : Od) (r : Nat) : Mt := (M.2.1 5 r 0, M.2.1 5 r 2, M.2.1 5 r 3, -1, -1)
theorem mtR_ok {M : Od} (hO : OKM M) {r : Nat} (hr : r < M.1 5) : mOK (mtR M r) := by
  have h := hO.2.2.2.2.2.1 r hr
  unfold mOK ir mtR mP mV mK mA mL
  refine ⟨⟨?_, ?_⟩, ⟨?_, ?_⟩, ?_, ?_, ⟨?_, ?_⟩, ⟨?_, ?_⟩⟩ <;> (try simp only []) <;> omega
/-- the whole of a request, were it asked on a day -/
noncomputable def whF (M : Od) (r : Nat) (y : Int) : Int := M.2.1 5 r 4 + amt M (jm M r y) (M.1 5)
theorem jm62 {M : Od} (hO : OKM M) {r : Nat} (hr : r < M.1 5) (y : Int) : jm M r y < 2 ^ 62 := by
  have h5 := hO.2.2.2.2.2.2.2.2.2 5 (by omega)
  rw [x_5] at h5
  exact Nat.lt_of_lt_of_le (jm_lt M r y) (Nat.pow_le_pow_right (by decide) (by omega))
theorem whF_rng {M : Od} (hO : OKM M) {r : Nat} (hr : r < M.1 5) (y : Int) : 1 ≤ whF M r y ∧ whF M r y ≤ 500000 := by
  have h5 := hO.2.2.2.2.2.2.2.2.2 5 (by omega)
  rw [x_5] at h5
  have h := hO.2.2.2.2.2.1 r hr
  have := amt_rng hO (jm M r y) (n := M.1 5) (Nat.le_refl _)
  unfold whF
  omega
def sp_wholeOn : Sp := (3, 0, 0, pA, fun as σ K => ∃ (f s t f1 s1 t1 f2 s2 t2 tb f3 s3 t3 nu ln sp ls g ta pl : Nat → Int32) (pf ps pt : Nat → Nat → Int32) (fi hz ks tz ra rf rt la lb lc mp mv mk mo my mw ma ml ak dy br ad dp lm rs len : Int32) (M : Od) (r : Nat) (y : Int), as = [.ref 0, .int (iI r), .int (iI y)] ∧ σ = (wA f s t f1 s1 t1 f2 s2 t2 tb f3 s3 t3 nu ln sp ls g ta pl pf ps pt fi hz ks tz ra rf rt la lb lc mp mv mk mo my mw ma ml ak dy br ad dp lm rs len) ∧ RS f s t M ∧ OKM M ∧ r < M.1 5 ∧ 0 ≤ y ∧ y ≤ 999 ∧ K (some (.int (iI (whF M r y)))) none)
set_option maxRecDepth 20000 in
theorem v_wholeOn (l : Launch) : z_V l 134 sp_wholeOn := by
  refine z_V.ofP (by decide +kernel) ?_
  rintro as σ K Post ⟨f, s, t, f1, s1, t1, f2, s2, t2, tb, f3, s3, t3, nu, ln, sp, ls, g, ta, pl, pf, ps, pt, fi, hz, ks, tz, ra, rf, rt, la, lb, lc, mp, mv, mk, mo, my, mw, ma, ml, ak, dy, br, ad, dp, lm, rs, len, M, r, y, rfl, rfl, hR, hO, hr, y0, y1, hK⟩ hP1 hP0
  refine AW.go (bs := b_Appr_wholeOn) [] 60 t_Appr_wholeOn ?_
  refine ⟨_, v_cell l, by decide, f, s, t, rfl, M, 5, r, 4, rfl, hR, by omega, hr, by decide, ?_⟩
  refine ⟨_, v_joinedBits l, by decide, f, s, t, rfl, M, r, y, rfl, hR, hO, hr, y0, y1, ?_⟩
  refine ⟨_, v_amountOf l, by decide, f, s, t, rfl, M, jm M r y, rfl, hR, hO, jm62 hO hr y, ?_⟩
  show Post _ _
  rw [iI_add]
  exact hP0 _ hK
def sp_matterOf : Sp := (4, 0, 0, pA, fun as σ K => ∃ (f s t f1 s1 t1 f2 s2 t2 tb f3 s3 t3 nu ln sp ls g ta pl : Nat → Int32) (pf ps pt : Nat → Nat → Int32) (fi hz ks tz ra rf rt la lb lc mp mv mk mo my mw ma ml ak dy br ad dp lm rs len : Int32) (M : Od) (r : Nat), as = [.ref 0, .int (iI r)] ∧ σ = (wA f s t f1 s1 t1 f2 s2 t2 tb f3 s3 t3 nu ln sp ls g ta pl pf ps pt fi hz ks tz ra rf rt la lb lc mp mv mk mo my mw ma ml ak dy br ad dp lm rs len) ∧ RS f s t M ∧ OKM M ∧ r < M.1 5 ∧ K (some (.ref 65)) (some (wA f s t f1 s1 t1 f2 s2 t2 tb f3 s3 t3 nu ln sp ls g ta pl pf ps pt fi hz ks tz ra rf rt la lb lc (iI (M.2.1 5 r 0)) (iI (M.2.1 5 r 2)) (iI (M.2.1 5 r 3)) (iI (M.2.1 5 r 1)) (iI (M.2.1 5 r 5)) (iI (whF M r (M.2.1 5 r 5))) (iI (-1)) (iI (-1)) ak dy br ad dp lm rs len)))
set_option maxRecDepth 20000 in
theorem v_matterOf (l : Launch) : z_V l 135 sp_matterOf := by
  refine z_V.ofP (by decide +kernel) ?_
  rintro as σ K Post ⟨f, s, t, f1, s1, t1, f2, s2, t2, tb, f3, s3, t3, nu, ln, sp, ls, g, ta, pl, pf, ps, pt, fi, hz, ks, tz, ra, rf, rt, la, lb, lc, mp, mv, mk, mo, my, mw, ma, ml, ak, dy, br, ad, dp, lm, rs, len, M, r, rfl, rfl, hR, hO, hr, hK⟩ hP1 hP0
  have hc := hO.2.2.2.2.2.1 r hr
  refine AW.go (bs := b_Appr_matterOf) [] 60 t_Appr_matterOf ?_
  refine ⟨_, v_cell l, by decide, f, s, t, rfl, M, 5, r, 0, rfl, hR, by omega, hr, by decide, ?_⟩
  refine ⟨_, v_cell l, by decide, f, s, t, rfl, M, 5, r, 2, rfl, hR, by omega, hr, by decide, ?_⟩
  refine ⟨_, v_cell l, by decide, f, s, t, rfl, M, 5, r, 3, rfl, hR, by omega, hr, by decide, ?_⟩
  refine ⟨_, v_begin l, by decide, mp, mv, mk, mo, my, mw, ma, ml, _, _, _, rfl, rfl, ?_⟩
  refine ⟨_, v_cell l, by decide, f, s, t, rfl, M, 5, r, 1, rfl, hR, by omega, hr, by decide, ?_⟩
  refine ⟨_, v_cell l, by decide, f, s, t, rfl, M, 5, r, 5, rfl, hR, by omega, hr, by decide, ?_⟩
  show ∃ sp : Sp, _
  refine callA (fun _ => rfl) (v_wholeOn l) (by decide) rfl ⟨_, _, _, _, _, _, _, _, _, _, _, _, _, _, _, _, _, _, _, _, _, _, _, _, _, _, _, _, _, _, _, _, _, _, _, _, _, _, _, _, _, _, _, _, _, _, _, _, _, M, r, M.2.1 5 r 5, rfl, rfl, hR, hO, hr, by omega, by omega, ?_⟩
  exact hP1 _ _ hK
/-- the route of a request, its whole -/
noncomputable def wq (M : Od) (r : Nat) : Int := whF M r (M.2.1 5 r 5)
noncomputable def rq (M : Od) (r : Nat) : List SE := routeF M (mtR M r) (wq M r) 12 (M.2.1 5 r 1) (M.2.1 5 r 5)
end
section
/-! the numbers stay as the document has them -/
def rowOK (P d k : Nat) (r : Nat → Int) : Prop := match d with
  | 0 => 0 ≤ r 0 ∧ r 0 < P ∧ 0 ≤ r 1 ∧ r 1 < 16 ∧ 0 ≤ r 2 ∧ r 2 ≤ r 3 ∧ r 3 ≤ 999
  | 1 => 0 ≤ r 0 ∧ r 0 < 16 ∧ 0 ≤ r 1 ∧ r 1 ≤ r 2 ∧ r 2 ≤ 999
  | 2 => 0 ≤ r 0 ∧ r 0 < 16 ∧ 0 ≤ r 1 ∧ r 1 < 16 ∧ r 0 ≠ r 1 ∧ 0 ≤ r 2 ∧ r 2 ≤ r 3 ∧ r 3 ≤ 999 ∧ 0 ≤ r 4 ∧ r 4 ≤ 9999
  | 3 => 0 ≤ r 0 ∧ r 0 < 16 ∧ 0 ≤ r 1 ∧ r 1 < 10
  | 4 => (r 0 = -2 ∨ (0 ≤ r 0 ∧ r 0 < k)) ∧ ∀ c, 1 ≤ c → c < 4 → 0 ≤ r c ∧ r c ≤ 9999
  | _ => 0 ≤ r 0 ∧ r 0 < 16 ∧ 0 ≤ r 1 ∧ r 1 < P ∧ 0 ≤ r 2 ∧ r 2 < 10 ∧ 0 ≤ r 3 ∧ r 3 < 3 ∧ 1 ≤ r 4 ∧ r 4 ≤ 9999 ∧ 0 ≤ r 5 ∧ r 5 ≤ 999 ∧ (r 6 = -2 ∨ (0 ≤ r 6 ∧ r 6 ≤ 999))
theorem OKM_iff (M : Od) : OKM M ↔ (∀ d k, d < 6 → k < M.1 d → rowOK (M.1 4) d k (M.2.1 d k)) ∧ M.2.2 0 ≤ 99 ∧ M.2.2 1 ≤ 9 ∧ M.2.2 2 ≤ 30 ∧ ∀ d, d < 6 → M.1 d ≤ oX d := by
  constructor
  · rintro ⟨h0, h1, h2, h3, h4, h5, h6, h7, h8, h9⟩
    refine ⟨fun d k hd hk => ?_, h6, h7, h8, h9⟩
    rcases d6 hd with rfl | rfl | rfl | rfl | rfl | rfl
    · exact h0 k hk
    · exact h1 k hk
    · exact h2 k hk
    · exact h3 k hk
    · exact h4 k hk
    · exact h5 k hk
  · rintro ⟨h, h6, h7, h8, h9⟩
    exact ⟨fun k hk => h 0 k (by omega) hk, fun k hk => h 1 k (by omega) hk, fun k hk => h 2 k (by omega) hk, fun k hk => h 3 k (by omega) hk, fun k hk => h 4 k (by omega) hk, fun k hk => h 5 k (by omega) hk, h6, h7, h8, h9⟩
theorem rowOK.mono {P P' d k : Nat} {r : Nat → Int} (hd : d < 6) (h : rowOK P d k r) (hp : P ≤ P') : rowOK P' d k r := by
  rcases d6 hd with rfl | rfl | rfl | rfl | rfl | rfl <;> simp only [rowOK] at h ⊢ <;> first | omega | exact h
theorem rowOK.shift {P d k k' : Nat} {r : Nat → Int} (hd : d < 6) (h4 : d ≠ 4) (h : rowOK P d k r) : rowOK P d k' r := by
  rcases d6 hd with rfl | rfl | rfl | rfl | rfl | rfl <;> first | exact h | exact absurd rfl h4
theorem rowOK.cong {P d k : Nat} {r r' : Nat → Int} (hd : d < 6) (h : rowOK P d k r) (e : ∀ c, c < oW d → r' c = r c) : rowOK P d k r' := by
  rcases d6 hd with rfl | rfl | rfl | rfl | rfl | rfl <;> simp only [w_0, w_1, w_2, w_3, w_4, w_5] at e <;> simp only [rowOK] at h ⊢
  · rw [e 0 (by omega), e 1 (by omega), e 2 (by omega), e 3 (by omega)]; exact h
  · rw [e 0 (by omega), e 1 (by omega), e 2 (by omega)]; exact h
  · rw [e 0 (by omega), e 1 (by omega), e 2 (by omega), e 3 (by omega), e 4 (by omega)]; exact h
  · rw [e 0 (by omega), e 1 (by omega)]; exact h
  · rw [e 0 (by omega)]; exact ⟨h.1, fun c h1 h2 => by rw [e c h2]; exact h.2 c h1 h2⟩
  · rw [e 0 (by omega), e 1 (by omega), e 2 (by omega), e 3 (by omega), e 4 (by omega), e 5 (by omega), e 6 (by omega)]; exact h
theorem oAdd_ok {M : Od} (hO : OKM M) {d : Nat} (hd : d < 6) (hn : M.1 d < oX d) {row : Nat → Int} (hr : rowOK (M.1 4) d (M.1 d) row) : OKM (oAdd M d row) := by
  rw [OKM_iff] at hO ⊢
  obtain ⟨h, h6, h7, h8, h9⟩ := hO
  have hP : M.1 4 ≤ (oAdd M d row).1 4 := by
    show M.1 4 ≤ if 4 = d then M.1 4 + 1 else M.1 4
    split <;> omega
  refine ⟨fun x k hx hk => ?_, h6, h7, h8, fun x hx => ?_⟩
  · replace hk : k < (if x = d then M.1 x + 1 else M.1 x) := hk
    by_cases e : x = d ∧ k = M.1 d
    · obtain ⟨rfl, rfl⟩ := e
      have e2 : (oAdd M x row).2.1 x (M.1 x) = row := by
        funext c
        show (if x = x ∧ M.1 x = M.1 x then row c else _) = _
        rw [if_pos ⟨rfl, rfl⟩]
      rw [e2]
      exact hr.mono hd hP
    · have hk' : k < M.1 x := by
        by_cases e1 : x = d
        · rw [if_pos e1] at hk
          subst e1
          have : ¬ k = M.1 x := fun q => e ⟨rfl, q⟩
          omega
        · rw [if_neg e1] at hk; exact hk
      have e2 : (oAdd M d row).2.1 x k = M.2.1 x k := by
        funext c
        show (if x = d ∧ k = M.1 d then row c else M.2.1 x k c) = _
        rw [if_neg e]
      rw [e2]
      exact (h x k hx hk').mono hx hP
  · show (if x = d then M.1 x + 1 else M.1 x) ≤ oX x
    have := h9 x hx
    split
    · next e => subst e; omega
    · exact this
theorem oDel_ok {M : Od} (hO : OKM M) {d k : Nat} (hd : d < 4) (hk : k < M.1 d) : OKM (oDel M d k) := by
  rw [OKM_iff] at hO ⊢
  obtain ⟨h, h6, h7, h8, h9⟩ := hO
  have hP : (oDel M d k).1 4 = M.1 4 := by
    show (if 4 = d then M.1 4 - 1 else M.1 4) = M.1 4
    rw [if_neg (by omega)]
  rw [hP]
  refine ⟨fun x i hx hi => ?_, h6, h7, h8, fun x hx => ?_⟩
  · replace hi : i < (if x = d then M.1 x - 1 else M.1 x) := hi
    by_cases e : x = d ∧ k ≤ i
    · have e2 : (oDel M d k).2.1 x i = M.2.1 x (i + 1) := by
        funext c
        show (if x = d ∧ k ≤ i then M.2.1 x (i + 1) c else M.2.1 x i c) = _
        rw [if_pos e]
      rw [e2]
      rw [if_pos e.1] at hi
      exact (h x (i + 1) hx (by omega)).shift hx (by omega)
    · have e2 : (oDel M d k).2.1 x i = M.2.1 x i := by
        funext c
        show (if x = d ∧ k ≤ i then M.2.1 x (i + 1) c else M.2.1 x i c) = _
        rw [if_neg e]
      rw [e2]
      exact h x i hx (by split at hi <;> omega)
  · show (if x = d then M.1 x - 1 else M.1 x) ≤ oX x
    have := h9 x hx
    split <;> omega
theorem oPut_ok {M : Od} (hO : OKM M) {d k c : Nat} {v : Int} (hr : rowOK (M.1 4) d k (fun y => if y = c then v else M.2.1 d k y)) : OKM (oPut M d k c v) := by
  rw [OKM_iff] at hO ⊢
  obtain ⟨h, h6, h7, h8, h9⟩ := hO
  refine ⟨fun x i hx hi => ?_, h6, h7, h8, h9⟩
  by_cases e : x = d ∧ i = k
  · obtain ⟨rfl, rfl⟩ := e
    have e2 : (oPut M x i c v).2.1 x i = fun y => if y = c then v else M.2.1 x i y := by
      funext y
      show (if x = x ∧ i = i ∧ y = c then v else M.2.1 x i y) = _
      by_cases q : y = c
      · rw [if_pos ⟨rfl, rfl, q⟩, if_pos q]
      · rw [if_neg (fun z => q z.2.2), if_neg q]
    rw [e2]
    exact hr
  · have e2 : (oPut M d k c v).2.1 x i = M.2.1 x i := by
      funext y
      show (if x = d ∧ i = k ∧ y = c then v else M.2.1 x i y) = _
      rw [if_neg (fun z => e ⟨z.1, z.2.1⟩)]
    rw [e2]
    exact h x i hx hi
theorem oSet_ok {M : Od} (hO : OKM M) {w v : Nat} (hv : (w = 0 → v ≤ 99) ∧ (w = 1 → v ≤ 9) ∧ (w = 2 → v ≤ 30)) : OKM (oSet M w v) := by
  rw [OKM_iff] at hO ⊢
  obtain ⟨h, h6, h7, h8, h9⟩ := hO
  refine ⟨h, ?_, ?_, ?_, h9⟩
  · show (if 0 = w then v else M.2.2 0) ≤ 99
    split
    · next e => exact hv.1 e.symm
    · exact h6
  · show (if 1 = w then v else M.2.2 1) ≤ 9
    split
    · next e => exact hv.2.1 e.symm
    · exact h7
  · show (if 2 = w then v else M.2.2 2) ≤ 30
    split
    · next e => exact hv.2.2 e.symm
    · exact h8
theorem oNew_ok : OKM oNew := by
  rw [OKM_iff]
  exact ⟨fun d k _ hk => absurd hk (Nat.not_lt_zero k), by decide, by decide, by decide, fun d _ => Nat.zero_le _⟩
/-- an act: the order before it is kept -/
def act (S : St) (M : Od) : St := (M, hisA S.2.1 S.1, S.2.2)
theorem hisA_len {H : List Od} (h : H.length ≤ 10) (M : Od) : (hisA H M).length ≤ 10 := by
  unfold hisA
  split <;> simp <;> omega
theorem act_ok {S : St} (h : OKS S) {M : Od} (hM : OKM M) : OKS (act S M) := by
  obtain ⟨h1, h2, h3, h4⟩ := h
  refine ⟨hM, fun M' hM' => ?_, hisA_len h3 _, h4⟩
  replace hM' : M' ∈ hisA S.2.1 S.1 := hM'
  unfold hisA at hM'
  rw [List.mem_append, List.mem_singleton] at hM'
  rcases hM' with q | q
  · split at q
    · exact h2 M' (List.mem_of_mem_drop q)
    · exact h2 M' q
  · rw [q]; exact h1
end
section
/-! the acts -/
theorem AR.act {S : St} {M' : Od} {f s t f1 s1 t1 f2 s2 t2 tb : Nat → Int32} {pf ps pt : Nat → Nat → Int32} {fi hz ks tz : Int32} (h : AR S f s t f1 s1 t1 f2 s2 t2 tb pf ps pt fi hz ks tz) {f' s' t' : Nat → Int32} {pf' ps' pt' : Nat → Nat → Int32} {q : Nat} (h1 : RS f' s' t' M') (h2 : PR pf' ps' pt' q (hisA S.2.1 S.1)) : AR (act S M') f' s' t' f1 s1 t1 f2 s2 t2 tb pf' ps' pt' (iI q) (iI (hisA S.2.1 S.1).length) ks tz :=
  ⟨h1, ⟨q, rfl, h2⟩, rfl, h.2.2.2⟩
def f_request (S : St) (p o q a y : Int) : Int × St := if 0 ≤ p ∧ p ≤ 15 ∧ 0 ≤ o ∧ o < S.1.1 4 ∧ 0 ≤ q ∧ q ≤ 29 ∧ 1 ≤ a ∧ a ≤ 9999 ∧ 0 ≤ y ∧ y ≤ 999 then (if S.1.1 5 < 40 then ((S.1.1 5 : Int), act S (oAdd S.1 5 (fun i => [p, o, q % 10, q / 10, a, y, -2].getD i 0))) else (-2, S)) else (-1, S)
def sp5 (rk : Nat) (F : St → Int → Int → Int → Int → Int → Int × St) : Sp := spA rk (fun S as K => ∃ (a b c d e : Int), as = [.ref 0, .int (iI a), .int (iI b), .int (iI c), .int (iI d), .int (iI e)] ∧ ir a ∧ ir b ∧ ir c ∧ ir d ∧ ir e ∧ K (some (.int (iI (F S a b c d e).1))) (F S a b c d e).2)
def sp4 (rk : Nat) (F : St → Int → Int → Int → Int → Int × St) : Sp := spA rk (fun S as K => ∃ (a b c d : Int), as = [.ref 0, .int (iI a), .int (iI b), .int (iI c), .int (iI d)] ∧ ir a ∧ ir b ∧ ir c ∧ ir d ∧ K (some (.int (iI (F S a b c d).1))) (F S a b c d).2)
def sp3 (rk : Nat) (F : St → Int → Int → Int → Int × St) : Sp := spA rk (fun S as K => ∃ (a b c : Int), as = [.ref 0, .int (iI a), .int (iI b), .int (iI c)] ∧ ir a ∧ ir b ∧ ir c ∧ K (some (.int (iI (F S a b c).1))) (F S a b c).2)
def sp2 (rk : Nat) (F : St → Int → Int → Int × St) : Sp := spA rk (fun S as K => ∃ (a b : Int), as = [.ref 0, .int (iI a), .int (iI b)] ∧ ir a ∧ ir b ∧ K (some (.int (iI (F S a b).1))) (F S a b).2)
def sp1 (rk : Nat) (F : St → Int → Int × St) : Sp := spA rk (fun S as K => ∃ (a : Int), as = [.ref 0, .int (iI a)] ∧ ir a ∧ K (some (.int (iI (F S a).1))) (F S a).2)
def sp0S (rk : Nat) (F : St → Int × St) : Sp := spA rk (fun S as K => as = [.ref 0] ∧ K (some (.int (iI (F S).1))) (F S).2)
set_option maxRecDepth 20000 in
theorem v_request (l : Launch) : z_V l 81 (sp5 40 f_request) := by
  refine z_V.ofP (by decide +kernel) ?_
  rintro as σ K Post ⟨S, ⟨hOS, f, s, t, f1, s1, t1, f2, s2, t2, tb, f3, s3, t3, nu, ln, sp, ls, g, ta, pl, pf, ps, pt, fi, hz, ks, tz, ra, rf, rt, la, lb, lc, mp, mv, mk, mo, my, mw, ma, ml, ak, dy, br, ad, dp, lm, rs, len, rfl, hAR⟩, p, o, q, a, y, rfl, ⟨p1, p2⟩, ⟨o1, o2⟩, ⟨q1, q2⟩, ⟨a1, a2⟩, ⟨y1, y2⟩, hK⟩ hP1 hP0
  obtain ⟨hR, ⟨fq, rfl, hPR⟩, rfl, rfl, a5, a6, rfl, a8⟩ := id hAR
  have hO := hOS.1
  have hx4 := hO.2.2.2.2.2.2.2.2.2 4 (by omega)
  rw [x_4] at hx4
  have hx5 := hO.2.2.2.2.2.2.2.2.2 5 (by omega)
  rw [x_5] at hx5
  unfold f_request at hK
  have fail : Unit → ¬ (0 ≤ p ∧ p ≤ 15 ∧ 0 ≤ o ∧ o < S.1.1 4 ∧ 0 ≤ q ∧ q ≤ 29 ∧ 1 ≤ a ∧ a ≤ 9999 ∧ 0 ≤ y ∧ y ≤ 999) → Post (some (.int (iI (-1)))) (wA f s t f1 s1 t1 f2 s2 t2 tb f3 s3 t3 nu ln sp ls g ta pl pf ps pt (iI fq) (iI S.2.1.length) (iI (kmask S.2.2.1 : Nat)) (iI S.2.2.2.1) ra rf rt la lb lc mp mv mk mo my mw ma ml ak dy br ad dp lm rs len) := by
    intro _ hn; rw [if_neg hn] at hK; exact hP1 _ _ (hK _ (isA.mk hOS hAR))
  refine AW.go (bs := b_Appr_request) [] 60 t_Appr_request ?_
  refine ⟨_, v_isPerson l, by decide, rfl, p, rfl, ⟨p1, p2⟩, ?_⟩
  refine And.intro (fun h => ?_) (fun h => ?_)
  · rw [zc_beq, decide_eq_false_iff_not] at h; exact fail () (by omega)
  rw [zc_beq, decide_eq_false_iff_not, Classical.not_not] at h
  refine ⟨_, v_has l, by decide, f, s, t, rfl, S.1, 4, o, rfl, hR, by omega, ⟨o1, o2⟩, ?_⟩
  refine And.intro (fun h => ?_) (fun h => ?_)
  · rw [zc_beq, decide_eq_false_iff_not] at h; exact fail () (by omega)
  rw [zc_beq, decide_eq_false_iff_not, Classical.not_not] at h
  refine ⟨_, v_isWhich l, by decide, rfl, q, rfl, ⟨q1, q2⟩, ?_⟩
  refine And.intro (fun h => ?_) (fun h => ?_)
  · rw [zc_beq, decide_eq_false_iff_not] at h; exact fail () (by omega)
  rw [zc_beq, decide_eq_false_iff_not, Classical.not_not] at h
  refine ⟨_, v_isAmount l, by decide, rfl, a, rfl, ⟨a1, a2⟩, ?_⟩
  refine And.intro (fun h => ?_) (fun h => ?_)
  · rw [zc_beq, decide_eq_false_iff_not] at h; exact fail () (by omega)
  rw [zc_beq, decide_eq_false_iff_not, Classical.not_not] at h
  refine ⟨_, v_isDay l, by decide, rfl, y, rfl, ⟨y1, y2⟩, ?_⟩
  refine And.symm (And.intro (fun h => ?_) (fun h => ?_))
  · rw [zc_bne, decide_eq_true_eq] at h; exact fail () (by omega)
  rw [zc_bne, decide_eq_true_eq] at h
  rw [if_pos (by omega)] at hK
  refine ⟨_, v_isFull l, by decide, f, s, t, rfl, S.1, 5, rfl, hR, by omega, ?_⟩
  refine And.symm (And.intro (fun h => ?_) (fun h => ?_))
  · rw [zc_beq, decide_eq_false_iff_not, Classical.not_not, x_5] at h
    rw [if_neg (by omega)] at hK
    exact hP1 _ _ (hK _ (isA.mk hOS hAR))
  · rw [zc_beq, decide_eq_false_iff_not, x_5] at h
    rw [if_pos (by omega)] at hK
    refine ⟨_, v_remember l, by decide, pf, ps, pt, fq, S.2.1, f, s, t, S.1, rfl, rfl, hR, hPR, fun pf' ps' pt' q' hPR' => ?_⟩
    refine And.intro (by decide) ?_
    refine And.intro (by decide) ?_
    show ∃ sp : Sp, _
    rw [zn_i 10, iI_rem (by omega) (by omega) (by omega) (by omega), iI_div (by omega) (by omega) (by omega) (by omega)]
    refine ⟨_, v_addRequest l, by decide, f, s, t, rfl, S.1, p, o, q % 10, q / 10, a, y, rfl, hR, by omega, fun f' s' hR' => ?_⟩
    refine hP1 _ _ (hK _ ?_)
    refine isA.mk ?_ (hAR.act hR' hPR')
    refine act_ok hOS (oAdd_ok hO (by omega) (by rw [x_5]; omega) ?_)
    show 0 ≤ p ∧ p < 16 ∧ 0 ≤ o ∧ o < S.1.1 4 ∧ 0 ≤ q % 10 ∧ q % 10 < 10 ∧ 0 ≤ q / 10 ∧ q / 10 < 3 ∧ 1 ≤ a ∧ a ≤ 9999 ∧ 0 ≤ y ∧ y ≤ 999 ∧ ((-2 : Int) = -2 ∨ _)
    refine ⟨by omega, by omega, by omega, by omega, by omega, by omega, by omega, by omega, by omega, by omega, by omega, by omega, Or.inl rfl⟩
/-- an entry more -/
def f_add (S : St) (d : Nat) (row : Nat → Int) : Int × St := if S.1.1 d < oX d then ((S.1.1 d : Int), act S (oAdd S.1 d row)) else (-2, S)
def sp_addEntry : Sp := spA 3 (fun S as K => ∃ (d : Nat) (a b c x e : Int), as = [.ref 0, .int (iI d), .int (iI a), .int (iI b), .int (iI c), .int (iI x), .int (iI e)] ∧ d < 4 ∧ rowOK (S.1.1 4) d (S.1.1 d) (fun i => [a, b, c, x, e].getD i 0) ∧ K (some (.int (iI (f_add S d (fun i => [a, b, c, x, e].getD i 0)).1))) (f_add S d (fun i => [a, b, c, x, e].getD i 0)).2)
set_option maxRecDepth 20000 in
theorem v_addEntry (l : Launch) : z_V l 132 sp_addEntry := by
  refine z_V.ofP (by decide +kernel) ?_
  rintro as σ K Post ⟨S, ⟨hOS, f, s, t, f1, s1, t1, f2, s2, t2, tb, f3, s3, t3, nu, ln, sp, ls, g, ta, pl, pf, ps, pt, fi, hz, ks, tz, ra, rf, rt, la, lb, lc, mp, mv, mk, mo, my, mw, ma, ml, ak, dy, br, ad, dp, lm, rs, len, rfl, hAR⟩, d, a, b, c, x, e, rfl, hd, hrow, hK⟩ hP1 hP0
  obtain ⟨hR, ⟨fq, rfl, hPR⟩, rfl, rfl, a5, a6, rfl, a8⟩ := id hAR
  have hO := hOS.1
  have hx4 := hO.2.2.2.2.2.2.2.2.2 4 (by omega)
  rw [x_4] at hx4
  have hx5 := hO.2.2.2.2.2.2.2.2.2 5 (by omega)
  rw [x_5] at hx5
  unfold f_add at hK
  refine AW.go (bs := b_Appr_addEntry) [] 60 t_Appr_addEntry ?_
  refine ⟨_, v_isFull l, by decide, f, s, t, rfl, S.1, d, rfl, hR, by omega, ?_⟩
  refine And.symm (And.intro (fun h => ?_) (fun h => ?_))
  · rw [zc_beq, decide_eq_false_iff_not, Classical.not_not] at h
    rw [if_neg (by omega)] at hK
    exact hP1 _ _ (hK _ (isA.mk hOS hAR))
  · rw [zc_beq, decide_eq_false_iff_not] at h
    rw [if_pos (by omega)] at hK
    refine ⟨_, v_remember l, by decide, pf, ps, pt, fq, S.2.1, f, s, t, S.1, rfl, rfl, hR, hPR, fun pf' ps' pt' q' hPR' => ?_⟩
    refine ⟨_, v_addRowM l, by decide, f, s, t, rfl, S.1, d, a, b, c, x, e, rfl, hR, by omega, by omega, fun f' s' hR' => ?_⟩
    exact hP1 _ _ (hK _ (isA.mk (act_ok hOS (oAdd_ok hO (by omega) (by omega) hrow)) (hAR.act hR' hPR')))
def f_hold (S : St) (o p u v : Int) : Int × St := if 0 ≤ o ∧ o < S.1.1 4 ∧ 0 ≤ p ∧ p ≤ 15 ∧ 0 ≤ u ∧ u ≤ v ∧ v ≤ 999 then f_add S 0 (fun i => [o, p, u, v, 0].getD i 0) else (-1, S)
set_option maxRecDepth 20000 in
theorem v_hold (l : Launch) : z_V l 84 (sp4 40 f_hold) := by
  refine z_V.ofP (by decide +kernel) ?_
  rintro as σ K Post ⟨S, ⟨hOS, f, s, t, f1, s1, t1, f2, s2, t2, tb, f3, s3, t3, nu, ln, sp, ls, g, ta, pl, pf, ps, pt, fi, hz, ks, tz, ra, rf, rt, la, lb, lc, mp, mv, mk, mo, my, mw, ma, ml, ak, dy, br, ad, dp, lm, rs, len, rfl, hAR⟩, o, p, u, v, rfl, ⟨o1, o2⟩, ⟨p1, p2⟩, ⟨u1, u2⟩, ⟨v1, v2⟩, hK⟩ hP1 hP0
  obtain ⟨hR, ⟨fq, rfl, hPR⟩, rfl, rfl, a5, a6, rfl, a8⟩ := id hAR
  have hO := hOS.1
  have hx4 := hO.2.2.2.2.2.2.2.2.2 4 (by omega)
  rw [x_4] at hx4
  have hx5 := hO.2.2.2.2.2.2.2.2.2 5 (by omega)
  rw [x_5] at hx5
  unfold f_hold at hK
  have fail : Unit → ¬ (0 ≤ o ∧ o < S.1.1 4 ∧ 0 ≤ p ∧ p ≤ 15 ∧ 0 ≤ u ∧ u ≤ v ∧ v ≤ 999) → Post (some (.int (iI (-1)))) (wA f s t f1 s1 t1 f2 s2 t2 tb f3 s3 t3 nu ln sp ls g ta pl pf ps pt (iI fq) (iI S.2.1.length) (iI (kmask S.2.2.1 : Nat)) (iI S.2.2.2.1) ra rf rt la lb lc mp mv mk mo my mw ma ml ak dy br ad dp lm rs len) := by
    intro _ hn; rw [if_neg hn] at hK; exact hP1 _ _ (hK _ (isA.mk hOS hAR))
  refine AW.go (bs := b_Appr_hold) [] 60 t_Appr_hold ?_
  refine ⟨_, v_has l, by decide, f, s, t, rfl, S.1, 4, o, rfl, hR, by omega, ⟨o1, o2⟩, ?_⟩
  refine And.intro (fun h => ?_) (fun h => ?_)
  · rw [zc_beq, decide_eq_false_iff_not] at h; exact fail () (by omega)
  rw [zc_beq, decide_eq_false_iff_not, Classical.not_not] at h
  refine ⟨_, v_isPerson l, by decide, rfl, p, rfl, ⟨p1, p2⟩, ?_⟩
  refine And.intro (fun h => ?_) (fun h => ?_)
  · rw [zc_beq, decide_eq_false_iff_not] at h; exact fail () (by omega)
  rw [zc_beq, decide_eq_false_iff_not, Classical.not_not] at h
  refine ⟨_, v_areDays l, by decide, rfl, u, v, rfl, ⟨u1, u2⟩, ⟨v1, v2⟩, ?_⟩
  refine And.symm (And.intro (fun h => ?_) (fun h => ?_))
  · rw [zc_bne, dys, decide_eq_true_eq] at h; exact fail () (by omega)
  rw [zc_bne, dys, decide_eq_true_eq] at h
  rw [if_pos (by omega)] at hK
  show ∃ sp : Sp, _
  refine callA (fun _ => rfl) (v_addEntry l) (by decide) rfl ⟨S, isA.mk hOS hAR, 0, o, p, u, v, 0, rfl, by omega, ?_, fun σ' hA' => kkA isW hA'.w ?_⟩
  · show 0 ≤ o ∧ o < S.1.1 4 ∧ 0 ≤ p ∧ p < 16 ∧ 0 ≤ u ∧ u ≤ v ∧ v ≤ 999
    omega
  · obtain ⟨hOS', f, s, t, f1, s1, t1, f2, s2, t2, tb, f3, s3, t3, nu, ln, sp, ls, g, ta, pl, pf, ps, pt, fi, hz, ks, tz, ra, rf, rt, la, lb, lc, mp, mv, mk, mo, my, mw, ma, ml, ak, dy, br, ad, dp, lm, rs, len, rfl, hAR'⟩ := hA'
    exact hP1 _ _ (hK _ (isA.mk hOS' hAR'))
def f_away (S : St) (p u v : Int) : Int × St := if 0 ≤ p ∧ p ≤ 15 ∧ 0 ≤ u ∧ u ≤ v ∧ v ≤ 999 then f_add S 1 (fun i => [p, u, v, 0, 0].getD i 0) else (-1, S)
set_option maxRecDepth 20000 in
theorem v_away (l : Launch) : z_V l 85 (sp3 40 f_away) := by
  refine z_V.ofP (by decide +kernel) ?_
  rintro as σ K Post ⟨S, ⟨hOS, f, s, t, f1, s1, t1, f2, s2, t2, tb, f3, s3, t3, nu, ln, sp, ls, g, ta, pl, pf, ps, pt, fi, hz, ks, tz, ra, rf, rt, la, lb, lc, mp, mv, mk, mo, my, mw, ma, ml, ak, dy, br, ad, dp, lm, rs, len, rfl, hAR⟩, p, u, v, rfl, ⟨p1, p2⟩, ⟨u1, u2⟩, ⟨v1, v2⟩, hK⟩ hP1 hP0
  obtain ⟨hR, ⟨fq, rfl, hPR⟩, rfl, rfl, a5, a6, rfl, a8⟩ := id hAR
  have hO := hOS.1
  have hx4 := hO.2.2.2.2.2.2.2.2.2 4 (by omega)
  rw [x_4] at hx4
  have hx5 := hO.2.2.2.2.2.2.2.2.2 5 (by omega)
  rw [x_5] at hx5
  unfold f_away at hK
  have fail : Unit → ¬ (0 ≤ p ∧ p ≤ 15 ∧ 0 ≤ u ∧ u ≤ v ∧ v ≤ 999) → Post (some (.int (iI (-1)))) (wA f s t f1 s1 t1 f2 s2 t2 tb f3 s3 t3 nu ln sp ls g ta pl pf ps pt (iI fq) (iI S.2.1.length) (iI (kmask S.2.2.1 : Nat)) (iI S.2.2.2.1) ra rf rt la lb lc mp mv mk mo my mw ma ml ak dy br ad dp lm rs len) := by
    intro _ hn; rw [if_neg hn] at hK; exact hP1 _ _ (hK _ (isA.mk hOS hAR))
  refine AW.go (bs := b_Appr_away) [] 60 t_Appr_away ?_
  refine ⟨_, v_isPerson l, by decide, rfl, p, rfl, ⟨p1, p2⟩, ?_⟩
  refine And.intro (fun h => ?_) (fun h => ?_)
  · rw [zc_beq, decide_eq_false_iff_not] at h; exact fail () (by omega)
  rw [zc_beq, decide_eq_false_iff_not, Classical.not_not] at h
  refine ⟨_, v_areDays l, by decide, rfl, u, v, rfl, ⟨u1, u2⟩, ⟨v1, v2⟩, ?_⟩
  refine And.symm (And.intro (fun h => ?_) (fun h => ?_))
  · rw [zc_bne, dys, decide_eq_true_eq] at h; exact fail () (by omega)
  rw [zc_bne, dys, decide_eq_true_eq] at h
  rw [if_pos (by omega)] at hK
  show ∃ sp : Sp, _
  refine callA (fun _ => rfl) (v_addEntry l) (by decide) rfl ⟨S, isA.mk hOS hAR, 1, p, u, v, 0, 0, rfl, by omega, ?_, fun σ' hA' => kkA isW hA'.w ?_⟩
  · show 0 ≤ p ∧ p < 16 ∧ 0 ≤ u ∧ u ≤ v ∧ v ≤ 999
    omega
  · obtain ⟨hOS', f, s, t, f1, s1, t1, f2, s2, t2, tb, f3, s3, t3, nu, ln, sp, ls, g, ta, pl, pf, ps, pt, fi, hz, ks, tz, ra, rf, rt, la, lb, lc, mp, mv, mk, mo, my, mw, ma, ml, ak, dy, br, ad, dp, lm, rs, len, rfl, hAR'⟩ := hA'
    exact hP1 _ _ (hK _ (isA.mk hOS' hAR'))
def f_stand (S : St) (p q u v x : Int) : Int × St := if 0 ≤ p ∧ p ≤ 15 ∧ 0 ≤ q ∧ q ≤ 15 ∧ p ≠ q ∧ 0 ≤ u ∧ u ≤ v ∧ v ≤ 999 ∧ 0 ≤ x ∧ x ≤ 9999 then f_add S 2 (fun i => [p, q, u, v, x].getD i 0) else (-1, S)
set_option maxRecDepth 20000 in
theorem v_stand (l : Launch) : z_V l 86 (sp5 40 f_stand) := by
  refine z_V.ofP (by decide +kernel) ?_
  rintro as σ K Post ⟨S, ⟨hOS, f, s, t, f1, s1, t1, f2, s2, t2, tb, f3, s3, t3, nu, ln, sp, ls, g, ta, pl, pf, ps, pt, fi, hz, ks, tz, ra, rf, rt, la, lb, lc, mp, mv, mk, mo, my, mw, ma, ml, ak, dy, br, ad, dp, lm, rs, len, rfl, hAR⟩, p, q, u, v, x, rfl, ⟨p1, p2⟩, ⟨q1, q2⟩, ⟨u1, u2⟩, ⟨v1, v2⟩, ⟨x1, x2⟩, hK⟩ hP1 hP0
  obtain ⟨hR, ⟨fq, rfl, hPR⟩, rfl, rfl, a5, a6, rfl, a8⟩ := id hAR
  have hO := hOS.1
  have hx4 := hO.2.2.2.2.2.2.2.2.2 4 (by omega)
  rw [x_4] at hx4
  have hx5 := hO.2.2.2.2.2.2.2.2.2 5 (by omega)
  rw [x_5] at hx5
  unfold f_stand at hK
  have fail : Unit → ¬ (0 ≤ p ∧ p ≤ 15 ∧ 0 ≤ q ∧ q ≤ 15 ∧ p ≠ q ∧ 0 ≤ u ∧ u ≤ v ∧ v ≤ 999 ∧ 0 ≤ x ∧ x ≤ 9999) → Post (some (.int (iI (-1)))) (wA f s t f1 s1 t1 f2 s2 t2 tb f3 s3 t3 nu ln sp ls g ta pl pf ps pt (iI fq) (iI S.2.1.length) (iI (kmask S.2.2.1 : Nat)) (iI S.2.2.2.1) ra rf rt la lb lc mp mv mk mo my mw ma ml ak dy br ad dp lm rs len) := by
    intro _ hn; rw [if_neg hn] at hK; exact hP1 _ _ (hK _ (isA.mk hOS hAR))
  refine AW.go (bs := b_Appr_stand) [] 60 t_Appr_stand ?_
  refine ⟨_, v_isPerson l, by decide, rfl, p, rfl, ⟨p1, p2⟩, ?_⟩
  refine And.intro (fun h => ?_) (fun h => ?_)
  · rw [zc_beq, decide_eq_false_iff_not] at h; exact fail () (by omega)
  rw [zc_beq, decide_eq_false_iff_not, Classical.not_not] at h
  refine ⟨_, v_isPerson l, by decide, rfl, q, rfl, ⟨q1, q2⟩, ?_⟩
  refine And.intro (fun h => ?_) (fun h => ?_)
  · rw [zc_beq, decide_eq_false_iff_not] at h; exact fail () (by omega)
  rw [zc_beq, decide_eq_false_iff_not, Classical.not_not] at h
  refine And.intro (fun h => ?_) (fun h => ?_)
  · rw [zc_eq p1 p2 q1 q2] at h; exact fail () (by omega)
  rw [zc_eq p1 p2 q1 q2] at h
  refine ⟨_, v_areDays l, by decide, rfl, u, v, rfl, ⟨u1, u2⟩, ⟨v1, v2⟩, ?_⟩
  refine And.intro (fun h => ?_) (fun h => ?_)
  · rw [zc_beq, dys, decide_eq_false_iff_not] at h; exact fail () (by omega)
  rw [zc_beq, dys, decide_eq_false_iff_not, Classical.not_not] at h
  refine ⟨_, v_isLimit l, by decide, rfl, x, rfl, ⟨x1, x2⟩, ?_⟩
  refine And.symm (And.intro (fun h => ?_) (fun h => ?_))
  · rw [zc_bne, decide_eq_true_eq] at h; exact fail () (by omega)
  rw [zc_bne, decide_eq_true_eq] at h
  rw [if_pos (by omega)] at hK
  show ∃ sp : Sp, _
  refine callA (fun _ => rfl) (v_addEntry l) (by decide) rfl ⟨S, isA.mk hOS hAR, 2, p, q, u, v, x, rfl, by omega, ?_, fun σ' hA' => kkA isW hA'.w ?_⟩
  · show 0 ≤ p ∧ p < 16 ∧ 0 ≤ q ∧ q < 16 ∧ p ≠ q ∧ 0 ≤ u ∧ u ≤ v ∧ v ≤ 999 ∧ 0 ≤ x ∧ x ≤ 9999
    omega
  · obtain ⟨hOS', f, s, t, f1, s1, t1, f2, s2, t2, tb, f3, s3, t3, nu, ln, sp, ls, g, ta, pl, pf, ps, pt, fi, hz, ks, tz, ra, rf, rt, la, lb, lc, mp, mv, mk, mo, my, mw, ma, ml, ak, dy, br, ad, dp, lm, rs, len, rfl, hAR'⟩ := hA'
    exact hP1 _ _ (hK _ (isA.mk hOS' hAR'))
end
section
def f_foe (S : St) (p v : Int) : Int × St := if 0 ≤ p ∧ p ≤ 15 ∧ 0 ≤ v ∧ v ≤ 9 then (if (foeM S.1 v (S.1.1 3)).testBit p.toNat then (-2, S) else f_add S 3 (fun i => [p, v, 0, 0, 0].getD i 0)) else (-1, S)
set_option maxRecDepth 20000 in
theorem v_foe (l : Launch) : z_V l 87 (sp2 40 f_foe) := by
  refine z_V.ofP (by decide +kernel) ?_
  rintro as σ K Post ⟨S, ⟨hOS, f, s, t, f1, s1, t1, f2, s2, t2, tb, f3, s3, t3, nu, ln, sp, ls, g, ta, pl, pf, ps, pt, fi, hz, ks, tz, ra, rf, rt, la, lb, lc, mp, mv, mk, mo, my, mw, ma, ml, ak, dy, br, ad, dp, lm, rs, len, rfl, hAR⟩, p, v, rfl, ⟨p1, p2⟩, ⟨v1, v2⟩, hK⟩ hP1 hP0
  obtain ⟨hR, ⟨fq, rfl, hPR⟩, rfl, rfl, a5, a6, rfl, a8⟩ := id hAR
  have hO := hOS.1
  have hx4 := hO.2.2.2.2.2.2.2.2.2 4 (by omega)
  rw [x_4] at hx4
  have hx5 := hO.2.2.2.2.2.2.2.2.2 5 (by omega)
  rw [x_5] at hx5
  unfold f_foe at hK
  have fail : Unit → ¬ (0 ≤ p ∧ p ≤ 15 ∧ 0 ≤ v ∧ v ≤ 9) → Post (some (.int (iI (-1)))) (wA f s t f1 s1 t1 f2 s2 t2 tb f3 s3 t3 nu ln sp ls g ta pl pf ps pt (iI fq) (iI S.2.1.length) (iI (kmask S.2.2.1 : Nat)) (iI S.2.2.2.1) ra rf rt la lb lc mp mv mk mo my mw ma ml ak dy br ad dp lm rs len) := by
    intro _ hn; rw [if_neg hn] at hK; exact hP1 _ _ (hK _ (isA.mk hOS hAR))
  refine AW.go (bs := b_Appr_foe) [] 60 t_Appr_foe ?_
  refine ⟨_, v_isPerson l, by decide, rfl, p, rfl, ⟨p1, p2⟩, ?_⟩
  refine And.intro (fun h => ?_) (fun h => ?_)
  · rw [zc_beq, decide_eq_false_iff_not] at h; exact fail () (by omega)
  rw [zc_beq, decide_eq_false_iff_not, Classical.not_not] at h
  refine And.intro (fun h => ?_) (fun h => ?_)
  · rw [zc_lt0 v1 v2] at h; exact fail () (by omega)
  rw [zc_lt0 v1 v2] at h
  refine And.symm (And.intro (fun h => ?_) (fun h => ?_))
  · rw [zn_i, zc_lt v1 v2 (by omega) (by omega)] at h; exact fail () (by omega)
  rw [zn_i, zc_lt v1 v2 (by omega) (by omega)] at h
  rw [if_pos (by omega)] at hK
  have hfl := foeM_lt hO (v := v) (n := S.1.1 3) (Nat.le_refl _)
  obtain ⟨j, rfl⟩ : ∃ j : Nat, p = (j : Int) := ⟨p.toNat, by omega⟩
  rw [Int.toNat_natCast] at hK
  refine ⟨_, v_foeBits l, by decide, f, s, t, rfl, S.1, v, rfl, hR, hO, ⟨v1, v2⟩, ?_⟩
  refine ⟨_, v_isIn l, by decide, rfl, foeM S.1 v (S.1.1 3), j, rfl, by omega, by omega, ?_⟩
  refine And.symm (And.intro (fun h => ?_) (fun h => ?_))
  · rw [zc_beq, Bool.not_eq_false] at h
    rw [if_pos h] at hK
    exact hP1 _ _ (hK _ (isA.mk hOS hAR))
  · rw [zc_beq] at h
    rw [if_neg (by rw [h]; decide)] at hK
    show ∃ sp : Sp, _
    refine callA (fun _ => rfl) (v_addEntry l) (by decide) rfl ⟨S, isA.mk hOS hAR, 3, j, v, 0, 0, 0, rfl, by omega, ?_, fun σ' hA' => kkA isW hA'.w ?_⟩
    · show 0 ≤ (j : Int) ∧ (j : Int) < 16 ∧ 0 ≤ v ∧ v < 10
      omega
    · obtain ⟨hOS', f, s, t, f1, s1, t1, f2, s2, t2, tb, f3, s3, t3, nu, ln, sp, ls, g, ta, pl, pf, ps, pt, fi, hz, ks, tz, ra, rf, rt, la, lb, lc, mp, mv, mk, mo, my, mw, ma, ml, ak, dy, br, ad, dp, lm, rs, len, rfl, hAR'⟩ := hA'
      exact hP1 _ _ (hK _ (isA.mk hOS' hAR'))
def f_drop (S : St) (d k : Int) : Int × St := if 0 ≤ d ∧ d ≤ 3 ∧ 0 ≤ k ∧ k < S.1.1 d.toNat then ((S.1.1 d.toNat : Int) - 1, act S (oDel S.1 d.toNat k.toNat)) else (-1, S)
set_option maxRecDepth 20000 in
theorem v_drop (l : Launch) : z_V l 88 (sp2 40 f_drop) := by
  refine z_V.ofP (by decide +kernel) ?_
  rintro as σ K Post ⟨S, ⟨hOS, f, s, t, f1, s1, t1, f2, s2, t2, tb, f3, s3, t3, nu, ln, sp, ls, g, ta, pl, pf, ps, pt, fi, hz, ks, tz, ra, rf, rt, la, lb, lc, mp, mv, mk, mo, my, mw, ma, ml, ak, dy, br, ad, dp, lm, rs, len, rfl, hAR⟩, d, k, rfl, ⟨d1, d2⟩, ⟨k1, k2⟩, hK⟩ hP1 hP0
  obtain ⟨hR, ⟨fq, rfl, hPR⟩, rfl, rfl, a5, a6, rfl, a8⟩ := id hAR
  have hO := hOS.1
  have hx4 := hO.2.2.2.2.2.2.2.2.2 4 (by omega)
  rw [x_4] at hx4
  have hx5 := hO.2.2.2.2.2.2.2.2.2 5 (by omega)
  rw [x_5] at hx5
  unfold f_drop at hK
  have fail : Unit → ¬ (0 ≤ d ∧ d ≤ 3 ∧ 0 ≤ k ∧ k < S.1.1 d.toNat) → Post (some (.int (iI (-1)))) (wA f s t f1 s1 t1 f2 s2 t2 tb f3 s3 t3 nu ln sp ls g ta pl pf ps pt (iI fq) (iI S.2.1.length) (iI (kmask S.2.2.1 : Nat)) (iI S.2.2.2.1) ra rf rt la lb lc mp mv mk mo my mw ma ml ak dy br ad dp lm rs len) := by
    intro _ hn; rw [if_neg hn] at hK; exact hP1 _ _ (hK _ (isA.mk hOS hAR))
  refine AW.go (bs := b_Appr_drop) [] 60 t_Appr_drop ?_
  refine ⟨_, v_isEntryKind l, by decide, rfl, d, rfl, ⟨d1, d2⟩, ?_⟩
  refine And.intro (fun h => ?_) (fun h => ?_)
  · rw [zc_beq, decide_eq_false_iff_not] at h; exact fail () (by omega)
  rw [zc_beq, decide_eq_false_iff_not, Classical.not_not] at h
  obtain ⟨e, rfl⟩ : ∃ e : Nat, d = (e : Int) := ⟨d.toNat, by omega⟩
  rw [Int.toNat_natCast] at fail hK
  refine ⟨_, v_has l, by decide, f, s, t, rfl, S.1, e, k, rfl, hR, by omega, ⟨k1, k2⟩, ?_⟩
  refine And.symm (And.intro (fun h => ?_) (fun h => ?_))
  · rw [zc_bne, decide_eq_true_eq] at h; exact fail () (by omega)
  rw [zc_bne, decide_eq_true_eq] at h
  obtain ⟨i, rfl⟩ : ∃ i : Nat, k = (i : Int) := ⟨k.toNat, by omega⟩
  rw [Int.toNat_natCast, if_pos (by omega)] at hK
  refine ⟨_, v_remember l, by decide, pf, ps, pt, fq, S.2.1, f, s, t, S.1, rfl, rfl, hR, hPR, fun pf' ps' pt' q' hPR' => ?_⟩
  refine ⟨_, v_removeRow l, by decide, f, s, t, rfl, S.1, e, i, rfl, hR, by omega, by omega, fun f' s' hR' => ?_⟩
  refine And.intro (zN_in (by omega) (by omega)) ?_
  show Post _ _
  rw [zN_cl (by omega), hR'.size e (by omega)]
  have e1 : (oDel S.1 e i).1 e = S.1.1 e - 1 := by show (if e = e then _ else _) = _; rw [if_pos rfl]
  rw [e1, show ((S.1.1 e - 1 : Nat) : Int) = (S.1.1 e : Int) - 1 by omega]
  exact hP1 _ _ (hK _ (isA.mk (act_ok hOS (oDel_ok hO (by omega) (by omega))) (hAR.act hR' hPR')))
def f_limit (S : St) (o k x : Int) : Int × St := if 0 ≤ o ∧ o < S.1.1 4 ∧ 0 ≤ k ∧ k ≤ 2 ∧ 0 ≤ x ∧ x ≤ 9999 then (if S.1.2.1 4 o.toNat (1 + k.toNat) = x then (-2, S) else (S.1.2.1 4 o.toNat (1 + k.toNat), act S (oPut S.1 4 o.toNat (1 + k.toNat) x))) else (-1, S)
set_option maxRecDepth 20000 in
theorem v_limit (l : Launch) : z_V l 89 (sp3 40 f_limit) := by
  refine z_V.ofP (by decide +kernel) ?_
  rintro as σ K Post ⟨S, ⟨hOS, f, s, t, f1, s1, t1, f2, s2, t2, tb, f3, s3, t3, nu, ln, sp, ls, g, ta, pl, pf, ps, pt, fi, hz, ks, tz, ra, rf, rt, la, lb, lc, mp, mv, mk, mo, my, mw, ma, ml, ak, dy, br, ad, dp, lm, rs, len, rfl, hAR⟩, o, k, x, rfl, ⟨o1, o2⟩, ⟨k1, k2⟩, ⟨x1, x2⟩, hK⟩ hP1 hP0
  obtain ⟨hR, ⟨fq, rfl, hPR⟩, rfl, rfl, a5, a6, rfl, a8⟩ := id hAR
  have hO := hOS.1
  have hx4 := hO.2.2.2.2.2.2.2.2.2 4 (by omega)
  rw [x_4] at hx4
  have hx5 := hO.2.2.2.2.2.2.2.2.2 5 (by omega)
  rw [x_5] at hx5
  unfold f_limit at hK
  have fail : Unit → ¬ (0 ≤ o ∧ o < S.1.1 4 ∧ 0 ≤ k ∧ k ≤ 2 ∧ 0 ≤ x ∧ x ≤ 9999) → Post (some (.int (iI (-1)))) (wA f s t f1 s1 t1 f2 s2 t2 tb f3 s3 t3 nu ln sp ls g ta pl pf ps pt (iI fq) (iI S.2.1.length) (iI (kmask S.2.2.1 : Nat)) (iI S.2.2.2.1) ra rf rt la lb lc mp mv mk mo my mw ma ml ak dy br ad dp lm rs len) := by
    intro _ hn; rw [if_neg hn] at hK; exact hP1 _ _ (hK _ (isA.mk hOS hAR))
  refine AW.go (bs := b_Appr_limit) [] 60 t_Appr_limit ?_
  refine ⟨_, v_has l, by decide, f, s, t, rfl, S.1, 4, o, rfl, hR, by omega, ⟨o1, o2⟩, ?_⟩
  refine And.intro (fun h => ?_) (fun h => ?_)
  · rw [zc_beq, decide_eq_false_iff_not] at h; exact fail () (by omega)
  rw [zc_beq, decide_eq_false_iff_not, Classical.not_not] at h
  refine ⟨_, v_isKind l, by decide, rfl, k, rfl, ⟨k1, k2⟩, ?_⟩
  refine And.intro (fun h => ?_) (fun h => ?_)
  · rw [zc_beq, decide_eq_false_iff_not] at h; exact fail () (by omega)
  rw [zc_beq, decide_eq_false_iff_not, Classical.not_not] at h
  refine ⟨_, v_isLimit l, by decide, rfl, x, rfl, ⟨x1, x2⟩, ?_⟩
  refine And.symm (And.intro (fun h => ?_) (fun h => ?_))
  · rw [zc_bne, decide_eq_true_eq] at h; exact fail () (by omega)
  rw [zc_bne, decide_eq_true_eq] at h
  rw [if_pos (by omega)] at hK
  obtain ⟨p, rfl⟩ : ∃ p : Nat, o = (p : Int) := ⟨o.toNat, by omega⟩
  obtain ⟨j, rfl⟩ : ∃ j : Nat, k = (j : Int) := ⟨k.toNat, by omega⟩
  rw [Int.toNat_natCast, Int.toNat_natCast] at hK
  have hp : p < S.1.1 4 := by omega
  have hc := hO.cell (d := 4) (c := 1 + j) (by omega) hp (by rw [w_4]; omega)
  have ek : z_nn 1 0 + iI (j : Int) = iI ((1 + j : Nat) : Int) := by rw [zn_i, iI_add]; congr 1
  refine ⟨_, v_cellE l, by decide, f, s, t, rfl, S.1, 4, p, 1 + j, _, _, _, rfl, rfl, rfl, ek, hR, by omega, hp, by rw [w_4]; omega, ?_⟩
  refine And.symm (And.intro (fun h => ?_) (fun h => ?_))
  · rw [zc_ne (by omega) (by omega) x1 x2, Classical.not_not] at h
    rw [if_pos h] at hK
    exact hP1 _ _ (hK _ (isA.mk hOS hAR))
  · rw [zc_ne (by omega) (by omega) x1 x2] at h
    rw [if_neg h] at hK
    refine ⟨_, v_remember l, by decide, pf, ps, pt, fq, S.2.1, f, s, t, S.1, rfl, rfl, hR, hPR, fun pf' ps' pt' q' hPR' => ?_⟩
    show ∃ sp : Sp, _
    rw [ek]
    refine ⟨_, v_put l, by decide, f, s, t, rfl, 4, p, 1 + j, _, rfl, by omega, by rw [x_4]; omega, by rw [w_4]; omega, ?_⟩
    refine hP1 _ _ (hK _ (isA.mk (act_ok hOS (oPut_ok hO ?_)) (hAR.act (hR.put (by omega) hp (by rw [w_4]; omega) x) hPR')))
    have h4 := hO.2.2.2.2.1 p hp
    refine ⟨?_, fun c c1 c2 => ?_⟩
    · show (if 0 = 1 + j then x else S.1.2.1 4 p 0) = -2 ∨ (0 ≤ (if 0 = 1 + j then x else S.1.2.1 4 p 0) ∧ (if 0 = 1 + j then x else S.1.2.1 4 p 0) < (p : Int))
      rw [if_neg (by omega)]; exact h4.1
    · show 0 ≤ (if c = 1 + j then x else S.1.2.1 4 p c) ∧ (if c = 1 + j then x else S.1.2.1 4 p c) ≤ 9999
      split
      · omega
      · exact h4.2 c c1 c2
def hiS (w : Int) : Int := if w = 0 then 99 else if w = 1 then 9 else 30
def f_set (S : St) (w v : Int) : Int × St := if 0 ≤ w ∧ w ≤ 2 ∧ 0 ≤ v ∧ v ≤ hiS w then (if (S.1.2.2 w.toNat : Int) = v then (-2, S) else ((S.1.2.2 w.toNat : Int), act S (oSet S.1 w.toNat v.toNat))) else (-1, S)
theorem RS.set {f s t : Nat → Int32} {M : Od} (h : RS f s t M) (w v : Nat) : RS f s (upd t w (iI v)) (oSet M w v) := by
  refine ⟨h.1, h.2.1, fun x hx => ?_⟩
  show upd t w (iI v) x = iI ((if x = w then v else M.2.2 x : Nat) : Int)
  unfold upd
  split
  · rfl
  · exact h.2.2 x hx
set_option maxRecDepth 20000 in
theorem v_set (l : Launch) : z_V l 90 (sp2 40 f_set) := by
  refine z_V.ofP (by decide +kernel) ?_
  rintro as σ K Post ⟨S, ⟨hOS, f, s, t, f1, s1, t1, f2, s2, t2, tb, f3, s3, t3, nu, ln, sp, ls, g, ta, pl, pf, ps, pt, fi, hz, ks, tz, ra, rf, rt, la, lb, lc, mp, mv, mk, mo, my, mw, ma, ml, ak, dy, br, ad, dp, lm, rs, len, rfl, hAR⟩, w, v, rfl, ⟨w1, w2⟩, ⟨v1, v2⟩, hK⟩ hP1 hP0
  obtain ⟨hR, ⟨fq, rfl, hPR⟩, rfl, rfl, a5, a6, rfl, a8⟩ := id hAR
  have hO := hOS.1
  have hx4 := hO.2.2.2.2.2.2.2.2.2 4 (by omega)
  rw [x_4] at hx4
  have hx5 := hO.2.2.2.2.2.2.2.2.2 5 (by omega)
  rw [x_5] at hx5
  unfold f_set at hK
  have fail : Unit → ¬ (0 ≤ w ∧ w ≤ 2 ∧ 0 ≤ v ∧ v ≤ hiS w) → Post (some (.int (iI (-1)))) (wA f s t f1 s1 t1 f2 s2 t2 tb f3 s3 t3 nu ln sp ls g ta pl pf ps pt (iI fq) (iI S.2.1.length) (iI (kmask S.2.2.1 : Nat)) (iI S.2.2.2.1) ra rf rt la lb lc mp mv mk mo my mw ma ml ak dy br ad dp lm rs len) := by
    intro _ hn; rw [if_neg hn] at hK; exact hP1 _ _ (hK _ (isA.mk hOS hAR))
  have b0 := hO.2.2.2.2.2.2.1
  have b1 := hO.2.2.2.2.2.2.2.1
  have b2 := hO.2.2.2.2.2.2.2.2.1
  refine AW.go (bs := b_Appr_set) [] 60 t_Appr_set ?_
  refine And.intro (fun h => ?_) (fun h => ?_)
  · rw [zc_lt0 w1 w2] at h; exact fail () (by omega)
  rw [zc_lt0 w1 w2] at h
  refine And.intro (fun h => ?_) (fun h => ?_)
  · rw [zn_i, zc_ge w1 w2 (by omega) (by omega)] at h; exact fail () (by omega)
  rw [zn_i, zc_ge w1 w2 (by omega) (by omega)] at h
  refine And.intro (fun h => ?_) (fun h => ?_)
  · rw [zc_lt0 v1 v2] at h; exact fail () (by omega)
  rw [zc_lt0 v1 v2] at h
  obtain ⟨j, rfl⟩ : ∃ j : Nat, w = (j : Int) := ⟨w.toNat, by omega⟩
  have hj : j < 3 := by omega
  have hi : nI ([99, 9, 30].getD (iI (j : Int)).toNatClampNeg 0) = iI (hiS j) := by
    rw [zN_cl (by omega)]
    have : j = 0 ∨ j = 1 ∨ j = 2 := by omega
    rcases this with rfl | rfl | rfl <;> rfl
  have hir : 0 ≤ hiS j ∧ hiS j ≤ 99 := by unfold hiS; split <;> (try split) <;> omega
  refine And.intro (zN_in hj (by omega)) ?_
  show _ ∧ _
  rw [hi]
  refine And.symm (And.intro (fun h => ?_) (fun h => ?_))
  · rw [zc_le v1 v2 (by omega) (by omega)] at h; exact fail () (by omega)
  rw [zc_le v1 v2 (by omega) (by omega)] at h
  rw [if_pos (by omega), Int.toNat_natCast] at hK
  refine And.intro (zN_in hj (by omega)) ?_
  have hs : S.1.2.2 j ≤ 99 := by
    have : j = 0 ∨ j = 1 ∨ j = 2 := by omega
    rcases this with rfl | rfl | rfl <;> omega
  show _ ∧ _
  rw [zN_cl (by omega), hR.2.2 j hj]
  refine And.symm (And.intro (fun h => ?_) (fun h => ?_))
  · rw [zc_ne (by omega) (by omega) v1 v2, Classical.not_not] at h
    rw [if_pos h] at hK
    exact hP1 _ _ (hK _ (isA.mk hOS hAR))
  · rw [zc_ne (by omega) (by omega) v1 v2] at h
    rw [if_neg h] at hK
    refine ⟨_, v_remember l, by decide, pf, ps, pt, fq, S.2.1, f, s, t, S.1, rfl, rfl, hR, hPR, fun pf' ps' pt' q' hPR' => ?_⟩
    refine And.intro (zN_in hj (by omega)) ?_
    show Post _ _
    rw [zN_cl (by omega)]
    obtain ⟨x, rfl⟩ : ∃ x : Nat, v = (x : Int) := ⟨v.toNat, by omega⟩
    rw [Int.toNat_natCast] at hK
    refine hP1 _ _ (hK _ (isA.mk (act_ok hOS (oSet_ok hO ?_)) (hAR.act (hR.set j x) hPR')))
    have hv : (x : Int) ≤ hiS j := by assumption
    refine ⟨fun e => ?_, fun e => ?_, fun e => ?_⟩
    · rw [e] at hv; have : hiS ((0 : Nat) : Int) = 99 := rfl; omega
    · rw [e] at hv; have : hiS ((1 : Nat) : Int) = 9 := rfl; omega
    · rw [e] at hv; have : hiS ((2 : Nat) : Int) = 30 := rfl; omega
def f_undo (S : St) : Int × St := match S.2.1.getLast? with
  | none => (-1, S)
  | some M => ((S.2.1.length : Int) - 1, (M, S.2.1.dropLast, S.2.2))
set_option maxRecDepth 20000 in
theorem v_undo (l : Launch) : z_V l 91 (sp0S 40 f_undo) := by
  refine z_V.ofP (by decide +kernel) ?_
  rintro as σ K Post ⟨S, ⟨hOS, f, s, t, f1, s1, t1, f2, s2, t2, tb, f3, s3, t3, nu, ln, sp, ls, g, ta, pl, pf, ps, pt, fi, hz, ks, tz, ra, rf, rt, la, lb, lc, mp, mv, mk, mo, my, mw, ma, ml, ak, dy, br, ad, dp, lm, rs, len, rfl, hAR⟩, rfl, hK⟩ hP1 hP0
  obtain ⟨hR, ⟨fq, rfl, hPR⟩, rfl, rfl, a5, a6, rfl, a8⟩ := id hAR
  have hO := hOS.1
  have hx4 := hO.2.2.2.2.2.2.2.2.2 4 (by omega)
  rw [x_4] at hx4
  have hx5 := hO.2.2.2.2.2.2.2.2.2 5 (by omega)
  rw [x_5] at hx5
  refine AW.go (bs := b_Appr_undo) [] 60 t_Appr_undo ?_
  refine ⟨_, v_takeBack l, by decide, pf, ps, pt, fq, S.2.1, f, s, t, rfl, rfl, hPR, fun e => ?_, fun H0 M e f' s' t' hR' hPR' => ?_⟩
  · unfold f_undo at hK
    rw [e] at hK
    exact hP1 _ _ (hK _ (isA.mk hOS hAR))
  · unfold f_undo at hK
    rw [e, List.getLast?_concat, List.dropLast_concat] at hK
    have el : (((H0 ++ [M]).length : Nat) : Int) - 1 = (H0.length : Int) := by simp
    simp only [] at hK
    rw [el] at hK
    refine hP1 _ _ (hK _ (isA.mk ⟨hOS.2.1 M (by rw [e]; simp), fun M' hM' => hOS.2.1 M' (by rw [e]; simp; exact Or.inl hM'), ?_, hOS.2.2.2⟩ ⟨hR', ⟨fq, rfl, hPR'⟩, rfl, hAR.2.2.2⟩))
    have := hOS.2.2.1
    rw [e] at this
    simp at this
    show H0.length ≤ 10
    omega
end
section
theorem zt_net : z_cond .ne (bI true) 0 := (zc_bne _).mpr rfl
theorem zt_eqf : z_cond .eq (bI false) 0 := (zc_beq _).mpr rfl
theorem zt_neqt : ¬ z_cond .eq (bI true) 0 := fun h => Bool.noConfusion ((zc_beq _).mp h)
theorem zt_eq0 : z_cond .eq (iI 0) 0 := show iI 0 = 0 by decide
theorem kmask_o1 (M : Od) (k : Option Od × Option Od) : kmask k ||| 1 = kmask (some M, k.2) := by
  have key : ∀ a b : Bool, ((if a = true then 1 else 0) + (if b = true then 2 else 0) : Nat) ||| 1 = (if true = true then 1 else 0) + (if b = true then 2 else 0) := by decide
  exact key _ _
theorem kmask_o2 (M : Od) (k : Option Od × Option Od) : kmask k ||| 2 = kmask (k.1, some M) := by
  have key : ∀ a b : Bool, ((if a = true then 1 else 0) + (if b = true then 2 else 0) : Nat) ||| 2 = (if a = true then 1 else 0) + (if true = true then 2 else 0) := by decide
  exact key _ _
def f_keep (S : St) (k : Int) : Int × St := if k = 0 then ((S.1.1 5 : Int), (S.1, S.2.1, (some S.1, S.2.2.1.2), S.2.2.2)) else if k = 1 then ((S.1.1 5 : Int), (S.1, S.2.1, (S.2.2.1.1, some S.1), S.2.2.2)) else (-1, S)
theorem kmask_lt (k : Option Od × Option Od) : kmask k < 4 := by
  unfold kmask
  split <;> split <;> omega
set_option maxRecDepth 20000 in
theorem v_keep (l : Launch) : z_V l 92 (sp1 40 f_keep) := by
  refine z_V.ofP (by decide +kernel) ?_
  rintro as σ K Post ⟨S, ⟨hOS, f, s, t, f1, s1, t1, f2, s2, t2, tb, f3, s3, t3, nu, ln, sp, ls, g, ta, pl, pf, ps, pt, fi, hz, ks, tz, ra, rf, rt, la, lb, lc, mp, mv, mk, mo, my, mw, ma, ml, ak, dy, br, ad, dp, lm, rs, len, rfl, hAR⟩, k, rfl, ⟨k1, k2⟩, hK⟩ hP1 hP0
  obtain ⟨hR, ⟨fq, rfl, hPR⟩, rfl, rfl, a5, a6, rfl, a8⟩ := id hAR
  have hO := hOS.1
  have hx4 := hO.2.2.2.2.2.2.2.2.2 4 (by omega)
  rw [x_4] at hx4
  have hx5 := hO.2.2.2.2.2.2.2.2.2 5 (by omega)
  rw [x_5] at hx5
  unfold f_keep at hK
  refine AW.go (bs := b_Appr_keep) [] 60 t_Appr_keep ?_
  refine ⟨_, v_isShelf l, by decide, rfl, k, rfl, ⟨k1, k2⟩, ?_⟩
  refine And.symm (And.intro (fun h => ?_) (fun h => ?_))
  · rw [zc_bne, decide_eq_true_eq] at h
    rw [if_neg (by omega), if_neg (by omega)] at hK
    exact hP1 _ _ (hK _ (isA.mk hOS hAR))
  · rw [zc_bne, decide_eq_true_eq] at h
    have hk : k = 0 ∨ k = 1 := by omega
    rcases hk with rfl | rfl
    · rw [if_pos rfl] at hK
      refine ⟨48, zN_in (t := 0) (by decide) (by decide), rfl, ?_⟩
      refine ⟨_, v_copyFrom l, by decide, f1, s1, t1, f, s, t, S.1, rfl, rfl, hR, fun f' s' t' h' => ?_⟩
      refine And.intro (zn_in (by omega) (by omega)) ?_
      show Post _ _
      rw [zn_cl (by omega), hR.size 5 (by omega)]
      refine hP1 _ _ (hK _ (isA.mk ⟨hOS.1, hOS.2.1, hOS.2.2.1, fun M e => ?_, hOS.2.2.2.2⟩ ⟨hR, ⟨fq, rfl, hPR⟩, rfl, ?_, fun M e => ?_, a6, rfl, a8⟩))
      · cases e; exact hO
      · rw [show z_nn 1 0 = iI 1 from rfl, show iI 1 <<< (iI 0 &&& 31) = iI ((1 : Nat) : Int) from by decide, zb_or]
        rw [kmask_o1 S.1]
      · cases e; exact h'
    · rw [if_neg (by omega), if_pos rfl] at hK
      refine ⟨52, zN_in (t := 1) (by decide) (by decide), rfl, ?_⟩
      refine ⟨_, v_copyFrom l, by decide, f2, s2, t2, f, s, t, S.1, rfl, rfl, hR, fun f' s' t' h' => ?_⟩
      refine And.intro (zn_in (by omega) (by omega)) ?_
      show Post _ _
      rw [zn_cl (by omega), hR.size 5 (by omega)]
      refine hP1 _ _ (hK _ (isA.mk ⟨hOS.1, hOS.2.1, hOS.2.2.1, hOS.2.2.2.1, fun M e => ?_, hOS.2.2.2.2.2⟩ ⟨hR, ⟨fq, rfl, hPR⟩, rfl, ?_, a5, fun M e => ?_, rfl, a8⟩))
      · cases e; exact hO
      · rw [show z_nn 1 0 = iI 1 from rfl, show iI 1 <<< (iI 1 &&& 31) = iI ((2 : Nat) : Int) from by decide, zb_or]
        rw [kmask_o2 S.1]
      · cases e; exact h'
def f_back (S : St) (k : Int) : Int × St := if k = 0 then (match S.2.2.1.1 with | none => (-2, S) | some M => ((M.1 5 : Int), (M, [], S.2.2))) else if k = 1 then (match S.2.2.1.2 with | none => (-2, S) | some M => ((M.1 5 : Int), (M, [], S.2.2))) else (-1, S)
theorem kmask_0 (k : Option Od × Option Od) : (kmask k).testBit 0 = k.1.isSome := by
  have key : ∀ a b : Bool, ((if a = true then 1 else 0) + (if b = true then 2 else 0) : Nat).testBit 0 = a := by decide
  exact key _ _
theorem kmask_1 (k : Option Od × Option Od) : (kmask k).testBit 1 = k.2.isSome := by
  have key : ∀ a b : Bool, ((if a = true then 1 else 0) + (if b = true then 2 else 0) : Nat).testBit 1 = b := by decide
  exact key _ _
theorem PR.nil (pf ps pt : Nat → Nat → Int32) {q : Nat} (h : q < 10) : PR pf ps pt q [] := ⟨h, by simp, fun i M h => by simp at h⟩
set_option maxRecDepth 20000 in
theorem v_back (l : Launch) : z_V l 93 (sp1 40 f_back) := by
  refine z_V.ofP (by decide +kernel) ?_
  rintro as σ K Post ⟨S, ⟨hOS, f, s, t, f1, s1, t1, f2, s2, t2, tb, f3, s3, t3, nu, ln, sp, ls, g, ta, pl, pf, ps, pt, fi, hz, ks, tz, ra, rf, rt, la, lb, lc, mp, mv, mk, mo, my, mw, ma, ml, ak, dy, br, ad, dp, lm, rs, len, rfl, hAR⟩, k, rfl, ⟨k1, k2⟩, hK⟩ hP1 hP0
  obtain ⟨hR, ⟨fq, rfl, hPR⟩, rfl, rfl, a5, a6, rfl, a8⟩ := id hAR
  have hO := hOS.1
  have hx4 := hO.2.2.2.2.2.2.2.2.2 4 (by omega)
  rw [x_4] at hx4
  have hx5 := hO.2.2.2.2.2.2.2.2.2 5 (by omega)
  rw [x_5] at hx5
  unfold f_back at hK
  have hkm := kmask_lt S.2.2.1
  refine AW.go (bs := b_Appr_back) [] 60 t_Appr_back ?_
  refine ⟨_, v_isShelf l, by decide, rfl, k, rfl, ⟨k1, k2⟩, ?_⟩
  refine And.symm (And.intro (fun h => ?_) (fun h => ?_))
  · rw [zc_bne, decide_eq_true_eq] at h
    rw [if_neg (by omega), if_neg (by omega)] at hK
    exact hP1 _ _ (hK _ (isA.mk hOS hAR))
  · rw [zc_bne, decide_eq_true_eq] at h
    have hk : k = 0 ∨ k = 1 := by omega
    rcases hk with rfl | rfl
    · rw [if_pos rfl] at hK
      refine ⟨_, v_isIn l, by decide, rfl, kmask S.2.2.1, 0, rfl, by omega, by omega, ?_⟩
      rw [kmask_0]
      cases hM : S.2.2.1.1 with
      | none =>
        rw [hM] at hK
        refine And.symm (And.intro (fun _ => ?_) (fun h => absurd h (fun q => q rfl)))
        exact hP1 _ _ (hK _ (isA.mk hOS hAR))
      | some M =>
        rw [hM] at hK
        have hM' := a5 M hM
        refine And.symm (And.intro (fun h => absurd zt_net h) (fun _ => ?_))
        refine ⟨48, zN_in (t := 0) (by decide) (by decide), rfl, ?_⟩
        refine ⟨_, v_copyFrom l, by decide, f, s, t, f1, s1, t1, M, rfl, rfl, hM', fun f' s' t' h' => ?_⟩
        refine ⟨_, v_forget l, by decide, pf, ps, pt, _, _, rfl, rfl, ?_⟩
        refine And.intro (zn_in (by omega) (by omega)) ?_
        show Post _ _
        rw [zn_cl (by omega), h'.size 5 (by omega)]
        exact hP1 _ _ (hK _ (isA.mk ⟨hOS.2.2.2.1 M hM, fun _ h => by simp at h, by simp, hOS.2.2.2⟩ ⟨h', ⟨fq, rfl, PR.nil _ _ _ hPR.1⟩, rfl, rfl, a5, a6, rfl, a8⟩))
    · rw [if_neg (by omega), if_pos rfl] at hK
      refine ⟨_, v_isIn l, by decide, rfl, kmask S.2.2.1, 1, rfl, by omega, by omega, ?_⟩
      rw [kmask_1]
      cases hM : S.2.2.1.2 with
      | none =>
        rw [hM] at hK
        refine And.symm (And.intro (fun _ => ?_) (fun h => absurd h (fun q => q rfl)))
        exact hP1 _ _ (hK _ (isA.mk hOS hAR))
      | some M =>
        rw [hM] at hK
        have hM' := a6 M hM
        refine And.symm (And.intro (fun h => absurd zt_net h) (fun _ => ?_))
        refine ⟨52, zN_in (t := 1) (by decide) (by decide), rfl, ?_⟩
        refine ⟨_, v_copyFrom l, by decide, f, s, t, f2, s2, t2, M, rfl, rfl, hM', fun f' s' t' h' => ?_⟩
        refine ⟨_, v_forget l, by decide, pf, ps, pt, _, _, rfl, rfl, ?_⟩
        refine And.intro (zn_in (by omega) (by omega)) ?_
        show Post _ _
        rw [zn_cl (by omega), h'.size 5 (by omega)]
        exact hP1 _ _ (hK _ (isA.mk ⟨hOS.2.2.2.2.1 M hM, fun _ h => by simp at h, by simp, hOS.2.2.2⟩ ⟨h', ⟨fq, rfl, PR.nil _ _ _ hPR.1⟩, rfl, rfl, a5, a6, rfl, a8⟩))
/-- the tape with four bytes more -/
def tAdd (T : Nat × (Nat → Int32)) (a : Int32) : Nat × (Nat → Int32) := (T.1 + 4, fun i => if i < T.1 then T.2 i else bt a (i - T.1))
def f_feed (S : St) (a b c d e : Int) : Int × St := if 400 < S.2.2.2.1 + 20 then (-1, S) else ((S.2.2.2.1 : Int) + 20, (S.1, S.2.1, S.2.2.1, tAdd (tAdd (tAdd (tAdd (tAdd S.2.2.2 (iI a)) (iI b)) (iI c)) (iI d)) (iI e)))
theorem tAdd_eq {T : Nat × (Nat → Int32)} {tb tb' : Nat → Int32} {a : Int32} (h : ∀ i, i < T.1 → tb i = T.2 i) (h1 : ∀ i, i < T.1 → tb' i = tb i) (h2 : ∀ j, j < 4 → tb' (T.1 + j) = bt a j) : ∀ i, i < (tAdd T a).1 → tb' i = (tAdd T a).2 i := by
  intro i hi
  replace hi : i < T.1 + 4 := hi
  show tb' i = if i < T.1 then T.2 i else bt a (i - T.1)
  split
  · next q => rw [h1 i q, h i q]
  · next q =>
    have := h2 (i - T.1) (by omega)
    rw [show T.1 + (i - T.1) = i by omega] at this
    exact this
set_option maxRecDepth 20000 in
theorem v_feed (l : Launch) : z_V l 78 (sp5 40 f_feed) := by
  refine z_V.ofP (by decide +kernel) ?_
  rintro as σ K Post ⟨S, ⟨hOS, f, s, t, f1, s1, t1, f2, s2, t2, tb, f3, s3, t3, nu, ln, sp, ls, g, ta, pl, pf, ps, pt, fi, hz, ks, tz, ra, rf, rt, la, lb, lc, mp, mv, mk, mo, my, mw, ma, ml, ak, dy, br, ad, dp, lm, rs, len, rfl, hAR⟩, a, b, c, d, e, rfl, -, -, -, -, -, hK⟩ hP1 hP0
  obtain ⟨hR, ⟨fq, rfl, hPR⟩, rfl, rfl, a5, a6, rfl, a8⟩ := id hAR
  have hO := hOS.1
  have hx4 := hO.2.2.2.2.2.2.2.2.2 4 (by omega)
  rw [x_4] at hx4
  have hx5 := hO.2.2.2.2.2.2.2.2.2 5 (by omega)
  rw [x_5] at hx5
  have ht := hOS.2.2.2.2.2
  unfold f_feed at hK
  refine AW.go (bs := b_Appr_feed) [] 90 t_Appr_feed ?_
  refine And.symm (And.intro (fun h => ?_) (fun h => ?_))
  · rw [zn_i, zn_i, iI_add, zc_le (by omega) (by omega) (by omega) (by omega)] at h
    rw [if_pos (by omega)] at hK
    exact hP1 _ _ (hK _ (isA.mk hOS hAR))
  · rw [zn_i, zn_i, iI_add, zc_le (by omega) (by omega) (by omega) (by omega)] at h
    rw [if_neg (by omega)] at hK
    refine ⟨_, v_add l, by decide, tb, S.2.2.2.1, iI a, rfl, rfl, by omega, fun tb1 g1 g2 => ?_⟩
    have h1 := tAdd_eq (T := S.2.2.2) a8 g1 g2
    refine ⟨_, v_add l, by decide, tb1, S.2.2.2.1 + 4, iI b, rfl, rfl, by omega, fun tb2 g1 g2 => ?_⟩
    have h2 := tAdd_eq h1 g1 g2
    refine ⟨_, v_add l, by decide, tb2, S.2.2.2.1 + 4 + 4, iI c, rfl, rfl, by omega, fun tb3 g1 g2 => ?_⟩
    have h3 := tAdd_eq h2 g1 g2
    refine ⟨_, v_add l, by decide, tb3, S.2.2.2.1 + 4 + 4 + 4, iI d, rfl, rfl, by omega, fun tb4 g1 g2 => ?_⟩
    have h4 := tAdd_eq h3 g1 g2
    refine ⟨_, v_add l, by decide, tb4, S.2.2.2.1 + 4 + 4 + 4 + 4, iI e, rfl, rfl, by omega, fun tb5 g1 g2 => ?_⟩
    have h5 := tAdd_eq h4 g1 g2
    show Post _ _
    rw [show ((S.2.2.2.1 + 4 + 4 + 4 + 4 + 4 : Nat) : Int) = (S.2.2.2.1 : Int) + 20 by omega]
    refine hP1 _ _ (hK _ (isA.mk ⟨hOS.1, hOS.2.1, hOS.2.2.1, hOS.2.2.2.1, hOS.2.2.2.2.1, ?_⟩ ⟨hR, ⟨fq, rfl, hPR⟩, rfl, rfl, a5, a6, ?_, h5⟩))
    · show S.2.2.2.1 + 4 + 4 + 4 + 4 + 4 ≤ 400
      omega
    · show iI ((S.2.2.2.1 : Int) + 20) = iI ((S.2.2.2.1 + 4 + 4 + 4 + 4 + 4 : Nat) : Int)
      congr 1
def f_end (S : St) (n : Int) : Int × St := if 0 ≤ n ∧ n ≤ S.2.2.2.1 then (n, (S.1, S.2.1, S.2.2.1, (n.toNat, S.2.2.2.2))) else (-1, S)
set_option maxRecDepth 20000 in
theorem v_end (l : Launch) : z_V l 79 (sp1 40 f_end) := by
  refine z_V.ofP (by decide +kernel) ?_
  rintro as σ K Post ⟨S, ⟨hOS, f, s, t, f1, s1, t1, f2, s2, t2, tb, f3, s3, t3, nu, ln, sp, ls, g, ta, pl, pf, ps, pt, fi, hz, ks, tz, ra, rf, rt, la, lb, lc, mp, mv, mk, mo, my, mw, ma, ml, ak, dy, br, ad, dp, lm, rs, len, rfl, hAR⟩, n, rfl, ⟨n1, n2⟩, hK⟩ hP1 hP0
  obtain ⟨hR, ⟨fq, rfl, hPR⟩, rfl, rfl, a5, a6, rfl, a8⟩ := id hAR
  have hO := hOS.1
  have hx4 := hO.2.2.2.2.2.2.2.2.2 4 (by omega)
  rw [x_4] at hx4
  have hx5 := hO.2.2.2.2.2.2.2.2.2 5 (by omega)
  rw [x_5] at hx5
  have ht := hOS.2.2.2.2.2
  unfold f_end at hK
  have fail : Unit → ¬ (0 ≤ n ∧ n ≤ S.2.2.2.1) → Post (some (.int (iI (-1)))) (wA f s t f1 s1 t1 f2 s2 t2 tb f3 s3 t3 nu ln sp ls g ta pl pf ps pt (iI fq) (iI S.2.1.length) (iI (kmask S.2.2.1 : Nat)) (iI S.2.2.2.1) ra rf rt la lb lc mp mv mk mo my mw ma ml ak dy br ad dp lm rs len) := by
    intro _ hn; rw [if_neg hn] at hK; exact hP1 _ _ (hK _ (isA.mk hOS hAR))
  refine AW.go (bs := b_Appr_end) [] 60 t_Appr_end ?_
  refine And.intro (fun h => ?_) (fun h => ?_)
  · rw [zc_lt0 n1 n2] at h; exact fail () (by omega)
  rw [zc_lt0 n1 n2] at h
  refine And.symm (And.intro (fun h => ?_) (fun h => ?_))
  · rw [zc_le n1 n2 (by omega) (by omega)] at h; exact fail () (by omega)
  · rw [zc_le n1 n2 (by omega) (by omega)] at h
    rw [if_pos (by omega)] at hK
    refine hP1 _ _ (hK _ (isA.mk ⟨hOS.1, hOS.2.1, hOS.2.2.1, hOS.2.2.2.1, hOS.2.2.2.2.1, ?_⟩ ⟨hR, ⟨fq, rfl, hPR⟩, rfl, rfl, a5, a6, ?_, fun i hi => a8 i ?_⟩))
    · show n.toNat ≤ 400; omega
    · show iI n = iI ((n.toNat : Nat) : Int); congr 1; omega
    · replace hi : i < n.toNat := hi
      omega
end
section
theorem rq_ok {M : Od} (hO : OKM M) {r : Nat} (hr : r < M.1 5) : (∀ e ∈ rq M r, rOK e) ∧ (rq M r).length ≤ 12 := routeF_ok hO (mtR_ok hO hr) _ 12 _ _ (by have := hO.2.2.2.2.2.1 r hr; omega)
noncomputable def refF (M : Od) (r y : Int) : Int := if 0 ≤ r ∧ r < M.1 5 ∧ 0 ≤ y ∧ y ≤ 999 ∧ M.2.1 5 r.toNat 5 ≤ y then (if M.2.1 5 r.toNat 6 ≠ -2 then -2 else if lC (rq M r.toNat) (wq M r.toNat) 4 = 0 ∧ lC (rq M r.toNat) (wq M r.toNat) 1 ≤ y then -3 else 0) else -1
def sp_refusal : Sp := spA 34 (fun S as K => ∃ (r y : Int), as = [.ref 0, .int (iI r), .int (iI y)] ∧ ir r ∧ ir y ∧ K (some (.int (iI (refF S.1 r y)))) S)
set_option maxRecDepth 20000 in
theorem v_refusal (l : Launch) : z_V l 133 sp_refusal := by
  refine z_V.ofP (by decide +kernel) ?_
  rintro as σ K Post ⟨S, ⟨hOS, f, s, t, f1, s1, t1, f2, s2, t2, tb, f3, s3, t3, nu, ln, sp, ls, g, ta, pl, pf, ps, pt, fi, hz, ks, tz, ra, rf, rt, la, lb, lc, mp, mv, mk, mo, my, mw, ma, ml, ak, dy, br, ad, dp, lm, rs, len, rfl, hAR⟩, r, y, rfl, ⟨r1, r2⟩, ⟨y1, y2⟩, hK⟩ hP1 hP0
  obtain ⟨hR, ⟨fq, rfl, hPR⟩, rfl, rfl, a5, a6, rfl, a8⟩ := id hAR
  have hO := hOS.1
  have hx4 := hO.2.2.2.2.2.2.2.2.2 4 (by omega)
  rw [x_4] at hx4
  have hx5 := hO.2.2.2.2.2.2.2.2.2 5 (by omega)
  rw [x_5] at hx5
  unfold refF at hK
  have fail : Unit → ¬ (0 ≤ r ∧ r < S.1.1 5 ∧ 0 ≤ y ∧ y ≤ 999 ∧ S.1.2.1 5 r.toNat 5 ≤ y) → Post (some (.int (iI (-1)))) (wA f s t f1 s1 t1 f2 s2 t2 tb f3 s3 t3 nu ln sp ls g ta pl pf ps pt (iI fq) (iI S.2.1.length) (iI (kmask S.2.2.1 : Nat)) (iI S.2.2.2.1) ra rf rt la lb lc mp mv mk mo my mw ma ml ak dy br ad dp lm rs len) := by
    intro _ hn; rw [if_neg hn] at hK; exact hP1 _ _ (hK _ (isA.mk hOS hAR))
  refine AW.go (bs := b_Appr_refusalOfRecall) [] 90 t_Appr_refusalOfRecall ?_
  refine ⟨_, v_has l, by decide, f, s, t, rfl, S.1, 5, r, rfl, hR, by omega, ⟨r1, r2⟩, ?_⟩
  refine And.intro (fun h => ?_) (fun h => ?_)
  · rw [zc_beq, decide_eq_false_iff_not] at h; exact fail () (by omega)
  rw [zc_beq, decide_eq_false_iff_not, Classical.not_not] at h
  refine ⟨_, v_isDay l, by decide, rfl, y, rfl, ⟨y1, y2⟩, ?_⟩
  refine And.intro (fun h => ?_) (fun h => ?_)
  · rw [zc_beq, decide_eq_false_iff_not] at h; exact fail () (by omega)
  rw [zc_beq, decide_eq_false_iff_not, Classical.not_not] at h
  obtain ⟨k, rfl⟩ : ∃ k : Nat, r = (k : Int) := ⟨r.toNat, by omega⟩
  rw [Int.toNat_natCast] at fail hK
  have hr : k < S.1.1 5 := by omega
  have hc := hO.2.2.2.2.2.1 k hr
  have hw := whF_rng hO hr (S.1.2.1 5 k 5)
  have hwq : 1 ≤ wq S.1 k ∧ wq S.1 k ≤ 500000 := hw
  have hq := rq_ok hO hr
  refine ⟨_, v_cell l, by decide, f, s, t, rfl, S.1, 5, k, 5, rfl, hR, by omega, hr, by decide, ?_⟩
  refine And.symm (And.intro (fun h => ?_) (fun h => ?_))
  · rw [zc_ge y1 y2 (by omega) (by omega)] at h; exact fail () (by omega)
  rw [zc_ge y1 y2 (by omega) (by omega)] at h
  rw [if_pos (by omega)] at hK
  refine ⟨_, v_isRecalled l, by decide, f, s, t, rfl, S.1, k, rfl, hR, hO, hr, ?_⟩
  refine And.symm (And.intro (fun h => ?_) (fun h => ?_))
  · rw [zc_beq, decide_eq_false_iff_not, Classical.not_not] at h
    rw [if_pos h] at hK
    exact hP1 _ _ (hK _ (isA.mk hOS hAR))
  rw [zc_beq, decide_eq_false_iff_not] at h
  rw [if_neg h] at hK
  show ∃ sp : Sp, _
  refine callA (fun _ => rfl) (v_matterOf l) (by decide) rfl ⟨_, _, _, _, _, _, _, _, _, _, _, _, _, _, _, _, _, _, _, _, _, _, _, _, _, _, _, _, _, _, _, _, _, _, _, _, _, _, _, _, _, _, _, _, _, _, _, _, _, S.1, k, rfl, rfl, hR, hO, hr, kkR isW isW ?_⟩
  refine ⟨_, v_follow l, by decide, _, _, _, f, s, t, S.1, mtR S.1 k, S.1.2.1 5 k 1, S.1.2.1 5 k 5, wq S.1 k, _, _, _, _, _, _, _, _, rfl, rfl, hR, hO, mtR_ok hO hr, ⟨by omega, by omega⟩, by omega, by omega, ⟨by omega, by omega⟩, fun sp' ls' ln' ak' dy' br' ad' dp' lm' rs' hRR => ?_⟩
  have hl1 := lC_rng hq.1 (wq S.1 k) 1
  refine ⟨_, v_isApproved l, by decide, _, _, _, _, _, _, _, _, _, _, _, _, _, wq S.1 k, rq S.1 k, rfl, hRR, hq.2, hq.1, rfl, ?_⟩
  refine And.intro (fun h => ?_) (fun h => ?_)
  · rw [zc_beq, decide_eq_false_iff_not] at h
    rw [if_neg (fun q => h q.1)] at hK
    exact hP1 _ _ (hK _ (isA.mk hOS hAR))
  rw [zc_beq, decide_eq_false_iff_not, Classical.not_not] at h
  refine ⟨_, v_lastCell l, by decide, _, _, _, _, _, _, _, _, _, _, _, _, _, wq S.1 k, rq S.1 k, rfl, hRR, hq.2, 1, rfl, by omega, ?_⟩
  refine And.intro (fun h2 => ?_) (fun h2 => ?_)
  · rw [zc_gt (by omega) (by omega) y1 y2] at h2
    rw [if_neg (fun q => by omega)] at hK
    exact hP1 _ _ (hK _ (isA.mk hOS hAR))
  · rw [zc_gt (by omega) (by omega) y1 y2] at h2
    rw [if_pos ⟨h, by omega⟩] at hK
    exact hP1 _ _ (hK _ (isA.mk hOS hAR))
theorem refF_rng (M : Od) (r y : Int) : -3 ≤ refF M r y ∧ refF M r y ≤ 0 := by
  unfold refF
  split <;> (try split) <;> (try split) <;> omega
theorem refF_0 {M : Od} {r y : Int} (h : refF M r y = 0) : 0 ≤ r ∧ r < M.1 5 ∧ 0 ≤ y ∧ y ≤ 999 ∧ M.2.1 5 r.toNat 5 ≤ y ∧ M.2.1 5 r.toNat 6 = -2 := by
  unfold refF at h
  split at h
  · next g =>
    split at h
    · omega
    · next g2 => exact ⟨g.1, g.2.1, g.2.2.1, g.2.2.2.1, g.2.2.2.2, by omega⟩
  · omega
noncomputable def f_recall (S : St) (r y : Int) : Int × St := if refF S.1 r y = 0 then (1, act S (oPut S.1 5 r.toNat 6 y)) else (refF S.1 r y, S)
theorem oPut6_ok {M : Od} (hO : OKM M) {r : Nat} {y : Int} (hr : r < M.1 5) (h1 : M.2.1 5 r 5 ≤ y) (h2 : y ≤ 999) : OKM (oPut M 5 r 6 y) := by
  refine oPut_ok hO ?_
  have h := hO.2.2.2.2.2.1 r hr
  show 0 ≤ M.2.1 5 r 0 ∧ M.2.1 5 r 0 < 16 ∧ 0 ≤ M.2.1 5 r 1 ∧ M.2.1 5 r 1 < M.1 4 ∧ 0 ≤ M.2.1 5 r 2 ∧ M.2.1 5 r 2 < 10 ∧ 0 ≤ M.2.1 5 r 3 ∧ M.2.1 5 r 3 < 3 ∧ 1 ≤ M.2.1 5 r 4 ∧ M.2.1 5 r 4 ≤ 9999 ∧ 0 ≤ M.2.1 5 r 5 ∧ M.2.1 5 r 5 ≤ 999 ∧ (y = -2 ∨ (0 ≤ y ∧ y ≤ 999))
  omega
set_option maxRecDepth 20000 in
theorem v_recall (l : Launch) : z_V l 82 (sp2 40 f_recall) := by
  refine z_V.ofP (by decide +kernel) ?_
  rintro as σ K Post ⟨S, hA, r, y, rfl, ⟨r1, r2⟩, ⟨y1, y2⟩, hK⟩ hP1 hP0
  have hA0 := hA
  obtain ⟨hOS, f, s, t, f1, s1, t1, f2, s2, t2, tb, f3, s3, t3, nu, ln, sp, ls, g, ta, pl, pf, ps, pt, fi, hz, ks, tz, ra, rf, rt, la, lb, lc, mp, mv, mk, mo, my, mw, ma, ml, ak, dy, br, ad, dp, lm, rs, len, rfl, hAR⟩ := hA
  unfold f_recall at hK
  have hf := refF_rng S.1 r y
  refine AW.go (bs := b_Appr_recall) [] 60 t_Appr_recall ?_
  show ∃ sp : Sp, _
  refine callA (fun _ => rfl) (v_refusal l) (by decide) rfl ⟨S, hA0, r, y, rfl, ⟨r1, r2⟩, ⟨y1, y2⟩, fun σ' hA' => kkA isW hA'.w ?_⟩
  clear hA0 hAR hOS
  obtain ⟨hOS, f, s, t, f1, s1, t1, f2, s2, t2, tb, f3, s3, t3, nu, ln, sp, ls, g, ta, pl, pf, ps, pt, fi, hz, ks, tz, ra, rf, rt, la, lb, lc, mp, mv, mk, mo, my, mw, ma, ml, ak, dy, br, ad, dp, lm, rs, len, rfl, hAR⟩ := hA'
  obtain ⟨hR, ⟨fq, rfl, hPR⟩, rfl, rfl, a5, a6, rfl, a8⟩ := id hAR
  have hO := hOS.1
  have hx4 := hO.2.2.2.2.2.2.2.2.2 4 (by omega)
  rw [x_4] at hx4
  have hx5 := hO.2.2.2.2.2.2.2.2.2 5 (by omega)
  rw [x_5] at hx5
  refine And.symm (And.intro (fun h => ?_) (fun h => ?_))
  · rw [zc_eq0 (by omega) (by omega)] at h
    rw [if_neg h] at hK
    exact hP1 _ _ (hK _ (isA.mk hOS hAR))
  rw [zc_eq0 (by omega) (by omega)] at h
  rw [if_pos h] at hK
  have g := refF_0 h
  obtain ⟨k, rfl⟩ : ∃ k : Nat, r = (k : Int) := ⟨r.toNat, by omega⟩
  rw [Int.toNat_natCast] at hK g
  refine ⟨_, v_remember l, by decide, pf, ps, pt, fq, S.2.1, f, s, t, S.1, rfl, rfl, hR, hPR, fun pf' ps' pt' q' hPR' => ?_⟩
  refine ⟨_, v_put l, by decide, f, s, t, rfl, 5, k, 6, _, rfl, by omega, by rw [x_5]; omega, by decide, ?_⟩
  exact hP1 _ _ (hK _ (isA.mk (act_ok hOS (oPut6_ok hO (by omega) (by omega) (by omega))) (hAR.act (hR.put (by omega) (by omega) (by decide) y) hPR')))
noncomputable def f_amend (S : St) (r a y : Int) : Int × St := if refF S.1 r y = -1 ∨ ¬ (1 ≤ a ∧ a ≤ 9999) then (-1, S) else if 40 ≤ S.1.1 5 then (-2, S) else if refF S.1 r y ≠ 0 then (refF S.1 r y, S) else
  ((S.1.1 5 : Int), act S (oAdd (oPut S.1 5 r.toNat 6 y) 5 (fun i => [S.1.2.1 5 r.toNat 0, S.1.2.1 5 r.toNat 1, S.1.2.1 5 r.toNat 2, S.1.2.1 5 r.toNat 3, a, y, -2].getD i 0)))
set_option maxRecDepth 20000 in
theorem v_amend (l : Launch) : z_V l 83 (sp3 40 f_amend) := by
  refine z_V.ofP (by decide +kernel) ?_
  rintro as σ K Post ⟨S, hA, r, a, y, rfl, ⟨r1, r2⟩, ⟨a1, a2⟩, ⟨y1, y2⟩, hK⟩ hP1 hP0
  have hA0 := hA
  obtain ⟨hOS, f, s, t, f1, s1, t1, f2, s2, t2, tb, f3, s3, t3, nu, ln, sp, ls, g, ta, pl, pf, ps, pt, fi, hz, ks, tz, ra, rf, rt, la, lb, lc, mp, mv, mk, mo, my, mw, ma, ml, ak, dy, br, ad, dp, lm, rs, len, rfl, hAR⟩ := hA
  unfold f_amend at hK
  have hf := refF_rng S.1 r y
  refine AW.go (bs := b_Appr_amend) [] 90 t_Appr_amend ?_
  show ∃ sp : Sp, _
  refine callA (fun _ => rfl) (v_refusal l) (by decide) rfl ⟨S, hA0, r, y, rfl, ⟨r1, r2⟩, ⟨y1, y2⟩, fun σ' hA' => kkA isW hA'.w ?_⟩
  clear hA0 hAR hOS
  obtain ⟨hOS, f, s, t, f1, s1, t1, f2, s2, t2, tb, f3, s3, t3, nu, ln, sp, ls, g, ta, pl, pf, ps, pt, fi, hz, ks, tz, ra, rf, rt, la, lb, lc, mp, mv, mk, mo, my, mw, ma, ml, ak, dy, br, ad, dp, lm, rs, len, rfl, hAR⟩ := hA'
  obtain ⟨hR, ⟨fq, rfl, hPR⟩, rfl, rfl, a5, a6, rfl, a8⟩ := id hAR
  have hO := hOS.1
  have hx4 := hO.2.2.2.2.2.2.2.2.2 4 (by omega)
  rw [x_4] at hx4
  have hx5 := hO.2.2.2.2.2.2.2.2.2 5 (by omega)
  rw [x_5] at hx5
  refine And.intro (fun h => ?_) (fun h => ?_)
  · have h := (zc_eq (b := -1) (by omega) (by omega) (by omega) (by omega)).mp h
    rw [if_pos (Or.inl h)] at hK
    exact hP1 _ _ (hK _ (isA.mk hOS hAR))
  have h1 := mt (zc_eq (b := -1) (by omega) (by omega) (by omega) (by omega)).mpr h
  refine ⟨_, v_isAmount l, by decide, rfl, a, rfl, ⟨a1, a2⟩, ?_⟩
  refine And.symm (And.intro (fun h => ?_) (fun h => ?_))
  · rw [zc_bne, decide_eq_true_eq] at h
    rw [if_pos (Or.inr h)] at hK
    exact hP1 _ _ (hK _ (isA.mk hOS hAR))
  rw [zc_bne, decide_eq_true_eq] at h
  rw [if_neg (fun q => by omega)] at hK
  refine ⟨_, v_isFull l, by decide, f, s, t, rfl, S.1, 5, rfl, hR, by omega, ?_⟩
  refine And.symm (And.intro (fun h => ?_) (fun h => ?_))
  · rw [zc_beq, decide_eq_false_iff_not, Classical.not_not, x_5] at h
    rw [if_pos h] at hK
    exact hP1 _ _ (hK _ (isA.mk hOS hAR))
  rw [zc_beq, decide_eq_false_iff_not, x_5] at h
  rw [if_neg h] at hK
  refine And.symm (And.intro (fun h => ?_) (fun h => ?_))
  · rw [zc_eq0 (by omega) (by omega)] at h
    rw [if_pos h] at hK
    exact hP1 _ _ (hK _ (isA.mk hOS hAR))
  rw [zc_eq0 (by omega) (by omega)] at h
  rw [if_neg (fun q => q h)] at hK
  have g := refF_0 h
  obtain ⟨k, rfl⟩ : ∃ k : Nat, r = (k : Int) := ⟨r.toNat, by omega⟩
  rw [Int.toNat_natCast] at hK g
  have hr : k < S.1.1 5 := by omega
  have hc := hO.2.2.2.2.2.1 k hr
  have hR2 := hR.put (d := 5) (c := 6) (by omega) hr (by decide) y
  have hO2 := oPut6_ok hO hr (y := y) (by omega) (by omega)
  have ec : ∀ c, c < 6 → (oPut S.1 5 k 6 y).2.1 5 k c = S.1.2.1 5 k c := fun c hc => by
    show (if 5 = 5 ∧ k = k ∧ c = 6 then y else S.1.2.1 5 k c) = _
    rw [if_neg (by omega)]
  refine ⟨_, v_remember l, by decide, pf, ps, pt, fq, S.2.1, f, s, t, S.1, rfl, rfl, hR, hPR, fun pf' ps' pt' q' hPR' => ?_⟩
  refine ⟨_, v_put l, by decide, f, s, t, rfl, 5, k, 6, _, rfl, by omega, by rw [x_5]; omega, by decide, ?_⟩
  refine ⟨_, v_cell l, by decide, _, s, t, rfl, oPut S.1 5 k 6 y, 5, k, 0, rfl, hR2, by omega, hr, by decide, ?_⟩
  refine ⟨_, v_cell l, by decide, _, s, t, rfl, oPut S.1 5 k 6 y, 5, k, 1, rfl, hR2, by omega, hr, by decide, ?_⟩
  refine ⟨_, v_cell l, by decide, _, s, t, rfl, oPut S.1 5 k 6 y, 5, k, 2, rfl, hR2, by omega, hr, by decide, ?_⟩
  refine ⟨_, v_cell l, by decide, _, s, t, rfl, oPut S.1 5 k 6 y, 5, k, 3, rfl, hR2, by omega, hr, by decide, ?_⟩
  show ∃ sp : Sp, _
  rw [ec 0 (by omega), ec 1 (by omega), ec 2 (by omega), ec 3 (by omega)]
  refine ⟨_, v_addRequest l, by decide, _, s, t, rfl, oPut S.1 5 k 6 y, _, _, _, _, a, y, rfl, hR2, by show S.1.1 5 < 40; omega, fun f' s' hR' => ?_⟩
  refine hP1 _ _ (hK _ (isA.mk (act_ok hOS (oAdd_ok hO2 (by omega) (by rw [x_5]; show S.1.1 5 < 40; omega) ?_)) (hAR.act hR' hPR')))
  show 0 ≤ S.1.2.1 5 k 0 ∧ S.1.2.1 5 k 0 < 16 ∧ 0 ≤ S.1.2.1 5 k 1 ∧ S.1.2.1 5 k 1 < S.1.1 4 ∧ 0 ≤ S.1.2.1 5 k 2 ∧ S.1.2.1 5 k 2 < 10 ∧ 0 ≤ S.1.2.1 5 k 3 ∧ S.1.2.1 5 k 3 < 3 ∧ 1 ≤ a ∧ a ≤ 9999 ∧ 0 ≤ y ∧ y ≤ 999 ∧ ((-2 : Int) = -2 ∨ _)
  refine ⟨by omega, by omega, by omega, by omega, by omega, by omega, by omega, by omega, by omega, by omega, by omega, by omega, Or.inl rfl⟩
end
section
/-! Long.bitCount, byte by byte -/
theorem and_split {x y u v : Nat} (hy : y < 256) (hv : v < 256) : (256 * x + y) &&& (256 * u + v) = 256 * (x &&& u) + (y &&& v) := by
  have hyv : y &&& v < 2 ^ 8 := Nat.lt_of_le_of_lt Nat.and_le_left hy
  apply Nat.eq_of_testBit_eq
  intro i
  rw [Nat.testBit_and, show (256 : Nat) = 2 ^ 8 from rfl, Nat.testBit_two_pow_mul_add x (show y < 2 ^ 8 from hy), Nat.testBit_two_pow_mul_add u (show v < 2 ^ 8 from hv), Nat.testBit_two_pow_mul_add (x &&& u) hyv]
  split
  · rw [Nat.testBit_and]
  · rw [Nat.testBit_and]
/-- the three steps on k bytes -/
def mk5 : Nat → Nat
  | 0 => 0
  | k + 1 => 256 * mk5 k + 85
def mk3 : Nat → Nat
  | 0 => 0
  | k + 1 => 256 * mk3 k + 51
def mkF : Nat → Nat
  | 0 => 0
  | k + 1 => 256 * mkF k + 15
def sb1 (k n : Nat) : Nat := n - ((n / 2) &&& mk5 k)
def sb2 (k n : Nat) : Nat := (n &&& mk3 k) + ((n / 4) &&& mk3 k)
def sb3 (k n : Nat) : Nat := (n + n / 16) &&& mkF k
theorem mk5_le (k n : Nat) : (n / 2) &&& mk5 k ≤ n := Nat.le_trans Nat.and_le_left (Nat.div_le_self n 2)
theorem t1b : ∀ b, b < 256 → ∀ c, c < 2 → ((128 * c + b / 2) &&& 85 = (b / 2) &&& 85) ∧ b - ((b / 2) &&& 85) < 256 := by decide +kernel
theorem sb1_split (k h : Nat) {b : Nat} (hb : b < 256) : sb1 (k + 1) (256 * h + b) = 256 * sb1 k h + (b - ((b / 2) &&& 85)) := by
  unfold sb1
  have e : (256 * h + b) / 2 = 256 * (h / 2) + (128 * (h % 2) + b / 2) := by omega
  have h1 := (t1b b hb (h % 2) (Nat.mod_lt _ (by decide))).1
  have h2 := mk5_le k h
  have h3 : (b / 2) &&& 85 ≤ b := Nat.le_trans Nat.and_le_left (Nat.div_le_self b 2)
  rw [e, mk5, and_split (by omega) (by omega), h1]
  omega
theorem t2b : ∀ b, b < 256 → ∀ c, c < 4 → ((64 * c + b / 4) &&& 51 = (b / 4) &&& 51) ∧ (b &&& 51) + ((b / 4) &&& 51) < 256 := by decide +kernel
theorem sb2_split (k h : Nat) {b : Nat} (hb : b < 256) : sb2 (k + 1) (256 * h + b) = 256 * sb2 k h + ((b &&& 51) + ((b / 4) &&& 51)) := by
  unfold sb2
  have e : (256 * h + b) / 4 = 256 * (h / 4) + (64 * (h % 4) + b / 4) := by omega
  have h1 := (t2b b hb (h % 4) (Nat.mod_lt _ (by decide))).1
  rw [e, mk3, and_split hb (by omega), and_split (by omega) (by omega), h1]
  omega
/-- a byte whose halves are small -/
theorem t3b : ∀ b, b < 256 → b % 16 ≤ 4 → b / 16 ≤ 4 → ∀ c, c < 5 → ((16 * c + b + b / 16) % 256 &&& 15 = (b + b / 16) &&& 15) ∧ 16 * c + b + b / 16 < 256 := by decide +kernel
theorem sb3_split (k h : Nat) {b : Nat} (hb : b < 256) (hb1 : b % 16 ≤ 4) (hb2 : b / 16 ≤ 4) (hh : h % 16 ≤ 4) : sb3 (k + 1) (256 * h + b) = 256 * sb3 k h + ((b + b / 16) &&& 15) := by
  unfold sb3
  have h1 := t3b b hb hb1 hb2 (h % 16) (by omega)
  have e : 256 * h + b + (256 * h + b) / 16 = 256 * (h + h / 16) + (16 * (h % 16) + b + b / 16) := by omega
  rw [e, mkF, and_split h1.2 (by omega)]
  have h2 := h1.1
  rw [Nat.mod_eq_of_lt h1.2] at h2
  rw [h2]
/-- the bits of a byte -/
def pc (b : Nat) : Nat := cntF b.testBit 8
def b1 (b : Nat) : Nat := b - ((b / 2) &&& 85)
def b2 (b : Nat) : Nat := (b &&& 51) + ((b / 4) &&& 51)
theorem tby : ∀ b, b < 256 → b1 b < 256 ∧ b2 (b1 b) < 256 ∧ b2 (b1 b) % 16 ≤ 4 ∧ b2 (b1 b) / 16 ≤ 4 ∧ ((b2 (b1 b) + b2 (b1 b) / 16) &&& 15) = pc b ∧ pc b ≤ 8 := by decide +kernel
theorem cntF_split (P : Nat → Bool) (a : Nat) : ∀ n, cntF P (a + n) = cntF P a + cntF (fun i => P (a + i)) n
  | 0 => rfl
  | n + 1 => by
    show cntF P ((a + n) + 1) = _
    rw [cntF, cntF, cntF_split P a n]
    split <;> omega
theorem cntF_ext {P Q : Nat → Bool} : ∀ {n : Nat}, (∀ i, i < n → P i = Q i) → cntF P n = cntF Q n
  | 0, _ => rfl
  | n + 1, h => by
    rw [cntF, cntF, h n (by omega), cntF_ext (n := n) (fun i hi => h i (by omega))]
theorem pc_split (h : Nat) {b : Nat} (hb : b < 256) (n : Nat) : cntF (256 * h + b).testBit (8 + n) = pc b + cntF h.testBit n := by
  rw [cntF_split]
  have t : ∀ i, (256 * h + b).testBit i = if i < 8 then b.testBit i else h.testBit (i - 8) := fun i => Nat.testBit_two_pow_mul_add h (show b < 2 ^ 8 from hb) i
  congr 1
  · exact cntF_ext (fun i hi => by rw [t, if_pos hi])
  · refine cntF_ext (fun i _ => ?_)
    rw [t, if_neg (by omega)]
    congr 1; omega
/-- five bytes -/
theorem bits5 {n : Nat} (hn : n < 2 ^ 40) : ∃ c0 c1 c2 c3 c4 : Nat, c0 ≤ 8 ∧ c1 ≤ 8 ∧ c2 ≤ 8 ∧ c3 ≤ 8 ∧ c4 ≤ 8 ∧ sb3 8 (sb2 8 (sb1 8 n)) = c0 + 256 * c1 + 65536 * c2 + 16777216 * c3 + 4294967296 * c4 ∧ cntF n.testBit 62 = c0 + c1 + c2 + c3 + c4 := by
  have z1 : ∀ k, sb1 k 0 = 0 := fun k => by unfold sb1; simp
  have z2 : ∀ k, sb2 k 0 = 0 := fun k => by unfold sb2; simp
  have z3 : ∀ k, sb3 k 0 = 0 := fun k => by unfold sb3; simp
  obtain ⟨a0, e0⟩ : ∃ a, a = n % 256 := ⟨_, rfl⟩
  obtain ⟨a1, e1⟩ : ∃ a, a = n / 256 % 256 := ⟨_, rfl⟩
  obtain ⟨a2, e2⟩ : ∃ a, a = n / 65536 % 256 := ⟨_, rfl⟩
  obtain ⟨a3, e3⟩ : ∃ a, a = n / 16777216 % 256 := ⟨_, rfl⟩
  obtain ⟨a4, e4⟩ : ∃ a, a = n / 4294967296 := ⟨_, rfl⟩
  have l0 : a0 < 256 := by omega
  have l1 : a1 < 256 := by omega
  have l2 : a2 < 256 := by omega
  have l3 : a3 < 256 := by omega
  have l4 : a4 < 256 := by omega
  have en : n = 256 * (256 * (256 * (256 * (256 * 0 + a4) + a3) + a2) + a1) + a0 := by omega
  obtain ⟨x0, y0, u0, v0, w0, p0⟩ := tby a0 l0
  obtain ⟨x1, y1, u1, v1, w1, p1⟩ := tby a1 l1
  obtain ⟨x2, y2, u2, v2, w2, p2⟩ := tby a2 l2
  obtain ⟨x3, y3, u3, v3, w3, p3⟩ := tby a3 l3
  obtain ⟨x4, y4, u4, v4, w4, p4⟩ := tby a4 l4
  have f1 : sb1 8 n = 256 * (256 * (256 * (256 * (256 * 0 + b1 a4) + b1 a3) + b1 a2) + b1 a1) + b1 a0 := by
    rw [en, sb1_split 7 _ l0, sb1_split 6 _ l1, sb1_split 5 _ l2, sb1_split 4 _ l3, sb1_split 3 _ l4, z1]; rfl
  have f2 : sb2 8 (sb1 8 n) = 256 * (256 * (256 * (256 * (256 * 0 + b2 (b1 a4)) + b2 (b1 a3)) + b2 (b1 a2)) + b2 (b1 a1)) + b2 (b1 a0) := by
    rw [f1, sb2_split 7 _ x0, sb2_split 6 _ x1, sb2_split 5 _ x2, sb2_split 4 _ x3, sb2_split 3 _ x4, z2]; rfl
  have f3 : sb3 8 (sb2 8 (sb1 8 n)) = 256 * (256 * (256 * (256 * (256 * 0 + pc a4) + pc a3) + pc a2) + pc a1) + pc a0 := by
    rw [f2, sb3_split 7 _ y0 u0 v0 (by omega), sb3_split 6 _ y1 u1 v1 (by omega), sb3_split 5 _ y2 u2 v2 (by omega), sb3_split 4 _ y3 u3 v3 (by omega), sb3_split 3 _ y4 u4 v4 (by omega), z3, w0, w1, w2, w3, w4]
  refine ⟨pc a0, pc a1, pc a2, pc a3, pc a4, p0, p1, p2, p3, p4, by rw [f3]; omega, ?_⟩
  have hz : cntF (0 : Nat).testBit 22 = 0 := by decide
  rw [en, show (62 : Nat) = 8 + (8 + (8 + (8 + (8 + 22)))) from rfl, pc_split _ l0, pc_split _ l1, pc_split _ l2, pc_split _ l3, pc_split _ l4, hz]
  omega
theorem zl_ushr {n k : Nat} (hn : n < 2 ^ 63) (hk : k < 64) : ((lN n).toUInt64 >>> ((nI k).toInt64.toUInt64 &&& Int64.toUInt64 63)).toInt64 = lN (n / 2 ^ k) := by
  have hc : ∀ k, k < 64 → ((nI k).toInt64.toUInt64 &&& Int64.toUInt64 63) = UInt64.ofNat k := by decide +kernel
  rw [hc k hk]
  apply zl_inj
  show ((lN n).toUInt64 >>> UInt64.ofNat k).toBitVec = BitVec.ofNat 64 (n / 2 ^ k)
  apply BitVec.eq_of_toNat_eq
  have hd : n / 2 ^ k ≤ n := Nat.div_le_self _ _
  have e1 : (lN n).toUInt64.toNat = n := by
    show (BitVec.ofNat 64 n).toNat = n
    rw [BitVec.toNat_ofNat, Nat.mod_eq_of_lt (by omega)]
  show ((lN n).toUInt64 >>> UInt64.ofNat k).toNat = _
  rw [UInt64.toNat_shiftRight, e1, UInt64.toNat_ofNat', Nat.mod_eq_of_lt (show k < 2 ^ 64 by omega), Nat.mod_eq_of_lt (show k < 64 from hk), Nat.shiftRight_eq_div_pow, BitVec.toNat_ofNat, Nat.mod_eq_of_lt (by omega)]
theorem zl_addN {a b : Nat} : lN a + lN b = lN (a + b) := by
  rw [lI_lN, lI_lN, lI_lN, Int.natCast_add]; exact (Int64.ofInt_add ..).symm
theorem zl_subN {a b : Nat} (h : b ≤ a) : lN a - lN b = lN (a - b) := by
  rw [lI_lN, lI_lN, lI_lN, Int.ofNat_sub h]; exact (Int64.ofInt_sub ..).symm
theorem zl_l2i (x : Nat) : (lN x).toInt32 = nI x := by
  apply Int32.toBitVec_inj.1
  show (BitVec.ofNat 64 x).signExtend 32 = BitVec.ofNat 32 x
  apply BitVec.eq_of_toNat_eq
  rw [BitVec.signExtend_eq_setWidth_of_le _ (by decide), BitVec.toNat_setWidth, BitVec.toNat_ofNat, BitVec.toNat_ofNat, Nat.mod_mod_of_dvd _ (by decide)]
theorem zl_127 (x : Nat) : nI x &&& z_nn 127 0 = iI ((x % 128 : Nat) : Int) := by
  rw [show z_nn 127 0 = nI 127 from (iI_nI 127).symm, ← iI_nI]
  apply Int32.toBitVec_inj.1
  show BitVec.ofNat 32 x &&& BitVec.ofNat 32 127 = BitVec.ofNat 32 (x % 128)
  apply BitVec.eq_of_toNat_eq
  rw [BitVec.toNat_and, BitVec.toNat_ofNat, BitVec.toNat_ofNat, BitVec.toNat_ofNat, show (127 % 2 ^ 32 : Nat) = 2 ^ 7 - 1 from rfl, Nat.and_two_pow_sub_one_eq_mod, Nat.mod_mod_of_dvd _ (by decide : (2 ^ 7 : Nat) ∣ 2 ^ 32), Nat.mod_eq_of_lt (show x % 128 < 2 ^ 32 by omega)]
def sp_bitCount : Sp := sp0 0 (fun as K => ∃ m : Nat, as = [.long (lN m)] ∧ m < 2 ^ 40 ∧ K (some (.int (iI (cntF m.testBit 62 : Nat)))))
set_option maxRecDepth 20000 in
theorem v_bitCount (l : Launch) : z_V l 271 sp_bitCount := by
  refine z_V.ofP (by decide +kernel) ?_
  rintro as σ K Post ⟨rfl, m, rfl, hm, hK⟩ hP1 hP0
  obtain ⟨c0, c1, c2, c3, c4, h0, h1, h2, h3, h4, hT, hC⟩ := bits5 hm
  have k5 : k_lv 6148914691236517205 2 = lN (mk5 8) := by show lN _ = lN _; congr 1
  have k3 : k_lv 3689348814741910323 2 = lN (mk3 8) := by show lN _ = lN _; congr 1
  have kF : k_lv 1085102592571150095 2 = lN (mkF 8) := by show lN _ = lN _; congr 1
  have m5 : mk5 8 < 2 ^ 63 := by decide
  have m3 : mk3 8 < 2 ^ 62 := by decide
  have mF : mkF 8 < 2 ^ 62 := by decide
  have d1 : m / 2 ≤ m := Nat.div_le_self _ _
  have i1 : sb1 8 m ≤ m := Nat.sub_le _ _
  have a2 : sb1 8 m &&& mk3 8 ≤ sb1 8 m := Nat.and_le_left
  have a3 : (sb1 8 m / 4) &&& mk3 8 ≤ sb1 8 m / 4 := Nat.and_le_left
  have i2 : sb2 8 (sb1 8 m) ≤ 2 * m := by unfold sb2; omega
  have sh : ∀ (n t : Nat), n < 2 ^ 63 → t < 64 → ((lN n).toUInt64 >>> ((z_nn t 0).toInt64.toUInt64 &&& Int64.toUInt64 63)).toInt64 = lN (n / 2 ^ t) := fun n t hn ht => by
    rw [show z_nn t 0 = nI t from (iI_nI t).symm]; exact zl_ushr hn ht
  have e1 : lN m - ((((lN m).toUInt64 >>> ((z_nn 1 0).toInt64.toUInt64 &&& Int64.toUInt64 63)).toInt64) &&& lN (mk5 8)) = lN (sb1 8 m) := by
    rw [sh m 1 (by omega) (by omega), zl_and (by omega) (by omega), zl_subN (mk5_le 8 m)]; rfl
  have e2 : (lN (sb1 8 m) &&& lN (mk3 8)) + ((((lN (sb1 8 m)).toUInt64 >>> ((z_nn 2 0).toInt64.toUInt64 &&& Int64.toUInt64 63)).toInt64) &&& lN (mk3 8)) = lN (sb2 8 (sb1 8 m)) := by
    rw [sh _ 2 (by omega) (by omega), zl_and (by omega) (by omega), zl_and (by omega) (by omega), zl_addN]; rfl
  have e3 : (lN (sb2 8 (sb1 8 m)) + ((lN (sb2 8 (sb1 8 m))).toUInt64 >>> ((z_nn 4 0).toInt64.toUInt64 &&& Int64.toUInt64 63)).toInt64) &&& lN (mkF 8) = lN (sb3 8 (sb2 8 (sb1 8 m))) := by
    have := Nat.div_le_self (sb2 8 (sb1 8 m)) (2 ^ 4)
    rw [sh _ 4 (by omega) (by omega), zl_addN, zl_and (by omega) (by omega)]; rfl
  obtain ⟨T, hTe⟩ : ∃ T, T = sb3 8 (sb2 8 (sb1 8 m)) := ⟨_, rfl⟩
  rw [← hTe] at hT e3
  refine AW.go (bs := b_Lng_bitCount) [] 90 t_Lng_bitCount ?_
  show Post _ _
  rw [k5, k3, kF, e1, e2, e3, sh T 8 (by omega) (by omega), zl_addN, sh (T + T / 2 ^ 8) 16 (by omega) (by omega), zl_addN, sh (T + T / 2 ^ 8 + (T + T / 2 ^ 8) / 2 ^ 16) 32 (by omega) (by omega), zl_addN, zl_l2i, zl_127]
  have hfin : (T + T / 2 ^ 8 + (T + T / 2 ^ 8) / 2 ^ 16 + (T + T / 2 ^ 8 + (T + T / 2 ^ 8) / 2 ^ 16) / 2 ^ 32) % 128 = cntF m.testBit 62 := by
    rw [hC, hT]
    have q1 : (c0 + 256 * c1 + 65536 * c2 + 16777216 * c3 + 4294967296 * c4) / 2 ^ 8 = c1 + 256 * c2 + 65536 * c3 + 16777216 * c4 := by omega
    rw [q1]
    have q2 : (c0 + 256 * c1 + 65536 * c2 + 16777216 * c3 + 4294967296 * c4 + (c1 + 256 * c2 + 65536 * c3 + 16777216 * c4)) / 2 ^ 16 = (c2 + c3) + 256 * (c3 + c4) + 65536 * c4 := by omega
    rw [q2]
    have q3 : (c0 + 256 * c1 + 65536 * c2 + 16777216 * c3 + 4294967296 * c4 + (c1 + 256 * c2 + 65536 * c3 + 16777216 * c4) + ((c2 + c3) + 256 * (c3 + c4) + 65536 * c4)) / 2 ^ 32 = c4 := by omega
    rw [q3]
    omega
  rw [hfin]
  exact hP0 _ hK
end
