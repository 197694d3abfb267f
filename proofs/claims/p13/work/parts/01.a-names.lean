-- ===== PART A: goes FIRST, ahead of the names: the tables' words, and 'selects' of the private methods out of them =====
/-- a private method of a class that the tables say can be made, by its rows of tables_1 -/
def lw_okq (q : MethodName × Nat) : Prop := (q.1.cls ≠ "java/lang/invoke/MethodHandle" ∧ q.1.cls ≠ "java/lang/invoke/VarHandle") ∧ Cond.instantiable q.1.cls q.2 ∈ tables_1 ∧ Cond.privateMethod q.1 ∈ tables_1 ∧ Cond.instanceMethod q.1 ∈ tables_1
theorem lw_p0 : lw_okq (⟨"CardIndex$Desk", "beginAct", "(LCardIndex$Act;)V"⟩, 4) := ⟨⟨by decide +kernel, by decide +kernel⟩, List.mem_of_getElem? (i := 24) (by decide +kernel), List.mem_of_getElem? (i := 563) (by decide +kernel), List.mem_of_getElem? (i := 564) (by decide +kernel)⟩
theorem lw_p1 : lw_okq (⟨"CardIndex$Run", "findAble", "(I)I"⟩, 7) := ⟨⟨by decide +kernel, by decide +kernel⟩, List.mem_of_getElem? (i := 324) (by decide +kernel), List.mem_of_getElem? (i := 597) (by decide +kernel), List.mem_of_getElem? (i := 598) (by decide +kernel)⟩
theorem lw_p2 : lw_okq (⟨"CardIndex$Run", "isAble", "(LCardIndex$Clerk;I)Z"⟩, 7) := ⟨⟨by decide +kernel, by decide +kernel⟩, List.mem_of_getElem? (i := 324) (by decide +kernel), List.mem_of_getElem? (i := 601) (by decide +kernel), List.mem_of_getElem? (i := 602) (by decide +kernel)⟩
theorem lw_p3 : lw_okq (⟨"CardIndex$Run", "doStep", "(LCardIndex$Clerk;I)V"⟩, 7) := ⟨⟨by decide +kernel, by decide +kernel⟩, List.mem_of_getElem? (i := 324) (by decide +kernel), List.mem_of_getElem? (i := 625) (by decide +kernel), List.mem_of_getElem? (i := 626) (by decide +kernel)⟩
theorem lw_p4 : lw_okq (⟨"CardIndex$Run", "addMark", "(LCardIndex$Act;II)V"⟩, 7) := ⟨⟨by decide +kernel, by decide +kernel⟩, List.mem_of_getElem? (i := 324) (by decide +kernel), List.mem_of_getElem? (i := 629) (by decide +kernel), List.mem_of_getElem? (i := 630) (by decide +kernel)⟩
theorem lw_p5 : lw_okq (⟨"CardIndex$Run", "endAct", "(LCardIndex$Clerk;LCardIndex$Act;II)V"⟩, 7) := ⟨⟨by decide +kernel, by decide +kernel⟩, List.mem_of_getElem? (i := 324) (by decide +kernel), List.mem_of_getElem? (i := 633) (by decide +kernel), List.mem_of_getElem? (i := 634) (by decide +kernel)⟩
theorem lw_p6 : lw_okq (⟨"CardIndex$Run", "goOn", "(LCardIndex$Clerk;LCardIndex$Act;I)V"⟩, 7) := ⟨⟨by decide +kernel, by decide +kernel⟩, List.mem_of_getElem? (i := 324) (by decide +kernel), List.mem_of_getElem? (i := 637) (by decide +kernel), List.mem_of_getElem? (i := 638) (by decide +kernel)⟩
theorem lw_p7 : lw_okq (⟨"CardIndex$Stripe", "endGrowing", "()V"⟩, 9) := ⟨⟨by decide +kernel, by decide +kernel⟩, List.mem_of_getElem? (i := 70) (by decide +kernel), List.mem_of_getElem? (i := 657) (by decide +kernel), List.mem_of_getElem? (i := 658) (by decide +kernel)⟩
theorem lw_p8 : lw_okq (⟨"CardIndex$Tray", "lookForValue", "(LCardIndex$Act;)Z"⟩, 12) := ⟨⟨by decide +kernel, by decide +kernel⟩, List.mem_of_getElem? (i := 33) (by decide +kernel), List.mem_of_getElem? (i := 695) (by decide +kernel), List.mem_of_getElem? (i := 696) (by decide +kernel)⟩
theorem lw_p9 : lw_okq (⟨"CardIndex$Tray", "lookAtEnds", "(LCardIndex$Act;)Z"⟩, 12) := ⟨⟨by decide +kernel, by decide +kernel⟩, List.mem_of_getElem? (i := 33) (by decide +kernel), List.mem_of_getElem? (i := 701) (by decide +kernel), List.mem_of_getElem? (i := 702) (by decide +kernel)⟩
theorem lw_p10 : lw_okq (⟨"CardIndex$Run", "beginWaiting", "(LCardIndex$Clerk;LCardIndex$Act;I)V"⟩, 7) := ⟨⟨by decide +kernel, by decide +kernel⟩, List.mem_of_getElem? (i := 324) (by decide +kernel), List.mem_of_getElem? (i := 709) (by decide +kernel), List.mem_of_getElem? (i := 710) (by decide +kernel)⟩
theorem lw_p11 : lw_okq (⟨"CardIndex$Tray", "writeMap", "(LCardIndex$Act;)V"⟩, 12) := ⟨⟨by decide +kernel, by decide +kernel⟩, List.mem_of_getElem? (i := 33) (by decide +kernel), List.mem_of_getElem? (i := 725) (by decide +kernel), List.mem_of_getElem? (i := 726) (by decide +kernel)⟩
theorem lw_p12 : lw_okq (⟨"CardIndex$Tray", "writeDeque", "(LCardIndex$Act;)V"⟩, 12) := ⟨⟨by decide +kernel, by decide +kernel⟩, List.mem_of_getElem? (i := 33) (by decide +kernel), List.mem_of_getElem? (i := 753) (by decide +kernel), List.mem_of_getElem? (i := 754) (by decide +kernel)⟩
theorem lw_p13 : lw_okq (⟨"CardIndex$Tray", "writeOnce", "(LCardIndex$Act;)V"⟩, 12) := ⟨⟨by decide +kernel, by decide +kernel⟩, List.mem_of_getElem? (i := 33) (by decide +kernel), List.mem_of_getElem? (i := 765) (by decide +kernel), List.mem_of_getElem? (i := 766) (by decide +kernel)⟩
theorem lw_p14 : lw_okq (⟨"CardIndex$Run", "allEnded", "()Z"⟩, 7) := ⟨⟨by decide +kernel, by decide +kernel⟩, List.mem_of_getElem? (i := 324) (by decide +kernel), List.mem_of_getElem? (i := 782) (by decide +kernel), List.mem_of_getElem? (i := 783) (by decide +kernel)⟩
theorem lw_p15 : lw_okq (⟨"CardIndex$Stripe", "listRows", "([II[II)I"⟩, 9) := ⟨⟨by decide +kernel, by decide +kernel⟩, List.mem_of_getElem? (i := 70) (by decide +kernel), List.mem_of_getElem? (i := 840) (by decide +kernel), List.mem_of_getElem? (i := 841) (by decide +kernel)⟩
def lw_privs_1 : List (MethodName × Nat) := [(⟨"CardIndex$Desk", "beginAct", "(LCardIndex$Act;)V"⟩, 4), (⟨"CardIndex$Run", "findAble", "(I)I"⟩, 7), (⟨"CardIndex$Run", "isAble", "(LCardIndex$Clerk;I)Z"⟩, 7), (⟨"CardIndex$Run", "doStep", "(LCardIndex$Clerk;I)V"⟩, 7), (⟨"CardIndex$Run", "addMark", "(LCardIndex$Act;II)V"⟩, 7), (⟨"CardIndex$Run", "endAct", "(LCardIndex$Clerk;LCardIndex$Act;II)V"⟩, 7), (⟨"CardIndex$Run", "goOn", "(LCardIndex$Clerk;LCardIndex$Act;I)V"⟩, 7), (⟨"CardIndex$Stripe", "endGrowing", "()V"⟩, 9), (⟨"CardIndex$Tray", "lookForValue", "(LCardIndex$Act;)Z"⟩, 12), (⟨"CardIndex$Tray", "lookAtEnds", "(LCardIndex$Act;)Z"⟩, 12), (⟨"CardIndex$Run", "beginWaiting", "(LCardIndex$Clerk;LCardIndex$Act;I)V"⟩, 7), (⟨"CardIndex$Tray", "writeMap", "(LCardIndex$Act;)V"⟩, 12), (⟨"CardIndex$Tray", "writeDeque", "(LCardIndex$Act;)V"⟩, 12), (⟨"CardIndex$Tray", "writeOnce", "(LCardIndex$Act;)V"⟩, 12), (⟨"CardIndex$Run", "allEnded", "()Z"⟩, 7), (⟨"CardIndex$Stripe", "listRows", "([II[II)I"⟩, 9)]
theorem lw_r1 : ∀ q ∈ lw_privs_1, lw_okq q := List.forall_mem_cons.mpr ⟨lw_p0, List.forall_mem_cons.mpr ⟨lw_p1, List.forall_mem_cons.mpr ⟨lw_p2, List.forall_mem_cons.mpr ⟨lw_p3, List.forall_mem_cons.mpr ⟨lw_p4, List.forall_mem_cons.mpr ⟨lw_p5, List.forall_mem_cons.mpr ⟨lw_p6, List.forall_mem_cons.mpr ⟨lw_p7, List.forall_mem_cons.mpr ⟨lw_p8, List.forall_mem_cons.mpr ⟨lw_p9, List.forall_mem_cons.mpr ⟨lw_p10, List.forall_mem_cons.mpr ⟨lw_p11, List.forall_mem_cons.mpr ⟨lw_p12, List.forall_mem_cons.mpr ⟨lw_p13, List.forall_mem_cons.mpr ⟨lw_p14, List.forall_mem_cons.mpr ⟨lw_p15, fun _ h => absurd h List.not_mem_nil⟩⟩⟩⟩⟩⟩⟩⟩⟩⟩⟩⟩⟩⟩⟩⟩
theorem lw_p16 : lw_okq (⟨"CardIndex", "check", "(I)I"⟩, 8) := ⟨⟨by decide +kernel, by decide +kernel⟩, List.mem_of_getElem? (i := 16) (by decide +kernel), List.mem_of_getElem? (i := 885) (by decide +kernel), List.mem_of_getElem? (i := 886) (by decide +kernel)⟩
theorem lw_p17 : lw_okq (⟨"CardIndex$Checker", "gather", "(I)Z"⟩, 13) := ⟨⟨by decide +kernel, by decide +kernel⟩, List.mem_of_getElem? (i := 363) (by decide +kernel), List.mem_of_getElem? (i := 894) (by decide +kernel), List.mem_of_getElem? (i := 895) (by decide +kernel)⟩
theorem lw_p18 : lw_okq (⟨"CardIndex$Checker", "findAhead", "()V"⟩, 13) := ⟨⟨by decide +kernel, by decide +kernel⟩, List.mem_of_getElem? (i := 363) (by decide +kernel), List.mem_of_getElem? (i := 904) (by decide +kernel), List.mem_of_getElem? (i := 905) (by decide +kernel)⟩
theorem lw_p19 : lw_okq (⟨"CardIndex$Cards", "hasSameRow", "(LCardIndex$Cards;)Z"⟩, 5) := ⟨⟨by decide +kernel, by decide +kernel⟩, List.mem_of_getElem? (i := 39) (by decide +kernel), List.mem_of_getElem? (i := 915) (by decide +kernel), List.mem_of_getElem? (i := 916) (by decide +kernel)⟩
theorem lw_p20 : lw_okq (⟨"CardIndex$Cards", "hasSameKeys", "(LCardIndex$Cards;)Z"⟩, 5) := ⟨⟨by decide +kernel, by decide +kernel⟩, List.mem_of_getElem? (i := 39) (by decide +kernel), List.mem_of_getElem? (i := 921) (by decide +kernel), List.mem_of_getElem? (i := 922) (by decide +kernel)⟩
theorem lw_p21 : lw_okq (⟨"CardIndex$Checker", "answersAlike", "(LCardIndex$Act;)Z"⟩, 13) := ⟨⟨by decide +kernel, by decide +kernel⟩, List.mem_of_getElem? (i := 363) (by decide +kernel), List.mem_of_getElem? (i := 925) (by decide +kernel), List.mem_of_getElem? (i := 926) (by decide +kernel)⟩
theorem lw_p22 : lw_okq (⟨"CardIndex$Checker", "keyedOrZero", "(I)I"⟩, 13) := ⟨⟨by decide +kernel, by decide +kernel⟩, List.mem_of_getElem? (i := 363) (by decide +kernel), List.mem_of_getElem? (i := 929) (by decide +kernel), List.mem_of_getElem? (i := 930) (by decide +kernel)⟩
theorem lw_p23 : lw_okq (⟨"CardIndex$Checker", "isKeyed", "(LCardIndex$Act;)Z"⟩, 13) := ⟨⟨by decide +kernel, by decide +kernel⟩, List.mem_of_getElem? (i := 363) (by decide +kernel), List.mem_of_getElem? (i := 938) (by decide +kernel), List.mem_of_getElem? (i := 939) (by decide +kernel)⟩
theorem lw_p24 : lw_okq (⟨"CardIndex$Checker", "dequeAnswersAlike", "(LCardIndex$Act;)Z"⟩, 13) := ⟨⟨by decide +kernel, by decide +kernel⟩, List.mem_of_getElem? (i := 363) (by decide +kernel), List.mem_of_getElem? (i := 946) (by decide +kernel), List.mem_of_getElem? (i := 947) (by decide +kernel)⟩
theorem lw_p25 : lw_okq (⟨"CardIndex$Checker", "onceAnswersAlike", "(LCardIndex$Act;)Z"⟩, 13) := ⟨⟨by decide +kernel, by decide +kernel⟩, List.mem_of_getElem? (i := 363) (by decide +kernel), List.mem_of_getElem? (i := 953) (by decide +kernel), List.mem_of_getElem? (i := 954) (by decide +kernel)⟩
theorem lw_p26 : lw_okq (⟨"CardIndex$Checker", "doWhole", "(LCardIndex$Act;)V"⟩, 13) := ⟨⟨by decide +kernel, by decide +kernel⟩, List.mem_of_getElem? (i := 363) (by decide +kernel), List.mem_of_getElem? (i := 958) (by decide +kernel), List.mem_of_getElem? (i := 959) (by decide +kernel)⟩
theorem lw_p27 : lw_okq (⟨"CardIndex$Checker", "doDeque", "(LCardIndex$Act;)V"⟩, 13) := ⟨⟨by decide +kernel, by decide +kernel⟩, List.mem_of_getElem? (i := 363) (by decide +kernel), List.mem_of_getElem? (i := 966) (by decide +kernel), List.mem_of_getElem? (i := 967) (by decide +kernel)⟩
theorem lw_p28 : lw_okq (⟨"CardIndex$Checker", "takeBack", "(LCardIndex$Act;I)V"⟩, 13) := ⟨⟨by decide +kernel, by decide +kernel⟩, List.mem_of_getElem? (i := 363) (by decide +kernel), List.mem_of_getElem? (i := 972) (by decide +kernel), List.mem_of_getElem? (i := 973) (by decide +kernel)⟩
theorem lw_p29 : lw_okq (⟨"CardIndex$Checker", "takeBackDeque", "(LCardIndex$Act;)V"⟩, 13) := ⟨⟨by decide +kernel, by decide +kernel⟩, List.mem_of_getElem? (i := 363) (by decide +kernel), List.mem_of_getElem? (i := 976) (by decide +kernel), List.mem_of_getElem? (i := 977) (by decide +kernel)⟩
theorem lw_p30 : lw_okq (⟨"CardIndex$Explorer", "areSame", "(III)Z"⟩, 8) := ⟨⟨by decide +kernel, by decide +kernel⟩, List.mem_of_getElem? (i := 414) (by decide +kernel), List.mem_of_getElem? (i := 1014) (by decide +kernel), List.mem_of_getElem? (i := 1015) (by decide +kernel)⟩
theorem lw_p31 : lw_okq (⟨"CardIndex$Explorer", "planNext", "()Z"⟩, 8) := ⟨⟨by decide +kernel, by decide +kernel⟩, List.mem_of_getElem? (i := 414) (by decide +kernel), List.mem_of_getElem? (i := 1018) (by decide +kernel), List.mem_of_getElem? (i := 1019) (by decide +kernel)⟩
def lw_privs_2 : List (MethodName × Nat) := [(⟨"CardIndex", "check", "(I)I"⟩, 8), (⟨"CardIndex$Checker", "gather", "(I)Z"⟩, 13), (⟨"CardIndex$Checker", "findAhead", "()V"⟩, 13), (⟨"CardIndex$Cards", "hasSameRow", "(LCardIndex$Cards;)Z"⟩, 5), (⟨"CardIndex$Cards", "hasSameKeys", "(LCardIndex$Cards;)Z"⟩, 5), (⟨"CardIndex$Checker", "answersAlike", "(LCardIndex$Act;)Z"⟩, 13), (⟨"CardIndex$Checker", "keyedOrZero", "(I)I"⟩, 13), (⟨"CardIndex$Checker", "isKeyed", "(LCardIndex$Act;)Z"⟩, 13), (⟨"CardIndex$Checker", "dequeAnswersAlike", "(LCardIndex$Act;)Z"⟩, 13), (⟨"CardIndex$Checker", "onceAnswersAlike", "(LCardIndex$Act;)Z"⟩, 13), (⟨"CardIndex$Checker", "doWhole", "(LCardIndex$Act;)V"⟩, 13), (⟨"CardIndex$Checker", "doDeque", "(LCardIndex$Act;)V"⟩, 13), (⟨"CardIndex$Checker", "takeBack", "(LCardIndex$Act;I)V"⟩, 13), (⟨"CardIndex$Checker", "takeBackDeque", "(LCardIndex$Act;)V"⟩, 13), (⟨"CardIndex$Explorer", "areSame", "(III)Z"⟩, 8), (⟨"CardIndex$Explorer", "planNext", "()Z"⟩, 8)]
theorem lw_r2 : ∀ q ∈ lw_privs_2, lw_okq q := List.forall_mem_cons.mpr ⟨lw_p16, List.forall_mem_cons.mpr ⟨lw_p17, List.forall_mem_cons.mpr ⟨lw_p18, List.forall_mem_cons.mpr ⟨lw_p19, List.forall_mem_cons.mpr ⟨lw_p20, List.forall_mem_cons.mpr ⟨lw_p21, List.forall_mem_cons.mpr ⟨lw_p22, List.forall_mem_cons.mpr ⟨lw_p23, List.forall_mem_cons.mpr ⟨lw_p24, List.forall_mem_cons.mpr ⟨lw_p25, List.forall_mem_cons.mpr ⟨lw_p26, List.forall_mem_cons.mpr ⟨lw_p27, List.forall_mem_cons.mpr ⟨lw_p28, List.forall_mem_cons.mpr ⟨lw_p29, List.forall_mem_cons.mpr ⟨lw_p30, List.forall_mem_cons.mpr ⟨lw_p31, fun _ h => absurd h List.not_mem_nil⟩⟩⟩⟩⟩⟩⟩⟩⟩⟩⟩⟩⟩⟩⟩⟩
theorem lw_p32 : lw_okq (⟨"CardIndexModel", "isTray", "(I)Z"⟩, 75) := ⟨⟨by decide +kernel, by decide +kernel⟩, List.mem_of_getElem? (i := 1053) (by decide +kernel), List.mem_of_getElem? (i := 1301) (by decide +kernel), List.mem_of_getElem? (i := 1302) (by decide +kernel)⟩
theorem lw_p33 : lw_okq (⟨"CardIndexModel", "isAct", "(II)Z"⟩, 75) := ⟨⟨by decide +kernel, by decide +kernel⟩, List.mem_of_getElem? (i := 1053) (by decide +kernel), List.mem_of_getElem? (i := 1319) (by decide +kernel), List.mem_of_getElem? (i := 1320) (by decide +kernel)⟩
theorem lw_p34 : lw_okq (⟨"CardIndexModel", "begins", "()V"⟩, 75) := ⟨⟨by decide +kernel, by decide +kernel⟩, List.mem_of_getElem? (i := 1053) (by decide +kernel), List.mem_of_getElem? (i := 1331) (by decide +kernel), List.mem_of_getElem? (i := 1332) (by decide +kernel)⟩
theorem lw_p35 : lw_okq (⟨"CardIndexModel", "leastAble", "()I"⟩, 75) := ⟨⟨by decide +kernel, by decide +kernel⟩, List.mem_of_getElem? (i := 1053) (by decide +kernel), List.mem_of_getElem? (i := 1335) (by decide +kernel), List.mem_of_getElem? (i := 1336) (by decide +kernel)⟩
theorem lw_p36 : lw_okq (⟨"CardIndexModel", "isAble", "(I)Z"⟩, 75) := ⟨⟨by decide +kernel, by decide +kernel⟩, List.mem_of_getElem? (i := 1053) (by decide +kernel), List.mem_of_getElem? (i := 1339) (by decide +kernel), List.mem_of_getElem? (i := 1340) (by decide +kernel)⟩
theorem lw_p37 : lw_okq (⟨"CardIndexModel", "stepOf", "(III)I"⟩, 75) := ⟨⟨by decide +kernel, by decide +kernel⟩, List.mem_of_getElem? (i := 1053) (by decide +kernel), List.mem_of_getElem? (i := 1343) (by decide +kernel), List.mem_of_getElem? (i := 1344) (by decide +kernel)⟩
theorem lw_p38 : lw_okq (⟨"CardIndexModel", "does", "(I)V"⟩, 75) := ⟨⟨by decide +kernel, by decide +kernel⟩, List.mem_of_getElem? (i := 1053) (by decide +kernel), List.mem_of_getElem? (i := 1347) (by decide +kernel), List.mem_of_getElem? (i := 1348) (by decide +kernel)⟩
theorem lw_p39 : lw_okq (⟨"CardIndexModel", "marks", "(IZ)V"⟩, 75) := ⟨⟨by decide +kernel, by decide +kernel⟩, List.mem_of_getElem? (i := 1053) (by decide +kernel), List.mem_of_getElem? (i := 1351) (by decide +kernel), List.mem_of_getElem? (i := 1352) (by decide +kernel)⟩
theorem lw_p40 : lw_okq (⟨"CardIndexModel", "over", "(IIII)V"⟩, 75) := ⟨⟨by decide +kernel, by decide +kernel⟩, List.mem_of_getElem? (i := 1053) (by decide +kernel), List.mem_of_getElem? (i := 1355) (by decide +kernel), List.mem_of_getElem? (i := 1356) (by decide +kernel)⟩
theorem lw_p41 : lw_okq (⟨"CardIndexModel", "read", "(II)V"⟩, 75) := ⟨⟨by decide +kernel, by decide +kernel⟩, List.mem_of_getElem? (i := 1053) (by decide +kernel), List.mem_of_getElem? (i := 1359) (by decide +kernel), List.mem_of_getElem? (i := 1360) (by decide +kernel)⟩
theorem lw_p42 : lw_okq (⟨"CardIndexModel", "moves", "(II)V"⟩, 75) := ⟨⟨by decide +kernel, by decide +kernel⟩, List.mem_of_getElem? (i := 1053) (by decide +kernel), List.mem_of_getElem? (i := 1363) (by decide +kernel), List.mem_of_getElem? (i := 1364) (by decide +kernel)⟩
theorem lw_p43 : lw_okq (⟨"CardIndexModel", "stripe", "(II)I"⟩, 75) := ⟨⟨by decide +kernel, by decide +kernel⟩, List.mem_of_getElem? (i := 1053) (by decide +kernel), List.mem_of_getElem? (i := 1367) (by decide +kernel), List.mem_of_getElem? (i := 1368) (by decide +kernel)⟩
theorem lw_p44 : lw_okq (⟨"CardIndexModel", "headOf", "(IIZI)I"⟩, 75) := ⟨⟨by decide +kernel, by decide +kernel⟩, List.mem_of_getElem? (i := 1053) (by decide +kernel), List.mem_of_getElem? (i := 1371) (by decide +kernel), List.mem_of_getElem? (i := 1372) (by decide +kernel)⟩
theorem lw_p45 : lw_okq (⟨"CardIndexModel", "nextOf", "(IIZII)I"⟩, 75) := ⟨⟨by decide +kernel, by decide +kernel⟩, List.mem_of_getElem? (i := 1053) (by decide +kernel), List.mem_of_getElem? (i := 1375) (by decide +kernel), List.mem_of_getElem? (i := 1376) (by decide +kernel)⟩
theorem lw_p46 : lw_okq (⟨"CardIndexModel", "toHead", "(IIZI)V"⟩, 75) := ⟨⟨by decide +kernel, by decide +kernel⟩, List.mem_of_getElem? (i := 1053) (by decide +kernel), List.mem_of_getElem? (i := 1379) (by decide +kernel), List.mem_of_getElem? (i := 1380) (by decide +kernel)⟩
theorem lw_p47 : lw_okq (⟨"CardIndexModel", "look", "(II)V"⟩, 75) := ⟨⟨by decide +kernel, by decide +kernel⟩, List.mem_of_getElem? (i := 1053) (by decide +kernel), List.mem_of_getElem? (i := 1383) (by decide +kernel), List.mem_of_getElem? (i := 1384) (by decide +kernel)⟩
def lw_privs_3 : List (MethodName × Nat) := [(⟨"CardIndexModel", "isTray", "(I)Z"⟩, 75), (⟨"CardIndexModel", "isAct", "(II)Z"⟩, 75), (⟨"CardIndexModel", "begins", "()V"⟩, 75), (⟨"CardIndexModel", "leastAble", "()I"⟩, 75), (⟨"CardIndexModel", "isAble", "(I)Z"⟩, 75), (⟨"CardIndexModel", "stepOf", "(III)I"⟩, 75), (⟨"CardIndexModel", "does", "(I)V"⟩, 75), (⟨"CardIndexModel", "marks", "(IZ)V"⟩, 75), (⟨"CardIndexModel", "over", "(IIII)V"⟩, 75), (⟨"CardIndexModel", "read", "(II)V"⟩, 75), (⟨"CardIndexModel", "moves", "(II)V"⟩, 75), (⟨"CardIndexModel", "stripe", "(II)I"⟩, 75), (⟨"CardIndexModel", "headOf", "(IIZI)I"⟩, 75), (⟨"CardIndexModel", "nextOf", "(IIZII)I"⟩, 75), (⟨"CardIndexModel", "toHead", "(IIZI)V"⟩, 75), (⟨"CardIndexModel", "look", "(II)V"⟩, 75)]
theorem lw_r3 : ∀ q ∈ lw_privs_3, lw_okq q := List.forall_mem_cons.mpr ⟨lw_p32, List.forall_mem_cons.mpr ⟨lw_p33, List.forall_mem_cons.mpr ⟨lw_p34, List.forall_mem_cons.mpr ⟨lw_p35, List.forall_mem_cons.mpr ⟨lw_p36, List.forall_mem_cons.mpr ⟨lw_p37, List.forall_mem_cons.mpr ⟨lw_p38, List.forall_mem_cons.mpr ⟨lw_p39, List.forall_mem_cons.mpr ⟨lw_p40, List.forall_mem_cons.mpr ⟨lw_p41, List.forall_mem_cons.mpr ⟨lw_p42, List.forall_mem_cons.mpr ⟨lw_p43, List.forall_mem_cons.mpr ⟨lw_p44, List.forall_mem_cons.mpr ⟨lw_p45, List.forall_mem_cons.mpr ⟨lw_p46, List.forall_mem_cons.mpr ⟨lw_p47, fun _ h => absurd h List.not_mem_nil⟩⟩⟩⟩⟩⟩⟩⟩⟩⟩⟩⟩⟩⟩⟩⟩
theorem lw_p48 : lw_okq (⟨"CardIndexModel", "waits", "(II)V"⟩, 75) := ⟨⟨by decide +kernel, by decide +kernel⟩, List.mem_of_getElem? (i := 1053) (by decide +kernel), List.mem_of_getElem? (i := 1387) (by decide +kernel), List.mem_of_getElem? (i := 1388) (by decide +kernel)⟩
theorem lw_p49 : lw_okq (⟨"CardIndexModel", "write", "(II)V"⟩, 75) := ⟨⟨by decide +kernel, by decide +kernel⟩, List.mem_of_getElem? (i := 1053) (by decide +kernel), List.mem_of_getElem? (i := 1391) (by decide +kernel), List.mem_of_getElem? (i := 1392) (by decide +kernel)⟩
theorem lw_p50 : lw_okq (⟨"CardIndexModel", "puts", "(III)V"⟩, 75) := ⟨⟨by decide +kernel, by decide +kernel⟩, List.mem_of_getElem? (i := 1053) (by decide +kernel), List.mem_of_getElem? (i := 1395) (by decide +kernel), List.mem_of_getElem? (i := 1396) (by decide +kernel)⟩
theorem lw_p51 : lw_okq (⟨"CardIndexModel", "cardsIn", "(II)I"⟩, 75) := ⟨⟨by decide +kernel, by decide +kernel⟩, List.mem_of_getElem? (i := 1053) (by decide +kernel), List.mem_of_getElem? (i := 1399) (by decide +kernel), List.mem_of_getElem? (i := 1400) (by decide +kernel)⟩
theorem lw_p52 : lw_okq (⟨"CardIndexModel", "putLast", "(II)V"⟩, 75) := ⟨⟨by decide +kernel, by decide +kernel⟩, List.mem_of_getElem? (i := 1053) (by decide +kernel), List.mem_of_getElem? (i := 1403) (by decide +kernel), List.mem_of_getElem? (i := 1404) (by decide +kernel)⟩
theorem lw_p53 : lw_okq (⟨"CardIndexModel", "takeFirst", "(I)V"⟩, 75) := ⟨⟨by decide +kernel, by decide +kernel⟩, List.mem_of_getElem? (i := 1053) (by decide +kernel), List.mem_of_getElem? (i := 1407) (by decide +kernel), List.mem_of_getElem? (i := 1408) (by decide +kernel)⟩
theorem lw_p54 : lw_okq (⟨"CardIndexModel", "putFirst", "(II)V"⟩, 75) := ⟨⟨by decide +kernel, by decide +kernel⟩, List.mem_of_getElem? (i := 1053) (by decide +kernel), List.mem_of_getElem? (i := 1411) (by decide +kernel), List.mem_of_getElem? (i := 1412) (by decide +kernel)⟩
theorem lw_p55 : lw_okq (⟨"CardIndexModel", "makes", "(II)V"⟩, 75) := ⟨⟨by decide +kernel, by decide +kernel⟩, List.mem_of_getElem? (i := 1053) (by decide +kernel), List.mem_of_getElem? (i := 1418) (by decide +kernel), List.mem_of_getElem? (i := 1419) (by decide +kernel)⟩
theorem lw_p56 : lw_okq (⟨"CardIndexModel", "ends", "(II)V"⟩, 75) := ⟨⟨by decide +kernel, by decide +kernel⟩, List.mem_of_getElem? (i := 1053) (by decide +kernel), List.mem_of_getElem? (i := 1422) (by decide +kernel), List.mem_of_getElem? (i := 1423) (by decide +kernel)⟩
theorem lw_p57 : lw_okq (⟨"CardIndexModel", "howItEnds", "()I"⟩, 75) := ⟨⟨by decide +kernel, by decide +kernel⟩, List.mem_of_getElem? (i := 1053) (by decide +kernel), List.mem_of_getElem? (i := 1426) (by decide +kernel), List.mem_of_getElem? (i := 1427) (by decide +kernel)⟩
theorem lw_p58 : lw_okq (⟨"CardIndexModel", "sizeOf", "(I)I"⟩, 75) := ⟨⟨by decide +kernel, by decide +kernel⟩, List.mem_of_getElem? (i := 1053) (by decide +kernel), List.mem_of_getElem? (i := 1454) (by decide +kernel), List.mem_of_getElem? (i := 1455) (by decide +kernel)⟩
theorem lw_p59 : lw_okq (⟨"CardIndexModel", "cardOf", "(III)I"⟩, 75) := ⟨⟨by decide +kernel, by decide +kernel⟩, List.mem_of_getElem? (i := 1053) (by decide +kernel), List.mem_of_getElem? (i := 1462) (by decide +kernel), List.mem_of_getElem? (i := 1463) (by decide +kernel)⟩
theorem lw_p60 : lw_okq (⟨"CardIndexModel", "keyOf", "(II)I"⟩, 75) := ⟨⟨by decide +kernel, by decide +kernel⟩, List.mem_of_getElem? (i := 1053) (by decide +kernel), List.mem_of_getElem? (i := 1466) (by decide +kernel), List.mem_of_getElem? (i := 1467) (by decide +kernel)⟩
theorem lw_p61 : lw_okq (⟨"CardIndexModel", "mapKey", "(II)I"⟩, 75) := ⟨⟨by decide +kernel, by decide +kernel⟩, List.mem_of_getElem? (i := 1053) (by decide +kernel), List.mem_of_getElem? (i := 1470) (by decide +kernel), List.mem_of_getElem? (i := 1471) (by decide +kernel)⟩
theorem lw_p62 : lw_okq (⟨"CardIndexModel", "fitsOf", "(I)I"⟩, 75) := ⟨⟨by decide +kernel, by decide +kernel⟩, List.mem_of_getElem? (i := 1053) (by decide +kernel), List.mem_of_getElem? (i := 1486) (by decide +kernel), List.mem_of_getElem? (i := 1487) (by decide +kernel)⟩
theorem lw_p63 : lw_okq (⟨"CardIndexModel", "search", "(II)I"⟩, 75) := ⟨⟨by decide +kernel, by decide +kernel⟩, List.mem_of_getElem? (i := 1053) (by decide +kernel), List.mem_of_getElem? (i := 1490) (by decide +kernel), List.mem_of_getElem? (i := 1491) (by decide +kernel)⟩
def lw_privs_4 : List (MethodName × Nat) := [(⟨"CardIndexModel", "waits", "(II)V"⟩, 75), (⟨"CardIndexModel", "write", "(II)V"⟩, 75), (⟨"CardIndexModel", "puts", "(III)V"⟩, 75), (⟨"CardIndexModel", "cardsIn", "(II)I"⟩, 75), (⟨"CardIndexModel", "putLast", "(II)V"⟩, 75), (⟨"CardIndexModel", "takeFirst", "(I)V"⟩, 75), (⟨"CardIndexModel", "putFirst", "(II)V"⟩, 75), (⟨"CardIndexModel", "makes", "(II)V"⟩, 75), (⟨"CardIndexModel", "ends", "(II)V"⟩, 75), (⟨"CardIndexModel", "howItEnds", "()I"⟩, 75), (⟨"CardIndexModel", "sizeOf", "(I)I"⟩, 75), (⟨"CardIndexModel", "cardOf", "(III)I"⟩, 75), (⟨"CardIndexModel", "keyOf", "(II)I"⟩, 75), (⟨"CardIndexModel", "mapKey", "(II)I"⟩, 75), (⟨"CardIndexModel", "fitsOf", "(I)I"⟩, 75), (⟨"CardIndexModel", "search", "(II)I"⟩, 75)]
theorem lw_r4 : ∀ q ∈ lw_privs_4, lw_okq q := List.forall_mem_cons.mpr ⟨lw_p48, List.forall_mem_cons.mpr ⟨lw_p49, List.forall_mem_cons.mpr ⟨lw_p50, List.forall_mem_cons.mpr ⟨lw_p51, List.forall_mem_cons.mpr ⟨lw_p52, List.forall_mem_cons.mpr ⟨lw_p53, List.forall_mem_cons.mpr ⟨lw_p54, List.forall_mem_cons.mpr ⟨lw_p55, List.forall_mem_cons.mpr ⟨lw_p56, List.forall_mem_cons.mpr ⟨lw_p57, List.forall_mem_cons.mpr ⟨lw_p58, List.forall_mem_cons.mpr ⟨lw_p59, List.forall_mem_cons.mpr ⟨lw_p60, List.forall_mem_cons.mpr ⟨lw_p61, List.forall_mem_cons.mpr ⟨lw_p62, List.forall_mem_cons.mpr ⟨lw_p63, fun _ h => absurd h List.not_mem_nil⟩⟩⟩⟩⟩⟩⟩⟩⟩⟩⟩⟩⟩⟩⟩⟩
theorem lw_p64 : lw_okq (⟨"CardIndexModel", "take", "(I)V"⟩, 75) := ⟨⟨by decide +kernel, by decide +kernel⟩, List.mem_of_getElem? (i := 1053) (by decide +kernel), List.mem_of_getElem? (i := 1494) (by decide +kernel), List.mem_of_getElem? (i := 1495) (by decide +kernel)⟩
theorem lw_p65 : lw_okq (⟨"CardIndexModel", "plainEmpty", "()V"⟩, 75) := ⟨⟨by decide +kernel, by decide +kernel⟩, List.mem_of_getElem? (i := 1053) (by decide +kernel), List.mem_of_getElem? (i := 1498) (by decide +kernel), List.mem_of_getElem? (i := 1499) (by decide +kernel)⟩
theorem lw_p66 : lw_okq (⟨"CardIndexModel", "areAlike", "(I)Z"⟩, 75) := ⟨⟨by decide +kernel, by decide +kernel⟩, List.mem_of_getElem? (i := 1053) (by decide +kernel), List.mem_of_getElem? (i := 1502) (by decide +kernel), List.mem_of_getElem? (i := 1503) (by decide +kernel)⟩
theorem lw_p67 : lw_okq (⟨"CardIndexModel", "mayCome", "(III)Z"⟩, 75) := ⟨⟨by decide +kernel, by decide +kernel⟩, List.mem_of_getElem? (i := 1053) (by decide +kernel), List.mem_of_getElem? (i := 1506) (by decide +kernel), List.mem_of_getElem? (i := 1507) (by decide +kernel)⟩
theorem lw_p68 : lw_okq (⟨"CardIndexModel", "plain", "(II)Z"⟩, 75) := ⟨⟨by decide +kernel, by decide +kernel⟩, List.mem_of_getElem? (i := 1053) (by decide +kernel), List.mem_of_getElem? (i := 1510) (by decide +kernel), List.mem_of_getElem? (i := 1511) (by decide +kernel)⟩
theorem lw_p69 : lw_okq (⟨"CardIndexModel", "plainTake", "(Z)V"⟩, 75) := ⟨⟨by decide +kernel, by decide +kernel⟩, List.mem_of_getElem? (i := 1053) (by decide +kernel), List.mem_of_getElem? (i := 1517) (by decide +kernel), List.mem_of_getElem? (i := 1518) (by decide +kernel)⟩
theorem lw_p70 : lw_okq (⟨"CardIndexModel", "plainDeque", "(II)Z"⟩, 75) := ⟨⟨by decide +kernel, by decide +kernel⟩, List.mem_of_getElem? (i := 1053) (by decide +kernel), List.mem_of_getElem? (i := 1521) (by decide +kernel), List.mem_of_getElem? (i := 1522) (by decide +kernel)⟩
theorem lw_p71 : lw_okq (⟨"CardIndexModel", "ableMany", "()I"⟩, 75) := ⟨⟨by decide +kernel, by decide +kernel⟩, List.mem_of_getElem? (i := 1053) (by decide +kernel), List.mem_of_getElem? (i := 1541) (by decide +kernel), List.mem_of_getElem? (i := 1542) (by decide +kernel)⟩
theorem lw_p72 : lw_okq (⟨"CardIndexModel", "ableAt", "(I)I"⟩, 75) := ⟨⟨by decide +kernel, by decide +kernel⟩, List.mem_of_getElem? (i := 1053) (by decide +kernel), List.mem_of_getElem? (i := 1545) (by decide +kernel), List.mem_of_getElem? (i := 1546) (by decide +kernel)⟩
theorem lw_p73 : lw_okq (⟨"CardIndexModel", "weighs", "(I)V"⟩, 75) := ⟨⟨by decide +kernel, by decide +kernel⟩, List.mem_of_getElem? (i := 1053) (by decide +kernel), List.mem_of_getElem? (i := 1549) (by decide +kernel), List.mem_of_getElem? (i := 1550) (by decide +kernel)⟩
theorem lw_p74 : lw_okq (⟨"CardIndexModel", "differs", "(II)Z"⟩, 75) := ⟨⟨by decide +kernel, by decide +kernel⟩, List.mem_of_getElem? (i := 1053) (by decide +kernel), List.mem_of_getElem? (i := 1553) (by decide +kernel), List.mem_of_getElem? (i := 1554) (by decide +kernel)⟩
def lw_privs_5 : List (MethodName × Nat) := [(⟨"CardIndexModel", "take", "(I)V"⟩, 75), (⟨"CardIndexModel", "plainEmpty", "()V"⟩, 75), (⟨"CardIndexModel", "areAlike", "(I)Z"⟩, 75), (⟨"CardIndexModel", "mayCome", "(III)Z"⟩, 75), (⟨"CardIndexModel", "plain", "(II)Z"⟩, 75), (⟨"CardIndexModel", "plainTake", "(Z)V"⟩, 75), (⟨"CardIndexModel", "plainDeque", "(II)Z"⟩, 75), (⟨"CardIndexModel", "ableMany", "()I"⟩, 75), (⟨"CardIndexModel", "ableAt", "(I)I"⟩, 75), (⟨"CardIndexModel", "weighs", "(I)V"⟩, 75), (⟨"CardIndexModel", "differs", "(II)Z"⟩, 75)]
theorem lw_r5 : ∀ q ∈ lw_privs_5, lw_okq q := List.forall_mem_cons.mpr ⟨lw_p64, List.forall_mem_cons.mpr ⟨lw_p65, List.forall_mem_cons.mpr ⟨lw_p66, List.forall_mem_cons.mpr ⟨lw_p67, List.forall_mem_cons.mpr ⟨lw_p68, List.forall_mem_cons.mpr ⟨lw_p69, List.forall_mem_cons.mpr ⟨lw_p70, List.forall_mem_cons.mpr ⟨lw_p71, List.forall_mem_cons.mpr ⟨lw_p72, List.forall_mem_cons.mpr ⟨lw_p73, List.forall_mem_cons.mpr ⟨lw_p74, fun _ h => absurd h List.not_mem_nil⟩⟩⟩⟩⟩⟩⟩⟩⟩⟩⟩
def lw_privs : List (MethodName × Nat) := lw_privs_1 ++ (lw_privs_2 ++ (lw_privs_3 ++ (lw_privs_4 ++ (lw_privs_5))))
def lw_tbl : List Cond := k2_sels lw_privs ++ tables_1
theorem lw_privs_ok : ∀ q ∈ lw_privs, lw_okq q := by
  show ∀ q ∈ lw_privs_1 ++ (lw_privs_2 ++ (lw_privs_3 ++ (lw_privs_4 ++ (lw_privs_5)))), lw_okq q
  exact List.forall_mem_append.mpr ⟨lw_r1, List.forall_mem_append.mpr ⟨lw_r2, List.forall_mem_append.mpr ⟨lw_r3, List.forall_mem_append.mpr ⟨lw_r4, lw_r5⟩⟩⟩⟩
-- ===== end of PART A; then your names; then what follows =====
def RX0 : String := "CardIndex$Act"
def TX0 : u_T := fun k => match k with
  | 0 => ("CardIndex$Act", "clerk", "I", true)
  | 1 => ("CardIndex$Act", "number", "I", true)
  | 2 => ("CardIndex$Act", "tray", "I", false)
  | 3 => ("CardIndex$Act", "op", "I", false)
  | 4 => ("CardIndex$Act", "a", "I", false)
  | 5 => ("CardIndex$Act", "b", "I", false)
  | 6 => ("CardIndex$Act", "patience", "I", false)
  | 7 => ("CardIndex$Act", "steps", "[I", false)
  | 8 => ("CardIndex$Act", "monitor", "I", false)
  | 9 => ("CardIndex$Act", "place", "I", false)
  | 10 => ("CardIndex$Act", "waits", "Z", false)
  | 11 => ("CardIndex$Act", "waitsSince", "I", false)
  | 12 => ("CardIndex$Act", "waitings", "I", false)
  | 13 => ("CardIndex$Act", "noted", "I", false)
  | 14 => ("CardIndex$Act", "coming", "I", false)
  | 15 => ("CardIndex$Act", "outcome", "I", false)
  | 16 => ("CardIndex$Act", "answer", "I", false)
  | 17 => ("CardIndex$Act", "begin", "I", false)
  | _ => ("CardIndex$Act", "end", "I", false)
def tyX0 : Nat → FieldType := fun k => match k with
  | 0 => .int
  | 1 => .int
  | 2 => .int
  | 3 => .int
  | 4 => .int
  | 5 => .int
  | 6 => .int
  | 7 => .array .int
  | 8 => .int
  | 9 => .int
  | 10 => .boolean
  | 11 => .int
  | 12 => .int
  | 13 => .int
  | 14 => .int
  | 15 => .int
  | 16 => .int
  | 17 => .int
  | _ => .int
abbrev wsX00 : List Cond := u_ws RX0 TX0 19
theorem nmX0 : ∀ a, a < 19 → ∀ b, b < 19 → a ≠ b → (TX0 a).2.1 ≠ (TX0 b).2.1 := by decide +kernel
theorem tyX0_ok : ∀ k, k < 19 → parseFieldDescriptor (TX0 k).2.2.1 = some (tyX0 k) := by decide +kernel
abbrev cX0_init : ByteArray := prog_2_method_1_code
def yX0_init : MethodName := ⟨RX0, "<init>", "(II)V"⟩
abbrev cX0_beginAnew : ByteArray := prog_2_method_2_code
def yX0_beginAnew : MethodName := ⟨RX0, "beginAnew", "([II)V"⟩
abbrev cX0_note : ByteArray := prog_2_method_3_code
def yX0_note : MethodName := ⟨RX0, "note", "(ZI)V"⟩
abbrev cX0_nextStep : ByteArray := prog_2_method_4_code
def yX0_nextStep : MethodName := ⟨RX0, "nextStep", "()I"⟩
abbrev cX0_nextMonitor : ByteArray := prog_2_method_5_code
def yX0_nextMonitor : MethodName := ⟨RX0, "nextMonitor", "()I"⟩
abbrev cX0_ownMaking : ByteArray := prog_2_method_6_code
def yX0_ownMaking : MethodName := ⟨RX0, "ownMaking", "()I"⟩
abbrev cX0_hasEndedUntired : ByteArray := prog_2_method_7_code
def yX0_hasEndedUntired : MethodName := ⟨RX0, "hasEndedUntired", "()Z"⟩
def RX1 : String := "CardIndex$Cards"
def TX1 : u_T := fun k => match k with
  | 0 => ("CardIndex$Cards", "cells", "[I", true)
  | 1 => ("CardIndex$Cards", "held", "I", false)
  | 2 => ("CardIndex$Cards", "start", "I", false)
  | 3 => ("CardIndex$Cards", "length", "I", false)
  | _ => ("CardIndex$Cards", "closings", "I", false)
def tyX1 : Nat → FieldType := fun k => match k with
  | 0 => .array .int
  | 1 => .int
  | 2 => .int
  | 3 => .int
  | _ => .int
abbrev wsX10 : List Cond := u_ws RX1 TX1 5
theorem nmX1 : ∀ a, a < 5 → ∀ b, b < 5 → a ≠ b → (TX1 a).2.1 ≠ (TX1 b).2.1 := by decide +kernel
theorem tyX1_ok : ∀ k, k < 5 → parseFieldDescriptor (TX1 k).2.2.1 = some (tyX1 k) := by decide +kernel
abbrev cX1_init : ByteArray := prog_3_method_1_code
def yX1_init : MethodName := ⟨RX1, "<init>", "()V"⟩
abbrev cX1_empty : ByteArray := prog_3_method_2_code
def yX1_empty : MethodName := ⟨RX1, "empty", "()V"⟩
abbrev cX1_copyKeysOf : ByteArray := prog_3_method_3_code
def yX1_copyKeysOf : MethodName := ⟨RX1, "copyKeysOf", "(LCardIndex$Cards;)V"⟩
abbrev cX1_has : ByteArray := prog_3_method_4_code
def yX1_has : MethodName := ⟨RX1, "has", "(I)Z"⟩
abbrev cX1_valueOf : ByteArray := prog_3_method_5_code
def yX1_valueOf : MethodName := ⟨RX1, "valueOf", "(I)I"⟩
abbrev cX1_put : ByteArray := prog_3_method_6_code
def yX1_put : MethodName := ⟨RX1, "put", "(II)V"⟩
abbrev cX1_takeOut : ByteArray := prog_3_method_7_code
def yX1_takeOut : MethodName := ⟨RX1, "takeOut", "(I)V"⟩
abbrev cX1_valueAtPlace : ByteArray := prog_3_method_8_code
def yX1_valueAtPlace : MethodName := ⟨RX1, "valueAtPlace", "(I)I"⟩
abbrev cX1_headValue : ByteArray := prog_3_method_9_code
def yX1_headValue : MethodName := ⟨RX1, "headValue", "()I"⟩
abbrev cX1_tailValue : ByteArray := prog_3_method_10_code
def yX1_tailValue : MethodName := ⟨RX1, "tailValue", "()I"⟩
abbrev cX1_putFirst : ByteArray := prog_3_method_11_code
def yX1_putFirst : MethodName := ⟨RX1, "putFirst", "(I)V"⟩
abbrev cX1_putLast : ByteArray := prog_3_method_12_code
def yX1_putLast : MethodName := ⟨RX1, "putLast", "(I)V"⟩
abbrev cX1_takeFirst : ByteArray := prog_3_method_13_code
def yX1_takeFirst : MethodName := ⟨RX1, "takeFirst", "()V"⟩
abbrev cX1_takeLast : ByteArray := prog_3_method_14_code
def yX1_takeLast : MethodName := ⟨RX1, "takeLast", "()V"⟩
abbrev cX1_sumOfShares : ByteArray := prog_3_method_15_code
def yX1_sumOfShares : MethodName := ⟨RX1, "sumOfShares", "()I"⟩
abbrev cX1_weightedSum : ByteArray := prog_3_method_16_code
def yX1_weightedSum : MethodName := ⟨RX1, "weightedSum", "()I"⟩
abbrev cX1_hasSame : ByteArray := prog_3_method_17_code
def yX1_hasSame : MethodName := ⟨RX1, "hasSame", "(ILCardIndex$Cards;)Z"⟩
abbrev cX1_hasSameRow : ByteArray := prog_3_method_18_code
def yX1_hasSameRow : MethodName := ⟨RX1, "hasSameRow", "(LCardIndex$Cards;)Z"⟩
abbrev cX1_hasSameKeys : ByteArray := prog_3_method_19_code
def yX1_hasSameKeys : MethodName := ⟨RX1, "hasSameKeys", "(LCardIndex$Cards;)Z"⟩
def RX2 : String := "CardIndex$Checker"
def TX2 : u_T := fun k => match k with
  | 0 => ("CardIndex$Checker", "desk", "LCardIndex$Desk;", true)
  | 1 => ("CardIndex$Checker", "latest", "LCardIndex$Run;", true)
  | 2 => ("CardIndex$Checker", "plain", "LCardIndex$Cards;", true)
  | 3 => ("CardIndex$Checker", "acts", "[LCardIndex$Act;", true)
  | 4 => ("CardIndex$Checker", "ahead", "[I", true)
  | 5 => ("CardIndex$Checker", "row", "[I", true)
  | 6 => ("CardIndex$Checker", "kind", "I", false)
  | 7 => ("CardIndex$Checker", "limit", "I", false)
  | 8 => ("CardIndex$Checker", "due", "LCardIndex$Cards;", false)
  | 9 => ("CardIndex$Checker", "many", "I", false)
  | 10 => ("CardIndex$Checker", "placed", "I", false)
  | 11 => ("CardIndex$Checker", "made", "I", false)
  | _ => ("CardIndex$Checker", "mostTries", "I", false)
def tyX2 : Nat → FieldType := fun k => match k with
  | 0 => .object "CardIndex$Desk"
  | 1 => .object "CardIndex$Run"
  | 2 => .object "CardIndex$Cards"
  | 3 => .array (.object "CardIndex$Act")
  | 4 => .array .int
  | 5 => .array .int
  | 6 => .int
  | 7 => .int
  | 8 => .object "CardIndex$Cards"
  | 9 => .int
  | 10 => .int
  | 11 => .int
  | _ => .int
abbrev wsX20 : List Cond := u_ws RX2 TX2 13
theorem nmX2 : ∀ a, a < 13 → ∀ b, b < 13 → a ≠ b → (TX2 a).2.1 ≠ (TX2 b).2.1 := by decide +kernel
theorem tyX2_ok : ∀ k, k < 13 → parseFieldDescriptor (TX2 k).2.2.1 = some (tyX2 k) := by decide +kernel
abbrev cX2_init : ByteArray := prog_4_method_1_code
def yX2_init : MethodName := ⟨RX2, "<init>", "(LCardIndex$Desk;LCardIndex$Run;)V"⟩
abbrev cX2_judge : ByteArray := prog_4_method_2_code
def yX2_judge : MethodName := ⟨RX2, "judge", "(II)I"⟩
abbrev cX2_gather : ByteArray := prog_4_method_3_code
def yX2_gather : MethodName := ⟨RX2, "gather", "(I)Z"⟩
abbrev cX2_findAhead : ByteArray := prog_4_method_4_code
def yX2_findAhead : MethodName := ⟨RX2, "findAhead", "()V"⟩
abbrev cX2_actAt : ByteArray := prog_4_method_5_code
def yX2_actAt : MethodName := ⟨RX2, "actAt", "(I)I"⟩
abbrev cX2_fill : ByteArray := prog_4_method_6_code
def yX2_fill : MethodName := ⟨RX2, "fill", "(LCardIndex$Checker;I)I"⟩
abbrev cX2_answersAlike : ByteArray := prog_4_method_7_code
def yX2_answersAlike : MethodName := ⟨RX2, "answersAlike", "(LCardIndex$Act;)Z"⟩
abbrev cX2_isAnswer : ByteArray := prog_4_method_8_code
def yX2_isAnswer : MethodName := ⟨RX2, "isAnswer", "(LCardIndex$Act;II)Z"⟩
abbrev cX2_isWell : ByteArray := prog_4_method_9_code
def yX2_isWell : MethodName := ⟨RX2, "isWell", "(LCardIndex$Act;I)Z"⟩
abbrev cX2_isKeyed : ByteArray := prog_4_method_10_code
def yX2_isKeyed : MethodName := ⟨RX2, "isKeyed", "(LCardIndex$Act;)Z"⟩
abbrev cX2_keyedOrZero : ByteArray := prog_4_method_11_code
def yX2_keyedOrZero : MethodName := ⟨RX2, "keyedOrZero", "(I)I"⟩
abbrev cX2_dequeAnswersAlike : ByteArray := prog_4_method_12_code
def yX2_dequeAnswersAlike : MethodName := ⟨RX2, "dequeAnswersAlike", "(LCardIndex$Act;)Z"⟩
abbrev cX2_onceAnswersAlike : ByteArray := prog_4_method_13_code
def yX2_onceAnswersAlike : MethodName := ⟨RX2, "onceAnswersAlike", "(LCardIndex$Act;)Z"⟩
abbrev cX2_doWhole : ByteArray := prog_4_method_14_code
def yX2_doWhole : MethodName := ⟨RX2, "doWhole", "(LCardIndex$Act;)V"⟩
abbrev cX2_doDeque : ByteArray := prog_4_method_15_code
def yX2_doDeque : MethodName := ⟨RX2, "doDeque", "(LCardIndex$Act;)V"⟩
abbrev cX2_takeBack : ByteArray := prog_4_method_16_code
def yX2_takeBack : MethodName := ⟨RX2, "takeBack", "(LCardIndex$Act;I)V"⟩
abbrev cX2_takeBackDeque : ByteArray := prog_4_method_17_code
def yX2_takeBackDeque : MethodName := ⟨RX2, "takeBackDeque", "(LCardIndex$Act;)V"⟩
def RX3 : String := "CardIndex$Clerk"
def TX3 : u_T := fun k => match k with
  | 0 => ("CardIndex$Clerk", "number", "I", true)
  | 1 => ("CardIndex$Clerk", "acts", "[LCardIndex$Act;", true)
  | 2 => ("CardIndex$Clerk", "copy", "LCardIndex$Cards;", true)
  | 3 => ("CardIndex$Clerk", "many", "I", false)
  | _ => ("CardIndex$Clerk", "at", "I", false)
def tyX3 : Nat → FieldType := fun k => match k with
  | 0 => .int
  | 1 => .array (.object "CardIndex$Act")
  | 2 => .object "CardIndex$Cards"
  | 3 => .int
  | _ => .int
abbrev wsX30 : List Cond := u_ws RX3 TX3 5
theorem nmX3 : ∀ a, a < 5 → ∀ b, b < 5 → a ≠ b → (TX3 a).2.1 ≠ (TX3 b).2.1 := by decide +kernel
theorem tyX3_ok : ∀ k, k < 5 → parseFieldDescriptor (TX3 k).2.2.1 = some (tyX3 k) := by decide +kernel
abbrev cX3_init : ByteArray := prog_5_method_1_code
def yX3_init : MethodName := ⟨RX3, "<init>", "(I)V"⟩
abbrev cX3_addAct : ByteArray := prog_5_method_2_code
def yX3_addAct : MethodName := ⟨RX3, "addAct", "(IIII)I"⟩
abbrev cX3_current : ByteArray := prog_5_method_3_code
def yX3_current : MethodName := ⟨RX3, "current", "()LCardIndex$Act;"⟩
abbrev cX3_waiting : ByteArray := prog_5_method_4_code
def yX3_waiting : MethodName := ⟨RX3, "waiting", "()LCardIndex$Act;"⟩
abbrev cX3_digestActs : ByteArray := prog_5_method_5_code
def yX3_digestActs : MethodName := ⟨RX3, "digestActs", "(J)J"⟩
def RX4 : String := "CardIndex$Desk"
def TX4 : u_T := fun k => match k with
  | 0 => ("CardIndex$Desk", "trays", "[LCardIndex$Tray;", true)
  | 1 => ("CardIndex$Desk", "clerks", "[LCardIndex$Clerk;", true)
  | 2 => ("CardIndex$Desk", "trayCount", "I", false)
  | _ => ("CardIndex$Desk", "clerkCount", "I", false)
def tyX4 : Nat → FieldType := fun k => match k with
  | 0 => .array (.object "CardIndex$Tray")
  | 1 => .array (.object "CardIndex$Clerk")
  | 2 => .int
  | _ => .int
abbrev wsX40 : List Cond := u_ws RX4 TX4 4
theorem nmX4 : ∀ a, a < 4 → ∀ b, b < 4 → a ≠ b → (TX4 a).2.1 ≠ (TX4 b).2.1 := by decide +kernel
theorem tyX4_ok : ∀ k, k < 4 → parseFieldDescriptor (TX4 k).2.2.1 = some (tyX4 k) := by decide +kernel
abbrev cX4_init : ByteArray := prog_6_method_1_code
def yX4_init : MethodName := ⟨RX4, "<init>", "()V"⟩
abbrev cX4_hasTray : ByteArray := prog_6_method_2_code
def yX4_hasTray : MethodName := ⟨RX4, "hasTray", "(I)Z"⟩
abbrev cX4_hasClerk : ByteArray := prog_6_method_3_code
def yX4_hasClerk : MethodName := ⟨RX4, "hasClerk", "(I)Z"⟩
abbrev cX4_hasAct : ByteArray := prog_6_method_4_code
def yX4_hasAct : MethodName := ⟨RX4, "hasAct", "(II)Z"⟩
abbrev cX4_addTray : ByteArray := prog_6_method_5_code
def yX4_addTray : MethodName := ⟨RX4, "addTray", "(III)I"⟩
abbrev cX4_addClerk : ByteArray := prog_6_method_6_code
def yX4_addClerk : MethodName := ⟨RX4, "addClerk", "()I"⟩
abbrev cX4_countActs : ByteArray := prog_6_method_7_code
def yX4_countActs : MethodName := ⟨RX4, "countActs", "()I"⟩
abbrev cX4_countWaiting : ByteArray := prog_6_method_8_code
def yX4_countWaiting : MethodName := ⟨RX4, "countWaiting", "()I"⟩
abbrev cX4_beginAnew : ByteArray := prog_6_method_9_code
def yX4_beginAnew : MethodName := ⟨RX4, "beginAnew", "()V"⟩
abbrev cX4_beginAct : ByteArray := prog_6_method_10_code
def yX4_beginAct : MethodName := ⟨RX4, "beginAct", "(LCardIndex$Act;)V"⟩
abbrev cX4_wake : ByteArray := prog_6_method_11_code
def yX4_wake : MethodName := ⟨RX4, "wake", "(I)V"⟩
def RX5 : String := "CardIndex$Explorer"
def TX5 : u_T := fun k => match k with
  | 0 => ("CardIndex$Explorer", "desk", "LCardIndex$Desk;", true)
  | 1 => ("CardIndex$Explorer", "latest", "LCardIndex$Run;", true)
  | 2 => ("CardIndex$Explorer", "checker", "LCardIndex$Checker;", true)
  | 3 => ("CardIndex$Explorer", "plan", "[I", true)
  | 4 => ("CardIndex$Explorer", "found", "[I", true)
  | 5 => ("CardIndex$Explorer", "seen", "[I", true)
  | 6 => ("CardIndex$Explorer", "seenCount", "I", false)
  | _ => ("CardIndex$Explorer", "runsEver", "I", false)
def tyX5 : Nat → FieldType := fun k => match k with
  | 0 => .object "CardIndex$Desk"
  | 1 => .object "CardIndex$Run"
  | 2 => .object "CardIndex$Checker"
  | 3 => .array .int
  | 4 => .array .int
  | 5 => .array .int
  | 6 => .int
  | _ => .int
abbrev wsX50 : List Cond := u_ws RX5 TX5 8
theorem nmX5 : ∀ a, a < 8 → ∀ b, b < 8 → a ≠ b → (TX5 a).2.1 ≠ (TX5 b).2.1 := by decide +kernel
theorem tyX5_ok : ∀ k, k < 8 → parseFieldDescriptor (TX5 k).2.2.1 = some (tyX5 k) := by decide +kernel
abbrev cX5_init : ByteArray := prog_7_method_1_code
def yX5_init : MethodName := ⟨RX5, "<init>", "(LCardIndex$Desk;LCardIndex$Run;LCardIndex$Checker;)V"⟩
abbrev cX5_begin : ByteArray := prog_7_method_2_code
def yX5_begin : MethodName := ⟨RX5, "begin", "()V"⟩
abbrev cX5_end : ByteArray := prog_7_method_3_code
def yX5_end : MethodName := ⟨RX5, "end", "(IZ)V"⟩
abbrev cX5_judgeTrays : ByteArray := prog_7_method_4_code
def yX5_judgeTrays : MethodName := ⟨RX5, "judgeTrays", "()V"⟩
abbrev cX5_seeAnswers : ByteArray := prog_7_method_5_code
def yX5_seeAnswers : MethodName := ⟨RX5, "seeAnswers", "()V"⟩
abbrev cX5_areSame : ByteArray := prog_7_method_6_code
def yX5_areSame : MethodName := ⟨RX5, "areSame", "(III)Z"⟩
abbrev cX5_planNext : ByteArray := prog_7_method_7_code
def yX5_planNext : MethodName := ⟨RX5, "planNext", "()Z"⟩
def RX6 : String := "CardIndex$Run"
def TX6 : u_T := fun k => match k with
  | 0 => ("CardIndex$Run", "desk", "LCardIndex$Desk;", true)
  | 1 => ("CardIndex$Run", "marks", "[I", true)
  | 2 => ("CardIndex$Run", "chosen", "[I", true)
  | 3 => ("CardIndex$Run", "ables", "[I", true)
  | 4 => ("CardIndex$Run", "markCount", "I", false)
  | 5 => ("CardIndex$Run", "done", "I", false)
  | _ => ("CardIndex$Run", "told", "I", false)
def tyX6 : Nat → FieldType := fun k => match k with
  | 0 => .object "CardIndex$Desk"
  | 1 => .array .int
  | 2 => .array .int
  | 3 => .array .int
  | 4 => .int
  | 5 => .int
  | _ => .int
abbrev wsX60 : List Cond := u_ws RX6 TX6 7
theorem nmX6 : ∀ a, a < 7 → ∀ b, b < 7 → a ≠ b → (TX6 a).2.1 ≠ (TX6 b).2.1 := by decide +kernel
theorem tyX6_ok : ∀ k, k < 7 → parseFieldDescriptor (TX6 k).2.2.1 = some (tyX6 k) := by decide +kernel
abbrev cX6_init : ByteArray := prog_8_method_1_code
def yX6_init : MethodName := ⟨RX6, "<init>", "(LCardIndex$Desk;)V"⟩
abbrev cX6_goThrough : ByteArray := prog_8_method_2_code
def yX6_goThrough : MethodName := ⟨RX6, "goThrough", "([I)V"⟩
abbrev cX6_findAble : ByteArray := prog_8_method_3_code
def yX6_findAble : MethodName := ⟨RX6, "findAble", "(I)I"⟩
abbrev cX6_isAble : ByteArray := prog_8_method_4_code
def yX6_isAble : MethodName := ⟨RX6, "isAble", "(LCardIndex$Clerk;I)Z"⟩
abbrev cX6_choose : ByteArray := prog_8_method_5_code
def yX6_choose : MethodName := ⟨RX6, "choose", "(II)I"⟩
abbrev cX6_allEnded : ByteArray := prog_8_method_6_code
def yX6_allEnded : MethodName := ⟨RX6, "allEnded", "()Z"⟩
abbrev cX6_doStep : ByteArray := prog_8_method_7_code
def yX6_doStep : MethodName := ⟨RX6, "doStep", "(LCardIndex$Clerk;I)V"⟩
abbrev cX6_goOn : ByteArray := prog_8_method_8_code
def yX6_goOn : MethodName := ⟨RX6, "goOn", "(LCardIndex$Clerk;LCardIndex$Act;I)V"⟩
abbrev cX6_beginWaiting : ByteArray := prog_8_method_9_code
def yX6_beginWaiting : MethodName := ⟨RX6, "beginWaiting", "(LCardIndex$Clerk;LCardIndex$Act;I)V"⟩
abbrev cX6_endAct : ByteArray := prog_8_method_10_code
def yX6_endAct : MethodName := ⟨RX6, "endAct", "(LCardIndex$Clerk;LCardIndex$Act;II)V"⟩
abbrev cX6_addMark : ByteArray := prog_8_method_11_code
def yX6_addMark : MethodName := ⟨RX6, "addMark", "(LCardIndex$Act;II)V"⟩
def RX7 : String := "CardIndex$Stripe"
def TX7 : u_T := fun k => match k with
  | 0 => ("CardIndex$Stripe", "heads", "[I", false)
  | 1 => ("CardIndex$Stripe", "newHeads", "[I", false)
  | 2 => ("CardIndex$Stripe", "below", "[I", true)
  | 3 => ("CardIndex$Stripe", "rows", "I", false)
  | 4 => ("CardIndex$Stripe", "cards", "I", false)
  | 5 => ("CardIndex$Stripe", "grows", "Z", false)
  | 6 => ("CardIndex$Stripe", "rowsMoved", "I", false)
  | 7 => ("CardIndex$Stripe", "growths", "I", false)
  | _ => ("CardIndex$Stripe", "cardsMoved", "I", false)
def tyX7 : Nat → FieldType := fun k => match k with
  | 0 => .array .int
  | 1 => .array .int
  | 2 => .array .int
  | 3 => .int
  | 4 => .int
  | 5 => .boolean
  | 6 => .int
  | 7 => .int
  | _ => .int
abbrev wsX70 : List Cond := u_ws RX7 TX7 9
theorem nmX7 : ∀ a, a < 9 → ∀ b, b < 9 → a ≠ b → (TX7 a).2.1 ≠ (TX7 b).2.1 := by decide +kernel
theorem tyX7_ok : ∀ k, k < 9 → parseFieldDescriptor (TX7 k).2.2.1 = some (tyX7 k) := by decide +kernel
abbrev cX7_init : ByteArray := prog_9_method_1_code
def yX7_init : MethodName := ⟨RX7, "<init>", "()V"⟩
abbrev cX7_empty : ByteArray := prog_9_method_2_code
def yX7_empty : MethodName := ⟨RX7, "empty", "()V"⟩
abbrev cX7_rowsNow : ByteArray := prog_9_method_3_code
def yX7_rowsNow : MethodName := ⟨RX7, "rowsNow", "()I"⟩
abbrev cX7_add : ByteArray := prog_9_method_4_code
def yX7_add : MethodName := ⟨RX7, "add", "(I)V"⟩
abbrev cX7_takeOut : ByteArray := prog_9_method_5_code
def yX7_takeOut : MethodName := ⟨RX7, "takeOut", "(I)V"⟩
abbrev cX7_moveNextRow : ByteArray := prog_9_method_6_code
def yX7_moveNextRow : MethodName := ⟨RX7, "moveNextRow", "()V"⟩
abbrev cX7_endGrowing : ByteArray := prog_9_method_7_code
def yX7_endGrowing : MethodName := ⟨RX7, "endGrowing", "()V"⟩
abbrev cX7_list : ByteArray := prog_9_method_8_code
def yX7_list : MethodName := ⟨RX7, "list", "(I[II)I"⟩
abbrev cX7_listRows : ByteArray := prog_9_method_9_code
def yX7_listRows : MethodName := ⟨RX7, "listRows", "([II[II)I"⟩
def RX8 : String := "CardIndex$Tray"
def TX8 : u_T := fun k => match k with
  | 0 => ("CardIndex$Tray", "cards", "LCardIndex$Cards;", true)
  | 1 => ("CardIndex$Tray", "stripes", "[LCardIndex$Stripe;", true)
  | 2 => ("CardIndex$Tray", "owners", "[I", true)
  | 3 => ("CardIndex$Tray", "throwsTold", "[I", true)
  | 4 => ("CardIndex$Tray", "throwsLeft", "[I", true)
  | 5 => ("CardIndex$Tray", "listed", "[I", true)
  | 6 => ("CardIndex$Tray", "kind", "I", false)
  | 7 => ("CardIndex$Tray", "limit", "I", false)
  | 8 => ("CardIndex$Tray", "fault", "I", false)
  | 9 => ("CardIndex$Tray", "marked", "I", false)
  | 10 => ("CardIndex$Tray", "makings", "I", false)
  | _ => ("CardIndex$Tray", "threw", "I", false)
def tyX8 : Nat → FieldType := fun k => match k with
  | 0 => .object "CardIndex$Cards"
  | 1 => .array (.object "CardIndex$Stripe")
  | 2 => .array .int
  | 3 => .array .int
  | 4 => .array .int
  | 5 => .array .int
  | 6 => .int
  | 7 => .int
  | 8 => .int
  | 9 => .int
  | 10 => .int
  | _ => .int
abbrev wsX80 : List Cond := u_ws RX8 TX8 12
theorem nmX8 : ∀ a, a < 12 → ∀ b, b < 12 → a ≠ b → (TX8 a).2.1 ≠ (TX8 b).2.1 := by decide +kernel
theorem tyX8_ok : ∀ k, k < 12 → parseFieldDescriptor (TX8 k).2.2.1 = some (tyX8 k) := by decide +kernel
abbrev cX8_init : ByteArray := prog_10_method_1_code
def yX8_init : MethodName := ⟨RX8, "<init>", "()V"⟩
abbrev cX8_become : ByteArray := prog_10_method_2_code
def yX8_become : MethodName := ⟨RX8, "become", "(III)V"⟩
abbrev cX8_takes : ByteArray := prog_10_method_3_code
def yX8_takes : MethodName := ⟨RX8, "takes", "(II)Z"⟩
abbrev cX8_beginAnew : ByteArray := prog_10_method_4_code
def yX8_beginAnew : MethodName := ⟨RX8, "beginAnew", "()V"⟩
abbrev cX8_stepsOf : ByteArray := prog_10_method_5_code
def yX8_stepsOf : MethodName := ⟨RX8, "stepsOf", "(I)[I"⟩
abbrev cX8_monitorOf : ByteArray := prog_10_method_6_code
def yX8_monitorOf : MethodName := ⟨RX8, "monitorOf", "(LCardIndex$Act;)I"⟩
abbrev cX8_isFreeFor : ByteArray := prog_10_method_7_code
def yX8_isFreeFor : MethodName := ⟨RX8, "isFreeFor", "(II)Z"⟩
abbrev cX8_take : ByteArray := prog_10_method_8_code
def yX8_take : MethodName := ⟨RX8, "take", "(II)V"⟩
abbrev cX8_give : ByteArray := prog_10_method_9_code
def yX8_give : MethodName := ⟨RX8, "give", "(II)V"⟩
abbrev cX8_read : ByteArray := prog_10_method_10_code
def yX8_read : MethodName := ⟨RX8, "read", "(LCardIndex$Act;LCardIndex$Clerk;)V"⟩
abbrev cX8_look : ByteArray := prog_10_method_11_code
def yX8_look : MethodName := ⟨RX8, "look", "(LCardIndex$Act;)Z"⟩
abbrev cX8_lookForValue : ByteArray := prog_10_method_12_code
def yX8_lookForValue : MethodName := ⟨RX8, "lookForValue", "(LCardIndex$Act;)Z"⟩
abbrev cX8_lookAtEnds : ByteArray := prog_10_method_13_code
def yX8_lookAtEnds : MethodName := ⟨RX8, "lookAtEnds", "(LCardIndex$Act;)Z"⟩
abbrev cX8_markKey : ByteArray := prog_10_method_14_code
def yX8_markKey : MethodName := ⟨RX8, "markKey", "(I)V"⟩
abbrev cX8_make : ByteArray := prog_10_method_15_code
def yX8_make : MethodName := ⟨RX8, "make", "(LCardIndex$Act;)V"⟩
abbrev cX8_write : ByteArray := prog_10_method_16_code
def yX8_write : MethodName := ⟨RX8, "write", "(LCardIndex$Act;LCardIndex$Clerk;)V"⟩
abbrev cX8_writeMap : ByteArray := prog_10_method_17_code
def yX8_writeMap : MethodName := ⟨RX8, "writeMap", "(LCardIndex$Act;)V"⟩
abbrev cX8_writeDeque : ByteArray := prog_10_method_18_code
def yX8_writeDeque : MethodName := ⟨RX8, "writeDeque", "(LCardIndex$Act;)V"⟩
abbrev cX8_writeOnce : ByteArray := prog_10_method_19_code
def yX8_writeOnce : MethodName := ⟨RX8, "writeOnce", "(LCardIndex$Act;)V"⟩
abbrev cX8_countCards : ByteArray := prog_10_method_20_code
def yX8_countCards : MethodName := ⟨RX8, "countCards", "()I"⟩
abbrev cX8_listKeys : ByteArray := prog_10_method_21_code
def yX8_listKeys : MethodName := ⟨RX8, "listKeys", "()V"⟩
abbrev cX8_keyAt : ByteArray := prog_10_method_22_code
def yX8_keyAt : MethodName := ⟨RX8, "keyAt", "(I)I"⟩
abbrev cX8_valueAt : ByteArray := prog_10_method_23_code
def yX8_valueAt : MethodName := ⟨RX8, "valueAt", "(I)I"⟩
abbrev cX8_digestCards : ByteArray := prog_10_method_24_code
def yX8_digestCards : MethodName := ⟨RX8, "digestCards", "(J)J"⟩
abbrev cX8_countGrowths : ByteArray := prog_10_method_25_code
def yX8_countGrowths : MethodName := ⟨RX8, "countGrowths", "()I"⟩
abbrev cX8_countMoved : ByteArray := prog_10_method_26_code
def yX8_countMoved : MethodName := ⟨RX8, "countMoved", "()I"⟩
abbrev cX8_countRows : ByteArray := prog_10_method_27_code
def yX8_countRows : MethodName := ⟨RX8, "countRows", "()I"⟩
def RX9 : String := "CardIndex"
def TX9 : u_T := fun k => match k with
  | 0 => ("CardIndex", "desk", "LCardIndex$Desk;", true)
  | 1 => ("CardIndex", "latest", "LCardIndex$Run;", true)
  | 2 => ("CardIndex", "checker", "LCardIndex$Checker;", true)
  | 3 => ("CardIndex", "explorer", "LCardIndex$Explorer;", true)
  | 4 => ("CardIndex", "choices", "[I", true)
  | 5 => ("CardIndex", "ran", "Z", false)
  | 6 => ("CardIndex", "latestTries", "I", false)
  | _ => ("CardIndex", "askedFor", "I", false)
def tyX9 : Nat → FieldType := fun k => match k with
  | 0 => .object "CardIndex$Desk"
  | 1 => .object "CardIndex$Run"
  | 2 => .object "CardIndex$Checker"
  | 3 => .object "CardIndex$Explorer"
  | 4 => .array .int
  | 5 => .boolean
  | 6 => .int
  | _ => .int
abbrev wsX90 : List Cond := u_ws RX9 TX9 8
theorem nmX9 : ∀ a, a < 8 → ∀ b, b < 8 → a ≠ b → (TX9 a).2.1 ≠ (TX9 b).2.1 := by decide +kernel
theorem tyX9_ok : ∀ k, k < 8 → parseFieldDescriptor (TX9 k).2.2.1 = some (tyX9 k) := by decide +kernel
abbrev cX9_init : ByteArray := prog_1_method_1_code
def yX9_init : MethodName := ⟨RX9, "<init>", "()V"⟩
abbrev cX9_tray : ByteArray := prog_1_method_2_code
def yX9_tray : MethodName := ⟨RX9, "tray", "(III)I"⟩
abbrev cX9_clerk : ByteArray := prog_1_method_3_code
def yX9_clerk : MethodName := ⟨RX9, "clerk", "()I"⟩
abbrev cX9_act : ByteArray := prog_1_method_4_code
def yX9_act : MethodName := ⟨RX9, "act", "(IIIII)I"⟩
abbrev cX9_baton : ByteArray := prog_1_method_5_code
def yX9_baton : MethodName := ⟨RX9, "baton", "(II)I"⟩
abbrev cX9_patience : ByteArray := prog_1_method_6_code
def yX9_patience : MethodName := ⟨RX9, "patience", "(III)I"⟩
abbrev cX9_throwing : ByteArray := prog_1_method_7_code
def yX9_throwing : MethodName := ⟨RX9, "throwing", "(III)I"⟩
abbrev cX9_run : ByteArray := prog_1_method_8_code
def yX9_run : MethodName := ⟨RX9, "run", "()I"⟩
abbrev cX9_answer : ByteArray := prog_1_method_9_code
def yX9_answer : MethodName := ⟨RX9, "answer", "(II)I"⟩
abbrev cX9_outcome : ByteArray := prog_1_method_10_code
def yX9_outcome : MethodName := ⟨RX9, "outcome", "(II)I"⟩
abbrev cX9_waited : ByteArray := prog_1_method_11_code
def yX9_waited : MethodName := ⟨RX9, "waited", "(II)I"⟩
abbrev cX9_mark : ByteArray := prog_1_method_12_code
def yX9_mark : MethodName := ⟨RX9, "mark", "(II)I"⟩
abbrev cX9_count : ByteArray := prog_1_method_13_code
def yX9_count : MethodName := ⟨RX9, "count", "(I)I"⟩
abbrev cX9_size : ByteArray := prog_1_method_14_code
def yX9_size : MethodName := ⟨RX9, "size", "(I)I"⟩
abbrev cX9_card : ByteArray := prog_1_method_15_code
def yX9_card : MethodName := ⟨RX9, "card", "(III)I"⟩
abbrev cX9_asked : ByteArray := prog_1_method_16_code
def yX9_asked : MethodName := ⟨RX9, "asked", "()I"⟩
abbrev cX9_about : ByteArray := prog_1_method_17_code
def yX9_about : MethodName := ⟨RX9, "about", "(II)I"⟩
abbrev cX9_fits : ByteArray := prog_1_method_18_code
def yX9_fits : MethodName := ⟨RX9, "fits", "(I)I"⟩
abbrev cX9_order : ByteArray := prog_1_method_19_code
def yX9_order : MethodName := ⟨RX9, "order", "(II)I"⟩
abbrev cX9_tries : ByteArray := prog_1_method_20_code
def yX9_tries : MethodName := ⟨RX9, "tries", "()I"⟩
abbrev cX9_first : ByteArray := prog_1_method_21_code
def yX9_first : MethodName := ⟨RX9, "first", "()I"⟩
abbrev cX9_explore : ByteArray := prog_1_method_22_code
def yX9_explore : MethodName := ⟨RX9, "explore", "(I)I"⟩
abbrev cX9_explored : ByteArray := prog_1_method_23_code
def yX9_explored : MethodName := ⟨RX9, "explored", "(I)I"⟩
abbrev cX9_digest : ByteArray := prog_1_method_24_code
def yX9_digest : MethodName := ⟨RX9, "digest", "()J"⟩
abbrev cX9_clear : ByteArray := prog_1_method_25_code
def yX9_clear : MethodName := ⟨RX9, "clear", "()I"⟩
abbrev cX9_check : ByteArray := prog_1_method_26_code
def yX9_check : MethodName := ⟨RX9, "check", "(I)I"⟩
def RX10 : String := "CardIndexModel"
def TX10 : u_T := fun k => match k with
  | 0 => ("CardIndexModel", "trays", "I", false)
  | 1 => ("CardIndexModel", "kind", "[I", true)
  | 2 => ("CardIndexModel", "room", "[I", true)
  | 3 => ("CardIndexModel", "fault", "[I", true)
  | 4 => ("CardIndexModel", "clerks", "I", false)
  | 5 => ("CardIndexModel", "acts", "[I", true)
  | 6 => ("CardIndexModel", "trayOf", "[I", true)
  | 7 => ("CardIndexModel", "opOf", "[I", true)
  | 8 => ("CardIndexModel", "aOf", "[I", true)
  | 9 => ("CardIndexModel", "bOf", "[I", true)
  | 10 => ("CardIndexModel", "patience", "[I", true)
  | 11 => ("CardIndexModel", "baton", "[I", true)
  | 12 => ("CardIndexModel", "throwing", "[I", true)
  | 13 => ("CardIndexModel", "isRun", "Z", false)
  | 14 => ("CardIndexModel", "ended", "I", false)
  | 15 => ("CardIndexModel", "steps", "I", false)
  | 16 => ("CardIndexModel", "marks", "I", false)
  | 17 => ("CardIndexModel", "markAct", "[I", true)
  | 18 => ("CardIndexModel", "markEnds", "[Z", true)
  | 19 => ("CardIndexModel", "markSteps", "[I", true)
  | 20 => ("CardIndexModel", "answers", "[I", true)
  | 21 => ("CardIndexModel", "outcomes", "[I", true)
  | 22 => ("CardIndexModel", "waits", "[I", true)
  | 23 => ("CardIndexModel", "beginMark", "[I", true)
  | 24 => ("CardIndexModel", "endMark", "[I", true)
  | 25 => ("CardIndexModel", "now", "[I", true)
  | 26 => ("CardIndexModel", "pos", "[I", true)
  | 27 => ("CardIndexModel", "isWaiting", "[Z", true)
  | 28 => ("CardIndexModel", "since", "[I", true)
  | 29 => ("CardIndexModel", "notedHas", "[Z", true)
  | 30 => ("CardIndexModel", "noted", "[I", true)
  | 31 => ("CardIndexModel", "notedClosed", "[Z", true)
  | 32 => ("CardIndexModel", "threw", "[Z", true)
  | 33 => ("CardIndexModel", "isShort", "[Z", true)
  | 34 => ("CardIndexModel", "copyHas", "[Z", true)
  | 35 => ("CardIndexModel", "copyValue", "[I", true)
  | 36 => ("CardIndexModel", "owner", "[I", true)
  | 37 => ("CardIndexModel", "has", "[Z", true)
  | 38 => ("CardIndexModel", "value", "[I", true)
  | 39 => ("CardIndexModel", "rowOf", "[I", true)
  | 40 => ("CardIndexModel", "isNew", "[Z", true)
  | 41 => ("CardIndexModel", "stamp", "[I", true)
  | 42 => ("CardIndexModel", "stamps", "I", false)
  | 43 => ("CardIndexModel", "row", "[I", true)
  | 44 => ("CardIndexModel", "many", "[I", true)
  | 45 => ("CardIndexModel", "isClosed", "[Z", true)
  | 46 => ("CardIndexModel", "share", "[I", true)
  | 47 => ("CardIndexModel", "marked", "[Z", true)
  | 48 => ("CardIndexModel", "throwsLeft", "[I", true)
  | 49 => ("CardIndexModel", "rows", "[I", true)
  | 50 => ("CardIndexModel", "grows", "[Z", true)
  | 51 => ("CardIndexModel", "nextOld", "[I", true)
  | 52 => ("CardIndexModel", "grew", "[I", true)
  | 53 => ("CardIndexModel", "moved", "[I", true)
  | 54 => ("CardIndexModel", "began", "[I", true)
  | 55 => ("CardIndexModel", "thrownMany", "[I", true)
  | 56 => ("CardIndexModel", "asked", "I", false)
  | 57 => ("CardIndexModel", "tries", "I", false)
  | 58 => ("CardIndexModel", "explored", "[I", true)
  | 59 => ("CardIndexModel", "taken", "[I", true)
  | 60 => ("CardIndexModel", "takenMany", "I", false)
  | 61 => ("CardIndexModel", "placed", "[I", true)
  | 62 => ("CardIndexModel", "isPlaced", "[Z", true)
  | 63 => ("CardIndexModel", "nextTry", "[I", true)
  | 64 => ("CardIndexModel", "triesNow", "I", false)
  | 65 => ("CardIndexModel", "plainHas", "[Z", true)
  | 66 => ("CardIndexModel", "plainValue", "[I", true)
  | 67 => ("CardIndexModel", "plainRow", "[I", true)
  | 68 => ("CardIndexModel", "plainMany", "I", false)
  | 69 => ("CardIndexModel", "plainClosed", "Z", false)
  | 70 => ("CardIndexModel", "plainShare", "[I", true)
  | 71 => ("CardIndexModel", "chosen", "[I", true)
  | 72 => ("CardIndexModel", "ables", "[I", true)
  | 73 => ("CardIndexModel", "seen", "[I", true)
  | _ => ("CardIndexModel", "gone", "I", false)
def tyX10 : Nat → FieldType := fun k => match k with
  | 0 => .int
  | 1 => .array .int
  | 2 => .array .int
  | 3 => .array .int
  | 4 => .int
  | 5 => .array .int
  | 6 => .array .int
  | 7 => .array .int
  | 8 => .array .int
  | 9 => .array .int
  | 10 => .array .int
  | 11 => .array .int
  | 12 => .array .int
  | 13 => .boolean
  | 14 => .int
  | 15 => .int
  | 16 => .int
  | 17 => .array .int
  | 18 => .array .boolean
  | 19 => .array .int
  | 20 => .array .int
  | 21 => .array .int
  | 22 => .array .int
  | 23 => .array .int
  | 24 => .array .int
  | 25 => .array .int
  | 26 => .array .int
  | 27 => .array .boolean
  | 28 => .array .int
  | 29 => .array .boolean
  | 30 => .array .int
  | 31 => .array .boolean
  | 32 => .array .boolean
  | 33 => .array .boolean
  | 34 => .array .boolean
  | 35 => .array .int
  | 36 => .array .int
  | 37 => .array .boolean
  | 38 => .array .int
  | 39 => .array .int
  | 40 => .array .boolean
  | 41 => .array .int
  | 42 => .int
  | 43 => .array .int
  | 44 => .array .int
  | 45 => .array .boolean
  | 46 => .array .int
  | 47 => .array .boolean
  | 48 => .array .int
  | 49 => .array .int
  | 50 => .array .boolean
  | 51 => .array .int
  | 52 => .array .int
  | 53 => .array .int
  | 54 => .array .int
  | 55 => .array .int
  | 56 => .int
  | 57 => .int
  | 58 => .array .int
  | 59 => .array .int
  | 60 => .int
  | 61 => .array .int
  | 62 => .array .boolean
  | 63 => .array .int
  | 64 => .int
  | 65 => .array .boolean
  | 66 => .array .int
  | 67 => .array .int
  | 68 => .int
  | 69 => .boolean
  | 70 => .array .int
  | 71 => .array .int
  | 72 => .array .int
  | 73 => .array .int
  | _ => .int
abbrev wsX100 : List Cond := u_ws RX10 TX10 75
theorem nmX10 : ∀ a, a < 75 → ∀ b, b < 75 → a ≠ b → (TX10 a).2.1 ≠ (TX10 b).2.1 := by decide +kernel
theorem tyX10_ok : ∀ k, k < 75 → parseFieldDescriptor (TX10 k).2.2.1 = some (tyX10 k) := by decide +kernel
abbrev cX10_in : ByteArray := prog_12_method_2_code
def yX10_in : MethodName := ⟨RX10, "in", "(III)Z"⟩
abbrev cX10_init : ByteArray := prog_12_method_3_code
def yX10_init : MethodName := ⟨RX10, "<init>", "()V"⟩
abbrev cX10_isTray : ByteArray := prog_12_method_4_code
def yX10_isTray : MethodName := ⟨RX10, "isTray", "(I)Z"⟩
abbrev cX10_isAct : ByteArray := prog_12_method_5_code
def yX10_isAct : MethodName := ⟨RX10, "isAct", "(II)Z"⟩
abbrev cX10_tray : ByteArray := prog_12_method_6_code
def yX10_tray : MethodName := ⟨RX10, "tray", "(III)I"⟩
abbrev cX10_clerk : ByteArray := prog_12_method_7_code
def yX10_clerk : MethodName := ⟨RX10, "clerk", "()I"⟩
abbrev cX10_ops : ByteArray := prog_12_method_8_code
def yX10_ops : MethodName := ⟨RX10, "ops", "(I)I"⟩
abbrev cX10_hasKey : ByteArray := prog_12_method_9_code
def yX10_hasKey : MethodName := ⟨RX10, "hasKey", "(II)Z"⟩
abbrev cX10_act : ByteArray := prog_12_method_10_code
def yX10_act : MethodName := ⟨RX10, "act", "(IIIII)I"⟩
abbrev cX10_baton : ByteArray := prog_12_method_11_code
def yX10_baton : MethodName := ⟨RX10, "baton", "(II)I"⟩
abbrev cX10_patience : ByteArray := prog_12_method_12_code
def yX10_patience : MethodName := ⟨RX10, "patience", "(III)I"⟩
abbrev cX10_throwing : ByteArray := prog_12_method_13_code
def yX10_throwing : MethodName := ⟨RX10, "throwing", "(III)I"⟩
abbrev cX10_stepOf : ByteArray := prog_12_method_14_code
def yX10_stepOf : MethodName := ⟨RX10, "stepOf", "(III)I"⟩
abbrev cX10_stripe : ByteArray := prog_12_method_15_code
def yX10_stripe : MethodName := ⟨RX10, "stripe", "(II)I"⟩
abbrev cX10_cardsIn : ByteArray := prog_12_method_16_code
def yX10_cardsIn : MethodName := ⟨RX10, "cardsIn", "(II)I"⟩
abbrev cX10_toHead : ByteArray := prog_12_method_17_code
def yX10_toHead : MethodName := ⟨RX10, "toHead", "(IIZI)V"⟩
abbrev cX10_moves : ByteArray := prog_12_method_18_code
def yX10_moves : MethodName := ⟨RX10, "moves", "(II)V"⟩
abbrev cX10_headOf : ByteArray := prog_12_method_19_code
def yX10_headOf : MethodName := ⟨RX10, "headOf", "(IIZI)I"⟩
abbrev cX10_nextOf : ByteArray := prog_12_method_20_code
def yX10_nextOf : MethodName := ⟨RX10, "nextOf", "(IIZII)I"⟩
abbrev cX10_puts : ByteArray := prog_12_method_21_code
def yX10_puts : MethodName := ⟨RX10, "puts", "(III)V"⟩
abbrev cX10_begins : ByteArray := prog_12_method_22_code
def yX10_begins : MethodName := ⟨RX10, "begins", "()V"⟩
abbrev cX10_isAble : ByteArray := prog_12_method_23_code
def yX10_isAble : MethodName := ⟨RX10, "isAble", "(I)Z"⟩
abbrev cX10_marks : ByteArray := prog_12_method_24_code
def yX10_marks : MethodName := ⟨RX10, "marks", "(IZ)V"⟩
abbrev cX10_waits : ByteArray := prog_12_method_25_code
def yX10_waits : MethodName := ⟨RX10, "waits", "(II)V"⟩
abbrev cX10_read : ByteArray := prog_12_method_26_code
def yX10_read : MethodName := ⟨RX10, "read", "(II)V"⟩
abbrev cX10_look : ByteArray := prog_12_method_27_code
def yX10_look : MethodName := ⟨RX10, "look", "(II)V"⟩
abbrev cX10_putLast : ByteArray := prog_12_method_28_code
def yX10_putLast : MethodName := ⟨RX10, "putLast", "(II)V"⟩
abbrev cX10_putFirst : ByteArray := prog_12_method_29_code
def yX10_putFirst : MethodName := ⟨RX10, "putFirst", "(II)V"⟩
abbrev cX10_takeFirst : ByteArray := prog_12_method_30_code
def yX10_takeFirst : MethodName := ⟨RX10, "takeFirst", "(I)V"⟩
abbrev cX10_write : ByteArray := prog_12_method_31_code
def yX10_write : MethodName := ⟨RX10, "write", "(II)V"⟩
abbrev cX10_ownValue : ByteArray := prog_12_method_32_code
def yX10_ownValue : MethodName := ⟨RX10, "ownValue", "(I)I"⟩
abbrev cX10_makes : ByteArray := prog_12_method_33_code
def yX10_makes : MethodName := ⟨RX10, "makes", "(II)V"⟩
abbrev cX10_ends : ByteArray := prog_12_method_34_code
def yX10_ends : MethodName := ⟨RX10, "ends", "(II)V"⟩
abbrev cX10_over : ByteArray := prog_12_method_35_code
def yX10_over : MethodName := ⟨RX10, "over", "(IIII)V"⟩
abbrev cX10_does : ByteArray := prog_12_method_36_code
def yX10_does : MethodName := ⟨RX10, "does", "(I)V"⟩
abbrev cX10_leastAble : ByteArray := prog_12_method_37_code
def yX10_leastAble : MethodName := ⟨RX10, "leastAble", "()I"⟩
abbrev cX10_howItEnds : ByteArray := prog_12_method_38_code
def yX10_howItEnds : MethodName := ⟨RX10, "howItEnds", "()I"⟩
abbrev cX10_run : ByteArray := prog_12_method_39_code
def yX10_run : MethodName := ⟨RX10, "run", "()I"⟩
abbrev cX10_answer : ByteArray := prog_12_method_40_code
def yX10_answer : MethodName := ⟨RX10, "answer", "(II)I"⟩
abbrev cX10_outcome : ByteArray := prog_12_method_41_code
def yX10_outcome : MethodName := ⟨RX10, "outcome", "(II)I"⟩
abbrev cX10_waited : ByteArray := prog_12_method_42_code
def yX10_waited : MethodName := ⟨RX10, "waited", "(II)I"⟩
abbrev cX10_mark : ByteArray := prog_12_method_43_code
def yX10_mark : MethodName := ⟨RX10, "mark", "(II)I"⟩
abbrev cX10_count : ByteArray := prog_12_method_44_code
def yX10_count : MethodName := ⟨RX10, "count", "(I)I"⟩
abbrev cX10_sizeOf : ByteArray := prog_12_method_45_code
def yX10_sizeOf : MethodName := ⟨RX10, "sizeOf", "(I)I"⟩
abbrev cX10_size : ByteArray := prog_12_method_46_code
def yX10_size : MethodName := ⟨RX10, "size", "(I)I"⟩
abbrev cX10_mapKey : ByteArray := prog_12_method_47_code
def yX10_mapKey : MethodName := ⟨RX10, "mapKey", "(II)I"⟩
abbrev cX10_keyOf : ByteArray := prog_12_method_48_code
def yX10_keyOf : MethodName := ⟨RX10, "keyOf", "(II)I"⟩
abbrev cX10_cardOf : ByteArray := prog_12_method_49_code
def yX10_cardOf : MethodName := ⟨RX10, "cardOf", "(III)I"⟩
abbrev cX10_card : ByteArray := prog_12_method_50_code
def yX10_card : MethodName := ⟨RX10, "card", "(III)I"⟩
abbrev cX10_asked : ByteArray := prog_12_method_51_code
def yX10_asked : MethodName := ⟨RX10, "asked", "()I"⟩
abbrev cX10_about : ByteArray := prog_12_method_52_code
def yX10_about : MethodName := ⟨RX10, "about", "(II)I"⟩
abbrev cX10_take : ByteArray := prog_12_method_53_code
def yX10_take : MethodName := ⟨RX10, "take", "(I)V"⟩
abbrev cX10_plainEmpty : ByteArray := prog_12_method_54_code
def yX10_plainEmpty : MethodName := ⟨RX10, "plainEmpty", "()V"⟩
abbrev cX10_gives : ByteArray := prog_12_method_55_code
def yX10_gives : MethodName := ⟨RX10, "gives", "(ZIII)Z"⟩
abbrev cX10_plainDeque : ByteArray := prog_12_method_56_code
def yX10_plainDeque : MethodName := ⟨RX10, "plainDeque", "(II)Z"⟩
abbrev cX10_plainTake : ByteArray := prog_12_method_57_code
def yX10_plainTake : MethodName := ⟨RX10, "plainTake", "(Z)V"⟩
abbrev cX10_plain : ByteArray := prog_12_method_58_code
def yX10_plain : MethodName := ⟨RX10, "plain", "(II)Z"⟩
abbrev cX10_areAlike : ByteArray := prog_12_method_59_code
def yX10_areAlike : MethodName := ⟨RX10, "areAlike", "(I)Z"⟩
abbrev cX10_mayCome : ByteArray := prog_12_method_60_code
def yX10_mayCome : MethodName := ⟨RX10, "mayCome", "(III)Z"⟩
abbrev cX10_search : ByteArray := prog_12_method_61_code
def yX10_search : MethodName := ⟨RX10, "search", "(II)I"⟩
abbrev cX10_fitsOf : ByteArray := prog_12_method_62_code
def yX10_fitsOf : MethodName := ⟨RX10, "fitsOf", "(I)I"⟩
abbrev cX10_fits : ByteArray := prog_12_method_63_code
def yX10_fits : MethodName := ⟨RX10, "fits", "(I)I"⟩
abbrev cX10_order : ByteArray := prog_12_method_64_code
def yX10_order : MethodName := ⟨RX10, "order", "(II)I"⟩
abbrev cX10_tries : ByteArray := prog_12_method_65_code
def yX10_tries : MethodName := ⟨RX10, "tries", "()I"⟩
abbrev cX10_first : ByteArray := prog_12_method_66_code
def yX10_first : MethodName := ⟨RX10, "first", "()I"⟩
abbrev cX10_ableMany : ByteArray := prog_12_method_67_code
def yX10_ableMany : MethodName := ⟨RX10, "ableMany", "()I"⟩
abbrev cX10_ableAt : ByteArray := prog_12_method_68_code
def yX10_ableAt : MethodName := ⟨RX10, "ableAt", "(I)I"⟩
abbrev cX10_differs : ByteArray := prog_12_method_69_code
def yX10_differs : MethodName := ⟨RX10, "differs", "(II)Z"⟩
abbrev cX10_weighs : ByteArray := prog_12_method_70_code
def yX10_weighs : MethodName := ⟨RX10, "weighs", "(I)V"⟩
abbrev cX10_explore : ByteArray := prog_12_method_71_code
def yX10_explore : MethodName := ⟨RX10, "explore", "(I)I"⟩
abbrev cX10_explored : ByteArray := prog_12_method_72_code
def yX10_explored : MethodName := ⟨RX10, "explored", "(I)I"⟩
abbrev cX10_digest : ByteArray := prog_12_method_73_code
def yX10_digest : MethodName := ⟨RX10, "digest", "()J"⟩
abbrev cX10_clear : ByteArray := prog_12_method_74_code
def yX10_clear : MethodName := ⟨RX10, "clear", "()I"⟩
def RJ6 : String := "java/lang/Integer"
def TJ6 : u_T := fun k => match k with
  | _ => ("", "", "", false)
def tyJ6 : Nat → FieldType := fun k => match k with
  | _ => .int
abbrev wsJ60 : List Cond := u_ws RJ6 TJ6 0
theorem nmJ6 : ∀ a, a < 0 → ∀ b, b < 0 → a ≠ b → (TJ6 a).2.1 ≠ (TJ6 b).2.1 := by decide +kernel
theorem tyJ6_ok : ∀ k, k < 0 → parseFieldDescriptor (TJ6 k).2.2.1 = some (tyJ6 k) := by decide +kernel
abbrev cJ6_bitCount_0f7a4 : ByteArray := prog_13_method_49_code
def yJ6_bitCount_0f7a4 : MethodName := ⟨RJ6, "bitCount", "(I)I"⟩
def RJ10 : String := "java/lang/System"
def TJ10 : u_T := fun k => match k with
  | _ => ("", "", "", false)
def tyJ10 : Nat → FieldType := fun k => match k with
  | _ => .int
abbrev wsJ100 : List Cond := u_ws RJ10 TJ10 0
theorem nmJ10 : ∀ a, a < 0 → ∀ b, b < 0 → a ≠ b → (TJ10 a).2.1 ≠ (TJ10 b).2.1 := by decide +kernel
theorem tyJ10_ok : ∀ k, k < 0 → parseFieldDescriptor (TJ10 k).2.2.1 = some (tyJ10 k) := by decide +kernel
def RJ7 : String := "java/util/Arrays"
def TJ7 : u_T := fun k => match k with
  | _ => ("", "", "", false)
def tyJ7 : Nat → FieldType := fun k => match k with
  | _ => .int
abbrev wsJ70 : List Cond := u_ws RJ7 TJ7 0
theorem nmJ7 : ∀ a, a < 0 → ∀ b, b < 0 → a ≠ b → (TJ7 a).2.1 ≠ (TJ7 b).2.1 := by decide +kernel
theorem tyJ7_ok : ∀ k, k < 0 → parseFieldDescriptor (TJ7 k).2.2.1 = some (tyJ7 k) := by decide +kernel
abbrev cJ7_fill_53178 : ByteArray := prog_15_method_103_code
def yJ7_fill_53178 : MethodName := ⟨RJ7, "fill", "([II)V"⟩
def RL : String := "CardIndexLaw"
abbrev cL_law : ByteArray := code
def yL_law : MethodName := ⟨RL, "law", "([I)Z"⟩
