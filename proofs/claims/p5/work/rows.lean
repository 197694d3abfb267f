section
-- ===== PART A: goes FIRST, ahead of the names: the tables' words, and 'selects' of the private methods out of them =====
/-- a private method of a class that the tables say can be made, by its rows of tables_1 -/
def lw_okq (q : MethodName × Nat) : Prop := (q.1.cls ≠ "java/lang/invoke/MethodHandle" ∧ q.1.cls ≠ "java/lang/invoke/VarHandle") ∧ Cond.instantiable q.1.cls q.2 ∈ tables_1 ∧ Cond.privateMethod q.1 ∈ tables_1 ∧ Cond.instanceMethod q.1 ∈ tables_1
theorem lw_p0 : lw_okq (⟨"CardIndex$Desk", "beginAct", "(LCardIndex$Act;)V"⟩, 4) := ⟨⟨by decide +kernel, by decide +kernel⟩, List.mem_of_getElem? (i := 24) (by decide +kernel), List.mem_of_getElem? (i := 563) (by decide +kernel), List.mem_of_getElem? (i := 564) (by decide +kernel)⟩
theorem lw_p1 : lw_okq (⟨"CardIndex$Run", "findAble", "(I)I"⟩, 7) := ⟨⟨by decide +kernel, by decide +kernel⟩, List.mem_of_getElem? (i := 324) (by decide +kernel), List.mem_of_getElem? (i := 597) (by decide +kernel), List.mem_of_getElem? (i := 598) (by decide +kernel)⟩
theorem lw_p2 : lw_okq (⟨"CardIndex$Run", "isAble", "(LCardIndex$Clerk;I)Z"⟩, 7) := ⟨⟨by decide +kernel, by decide +kernel⟩, List.mem_of_getElem? (i := 324) (by decide +kernel), List.mem_of_getElem? (i := 601) (by decide +kernel), List.mem_of_getElem? (i := 602) (by decide +kernel)⟩
theorem lw_p3 : lw_okq (⟨"CardIndex$Run", "doStep", "(LCardIndex$Clerk;I)V"⟩, 7) := ⟨⟨by decide +kernel, by decide +kernel⟩, List.mem_of_getElem? (i := 324) (by decide +kernel), List.mem_of_getElem? (i := 625) (by decide +kernel), List.mem_of_getElem? (i := 626) (by decide +kernel)⟩
theorem lw_p4 : lw_okq (⟨"CardIndex$Run", "addMark", "(LCardIndex$Act;II)V"⟩, 7) := ⟨⟨by decide +kernel, by decide +kernel⟩, List.mem_of_getElem? (i := 324) (by decide +kernel), List.mem_of_getElem? (i := 629) (by decide +kernel), List.mem_of_getElem? (i := 630) (by decide +kernel)⟩
theorem lw_p5 : lw_okq (⟨"CardIndex$Run", "endAct", "(LCardIndex$Clerk;LCardIndex$Act;II)V"⟩, 7) := ⟨⟨by decide +kernel, by decide +kernel⟩, List.mem_of_getElem? (i := 324) (by decide +kernel), List.mem_of_getElem? (i := 633) (by decide +kernel), List.mem_of_getElem? (i := 634) (by decide +kernel)⟩
theorem lw_p6 : lw_okq (⟨"CardIndex$Run", "goOn", "(LCardIndex$Clerk;LCardIndex$Act;I)V"⟩, 7) := ⟨⟨by decide +kernel, by decide +kernel⟩, List.mem_of_getElem? (i := 324) (by decide +kernel), List.mem_of_getElem? (i := 637) (by decide +kernel), List.mem_of_getElem? (i := 638) (by decide +kernel)⟩
theorem lw_p7 : lw_okq (⟨"CardIndex$Stripe", "endGrowing", "()V"⟩, 9) := ⟨⟨by decide +kernel, by decide +kernel⟩, List.mem_of_getElem? (i := 70) (by decide +kernel), List.mem_of_getElem? (i := 657) (by decide +kernel), List.mem_of_getElem? (i := 658) (by decide +kernel)⟩
theorem lw_p8 : lw_okq (⟨"CardIndex$Tray", "lookForValue", "(LCardIndex$Act;)Z"⟩, 12) := ⟨⟨by decide +kernel, by decide +kernel⟩, List.mem_of_getElem? (i := 33) (by decide +kernel), List.mem_of_getElem? (i := 695) (by decide +kernel), List.mem_of_getElem? (i := 696) (by decide +kernel)⟩
theorem lw_p9 : lw_okq (⟨"CardIndex$Tray", "lookAtEnds", "(LCardIndex$Act;)Z"⟩, 12) := ⟨⟨by decide +kernel, by decide +kernel⟩, List.mem_of_getElem? (i := 33) (by decide +kernel), List.mem_of_getElem? (i := 701) (by decide +kernel), List.mem_of_getElem? (i := 702) (by decide +kernel)⟩
theorem lw_p10 : lw_okq (⟨"CardIndex$Run", "beginWaiting", "(LCardIndex$Clerk;LCardIndex$Act;I)V"⟩, 7) := ⟨⟨by decide +kernel, by decide +kernel⟩, List.mem_of_getElem? (i := 324) (by decide +kernel), List.mem_of_getElem? (i := 709) (by decide +kernel), List.mem_of_getElem? (i := 710) (by decide +kernel)⟩
theorem lw_p11 : lw_okq (⟨"CardIndex$Tray", "writeMap", "(LCardIndex$Act;)V"⟩, 12) := ⟨⟨by decide +kernel, by decide +kernel⟩, List.mem_of_getElem? (i := 33) (by decide +kernel), List.mem_of_getElem? (i := 725) (by decide +kernel), List.mem_of_getElem? (i := 726) (by decide +kernel)⟩
theorem lw_p12 : lw_okq (⟨"CardIndex$Tray", "writeDeque", "(LCardIndex$Act;)V"⟩, 12) := ⟨⟨by decide +kernel, by decide +kernel⟩, List.mem_of_getElem? (i := 33) (by decide +kernel), List.mem_of_getElem? (i := 753) (by decide +kernel), List.mem_of_getElem? (i := 754) (by decide +kernel)⟩
theorem lw_p13 : lw_okq (⟨"CardIndex$Tray", "writeOnce", "(LCardIndex$Act;)V"⟩, 12) := ⟨⟨by decide +kernel, by decide +kernel⟩, List.mem_of_getElem? (i := 33) (by decide +kernel), List.mem_of_getElem? (i := 765) (by decide +kernel), List.mem_of_getElem? (i := 766) (by decide +kernel)⟩
theorem lw_p14 : lw_okq (⟨"CardIndex$Run", "allEnded", "()Z"⟩, 7) := ⟨⟨by decide +kernel, by decide +kernel⟩, List.mem_of_getElem? (i := 324) (by decide +kernel), List.mem_of_getElem? (i := 782) (by decide +kernel), List.mem_of_getElem? (i := 783) (by decide +kernel)⟩
theorem lw_p15 : lw_okq (⟨"CardIndex$Stripe", "listRows", "([II[II)I"⟩, 9) := ⟨⟨by decide +kernel, by decide +kernel⟩, List.mem_of_getElem? (i := 70) (by decide +kernel), List.mem_of_getElem? (i := 840) (by decide +kernel), List.mem_of_getElem? (i := 841) (by decide +kernel)⟩
def lw_privs_1 : List (MethodName × Nat) := [(⟨"CardIndex$Desk", "beginAct", "(LCardIndex$Act;)V"⟩, 4), (⟨"CardIndex$Run", "findAble", "(I)I"⟩, 7), (⟨"CardIndex$Run", "isAble", "(LCardIndex$Clerk;I)Z"⟩, 7), (⟨"CardIndex$Run", "doStep", "(LCardIndex$Clerk;I)V"⟩, 7), (⟨"CardIndex$Run", "addMark", "(LCardIndex$Act;II)V"⟩, 7), (⟨"CardIndex$Run", "endAct", "(LCardIndex$Clerk;LCardIndex$Act;II)V"⟩, 7), (⟨"CardIndex$Run", "goOn", "(LCardIndex$Clerk;LCardIndex$Act;I)V"⟩, 7), (⟨"CardIndex$Stripe", "endGrowing", "()V"⟩, 9), (⟨"CardIndex$Tray", "lookForValue", "(LCardIndex$Act;)Z"⟩, 12), (⟨"CardIndex$Tray", "lookAtEnds", "(LCardIndex$Act;)Z"⟩, 12), (⟨"CardIndex$Run", "beginWaiting", "(LCardIndex$Clerk;LCardIndex$Act;I)V"⟩, 7), (⟨"CardIndex$Tray", "writeMap", "(LCardIndex$Act;)V"⟩, 12), (⟨"CardIndex$Tray", "writeDeque", "(LCardIndex$Act;)V"⟩, 12), (⟨"CardIndex$Tray", "writeOnce", "(LCardIndex$Act;)V"⟩, 12), (⟨"CardIndex$Run", "allEnded", "()Z"⟩, 7), (⟨"CardIndex$Stripe", "listRows", "([II[II)I"⟩, 9)]
theorem lw_r1 : ∀ q ∈ lw_privs_1, lw_okq q := List.forall_mem_cons.mpr ⟨lw_p0, List.forall_mem_cons.mpr ⟨lw_p1, List.forall_mem_cons.mpr ⟨lw_p2, List.forall_mem_cons.mpr ⟨lw_p3, List.forall_mem_cons.mpr ⟨lw_p4, List.forall_mem_cons.mpr ⟨lw_p5, List.forall_mem_cons.mpr ⟨lw_p6, List.forall_mem_cons.mpr ⟨lw_p7, List.forall_mem_cons.mpr ⟨lw_p8, List.forall_mem_cons.mpr ⟨lw_p9, List.forall_mem_cons.mpr ⟨lw_p10, List.forall_mem_cons.mpr ⟨lw_p11, List.forall_mem_cons.mpr ⟨lw_p12, List.forall_mem_cons.mpr ⟨lw_p13, List.forall_mem_cons.mpr ⟨lw_p14, List.forall_mem_cons.mpr ⟨lw_p15, fun _ h => absurd h List.not_mem_nil⟩⟩⟩⟩⟩⟩⟩⟩⟩⟩⟩⟩⟩⟩⟩⟩
theorem lw_p16 : lw_okq (⟨"CardIndex", "check", "(I)I"⟩, 8) := ⟨⟨by decide +kernel, by decide +kernel⟩, List.mem_of_getElem? (i := 16) (by decide +kernel), List.mem_of_getElem? (i := 885) (by decide +kernel), List.mem_of_getElem? (i := 886) (by decide +kernel)⟩
theorem lw_p17 : lw_okq (⟨"CardIndex$Checker", "gather", "(I)Z"⟩, 13) := ⟨⟨by decide +kernel, by decide +kernel⟩, List.mem_of_getElem? (i := 363) (by decide +kernel), List.mem_of_getElem? (i := 894) (by decide +kernel), List.mem_of_getElem? (i := 895) (by decide +kernel)⟩
theorem lw_p18 : lw_okq (⟨"CardIndex$Checker", "findAhead", "()V"⟩, 13) := ⟨⟨by decide +kernel, by decide +kernel⟩, List.mem_of_getElem? (i := 363) (by decide +kernel), List.mem_of_getElem? (i := 904) (by decide +kernel), List.mem_of_getElem? (i := 905) (by decide +kernel)⟩
theorem lw_p19 : lw_okq (⟨"CardIndex$Cards", "hasSameRow", "(LCardIndex$Cards;)Z"⟩, 5) := ⟨⟨by decide +kernel, by decide +kernel⟩, List.mem_of_getElem? (i := 39) (by decide +kernel), List.mem_of_getElem? (i := 915) (by decide +kernel), List.mem_of_getElem? (i := 916) (by decide +kernel)⟩
theorem lw_p20 : lw_okq (⟨"CardIndex$Cards", "hasSameKeys", "(LCardIndex$Cards;)Z"⟩, 5) := ⟨⟨by decide +kernel, by decide +kernel⟩, List.mem_of_getElem? (i := 39) (by decide +kernel), List.mem_of_getElem? (i := 921) (by decide +kernel), List.mem_of_getElem? (i := 922) (by decide +kernel)⟩
theorem lw_p21 : lw_okq (⟨"CardIndex$Checker", "answersAlike", "(LCardIndex$Act;)Z"⟩, 13) := ⟨⟨by decide +kernel, by decide +kernel⟩, List.mem_of_getElem? (i := 363) (by decide +kernel), List.mem_of_getElem? (i := 925) (by decide +kernel), List.mem_of_getElem? (i := 926) (by decide +kernel)⟩
theorem lw_p22 : lw_okq (⟨"CardIndex$Checker", "keyedOrZero", "(I)I"⟩, 13) := ⟨⟨by decide +kernel, by decide +kernel⟩, List.mem_of_getElem? (i := 363) (by decide +kernel), List.mem_of_getElem? (i := 929) (by decide +kernel), List.mem_of_getElem? (i := 930) (by decide +kernel)⟩
theorem lw_p23 : lw_okq (⟨"CardIndex$Checker", "isKeyed", "(LCardIndex$Act;)Z"⟩, 13) := ⟨⟨by decide +kernel, by decide +kernel⟩, List.mem_of_getElem? (i := 363) (by decide +kernel), List.mem_of_getElem? (i := 938) (by decide +kernel), List.mem_of_getElem? (i := 939) (by decide +kernel)⟩
theorem lw_p24 : lw_okq (⟨"CardIndex$Checker", "dequeAnswersAlike", "(LCardIndex$Act;)Z"⟩, 13) := ⟨⟨by decide +kernel, by decide +kernel⟩, List.mem_of_getElem? (i := 363) (by decide +kernel), List.mem_of_getElem? (i := 946) (by decide +kernel), List.mem_of_getElem? (i := 947) (by decide +kernel)⟩
theorem lw_p25 : lw_okq (⟨"CardIndex$Checker", "onceAnswersAlike", "(LCardIndex$Act;)Z"⟩, 13) := ⟨⟨by decide +kernel, by decide +kernel⟩, List.mem_of_getElem? (i := 363) (by decide +kernel), List.mem_of_getElem? (i := 953) (by decide +kernel), List.mem_of_getElem? (i := 954) (by decide +kernel)⟩
theorem lw_p26 : lw_okq (⟨"CardIndex$Checker", "doWhole", "(LCardIndex$Act;)V"⟩, 13) := ⟨⟨by decide +kernel, by decide +kernel⟩, List.mem_of_getElem? (i := 363) (by decide +kernel), List.mem_of_getElem? (i := 958) (by decide +kernel), List.mem_of_getElem? (i := 959) (by decide +kernel)⟩
theorem lw_p27 : lw_okq (⟨"CardIndex$Checker", "doDeque", "(LCardIndex$Act;)V"⟩, 13) := ⟨⟨by decide +kernel, by decide +kernel⟩, List.mem_of_getElem? (i := 363) (by decide +kernel), List.mem_of_getElem? (i := 966) (by decide +kernel), List.mem_of_getElem? (i := 967) (by decide +kernel)⟩
theorem lw_p28 : lw_okq (⟨"CardIndex$Checker", "takeBack", "(LCardIndex$Act;I)V"⟩, 13) := ⟨⟨by decide +kernel, by decide +kernel⟩, List.mem_of_getElem? (i := 363) (by decide +kernel), List.mem_of_getElem? (i := 972) (by decide +kernel), List.mem_of_getElem? (i := 973) (by decide +kernel)⟩
theorem lw_p29 : lw_okq (⟨"CardIndex$Checker", "takeBackDeque", "(LCardIndex$Act;)V"⟩, 13) := ⟨⟨by decide +kernel, by decide +kernel⟩, List.mem_of_getElem? (i := 363) (by decide +kernel), List.mem_of_getElem? (i := 976) (by decide +kernel), List.mem_of_getElem? (i := 977) (by decide +kernel)⟩
theorem lw_p30 : lw_okq (⟨"CardIndex$Explorer", "areSame", "(III)Z"⟩, 8) := ⟨⟨by decide +kernel, by decide +kernel⟩, List.mem_of_getElem? (i := 414) (by decide +kernel), List.mem_of_getElem? (i := 1014) (by decide +kernel), List.mem_of_getElem? (i := 1015) (by decide +kernel)⟩
theorem lw_p31 : lw_okq (⟨"CardIndex$Explorer", "planNext", "()Z"⟩, 8) := ⟨⟨by decide +kernel, by decide +kernel⟩, List.mem_of_getElem? (i := 414) (by decide +kernel), List.mem_of_getElem? (i := 1018) (by decide +kernel), List.mem_of_getElem? (i := 1019) (by decide +kernel)⟩
def lw_privs_2 : List (MethodName × Nat) := [(⟨"CardIndex", "check", "(I)I"⟩, 8), (⟨"CardIndex$Checker", "gather", "(I)Z"⟩, 13), (⟨"CardIndex$Checker", "findAhead", "()V"⟩, 13), (⟨"CardIndex$Cards", "hasSameRow", "(LCardIndex$Cards;)Z"⟩, 5), (⟨"CardIndex$Cards", "hasSameKeys", "(LCardIndex$Cards;)Z"⟩, 5), (⟨"CardIndex$Checker", "answersAlike", "(LCardIndex$Act;)Z"⟩, 13), (⟨"CardIndex$Checker", "keyedOrZero", "(I)I"⟩, 13), (⟨"CardIndex$Checker", "isKeyed", "(LCardIndex$Act;)Z"⟩, 13), (⟨"CardIndex$Checker", "dequeAnswersAlike", "(LCardIndex$Act;)Z"⟩, 13), (⟨"CardIndex$Checker", "onceAnswersAlike", "(LCardIndex$Act;)Z"⟩, 13), (⟨"CardIndex$Checker", "doWhole", "(LCardIndex$Act;)V"⟩, 13), (⟨"CardIndex$Checker", "doDeque", "(LCardIndex$Act;)V"⟩, 13), (⟨"CardIndex$Checker", "takeBack", "(LCardIndex$Act;I)V"⟩, 13), (⟨"CardIndex$Checker", "takeBackDeque", "(LCardIndex$Act;)V"⟩, 13), (⟨"CardIndex$Explorer", "areSame", "(III)Z"⟩, 8), (⟨"CardIndex$Explorer", "planNext", "()Z"⟩, 8)]
theorem lw_r2 : ∀ q ∈ lw_privs_2, lw_okq q := List.forall_mem_cons.mpr ⟨lw_p16, List.forall_mem_cons.mpr ⟨lw_p17, List.forall_mem_cons.mpr ⟨lw_p18, List.forall_mem_cons.mpr ⟨lw_p19, List.forall_mem_cons.mpr ⟨lw_p20, List.forall_mem_cons.mpr ⟨lw_p21, List.forall_mem_cons.mpr ⟨lw_p22, List.forall_mem_cons.mpr ⟨lw_p23, List.forall_mem_cons.mpr ⟨lw_p24, List.forall_mem_cons.mpr ⟨lw_p25, List.forall_mem_cons.mpr ⟨lw_p26, List.forall_mem_cons.mpr ⟨lw_p27, List.forall_mem_cons.mpr ⟨lw_p28, List.forall_mem_cons.mpr ⟨lw_p29, List.forall_mem_cons.mpr ⟨lw_p30, List.forall_mem_cons.mpr ⟨lw_p31, fun _ h => absurd h List.not_mem_nil⟩⟩⟩⟩⟩⟩⟩⟩⟩⟩⟩⟩⟩⟩⟩⟩
theorem lw_p32 : lw_okq (⟨"CardIndexModel", "isTray", "(I)Z"⟩, 75) := ⟨⟨by decide +kernel, by decide +kernel⟩, List.mem_of_getElem? (i := 1053) (by decide +kernel), List.mem_of_getElem? (i := 1301) (by decide +kernel), List.mem_of_getElem? (i := 1302) (by decide +kernel)⟩
theorem lw_p33 : lw_okq (⟨"CardIndexModel", "isAct", "(II)Z"⟩, 75) := ⟨⟨by decide +kernel, by decide +kernel⟩, List.mem_of_getElem? (i := 1053) (by decide +kernel), List.mem_of_getElem? (i := 1319) (by decide +kernel), List.mem_of_getElem? (i := 1320) (by decide +kernel)⟩
theorem lw_p34 : lw_okq (⟨"CardIndexModel", "begins", "()V"⟩, 75) := ⟨⟨by decide +kernel, by decide +kernel⟩, List.mem_of_getElem? (i := 1053) (by decide +kernel), List.mem_of_getElem? (i := 1331) (by decide +kernel), List.mem_of_getElem? (i := 1332) (by decide +kernel)⟩
theorem lw_p35 : lw_okq (⟨"CardIndexModel", "leastAble", "()I"⟩, 75) := ⟨⟨by decide +kernel, by decide +kernel⟩, List.mem_of_getElem? (i := 1053) (by decide +kernel), List.mem_of_getElem? (i := 1335) (by decide +kernel), List.mem_of_getElem? (i := 1336) (by decide +kernel)⟩
theorem lw_p36 : lw_okq (⟨"CardIndexModel", "isAble", "(I)Z"⟩, 75) := ⟨⟨by decide +kernel, by decide +kernel⟩, List.mem_of_getElem? (i := 1053) (by decide +kernel), List.mem_of_getElem? (i := 1339) (by decide +kernel), List.mem_of_getElem? (i := 1340) (by decide +kernel)⟩
theorem lw_p37 : lw_okq (⟨"CardIndexModel", "stepOf", "(III)I"⟩, 75) := ⟨⟨by decide +kernel, by decide +kernel⟩, List.mem_of_getElem? (i := 1053) (by decide +kernel), List.mem_of_getElem? (i := 1343) (by decide +kernel), List.mem_of_getElem? (i := 1344) (by decide +kernel)⟩
theorem lw_p38 : lw_okq (⟨"CardIndexModel", "does", "(I)V"⟩, 75) := ⟨⟨by decide +kernel, by decide +kernel⟩, List.mem_of_getElem? (i := 1053) (by decide +kernel), List.mem_of_getElem? (i := 1347) (by decide +kernel), List.mem_of_getElem? (i := 1348) (by decide +kernel)⟩
theorem lw_p39 : lw_okq (⟨"CardIndexModel", "marks", "(IZ)V"⟩, 75) := ⟨⟨by decide +kernel, by decide +kernel⟩, List.mem_of_getElem? (i := 1053) (by decide +kernel), List.mem_of_getElem? (i := 1351) (by decide +kernel), List.mem_of_getElem? (i := 1352) (by decide +kernel)⟩
theorem lw_p40 : lw_okq (⟨"CardIndexModel", "over", "(IIII)V"⟩, 75) := ⟨⟨by decide +kernel, by decide +kernel⟩, List.mem_of_getElem? (i := 1053) (by decide +kernel), List.mem_of_getElem? (i := 1355) (by decide +kernel), List.mem_of_getElem? (i := 1356) (by decide +kernel)⟩
theorem lw_p41 : lw_okq (⟨"CardIndexModel", "read", "(II)V"⟩, 75) := ⟨⟨by decide +kernel, by decide +kernel⟩, List.mem_of_getElem? (i := 1053) (by decide +kernel), List.mem_of_getElem? (i := 1359) (by decide +kernel), List.mem_of_getElem? (i := 1360) (by decide +kernel)⟩
theorem lw_p42 : lw_okq (⟨"CardIndexModel", "moves", "(II)V"⟩, 75) := ⟨⟨by decide +kernel, by decide +kernel⟩, List.mem_of_getElem? (i := 1053) (by decide +kernel), List.mem_of_getElem? (i := 1363) (by decide +kernel), List.mem_of_getElem? (i := 1364) (by decide +kernel)⟩
theorem lw_p43 : lw_okq (⟨"CardIndexModel", "stripe", "(II)I"⟩, 75) := ⟨⟨by decide +kernel, by decide +kernel⟩, List.mem_of_getElem? (i := 1053) (by decide +kernel), List.mem_of_getElem? (i := 1367) (by decide +kernel), List.mem_of_getElem? (i := 1368) (by decide +kernel)⟩
theorem lw_p44 : lw_okq (⟨"CardIndexModel", "headOf", "(IIZI)I"⟩, 75) := ⟨⟨by decide +kernel, by decide +kernel⟩, List.mem_of_getElem? (i := 1053) (by decide +kernel), List.mem_of_getElem? (i := 1371) (by decide +kernel), List.mem_of_getElem? (i := 1372) (by decide +kernel)⟩
theorem lw_p45 : lw_okq (⟨"CardIndexModel", "nextOf", "(IIZII)I"⟩, 75) := ⟨⟨by decide +kernel, by decide +kernel⟩, List.mem_of_getElem? (i := 1053) (by decide +kernel), List.mem_of_getElem? (i := 1375) (by decide +kernel), List.mem_of_getElem? (i := 1376) (by decide +kernel)⟩
theorem lw_p46 : lw_okq (⟨"CardIndexModel", "toHead", "(IIZI)V"⟩, 75) := ⟨⟨by decide +kernel, by decide +kernel⟩, List.mem_of_getElem? (i := 1053) (by decide +kernel), List.mem_of_getElem? (i := 1379) (by decide +kernel), List.mem_of_getElem? (i := 1380) (by decide +kernel)⟩
theorem lw_p47 : lw_okq (⟨"CardIndexModel", "look", "(II)V"⟩, 75) := ⟨⟨by decide +kernel, by decide +kernel⟩, List.mem_of_getElem? (i := 1053) (by decide +kernel), List.mem_of_getElem? (i := 1383) (by decide +kernel), List.mem_of_getElem? (i := 1384) (by decide +kernel)⟩
def lw_privs_3 : List (MethodName × Nat) := [(⟨"CardIndexModel", "isTray", "(I)Z"⟩, 75), (⟨"CardIndexModel", "isAct", "(II)Z"⟩, 75), (⟨"CardIndexModel", "begins", "()V"⟩, 75), (⟨"CardIndexModel", "leastAble", "()I"⟩, 75), (⟨"CardIndexModel", "isAble", "(I)Z"⟩, 75), (⟨"CardIndexModel", "stepOf", "(III)I"⟩, 75), (⟨"CardIndexModel", "does", "(I)V"⟩, 75), (⟨"CardIndexModel", "marks", "(IZ)V"⟩, 75), (⟨"CardIndexModel", "over", "(IIII)V"⟩, 75), (⟨"CardIndexModel", "read", "(II)V"⟩, 75), (⟨"CardIndexModel", "moves", "(II)V"⟩, 75), (⟨"CardIndexModel", "stripe", "(II)I"⟩, 75), (⟨"CardIndexModel", "headOf", "(IIZI)I"⟩, 75), (⟨"CardIndexModel", "nextOf", "(IIZII)I"⟩, 75), (⟨"CardIndexModel", "toHead", "(IIZI)V"⟩, 75), (⟨"CardIndexModel", "look", "(II)V"⟩, 75)]
theorem lw_r3 : ∀ q ∈ lw_privs_3, lw_okq q := List.forall_mem_cons.mpr ⟨lw_p32, List.forall_mem_cons.mpr ⟨lw_p33, List.forall_mem_cons.mpr ⟨lw_p34, List.forall_mem_cons.mpr ⟨lw_p35, List.forall_mem_cons.mpr ⟨lw_p36, List.forall_mem_cons.mpr ⟨lw_p37, List.forall_mem_cons.mpr ⟨lw_p38, List.forall_mem_cons.mpr ⟨lw_p39, List.forall_mem_cons.mpr ⟨lw_p40, List.forall_mem_cons.mpr ⟨lw_p41, List.forall_mem_cons.mpr ⟨lw_p42, List.forall_mem_cons.mpr ⟨lw_p43, List.forall_mem_cons.mpr ⟨lw_p44, List.forall_mem_cons.mpr ⟨lw_p45, List.forall_mem_cons.mpr ⟨lw_p46, List.forall_mem_cons.mpr ⟨lw_p47, fun _ h => absurd h List.not_mem_nil⟩⟩⟩⟩⟩⟩⟩⟩⟩⟩⟩⟩⟩⟩⟩⟩
theorem lw_p48 : lw_okq (⟨"CardIndexModel", "waits", "(II)V"⟩, 75) := ⟨⟨by decide +kernel, by decide +kernel⟩, List.mem_of_getElem? (i := 1053) (by decide +kernel), List.mem_of_getElem? (i := 1387) (by decide +kernel), List.mem_of_getElem? (i := 1388) (by decide +kernel)⟩
theorem lw_p49 : lw_okq (⟨"CardIndexModel", "write", "(II)V"⟩, 75) := ⟨⟨by decide +kernel, by decide +kernel⟩, List.mem_of_getElem? (i := 1053) (by decide +kernel), List.mem_of_getElem? (i := 1391) (by decide +kernel), List.mem_of_getElem? (i := 1392) (by decide +kernel)⟩
theorem lw_p50 : lw_okq (⟨"CardIndexModel", "puts", "(III)V"⟩, 75) := ⟨⟨by decide +kernel, by decide +kernel⟩, List.mem_of_getElem? (i := 1053) (by decide +kernel), List.mem_of_getElem? (i := 1395) (by decide +kernel), List.mem_of_getElem? (i := 1396) (by decide +kernel)⟩
theorem lw_p51 : lw_okq (⟨"CardIndexModel", "cardsIn", "(II)I"⟩, 75) := ⟨⟨by decide +kernel, by decide +kernel⟩, List.mem_of_getElem? (i := 1053) (by decide +kernel), List.mem_of_getElem? (i := 1399) (by decide +kernel), List.mem_of_getElem? (i := 1400) (by decide +kernel)⟩
theorem lw_p52 : lw_okq (⟨"CardIndexModel", "putLast", "(II)V"⟩, 75) := ⟨⟨by decide +kernel, by decide +kernel⟩, List.mem_of_getElem? (i := 1053) (by decide +kernel), List.mem_of_getElem? (i := 1403) (by decide +kernel), List.mem_of_getElem? (i := 1404) (by decide +kernel)⟩
theorem lw_p53 : lw_okq (⟨"CardIndexModel", "takeFirst", "(I)V"⟩, 75) := ⟨⟨by decide +kernel, by decide +kernel⟩, List.mem_of_getElem? (i := 1053) (by decide +kernel), List.mem_of_getElem? (i := 1407) (by decide +kernel), List.mem_of_getElem? (i := 1408) (by decide +kernel)⟩
theorem lw_p54 : lw_okq (⟨"CardIndexModel", "putFirst", "(II)V"⟩, 75) := ⟨⟨by decide +kernel, by decide +kernel⟩, List.mem_of_getElem? (i := 1053) (by decide +kernel), List.mem_of_getElem? (i := 1411) (by decide +kernel), List.mem_of_getElem? (i := 1412) (by decide +kernel)⟩
theorem lw_p55 : lw_okq (⟨"CardIndexModel", "makes", "(II)V"⟩, 75) := ⟨⟨by decide +kernel, by decide +kernel⟩, List.mem_of_getElem? (i := 1053) (by decide +kernel), List.mem_of_getElem? (i := 1418) (by decide +kernel), List.mem_of_getElem? (i := 1419) (by decide +kernel)⟩
theorem lw_p56 : lw_okq (⟨"CardIndexModel", "ends", "(II)V"⟩, 75) := ⟨⟨by decide +kernel, by decide +kernel⟩, List.mem_of_getElem? (i := 1053) (by decide +kernel), List.mem_of_getElem? (i := 1422) (by decide +kernel), List.mem_of_getElem? (i := 1423) (by decide +kernel)⟩
theorem lw_p57 : lw_okq (⟨"CardIndexModel", "howItEnds", "()I"⟩, 75) := ⟨⟨by decide +kernel, by decide +kernel⟩, List.mem_of_getElem? (i := 1053) (by decide +kernel), List.mem_of_getElem? (i := 1426) (by decide +kernel), List.mem_of_getElem? (i := 1427) (by decide +kernel)⟩
theorem lw_p58 : lw_okq (⟨"CardIndexModel", "sizeOf", "(I)I"⟩, 75) := ⟨⟨by decide +kernel, by decide +kernel⟩, List.mem_of_getElem? (i := 1053) (by decide +kernel), List.mem_of_getElem? (i := 1454) (by decide +kernel), List.mem_of_getElem? (i := 1455) (by decide +kernel)⟩
theorem lw_p59 : lw_okq (⟨"CardIndexModel", "cardOf", "(III)I"⟩, 75) := ⟨⟨by decide +kernel, by decide +kernel⟩, List.mem_of_getElem? (i := 1053) (by decide +kernel), List.mem_of_getElem? (i := 1462) (by decide +kernel), List.mem_of_getElem? (i := 1463) (by decide +kernel)⟩
theorem lw_p60 : lw_okq (⟨"CardIndexModel", "keyOf", "(II)I"⟩, 75) := ⟨⟨by decide +kernel, by decide +kernel⟩, List.mem_of_getElem? (i := 1053) (by decide +kernel), List.mem_of_getElem? (i := 1466) (by decide +kernel), List.mem_of_getElem? (i := 1467) (by decide +kernel)⟩
theorem lw_p61 : lw_okq (⟨"CardIndexModel", "mapKey", "(II)I"⟩, 75) := ⟨⟨by decide +kernel, by decide +kernel⟩, List.mem_of_getElem? (i := 1053) (by decide +kernel), List.mem_of_getElem? (i := 1470) (by decide +kernel), List.mem_of_getElem? (i := 1471) (by decide +kernel)⟩
theorem lw_p62 : lw_okq (⟨"CardIndexModel", "fitsOf", "(I)I"⟩, 75) := ⟨⟨by decide +kernel, by decide +kernel⟩, List.mem_of_getElem? (i := 1053) (by decide +kernel), List.mem_of_getElem? (i := 1486) (by decide +kernel), List.mem_of_getElem? (i := 1487) (by decide +kernel)⟩
theorem lw_p63 : lw_okq (⟨"CardIndexModel", "search", "(II)I"⟩, 75) := ⟨⟨by decide +kernel, by decide +kernel⟩, List.mem_of_getElem? (i := 1053) (by decide +kernel), List.mem_of_getElem? (i := 1490) (by decide +kernel), List.mem_of_getElem? (i := 1491) (by decide +kernel)⟩
def lw_privs_4 : List (MethodName × Nat) := [(⟨"CardIndexModel", "waits", "(II)V"⟩, 75), (⟨"CardIndexModel", "write", "(II)V"⟩, 75), (⟨"CardIndexModel", "puts", "(III)V"⟩, 75), (⟨"CardIndexModel", "cardsIn", "(II)I"⟩, 75), (⟨"CardIndexModel", "putLast", "(II)V"⟩, 75), (⟨"CardIndexModel", "takeFirst", "(I)V"⟩, 75), (⟨"CardIndexModel", "putFirst", "(II)V"⟩, 75), (⟨"CardIndexModel", "makes", "(II)V"⟩, 75), (⟨"CardIndexModel", "ends", "(II)V"⟩, 75), (⟨"CardIndexModel", "howItEnds", "()I"⟩, 75), (⟨"CardIndexModel", "sizeOf", "(I)I"⟩, 75), (⟨"CardIndexModel", "cardOf", "(III)I"⟩, 75), (⟨"CardIndexModel", "keyOf", "(II)I"⟩, 75), (⟨"CardIndexModel", "mapKey", "(II)I"⟩, 75), (⟨"CardIndexModel", "fitsOf", "(I)I"⟩, 75), (⟨"CardIndexModel", "search", "(II)I"⟩, 75)]
theorem lw_r4 : ∀ q ∈ lw_privs_4, lw_okq q := List.forall_mem_cons.mpr ⟨lw_p48, List.forall_mem_cons.mpr ⟨lw_p49, List.forall_mem_cons.mpr ⟨lw_p50, List.forall_mem_cons.mpr ⟨lw_p51, List.forall_mem_cons.mpr ⟨lw_p52, List.forall_mem_cons.mpr ⟨lw_p53, List.forall_mem_cons.mpr ⟨lw_p54, List.forall_mem_cons.mpr ⟨lw_p55, List.forall_mem_cons.mpr ⟨lw_p56, List.forall_mem_cons.mpr ⟨lw_p57, List.forall_mem_cons.mpr ⟨lw_p58, List.forall_mem_cons.mpr ⟨lw_p59, List.forall_mem_cons.mpr ⟨lw_p60, List.forall_mem_cons.mpr ⟨lw_p61, List.forall_mem_cons.mpr ⟨lw_p62, List.forall_mem_cons.mpr ⟨lw_p63, fun _ h => absurd h List.not_mem_nil⟩⟩⟩⟩⟩⟩⟩⟩⟩⟩⟩⟩⟩⟩⟩⟩
theorem lw_p64 : lw_okq (⟨"CardIndexModel", "take", "(I)V"⟩, 75) := ⟨⟨by decide +kernel, by decide +kernel⟩, List.mem_of_getElem? (i := 1053) (by decide +kernel), List.mem_of_getElem? (i := 1494) (by decide +kernel), List.mem_of_getElem? (i := 1495) (by decide +kernel)⟩
theorem lw_p65 : lw_okq (⟨"CardIndexModel", "plainEmpty", "()V"⟩, 75) := ⟨⟨by decide +kernel, by decide +kernel⟩, List.mem_of_getElem? (i := 1053) (by decide +kernel), List.mem_of_getElem? (i := 1498) (by decide +kernel), List.mem_of_getElem? (i := 1499) (by decide +kernel)⟩
theorem lw_p66 : lw_okq (⟨"CardIndexModel", "areAlike", "(I)Z"⟩, 75) := ⟨⟨by decide +kernel, by decide +kernel⟩, List.mem_of_getElem? (i := 1053) (by decide +kernel), List.mem_of_getElem? (i := 1502) (by decide +kernel), List.mem_of_getElem? (i := 1503) (by decide +kernel)⟩
theorem lw_p67 : lw_okq (⟨"CardIndexModel", "mayCome", "(III)Z"⟩, 75) := ⟨⟨by decide +kernel, by decide +kernel⟩, List.mem_of_getElem? (i := 1053) (by decide +kernel), List.mem_of_getElem? (i := 1506) (by decide +kernel), List.mem_of_getElem? (i := 1507) (by decide +kernel)⟩
theorem lw_p68 : lw_okq (⟨"CardIndexModel", "plain", "(II)Z"⟩, 75) := ⟨⟨by decide +kernel, by decide +kernel⟩, List.mem_of_getElem? (i := 1053) (by decide +kernel), List.mem_of_getElem? (i := 1510) (by decide +kernel), List.mem_of_getElem? (i := 1511) (by decide +kernel)⟩
theorem lw_p69 : lw_okq (⟨"CardIndexModel", "plainTake", "(Z)V"⟩, 75) := ⟨⟨by decide +kernel, by decide +kernel⟩, List.mem_of_getElem? (i := 1053) (by decide +kernel), List.mem_of_getElem? (i := 1517) (by decide +kernel), List.mem_of_getElem? (i := 1518) (by decide +kernel)⟩
theorem lw_p70 : lw_okq (⟨"CardIndexModel", "plainDeque", "(II)Z"⟩, 75) := ⟨⟨by decide +kernel, by decide +kernel⟩, List.mem_of_getElem? (i := 1053) (by decide +kernel), List.mem_of_getElem? (i := 1521) (by decide +kernel), List.mem_of_getElem? (i := 1522) (by decide +kernel)⟩
theorem lw_p71 : lw_okq (⟨"CardIndexModel", "ableMany", "()I"⟩, 75) := ⟨⟨by decide +kernel, by decide +kernel⟩, List.mem_of_getElem? (i := 1053) (by decide +kernel), List.mem_of_getElem? (i := 1541) (by decide +kernel), List.mem_of_getElem? (i := 1542) (by decide +kernel)⟩
theorem lw_p72 : lw_okq (⟨"CardIndexModel", "ableAt", "(I)I"⟩, 75) := ⟨⟨by decide +kernel, by decide +kernel⟩, List.mem_of_getElem? (i := 1053) (by decide +kernel), List.mem_of_getElem? (i := 1545) (by decide +kernel), List.mem_of_getElem? (i := 1546) (by decide +kernel)⟩
theorem lw_p73 : lw_okq (⟨"CardIndexModel", "weighs", "(I)V"⟩, 75) := ⟨⟨by decide +kernel, by decide +kernel⟩, List.mem_of_getElem? (i := 1053) (by decide +kernel), List.mem_of_getElem? (i := 1549) (by decide +kernel), List.mem_of_getElem? (i := 1550) (by decide +kernel)⟩
theorem lw_p74 : lw_okq (⟨"CardIndexModel", "differs", "(II)Z"⟩, 75) := ⟨⟨by decide +kernel, by decide +kernel⟩, List.mem_of_getElem? (i := 1053) (by decide +kernel), List.mem_of_getElem? (i := 1553) (by decide +kernel), List.mem_of_getElem? (i := 1554) (by decide +kernel)⟩
def lw_privs_5 : List (MethodName × Nat) := [(⟨"CardIndexModel", "take", "(I)V"⟩, 75), (⟨"CardIndexModel", "plainEmpty", "()V"⟩, 75), (⟨"CardIndexModel", "areAlike", "(I)Z"⟩, 75), (⟨"CardIndexModel", "mayCome", "(III)Z"⟩, 75), (⟨"CardIndexModel", "plain", "(II)Z"⟩, 75), (⟨"CardIndexModel", "plainTake", "(Z)V"⟩, 75), (⟨"CardIndexModel", "plainDeque", "(II)Z"⟩, 75), (⟨"CardIndexModel", "ableMany", "()I"⟩, 75), (⟨"CardIndexModel", "ableAt", "(I)I"⟩, 75), (⟨"CardIndexModel", "weighs", "(I)V"⟩, 75), (⟨"CardIndexModel", "differs", "(II)Z"⟩, 75)]
theorem lw_r5 : ∀ q ∈ lw_privs_5, lw_okq q := List.forall_mem_cons.mpr ⟨lw_p64, List.forall_mem_cons.mpr ⟨lw_p65, List.forall_mem_cons.mpr ⟨lw_p66, List.forall_mem_cons.mpr ⟨lw_p67, List.forall_mem_cons.mpr ⟨lw_p68, List.forall_mem_cons.mpr ⟨lw_p69, List.forall_mem_cons.mpr ⟨lw_p70, List.forall_mem_cons.mpr ⟨lw_p71, List.forall_mem_cons.mpr ⟨lw_p72, List.forall_mem_cons.mpr ⟨lw_p73, List.forall_mem_cons.mpr ⟨lw_p74, fun _ h => absurd h List.not_mem_nil⟩⟩⟩⟩⟩⟩⟩⟩⟩⟩⟩
def lw_privs : List (MethodName × Nat) := lw_privs_1 ++ (lw_privs_2 ++ (lw_privs_3 ++ (lw_privs_4 ++ (lw_privs_5))))
def lw_tbl : List Cond := k2_sels lw_privs ++ tables_1
theorem lw_privs_ok : ∀ q ∈ lw_privs, lw_okq q := by
  show ∀ q ∈ lw_privs_1 ++ (lw_privs_2 ++ (lw_privs_3 ++ (lw_privs_4 ++ (lw_privs_5)))), lw_okq q
  exact List.forall_mem_append.mpr ⟨lw_r1, List.forall_mem_append.mpr ⟨lw_r2, List.forall_mem_append.mpr ⟨lw_r3, List.forall_mem_append.mpr ⟨lw_r4, lw_r5⟩⟩⟩⟩
-- ===== end of PART A; then your names; then what follows =====
def RX0 : String := "CardIndex$Act"
def TX0 : u_T := fun k => match k with
  | 0 => ("CardIndex$Act", "clerk", "I", true)
  | 1 => ("CardIndex$Act", "number", "I", true)
  | 2 => ("CardIndex$Act", "tray", "I", false)
  | 3 => ("CardIndex$Act", "op", "I", false)
  | 4 => ("CardIndex$Act", "a", "I", false)
  | 5 => ("CardIndex$Act", "b", "I", false)
  | 6 => ("CardIndex$Act", "patience", "I", false)
  | 7 => ("CardIndex$Act", "steps", "[I", false)
  | 8 => ("CardIndex$Act", "monitor", "I", false)
  | 9 => ("CardIndex$Act", "place", "I", false)
  | 10 => ("CardIndex$Act", "waits", "Z", false)
  | 11 => ("CardIndex$Act", "waitsSince", "I", false)
  | 12 => ("CardIndex$Act", "waitings", "I", false)
  | 13 => ("CardIndex$Act", "noted", "I", false)
  | 14 => ("CardIndex$Act", "coming", "I", false)
  | 15 => ("CardIndex$Act", "outcome", "I", false)
  | 16 => ("CardIndex$Act", "answer", "I", false)
  | 17 => ("CardIndex$Act", "begin", "I", false)
  | _ => ("CardIndex$Act", "end", "I", false)
def tyX0 : Nat → FieldType := fun k => match k with
  | 0 => .int
  | 1 => .int
  | 2 => .int
  | 3 => .int
  | 4 => .int
  | 5 => .int
  | 6 => .int
  | 7 => .array .int
  | 8 => .int
  | 9 => .int
  | 10 => .boolean
  | 11 => .int
  | 12 => .int
  | 13 => .int
  | 14 => .int
  | 15 => .int
  | 16 => .int
  | 17 => .int
  | _ => .int
abbrev wsX00 : List Cond := u_ws RX0 TX0 19
theorem nmX0 : ∀ a, a < 19 → ∀ b, b < 19 → a ≠ b → (TX0 a).2.1 ≠ (TX0 b).2.1 := by decide +kernel
theorem tyX0_ok : ∀ k, k < 19 → parseFieldDescriptor (TX0 k).2.2.1 = some (tyX0 k) := by decide +kernel
abbrev cX0_init : ByteArray := prog_2_method_1_code
def yX0_init : MethodName := ⟨RX0, "<init>", "(II)V"⟩
abbrev cX0_beginAnew : ByteArray := prog_2_method_2_code
def yX0_beginAnew : MethodName := ⟨RX0, "beginAnew", "([II)V"⟩
abbrev cX0_note : ByteArray := prog_2_method_3_code
def yX0_note : MethodName := ⟨RX0, "note", "(ZI)V"⟩
abbrev cX0_nextStep : ByteArray := prog_2_method_4_code
def yX0_nextStep : MethodName := ⟨RX0, "nextStep", "()I"⟩
abbrev cX0_nextMonitor : ByteArray := prog_2_method_5_code
def yX0_nextMonitor : MethodName := ⟨RX0, "nextMonitor", "()I"⟩
abbrev cX0_ownMaking : ByteArray := prog_2_method_6_code
def yX0_ownMaking : MethodName := ⟨RX0, "ownMaking", "()I"⟩
abbrev cX0_hasEndedUntired : ByteArray := prog_2_method_7_code
def yX0_hasEndedUntired : MethodName := ⟨RX0, "hasEndedUntired", "()Z"⟩
def RX1 : String := "CardIndex$Cards"
def TX1 : u_T := fun k => match k with
  | 0 => ("CardIndex$Cards", "cells", "[I", true)
  | 1 => ("CardIndex$Cards", "held", "I", false)
  | 2 => ("CardIndex$Cards", "start", "I", false)
  | 3 => ("CardIndex$Cards", "length", "I", false)
  | _ => ("CardIndex$Cards", "closings", "I", false)
def tyX1 : Nat → FieldType := fun k => match k with
  | 0 => .array .int
  | 1 => .int
  | 2 => .int
  | 3 => .int
  | _ => .int
abbrev wsX10 : List Cond := u_ws RX1 TX1 5
theorem nmX1 : ∀ a, a < 5 → ∀ b, b < 5 → a ≠ b → (TX1 a).2.1 ≠ (TX1 b).2.1 := by decide +kernel
theorem tyX1_ok : ∀ k, k < 5 → parseFieldDescriptor (TX1 k).2.2.1 = some (tyX1 k) := by decide +kernel
abbrev cX1_init : ByteArray := prog_3_method_1_code
def yX1_init : MethodName := ⟨RX1, "<init>", "()V"⟩
abbrev cX1_empty : ByteArray := prog_3_method_2_code
def yX1_empty : MethodName := ⟨RX1, "empty", "()V"⟩
abbrev cX1_copyKeysOf : ByteArray := prog_3_method_3_code
def yX1_copyKeysOf : MethodName := ⟨RX1, "copyKeysOf", "(LCardIndex$Cards;)V"⟩
abbrev cX1_has : ByteArray := prog_3_method_4_code
def yX1_has : MethodName := ⟨RX1, "has", "(I)Z"⟩
abbrev cX1_valueOf : ByteArray := prog_3_method_5_code
def yX1_valueOf : MethodName := ⟨RX1, "valueOf", "(I)I"⟩
abbrev cX1_put : ByteArray := prog_3_method_6_code
def yX1_put : MethodName := ⟨RX1, "put", "(II)V"⟩
abbrev cX1_takeOut : ByteArray := prog_3_method_7_code
def yX1_takeOut : MethodName := ⟨RX1, "takeOut", "(I)V"⟩
abbrev cX1_valueAtPlace : ByteArray := prog_3_method_8_code
def yX1_valueAtPlace : MethodName := ⟨RX1, "valueAtPlace", "(I)I"⟩
abbrev cX1_headValue : ByteArray := prog_3_method_9_code
def yX1_headValue : MethodName := ⟨RX1, "headValue", "()I"⟩
abbrev cX1_tailValue : ByteArray := prog_3_method_10_code
def yX1_tailValue : MethodName := ⟨RX1, "tailValue", "()I"⟩
abbrev cX1_putFirst : ByteArray := prog_3_method_11_code
def yX1_putFirst : MethodName := ⟨RX1, "putFirst", "(I)V"⟩
abbrev cX1_putLast : ByteArray := prog_3_method_12_code
def yX1_putLast : MethodName := ⟨RX1, "putLast", "(I)V"⟩
abbrev cX1_takeFirst : ByteArray := prog_3_method_13_code
def yX1_takeFirst : MethodName := ⟨RX1, "takeFirst", "()V"⟩
abbrev cX1_takeLast : ByteArray := prog_3_method_14_code
def yX1_takeLast : MethodName := ⟨RX1, "takeLast", "()V"⟩
abbrev cX1_sumOfShares : ByteArray := prog_3_method_15_code
def yX1_sumOfShares : MethodName := ⟨RX1, "sumOfShares", "()I"⟩
abbrev cX1_weightedSum : ByteArray := prog_3_method_16_code
def yX1_weightedSum : MethodName := ⟨RX1, "weightedSum", "()I"⟩
abbrev cX1_hasSame : ByteArray := prog_3_method_17_code
def yX1_hasSame : MethodName := ⟨RX1, "hasSame", "(ILCardIndex$Cards;)Z"⟩
abbrev cX1_hasSameRow : ByteArray := prog_3_method_18_code
def yX1_hasSameRow : MethodName := ⟨RX1, "hasSameRow", "(LCardIndex$Cards;)Z"⟩
abbrev cX1_hasSameKeys : ByteArray := prog_3_method_19_code
def yX1_hasSameKeys : MethodName := ⟨RX1, "hasSameKeys", "(LCardIndex$Cards;)Z"⟩
def RX2 : String := "CardIndex$Checker"
def TX2 : u_T := fun k => match k with
  | 0 => ("CardIndex$Checker", "desk", "LCardIndex$Desk;", true)
  | 1 => ("CardIndex$Checker", "latest", "LCardIndex$Run;", true)
  | 2 => ("CardIndex$Checker", "plain", "LCardIndex$Cards;", true)
  | 3 => ("CardIndex$Checker", "acts", "[LCardIndex$Act;", true)
  | 4 => ("CardIndex$Checker", "ahead", "[I", true)
  | 5 => ("CardIndex$Checker", "row", "[I", true)
  | 6 => ("CardIndex$Checker", "kind", "I", false)
  | 7 => ("CardIndex$Checker", "limit", "I", false)
  | 8 => ("CardIndex$Checker", "due", "LCardIndex$Cards;", false)
  | 9 => ("CardIndex$Checker", "many", "I", false)
  | 10 => ("CardIndex$Checker", "placed", "I", false)
  | 11 => ("CardIndex$Checker", "made", "I", false)
  | _ => ("CardIndex$Checker", "mostTries", "I", false)
def tyX2 : Nat → FieldType := fun k => match k with
  | 0 => .object "CardIndex$Desk"
  | 1 => .object "CardIndex$Run"
  | 2 => .object "CardIndex$Cards"
  | 3 => .array (.object "CardIndex$Act")
  | 4 => .array .int
  | 5 => .array .int
  | 6 => .int
  | 7 => .int
  | 8 => .object "CardIndex$Cards"
  | 9 => .int
  | 10 => .int
  | 11 => .int
  | _ => .int
abbrev wsX20 : List Cond := u_ws RX2 TX2 13
theorem nmX2 : ∀ a, a < 13 → ∀ b, b < 13 → a ≠ b → (TX2 a).2.1 ≠ (TX2 b).2.1 := by decide +kernel
theorem tyX2_ok : ∀ k, k < 13 → parseFieldDescriptor (TX2 k).2.2.1 = some (tyX2 k) := by decide +kernel
abbrev cX2_init : ByteArray := prog_4_method_1_code
def yX2_init : MethodName := ⟨RX2, "<init>", "(LCardIndex$Desk;LCardIndex$Run;)V"⟩
abbrev cX2_judge : ByteArray := prog_4_method_2_code
def yX2_judge : MethodName := ⟨RX2, "judge", "(II)I"⟩
abbrev cX2_gather : ByteArray := prog_4_method_3_code
def yX2_gather : MethodName := ⟨RX2, "gather", "(I)Z"⟩
abbrev cX2_findAhead : ByteArray := prog_4_method_4_code
def yX2_findAhead : MethodName := ⟨RX2, "findAhead", "()V"⟩
abbrev cX2_actAt : ByteArray := prog_4_method_5_code
def yX2_actAt : MethodName := ⟨RX2, "actAt", "(I)I"⟩
abbrev cX2_fill : ByteArray := prog_4_method_6_code
def yX2_fill : MethodName := ⟨RX2, "fill", "(LCardIndex$Checker;I)I"⟩
abbrev cX2_answersAlike : ByteArray := prog_4_method_7_code
def yX2_answersAlike : MethodName := ⟨RX2, "answersAlike", "(LCardIndex$Act;)Z"⟩
abbrev cX2_isAnswer : ByteArray := prog_4_method_8_code
def yX2_isAnswer : MethodName := ⟨RX2, "isAnswer", "(LCardIndex$Act;II)Z"⟩
abbrev cX2_isWell : ByteArray := prog_4_method_9_code
def yX2_isWell : MethodName := ⟨RX2, "isWell", "(LCardIndex$Act;I)Z"⟩
abbrev cX2_isKeyed : ByteArray := prog_4_method_10_code
def yX2_isKeyed : MethodName := ⟨RX2, "isKeyed", "(LCardIndex$Act;)Z"⟩
abbrev cX2_keyedOrZero : ByteArray := prog_4_method_11_code
def yX2_keyedOrZero : MethodName := ⟨RX2, "keyedOrZero", "(I)I"⟩
abbrev cX2_dequeAnswersAlike : ByteArray := prog_4_method_12_code
def yX2_dequeAnswersAlike : MethodName := ⟨RX2, "dequeAnswersAlike", "(LCardIndex$Act;)Z"⟩
abbrev cX2_onceAnswersAlike : ByteArray := prog_4_method_13_code
def yX2_onceAnswersAlike : MethodName := ⟨RX2, "onceAnswersAlike", "(LCardIndex$Act;)Z"⟩
abbrev cX2_doWhole : ByteArray := prog_4_method_14_code
def yX2_doWhole : MethodName := ⟨RX2, "doWhole", "(LCardIndex$Act;)V"⟩
abbrev cX2_doDeque : ByteArray := prog_4_method_15_code
def yX2_doDeque : MethodName := ⟨RX2, "doDeque", "(LCardIndex$Act;)V"⟩
abbrev cX2_takeBack : ByteArray := prog_4_method_16_code
def yX2_takeBack : MethodName := ⟨RX2, "takeBack", "(LCardIndex$Act;I)V"⟩
abbrev cX2_takeBackDeque : ByteArray := prog_4_method_17_code
def yX2_takeBackDeque : MethodName := ⟨RX2, "takeBackDeque", "(LCardIndex$Act;)V"⟩
def RX3 : String := "CardIndex$Clerk"
def TX3 : u_T := fun k => match k with
  | 0 => ("CardIndex$Clerk", "number", "I", true)
  | 1 => ("CardIndex$Clerk", "acts", "[LCardIndex$Act;", true)
  | 2 => ("CardIndex$Clerk", "copy", "LCardIndex$Cards;", true)
  | 3 => ("CardIndex$Clerk", "many", "I", false)
  | _ => ("CardIndex$Clerk", "at", "I", false)
def tyX3 : Nat → FieldType := fun k => match k with
  | 0 => .int
  | 1 => .array (.object "CardIndex$Act")
  | 2 => .object "CardIndex$Cards"
  | 3 => .int
  | _ => .int
abbrev wsX30 : List Cond := u_ws RX3 TX3 5
theorem nmX3 : ∀ a, a < 5 → ∀ b, b < 5 → a ≠ b → (TX3 a).2.1 ≠ (TX3 b).2.1 := by decide +kernel
theorem tyX3_ok : ∀ k, k < 5 → parseFieldDescriptor (TX3 k).2.2.1 = some (tyX3 k) := by decide +kernel
abbrev cX3_init : ByteArray := prog_5_method_1_code
def yX3_init : MethodName := ⟨RX3, "<init>", "(I)V"⟩
abbrev cX3_addAct : ByteArray := prog_5_method_2_code
def yX3_addAct : MethodName := ⟨RX3, "addAct", "(IIII)I"⟩
abbrev cX3_current : ByteArray := prog_5_method_3_code
def yX3_current : MethodName := ⟨RX3, "current", "()LCardIndex$Act;"⟩
abbrev cX3_waiting : ByteArray := prog_5_method_4_code
def yX3_waiting : MethodName := ⟨RX3, "waiting", "()LCardIndex$Act;"⟩
abbrev cX3_digestActs : ByteArray := prog_5_method_5_code
def yX3_digestActs : MethodName := ⟨RX3, "digestActs", "(J)J"⟩
def RX4 : String := "CardIndex$Desk"
def TX4 : u_T := fun k => match k with
  | 0 => ("CardIndex$Desk", "trays", "[LCardIndex$Tray;", true)
  | 1 => ("CardIndex$Desk", "clerks", "[LCardIndex$Clerk;", true)
  | 2 => ("CardIndex$Desk", "trayCount", "I", false)
  | _ => ("CardIndex$Desk", "clerkCount", "I", false)
def tyX4 : Nat → FieldType := fun k => match k with
  | 0 => .array (.object "CardIndex$Tray")
  | 1 => .array (.object "CardIndex$Clerk")
  | 2 => .int
  | _ => .int
abbrev wsX40 : List Cond := u_ws RX4 TX4 4
theorem nmX4 : ∀ a, a < 4 → ∀ b, b < 4 → a ≠ b → (TX4 a).2.1 ≠ (TX4 b).2.1 := by decide +kernel
theorem tyX4_ok : ∀ k, k < 4 → parseFieldDescriptor (TX4 k).2.2.1 = some (tyX4 k) := by decide +kernel
abbrev cX4_init : ByteArray := prog_6_method_1_code
def yX4_init : MethodName := ⟨RX4, "<init>", "()V"⟩
abbrev cX4_hasTray : ByteArray := prog_6_method_2_code
def yX4_hasTray : MethodName := ⟨RX4, "hasTray", "(I)Z"⟩
abbrev cX4_hasClerk : ByteArray := prog_6_method_3_code
def yX4_hasClerk : MethodName := ⟨RX4, "hasClerk", "(I)Z"⟩
abbrev cX4_hasAct : ByteArray := prog_6_method_4_code
def yX4_hasAct : MethodName := ⟨RX4, "hasAct", "(II)Z"⟩
abbrev cX4_addTray : ByteArray := prog_6_method_5_code
def yX4_addTray : MethodName := ⟨RX4, "addTray", "(III)I"⟩
abbrev cX4_addClerk : ByteArray := prog_6_method_6_code
def yX4_addClerk : MethodName := ⟨RX4, "addClerk", "()I"⟩
abbrev cX4_countActs : ByteArray := prog_6_method_7_code
def yX4_countActs : MethodName := ⟨RX4, "countActs", "()I"⟩
abbrev cX4_countWaiting : ByteArray := prog_6_method_8_code
def yX4_countWaiting : MethodName := ⟨RX4, "countWaiting", "()I"⟩
abbrev cX4_beginAnew : ByteArray := prog_6_method_9_code
def yX4_beginAnew : MethodName := ⟨RX4, "beginAnew", "()V"⟩
abbrev cX4_beginAct : ByteArray := prog_6_method_10_code
def yX4_beginAct : MethodName := ⟨RX4, "beginAct", "(LCardIndex$Act;)V"⟩
abbrev cX4_wake : ByteArray := prog_6_method_11_code
def yX4_wake : MethodName := ⟨RX4, "wake", "(I)V"⟩
def RX5 : String := "CardIndex$Explorer"
def TX5 : u_T := fun k => match k with
  | 0 => ("CardIndex$Explorer", "desk", "LCardIndex$Desk;", true)
  | 1 => ("CardIndex$Explorer", "latest", "LCardIndex$Run;", true)
  | 2 => ("CardIndex$Explorer", "checker", "LCardIndex$Checker;", true)
  | 3 => ("CardIndex$Explorer", "plan", "[I", true)
  | 4 => ("CardIndex$Explorer", "found", "[I", true)
  | 5 => ("CardIndex$Explorer", "seen", "[I", true)
  | 6 => ("CardIndex$Explorer", "seenCount", "I", false)
  | _ => ("CardIndex$Explorer", "runsEver", "I", false)
def tyX5 : Nat → FieldType := fun k => match k with
  | 0 => .object "CardIndex$Desk"
  | 1 => .object "CardIndex$Run"
  | 2 => .object "CardIndex$Checker"
  | 3 => .array .int
  | 4 => .array .int
  | 5 => .array .int
  | 6 => .int
  | _ => .int
abbrev wsX50 : List Cond := u_ws RX5 TX5 8
theorem nmX5 : ∀ a, a < 8 → ∀ b, b < 8 → a ≠ b → (TX5 a).2.1 ≠ (TX5 b).2.1 := by decide +kernel
theorem tyX5_ok : ∀ k, k < 8 → parseFieldDescriptor (TX5 k).2.2.1 = some (tyX5 k) := by decide +kernel
abbrev cX5_init : ByteArray := prog_7_method_1_code
def yX5_init : MethodName := ⟨RX5, "<init>", "(LCardIndex$Desk;LCardIndex$Run;LCardIndex$Checker;)V"⟩
abbrev cX5_begin : ByteArray := prog_7_method_2_code
def yX5_begin : MethodName := ⟨RX5, "begin", "()V"⟩
abbrev cX5_end : ByteArray := prog_7_method_3_code
def yX5_end : MethodName := ⟨RX5, "end", "(IZ)V"⟩
abbrev cX5_judgeTrays : ByteArray := prog_7_method_4_code
def yX5_judgeTrays : MethodName := ⟨RX5, "judgeTrays", "()V"⟩
abbrev cX5_seeAnswers : ByteArray := prog_7_method_5_code
def yX5_seeAnswers : MethodName := ⟨RX5, "seeAnswers", "()V"⟩
abbrev cX5_areSame : ByteArray := prog_7_method_6_code
def yX5_areSame : MethodName := ⟨RX5, "areSame", "(III)Z"⟩
abbrev cX5_planNext : ByteArray := prog_7_method_7_code
def yX5_planNext : MethodName := ⟨RX5, "planNext", "()Z"⟩
def RX6 : String := "CardIndex$Run"
def TX6 : u_T := fun k => match k with
  | 0 => ("CardIndex$Run", "desk", "LCardIndex$Desk;", true)
  | 1 => ("CardIndex$Run", "marks", "[I", true)
  | 2 => ("CardIndex$Run", "chosen", "[I", true)
  | 3 => ("CardIndex$Run", "ables", "[I", true)
  | 4 => ("CardIndex$Run", "markCount", "I", false)
  | 5 => ("CardIndex$Run", "done", "I", false)
  | _ => ("CardIndex$Run", "told", "I", false)
def tyX6 : Nat → FieldType := fun k => match k with
  | 0 => .object "CardIndex$Desk"
  | 1 => .array .int
  | 2 => .array .int
  | 3 => .array .int
  | 4 => .int
  | 5 => .int
  | _ => .int
abbrev wsX60 : List Cond := u_ws RX6 TX6 7
theorem nmX6 : ∀ a, a < 7 → ∀ b, b < 7 → a ≠ b → (TX6 a).2.1 ≠ (TX6 b).2.1 := by decide +kernel
theorem tyX6_ok : ∀ k, k < 7 → parseFieldDescriptor (TX6 k).2.2.1 = some (tyX6 k) := by decide +kernel
abbrev cX6_init : ByteArray := prog_8_method_1_code
def yX6_init : MethodName := ⟨RX6, "<init>", "(LCardIndex$Desk;)V"⟩
abbrev cX6_goThrough : ByteArray := prog_8_method_2_code
def yX6_goThrough : MethodName := ⟨RX6, "goThrough", "([I)V"⟩
abbrev cX6_findAble : ByteArray := prog_8_method_3_code
def yX6_findAble : MethodName := ⟨RX6, "findAble", "(I)I"⟩
abbrev cX6_isAble : ByteArray := prog_8_method_4_code
def yX6_isAble : MethodName := ⟨RX6, "isAble", "(LCardIndex$Clerk;I)Z"⟩
abbrev cX6_choose : ByteArray := prog_8_method_5_code
def yX6_choose : MethodName := ⟨RX6, "choose", "(II)I"⟩
abbrev cX6_allEnded : ByteArray := prog_8_method_6_code
def yX6_allEnded : MethodName := ⟨RX6, "allEnded", "()Z"⟩
abbrev cX6_doStep : ByteArray := prog_8_method_7_code
def yX6_doStep : MethodName := ⟨RX6, "doStep", "(LCardIndex$Clerk;I)V"⟩
abbrev cX6_goOn : ByteArray := prog_8_method_8_code
def yX6_goOn : MethodName := ⟨RX6, "goOn", "(LCardIndex$Clerk;LCardIndex$Act;I)V"⟩
abbrev cX6_beginWaiting : ByteArray := prog_8_method_9_code
def yX6_beginWaiting : MethodName := ⟨RX6, "beginWaiting", "(LCardIndex$Clerk;LCardIndex$Act;I)V"⟩
abbrev cX6_endAct : ByteArray := prog_8_method_10_code
def yX6_endAct : MethodName := ⟨RX6, "endAct", "(LCardIndex$Clerk;LCardIndex$Act;II)V"⟩
abbrev cX6_addMark : ByteArray := prog_8_method_11_code
def yX6_addMark : MethodName := ⟨RX6, "addMark", "(LCardIndex$Act;II)V"⟩
def RX7 : String := "CardIndex$Stripe"
def TX7 : u_T := fun k => match k with
  | 0 => ("CardIndex$Stripe", "heads", "[I", false)
  | 1 => ("CardIndex$Stripe", "newHeads", "[I", false)
  | 2 => ("CardIndex$Stripe", "below", "[I", true)
  | 3 => ("CardIndex$Stripe", "rows", "I", false)
  | 4 => ("CardIndex$Stripe", "cards", "I", false)
  | 5 => ("CardIndex$Stripe", "grows", "Z", false)
  | 6 => ("CardIndex$Stripe", "rowsMoved", "I", false)
  | 7 => ("CardIndex$Stripe", "growths", "I", false)
  | _ => ("CardIndex$Stripe", "cardsMoved", "I", false)
def tyX7 : Nat → FieldType := fun k => match k with
  | 0 => .array .int
  | 1 => .array .int
  | 2 => .array .int
  | 3 => .int
  | 4 => .int
  | 5 => .boolean
  | 6 => .int
  | 7 => .int
  | _ => .int
abbrev wsX70 : List Cond := u_ws RX7 TX7 9
theorem nmX7 : ∀ a, a < 9 → ∀ b, b < 9 → a ≠ b → (TX7 a).2.1 ≠ (TX7 b).2.1 := by decide +kernel
theorem tyX7_ok : ∀ k, k < 9 → parseFieldDescriptor (TX7 k).2.2.1 = some (tyX7 k) := by decide +kernel
abbrev cX7_init : ByteArray := prog_9_method_1_code
def yX7_init : MethodName := ⟨RX7, "<init>", "()V"⟩
abbrev cX7_empty : ByteArray := prog_9_method_2_code
def yX7_empty : MethodName := ⟨RX7, "empty", "()V"⟩
abbrev cX7_rowsNow : ByteArray := prog_9_method_3_code
def yX7_rowsNow : MethodName := ⟨RX7, "rowsNow", "()I"⟩
abbrev cX7_add : ByteArray := prog_9_method_4_code
def yX7_add : MethodName := ⟨RX7, "add", "(I)V"⟩
abbrev cX7_takeOut : ByteArray := prog_9_method_5_code
def yX7_takeOut : MethodName := ⟨RX7, "takeOut", "(I)V"⟩
abbrev cX7_moveNextRow : ByteArray := prog_9_method_6_code
def yX7_moveNextRow : MethodName := ⟨RX7, "moveNextRow", "()V"⟩
abbrev cX7_endGrowing : ByteArray := prog_9_method_7_code
def yX7_endGrowing : MethodName := ⟨RX7, "endGrowing", "()V"⟩
abbrev cX7_list : ByteArray := prog_9_method_8_code
def yX7_list : MethodName := ⟨RX7, "list", "(I[II)I"⟩
abbrev cX7_listRows : ByteArray := prog_9_method_9_code
def yX7_listRows : MethodName := ⟨RX7, "listRows", "([II[II)I"⟩
def RX8 : String := "CardIndex$Tray"
def TX8 : u_T := fun k => match k with
  | 0 => ("CardIndex$Tray", "cards", "LCardIndex$Cards;", true)
  | 1 => ("CardIndex$Tray", "stripes", "[LCardIndex$Stripe;", true)
  | 2 => ("CardIndex$Tray", "owners", "[I", true)
  | 3 => ("CardIndex$Tray", "throwsTold", "[I", true)
  | 4 => ("CardIndex$Tray", "throwsLeft", "[I", true)
  | 5 => ("CardIndex$Tray", "listed", "[I", true)
  | 6 => ("CardIndex$Tray", "kind", "I", false)
  | 7 => ("CardIndex$Tray", "limit", "I", false)
  | 8 => ("CardIndex$Tray", "fault", "I", false)
  | 9 => ("CardIndex$Tray", "marked", "I", false)
  | 10 => ("CardIndex$Tray", "makings", "I", false)
  | _ => ("CardIndex$Tray", "threw", "I", false)
def tyX8 : Nat → FieldType := fun k => match k with
  | 0 => .object "CardIndex$Cards"
  | 1 => .array (.object "CardIndex$Stripe")
  | 2 => .array .int
  | 3 => .array .int
  | 4 => .array .int
  | 5 => .array .int
  | 6 => .int
  | 7 => .int
  | 8 => .int
  | 9 => .int
  | 10 => .int
  | _ => .int
abbrev wsX80 : List Cond := u_ws RX8 TX8 12
theorem nmX8 : ∀ a, a < 12 → ∀ b, b < 12 → a ≠ b → (TX8 a).2.1 ≠ (TX8 b).2.1 := by decide +kernel
theorem tyX8_ok : ∀ k, k < 12 → parseFieldDescriptor (TX8 k).2.2.1 = some (tyX8 k) := by decide +kernel
abbrev cX8_init : ByteArray := prog_10_method_1_code
def yX8_init : MethodName := ⟨RX8, "<init>", "()V"⟩
abbrev cX8_become : ByteArray := prog_10_method_2_code
def yX8_become : MethodName := ⟨RX8, "become", "(III)V"⟩
abbrev cX8_takes : ByteArray := prog_10_method_3_code
def yX8_takes : MethodName := ⟨RX8, "takes", "(II)Z"⟩
abbrev cX8_beginAnew : ByteArray := prog_10_method_4_code
def yX8_beginAnew : MethodName := ⟨RX8, "beginAnew", "()V"⟩
abbrev cX8_stepsOf : ByteArray := prog_10_method_5_code
def yX8_stepsOf : MethodName := ⟨RX8, "stepsOf", "(I)[I"⟩
abbrev cX8_monitorOf : ByteArray := prog_10_method_6_code
def yX8_monitorOf : MethodName := ⟨RX8, "monitorOf", "(LCardIndex$Act;)I"⟩
abbrev cX8_isFreeFor : ByteArray := prog_10_method_7_code
def yX8_isFreeFor : MethodName := ⟨RX8, "isFreeFor", "(II)Z"⟩
abbrev cX8_take : ByteArray := prog_10_method_8_code
def yX8_take : MethodName := ⟨RX8, "take", "(II)V"⟩
abbrev cX8_give : ByteArray := prog_10_method_9_code
def yX8_give : MethodName := ⟨RX8, "give", "(II)V"⟩
abbrev cX8_read : ByteArray := prog_10_method_10_code
def yX8_read : MethodName := ⟨RX8, "read", "(LCardIndex$Act;LCardIndex$Clerk;)V"⟩
abbrev cX8_look : ByteArray := prog_10_method_11_code
def yX8_look : MethodName := ⟨RX8, "look", "(LCardIndex$Act;)Z"⟩
abbrev cX8_lookForValue : ByteArray := prog_10_method_12_code
def yX8_lookForValue : MethodName := ⟨RX8, "lookForValue", "(LCardIndex$Act;)Z"⟩
abbrev cX8_lookAtEnds : ByteArray := prog_10_method_13_code
def yX8_lookAtEnds : MethodName := ⟨RX8, "lookAtEnds", "(LCardIndex$Act;)Z"⟩
abbrev cX8_markKey : ByteArray := prog_10_method_14_code
def yX8_markKey : MethodName := ⟨RX8, "markKey", "(I)V"⟩
abbrev cX8_make : ByteArray := prog_10_method_15_code
def yX8_make : MethodName := ⟨RX8, "make", "(LCardIndex$Act;)V"⟩
abbrev cX8_write : ByteArray := prog_10_method_16_code
def yX8_write : MethodName := ⟨RX8, "write", "(LCardIndex$Act;LCardIndex$Clerk;)V"⟩
abbrev cX8_writeMap : ByteArray := prog_10_method_17_code
def yX8_writeMap : MethodName := ⟨RX8, "writeMap", "(LCardIndex$Act;)V"⟩
abbrev cX8_writeDeque : ByteArray := prog_10_method_18_code
def yX8_writeDeque : MethodName := ⟨RX8, "writeDeque", "(LCardIndex$Act;)V"⟩
abbrev cX8_writeOnce : ByteArray := prog_10_method_19_code
def yX8_writeOnce : MethodName := ⟨RX8, "writeOnce", "(LCardIndex$Act;)V"⟩
abbrev cX8_countCards : ByteArray := prog_10_method_20_code
def yX8_countCards : MethodName := ⟨RX8, "countCards", "()I"⟩
abbrev cX8_listKeys : ByteArray := prog_10_method_21_code
def yX8_listKeys : MethodName := ⟨RX8, "listKeys", "()V"⟩
abbrev cX8_keyAt : ByteArray := prog_10_method_22_code
def yX8_keyAt : MethodName := ⟨RX8, "keyAt", "(I)I"⟩
abbrev cX8_valueAt : ByteArray := prog_10_method_23_code
def yX8_valueAt : MethodName := ⟨RX8, "valueAt", "(I)I"⟩
abbrev cX8_digestCards : ByteArray := prog_10_method_24_code
def yX8_digestCards : MethodName := ⟨RX8, "digestCards", "(J)J"⟩
abbrev cX8_countGrowths : ByteArray := prog_10_method_25_code
def yX8_countGrowths : MethodName := ⟨RX8, "countGrowths", "()I"⟩
abbrev cX8_countMoved : ByteArray := prog_10_method_26_code
def yX8_countMoved : MethodName := ⟨RX8, "countMoved", "()I"⟩
abbrev cX8_countRows : ByteArray := prog_10_method_27_code
def yX8_countRows : MethodName := ⟨RX8, "countRows", "()I"⟩
def RX9 : String := "CardIndex"
def TX9 : u_T := fun k => match k with
  | 0 => ("CardIndex", "desk", "LCardIndex$Desk;", true)
  | 1 => ("CardIndex", "latest", "LCardIndex$Run;", true)
  | 2 => ("CardIndex", "checker", "LCardIndex$Checker;", true)
  | 3 => ("CardIndex", "explorer", "LCardIndex$Explorer;", true)
  | 4 => ("CardIndex", "choices", "[I", true)
  | 5 => ("CardIndex", "ran", "Z", false)
  | 6 => ("CardIndex", "latestTries", "I", false)
  | _ => ("CardIndex", "askedFor", "I", false)
def tyX9 : Nat → FieldType := fun k => match k with
  | 0 => .object "CardIndex$Desk"
  | 1 => .object "CardIndex$Run"
  | 2 => .object "CardIndex$Checker"
  | 3 => .object "CardIndex$Explorer"
  | 4 => .array .int
  | 5 => .boolean
  | 6 => .int
  | _ => .int
abbrev wsX90 : List Cond := u_ws RX9 TX9 8
theorem nmX9 : ∀ a, a < 8 → ∀ b, b < 8 → a ≠ b → (TX9 a).2.1 ≠ (TX9 b).2.1 := by decide +kernel
theorem tyX9_ok : ∀ k, k < 8 → parseFieldDescriptor (TX9 k).2.2.1 = some (tyX9 k) := by decide +kernel
abbrev cX9_init : ByteArray := prog_1_method_1_code
def yX9_init : MethodName := ⟨RX9, "<init>", "()V"⟩
abbrev cX9_tray : ByteArray := prog_1_method_2_code
def yX9_tray : MethodName := ⟨RX9, "tray", "(III)I"⟩
abbrev cX9_clerk : ByteArray := prog_1_method_3_code
def yX9_clerk : MethodName := ⟨RX9, "clerk", "()I"⟩
abbrev cX9_act : ByteArray := prog_1_method_4_code
def yX9_act : MethodName := ⟨RX9, "act", "(IIIII)I"⟩
abbrev cX9_baton : ByteArray := prog_1_method_5_code
def yX9_baton : MethodName := ⟨RX9, "baton", "(II)I"⟩
abbrev cX9_patience : ByteArray := prog_1_method_6_code
def yX9_patience : MethodName := ⟨RX9, "patience", "(III)I"⟩
abbrev cX9_throwing : ByteArray := prog_1_method_7_code
def yX9_throwing : MethodName := ⟨RX9, "throwing", "(III)I"⟩
abbrev cX9_run : ByteArray := prog_1_method_8_code
def yX9_run : MethodName := ⟨RX9, "run", "()I"⟩
abbrev cX9_answer : ByteArray := prog_1_method_9_code
def yX9_answer : MethodName := ⟨RX9, "answer", "(II)I"⟩
abbrev cX9_outcome : ByteArray := prog_1_method_10_code
def yX9_outcome : MethodName := ⟨RX9, "outcome", "(II)I"⟩
abbrev cX9_waited : ByteArray := prog_1_method_11_code
def yX9_waited : MethodName := ⟨RX9, "waited", "(II)I"⟩
abbrev cX9_mark : ByteArray := prog_1_method_12_code
def yX9_mark : MethodName := ⟨RX9, "mark", "(II)I"⟩
abbrev cX9_count : ByteArray := prog_1_method_13_code
def yX9_count : MethodName := ⟨RX9, "count", "(I)I"⟩
abbrev cX9_size : ByteArray := prog_1_method_14_code
def yX9_size : MethodName := ⟨RX9, "size", "(I)I"⟩
abbrev cX9_card : ByteArray := prog_1_method_15_code
def yX9_card : MethodName := ⟨RX9, "card", "(III)I"⟩
abbrev cX9_asked : ByteArray := prog_1_method_16_code
def yX9_asked : MethodName := ⟨RX9, "asked", "()I"⟩
abbrev cX9_about : ByteArray := prog_1_method_17_code
def yX9_about : MethodName := ⟨RX9, "about", "(II)I"⟩
abbrev cX9_fits : ByteArray := prog_1_method_18_code
def yX9_fits : MethodName := ⟨RX9, "fits", "(I)I"⟩
abbrev cX9_order : ByteArray := prog_1_method_19_code
def yX9_order : MethodName := ⟨RX9, "order", "(II)I"⟩
abbrev cX9_tries : ByteArray := prog_1_method_20_code
def yX9_tries : MethodName := ⟨RX9, "tries", "()I"⟩
abbrev cX9_first : ByteArray := prog_1_method_21_code
def yX9_first : MethodName := ⟨RX9, "first", "()I"⟩
abbrev cX9_explore : ByteArray := prog_1_method_22_code
def yX9_explore : MethodName := ⟨RX9, "explore", "(I)I"⟩
abbrev cX9_explored : ByteArray := prog_1_method_23_code
def yX9_explored : MethodName := ⟨RX9, "explored", "(I)I"⟩
abbrev cX9_digest : ByteArray := prog_1_method_24_code
def yX9_digest : MethodName := ⟨RX9, "digest", "()J"⟩
abbrev cX9_clear : ByteArray := prog_1_method_25_code
def yX9_clear : MethodName := ⟨RX9, "clear", "()I"⟩
abbrev cX9_check : ByteArray := prog_1_method_26_code
def yX9_check : MethodName := ⟨RX9, "check", "(I)I"⟩
def RX10 : String := "CardIndexModel"
def TX10 : u_T := fun k => match k with
  | 0 => ("CardIndexModel", "trays", "I", false)
  | 1 => ("CardIndexModel", "kind", "[I", true)
  | 2 => ("CardIndexModel", "room", "[I", true)
  | 3 => ("CardIndexModel", "fault", "[I", true)
  | 4 => ("CardIndexModel", "clerks", "I", false)
  | 5 => ("CardIndexModel", "acts", "[I", true)
  | 6 => ("CardIndexModel", "trayOf", "[I", true)
  | 7 => ("CardIndexModel", "opOf", "[I", true)
  | 8 => ("CardIndexModel", "aOf", "[I", true)
  | 9 => ("CardIndexModel", "bOf", "[I", true)
  | 10 => ("CardIndexModel", "patience", "[I", true)
  | 11 => ("CardIndexModel", "baton", "[I", true)
  | 12 => ("CardIndexModel", "throwing", "[I", true)
  | 13 => ("CardIndexModel", "isRun", "Z", false)
  | 14 => ("CardIndexModel", "ended", "I", false)
  | 15 => ("CardIndexModel", "steps", "I", false)
  | 16 => ("CardIndexModel", "marks", "I", false)
  | 17 => ("CardIndexModel", "markAct", "[I", true)
  | 18 => ("CardIndexModel", "markEnds", "[Z", true)
  | 19 => ("CardIndexModel", "markSteps", "[I", true)
  | 20 => ("CardIndexModel", "answers", "[I", true)
  | 21 => ("CardIndexModel", "outcomes", "[I", true)
  | 22 => ("CardIndexModel", "waits", "[I", true)
  | 23 => ("CardIndexModel", "beginMark", "[I", true)
  | 24 => ("CardIndexModel", "endMark", "[I", true)
  | 25 => ("CardIndexModel", "now", "[I", true)
  | 26 => ("CardIndexModel", "pos", "[I", true)
  | 27 => ("CardIndexModel", "isWaiting", "[Z", true)
  | 28 => ("CardIndexModel", "since", "[I", true)
  | 29 => ("CardIndexModel", "notedHas", "[Z", true)
  | 30 => ("CardIndexModel", "noted", "[I", true)
  | 31 => ("CardIndexModel", "notedClosed", "[Z", true)
  | 32 => ("CardIndexModel", "threw", "[Z", true)
  | 33 => ("CardIndexModel", "isShort", "[Z", true)
  | 34 => ("CardIndexModel", "copyHas", "[Z", true)
  | 35 => ("CardIndexModel", "copyValue", "[I", true)
  | 36 => ("CardIndexModel", "owner", "[I", true)
  | 37 => ("CardIndexModel", "has", "[Z", true)
  | 38 => ("CardIndexModel", "value", "[I", true)
  | 39 => ("CardIndexModel", "rowOf", "[I", true)
  | 40 => ("CardIndexModel", "isNew", "[Z", true)
  | 41 => ("CardIndexModel", "stamp", "[I", true)
  | 42 => ("CardIndexModel", "stamps", "I", false)
  | 43 => ("CardIndexModel", "row", "[I", true)
  | 44 => ("CardIndexModel", "many", "[I", true)
  | 45 => ("CardIndexModel", "isClosed", "[Z", true)
  | 46 => ("CardIndexModel", "share", "[I", true)
  | 47 => ("CardIndexModel", "marked", "[Z", true)
  | 48 => ("CardIndexModel", "throwsLeft", "[I", true)
  | 49 => ("CardIndexModel", "rows", "[I", true)
  | 50 => ("CardIndexModel", "grows", "[Z", true)
  | 51 => ("CardIndexModel", "nextOld", "[I", true)
  | 52 => ("CardIndexModel", "grew", "[I", true)
  | 53 => ("CardIndexModel", "moved", "[I", true)
  | 54 => ("CardIndexModel", "began", "[I", true)
  | 55 => ("CardIndexModel", "thrownMany", "[I", true)
  | 56 => ("CardIndexModel", "asked", "I", false)
  | 57 => ("CardIndexModel", "tries", "I", false)
  | 58 => ("CardIndexModel", "explored", "[I", true)
  | 59 => ("CardIndexModel", "taken", "[I", true)
  | 60 => ("CardIndexModel", "takenMany", "I", false)
  | 61 => ("CardIndexModel", "placed", "[I", true)
  | 62 => ("CardIndexModel", "isPlaced", "[Z", true)
  | 63 => ("CardIndexModel", "nextTry", "[I", true)
  | 64 => ("CardIndexModel", "triesNow", "I", false)
  | 65 => ("CardIndexModel", "plainHas", "[Z", true)
  | 66 => ("CardIndexModel", "plainValue", "[I", true)
  | 67 => ("CardIndexModel", "plainRow", "[I", true)
  | 68 => ("CardIndexModel", "plainMany", "I", false)
  | 69 => ("CardIndexModel", "plainClosed", "Z", false)
  | 70 => ("CardIndexModel", "plainShare", "[I", true)
  | 71 => ("CardIndexModel", "chosen", "[I", true)
  | 72 => ("CardIndexModel", "ables", "[I", true)
  | 73 => ("CardIndexModel", "seen", "[I", true)
  | _ => ("CardIndexModel", "gone", "I", false)
def tyX10 : Nat → FieldType := fun k => match k with
  | 0 => .int
  | 1 => .array .int
  | 2 => .array .int
  | 3 => .array .int
  | 4 => .int
  | 5 => .array .int
  | 6 => .array .int
  | 7 => .array .int
  | 8 => .array .int
  | 9 => .array .int
  | 10 => .array .int
  | 11 => .array .int
  | 12 => .array .int
  | 13 => .boolean
  | 14 => .int
  | 15 => .int
  | 16 => .int
  | 17 => .array .int
  | 18 => .array .boolean
  | 19 => .array .int
  | 20 => .array .int
  | 21 => .array .int
  | 22 => .array .int
  | 23 => .array .int
  | 24 => .array .int
  | 25 => .array .int
  | 26 => .array .int
  | 27 => .array .boolean
  | 28 => .array .int
  | 29 => .array .boolean
  | 30 => .array .int
  | 31 => .array .boolean
  | 32 => .array .boolean
  | 33 => .array .boolean
  | 34 => .array .boolean
  | 35 => .array .int
  | 36 => .array .int
  | 37 => .array .boolean
  | 38 => .array .int
  | 39 => .array .int
  | 40 => .array .boolean
  | 41 => .array .int
  | 42 => .int
  | 43 => .array .int
  | 44 => .array .int
  | 45 => .array .boolean
  | 46 => .array .int
  | 47 => .array .boolean
  | 48 => .array .int
  | 49 => .array .int
  | 50 => .array .boolean
  | 51 => .array .int
  | 52 => .array .int
  | 53 => .array .int
  | 54 => .array .int
  | 55 => .array .int
  | 56 => .int
  | 57 => .int
  | 58 => .array .int
  | 59 => .array .int
  | 60 => .int
  | 61 => .array .int
  | 62 => .array .boolean
  | 63 => .array .int
  | 64 => .int
  | 65 => .array .boolean
  | 66 => .array .int
  | 67 => .array .int
  | 68 => .int
  | 69 => .boolean
  | 70 => .array .int
  | 71 => .array .int
  | 72 => .array .int
  | 73 => .array .int
  | _ => .int
abbrev wsX100 : List Cond := u_ws RX10 TX10 75
theorem nmX10 : ∀ a, a < 75 → ∀ b, b < 75 → a ≠ b → (TX10 a).2.1 ≠ (TX10 b).2.1 := by decide +kernel
theorem tyX10_ok : ∀ k, k < 75 → parseFieldDescriptor (TX10 k).2.2.1 = some (tyX10 k) := by decide +kernel
abbrev cX10_in : ByteArray := prog_12_method_2_code
def yX10_in : MethodName := ⟨RX10, "in", "(III)Z"⟩
abbrev cX10_init : ByteArray := prog_12_method_3_code
def yX10_init : MethodName := ⟨RX10, "<init>", "()V"⟩
abbrev cX10_isTray : ByteArray := prog_12_method_4_code
def yX10_isTray : MethodName := ⟨RX10, "isTray", "(I)Z"⟩
abbrev cX10_isAct : ByteArray := prog_12_method_5_code
def yX10_isAct : MethodName := ⟨RX10, "isAct", "(II)Z"⟩
abbrev cX10_tray : ByteArray := prog_12_method_6_code
def yX10_tray : MethodName := ⟨RX10, "tray", "(III)I"⟩
abbrev cX10_clerk : ByteArray := prog_12_method_7_code
def yX10_clerk : MethodName := ⟨RX10, "clerk", "()I"⟩
abbrev cX10_ops : ByteArray := prog_12_method_8_code
def yX10_ops : MethodName := ⟨RX10, "ops", "(I)I"⟩
abbrev cX10_hasKey : ByteArray := prog_12_method_9_code
def yX10_hasKey : MethodName := ⟨RX10, "hasKey", "(II)Z"⟩
abbrev cX10_act : ByteArray := prog_12_method_10_code
def yX10_act : MethodName := ⟨RX10, "act", "(IIIII)I"⟩
abbrev cX10_baton : ByteArray := prog_12_method_11_code
def yX10_baton : MethodName := ⟨RX10, "baton", "(II)I"⟩
abbrev cX10_patience : ByteArray := prog_12_method_12_code
def yX10_patience : MethodName := ⟨RX10, "patience", "(III)I"⟩
abbrev cX10_throwing : ByteArray := prog_12_method_13_code
def yX10_throwing : MethodName := ⟨RX10, "throwing", "(III)I"⟩
abbrev cX10_stepOf : ByteArray := prog_12_method_14_code
def yX10_stepOf : MethodName := ⟨RX10, "stepOf", "(III)I"⟩
abbrev cX10_stripe : ByteArray := prog_12_method_15_code
def yX10_stripe : MethodName := ⟨RX10, "stripe", "(II)I"⟩
abbrev cX10_cardsIn : ByteArray := prog_12_method_16_code
def yX10_cardsIn : MethodName := ⟨RX10, "cardsIn", "(II)I"⟩
abbrev cX10_toHead : ByteArray := prog_12_method_17_code
def yX10_toHead : MethodName := ⟨RX10, "toHead", "(IIZI)V"⟩
abbrev cX10_moves : ByteArray := prog_12_method_18_code
def yX10_moves : MethodName := ⟨RX10, "moves", "(II)V"⟩
abbrev cX10_headOf : ByteArray := prog_12_method_19_code
def yX10_headOf : MethodName := ⟨RX10, "headOf", "(IIZI)I"⟩
abbrev cX10_nextOf : ByteArray := prog_12_method_20_code
def yX10_nextOf : MethodName := ⟨RX10, "nextOf", "(IIZII)I"⟩
abbrev cX10_puts : ByteArray := prog_12_method_21_code
def yX10_puts : MethodName := ⟨RX10, "puts", "(III)V"⟩
abbrev cX10_begins : ByteArray := prog_12_method_22_code
def yX10_begins : MethodName := ⟨RX10, "begins", "()V"⟩
abbrev cX10_isAble : ByteArray := prog_12_method_23_code
def yX10_isAble : MethodName := ⟨RX10, "isAble", "(I)Z"⟩
abbrev cX10_marks : ByteArray := prog_12_method_24_code
def yX10_marks : MethodName := ⟨RX10, "marks", "(IZ)V"⟩
abbrev cX10_waits : ByteArray := prog_12_method_25_code
def yX10_waits : MethodName := ⟨RX10, "waits", "(II)V"⟩
abbrev cX10_read : ByteArray := prog_12_method_26_code
def yX10_read : MethodName := ⟨RX10, "read", "(II)V"⟩
abbrev cX10_look : ByteArray := prog_12_method_27_code
def yX10_look : MethodName := ⟨RX10, "look", "(II)V"⟩
abbrev cX10_putLast : ByteArray := prog_12_method_28_code
def yX10_putLast : MethodName := ⟨RX10, "putLast", "(II)V"⟩
abbrev cX10_putFirst : ByteArray := prog_12_method_29_code
def yX10_putFirst : MethodName := ⟨RX10, "putFirst", "(II)V"⟩
abbrev cX10_takeFirst : ByteArray := prog_12_method_30_code
def yX10_takeFirst : MethodName := ⟨RX10, "takeFirst", "(I)V"⟩
abbrev cX10_write : ByteArray := prog_12_method_31_code
def yX10_write : MethodName := ⟨RX10, "write", "(II)V"⟩
abbrev cX10_ownValue : ByteArray := prog_12_method_32_code
def yX10_ownValue : MethodName := ⟨RX10, "ownValue", "(I)I"⟩
abbrev cX10_makes : ByteArray := prog_12_method_33_code
def yX10_makes : MethodName := ⟨RX10, "makes", "(II)V"⟩
abbrev cX10_ends : ByteArray := prog_12_method_34_code
def yX10_ends : MethodName := ⟨RX10, "ends", "(II)V"⟩
abbrev cX10_over : ByteArray := prog_12_method_35_code
def yX10_over : MethodName := ⟨RX10, "over", "(IIII)V"⟩
abbrev cX10_does : ByteArray := prog_12_method_36_code
def yX10_does : MethodName := ⟨RX10, "does", "(I)V"⟩
abbrev cX10_leastAble : ByteArray := prog_12_method_37_code
def yX10_leastAble : MethodName := ⟨RX10, "leastAble", "()I"⟩
abbrev cX10_howItEnds : ByteArray := prog_12_method_38_code
def yX10_howItEnds : MethodName := ⟨RX10, "howItEnds", "()I"⟩
abbrev cX10_run : ByteArray := prog_12_method_39_code
def yX10_run : MethodName := ⟨RX10, "run", "()I"⟩
abbrev cX10_answer : ByteArray := prog_12_method_40_code
def yX10_answer : MethodName := ⟨RX10, "answer", "(II)I"⟩
abbrev cX10_outcome : ByteArray := prog_12_method_41_code
def yX10_outcome : MethodName := ⟨RX10, "outcome", "(II)I"⟩
abbrev cX10_waited : ByteArray := prog_12_method_42_code
def yX10_waited : MethodName := ⟨RX10, "waited", "(II)I"⟩
abbrev cX10_mark : ByteArray := prog_12_method_43_code
def yX10_mark : MethodName := ⟨RX10, "mark", "(II)I"⟩
abbrev cX10_count : ByteArray := prog_12_method_44_code
def yX10_count : MethodName := ⟨RX10, "count", "(I)I"⟩
abbrev cX10_sizeOf : ByteArray := prog_12_method_45_code
def yX10_sizeOf : MethodName := ⟨RX10, "sizeOf", "(I)I"⟩
abbrev cX10_size : ByteArray := prog_12_method_46_code
def yX10_size : MethodName := ⟨RX10, "size", "(I)I"⟩
abbrev cX10_mapKey : ByteArray := prog_12_method_47_code
def yX10_mapKey : MethodName := ⟨RX10, "mapKey", "(II)I"⟩
abbrev cX10_keyOf : ByteArray := prog_12_method_48_code
def yX10_keyOf : MethodName := ⟨RX10, "keyOf", "(II)I"⟩
abbrev cX10_cardOf : ByteArray := prog_12_method_49_code
def yX10_cardOf : MethodName := ⟨RX10, "cardOf", "(III)I"⟩
abbrev cX10_card : ByteArray := prog_12_method_50_code
def yX10_card : MethodName := ⟨RX10, "card", "(III)I"⟩
abbrev cX10_asked : ByteArray := prog_12_method_51_code
def yX10_asked : MethodName := ⟨RX10, "asked", "()I"⟩
abbrev cX10_about : ByteArray := prog_12_method_52_code
def yX10_about : MethodName := ⟨RX10, "about", "(II)I"⟩
abbrev cX10_take : ByteArray := prog_12_method_53_code
def yX10_take : MethodName := ⟨RX10, "take", "(I)V"⟩
abbrev cX10_plainEmpty : ByteArray := prog_12_method_54_code
def yX10_plainEmpty : MethodName := ⟨RX10, "plainEmpty", "()V"⟩
abbrev cX10_gives : ByteArray := prog_12_method_55_code
def yX10_gives : MethodName := ⟨RX10, "gives", "(ZIII)Z"⟩
abbrev cX10_plainDeque : ByteArray := prog_12_method_56_code
def yX10_plainDeque : MethodName := ⟨RX10, "plainDeque", "(II)Z"⟩
abbrev cX10_plainTake : ByteArray := prog_12_method_57_code
def yX10_plainTake : MethodName := ⟨RX10, "plainTake", "(Z)V"⟩
abbrev cX10_plain : ByteArray := prog_12_method_58_code
def yX10_plain : MethodName := ⟨RX10, "plain", "(II)Z"⟩
abbrev cX10_areAlike : ByteArray := prog_12_method_59_code
def yX10_areAlike : MethodName := ⟨RX10, "areAlike", "(I)Z"⟩
abbrev cX10_mayCome : ByteArray := prog_12_method_60_code
def yX10_mayCome : MethodName := ⟨RX10, "mayCome", "(III)Z"⟩
abbrev cX10_search : ByteArray := prog_12_method_61_code
def yX10_search : MethodName := ⟨RX10, "search", "(II)I"⟩
abbrev cX10_fitsOf : ByteArray := prog_12_method_62_code
def yX10_fitsOf : MethodName := ⟨RX10, "fitsOf", "(I)I"⟩
abbrev cX10_fits : ByteArray := prog_12_method_63_code
def yX10_fits : MethodName := ⟨RX10, "fits", "(I)I"⟩
abbrev cX10_order : ByteArray := prog_12_method_64_code
def yX10_order : MethodName := ⟨RX10, "order", "(II)I"⟩
abbrev cX10_tries : ByteArray := prog_12_method_65_code
def yX10_tries : MethodName := ⟨RX10, "tries", "()I"⟩
abbrev cX10_first : ByteArray := prog_12_method_66_code
def yX10_first : MethodName := ⟨RX10, "first", "()I"⟩
abbrev cX10_ableMany : ByteArray := prog_12_method_67_code
def yX10_ableMany : MethodName := ⟨RX10, "ableMany", "()I"⟩
abbrev cX10_ableAt : ByteArray := prog_12_method_68_code
def yX10_ableAt : MethodName := ⟨RX10, "ableAt", "(I)I"⟩
abbrev cX10_differs : ByteArray := prog_12_method_69_code
def yX10_differs : MethodName := ⟨RX10, "differs", "(II)Z"⟩
abbrev cX10_weighs : ByteArray := prog_12_method_70_code
def yX10_weighs : MethodName := ⟨RX10, "weighs", "(I)V"⟩
abbrev cX10_explore : ByteArray := prog_12_method_71_code
def yX10_explore : MethodName := ⟨RX10, "explore", "(I)I"⟩
abbrev cX10_explored : ByteArray := prog_12_method_72_code
def yX10_explored : MethodName := ⟨RX10, "explored", "(I)I"⟩
abbrev cX10_digest : ByteArray := prog_12_method_73_code
def yX10_digest : MethodName := ⟨RX10, "digest", "()J"⟩
abbrev cX10_clear : ByteArray := prog_12_method_74_code
def yX10_clear : MethodName := ⟨RX10, "clear", "()I"⟩
def RJ6 : String := "java/lang/Integer"
def TJ6 : u_T := fun k => match k with
  | _ => ("", "", "", false)
def tyJ6 : Nat → FieldType := fun k => match k with
  | _ => .int
abbrev wsJ60 : List Cond := u_ws RJ6 TJ6 0
theorem nmJ6 : ∀ a, a < 0 → ∀ b, b < 0 → a ≠ b → (TJ6 a).2.1 ≠ (TJ6 b).2.1 := by decide +kernel
theorem tyJ6_ok : ∀ k, k < 0 → parseFieldDescriptor (TJ6 k).2.2.1 = some (tyJ6 k) := by decide +kernel
abbrev cJ6_bitCount_0f7a4 : ByteArray := prog_13_method_49_code
def yJ6_bitCount_0f7a4 : MethodName := ⟨RJ6, "bitCount", "(I)I"⟩
def RJ10 : String := "java/lang/System"
def TJ10 : u_T := fun k => match k with
  | _ => ("", "", "", false)
def tyJ10 : Nat → FieldType := fun k => match k with
  | _ => .int
abbrev wsJ100 : List Cond := u_ws RJ10 TJ10 0
theorem nmJ10 : ∀ a, a < 0 → ∀ b, b < 0 → a ≠ b → (TJ10 a).2.1 ≠ (TJ10 b).2.1 := by decide +kernel
theorem tyJ10_ok : ∀ k, k < 0 → parseFieldDescriptor (TJ10 k).2.2.1 = some (tyJ10 k) := by decide +kernel
def RJ7 : String := "java/util/Arrays"
def TJ7 : u_T := fun k => match k with
  | _ => ("", "", "", false)
def tyJ7 : Nat → FieldType := fun k => match k with
  | _ => .int
abbrev wsJ70 : List Cond := u_ws RJ7 TJ7 0
theorem nmJ7 : ∀ a, a < 0 → ∀ b, b < 0 → a ≠ b → (TJ7 a).2.1 ≠ (TJ7 b).2.1 := by decide +kernel
theorem tyJ7_ok : ∀ k, k < 0 → parseFieldDescriptor (TJ7 k).2.2.1 = some (tyJ7 k) := by decide +kernel
abbrev cJ7_fill_53178 : ByteArray := prog_15_method_103_code
def yJ7_fill_53178 : MethodName := ⟨RJ7, "fill", "([II)V"⟩
def RL : String := "CardIndexLaw"
abbrev cL_law : ByteArray := code
def yL_law : MethodName := ⟨RL, "law", "([I)Z"⟩
end
section
/-! the methods by number: name, code, locals, answer, own class; where their words stand among the tables -/
abbrev sm_own : List String := ["CardIndex$Act", "CardIndex$Cards", "CardIndex$Checker", "CardIndex$Clerk", "CardIndex$Desk", "CardIndex$Explorer", "CardIndex$Run", "CardIndex$Stripe", "CardIndex$Tray", "CardIndex", "CardIndexModel", "CardIndexLaw", "java/util/Arrays", "java/lang/Integer"]
abbrev sm_M : Type := MethodName × ByteArray × Nat × Option FieldType × Nat
def sm_m0 : List sm_M := [(⟨"CardIndex", "<init>", "()V"⟩, prog_1_method_1_code, 1, (none), 9),
  (⟨"CardIndex$Desk", "<init>", "()V"⟩, prog_6_method_1_code, 2, (none), 4),
  (⟨"CardIndex$Tray", "<init>", "()V"⟩, prog_10_method_1_code, 2, (none), 8),
  (⟨"CardIndex$Cards", "<init>", "()V"⟩, prog_3_method_1_code, 1, (none), 1),
  (⟨"CardIndex$Stripe", "<init>", "()V"⟩, prog_9_method_1_code, 1, (none), 7),
  (⟨"CardIndex$Clerk", "<init>", "(I)V"⟩, prog_5_method_1_code, 3, (none), 3),
  (⟨"CardIndex$Act", "<init>", "(II)V"⟩, prog_2_method_1_code, 3, (none), 0),
  (⟨"CardIndex$Run", "<init>", "(LCardIndex$Desk;)V"⟩, prog_8_method_1_code, 2, (none), 6),
  (⟨"CardIndex$Checker", "<init>", "(LCardIndex$Desk;LCardIndex$Run;)V"⟩, prog_4_method_1_code, 4, (none), 2),
  (⟨"CardIndex$Explorer", "<init>", "(LCardIndex$Desk;LCardIndex$Run;LCardIndex$Checker;)V"⟩, prog_7_method_1_code, 4, (none), 5),
  (⟨"java/util/Arrays", "fill", "([II)V"⟩, prog_15_method_103_code, 4, (none), 12),
  (⟨"CardIndex", "tray", "(III)I"⟩, prog_1_method_2_code, 4, (some FieldType.int), 9),
  (⟨"CardIndex$Desk", "addTray", "(III)I"⟩, prog_6_method_5_code, 4, (some FieldType.int), 4),
  (⟨"CardIndex$Tray", "become", "(III)V"⟩, prog_10_method_2_code, 4, (none), 8),
  (⟨"CardIndex", "clerk", "()I"⟩, prog_1_method_3_code, 1, (some FieldType.int), 9),
  (⟨"CardIndex$Desk", "addClerk", "()I"⟩, prog_6_method_6_code, 1, (some FieldType.int), 4),
  (⟨"CardIndex", "act", "(IIIII)I"⟩, prog_1_method_4_code, 6, (some FieldType.int), 9),
  (⟨"CardIndex$Desk", "hasClerk", "(I)Z"⟩, prog_6_method_3_code, 2, (some FieldType.boolean), 4),
  (⟨"CardIndex$Desk", "hasTray", "(I)Z"⟩, prog_6_method_2_code, 2, (some FieldType.boolean), 4),
  (⟨"CardIndex$Tray", "takes", "(II)Z"⟩, prog_10_method_3_code, 5, (some FieldType.boolean), 8),
  (⟨"CardIndex$Clerk", "addAct", "(IIII)I"⟩, prog_5_method_2_code, 6, (some FieldType.int), 3),
  (⟨"CardIndex", "baton", "(II)I"⟩, prog_1_method_5_code, 3, (some FieldType.int), 9),
  (⟨"CardIndex", "patience", "(III)I"⟩, prog_1_method_6_code, 4, (some FieldType.int), 9),
  (⟨"CardIndex$Desk", "hasAct", "(II)Z"⟩, prog_6_method_4_code, 3, (some FieldType.boolean), 4),
  (⟨"CardIndex", "throwing", "(III)I"⟩, prog_1_method_7_code, 4, (some FieldType.int), 9),
  (⟨"CardIndex", "run", "()I"⟩, prog_1_method_8_code, 1, (some FieldType.int), 9),
  (⟨"CardIndex$Run", "goThrough", "([I)V"⟩, prog_8_method_2_code, 5, (none), 6),
  (⟨"CardIndex$Desk", "beginAnew", "()V"⟩, prog_6_method_9_code, 4, (none), 4),
  (⟨"CardIndex$Tray", "beginAnew", "()V"⟩, prog_10_method_4_code, 2, (none), 8),
  (⟨"CardIndex$Cards", "empty", "()V"⟩, prog_3_method_2_code, 1, (none), 1),
  (⟨"CardIndex$Stripe", "empty", "()V"⟩, prog_9_method_2_code, 1, (none), 7),
  (⟨"CardIndex$Desk", "beginAct", "(LCardIndex$Act;)V"⟩, prog_6_method_10_code, 3, (none), 4),
  (⟨"CardIndex$Tray", "stepsOf", "(I)[I"⟩, prog_10_method_5_code, 3, (some (FieldType.array FieldType.int)), 8),
  (⟨"CardIndex$Tray", "monitorOf", "(LCardIndex$Act;)I"⟩, prog_10_method_6_code, 2, (some FieldType.int), 8),
  (⟨"CardIndex$Act", "beginAnew", "([II)V"⟩, prog_2_method_2_code, 3, (none), 0),
  (⟨"CardIndex$Run", "findAble", "(I)I"⟩, prog_8_method_3_code, 4, (some FieldType.int), 6),
  (⟨"CardIndex$Run", "isAble", "(LCardIndex$Clerk;I)Z"⟩, prog_8_method_4_code, 4, (some FieldType.boolean), 6),
  (⟨"CardIndex$Clerk", "current", "()LCardIndex$Act;"⟩, prog_5_method_3_code, 1, (some (FieldType.object "CardIndex$Act")), 3),
  (⟨"CardIndex$Act", "nextStep", "()I"⟩, prog_2_method_4_code, 1, (some FieldType.int), 0),
  (⟨"CardIndex$Act", "nextMonitor", "()I"⟩, prog_2_method_5_code, 1, (some FieldType.int), 0)]
def sm_m1 : List sm_M := [(⟨"CardIndex$Tray", "isFreeFor", "(II)Z"⟩, prog_10_method_7_code, 4, (some FieldType.boolean), 8),
  (⟨"CardIndex$Run", "choose", "(II)I"⟩, prog_8_method_5_code, 3, (some FieldType.int), 6),
  (⟨"CardIndex$Run", "doStep", "(LCardIndex$Clerk;I)V"⟩, prog_8_method_7_code, 4, (none), 6),
  (⟨"CardIndex$Run", "addMark", "(LCardIndex$Act;II)V"⟩, prog_8_method_11_code, 5, (none), 6),
  (⟨"CardIndex$Run", "endAct", "(LCardIndex$Clerk;LCardIndex$Act;II)V"⟩, prog_8_method_10_code, 5, (none), 6),
  (⟨"CardIndex$Run", "goOn", "(LCardIndex$Clerk;LCardIndex$Act;I)V"⟩, prog_8_method_8_code, 5, (none), 6),
  (⟨"CardIndex$Tray", "take", "(II)V"⟩, prog_10_method_8_code, 3, (none), 8),
  (⟨"CardIndex$Tray", "give", "(II)V"⟩, prog_10_method_9_code, 3, (none), 8),
  (⟨"CardIndex$Tray", "read", "(LCardIndex$Act;LCardIndex$Clerk;)V"⟩, prog_10_method_10_code, 3, (none), 8),
  (⟨"CardIndex$Stripe", "moveNextRow", "()V"⟩, prog_9_method_6_code, 5, (none), 7),
  (⟨"CardIndex$Stripe", "endGrowing", "()V"⟩, prog_9_method_7_code, 2, (none), 7),
  (⟨"CardIndex$Cards", "has", "(I)Z"⟩, prog_3_method_4_code, 2, (some FieldType.boolean), 1),
  (⟨"CardIndex$Cards", "valueOf", "(I)I"⟩, prog_3_method_5_code, 2, (some FieldType.int), 1),
  (⟨"CardIndex$Act", "note", "(ZI)V"⟩, prog_2_method_3_code, 3, (none), 0),
  (⟨"CardIndex$Cards", "headValue", "()I"⟩, prog_3_method_9_code, 1, (some FieldType.int), 1),
  (⟨"CardIndex$Cards", "sumOfShares", "()I"⟩, prog_3_method_15_code, 1, (some FieldType.int), 1),
  (⟨"CardIndex$Cards", "weightedSum", "()I"⟩, prog_3_method_16_code, 3, (some FieldType.int), 1),
  (⟨"CardIndex$Cards", "copyKeysOf", "(LCardIndex$Cards;)V"⟩, prog_3_method_3_code, 2, (none), 1),
  (⟨"CardIndex$Tray", "look", "(LCardIndex$Act;)Z"⟩, prog_10_method_11_code, 2, (some FieldType.boolean), 8),
  (⟨"CardIndex$Tray", "lookForValue", "(LCardIndex$Act;)Z"⟩, prog_10_method_12_code, 2, (some FieldType.boolean), 8),
  (⟨"CardIndex$Tray", "lookAtEnds", "(LCardIndex$Act;)Z"⟩, prog_10_method_13_code, 3, (some FieldType.boolean), 8),
  (⟨"CardIndex$Cards", "tailValue", "()I"⟩, prog_3_method_10_code, 1, (some FieldType.int), 1),
  (⟨"CardIndex$Run", "beginWaiting", "(LCardIndex$Clerk;LCardIndex$Act;I)V"⟩, prog_8_method_9_code, 4, (none), 6),
  (⟨"CardIndex$Tray", "markKey", "(I)V"⟩, prog_10_method_14_code, 2, (none), 8),
  (⟨"CardIndex$Tray", "make", "(LCardIndex$Act;)V"⟩, prog_10_method_15_code, 2, (none), 8),
  (⟨"CardIndex$Tray", "write", "(LCardIndex$Act;LCardIndex$Clerk;)V"⟩, prog_10_method_16_code, 3, (none), 8),
  (⟨"CardIndex$Tray", "writeMap", "(LCardIndex$Act;)V"⟩, prog_10_method_17_code, 4, (none), 8),
  (⟨"CardIndex$Stripe", "takeOut", "(I)V"⟩, prog_9_method_5_code, 8, (none), 7),
  (⟨"CardIndex$Cards", "takeOut", "(I)V"⟩, prog_3_method_7_code, 2, (none), 1),
  (⟨"CardIndex$Stripe", "add", "(I)V"⟩, prog_9_method_4_code, 4, (none), 7),
  (⟨"CardIndex$Cards", "put", "(II)V"⟩, prog_3_method_6_code, 3, (none), 1),
  (⟨"CardIndex$Cards", "putLast", "(I)V"⟩, prog_3_method_12_code, 2, (none), 1),
  (⟨"CardIndex$Cards", "takeFirst", "()V"⟩, prog_3_method_13_code, 1, (none), 1),
  (⟨"CardIndex$Tray", "writeDeque", "(LCardIndex$Act;)V"⟩, prog_10_method_18_code, 2, (none), 8),
  (⟨"CardIndex$Cards", "putFirst", "(I)V"⟩, prog_3_method_11_code, 2, (none), 1),
  (⟨"CardIndex$Cards", "takeLast", "()V"⟩, prog_3_method_14_code, 1, (none), 1),
  (⟨"CardIndex$Tray", "writeOnce", "(LCardIndex$Act;)V"⟩, prog_10_method_19_code, 2, (none), 8),
  (⟨"CardIndex$Act", "ownMaking", "()I"⟩, prog_2_method_6_code, 1, (some FieldType.int), 0),
  (⟨"CardIndex$Desk", "wake", "(I)V"⟩, prog_6_method_11_code, 4, (none), 4),
  (⟨"CardIndex$Clerk", "waiting", "()LCardIndex$Act;"⟩, prog_5_method_4_code, 2, (some (FieldType.object "CardIndex$Act")), 3)]
def sm_m2 : List sm_M := [(⟨"CardIndex$Run", "allEnded", "()Z"⟩, prog_8_method_6_code, 2, (some FieldType.boolean), 6),
  (⟨"CardIndex", "answer", "(II)I"⟩, prog_1_method_9_code, 3, (some FieldType.int), 9),
  (⟨"CardIndex", "outcome", "(II)I"⟩, prog_1_method_10_code, 3, (some FieldType.int), 9),
  (⟨"CardIndex", "waited", "(II)I"⟩, prog_1_method_11_code, 3, (some FieldType.int), 9),
  (⟨"CardIndex", "mark", "(II)I"⟩, prog_1_method_12_code, 3, (some FieldType.int), 9),
  (⟨"CardIndex", "count", "(I)I"⟩, prog_1_method_13_code, 2, (some FieldType.int), 9),
  (⟨"CardIndex$Desk", "countActs", "()I"⟩, prog_6_method_7_code, 3, (some FieldType.int), 4),
  (⟨"CardIndex$Desk", "countWaiting", "()I"⟩, prog_6_method_8_code, 3, (some FieldType.int), 4),
  (⟨"CardIndex", "size", "(I)I"⟩, prog_1_method_14_code, 2, (some FieldType.int), 9),
  (⟨"CardIndex$Tray", "countCards", "()I"⟩, prog_10_method_20_code, 1, (some FieldType.int), 8),
  (⟨"java/lang/Integer", "bitCount", "(I)I"⟩, prog_13_method_49_code, 1, (some FieldType.int), 13),
  (⟨"CardIndex", "card", "(III)I"⟩, prog_1_method_15_code, 5, (some FieldType.int), 9),
  (⟨"CardIndex$Tray", "listKeys", "()V"⟩, prog_10_method_21_code, 3, (none), 8),
  (⟨"CardIndex$Stripe", "list", "(I[II)I"⟩, prog_9_method_8_code, 5, (some FieldType.int), 7),
  (⟨"CardIndex$Stripe", "listRows", "([II[II)I"⟩, prog_9_method_9_code, 9, (some FieldType.int), 7),
  (⟨"CardIndex$Tray", "keyAt", "(I)I"⟩, prog_10_method_22_code, 2, (some FieldType.int), 8),
  (⟨"CardIndex$Tray", "valueAt", "(I)I"⟩, prog_10_method_23_code, 2, (some FieldType.int), 8),
  (⟨"CardIndex$Cards", "valueAtPlace", "(I)I"⟩, prog_3_method_8_code, 2, (some FieldType.int), 1),
  (⟨"CardIndex", "asked", "()I"⟩, prog_1_method_16_code, 1, (some FieldType.int), 9),
  (⟨"CardIndex", "about", "(II)I"⟩, prog_1_method_17_code, 5, (some FieldType.int), 9),
  (⟨"CardIndex$Tray", "countGrowths", "()I"⟩, prog_10_method_25_code, 3, (some FieldType.int), 8),
  (⟨"CardIndex$Tray", "countMoved", "()I"⟩, prog_10_method_26_code, 3, (some FieldType.int), 8),
  (⟨"CardIndex$Tray", "countRows", "()I"⟩, prog_10_method_27_code, 3, (some FieldType.int), 8),
  (⟨"CardIndex$Stripe", "rowsNow", "()I"⟩, prog_9_method_3_code, 1, (some FieldType.int), 7),
  (⟨"CardIndex", "fits", "(I)I"⟩, prog_1_method_18_code, 2, (some FieldType.int), 9),
  (⟨"CardIndex", "check", "(I)I"⟩, prog_1_method_26_code, 3, (some FieldType.int), 9),
  (⟨"CardIndex$Checker", "judge", "(II)I"⟩, prog_4_method_2_code, 3, (some FieldType.int), 2),
  (⟨"CardIndex$Checker", "gather", "(I)Z"⟩, prog_4_method_3_code, 7, (some FieldType.boolean), 2),
  (⟨"CardIndex$Act", "hasEndedUntired", "()Z"⟩, prog_2_method_7_code, 1, (some FieldType.boolean), 0),
  (⟨"CardIndex$Checker", "findAhead", "()V"⟩, prog_4_method_4_code, 3, (none), 2),
  (⟨"CardIndex$Checker", "fill", "(LCardIndex$Checker;I)I"⟩, prog_4_method_6_code, 6, (some FieldType.int), 2),
  (⟨"CardIndex$Cards", "hasSame", "(ILCardIndex$Cards;)Z"⟩, prog_3_method_17_code, 3, (some FieldType.boolean), 1),
  (⟨"CardIndex$Cards", "hasSameRow", "(LCardIndex$Cards;)Z"⟩, prog_3_method_18_code, 3, (some FieldType.boolean), 1),
  (⟨"CardIndex$Cards", "hasSameKeys", "(LCardIndex$Cards;)Z"⟩, prog_3_method_19_code, 3, (some FieldType.boolean), 1),
  (⟨"CardIndex$Checker", "answersAlike", "(LCardIndex$Act;)Z"⟩, prog_4_method_7_code, 2, (some FieldType.boolean), 2),
  (⟨"CardIndex$Checker", "keyedOrZero", "(I)I"⟩, prog_4_method_11_code, 2, (some FieldType.int), 2),
  (⟨"CardIndex$Checker", "isWell", "(LCardIndex$Act;I)Z"⟩, prog_4_method_9_code, 2, (some FieldType.boolean), 2),
  (⟨"CardIndex$Checker", "isKeyed", "(LCardIndex$Act;)Z"⟩, prog_4_method_10_code, 2, (some FieldType.boolean), 2),
  (⟨"CardIndex$Checker", "isAnswer", "(LCardIndex$Act;II)Z"⟩, prog_4_method_8_code, 3, (some FieldType.boolean), 2),
  (⟨"CardIndex$Checker", "dequeAnswersAlike", "(LCardIndex$Act;)Z"⟩, prog_4_method_12_code, 3, (some FieldType.boolean), 2)]
def sm_m3 : List sm_M := [(⟨"CardIndex$Checker", "onceAnswersAlike", "(LCardIndex$Act;)Z"⟩, prog_4_method_13_code, 2, (some FieldType.boolean), 2),
  (⟨"CardIndex$Checker", "doWhole", "(LCardIndex$Act;)V"⟩, prog_4_method_14_code, 2, (none), 2),
  (⟨"CardIndex$Checker", "doDeque", "(LCardIndex$Act;)V"⟩, prog_4_method_15_code, 2, (none), 2),
  (⟨"CardIndex$Checker", "takeBack", "(LCardIndex$Act;I)V"⟩, prog_4_method_16_code, 3, (none), 2),
  (⟨"CardIndex$Checker", "takeBackDeque", "(LCardIndex$Act;)V"⟩, prog_4_method_17_code, 2, (none), 2),
  (⟨"CardIndex", "order", "(II)I"⟩, prog_1_method_19_code, 3, (some FieldType.int), 9),
  (⟨"CardIndex$Checker", "actAt", "(I)I"⟩, prog_4_method_5_code, 3, (some FieldType.int), 2),
  (⟨"CardIndex", "tries", "()I"⟩, prog_1_method_20_code, 1, (some FieldType.int), 9),
  (⟨"CardIndex", "first", "()I"⟩, prog_1_method_21_code, 2, (some FieldType.int), 9),
  (⟨"CardIndex", "explore", "(I)I"⟩, prog_1_method_22_code, 4, (some FieldType.int), 9),
  (⟨"CardIndex$Explorer", "begin", "()V"⟩, prog_7_method_2_code, 1, (none), 5),
  (⟨"CardIndex$Explorer", "judgeTrays", "()V"⟩, prog_7_method_4_code, 5, (none), 5),
  (⟨"CardIndex$Explorer", "seeAnswers", "()V"⟩, prog_7_method_5_code, 6, (none), 5),
  (⟨"CardIndex$Explorer", "areSame", "(III)Z"⟩, prog_7_method_6_code, 5, (some FieldType.boolean), 5),
  (⟨"CardIndex$Explorer", "planNext", "()Z"⟩, prog_7_method_7_code, 4, (some FieldType.boolean), 5),
  (⟨"CardIndex$Explorer", "end", "(IZ)V"⟩, prog_7_method_3_code, 3, (none), 5),
  (⟨"CardIndex", "explored", "(I)I"⟩, prog_1_method_23_code, 2, (some FieldType.int), 9),
  (⟨"CardIndex", "digest", "()J"⟩, prog_1_method_24_code, 4, (some FieldType.long), 9),
  (⟨"CardIndex$Clerk", "digestActs", "(J)J"⟩, prog_5_method_5_code, 6, (some FieldType.long), 3),
  (⟨"CardIndex$Tray", "digestCards", "(J)J"⟩, prog_10_method_24_code, 7, (some FieldType.long), 8),
  (⟨"CardIndex", "clear", "()I"⟩, prog_1_method_25_code, 2, (some FieldType.int), 9),
  (⟨"CardIndexModel", "<init>", "()V"⟩, prog_12_method_3_code, 2, (none), 10),
  (⟨"CardIndexModel", "tray", "(III)I"⟩, prog_12_method_6_code, 4, (some FieldType.int), 10),
  (⟨"CardIndexModel", "in", "(III)Z"⟩, prog_12_method_2_code, 3, (some FieldType.boolean), 10),
  (⟨"CardIndexModel", "clerk", "()I"⟩, prog_12_method_7_code, 1, (some FieldType.int), 10),
  (⟨"CardIndexModel", "act", "(IIIII)I"⟩, prog_12_method_10_code, 7, (some FieldType.int), 10),
  (⟨"CardIndexModel", "isTray", "(I)Z"⟩, prog_12_method_4_code, 2, (some FieldType.boolean), 10),
  (⟨"CardIndexModel", "ops", "(I)I"⟩, prog_12_method_8_code, 1, (some FieldType.int), 10),
  (⟨"CardIndexModel", "hasKey", "(II)Z"⟩, prog_12_method_9_code, 2, (some FieldType.boolean), 10),
  (⟨"CardIndexModel", "baton", "(II)I"⟩, prog_12_method_11_code, 3, (some FieldType.int), 10),
  (⟨"CardIndexModel", "patience", "(III)I"⟩, prog_12_method_12_code, 4, (some FieldType.int), 10),
  (⟨"CardIndexModel", "isAct", "(II)Z"⟩, prog_12_method_5_code, 3, (some FieldType.boolean), 10),
  (⟨"CardIndexModel", "throwing", "(III)I"⟩, prog_12_method_13_code, 4, (some FieldType.int), 10),
  (⟨"CardIndexModel", "run", "()I"⟩, prog_12_method_39_code, 3, (some FieldType.int), 10),
  (⟨"CardIndexModel", "begins", "()V"⟩, prog_12_method_22_code, 2, (none), 10),
  (⟨"CardIndexModel", "leastAble", "()I"⟩, prog_12_method_37_code, 2, (some FieldType.int), 10),
  (⟨"CardIndexModel", "isAble", "(I)Z"⟩, prog_12_method_23_code, 5, (some FieldType.boolean), 10),
  (⟨"CardIndexModel", "stepOf", "(III)I"⟩, prog_12_method_14_code, 9, (some FieldType.int), 10),
  (⟨"CardIndexModel", "does", "(I)V"⟩, prog_12_method_36_code, 6, (none), 10),
  (⟨"CardIndexModel", "marks", "(IZ)V"⟩, prog_12_method_24_code, 3, (none), 10)]
def sm_m4 : List sm_M := [(⟨"CardIndexModel", "over", "(IIII)V"⟩, prog_12_method_35_code, 5, (none), 10),
  (⟨"CardIndexModel", "read", "(II)V"⟩, prog_12_method_26_code, 8, (none), 10),
  (⟨"CardIndexModel", "moves", "(II)V"⟩, prog_12_method_18_code, 7, (none), 10),
  (⟨"CardIndexModel", "stripe", "(II)I"⟩, prog_12_method_15_code, 3, (some FieldType.int), 10),
  (⟨"CardIndexModel", "headOf", "(IIZI)I"⟩, prog_12_method_19_code, 5, (some FieldType.int), 10),
  (⟨"CardIndexModel", "nextOf", "(IIZII)I"⟩, prog_12_method_20_code, 10, (some FieldType.int), 10),
  (⟨"CardIndexModel", "toHead", "(IIZI)V"⟩, prog_12_method_17_code, 6, (none), 10),
  (⟨"CardIndexModel", "look", "(II)V"⟩, prog_12_method_27_code, 6, (none), 10),
  (⟨"CardIndexModel", "waits", "(II)V"⟩, prog_12_method_25_code, 4, (none), 10),
  (⟨"CardIndexModel", "write", "(II)V"⟩, prog_12_method_31_code, 7, (none), 10),
  (⟨"CardIndexModel", "puts", "(III)V"⟩, prog_12_method_21_code, 6, (none), 10),
  (⟨"CardIndexModel", "cardsIn", "(II)I"⟩, prog_12_method_16_code, 5, (some FieldType.int), 10),
  (⟨"CardIndexModel", "putLast", "(II)V"⟩, prog_12_method_28_code, 3, (none), 10),
  (⟨"CardIndexModel", "takeFirst", "(I)V"⟩, prog_12_method_30_code, 3, (none), 10),
  (⟨"CardIndexModel", "putFirst", "(II)V"⟩, prog_12_method_29_code, 4, (none), 10),
  (⟨"CardIndexModel", "ownValue", "(I)I"⟩, prog_12_method_32_code, 1, (some FieldType.int), 10),
  (⟨"CardIndexModel", "makes", "(II)V"⟩, prog_12_method_33_code, 5, (none), 10),
  (⟨"CardIndexModel", "ends", "(II)V"⟩, prog_12_method_34_code, 7, (none), 10),
  (⟨"CardIndexModel", "howItEnds", "()I"⟩, prog_12_method_38_code, 2, (some FieldType.int), 10),
  (⟨"CardIndexModel", "answer", "(II)I"⟩, prog_12_method_40_code, 3, (some FieldType.int), 10),
  (⟨"CardIndexModel", "outcome", "(II)I"⟩, prog_12_method_41_code, 3, (some FieldType.int), 10),
  (⟨"CardIndexModel", "waited", "(II)I"⟩, prog_12_method_42_code, 3, (some FieldType.int), 10),
  (⟨"CardIndexModel", "mark", "(II)I"⟩, prog_12_method_43_code, 3, (some FieldType.int), 10),
  (⟨"CardIndexModel", "count", "(I)I"⟩, prog_12_method_44_code, 4, (some FieldType.int), 10),
  (⟨"CardIndexModel", "size", "(I)I"⟩, prog_12_method_46_code, 2, (some FieldType.int), 10),
  (⟨"CardIndexModel", "sizeOf", "(I)I"⟩, prog_12_method_45_code, 4, (some FieldType.int), 10),
  (⟨"CardIndexModel", "card", "(III)I"⟩, prog_12_method_50_code, 4, (some FieldType.int), 10),
  (⟨"CardIndexModel", "cardOf", "(III)I"⟩, prog_12_method_49_code, 5, (some FieldType.int), 10),
  (⟨"CardIndexModel", "keyOf", "(II)I"⟩, prog_12_method_48_code, 5, (some FieldType.int), 10),
  (⟨"CardIndexModel", "mapKey", "(II)I"⟩, prog_12_method_47_code, 10, (some FieldType.int), 10),
  (⟨"CardIndexModel", "asked", "()I"⟩, prog_12_method_51_code, 1, (some FieldType.int), 10),
  (⟨"CardIndexModel", "about", "(II)I"⟩, prog_12_method_52_code, 5, (some FieldType.int), 10),
  (⟨"CardIndexModel", "fits", "(I)I"⟩, prog_12_method_63_code, 2, (some FieldType.int), 10),
  (⟨"CardIndexModel", "fitsOf", "(I)I"⟩, prog_12_method_62_code, 3, (some FieldType.int), 10),
  (⟨"CardIndexModel", "search", "(II)I"⟩, prog_12_method_61_code, 5, (some FieldType.int), 10),
  (⟨"CardIndexModel", "take", "(I)V"⟩, prog_12_method_53_code, 4, (none), 10),
  (⟨"CardIndexModel", "plainEmpty", "()V"⟩, prog_12_method_54_code, 2, (none), 10),
  (⟨"CardIndexModel", "areAlike", "(I)Z"⟩, prog_12_method_59_code, 4, (some FieldType.boolean), 10),
  (⟨"CardIndexModel", "mayCome", "(III)Z"⟩, prog_12_method_60_code, 5, (some FieldType.boolean), 10),
  (⟨"CardIndexModel", "plain", "(II)Z"⟩, prog_12_method_58_code, 11, (some FieldType.boolean), 10)]
def sm_m5 : List sm_M := [(⟨"CardIndexModel", "gives", "(ZIII)Z"⟩, prog_12_method_55_code, 4, (some FieldType.boolean), 10),
  (⟨"CardIndexModel", "plainTake", "(Z)V"⟩, prog_12_method_57_code, 3, (none), 10),
  (⟨"CardIndexModel", "plainDeque", "(II)Z"⟩, prog_12_method_56_code, 7, (some FieldType.boolean), 10),
  (⟨"CardIndexModel", "order", "(II)I"⟩, prog_12_method_64_code, 3, (some FieldType.int), 10),
  (⟨"CardIndexModel", "tries", "()I"⟩, prog_12_method_65_code, 1, (some FieldType.int), 10),
  (⟨"CardIndexModel", "first", "()I"⟩, prog_12_method_66_code, 2, (some FieldType.int), 10),
  (⟨"CardIndexModel", "explore", "(I)I"⟩, prog_12_method_71_code, 7, (some FieldType.int), 10),
  (⟨"CardIndexModel", "ableMany", "()I"⟩, prog_12_method_67_code, 3, (some FieldType.int), 10),
  (⟨"CardIndexModel", "ableAt", "(I)I"⟩, prog_12_method_68_code, 4, (some FieldType.int), 10),
  (⟨"CardIndexModel", "weighs", "(I)V"⟩, prog_12_method_70_code, 6, (none), 10),
  (⟨"CardIndexModel", "differs", "(II)Z"⟩, prog_12_method_69_code, 4, (some FieldType.boolean), 10),
  (⟨"CardIndexModel", "explored", "(I)I"⟩, prog_12_method_72_code, 2, (some FieldType.int), 10),
  (⟨"CardIndexModel", "digest", "()J"⟩, prog_12_method_73_code, 6, (some FieldType.long), 10),
  (⟨"CardIndexModel", "clear", "()I"⟩, prog_12_method_74_code, 3, (some FieldType.int), 10),
  (⟨"CardIndexLaw", "law", "([I)Z"⟩, code, 4, (some FieldType.boolean), 11)]
def sm_ms : List sm_M := sm_m0 ++ sm_m1 ++ sm_m2 ++ sm_m3 ++ sm_m4 ++ sm_m5
/-- code, instanceMethod, static, selects, initialized: places among the words (99999: none) -/
def sm_pos : List (Nat × Nat × Nat × Nat × Nat) := [(94, 93, 99999, 99999, 76), (102, 101, 99999, 99999, 77), (111, 110, 99999, 99999, 78), (117, 116, 99999, 99999, 79), (148, 147, 99999, 99999, 80), (228, 227, 99999, 99999, 81), (237, 236, 99999, 99999, 82), (402, 401, 99999, 99999, 83), (441, 440, 99999, 99999, 84), (492, 491, 99999, 99999, 85), (524, 99999, 523, 99999, 86), (553, 551, 99999, 552, 76), (557, 555, 99999, 556, 77), (561, 559, 99999, 560, 78), (566, 564, 99999, 565, 76), (570, 568, 99999, 569, 77), (574, 572, 99999, 573, 76), (578, 576, 99999, 577, 77), (582, 580, 99999, 581, 77), (586, 584, 99999, 585, 78), (590, 588, 99999, 589, 81), (594, 592, 99999, 593, 76), (598, 596, 99999, 597, 76), (602, 600, 99999, 601, 77), (607, 605, 99999, 606, 76), (611, 609, 99999, 610, 76), (615, 613, 99999, 614, 83), (619, 617, 99999, 618, 77), (623, 621, 99999, 622, 78), (627, 625, 99999, 626, 79), (635, 633, 99999, 634, 80), (640, 639, 99999, 0, 77), (645, 643, 99999, 644, 78), (666, 664, 99999, 665, 78), (670, 668, 99999, 669, 82), (674, 673, 99999, 1, 83), (678, 677, 99999, 2, 83), (682, 680, 99999, 681, 81), (686, 684, 99999, 685, 82), (691, 689, 99999, 690, 82), (695, 693, 99999, 694, 78), (698, 99999, 697, 99999, 83), (702, 701, 99999, 3, 83), (706, 705, 99999, 4, 83), (710, 709, 99999, 5, 83), (714, 713, 99999, 6, 83), (718, 716, 99999, 717, 78), (722, 720, 99999, 721, 78), (726, 724, 99999, 725, 78), (730, 728, 99999, 729, 80), (734, 733, 99999, 7, 80), (738, 736, 99999, 737, 79), (742, 740, 99999, 741, 79), (746, 744, 99999, 745, 82), (750, 748, 99999, 749, 79), (754, 752, 99999, 753, 79), (758, 756, 99999, 757, 79), (763, 761, 99999, 762, 79), (768, 766, 99999, 767, 78), (772, 771, 99999, 8, 78), (778, 777, 99999, 9, 78), (782, 780, 99999, 781, 79), (786, 785, 99999, 10, 83), (790, 788, 99999, 789, 78), (794, 792, 99999, 793, 78), (798, 796, 99999, 797, 78), (802, 801, 99999, 11, 78), (806, 804, 99999, 805, 80), (810, 808, 99999, 809, 79), (814, 812, 99999, 813, 80), (818, 816, 99999, 817, 79), (822, 820, 99999, 821, 79), (826, 824, 99999, 825, 79), (830, 829, 99999, 12, 78), (834, 832, 99999, 833, 79), (838, 836, 99999, 837, 79), (842, 841, 99999, 13, 78), (846, 844, 99999, 845, 82), (850, 848, 99999, 849, 77), (854, 852, 99999, 853, 81), (859, 858, 99999, 14, 83), (863, 861, 99999, 862, 76), (867, 865, 99999, 866, 76), (871, 869, 99999, 870, 76), (875, 873, 99999, 874, 76), (879, 877, 99999, 878, 76), (883, 881, 99999, 882, 77), (887, 885, 99999, 886, 77), (891, 889, 99999, 890, 76), (895, 893, 99999, 894, 78), (898, 99999, 897, 99999, 89), (905, 903, 99999, 904, 76), (909, 907, 99999, 908, 78), (913, 911, 99999, 912, 80), (917, 916, 99999, 15, 80), (921, 919, 99999, 920, 78), (925, 923, 99999, 924, 78), (929, 927, 99999, 928, 79), (934, 932, 99999, 933, 76), (938, 936, 99999, 937, 76), (942, 940, 99999, 941, 78), (946, 944, 99999, 945, 78), (950, 948, 99999, 949, 78), (954, 952, 99999, 953, 80), (958, 956, 99999, 957, 76), (962, 961, 99999, 16, 76), (966, 964, 99999, 965, 84), (971, 970, 99999, 17, 84), (976, 974, 99999, 975, 82), (981, 980, 99999, 18, 84), (984, 99999, 983, 99999, 84), (988, 986, 99999, 987, 79), (992, 991, 99999, 19, 79), (998, 997, 99999, 20, 79), (1002, 1001, 99999, 21, 84), (1006, 1005, 99999, 22, 84), (1011, 99999, 1010, 99999, 84), (1015, 1014, 99999, 23, 84), (1018, 99999, 1017, 99999, 84), (1023, 1022, 99999, 24, 84), (1030, 1029, 99999, 25, 84), (1035, 1034, 99999, 26, 84), (1043, 1042, 99999, 27, 84), (1049, 1048, 99999, 28, 84), (1053, 1052, 99999, 29, 84), (1057, 1055, 99999, 1056, 76), (1061, 1059, 99999, 1060, 84), (1065, 1063, 99999, 1064, 76), (1069, 1067, 99999, 1068, 76), (1073, 1071, 99999, 1072, 76), (1077, 1075, 99999, 1076, 85), (1082, 1080, 99999, 1081, 85), (1087, 1085, 99999, 1086, 85), (1091, 1090, 99999, 30, 85), (1095, 1094, 99999, 31, 85), (1100, 1098, 99999, 1099, 85), (1104, 1102, 99999, 1103, 76), (1108, 1106, 99999, 1107, 76), (1113, 1111, 99999, 1112, 81), (1118, 1116, 99999, 1117, 78), (1126, 1124, 99999, 1125, 76), (1131, 1130, 99999, 99999, 87), (1363, 1361, 99999, 1362, 87), (1366, 99999, 1365, 99999, 87), (1370, 1368, 99999, 1369, 87), (1374, 1372, 99999, 1373, 87), (1378, 1377, 99999, 32, 87), (1381, 99999, 1380, 99999, 87), (1384, 99999, 1383, 99999, 87), (1388, 1386, 99999, 1387, 87), (1392, 1390, 99999, 1391, 87), (1396, 1395, 99999, 33, 87), (1400, 1398, 99999, 1399, 87), (1404, 1402, 99999, 1403, 87), (1408, 1407, 99999, 34, 87), (1412, 1411, 99999, 35, 87), (1416, 1415, 99999, 36, 87), (1420, 1419, 99999, 37, 87), (1424, 1423, 99999, 38, 87), (1428, 1427, 99999, 39, 87), (1432, 1431, 99999, 40, 87), (1436, 1435, 99999, 41, 87), (1440, 1439, 99999, 42, 87), (1444, 1443, 99999, 43, 87), (1448, 1447, 99999, 44, 87), (1452, 1451, 99999, 45, 87), (1456, 1455, 99999, 46, 87), (1460, 1459, 99999, 47, 87), (1464, 1463, 99999, 48, 87), (1468, 1467, 99999, 49, 87), (1472, 1471, 99999, 50, 87), (1476, 1475, 99999, 51, 87), (1480, 1479, 99999, 52, 87), (1484, 1483, 99999, 53, 87), (1488, 1487, 99999, 54, 87), (1491, 99999, 1490, 99999, 87), (1495, 1494, 99999, 55, 87), (1499, 1498, 99999, 56, 87), (1503, 1502, 99999, 57, 87), (1507, 1505, 99999, 1506, 87), (1511, 1509, 99999, 1510, 87), (1515, 1513, 99999, 1514, 87), (1519, 1517, 99999, 1518, 87), (1523, 1521, 99999, 1522, 87), (1527, 1525, 99999, 1526, 87), (1531, 1530, 99999, 58, 87), (1535, 1533, 99999, 1534, 87), (1539, 1538, 99999, 59, 87), (1543, 1542, 99999, 60, 87), (1547, 1546, 99999, 61, 87), (1551, 1549, 99999, 1550, 87), (1555, 1553, 99999, 1554, 87), (1559, 1557, 99999, 1558, 87), (1563, 1562, 99999, 62, 87), (1567, 1566, 99999, 63, 87), (1571, 1570, 99999, 64, 87), (1575, 1574, 99999, 65, 87), (1579, 1578, 99999, 66, 87), (1583, 1582, 99999, 67, 87), (1587, 1586, 99999, 68, 87), (1590, 99999, 1589, 99999, 87), (1594, 1593, 99999, 69, 87), (1598, 1597, 99999, 70, 87), (1602, 1600, 99999, 1601, 87), (1606, 1604, 99999, 1605, 87), (1610, 1608, 99999, 1609, 87), (1614, 1612, 99999, 1613, 87), (1618, 1617, 99999, 71, 87), (1622, 1621, 99999, 72, 87), (1626, 1625, 99999, 73, 87), (1630, 1629, 99999, 74, 87), (1635, 1633, 99999, 1634, 87), (1639, 1637, 99999, 1638, 87), (1645, 1643, 99999, 1644, 87)]
def sm_rf : List (List (Nat × Nat × Nat × Nat)) := [[(9, 0, 0, 241), (15, 0, 1, 245), (22, 0, 7, 266), (25, 0, 15, 291), (28, 0, 8, 269), (31, 0, 9, 273), (34, 0, 10, 276), (38, 0, 12, 281), (41, 0, 13, 285), (44, 0, 14, 288), (47, 0, 16, 297)], [(9, 1, 0, 119), (21, 1, 1, 120), (25, 1, 2, 123), (28, 1, 3, 124), (31, 1, 4, 127)], [(12, 2, 2, 448), (20, 2, 3, 449), (24, 2, 4, 450), (28, 2, 5, 451), (31, 2, 0, 446), (35, 2, 1, 447), (39, 2, 8, 454), (42, 4, 1, 378), (48, 3, 1, 349), (51, 2, 9, 455), (55, 6, 6, 418), (67, 4, 0, 374), (71, 8, 6, 190), (76, 2, 6, 452), (77, 8, 7, 193), (80, 2, 7, 453), (81, 8, 0, 181), (84, 2, 12, 460), (87, 2, 11, 458), (90, 2, 10, 457), (103, 6, 4, 413), (106, 6, 1, 406), (113, 0, 2, 249), (120, 0, 18, 305), (123, 0, 17, 303), (126, 0, 0, 242), (129, 0, 1, 246), (140, 1, 1, 121), (151, 0, 3, 254), (154, 0, 4, 258), (161, 0, 5, 261), (171, 1, 3, 125), (188, 0, 8, 270), (200, 0, 15, 295), (203, 0, 16, 300), (209, 1, 4, 128)], [(11, 3, 1, 348), (20, 3, 2, 353), (24, 3, 0, 346), (31, 3, 3, 355), (34, 0, 2, 248), (37, 0, 3, 252), (40, 0, 4, 256), (43, 0, 5, 260), (46, 0, 6, 263), (49, 3, 4, 359), (56, 0, 10, 277), (62, 0, 15, 292), (65, 0, 16, 298), (68, 0, 12, 282)], [(11, 4, 0, 373), (19, 4, 1, 377), (27, 4, 2, 382), (31, 4, 3, 386), (38, 3, 3, 356), (52, 3, 4, 360), (55, 3, 1, 352), (63, 0, 2, 251), (71, 0, 3, 255), (85, 0, 10, 279), (89, 0, 9, 275)], [(9, 5, 3, 497), (15, 5, 4, 499), (18, 5, 5, 501), (21, 5, 0, 494), (25, 5, 1, 495), (29, 5, 2, 496), (39, 5, 6, 502), (43, 5, 7, 503), (46, 6, 6, 420), (51, 4, 2, 384), (62, 4, 3, 388), (65, 4, 1, 381), (69, 3, 3, 358), (74, 3, 1, 350), (78, 0, 15, 293), (83, 0, 16, 299), (90, 6, 5, 416), (93, 6, 2, 409), (96, 6, 3, 411)], [(9, 6, 1, 405), (15, 6, 2, 408), (18, 6, 3, 410), (21, 6, 0, 404), (30, 6, 4, 412), (42, 4, 1, 379), (50, 6, 5, 415), (57, 6, 6, 419), (60, 4, 3, 387), (73, 0, 10, 278), (79, 0, 6, 264), (82, 0, 11, 280), (89, 0, 2, 250), (96, 4, 0, 376), (100, 3, 0, 347), (112, 0, 15, 294), (115, 0, 17, 304), (130, 0, 9, 274), (133, 0, 7, 267), (136, 0, 14, 289), (157, 0, 4, 259), (174, 0, 12, 283), (177, 0, 8, 271), (180, 0, 13, 286), (183, 0, 16, 302), (186, 0, 18, 306), (189, 3, 4, 361), (192, 0, 0, 244), (195, 0, 1, 247)], [(9, 7, 0, 150), (15, 7, 1, 151), (18, 7, 2, 152), (27, 7, 3, 153), (31, 7, 4, 154), (34, 7, 5, 155), (38, 7, 6, 156), (41, 7, 7, 157), (44, 7, 8, 159)], [(12, 8, 0, 180), (20, 8, 1, 183), (24, 8, 2, 184), (28, 8, 3, 185), (31, 8, 4, 187), (34, 8, 5, 188), (38, 8, 6, 189), (42, 8, 7, 192), (45, 8, 8, 194), (57, 8, 9, 195), (60, 8, 10, 196), (63, 8, 11, 198), (100, 0, 4, 257), (105, 0, 3, 253), (108, 0, 0, 243), (126, 0, 14, 290), (129, 1, 3, 126), (139, 0, 8, 272), (145, 3, 2, 354), (161, 0, 13, 287), (167, 0, 7, 268), (173, 1, 4, 129), (194, 0, 5, 262), (216, 1, 1, 122), (245, 7, 7, 158), (248, 7, 8, 160)], [(10, 9, 0, 525), (21, 9, 1, 526), (30, 9, 2, 527), (39, 9, 3, 528), (43, 9, 4, 529), (53, 4, 2, 383), (57, 9, 5, 530), (65, 4, 3, 385), (79, 4, 0, 375), (89, 4, 1, 380), (93, 3, 3, 357), (105, 3, 1, 351), (109, 0, 6, 265), (114, 8, 6, 191), (117, 8, 3, 186), (124, 6, 6, 421), (127, 0, 16, 301), (130, 0, 15, 296), (133, 0, 12, 284), (136, 6, 4, 414), (139, 6, 1, 407), (145, 6, 5, 417), (164, 9, 7, 532), (176, 8, 0, 182), (180, 1, 4, 130), (185, 8, 10, 197), (188, 8, 11, 199), (194, 2, 9, 456), (198, 9, 6, 531), (201, 5, 7, 504), (207, 5, 3, 498), (224, 5, 4, 500), (240, 2, 11, 459)], [(7, 10, 1, 1134), (13, 10, 2, 1135), (16, 10, 3, 1136), (19, 10, 5, 1138), (22, 10, 6, 1139), (25, 10, 7, 1140), (28, 10, 8, 1141), (31, 10, 9, 1142), (34, 10, 10, 1143), (37, 10, 11, 1144), (40, 10, 12, 1145), (43, 10, 17, 1150), (46, 10, 18, 1151), (50, 10, 19, 1152), (53, 10, 20, 1153), (56, 10, 21, 1154), (59, 10, 22, 1155), (62, 10, 23, 1156), (65, 10, 24, 1157), (68, 10, 25, 1158), (71, 10, 26, 1159), (74, 10, 27, 1160), (77, 10, 28, 1161), (80, 10, 29, 1162), (83, 10, 30, 1163), (86, 10, 31, 1164), (89, 10, 32, 1165), (92, 10, 33, 1166), (95, 10, 34, 1167), (98, 10, 35, 1168), (101, 10, 36, 1169), (104, 10, 37, 1170), (107, 10, 38, 1171), (110, 10, 39, 1172), (113, 10, 40, 1173), (116, 10, 41, 1174), (119, 10, 43, 1176), (122, 10, 44, 1177), (125, 10, 45, 1178), (128, 10, 46, 1179), (131, 10, 47, 1180), (134, 10, 48, 1181), (137, 10, 49, 1182), (140, 10, 50, 1183), (143, 10, 51, 1184), (146, 10, 52, 1185), (149, 10, 53, 1186), (152, 10, 54, 1187), (155, 10, 55, 1188), (158, 10, 58, 1191), (161, 10, 59, 1192), (164, 10, 61, 1194), (167, 10, 62, 1195), (170, 10, 63, 1196), (173, 10, 65, 1198), (176, 10, 66, 1199), (179, 10, 67, 1200), (182, 10, 70, 1203), (185, 10, 71, 1204), (188, 10, 72, 1205), (191, 10, 73, 1206), (194, 10, 0, 1133), (202, 10, 4, 1137), (205, 10, 13, 1146), (224, 10, 42, 1175), (246, 10, 15, 1148), (249, 10, 16, 1149), (317, 10, 14, 1147), (332, 10, 56, 1189), (335, 10, 60, 1193), (338, 10, 68, 1201), (341, 10, 69, 1202), (364, 10, 64, 1197), (376, 10, 57, 1190), (385, 10, 74, 1207)], [], [], []]
def sm_rm : List (List (Nat × Nat × Nat × Nat)) := [[(3, 9999, 238, 0)], [(3, 9999, 118, 0), (15, 10, 628, 0), (34, 9998, 764, 0), (40, 51, 759, 0), (44, 112, 989, 0), (48, 55, 994, 0), (52, 113, 995, 0), (55, 97, 993, 0)], [(3, 9999, 442, 0), (11, 3, 444, 1), (60, 18, 967, 0), (64, 107, 968, 0), (93, 29, 977, 0), (96, 109, 978, 0), (99, 110, 982, 0), (109, 23, 972, 0), (116, 108, 973, 0), (132, 111, 985, 0), (136, 114, 999, 0), (143, 121, 1032, 0), (147, 123, 1046, 0), (157, 115, 1003, 0), (164, 116, 1009, 0), (168, 117, 1012, 0), (174, 54, 1019, 0), (178, 118, 1016, 0), (182, 119, 1020, 0), (185, 55, 1025, 0), (191, 52, 1008, 0), (194, 56, 1026, 0), (197, 120, 1027, 0), (206, 51, 1007, 0), (212, 61, 1024, 0), (215, 77, 1031, 0), (218, 70, 1036, 0), (222, 68, 1037, 0), (226, 71, 1038, 0), (229, 72, 1039, 0), (232, 122, 1040, 0), (235, 74, 1044, 0), (238, 75, 1045, 0), (241, 124, 1050, 0)], [(3, 9999, 229, 0), (19, 3, 233, 1), (28, 6, 235, 0), (52, 37, 855, 0)], [(3, 9999, 103, 0), (23, 2, 109, 0), (24, 5, 226, 0), (34, 17, 603, 0), (41, 13, 558, 0), (45, 79, 851, 0), (49, 28, 620, 0), (59, 31, 637, 0), (68, 18, 641, 0), (74, 32, 642, 0), (78, 33, 663, 0), (82, 34, 667, 0)], [(3, 9999, 493, 0), (33, 10, 1078, 0), (56, 106, 1083, 0), (86, 133, 1088, 0), (99, 9998, 1096, 0)], [(3, 9999, 403, 0), (25, 27, 616, 0), (34, 35, 671, 0), (38, 41, 696, 0), (46, 42, 699, 0), (53, 80, 856, 0), (63, 36, 675, 0), (67, 37, 679, 0), (85, 38, 683, 0), (92, 18, 687, 0), (103, 39, 688, 0), (106, 40, 692, 0), (118, 43, 703, 0), (122, 44, 707, 0), (126, 45, 711, 0), (139, 46, 715, 0), (143, 47, 719, 0), (146, 48, 723, 0), (150, 58, 765, 0), (154, 62, 783, 0), (160, 63, 787, 0), (164, 64, 791, 0), (168, 65, 795, 0), (171, 78, 847, 0)], [(3, 9999, 149, 0), (21, 10, 636, 0), (47, 50, 731, 0), (50, 94, 914, 0)], [(3, 9999, 112, 0), (11, 3, 115, 1), (37, 4, 146, 1), (48, 10, 562, 0), (54, 29, 624, 0), (66, 9998, 629, 0), (72, 30, 632, 0), (111, 49, 727, 0), (114, 51, 735, 0), (118, 52, 739, 0), (122, 53, 743, 0), (132, 54, 747, 0), (136, 55, 751, 0), (142, 56, 755, 0), (150, 57, 760, 0), (154, 59, 769, 0), (158, 60, 775, 0), (170, 61, 779, 0), (176, 66, 799, 0), (180, 71, 819, 0), (184, 72, 823, 0), (187, 73, 827, 0), (190, 70, 815, 0), (197, 68, 807, 0), (200, 76, 839, 0), (203, 67, 803, 0), (204, 69, 811, 0), (207, 74, 831, 0), (210, 75, 835, 0), (213, 77, 843, 0), (219, 90, 896, 0), (224, 93, 910, 0), (228, 97, 926, 0), (231, 95, 930, 0), (234, 89, 1119, 0), (239, 92, 1121, 0), (242, 96, 1122, 0), (251, 103, 951, 0)], [(1, 9999, 95, 0), (9, 1, 100, 0), (18, 7, 400, 0), (27, 8, 439, 0), (36, 9, 490, 0), (47, 10, 522, 0), (61, 12, 554, 0), (68, 15, 567, 0), (72, 17, 575, 0), (76, 18, 579, 0), (83, 19, 583, 0), (98, 20, 587, 0), (102, 23, 599, 0), (120, 26, 612, 0), (142, 86, 880, 0), (148, 87, 884, 0), (151, 89, 892, 0), (154, 92, 906, 0), (157, 95, 918, 0), (161, 96, 922, 0), (167, 100, 939, 0), (170, 101, 943, 0), (173, 102, 947, 0), (191, 105, 959, 0), (195, 126, 1058, 0), (204, 130, 1074, 0), (210, 131, 1079, 0), (213, 132, 1084, 0), (216, 134, 1092, 1), (220, 135, 1097, 0), (229, 138, 1110, 0), (233, 139, 1115, 0), (236, 106, 963, 0)], [(1, 9999, 1132, 0), (198, 143, 1364, 0), (209, 146, 1375, 0), (213, 147, 1379, 0), (217, 148, 1382, 0), (221, 151, 1393, 0), (227, 163, 1441, 0), (231, 164, 1445, 0), (235, 166, 1453, 0), (239, 165, 1449, 0), (243, 171, 1473, 0), (252, 157, 1417, 0), (256, 162, 1437, 0), (260, 168, 1461, 0), (262, 170, 1469, 0), (266, 172, 1477, 0), (269, 173, 1481, 0), (273, 174, 1485, 0), (276, 175, 1489, 0), (279, 160, 1429, 0), (283, 159, 1425, 0), (286, 161, 1433, 0), (289, 167, 1457, 0), (292, 169, 1465, 0), (295, 176, 1492, 0), (298, 177, 1496, 0), (301, 156, 1413, 0), (304, 155, 1409, 0), (308, 154, 1405, 0), (311, 158, 1421, 0), (314, 178, 1500, 0), (320, 185, 1528, 0), (323, 189, 1544, 0), (326, 188, 1540, 0), (329, 187, 1536, 0), (344, 201, 1591, 0), (348, 200, 1588, 0), (352, 202, 1595, 0), (355, 196, 1572, 0), (358, 199, 1584, 0), (361, 195, 1568, 0), (367, 197, 1576, 0), (370, 198, 1580, 0), (373, 194, 1564, 0), (379, 193, 1560, 0), (382, 210, 1627, 0), (388, 207, 1615, 0), (391, 208, 1619, 0), (394, 209, 1623, 0), (397, 153, 1631, 0), (404, 183, 1646, 0)], [(9, 0, 92, 0), (12, 141, 1129, 0), (13, 11, 550, 0), (17, 142, 1360, 0), (18, 14, 563, 0), (22, 144, 1367, 0), (23, 16, 571, 0), (27, 145, 1371, 0), (28, 21, 591, 0), (32, 149, 1385, 0), (33, 22, 595, 0), (36, 150, 1389, 0), (37, 24, 604, 0), (40, 152, 1397, 0), (41, 25, 608, 0), (44, 153, 1401, 0), (45, 81, 860, 0), (48, 179, 1504, 0), (49, 82, 864, 0), (52, 180, 1508, 0), (53, 83, 868, 0), (56, 181, 1512, 0), (57, 84, 872, 0), (60, 182, 1516, 0), (61, 85, 876, 0), (65, 183, 1520, 0), (66, 88, 888, 0), (69, 184, 1524, 0), (70, 91, 902, 0), (73, 186, 1532, 0), (74, 98, 931, 0), (77, 190, 1548, 0), (78, 99, 935, 0), (81, 191, 1552, 0), (82, 104, 955, 0), (85, 192, 1556, 0), (86, 125, 1054, 0), (89, 203, 1599, 0), (90, 127, 1062, 0), (93, 204, 1603, 0), (94, 128, 1066, 0), (97, 205, 1607, 0), (98, 129, 1070, 0), (101, 206, 1611, 0), (102, 136, 1101, 0), (105, 211, 1632, 0), (106, 137, 1105, 0), (110, 212, 1636, 0), (111, 140, 1123, 0), (114, 213, 1642, 0)], [], []]
def sm_rc : List (List (Nat × Nat × Nat)) := [[], [], [(9, 1, 443), (18, 0, 445)], [(9, 0, 230), (17, 1, 232)], [(9, 8, 104), (17, 3, 106)], [], [], [], [(9, 1, 113), (18, 7, 143)], [(7, 4, 98), (16, 6, 398), (25, 2, 437), (34, 5, 488)], [], [(7, 9, 90), (10, 10, 1127)], [], []]
def sm_rk : List (List (Nat × Int × Nat)) := [[], [], [], [], [], [], [], [], [], [], [], [], [], [(265, 1431655765, 899), (266, 858993459, 900), (267, 252645135, 901)]]
def sm_rl : List (List (Nat × Int × Nat)) := [[], [], [], [(60, 31, 1114)], [], [], [], [], [(237, 31, 1120)], [(227, 7, 1109)], [(400, 7, 1640), (402, 31, 1641)], [], [], []]
def sm_rs : List (List (Nat × Nat × Nat × Nat)) := [[(18, 0, 239, 1)], [], [], [], [], [], [], [], [(73, 1, 646, 1), (76, 2, 648, 1), (79, 3, 650, 1), (82, 4, 652, 1), (85, 5, 654, 1), (88, 6, 656, 1), (91, 0, 658, 1), (94, 7, 659, 1), (97, 8, 661, 1), (164, 9, 773, 1)], [], [], [], [], []]
def sm_at {α : Type} (l : List (List (Nat × α))) (own k : Nat) : Option α := match l[own]? with
  | some t => t.lookup k
  | none => none
abbrev sm_sn : List String := ["READS_ALONE", "READS", "CHANGES_EARLY", "CHANGES", "LOOKS_EARLY", "LOOKS", "SUMS", "MAKES_EARLY", "MAKES", "FINDS"]
abbrev Smi : Type := Nat × List Int × Nat
def sm_c0 : List (Nat × Smi) := [(0, 2, [0, 2], 1), (1, 42, [], 4), (4, 2, [0, 2], 5), (5, 29, [4], 8), (8, 25, [], 9), (9, 20, [1, 0], 12), (12, 10, [9, 0], 15), (15, 2, [0, 2], 16), (16, 29, [6], 19), (19, 25, [], 20), (20, 2, [0, 2], 21), (21, 9, [9, 0], 24), (24, 20, [7, 1], 27), (27, 10, [9, 1], 30), (30, 2, [0, 2], 31), (31, 29, [2], 34), (34, 25, [], 35), (35, 2, [0, 2], 36), (36, 9, [9, 0], 39), (39, 2, [0, 2], 40), (40, 9, [9, 1], 43), (43, 20, [8, 2], 46), (46, 10, [9, 2], 49), (49, 2, [0, 2], 50), (50, 29, [5], 53), (53, 25, [], 54), (54, 2, [0, 2], 55), (55, 9, [9, 0], 58), (58, 2, [0, 2], 59), (59, 9, [9, 1], 62), (62, 2, [0, 2], 63), (63, 9, [9, 2], 66), (66, 20, [9, 3], 69), (69, 10, [9, 3], 72), (72, 2, [0, 2], 73), (73, 1, [600], 76), (76, 30, [20], 78), (78, 10, [9, 4], 81), (81, 2, [0, 2], 82), (82, 9, [9, 4], 85), (85, 1, [-1], 86), (86, 19, [10, 2], 89), (89, 21, [], 90)]
def sm_c1 : List (Nat × Smi) := [(0, 2, [0, 2], 1), (1, 42, [], 4), (4, 2, [0, 2], 5), (5, 1, [6], 7), (7, 31, [8], 10), (10, 10, [4, 0], 13), (13, 2, [0, 2], 14), (14, 1, [5], 15), (15, 31, [3], 18), (18, 10, [4, 1], 21), (21, 1, [0], 22), (22, 3, [1, 0], 23), (23, 2, [1, 0], 24), (24, 1, [6], 26), (26, 7, [3, 48], 29), (29, 2, [0, 2], 30), (30, 9, [4, 0], 33), (33, 2, [1, 0], 34), (34, 29, [8], 37), (37, 25, [], 38), (38, 20, [2, 0], 41), (41, 16, [], 42), (42, 4, [1, 1], 45), (45, 8, [23], 48), (48, 1, [0], 49), (49, 3, [1, 0], 50), (50, 2, [1, 0], 51), (51, 1, [5], 52), (52, 7, [3, 75], 55), (55, 2, [0, 2], 56), (56, 9, [4, 1], 59), (59, 2, [1, 0], 60), (60, 29, [3], 63), (63, 25, [], 64), (64, 2, [1, 0], 65), (65, 20, [5, 1], 68), (68, 16, [], 69), (69, 4, [1, 1], 72), (72, 8, [50], 75), (75, 21, [], 76)]
def sm_c2 : List (Nat × Smi) := [(0, 2, [0, 2], 1), (1, 42, [], 4), (4, 2, [0, 2], 5), (5, 29, [1], 8), (8, 25, [], 9), (9, 20, [3, 0], 12), (12, 10, [8, 0], 15), (15, 2, [0, 2], 16), (16, 1, [4], 17), (17, 31, [7], 20), (20, 10, [8, 1], 23), (23, 2, [0, 2], 24), (24, 1, [4], 25), (25, 30, [20], 27), (27, 10, [8, 2], 30), (30, 2, [0, 2], 31), (31, 1, [32], 33), (33, 30, [20], 35), (35, 10, [8, 3], 38), (38, 2, [0, 2], 39), (39, 1, [32], 41), (41, 30, [20], 43), (43, 10, [8, 4], 46), (46, 2, [0, 2], 47), (47, 1, [32], 49), (49, 30, [20], 51), (51, 10, [8, 5], 54), (54, 1, [0], 55), (55, 3, [1, 0], 56), (56, 2, [1, 0], 57), (57, 1, [4], 58), (58, 7, [3, 80], 61), (61, 2, [0, 2], 62), (62, 9, [8, 1], 65), (65, 2, [1, 0], 66), (66, 29, [7], 69), (69, 25, [], 70), (70, 20, [4, 0], 73), (73, 16, [], 74), (74, 4, [1, 1], 77), (77, 8, [56], 80), (80, 21, [], 81)]
def sm_c3 : List (Nat × Smi) := [(0, 2, [0, 2], 1), (1, 42, [], 4), (4, 2, [0, 2], 5), (5, 1, [64], 7), (7, 30, [20], 9), (9, 10, [1, 0], 12), (12, 21, [], 13)]
def sm_c4 : List (Nat × Smi) := [(0, 2, [0, 2], 1), (1, 42, [], 4), (4, 2, [0, 2], 5), (5, 1, [8], 7), (7, 30, [20], 9), (9, 10, [7, 0], 12), (12, 2, [0, 2], 13), (13, 1, [8], 15), (15, 30, [20], 17), (17, 10, [7, 1], 20), (20, 2, [0, 2], 21), (21, 1, [8], 23), (23, 30, [20], 25), (25, 10, [7, 2], 28), (28, 21, [], 29)]
def sm_c5 : List (Nat × Smi) := [(0, 2, [0, 2], 1), (1, 42, [], 4), (4, 2, [0, 2], 5), (5, 1, [8], 7), (7, 31, [0], 10), (10, 10, [3, 1], 13), (13, 2, [0, 2], 14), (14, 29, [1], 17), (17, 25, [], 18), (18, 20, [3, 0], 21), (21, 10, [3, 2], 24), (24, 2, [0, 2], 25), (25, 2, [1, 0], 26), (26, 10, [3, 0], 29), (29, 1, [0], 30), (30, 3, [2, 0], 31), (31, 2, [2, 0], 32), (32, 1, [8], 34), (34, 7, [3, 58], 37), (37, 2, [0, 2], 38), (38, 9, [3, 1], 41), (41, 2, [2, 0], 42), (42, 29, [0], 45), (45, 25, [], 46), (46, 2, [1, 0], 47), (47, 2, [2, 0], 48), (48, 20, [6, 2], 51), (51, 16, [], 52), (52, 4, [2, 1], 55), (55, 8, [31], 58), (58, 21, [], 59)]
def sm_c6 : List (Nat × Smi) := [(0, 2, [0, 2], 1), (1, 42, [], 4), (4, 2, [0, 2], 5), (5, 2, [1, 0], 6), (6, 10, [0, 0], 9), (9, 2, [0, 2], 10), (10, 2, [2, 0], 11), (11, 10, [0, 1], 14), (14, 2, [0, 2], 15), (15, 32, [0], 18), (18, 10, [0, 7], 21), (21, 2, [0, 2], 22), (22, 1, [6], 24), (24, 10, [0, 15], 27), (27, 21, [], 28)]
def sm_c7 : List (Nat × Smi) := [(0, 2, [0, 2], 1), (1, 42, [], 4), (4, 2, [0, 2], 5), (5, 1, [320], 8), (8, 30, [20], 10), (10, 10, [6, 1], 13), (13, 2, [0, 2], 14), (14, 1, [600], 17), (17, 30, [20], 19), (19, 10, [6, 2], 22), (22, 2, [0, 2], 23), (23, 1, [600], 26), (26, 30, [20], 28), (28, 10, [6, 3], 31), (31, 2, [0, 2], 32), (32, 2, [1, 2], 33), (33, 10, [6, 0], 36), (36, 21, [], 37)]
def sm_c8 : List (Nat × Smi) := [(0, 2, [0, 2], 1), (1, 42, [], 4), (4, 2, [0, 2], 5), (5, 29, [1], 8), (8, 25, [], 9), (9, 20, [3, 0], 12), (12, 10, [2, 2], 15), (15, 2, [0, 2], 16), (16, 1, [12], 18), (18, 31, [0], 21), (21, 10, [2, 3], 24), (24, 2, [0, 2], 25), (25, 1, [12], 27), (27, 30, [20], 29), (29, 10, [2, 4], 32), (32, 2, [0, 2], 33), (33, 1, [12], 35), (35, 30, [20], 37), (37, 10, [2, 5], 40), (40, 2, [0, 2], 41), (41, 2, [1, 2], 42), (42, 10, [2, 0], 45), (45, 2, [0, 2], 46), (46, 2, [2, 2], 47), (47, 10, [2, 1], 50), (50, 2, [0, 2], 51), (51, 2, [0, 2], 52), (52, 9, [2, 2], 55), (55, 10, [2, 8], 58), (58, 1, [0], 59), (59, 3, [3, 0], 60), (60, 2, [3, 0], 61), (61, 1, [12], 63), (63, 7, [3, 89], 66), (66, 2, [0, 2], 67), (67, 9, [2, 3], 70), (70, 2, [3, 0], 71), (71, 2, [1, 2], 72), (72, 9, [4, 1], 75), (75, 1, [0], 76), (76, 15, [], 77), (77, 9, [3, 1], 80), (80, 1, [0], 81), (81, 15, [], 82), (82, 16, [], 83), (83, 4, [3, 1], 86), (86, 8, [60], 89), (89, 21, [], 90)]
def sm_c9 : List (Nat × Smi) := [(0, 2, [0, 2], 1), (1, 42, [], 4), (4, 2, [0, 2], 5), (5, 1, [600], 8), (8, 30, [20], 10), (10, 10, [5, 3], 13), (13, 2, [0, 2], 14), (14, 1, [5], 15), (15, 30, [20], 17), (17, 10, [5, 4], 20), (20, 2, [0, 2], 21), (21, 1, [4800], 24), (24, 30, [20], 26), (26, 10, [5, 5], 29), (29, 2, [0, 2], 30), (30, 2, [1, 2], 31), (31, 10, [5, 0], 34), (34, 2, [0, 2], 35), (35, 2, [2, 2], 36), (36, 10, [5, 1], 39), (39, 2, [0, 2], 40), (40, 2, [3, 2], 41), (41, 10, [5, 2], 44), (44, 21, [], 45)]
def sm_c10 : List (Nat × Smi) := [(0, 1, [0], 1), (1, 3, [2, 0], 2), (2, 2, [0, 2], 3), (3, 17, [], 4), (4, 3, [3, 0], 5), (5, 2, [2, 0], 6), (6, 2, [3, 0], 7), (7, 7, [3, 20], 10), (10, 2, [0, 2], 11), (11, 2, [2, 0], 12), (12, 2, [1, 0], 13), (13, 12, [], 14), (14, 4, [2, 1], 17), (17, 8, [5], 20), (20, 21, [], 21)]
def sm_c11 : List (Nat × Smi) := [(0, 2, [1, 0], 1), (1, 6, [2, 18], 4), (4, 2, [1, 0], 5), (5, 1, [5], 6), (6, 7, [4, 18], 9), (9, 2, [3, 0], 10), (10, 6, [2, 18], 13), (13, 2, [3, 0], 14), (14, 1, [2], 15), (15, 7, [5, 21], 18), (18, 1, [-2], 20), (20, 22, [0], 21), (21, 2, [1, 0], 22), (22, 1, [2], 23), (23, 7, [1, 40], 26), (26, 2, [2, 0], 27), (27, 1, [1], 28), (28, 7, [2, 37], 31), (31, 2, [2, 0], 32), (32, 1, [8], 34), (34, 7, [5, 40], 37), (37, 1, [-2], 39), (39, 22, [0], 40), (40, 2, [0, 2], 41), (41, 9, [9, 0], 44), (44, 9, [4, 2], 47), (47, 1, [6], 49), (49, 7, [2, 55], 52), (52, 1, [-4], 54), (54, 22, [0], 55), (55, 2, [0, 2], 56), (56, 1, [0], 57), (57, 10, [9, 5], 60), (60, 2, [0, 2], 61), (61, 9, [9, 0], 64), (64, 2, [1, 0], 65), (65, 2, [2, 0], 66), (66, 2, [3, 0], 67), (67, 18, [12, 3], 70), (70, 22, [0], 71)]
def sm_c12 : List (Nat × Smi) := [(0, 2, [0, 2], 1), (1, 9, [4, 2], 4), (4, 1, [6], 6), (6, 7, [2, 12], 9), (9, 1, [-4], 11), (11, 22, [0], 12), (12, 2, [0, 2], 13), (13, 9, [4, 0], 16), (16, 2, [0, 2], 17), (17, 9, [4, 2], 20), (20, 15, [], 21), (21, 2, [1, 0], 22), (22, 2, [2, 0], 23), (23, 2, [3, 0], 24), (24, 18, [13, 3], 27), (27, 2, [0, 2], 28), (28, 25, [], 29), (29, 9, [4, 2], 32), (32, 1, [1], 33), (33, 5, [0], 34), (34, 10, [4, 2], 37), (37, 2, [0, 2], 38), (38, 9, [4, 2], 41), (41, 1, [1], 42), (42, 5, [1], 43), (43, 22, [0], 44)]
def sm_c13 : List (Nat × Smi) := [(0, 2, [0, 2], 1), (1, 2, [1, 0], 2), (2, 10, [8, 6], 5), (5, 2, [0, 2], 6), (6, 2, [2, 0], 7), (7, 10, [8, 7], 10), (10, 2, [0, 2], 11), (11, 2, [3, 0], 12), (12, 10, [8, 8], 15), (15, 2, [0, 2], 16), (16, 9, [8, 3], 19), (19, 1, [0], 20), (20, 19, [10, 2], 23), (23, 21, [], 24)]
def sm_c14 : List (Nat × Smi) := [(0, 2, [0, 2], 1), (1, 9, [9, 0], 4), (4, 9, [4, 3], 7), (7, 1, [5], 8), (8, 7, [2, 14], 11), (11, 1, [-4], 13), (13, 22, [0], 14), (14, 2, [0, 2], 15), (15, 1, [0], 16), (16, 10, [9, 5], 19), (19, 2, [0, 2], 20), (20, 9, [9, 0], 23), (23, 18, [15, 0], 26), (26, 22, [0], 27)]
def sm_c15 : List (Nat × Smi) := [(0, 2, [0, 2], 1), (1, 9, [4, 3], 4), (4, 1, [5], 5), (5, 7, [2, 11], 8), (8, 1, [-4], 10), (10, 22, [0], 11), (11, 2, [0, 2], 12), (12, 9, [4, 1], 15), (15, 2, [0, 2], 16), (16, 9, [4, 3], 19), (19, 15, [], 20), (20, 1, [0], 21), (21, 10, [3, 3], 24), (24, 2, [0, 2], 25), (25, 25, [], 26), (26, 9, [4, 3], 29), (29, 1, [1], 30), (30, 5, [0], 31), (31, 10, [4, 3], 34), (34, 2, [0, 2], 35), (35, 9, [4, 3], 38), (38, 1, [1], 39), (39, 5, [1], 40), (40, 22, [0], 41)]
def sm_c16 : List (Nat × Smi) := [(0, 2, [0, 2], 1), (1, 9, [9, 0], 4), (4, 2, [1, 0], 5), (5, 18, [17, 1], 8), (8, 6, [0, 22], 11), (11, 2, [0, 2], 12), (12, 9, [9, 0], 15), (15, 2, [2, 0], 16), (16, 18, [18, 1], 19), (19, 6, [1, 25], 22), (22, 1, [-2], 24), (24, 22, [0], 25), (25, 2, [0, 2], 26), (26, 9, [9, 0], 29), (29, 9, [4, 0], 32), (32, 2, [2, 0], 33), (33, 15, [], 34), (34, 2, [3, 0], 35), (35, 2, [4, 0], 37), (37, 18, [19, 2], 40), (40, 6, [1, 46], 43), (43, 1, [-2], 45), (45, 22, [0], 46), (46, 2, [0, 2], 47), (47, 9, [9, 0], 50), (50, 9, [4, 1], 53), (53, 2, [1, 0], 54), (54, 15, [], 55), (55, 9, [3, 3], 58), (58, 1, [8], 60), (60, 7, [2, 66], 63), (63, 1, [-4], 65), (65, 22, [0], 66), (66, 2, [0, 2], 67), (67, 1, [0], 68), (68, 10, [9, 5], 71), (71, 2, [0, 2], 72), (72, 9, [9, 0], 75), (75, 9, [4, 1], 78), (78, 2, [1, 0], 79), (79, 15, [], 80), (80, 2, [2, 0], 81), (81, 2, [3, 0], 82), (82, 2, [4, 0], 84), (84, 2, [5, 0], 86), (86, 18, [20, 4], 89), (89, 22, [0], 90)]
def sm_c17 : List (Nat × Smi) := [(0, 2, [1, 0], 1), (1, 6, [2, 21], 4), (4, 2, [1, 0], 5), (5, 2, [0, 2], 6), (6, 9, [4, 3], 9), (9, 7, [3, 21], 12), (12, 2, [1, 0], 13), (13, 1, [5], 14), (14, 7, [3, 21], 17), (17, 1, [1], 18), (18, 8, [22], 21), (21, 1, [0], 22), (22, 22, [1], 23)]
def sm_c18 : List (Nat × Smi) := [(0, 2, [1, 0], 1), (1, 6, [2, 22], 4), (4, 2, [1, 0], 5), (5, 2, [0, 2], 6), (6, 9, [4, 2], 9), (9, 7, [3, 22], 12), (12, 2, [1, 0], 13), (13, 1, [6], 15), (15, 7, [3, 22], 18), (18, 1, [1], 19), (19, 8, [23], 22), (22, 1, [0], 23), (23, 22, [1], 24)]
def sm_c19 : List (Nat × Smi) := [(0, 2, [0, 2], 1), (1, 9, [8, 6], 4), (4, 1, [2], 5), (5, 7, [1, 12], 8), (8, 1, [5], 9), (9, 8, [45], 12), (12, 2, [0, 2], 13), (13, 9, [8, 6], 16), (16, 1, [5], 17), (17, 7, [1, 24], 20), (20, 1, [1], 21), (21, 8, [45], 24), (24, 2, [0, 2], 25), (25, 9, [8, 6], 28), (28, 1, [1], 29), (29, 7, [0, 40], 32), (32, 2, [0, 2], 33), (33, 9, [8, 6], 36), (36, 1, [3], 37), (37, 7, [1, 44], 40), (40, 1, [2], 41), (41, 8, [45], 44), (44, 1, [4], 45), (45, 3, [3, 0], 46), (46, 2, [1, 0], 47), (47, 6, [2, 55], 50), (50, 2, [1, 0], 51), (51, 2, [3, 0], 52), (52, 7, [2, 57], 55), (55, 1, [0], 56), (56, 22, [1], 57), (57, 2, [0, 2], 58), (58, 9, [8, 6], 61), (61, 6, [0, 85], 64), (64, 2, [0, 2], 65), (65, 9, [8, 6], 68), (68, 1, [5], 69), (69, 7, [0, 85], 72), (72, 2, [0, 2], 73), (73, 9, [8, 6], 76), (76, 1, [4], 77), (77, 7, [1, 89], 80), (80, 2, [1, 0], 81), (81, 1, [3], 82), (82, 7, [0, 89], 85), (85, 1, [1], 86), (86, 8, [90], 89), (89, 1, [0], 90), (90, 3, [4, 0], 92), (92, 2, [4, 0], 94), (94, 6, [0, 107], 97), (97, 2, [2, 0], 98), (98, 6, [2, 111], 101), (101, 2, [2, 0], 102), (102, 1, [32], 104), (104, 7, [3, 111], 107), (107, 1, [1], 108), (108, 8, [112], 111), (111, 1, [0], 112), (112, 22, [1], 113)]
def sm_c20 : List (Nat × Smi) := [(0, 2, [0, 2], 1), (1, 9, [3, 3], 4), (4, 1, [8], 6), (6, 7, [2, 12], 9), (9, 1, [-4], 11), (11, 22, [0], 12), (12, 2, [0, 2], 13), (13, 9, [3, 1], 16), (16, 2, [0, 2], 17), (17, 9, [3, 3], 20), (20, 15, [], 21), (21, 3, [5, 2], 23), (23, 2, [5, 2], 25), (25, 2, [1, 0], 26), (26, 10, [0, 2], 29), (29, 2, [5, 2], 31), (31, 2, [2, 0], 32), (32, 10, [0, 3], 35), (35, 2, [5, 2], 37), (37, 2, [3, 0], 38), (38, 10, [0, 4], 41), (41, 2, [5, 2], 43), (43, 2, [4, 0], 45), (45, 10, [0, 5], 48), (48, 2, [5, 2], 50), (50, 1, [0], 51), (51, 10, [0, 6], 54), (54, 2, [0, 2], 55), (55, 25, [], 56), (56, 9, [3, 3], 59), (59, 1, [1], 60), (60, 5, [0], 61), (61, 10, [3, 3], 64), (64, 2, [0, 2], 65), (65, 9, [3, 3], 68), (68, 1, [1], 69), (69, 5, [1], 70), (70, 22, [0], 71)]
def sm_c21 : List (Nat × Smi) := [(0, 2, [1, 0], 1), (1, 6, [2, 21], 4), (4, 2, [1, 0], 5), (5, 1, [600], 8), (8, 7, [3, 21], 11), (11, 2, [2, 0], 12), (12, 1, [-1], 13), (13, 7, [2, 21], 16), (16, 2, [2, 0], 17), (17, 1, [5], 18), (18, 7, [2, 24], 21), (21, 1, [-2], 23), (23, 22, [0], 24), (24, 2, [0, 2], 25), (25, 1, [0], 26), (26, 10, [9, 5], 29), (29, 2, [0, 2], 30), (30, 9, [9, 4], 33), (33, 2, [1, 0], 34), (34, 2, [2, 0], 35), (35, 12, [], 36), (36, 1, [1], 37), (37, 22, [0], 38)]
def sm_c22 : List (Nat × Smi) := [(0, 2, [0, 2], 1), (1, 9, [9, 0], 4), (4, 2, [1, 0], 5), (5, 2, [2, 0], 6), (6, 18, [23, 2], 9), (9, 6, [0, 22], 12), (12, 2, [3, 0], 13), (13, 6, [2, 22], 16), (16, 2, [3, 0], 17), (17, 1, [100], 19), (19, 7, [5, 25], 22), (22, 1, [-2], 24), (24, 22, [0], 25), (25, 2, [0, 2], 26), (26, 1, [0], 27), (27, 10, [9, 5], 30), (30, 2, [0, 2], 31), (31, 9, [9, 0], 34), (34, 9, [4, 1], 37), (37, 2, [1, 0], 38), (38, 15, [], 39), (39, 9, [3, 1], 42), (42, 2, [2, 0], 43), (43, 15, [], 44), (44, 2, [3, 0], 45), (45, 10, [0, 6], 48), (48, 1, [1], 49), (49, 22, [0], 50)]
def sm_c23 : List (Nat × Smi) := [(0, 2, [0, 2], 1), (1, 2, [1, 0], 2), (2, 18, [17, 1], 5), (5, 6, [0, 35], 8), (8, 2, [2, 0], 9), (9, 6, [2, 35], 12), (12, 2, [2, 0], 13), (13, 2, [0, 2], 14), (14, 9, [4, 1], 17), (17, 2, [1, 0], 18), (18, 15, [], 19), (19, 9, [3, 3], 22), (22, 7, [3, 35], 25), (25, 2, [2, 0], 26), (26, 1, [8], 28), (28, 7, [3, 35], 31), (31, 1, [1], 32), (32, 8, [36], 35), (35, 1, [0], 36), (36, 22, [1], 37)]
def sm_c24 : List (Nat × Smi) := [(0, 2, [0, 2], 1), (1, 9, [9, 0], 4), (4, 2, [1, 0], 5), (5, 18, [18, 1], 8), (8, 6, [0, 27], 11), (11, 2, [0, 2], 12), (12, 9, [9, 0], 15), (15, 9, [4, 0], 18), (18, 2, [1, 0], 19), (19, 15, [], 20), (20, 9, [8, 6], 23), (23, 1, [5], 24), (24, 7, [0, 30], 27), (27, 1, [-2], 29), (29, 22, [0], 30), (30, 2, [2, 0], 31), (31, 6, [2, 50], 34), (34, 2, [2, 0], 35), (35, 1, [32], 37), (37, 7, [3, 50], 40), (40, 2, [3, 0], 41), (41, 6, [2, 50], 44), (44, 2, [3, 0], 45), (45, 1, [9], 47), (47, 7, [5, 53], 50), (50, 1, [-2], 52), (52, 22, [0], 53), (53, 2, [0, 2], 54), (54, 1, [0], 55), (55, 10, [9, 5], 58), (58, 2, [0, 2], 59), (59, 9, [9, 0], 62), (62, 9, [4, 0], 65), (65, 2, [1, 0], 66), (66, 15, [], 67), (67, 9, [8, 3], 70), (70, 2, [2, 0], 71), (71, 2, [3, 0], 72), (72, 12, [], 73), (73, 1, [1], 74), (74, 22, [0], 75)]
def sm_c25 : List (Nat × Smi) := [(0, 2, [0, 2], 1), (1, 9, [9, 1], 4), (4, 2, [0, 2], 5), (5, 9, [9, 4], 8), (8, 18, [26, 1], 11), (11, 2, [0, 2], 12), (12, 1, [1], 13), (13, 10, [9, 5], 16), (16, 2, [0, 2], 17), (17, 9, [9, 1], 20), (20, 9, [6, 6], 23), (23, 22, [0], 24)]
def sm_c26 : List (Nat × Smi) := [(0, 2, [0, 2], 1), (1, 9, [6, 0], 4), (4, 18, [27, 0], 7), (7, 2, [0, 2], 8), (8, 1, [0], 9), (9, 10, [6, 4], 12), (12, 2, [0, 2], 13), (13, 1, [0], 14), (14, 18, [35, 1], 17), (17, 3, [2, 0], 18), (18, 1, [0], 19), (19, 3, [3, 0], 20), (20, 2, [3, 0], 21), (21, 1, [600], 24), (24, 7, [3, 92], 27), (27, 2, [2, 0], 28), (28, 6, [0, 92], 31), (31, 2, [3, 0], 32), (32, 2, [1, 2], 33), (33, 17, [], 34), (34, 7, [3, 43], 37), (37, 2, [1, 2], 38), (38, 2, [3, 0], 39), (39, 11, [], 40), (40, 8, [44], 43), (43, 1, [-1], 44), (44, 2, [2, 0], 45), (45, 19, [41, 2], 48), (48, 3, [4, 0], 50), (50, 2, [0, 2], 51), (51, 9, [6, 3], 54), (54, 2, [3, 0], 55), (55, 2, [2, 0], 56), (56, 12, [], 57), (57, 2, [0, 2], 58), (58, 9, [6, 2], 61), (61, 2, [3, 0], 62), (62, 2, [4, 0], 64), (64, 12, [], 65), (65, 2, [0, 2], 66), (66, 2, [0, 2], 67), (67, 9, [6, 0], 70), (70, 9, [4, 1], 73), (73, 2, [4, 0], 75), (75, 15, [], 76), (76, 2, [3, 0], 77), (77, 18, [42, 2], 80), (80, 4, [3, 1], 83), (83, 2, [0, 2], 84), (84, 2, [3, 0], 85), (85, 18, [35, 1], 88), (88, 3, [2, 0], 89), (89, 8, [20], 92), (92, 2, [0, 2], 93), (93, 2, [3, 0], 94), (94, 10, [6, 5], 97), (97, 2, [0, 2], 98), (98, 2, [2, 0], 99), (99, 6, [0, 106], 102), (102, 1, [2], 103), (103, 8, [118], 106), (106, 2, [0, 2], 107), (107, 18, [80, 0], 110), (110, 6, [0, 117], 113), (113, 1, [0], 114), (114, 8, [118], 117), (117, 1, [1], 118), (118, 10, [6, 6], 121), (121, 21, [], 122)]
def sm_c27 : List (Nat × Smi) := [(0, 1, [0], 1), (1, 3, [1, 0], 2), (2, 2, [1, 0], 3), (3, 2, [0, 2], 4), (4, 9, [4, 2], 7), (7, 7, [3, 25], 10), (10, 2, [0, 2], 11), (11, 9, [4, 0], 14), (14, 2, [1, 0], 15), (15, 15, [], 16), (16, 18, [28, 0], 19), (19, 4, [1, 1], 22), (22, 8, [2], 25), (25, 1, [0], 26), (26, 3, [1, 0], 27), (27, 2, [1, 0], 28), (28, 2, [0, 2], 29), (29, 9, [4, 3], 32), (32, 7, [3, 85], 35), (35, 2, [0, 2], 36), (36, 9, [4, 1], 39), (39, 2, [1, 0], 40), (40, 15, [], 41), (41, 3, [2, 2], 42), (42, 2, [2, 2], 43), (43, 1, [0], 44), (44, 10, [3, 4], 47), (47, 1, [0], 48), (48, 3, [3, 0], 49), (49, 2, [3, 0], 50), (50, 2, [2, 2], 51), (51, 9, [3, 3], 54), (54, 7, [3, 79], 57), (57, 2, [3, 0], 58), (58, 1, [8], 60), (60, 7, [3, 79], 63), (63, 2, [0, 2], 64), (64, 2, [2, 2], 65), (65, 9, [3, 1], 68), (68, 2, [3, 0], 69), (69, 15, [], 70), (70, 18, [31, 1], 73), (73, 4, [3, 1], 76), (76, 8, [49], 79), (79, 4, [1, 1], 82), (82, 8, [27], 85), (85, 21, [], 86)]
def sm_c28 : List (Nat × Smi) := [(0, 2, [0, 2], 1), (1, 9, [8, 0], 4), (4, 18, [29, 0], 7), (7, 2, [0, 2], 8), (8, 9, [8, 2], 11), (11, 1, [-1], 12), (12, 19, [10, 2], 15), (15, 2, [0, 2], 16), (16, 1, [0], 17), (17, 10, [8, 9], 20), (20, 2, [0, 2], 21), (21, 1, [0], 22), (22, 10, [8, 10], 25), (25, 2, [0, 2], 26), (26, 1, [0], 27), (27, 10, [8, 11], 30), (30, 2, [0, 2], 31), (31, 9, [8, 6], 34), (34, 1, [5], 35), (35, 7, [1, 53], 38), (38, 2, [0, 2], 39), (39, 9, [8, 3], 42), (42, 1, [0], 43), (43, 2, [0, 2], 44), (44, 9, [8, 4], 47), (47, 1, [0], 48), (48, 1, [32], 50), (50, 41, [], 53), (53, 2, [0, 2], 54), (54, 9, [8, 6], 57), (57, 6, [0, 61], 60), (60, 21, [], 61), (61, 1, [0], 62), (62, 3, [1, 0], 63), (63, 2, [1, 0], 64), (64, 1, [4], 65), (65, 7, [3, 83], 68), (68, 2, [0, 2], 69), (69, 9, [8, 1], 72), (72, 2, [1, 0], 73), (73, 15, [], 74), (74, 18, [30, 0], 77), (77, 4, [1, 1], 80), (80, 8, [63], 83), (83, 21, [], 84)]
def sm_c29 : List (Nat × Smi) := [(0, 2, [0, 2], 1), (1, 9, [1, 0], 4), (4, 1, [0], 5), (5, 19, [10, 2], 8), (8, 2, [0, 2], 9), (9, 1, [0], 10), (10, 10, [1, 1], 13), (13, 2, [0, 2], 14), (14, 1, [0], 15), (15, 10, [1, 2], 18), (18, 2, [0, 2], 19), (19, 1, [0], 20), (20, 10, [1, 3], 23), (23, 2, [0, 2], 24), (24, 1, [0], 25), (25, 10, [1, 4], 28), (28, 21, [], 29)]
def sm_c30 : List (Nat × Smi) := [(0, 2, [0, 2], 1), (1, 9, [7, 0], 4), (4, 1, [-1], 5), (5, 19, [10, 2], 8), (8, 2, [0, 2], 9), (9, 9, [7, 1], 12), (12, 1, [-1], 13), (13, 19, [10, 2], 16), (16, 2, [0, 2], 17), (17, 1, [1], 18), (18, 10, [7, 3], 21), (21, 2, [0, 2], 22), (22, 1, [0], 23), (23, 10, [7, 4], 26), (26, 2, [0, 2], 27), (27, 1, [0], 28), (28, 10, [7, 5], 31), (31, 2, [0, 2], 32), (32, 1, [0], 33), (33, 10, [7, 6], 36), (36, 2, [0, 2], 37), (37, 1, [0], 38), (38, 10, [7, 7], 41), (41, 2, [0, 2], 42), (42, 1, [0], 43), (43, 10, [7, 8], 46), (46, 21, [], 47)]
def sm_c31 : List (Nat × Smi) := [(0, 2, [0, 2], 1), (1, 2, [1, 2], 2), (2, 9, [0, 2], 5), (5, 18, [18, 1], 8), (8, 6, [1, 12], 11), (11, 21, [], 12), (12, 2, [0, 2], 13), (13, 9, [4, 0], 16), (16, 2, [1, 2], 17), (17, 9, [0, 2], 20), (20, 15, [], 21), (21, 3, [2, 2], 22), (22, 2, [1, 2], 23), (23, 2, [2, 2], 24), (24, 2, [1, 2], 25), (25, 9, [0, 3], 28), (28, 18, [32, 1], 31), (31, 2, [2, 2], 32), (32, 2, [1, 2], 33), (33, 18, [33, 1], 36), (36, 18, [34, 2], 39), (39, 21, [], 40)]
def sm_c32 : List (Nat × Smi) := [(0, 2, [0, 2], 1), (1, 9, [8, 8], 4), (4, 1, [2], 5), (5, 7, [1, 12], 8), (8, 1, [1], 9), (9, 8, [13], 12), (12, 1, [0], 13), (13, 3, [2, 0], 14), (14, 2, [0, 2], 15), (15, 9, [8, 6], 18), (18, 40, [0, 164, 56, 164, 81, 95, 120, 150], 56), (56, 2, [1, 0], 57), (57, 1, [1], 58), (58, 7, [1, 67], 61), (61, 32, [1], 64), (64, 8, [80], 67), (67, 2, [2, 0], 68), (68, 6, [0, 77], 71), (71, 32, [2], 74), (74, 8, [80], 77), (77, 32, [3], 80), (80, 24, [], 81), (81, 2, [2, 0], 82), (82, 6, [0, 91], 85), (85, 32, [4], 88), (88, 8, [94], 91), (91, 32, [5], 94), (94, 24, [], 95), (95, 2, [1, 0], 96), (96, 1, [1], 97), (97, 7, [1, 106], 100), (100, 32, [6], 103), (103, 8, [119], 106), (106, 2, [2, 0], 107), (107, 6, [0, 116], 110), (110, 32, [2], 113), (113, 8, [119], 116), (116, 32, [3], 119), (119, 24, [], 120), (120, 2, [1, 0], 121), (121, 1, [1], 122), (122, 7, [0, 130], 125), (125, 2, [1, 0], 126), (126, 1, [3], 127), (127, 7, [1, 136], 130), (130, 32, [0], 133), (133, 8, [149], 136), (136, 2, [2, 0], 137), (137, 6, [0, 146], 140), (140, 32, [2], 143), (143, 8, [149], 146), (146, 32, [3], 149), (149, 24, [], 150), (150, 2, [2, 0], 151), (151, 6, [0, 160], 154), (154, 32, [7], 157), (157, 8, [163], 160), (160, 32, [8], 163), (163, 24, [], 164), (164, 2, [2, 0], 165), (165, 6, [0, 174], 168), (168, 32, [2], 171), (171, 8, [177], 174), (174, 32, [3], 177), (177, 24, [], 178)]
def sm_c33 : List (Nat × Smi) := [(0, 2, [0, 2], 1), (1, 9, [8, 6], 4), (4, 40, [0, 75, 36, 43, 75, 56], 36), (36, 2, [1, 2], 37), (37, 9, [0, 4], 40), (40, 1, [3], 41), (41, 5, [8], 42), (42, 22, [0], 43), (43, 2, [1, 2], 44), (44, 9, [0, 3], 47), (47, 6, [1, 54], 50), (50, 1, [1], 51), (51, 8, [55], 54), (54, 1, [0], 55), (55, 22, [0], 56), (56, 2, [1, 2], 57), (57, 9, [0, 3], 60), (60, 1, [1], 61), (61, 7, [1, 68], 64), (64, 1, [-1], 65), (65, 8, [74], 68), (68, 2, [1, 2], 69), (69, 9, [0, 0], 72), (72, 1, [3], 73), (73, 5, [8], 74), (74, 22, [0], 75), (75, 1, [0], 76), (76, 22, [0], 77)]
def sm_c34 : List (Nat × Smi) := [(0, 2, [0, 2], 1), (1, 2, [1, 2], 2), (2, 10, [0, 7], 5), (5, 2, [0, 2], 6), (6, 2, [2, 0], 7), (7, 10, [0, 8], 10), (10, 2, [0, 2], 11), (11, 1, [0], 12), (12, 10, [0, 9], 15), (15, 2, [0, 2], 16), (16, 1, [0], 17), (17, 10, [0, 10], 20), (20, 2, [0, 2], 21), (21, 1, [0], 22), (22, 10, [0, 12], 25), (25, 2, [0, 2], 26), (26, 1, [0], 27), (27, 10, [0, 13], 30), (30, 2, [0, 2], 31), (31, 1, [0], 32), (32, 10, [0, 14], 35), (35, 2, [0, 2], 36), (36, 1, [6], 38), (38, 10, [0, 15], 41), (41, 2, [0, 2], 42), (42, 1, [0], 43), (43, 10, [0, 16], 46), (46, 21, [], 47)]
def sm_c35 : List (Nat × Smi) := [(0, 1, [0], 1), (1, 3, [2, 0], 2), (2, 1, [0], 3), (3, 3, [3, 0], 4), (4, 2, [3, 0], 5), (5, 2, [0, 2], 6), (6, 9, [6, 0], 9), (9, 9, [4, 3], 12), (12, 7, [3, 44], 15), (15, 2, [0, 2], 16), (16, 2, [0, 2], 17), (17, 9, [6, 0], 20), (20, 9, [4, 1], 23), (23, 2, [3, 0], 24), (24, 15, [], 25), (25, 2, [1, 0], 26), (26, 18, [36, 2], 29), (29, 6, [0, 38], 32), (32, 2, [2, 0], 33), (33, 1, [1], 34), (34, 2, [3, 0], 35), (35, 5, [5], 36), (36, 5, [9], 37), (37, 3, [2, 0], 38), (38, 4, [3, 1], 41), (41, 8, [4], 44), (44, 2, [2, 0], 45), (45, 22, [0], 46)]
def sm_c36 : List (Nat × Smi) := [(0, 2, [1, 2], 1), (1, 18, [37, 0], 4), (4, 3, [3, 2], 5), (5, 2, [3, 2], 6), (6, 34, [11], 9), (9, 1, [0], 10), (10, 22, [1], 11), (11, 2, [3, 2], 12), (12, 9, [0, 10], 15), (15, 6, [0, 44], 18), (18, 2, [3, 2], 19), (19, 9, [0, 6], 22), (22, 6, [5, 42], 25), (25, 2, [2, 0], 26), (26, 2, [3, 2], 27), (27, 9, [0, 11], 30), (30, 5, [1], 31), (31, 2, [3, 2], 32), (32, 9, [0, 6], 35), (35, 7, [2, 42], 38), (38, 1, [1], 39), (39, 8, [43], 42), (42, 1, [0], 43), (43, 22, [1], 44), (44, 2, [3, 2], 45), (45, 18, [38, 0], 48), (48, 6, [1, 65], 51), (51, 2, [0, 2], 52), (52, 9, [6, 0], 55), (55, 2, [3, 2], 56), (56, 9, [0, 2], 59), (59, 18, [18, 1], 62), (62, 6, [1, 67], 65), (65, 1, [1], 66), (66, 22, [1], 67), (67, 2, [0, 2], 68), (68, 9, [6, 0], 71), (71, 9, [4, 0], 74), (74, 2, [3, 2], 75), (75, 9, [0, 2], 78), (78, 15, [], 79), (79, 2, [1, 2], 80), (80, 9, [3, 0], 83), (83, 2, [3, 2], 84), (84, 18, [39, 0], 87), (87, 18, [40, 2], 90), (90, 22, [1], 91)]
def sm_c37 : List (Nat × Smi) := [(0, 2, [0, 2], 1), (1, 9, [3, 4], 4), (4, 2, [0, 2], 5), (5, 9, [3, 3], 8), (8, 7, [3, 32], 11), (11, 2, [0, 2], 12), (12, 9, [3, 4], 15), (15, 1, [8], 17), (17, 7, [3, 32], 20), (20, 2, [0, 2], 21), (21, 9, [3, 1], 24), (24, 2, [0, 2], 25), (25, 9, [3, 4], 28), (28, 15, [], 29), (29, 8, [33], 32), (32, 35, [], 33), (33, 24, [], 34)]
def sm_c38 : List (Nat × Smi) := [(0, 2, [0, 2], 1), (1, 9, [0, 9], 4), (4, 6, [2, 31], 7), (7, 2, [0, 2], 8), (8, 9, [0, 9], 11), (11, 2, [0, 2], 12), (12, 9, [0, 7], 15), (15, 17, [], 16), (16, 7, [3, 31], 19), (19, 2, [0, 2], 20), (20, 9, [0, 7], 23), (23, 2, [0, 2], 24), (24, 9, [0, 9], 27), (27, 11, [], 28), (28, 8, [32], 31), (31, 1, [-1], 32), (32, 22, [0], 33)]
def sm_c39 : List (Nat × Smi) := [(0, 2, [0, 2], 1), (1, 9, [0, 8], 4), (4, 1, [-1], 5), (5, 7, [0, 13], 8), (8, 2, [0, 2], 9), (9, 9, [0, 8], 12), (12, 22, [0], 13), (13, 2, [0, 2], 14), (14, 9, [0, 9], 17), (17, 1, [4], 18), (18, 7, [3, 28], 21), (21, 2, [0, 2], 22), (22, 9, [0, 9], 25), (25, 8, [36], 28), (28, 2, [0, 2], 29), (29, 9, [0, 9], 32), (32, 1, [4], 33), (33, 5, [1], 34), (34, 1, [1], 35), (35, 5, [1], 36), (36, 1, [3], 37), (37, 5, [8], 38), (38, 22, [0], 39)]
def sm_c40 : List (Nat × Smi) := [(0, 2, [0, 2], 1), (1, 9, [8, 2], 4), (4, 2, [2, 0], 5), (5, 1, [3], 6), (6, 5, [8], 7), (7, 11, [], 8), (8, 3, [3, 0], 9), (9, 2, [3, 0], 10), (10, 1, [-1], 11), (11, 7, [0, 19], 14), (14, 2, [3, 0], 15), (15, 2, [1, 0], 16), (16, 7, [1, 23], 19), (19, 1, [1], 20), (20, 8, [24], 23), (23, 1, [0], 24), (24, 22, [1], 25)]
def sm_c41 : List (Nat × Smi) := [(0, 2, [0, 0], 1), (1, 6, [2, 19], 4), (4, 2, [0, 0], 5), (5, 1, [5], 6), (6, 7, [3, 19], 9), (9, 2, [1, 0], 10), (10, 2, [0, 0], 11), (11, 5, [7], 12), (12, 1, [1], 13), (13, 5, [8], 14), (14, 6, [0, 19], 17), (17, 2, [0, 0], 18), (18, 22, [0], 19), (19, 1, [0], 20), (20, 3, [2, 0], 21), (21, 2, [2, 0], 22), (22, 1, [5], 23), (23, 7, [3, 42], 26), (26, 2, [1, 0], 27), (27, 2, [2, 0], 28), (28, 5, [7], 29), (29, 1, [1], 30), (30, 5, [8], 31), (31, 6, [0, 36], 34), (34, 2, [2, 0], 35), (35, 22, [0], 36), (36, 4, [2, 1], 39), (39, 8, [21], 42), (42, 1, [0], 43), (43, 22, [0], 44)]
def sm_c42 : List (Nat × Smi) := [(0, 2, [1, 2], 1), (1, 18, [37, 0], 4), (4, 3, [3, 2], 5), (5, 2, [3, 2], 6), (6, 33, [23], 9), (9, 2, [0, 2], 10), (10, 9, [6, 0], 13), (13, 2, [3, 2], 14), (14, 9, [0, 2], 17), (17, 18, [18, 1], 20), (20, 6, [1, 24], 23), (23, 21, [], 24), (24, 2, [3, 2], 25), (25, 9, [0, 15], 28), (28, 1, [6], 30), (30, 7, [1, 50], 33), (33, 2, [3, 2], 34), (34, 1, [5], 35), (35, 10, [0, 15], 38), (38, 2, [3, 2], 39), (39, 2, [2, 0], 40), (40, 10, [0, 17], 43), (43, 2, [0, 2], 44), (44, 2, [3, 2], 45), (45, 1, [0], 46), (46, 2, [2, 0], 47), (47, 18, [43, 3], 50), (50, 2, [3, 2], 51), (51, 9, [0, 10], 54), (54, 6, [0, 66], 57), (57, 2, [0, 2], 58), (58, 2, [1, 2], 59), (59, 2, [3, 2], 60), (60, 1, [4], 61), (61, 2, [2, 0], 62), (62, 18, [44, 4], 65), (65, 21, [], 66), (66, 2, [0, 2], 67), (67, 2, [1, 2], 68), (68, 2, [3, 2], 69), (69, 2, [2, 0], 70), (70, 18, [45, 3], 73), (73, 2, [3, 2], 74), (74, 9, [0, 9], 77), (77, 2, [3, 2], 78), (78, 9, [0, 7], 81), (81, 17, [], 82), (82, 7, [2, 96], 85), (85, 2, [0, 2], 86), (86, 2, [1, 2], 87), (87, 2, [3, 2], 88), (88, 2, [3, 2], 89), (89, 9, [0, 14], 92), (92, 2, [2, 0], 93), (93, 18, [44, 4], 96), (96, 21, [], 97)]
def sm_c43 : List (Nat × Smi) := [(0, 2, [0, 2], 1), (1, 9, [6, 4], 4), (4, 1, [80], 6), (6, 7, [2, 10], 9), (9, 21, [], 10), (10, 2, [0, 2], 11), (11, 9, [6, 4], 14), (14, 1, [4], 15), (15, 5, [2], 16), (16, 3, [4, 0], 18), (18, 2, [0, 2], 19), (19, 9, [6, 1], 22), (22, 2, [4, 0], 24), (24, 2, [1, 2], 25), (25, 9, [0, 0], 28), (28, 12, [], 29), (29, 2, [0, 2], 30), (30, 9, [6, 1], 33), (33, 2, [4, 0], 35), (35, 1, [1], 36), (36, 5, [0], 37), (37, 2, [1, 2], 38), (38, 9, [0, 1], 41), (41, 12, [], 42), (42, 2, [0, 2], 43), (43, 9, [6, 1], 46), (46, 2, [4, 0], 48), (48, 1, [2], 49), (49, 5, [0], 50), (50, 2, [2, 0], 51), (51, 12, [], 52), (52, 2, [0, 2], 53), (53, 9, [6, 1], 56), (56, 2, [4, 0], 58), (58, 1, [3], 59), (59, 5, [0], 60), (60, 2, [3, 0], 61), (61, 12, [], 62), (62, 2, [0, 2], 63), (63, 25, [], 64), (64, 9, [6, 4], 67), (67, 1, [1], 68), (68, 5, [0], 69), (69, 10, [6, 4], 72), (72, 21, [], 73)]
def sm_c44 : List (Nat × Smi) := [(0, 2, [2, 2], 1), (1, 1, [0], 2), (2, 10, [0, 10], 5), (5, 2, [2, 2], 6), (6, 2, [3, 0], 7), (7, 10, [0, 15], 10), (10, 2, [2, 2], 11), (11, 2, [3, 0], 12), (12, 6, [1, 22], 15), (15, 2, [2, 2], 16), (16, 9, [0, 13], 19), (19, 8, [23], 22), (22, 1, [0], 23), (23, 10, [0, 16], 26), (26, 2, [2, 2], 27), (27, 2, [4, 0], 29), (29, 10, [0, 18], 32), (32, 2, [1, 2], 33), (33, 25, [], 34), (34, 9, [3, 4], 37), (37, 1, [1], 38), (38, 5, [0], 39), (39, 10, [3, 4], 42), (42, 2, [0, 2], 43), (43, 2, [2, 2], 44), (44, 1, [1], 45), (45, 2, [4, 0], 47), (47, 18, [43, 3], 50), (50, 21, [], 51)]
def sm_c45 : List (Nat × Smi) := [(0, 2, [0, 2], 1), (1, 9, [6, 0], 4), (4, 9, [4, 0], 7), (7, 2, [2, 2], 8), (8, 9, [0, 2], 11), (11, 15, [], 12), (12, 3, [4, 2], 14), (14, 2, [2, 2], 15), (15, 18, [38, 0], 18), (18, 40, [0, 140, 60, 76, 92, 140, 102, 119, 131], 60), (60, 2, [4, 2], 62), (62, 2, [1, 2], 63), (63, 9, [3, 0], 66), (66, 2, [2, 2], 67), (67, 18, [39, 0], 70), (70, 18, [46, 2], 73), (73, 8, [158], 76), (76, 2, [4, 2], 78), (78, 2, [1, 2], 79), (79, 9, [3, 0], 82), (82, 2, [2, 2], 83), (83, 18, [39, 0], 86), (86, 18, [47, 2], 89), (89, 8, [158], 92), (92, 2, [4, 2], 94), (94, 2, [2, 2], 95), (95, 2, [1, 2], 96), (96, 18, [48, 2], 99), (99, 8, [158], 102), (102, 2, [4, 2], 104), (104, 2, [2, 2], 105), (105, 18, [58, 1], 108), (108, 6, [0, 158], 111), (111, 2, [0, 2], 112), (112, 2, [1, 2], 113), (113, 2, [2, 2], 114), (114, 2, [3, 0], 115), (115, 18, [62, 3], 118), (118, 21, [], 119), (119, 2, [4, 2], 121), (121, 2, [2, 2], 122), (122, 9, [0, 4], 125), (125, 18, [63, 1], 128), (128, 8, [158], 131), (131, 2, [4, 2], 133), (133, 2, [2, 2], 134), (134, 18, [64, 1], 137), (137, 8, [158], 140), (140, 2, [4, 2], 142), (142, 2, [2, 2], 143), (143, 2, [1, 2], 144), (144, 18, [65, 2], 147), (147, 2, [0, 2], 148), (148, 9, [6, 0], 151), (151, 2, [2, 2], 152), (152, 9, [0, 2], 155), (155, 18, [78, 1], 158), (158, 2, [2, 2], 159), (159, 25, [], 160), (160, 9, [0, 9], 163), (163, 1, [1], 164), (164, 5, [0], 165), (165, 10, [0, 9], 168), (168, 21, [], 169)]
def sm_c46 : List (Nat × Smi) := [(0, 2, [0, 2], 1), (1, 9, [8, 8], 4), (4, 1, [1], 5), (5, 7, [0, 17], 8), (8, 2, [0, 2], 9), (9, 9, [8, 2], 12), (12, 2, [2, 0], 13), (13, 1, [3], 14), (14, 5, [8], 15), (15, 2, [1, 0], 16), (16, 12, [], 17), (17, 21, [], 18)]
def sm_c47 : List (Nat × Smi) := [(0, 2, [0, 2], 1), (1, 9, [8, 2], 4), (4, 2, [2, 0], 5), (5, 1, [3], 6), (6, 5, [8], 7), (7, 11, [], 8), (8, 2, [1, 0], 9), (9, 7, [1, 21], 12), (12, 2, [0, 2], 13), (13, 9, [8, 2], 16), (16, 2, [2, 0], 17), (17, 1, [3], 18), (18, 5, [8], 19), (19, 1, [-1], 20), (20, 12, [], 21), (21, 21, [], 22)]
def sm_c48 : List (Nat × Smi) := [(0, 2, [0, 2], 1), (1, 9, [8, 6], 4), (4, 40, [0, 178, 36, 92, 178, 141], 36), (36, 2, [0, 2], 37), (37, 9, [8, 1], 40), (40, 2, [1, 2], 41), (41, 9, [0, 4], 44), (44, 1, [3], 45), (45, 5, [8], 46), (46, 15, [], 47), (47, 18, [49, 0], 50), (50, 2, [1, 2], 51), (51, 2, [0, 2], 52), (52, 9, [8, 0], 55), (55, 2, [1, 2], 56), (56, 9, [0, 4], 59), (59, 18, [51, 1], 62), (62, 2, [0, 2], 63), (63, 9, [8, 0], 66), (66, 2, [1, 2], 67), (67, 9, [0, 4], 70), (70, 18, [52, 1], 73), (73, 18, [53, 2], 76), (76, 2, [1, 2], 77), (77, 9, [0, 3], 80), (80, 1, [3], 81), (81, 7, [1, 254], 84), (84, 2, [1, 2], 85), (85, 1, [0], 86), (86, 10, [0, 14], 89), (89, 8, [254], 92), (92, 2, [1, 2], 93), (93, 9, [0, 3], 96), (96, 1, [1], 97), (97, 7, [1, 129], 100), (100, 2, [1, 2], 101), (101, 2, [0, 2], 102), (102, 9, [8, 0], 105), (105, 9, [1, 3], 108), (108, 6, [5, 115], 111), (111, 1, [1], 112), (112, 8, [116], 115), (115, 1, [0], 116), (116, 2, [0, 2], 117), (117, 9, [8, 0], 120), (120, 18, [54, 0], 123), (123, 18, [53, 2], 126), (126, 8, [254], 129), (129, 2, [1, 2], 130), (130, 1, [1], 131), (131, 2, [1, 2], 132), (132, 9, [0, 4], 135), (135, 18, [53, 2], 138), (138, 8, [254], 141), (141, 2, [1, 2], 142), (142, 1, [1], 143), (143, 2, [1, 2], 144), (144, 9, [0, 3], 147), (147, 1, [1], 148), (148, 7, [1, 161], 151), (151, 2, [0, 2], 152), (152, 9, [8, 0], 155), (155, 18, [55, 0], 158), (158, 8, [172], 161), (161, 2, [0, 2], 162), (162, 9, [8, 0], 165), (165, 2, [1, 2], 166), (166, 9, [0, 8], 169), (169, 18, [52, 1], 172), (172, 18, [53, 2], 175), (175, 8, [254], 178), (178, 2, [1, 2], 179), (179, 9, [0, 3], 182), (182, 1, [3], 183), (183, 7, [1, 201], 186), (186, 2, [1, 2], 187), (187, 1, [1], 188), (188, 2, [0, 2], 189), (189, 9, [8, 0], 192), (192, 18, [56, 0], 195), (195, 18, [53, 2], 198), (198, 8, [227], 201), (201, 2, [1, 2], 202), (202, 2, [0, 2], 203), (203, 9, [8, 0], 206), (206, 2, [1, 2], 207), (207, 9, [0, 4], 210), (210, 18, [51, 1], 213), (213, 2, [0, 2], 214), (214, 9, [8, 0], 217), (217, 2, [1, 2], 218), (218, 9, [0, 4], 221), (221, 18, [52, 1], 224), (224, 18, [53, 2], 227), (227, 2, [1, 2], 228), (228, 9, [0, 3], 231), (231, 1, [3], 232), (232, 7, [0, 254], 235), (235, 2, [1, 2], 236), (236, 9, [0, 3], 239), (239, 1, [1], 240), (240, 7, [0, 254], 243), (243, 2, [2, 2], 244), (244, 9, [3, 2], 247), (247, 2, [0, 2], 248), (248, 9, [8, 0], 251), (251, 18, [57, 1], 254), (254, 21, [], 255)]
def sm_c49 : List (Nat × Smi) := [(0, 2, [0, 2], 1), (1, 9, [7, 5], 4), (4, 6, [1, 8], 7), (7, 21, [], 8), (8, 2, [0, 2], 9), (9, 9, [7, 0], 12), (12, 2, [0, 2], 13), (13, 9, [7, 6], 16), (16, 1, [7], 18), (18, 5, [8], 19), (19, 11, [], 20), (20, 3, [1, 0], 21), (21, 1, [0], 22), (22, 3, [2, 0], 23), (23, 2, [2, 0], 24), (24, 1, [8], 26), (26, 7, [3, 101], 29), (29, 2, [1, 0], 30), (30, 1, [-1], 31), (31, 7, [0, 101], 34), (34, 2, [0, 2], 35), (35, 9, [7, 2], 38), (38, 2, [1, 0], 39), (39, 1, [7], 41), (41, 5, [8], 42), (42, 11, [], 43), (43, 3, [3, 0], 44), (44, 2, [1, 0], 45), (45, 1, [2], 46), (46, 2, [0, 2], 47), (47, 9, [7, 3], 50), (50, 5, [2], 51), (51, 1, [1], 52), (52, 5, [1], 53), (53, 5, [8], 54), (54, 1, [7], 56), (56, 5, [8], 57), (57, 3, [4, 0], 59), (59, 2, [0, 2], 60), (60, 9, [7, 2], 63), (63, 2, [1, 0], 64), (64, 1, [7], 66), (66, 5, [8], 67), (67, 2, [0, 2], 68), (68, 9, [7, 1], 71), (71, 2, [4, 0], 73), (73, 11, [], 74), (74, 12, [], 75), (75, 2, [0, 2], 76), (76, 9, [7, 1], 79), (79, 2, [4, 0], 81), (81, 2, [1, 0], 82), (82, 12, [], 83), (83, 2, [0, 2], 84), (84, 25, [], 85), (85, 9, [7, 8], 88), (88, 1, [1], 89), (89, 5, [0], 90), (90, 10, [7, 8], 93), (93, 2, [3, 0], 94), (94, 3, [1, 0], 95), (95, 4, [2, 1], 98), (98, 8, [23], 101), (101, 2, [0, 2], 102), (102, 9, [7, 0], 105), (105, 2, [0, 2], 106), (106, 9, [7, 6], 109), (109, 1, [7], 111), (111, 5, [8], 112), (112, 1, [-1], 113), (113, 12, [], 114), (114, 2, [0, 2], 115), (115, 25, [], 116), (116, 9, [7, 6], 119), (119, 1, [1], 120), (120, 5, [0], 121), (121, 10, [7, 6], 124), (124, 2, [0, 2], 125), (125, 9, [7, 6], 128), (128, 2, [0, 2], 129), (129, 9, [7, 3], 132), (132, 7, [2, 139], 135), (135, 2, [0, 2], 136), (136, 18, [50, 0], 139), (139, 21, [], 140)]
def sm_c50 : List (Nat × Smi) := [(0, 2, [0, 2], 1), (1, 9, [7, 0], 4), (4, 3, [1, 2], 5), (5, 2, [0, 2], 6), (6, 2, [0, 2], 7), (7, 9, [7, 1], 10), (10, 10, [7, 0], 13), (13, 2, [0, 2], 14), (14, 2, [1, 2], 15), (15, 10, [7, 1], 18), (18, 2, [0, 2], 19), (19, 1, [2], 20), (20, 2, [0, 2], 21), (21, 9, [7, 3], 24), (24, 5, [2], 25), (25, 10, [7, 3], 28), (28, 2, [0, 2], 29), (29, 1, [0], 30), (30, 10, [7, 5], 33), (33, 2, [0, 2], 34), (34, 1, [0], 35), (35, 10, [7, 6], 38), (38, 21, [], 39)]
def sm_c51 : List (Nat × Smi) := [(0, 2, [0, 2], 1), (1, 9, [1, 1], 4), (4, 2, [1, 0], 5), (5, 1, [31], 7), (7, 5, [8], 8), (8, 5, [7], 9), (9, 1, [1], 10), (10, 5, [8], 11), (11, 6, [0, 18], 14), (14, 1, [1], 15), (15, 8, [19], 18), (18, 1, [0], 19), (19, 22, [1], 20)]
def sm_c52 : List (Nat × Smi) := [(0, 2, [0, 2], 1), (1, 9, [1, 0], 4), (4, 2, [1, 0], 5), (5, 1, [31], 7), (7, 5, [8], 8), (8, 11, [], 9), (9, 22, [0], 10)]
def sm_c53 : List (Nat × Smi) := [(0, 2, [0, 2], 1), (1, 2, [1, 0], 2), (2, 6, [0, 9], 5), (5, 1, [0], 6), (6, 8, [10], 9), (9, 1, [1], 10), (10, 10, [0, 14], 13), (13, 2, [0, 2], 14), (14, 2, [1, 0], 15), (15, 6, [0, 22], 18), (18, 2, [2, 0], 19), (19, 8, [23], 22), (22, 1, [0], 23), (23, 10, [0, 13], 26), (26, 21, [], 27)]
def sm_c54 : List (Nat × Smi) := [(0, 2, [0, 2], 1), (1, 9, [1, 0], 4), (4, 2, [0, 2], 5), (5, 9, [1, 2], 8), (8, 1, [63], 10), (10, 5, [8], 11), (11, 11, [], 12), (12, 22, [0], 13)]
def sm_c55 : List (Nat × Smi) := [(0, 2, [0, 2], 1), (1, 9, [1, 0], 4), (4, 1, [0], 5), (5, 11, [], 6), (6, 2, [0, 2], 7), (7, 9, [1, 0], 10), (10, 1, [1], 11), (11, 11, [], 12), (12, 5, [0], 13), (13, 2, [0, 2], 14), (14, 9, [1, 0], 17), (17, 1, [2], 18), (18, 11, [], 19), (19, 5, [0], 20), (20, 2, [0, 2], 21), (21, 9, [1, 0], 24), (24, 1, [3], 25), (25, 11, [], 26), (26, 5, [0], 27), (27, 22, [0], 28)]
def sm_c56 : List (Nat × Smi) := [(0, 1, [0], 1), (1, 3, [1, 0], 2), (2, 1, [0], 3), (3, 3, [2, 0], 4), (4, 2, [2, 0], 5), (5, 1, [32], 7), (7, 7, [3, 37], 10), (10, 2, [0, 2], 11), (11, 2, [2, 0], 12), (12, 18, [51, 1], 15), (15, 6, [0, 31], 18), (18, 2, [1, 0], 19), (19, 2, [2, 0], 20), (20, 1, [1], 21), (21, 5, [0], 22), (22, 2, [0, 2], 23), (23, 9, [1, 0], 26), (26, 2, [2, 0], 27), (27, 11, [], 28), (28, 5, [2], 29), (29, 5, [0], 30), (30, 3, [1, 0], 31), (31, 4, [2, 1], 34), (34, 8, [4], 37), (37, 2, [1, 0], 38), (38, 22, [0], 39)]
def sm_c57 : List (Nat × Smi) := [(0, 2, [0, 2], 1), (1, 2, [1, 2], 2), (2, 9, [1, 1], 5), (5, 10, [1, 1], 8), (8, 2, [1, 2], 9), (9, 9, [1, 0], 12), (12, 1, [0], 13), (13, 2, [0, 2], 14), (14, 9, [1, 0], 17), (17, 1, [0], 18), (18, 1, [32], 20), (20, 41, [], 23), (23, 21, [], 24)]
def sm_c58 : List (Nat × Smi) := [(0, 2, [0, 2], 1), (1, 9, [8, 6], 4), (4, 1, [5], 5), (5, 7, [1, 16], 8), (8, 2, [0, 2], 9), (9, 2, [1, 2], 10), (10, 18, [59, 1], 13), (13, 8, [21], 16), (16, 2, [0, 2], 17), (17, 2, [1, 2], 18), (18, 18, [60, 1], 21), (21, 22, [1], 22)]
def sm_c59 : List (Nat × Smi) := [(0, 2, [1, 2], 1), (1, 1, [1], 2), (2, 1, [0], 3), (3, 18, [53, 2], 6), (6, 2, [0, 2], 7), (7, 9, [8, 0], 10), (10, 2, [1, 2], 11), (11, 9, [0, 4], 14), (14, 18, [51, 1], 17), (17, 6, [0, 44], 20), (20, 2, [1, 2], 21), (21, 2, [0, 2], 22), (22, 9, [8, 0], 25), (25, 2, [1, 2], 26), (26, 9, [0, 4], 29), (29, 18, [52, 1], 32), (32, 10, [0, 13], 35), (35, 2, [1, 2], 36), (36, 32, [9], 39), (39, 10, [0, 7], 42), (42, 1, [0], 43), (43, 22, [1], 44), (44, 2, [0, 2], 45), (45, 9, [8, 9], 48), (48, 2, [1, 2], 49), (49, 9, [0, 4], 52), (52, 1, [31], 54), (54, 5, [8], 55), (55, 5, [7], 56), (56, 1, [1], 57), (57, 5, [8], 58), (58, 6, [0, 65], 61), (61, 1, [1], 62), (62, 8, [66], 65), (65, 1, [0], 66), (66, 22, [1], 67)]
def sm_c60 : List (Nat × Smi) := [(0, 2, [1, 2], 1), (1, 1, [1], 2), (2, 1, [0], 3), (3, 18, [53, 2], 6), (6, 2, [1, 2], 7), (7, 9, [0, 3], 10), (10, 1, [4], 11), (11, 7, [1, 16], 14), (14, 1, [0], 15), (15, 22, [1], 16), (16, 2, [1, 2], 17), (17, 9, [0, 3], 20), (20, 6, [0, 31], 23), (23, 2, [1, 2], 24), (24, 9, [0, 3], 27), (27, 1, [1], 28), (28, 7, [1, 35], 31), (31, 1, [1], 32), (32, 8, [36], 35), (35, 1, [0], 36), (36, 3, [2, 0], 37), (37, 2, [2, 0], 38), (38, 6, [1, 82], 41), (41, 2, [0, 2], 42), (42, 9, [8, 0], 45), (45, 9, [1, 3], 48), (48, 6, [5, 82], 51), (51, 2, [1, 2], 52), (52, 2, [1, 2], 53), (53, 9, [0, 3], 56), (56, 1, [2], 57), (57, 7, [1, 70], 60), (60, 2, [0, 2], 61), (61, 9, [8, 0], 64), (64, 18, [54, 0], 67), (67, 8, [77], 70), (70, 2, [0, 2], 71), (71, 9, [8, 0], 74), (74, 18, [61, 0], 77), (77, 10, [0, 13], 80), (80, 1, [0], 81), (81, 22, [1], 82), (82, 2, [0, 2], 83), (83, 9, [8, 0], 86), (86, 9, [1, 4], 89), (89, 6, [5, 99], 92), (92, 2, [1, 2], 93), (93, 1, [2], 94), (94, 10, [0, 14], 97), (97, 1, [0], 98), (98, 22, [1], 99), (99, 2, [2, 0], 100), (100, 6, [0, 111], 103), (103, 2, [1, 2], 104), (104, 2, [1, 2], 105), (105, 9, [0, 4], 108), (108, 10, [0, 13], 111), (111, 2, [2, 0], 112), (112, 6, [0, 129], 115), (115, 2, [0, 2], 116), (116, 9, [8, 0], 119), (119, 9, [1, 3], 122), (122, 2, [0, 2], 123), (123, 9, [8, 7], 126), (126, 7, [2, 133], 129), (129, 1, [1], 130), (130, 8, [134], 133), (133, 1, [0], 134), (134, 22, [1], 135)]
def sm_c61 : List (Nat × Smi) := [(0, 2, [0, 2], 1), (1, 9, [1, 0], 4), (4, 2, [0, 2], 5), (5, 9, [1, 2], 8), (8, 2, [0, 2], 9), (9, 9, [1, 3], 12), (12, 5, [0], 13), (13, 1, [1], 14), (14, 5, [1], 15), (15, 1, [63], 17), (17, 5, [8], 18), (18, 11, [], 19), (19, 22, [0], 20)]
def sm_c62 : List (Nat × Smi) := [(0, 2, [2, 2], 1), (1, 1, [1], 2), (2, 10, [0, 10], 5), (5, 2, [2, 2], 6), (6, 2, [3, 0], 7), (7, 1, [1], 8), (8, 5, [0], 9), (9, 10, [0, 11], 12), (12, 2, [2, 2], 13), (13, 25, [], 14), (14, 9, [0, 12], 17), (17, 1, [1], 18), (18, 5, [0], 19), (19, 10, [0, 12], 22), (22, 2, [0, 2], 23), (23, 9, [6, 0], 26), (26, 9, [4, 0], 29), (29, 2, [2, 2], 30), (30, 9, [0, 2], 33), (33, 15, [], 34), (34, 2, [1, 2], 35), (35, 9, [3, 0], 38), (38, 2, [2, 2], 39), (39, 9, [0, 8], 42), (42, 18, [47, 2], 45), (45, 21, [], 46)]
def sm_c63 : List (Nat × Smi) := [(0, 2, [0, 2], 1), (1, 25, [], 2), (2, 9, [8, 9], 5), (5, 1, [1], 6), (6, 2, [1, 0], 7), (7, 1, [31], 9), (9, 5, [8], 10), (10, 5, [5], 11), (11, 5, [9], 12), (12, 10, [8, 9], 15), (15, 21, [], 16)]
def sm_c64 : List (Nat × Smi) := [(0, 2, [0, 2], 1), (1, 25, [], 2), (2, 9, [8, 10], 5), (5, 1, [1], 6), (6, 5, [0], 7), (7, 10, [8, 10], 10), (10, 2, [0, 2], 11), (11, 9, [8, 4], 14), (14, 2, [1, 2], 15), (15, 9, [0, 4], 18), (18, 1, [31], 20), (20, 5, [8], 21), (21, 11, [], 22), (22, 6, [4, 26], 25), (25, 21, [], 26), (26, 2, [0, 2], 27), (27, 9, [8, 4], 30), (30, 2, [1, 2], 31), (31, 9, [0, 4], 34), (34, 1, [31], 36), (36, 5, [8], 37), (37, 26, [], 38), (38, 11, [], 39), (39, 1, [1], 40), (40, 5, [1], 41), (41, 12, [], 42), (42, 2, [0, 2], 43), (43, 25, [], 44), (44, 9, [8, 11], 47), (47, 1, [1], 48), (48, 5, [0], 49), (49, 10, [8, 11], 52), (52, 2, [1, 2], 53), (53, 1, [3], 54), (54, 10, [0, 14], 57), (57, 21, [], 58)]
def sm_c65 : List (Nat × Smi) := [(0, 2, [0, 2], 1), (1, 9, [8, 6], 4), (4, 40, [0, 183, 40, 48, 86, 102, 133], 40), (40, 2, [0, 2], 41), (41, 2, [1, 2], 42), (42, 18, [66, 1], 45), (45, 8, [188], 48), (48, 2, [1, 2], 49), (49, 9, [0, 3], 52), (52, 6, [1, 69], 55), (55, 2, [0, 2], 56), (56, 9, [8, 0], 59), (59, 2, [1, 2], 60), (60, 9, [0, 4], 63), (63, 18, [71, 1], 66), (66, 8, [188], 69), (69, 2, [1, 2], 70), (70, 9, [0, 14], 73), (73, 6, [1, 188], 76), (76, 2, [0, 2], 77), (77, 9, [8, 0], 80), (80, 18, [72, 0], 83), (83, 8, [188], 86), (86, 2, [1, 2], 87), (87, 9, [0, 14], 90), (90, 1, [2], 91), (91, 7, [0, 188], 94), (94, 2, [0, 2], 95), (95, 2, [1, 2], 96), (96, 18, [73, 1], 99), (99, 8, [188], 102), (102, 2, [1, 2], 103), (103, 25, [], 104), (104, 9, [0, 13], 107), (107, 2, [1, 2], 108), (108, 9, [0, 4], 111), (111, 5, [0], 112), (112, 10, [0, 13], 115), (115, 2, [0, 2], 116), (116, 9, [8, 0], 119), (119, 2, [1, 2], 120), (120, 9, [0, 8], 123), (123, 2, [1, 2], 124), (124, 9, [0, 13], 127), (127, 18, [70, 2], 130), (130, 8, [188], 133), (133, 2, [0, 2], 134), (134, 9, [8, 0], 137), (137, 2, [2, 2], 138), (138, 9, [3, 2], 141), (141, 18, [57, 1], 144), (144, 2, [1, 2], 145), (145, 9, [0, 3], 148), (148, 6, [1, 169], 151), (151, 2, [0, 2], 152), (152, 9, [8, 0], 155), (155, 2, [1, 2], 156), (156, 9, [0, 4], 159), (159, 2, [1, 2], 160), (160, 9, [0, 5], 163), (163, 18, [70, 2], 166), (166, 8, [188], 169), (169, 2, [0, 2], 170), (170, 9, [8, 0], 173), (173, 2, [1, 2], 174), (174, 9, [0, 4], 177), (177, 18, [68, 1], 180), (180, 8, [188], 183), (183, 2, [0, 2], 184), (184, 2, [1, 2], 185), (185, 18, [76, 1], 188), (188, 21, [], 189)]
def sm_c66 : List (Nat × Smi) := [(0, 2, [0, 2], 1), (1, 9, [8, 1], 4), (4, 2, [1, 2], 5), (5, 9, [0, 4], 8), (8, 1, [3], 9), (9, 5, [8], 10), (10, 15, [], 11), (11, 3, [2, 2], 12), (12, 2, [1, 2], 13), (13, 9, [0, 4], 16), (16, 1, [2], 17), (17, 5, [6], 18), (18, 1, [7], 20), (20, 5, [8], 21), (21, 3, [3, 0], 22), (22, 2, [1, 2], 23), (23, 9, [0, 3], 26), (26, 1, [2], 27), (27, 7, [1, 61], 30), (30, 2, [0, 2], 31), (31, 9, [8, 0], 34), (34, 2, [1, 2], 35), (35, 9, [0, 4], 38), (38, 18, [51, 1], 41), (41, 6, [0, 49], 44), (44, 2, [2, 2], 45), (45, 2, [3, 0], 46), (46, 18, [67, 1], 49), (49, 2, [0, 2], 50), (50, 9, [8, 0], 53), (53, 2, [1, 2], 54), (54, 9, [0, 4], 57), (57, 18, [68, 1], 60), (60, 21, [], 61), (61, 2, [1, 2], 62), (62, 9, [0, 3], 65), (65, 1, [3], 66), (66, 7, [1, 82], 69), (69, 2, [1, 2], 70), (70, 25, [], 71), (71, 9, [0, 13], 74), (74, 2, [1, 2], 75), (75, 9, [0, 5], 78), (78, 5, [0], 79), (79, 10, [0, 13], 82), (82, 2, [0, 2], 83), (83, 9, [8, 0], 86), (86, 2, [1, 2], 87), (87, 9, [0, 4], 90), (90, 18, [51, 1], 93), (93, 6, [1, 101], 96), (96, 2, [2, 2], 97), (97, 2, [3, 0], 98), (98, 18, [69, 1], 101), (101, 2, [0, 2], 102), (102, 9, [8, 0], 105), (105, 2, [1, 2], 106), (106, 9, [0, 4], 109), (109, 2, [1, 2], 110), (110, 9, [0, 3], 113), (113, 6, [1, 123], 116), (116, 2, [1, 2], 117), (117, 9, [0, 5], 120), (120, 8, [127], 123), (123, 2, [1, 2], 124), (124, 9, [0, 13], 127), (127, 18, [70, 2], 130), (130, 21, [], 131)]
def sm_c67 : List (Nat × Smi) := [(0, 1, [1], 1), (1, 3, [2, 0], 2), (2, 2, [2, 0], 3), (3, 1, [2], 4), (4, 7, [4, 159], 7), (7, 2, [2, 0], 8), (8, 1, [1], 9), (9, 7, [1, 19], 12), (12, 2, [0, 2], 13), (13, 9, [7, 0], 16), (16, 8, [23], 19), (19, 2, [0, 2], 20), (20, 9, [7, 1], 23), (23, 3, [3, 2], 24), (24, 2, [1, 0], 25), (25, 2, [2, 0], 26), (26, 2, [0, 2], 27), (27, 9, [7, 3], 30), (30, 5, [2], 31), (31, 1, [1], 32), (32, 5, [1], 33), (33, 5, [8], 34), (34, 1, [7], 36), (36, 5, [8], 37), (37, 3, [4, 0], 39), (39, 1, [-1], 40), (40, 3, [5, 0], 42), (42, 2, [3, 2], 43), (43, 2, [4, 0], 45), (45, 11, [], 46), (46, 3, [6, 0], 48), (48, 1, [0], 49), (49, 3, [7, 0], 51), (51, 2, [7, 0], 53), (53, 1, [8], 55), (55, 7, [3, 92], 58), (58, 2, [6, 0], 60), (60, 1, [-1], 61), (61, 7, [0, 92], 64), (64, 2, [6, 0], 66), (66, 2, [1, 0], 67), (67, 7, [0, 92], 70), (70, 2, [6, 0], 72), (72, 3, [5, 0], 74), (74, 2, [0, 2], 75), (75, 9, [7, 2], 78), (78, 2, [6, 0], 80), (80, 1, [7], 82), (82, 5, [8], 83), (83, 11, [], 84), (84, 3, [6, 0], 86), (86, 4, [7, 1], 89), (89, 8, [51], 92), (92, 2, [6, 0], 94), (94, 2, [1, 0], 95), (95, 7, [0, 101], 98), (98, 8, [153], 101), (101, 2, [5, 0], 103), (103, 1, [-1], 104), (104, 7, [1, 123], 107), (107, 2, [3, 2], 108), (108, 2, [4, 0], 110), (110, 2, [0, 2], 111), (111, 9, [7, 2], 114), (114, 2, [1, 0], 115), (115, 1, [7], 117), (117, 5, [8], 118), (118, 11, [], 119), (119, 12, [], 120), (120, 8, [142], 123), (123, 2, [0, 2], 124), (124, 9, [7, 2], 127), (127, 2, [5, 0], 129), (129, 1, [7], 131), (131, 5, [8], 132), (132, 2, [0, 2], 133), (133, 9, [7, 2], 136), (136, 2, [1, 0], 137), (137, 1, [7], 139), (139, 5, [8], 140), (140, 11, [], 141), (141, 12, [], 142), (142, 2, [0, 2], 143), (143, 25, [], 144), (144, 9, [7, 4], 147), (147, 1, [1], 148), (148, 5, [1], 149), (149, 10, [7, 4], 152), (152, 21, [], 153), (153, 4, [2, 1], 156), (156, 8, [2], 159), (159, 21, [], 160)]
def sm_c68 : List (Nat × Smi) := [(0, 2, [0, 2], 1), (1, 25, [], 2), (2, 9, [1, 1], 5), (5, 1, [1], 6), (6, 2, [1, 0], 7), (7, 1, [31], 9), (9, 5, [8], 10), (10, 5, [5], 11), (11, 1, [-1], 12), (12, 5, [10], 13), (13, 5, [8], 14), (14, 10, [1, 1], 17), (17, 21, [], 18)]
def sm_c69 : List (Nat × Smi) := [(0, 2, [0, 2], 1), (1, 9, [7, 5], 4), (4, 6, [0, 14], 7), (7, 2, [0, 2], 8), (8, 9, [7, 1], 11), (11, 8, [18], 14), (14, 2, [0, 2], 15), (15, 9, [7, 0], 18), (18, 3, [2, 2], 19), (19, 2, [1, 0], 20), (20, 2, [0, 2], 21), (21, 9, [7, 5], 24), (24, 6, [0, 36], 27), (27, 1, [2], 28), (28, 2, [0, 2], 29), (29, 9, [7, 3], 32), (32, 5, [2], 33), (33, 8, [40], 36), (36, 2, [0, 2], 37), (37, 9, [7, 3], 40), (40, 1, [1], 41), (41, 5, [1], 42), (42, 5, [8], 43), (43, 1, [7], 45), (45, 5, [8], 46), (46, 3, [3, 0], 47), (47, 2, [0, 2], 48), (48, 9, [7, 2], 51), (51, 2, [1, 0], 52), (52, 1, [7], 54), (54, 5, [8], 55), (55, 2, [2, 2], 56), (56, 2, [3, 0], 57), (57, 11, [], 58), (58, 12, [], 59), (59, 2, [2, 2], 60), (60, 2, [3, 0], 61), (61, 2, [1, 0], 62), (62, 12, [], 63), (63, 2, [0, 2], 64), (64, 25, [], 65), (65, 9, [7, 4], 68), (68, 1, [1], 69), (69, 5, [0], 70), (70, 10, [7, 4], 73), (73, 2, [0, 2], 74), (74, 9, [7, 5], 77), (77, 6, [1, 104], 80), (80, 2, [0, 2], 81), (81, 9, [7, 4], 84), (84, 1, [2], 85), (85, 2, [0, 2], 86), (86, 9, [7, 3], 89), (89, 5, [2], 90), (90, 7, [5, 104], 93), (93, 1, [2], 94), (94, 2, [0, 2], 95), (95, 9, [7, 3], 98), (98, 5, [2], 99), (99, 1, [8], 101), (101, 7, [5, 105], 104), (104, 21, [], 105), (105, 2, [0, 2], 106), (106, 1, [1], 107), (107, 10, [7, 5], 110), (110, 2, [0, 2], 111), (111, 25, [], 112), (112, 9, [7, 7], 115), (115, 1, [1], 116), (116, 5, [0], 117), (117, 10, [7, 7], 120), (120, 2, [0, 2], 121), (121, 1, [0], 122), (122, 10, [7, 6], 125), (125, 21, [], 126)]
def sm_c70 : List (Nat × Smi) := [(0, 2, [0, 2], 1), (1, 25, [], 2), (2, 9, [1, 1], 5), (5, 1, [1], 6), (6, 2, [1, 0], 7), (7, 1, [31], 9), (9, 5, [8], 10), (10, 5, [5], 11), (11, 5, [9], 12), (12, 10, [1, 1], 15), (15, 2, [0, 2], 16), (16, 9, [1, 0], 19), (19, 2, [1, 0], 20), (20, 1, [31], 22), (22, 5, [8], 23), (23, 2, [2, 0], 24), (24, 12, [], 25), (25, 21, [], 26)]
def sm_c71 : List (Nat × Smi) := [(0, 2, [0, 2], 1), (1, 9, [1, 0], 4), (4, 2, [0, 2], 5), (5, 9, [1, 2], 8), (8, 2, [0, 2], 9), (9, 9, [1, 3], 12), (12, 5, [0], 13), (13, 1, [63], 15), (15, 5, [8], 16), (16, 2, [1, 0], 17), (17, 12, [], 18), (18, 2, [0, 2], 19), (19, 25, [], 20), (20, 9, [1, 3], 23), (23, 1, [1], 24), (24, 5, [0], 25), (25, 10, [1, 3], 28), (28, 21, [], 29)]
def sm_c72 : List (Nat × Smi) := [(0, 2, [0, 2], 1), (1, 9, [1, 3], 4), (4, 6, [4, 8], 7), (7, 21, [], 8), (8, 2, [0, 2], 9), (9, 2, [0, 2], 10), (10, 9, [1, 2], 13), (13, 1, [1], 14), (14, 5, [0], 15), (15, 1, [63], 17), (17, 5, [8], 18), (18, 10, [1, 2], 21), (21, 2, [0, 2], 22), (22, 25, [], 23), (23, 9, [1, 3], 26), (26, 1, [1], 27), (27, 5, [1], 28), (28, 10, [1, 3], 31), (31, 21, [], 32)]
def sm_c73 : List (Nat × Smi) := [(0, 2, [1, 2], 1), (1, 9, [0, 3], 4), (4, 40, [0, 94, 40, 54, 68, 94, 78], 40), (40, 2, [0, 2], 41), (41, 9, [8, 0], 44), (44, 2, [1, 2], 45), (45, 9, [0, 4], 48), (48, 18, [71, 1], 51), (51, 8, [101], 54), (54, 2, [0, 2], 55), (55, 9, [8, 0], 58), (58, 2, [1, 2], 59), (59, 9, [0, 4], 62), (62, 18, [74, 1], 65), (65, 8, [101], 68), (68, 2, [0, 2], 69), (69, 9, [8, 0], 72), (72, 18, [72, 0], 75), (75, 8, [101], 78), (78, 2, [0, 2], 79), (79, 9, [8, 0], 82), (82, 25, [], 83), (83, 9, [1, 4], 86), (86, 1, [1], 87), (87, 5, [0], 88), (88, 10, [1, 4], 91), (91, 8, [101], 94), (94, 2, [0, 2], 95), (95, 9, [8, 0], 98), (98, 18, [75, 0], 101), (101, 21, [], 102)]
def sm_c74 : List (Nat × Smi) := [(0, 2, [0, 2], 1), (1, 2, [0, 2], 2), (2, 9, [1, 2], 5), (5, 1, [1], 6), (6, 5, [1], 7), (7, 1, [63], 9), (9, 5, [8], 10), (10, 10, [1, 2], 13), (13, 2, [0, 2], 14), (14, 25, [], 15), (15, 9, [1, 3], 18), (18, 1, [1], 19), (19, 5, [0], 20), (20, 10, [1, 3], 23), (23, 2, [0, 2], 24), (24, 9, [1, 0], 27), (27, 2, [0, 2], 28), (28, 9, [1, 2], 31), (31, 1, [63], 33), (33, 5, [8], 34), (34, 2, [1, 0], 35), (35, 12, [], 36), (36, 21, [], 37)]
def sm_c75 : List (Nat × Smi) := [(0, 2, [0, 2], 1), (1, 9, [1, 3], 4), (4, 6, [5, 17], 7), (7, 2, [0, 2], 8), (8, 25, [], 9), (9, 9, [1, 3], 12), (12, 1, [1], 13), (13, 5, [1], 14), (14, 10, [1, 3], 17), (17, 21, [], 18)]
def sm_c76 : List (Nat × Smi) := [(0, 2, [0, 2], 1), (1, 25, [], 2), (2, 9, [8, 9], 5), (5, 1, [1], 6), (6, 2, [1, 2], 7), (7, 9, [0, 4], 10), (10, 1, [31], 12), (12, 5, [8], 13), (13, 5, [5], 14), (14, 1, [-1], 15), (15, 5, [10], 16), (16, 5, [8], 17), (17, 10, [8, 9], 20), (20, 2, [1, 2], 21), (21, 9, [0, 14], 24), (24, 1, [3], 25), (25, 7, [1, 29], 28), (28, 21, [], 29), (29, 2, [1, 2], 30), (30, 2, [1, 2], 31), (31, 18, [77, 0], 34), (34, 10, [0, 13], 37), (37, 2, [0, 2], 38), (38, 9, [8, 0], 41), (41, 2, [1, 2], 42), (42, 9, [0, 4], 45), (45, 2, [1, 2], 46), (46, 9, [0, 13], 49), (49, 18, [70, 2], 52), (52, 21, [], 53)]
def sm_c77 : List (Nat × Smi) := [(0, 1, [1000], 3), (3, 2, [0, 2], 4), (4, 9, [0, 0], 7), (7, 1, [1], 8), (8, 5, [0], 9), (9, 5, [2], 10), (10, 2, [0, 2], 11), (11, 9, [0, 1], 14), (14, 5, [0], 15), (15, 22, [0], 16)]
def sm_c78 : List (Nat × Smi) := [(0, 1, [0], 1), (1, 3, [2, 0], 2), (2, 2, [2, 0], 3), (3, 2, [0, 2], 4), (4, 9, [4, 3], 7), (7, 7, [3, 48], 10), (10, 2, [0, 2], 11), (11, 9, [4, 1], 14), (14, 2, [2, 0], 15), (15, 15, [], 16), (16, 18, [79, 0], 19), (19, 3, [3, 2], 20), (20, 2, [3, 2], 21), (21, 33, [42], 24), (24, 2, [3, 2], 25), (25, 9, [0, 2], 28), (28, 2, [1, 0], 29), (29, 7, [1, 42], 32), (32, 2, [3, 2], 33), (33, 1, [0], 34), (34, 10, [0, 10], 37), (37, 2, [3, 2], 38), (38, 1, [0], 39), (39, 10, [0, 9], 42), (42, 4, [2, 1], 45), (45, 8, [2], 48), (48, 21, [], 49)]
def sm_c79 : List (Nat × Smi) := [(0, 2, [0, 2], 1), (1, 18, [37, 0], 4), (4, 3, [1, 2], 5), (5, 2, [1, 2], 6), (6, 33, [20], 9), (9, 2, [1, 2], 10), (10, 9, [0, 10], 13), (13, 6, [0, 20], 16), (16, 2, [1, 2], 17), (17, 8, [21], 20), (20, 35, [], 21), (21, 24, [], 22)]
def sm_c80 : List (Nat × Smi) := [(0, 1, [0], 1), (1, 3, [1, 0], 2), (2, 2, [1, 0], 3), (3, 2, [0, 2], 4), (4, 9, [6, 0], 7), (7, 9, [4, 3], 10), (10, 7, [3, 36], 13), (13, 2, [0, 2], 14), (14, 9, [6, 0], 17), (17, 9, [4, 1], 20), (20, 2, [1, 0], 21), (21, 15, [], 22), (22, 18, [37, 0], 25), (25, 33, [30], 28), (28, 1, [0], 29), (29, 22, [1], 30), (30, 4, [1, 1], 33), (33, 8, [2], 36), (36, 1, [1], 37), (37, 22, [1], 38)]
def sm_c81 : List (Nat × Smi) := [(0, 2, [0, 2], 1), (1, 9, [9, 0], 4), (4, 2, [1, 0], 5), (5, 2, [2, 0], 6), (6, 18, [23, 2], 9), (9, 6, [0, 19], 12), (12, 2, [0, 2], 13), (13, 9, [9, 5], 16), (16, 6, [1, 21], 19), (19, 1, [0], 20), (20, 22, [0], 21), (21, 2, [0, 2], 22), (22, 9, [9, 0], 25), (25, 9, [4, 1], 28), (28, 2, [1, 0], 29), (29, 15, [], 30), (30, 9, [3, 1], 33), (33, 2, [2, 0], 34), (34, 15, [], 35), (35, 9, [0, 16], 38), (38, 22, [0], 39)]
def sm_c82 : List (Nat × Smi) := [(0, 2, [0, 2], 1), (1, 9, [9, 0], 4), (4, 2, [1, 0], 5), (5, 2, [2, 0], 6), (6, 18, [23, 2], 9), (9, 6, [1, 15], 12), (12, 1, [-2], 14), (14, 22, [0], 15), (15, 2, [0, 2], 16), (16, 9, [9, 5], 19), (19, 6, [1, 25], 22), (22, 1, [-3], 24), (24, 22, [0], 25), (25, 2, [0, 2], 26), (26, 9, [9, 0], 29), (29, 9, [4, 1], 32), (32, 2, [1, 0], 33), (33, 15, [], 34), (34, 9, [3, 1], 37), (37, 2, [2, 0], 38), (38, 15, [], 39), (39, 9, [0, 15], 42), (42, 22, [0], 43)]
def sm_c83 : List (Nat × Smi) := [(0, 2, [0, 2], 1), (1, 9, [9, 0], 4), (4, 2, [1, 0], 5), (5, 2, [2, 0], 6), (6, 18, [23, 2], 9), (9, 6, [1, 15], 12), (12, 1, [-2], 14), (14, 22, [0], 15), (15, 2, [0, 2], 16), (16, 9, [9, 5], 19), (19, 6, [1, 25], 22), (22, 1, [-3], 24), (24, 22, [0], 25), (25, 2, [0, 2], 26), (26, 9, [9, 0], 29), (29, 9, [4, 1], 32), (32, 2, [1, 0], 33), (33, 15, [], 34), (34, 9, [3, 1], 37), (37, 2, [2, 0], 38), (38, 15, [], 39), (39, 9, [0, 12], 42), (42, 22, [0], 43)]
def sm_c84 : List (Nat × Smi) := [(0, 2, [1, 0], 1), (1, 6, [2, 13], 4), (4, 2, [2, 0], 5), (5, 6, [2, 13], 8), (8, 2, [2, 0], 9), (9, 1, [4], 10), (10, 7, [2, 16], 13), (13, 1, [-2], 15), (15, 22, [0], 16), (16, 2, [0, 2], 17), (17, 9, [9, 5], 20), (20, 6, [1, 26], 23), (23, 1, [-3], 25), (25, 22, [0], 26), (26, 2, [1, 0], 27), (27, 2, [0, 2], 28), (28, 9, [9, 1], 31), (31, 9, [6, 4], 34), (34, 7, [2, 39], 37), (37, 1, [-1], 38), (38, 22, [0], 39), (39, 2, [0, 2], 40), (40, 9, [9, 1], 43), (43, 9, [6, 1], 46), (46, 2, [1, 0], 47), (47, 1, [4], 48), (48, 5, [2], 49), (49, 2, [2, 0], 50), (50, 5, [0], 51), (51, 11, [], 52), (52, 22, [0], 53)]
def sm_c85 : List (Nat × Smi) := [(0, 2, [1, 0], 1), (1, 6, [2, 9], 4), (4, 2, [1, 0], 5), (5, 1, [5], 6), (6, 7, [5, 12], 9), (9, 1, [-2], 11), (11, 22, [0], 12), (12, 2, [1, 0], 13), (13, 1, [2], 14), (14, 7, [5, 27], 17), (17, 2, [0, 2], 18), (18, 9, [9, 5], 21), (21, 6, [1, 27], 24), (24, 1, [-3], 26), (26, 22, [0], 27), (27, 2, [1, 0], 28), (28, 40, [0, 104, 64, 72, 80, 88, 96], 64), (64, 2, [0, 2], 65), (65, 9, [9, 0], 68), (68, 9, [4, 2], 71), (71, 22, [0], 72), (72, 2, [0, 2], 73), (73, 9, [9, 0], 76), (76, 9, [4, 3], 79), (79, 22, [0], 80), (80, 2, [0, 2], 81), (81, 9, [9, 0], 84), (84, 18, [86, 0], 87), (87, 22, [0], 88), (88, 2, [0, 2], 89), (89, 9, [9, 1], 92), (92, 9, [6, 5], 95), (95, 22, [0], 96), (96, 2, [0, 2], 97), (97, 9, [9, 1], 100), (100, 9, [6, 4], 103), (103, 22, [0], 104), (104, 2, [0, 2], 105), (105, 9, [9, 0], 108), (108, 18, [87, 0], 111), (111, 22, [0], 112)]
def sm_c86 : List (Nat × Smi) := [(0, 1, [0], 1), (1, 3, [1, 0], 2), (2, 1, [0], 3), (3, 3, [2, 0], 4), (4, 2, [2, 0], 5), (5, 2, [0, 2], 6), (6, 9, [4, 3], 9), (9, 7, [3, 30], 12), (12, 2, [1, 0], 13), (13, 2, [0, 2], 14), (14, 9, [4, 1], 17), (17, 2, [2, 0], 18), (18, 15, [], 19), (19, 9, [3, 3], 22), (22, 5, [0], 23), (23, 3, [1, 0], 24), (24, 4, [2, 1], 27), (27, 8, [4], 30), (30, 2, [1, 0], 31), (31, 22, [0], 32)]
def sm_c87 : List (Nat × Smi) := [(0, 1, [0], 1), (1, 3, [1, 0], 2), (2, 1, [0], 3), (3, 3, [2, 0], 4), (4, 2, [2, 0], 5), (5, 2, [0, 2], 6), (6, 9, [4, 3], 9), (9, 7, [3, 33], 12), (12, 2, [0, 2], 13), (13, 9, [4, 1], 16), (16, 2, [2, 0], 17), (17, 15, [], 18), (18, 18, [79, 0], 21), (21, 33, [27], 24), (24, 4, [1, 1], 27), (27, 4, [2, 1], 30), (30, 8, [4], 33), (33, 2, [1, 0], 34), (34, 22, [0], 35)]
def sm_c88 : List (Nat × Smi) := [(0, 2, [0, 2], 1), (1, 9, [9, 0], 4), (4, 2, [1, 0], 5), (5, 18, [18, 1], 8), (8, 6, [1, 14], 11), (11, 1, [-2], 13), (13, 22, [0], 14), (14, 2, [0, 2], 15), (15, 9, [9, 5], 18), (18, 6, [1, 24], 21), (21, 1, [-3], 23), (23, 22, [0], 24), (24, 2, [0, 2], 25), (25, 9, [9, 0], 28), (28, 9, [4, 0], 31), (31, 2, [1, 0], 32), (32, 15, [], 33), (33, 18, [89, 0], 36), (36, 22, [0], 37)]
def sm_c89 : List (Nat × Smi) := [(0, 2, [0, 2], 1), (1, 9, [8, 6], 4), (4, 1, [3], 5), (5, 7, [1, 10], 8), (8, 1, [4], 9), (9, 22, [0], 10), (10, 2, [0, 2], 11), (11, 9, [8, 6], 14), (14, 1, [1], 15), (15, 7, [0, 26], 18), (18, 2, [0, 2], 19), (19, 9, [8, 6], 22), (22, 1, [2], 23), (23, 7, [1, 36], 26), (26, 2, [0, 2], 27), (27, 9, [8, 0], 30), (30, 9, [1, 3], 33), (33, 8, [46], 36), (36, 2, [0, 2], 37), (37, 9, [8, 0], 40), (40, 9, [1, 1], 43), (43, 19, [90, 1], 46), (46, 22, [0], 47)]
def sm_c90 : List (Nat × Smi) := [(0, 2, [0, 0], 1), (1, 2, [0, 0], 2), (2, 1, [1], 3), (3, 5, [7], 4), (4, 1, [1431655765], 7), (7, 5, [8], 8), (8, 5, [1], 9), (9, 3, [0, 0], 10), (10, 2, [0, 0], 11), (11, 1, [858993459], 14), (14, 5, [8], 15), (15, 2, [0, 0], 16), (16, 1, [2], 17), (17, 5, [7], 18), (18, 1, [858993459], 21), (21, 5, [8], 22), (22, 5, [0], 23), (23, 3, [0, 0], 24), (24, 2, [0, 0], 25), (25, 2, [0, 0], 26), (26, 1, [4], 27), (27, 5, [7], 28), (28, 5, [0], 29), (29, 1, [252645135], 32), (32, 5, [8], 33), (33, 3, [0, 0], 34), (34, 2, [0, 0], 35), (35, 2, [0, 0], 36), (36, 1, [8], 38), (38, 5, [7], 39), (39, 5, [0], 40), (40, 3, [0, 0], 41), (41, 2, [0, 0], 42), (42, 2, [0, 0], 43), (43, 1, [16], 45), (45, 5, [7], 46), (46, 5, [0], 47), (47, 3, [0, 0], 48), (48, 2, [0, 0], 49), (49, 1, [63], 51), (51, 5, [8], 52), (52, 22, [0], 53)]
def sm_c91 : List (Nat × Smi) := [(0, 2, [0, 2], 1), (1, 9, [9, 0], 4), (4, 2, [1, 0], 5), (5, 18, [18, 1], 8), (8, 6, [0, 24], 11), (11, 2, [2, 0], 12), (12, 6, [2, 24], 15), (15, 2, [3, 0], 16), (16, 6, [2, 24], 19), (19, 2, [3, 0], 20), (20, 1, [1], 21), (21, 7, [5, 27], 24), (24, 1, [-2], 26), (26, 22, [0], 27), (27, 2, [0, 2], 28), (28, 9, [9, 5], 31), (31, 6, [1, 37], 34), (34, 1, [-3], 36), (36, 22, [0], 37), (37, 2, [0, 2], 38), (38, 9, [9, 0], 41), (41, 9, [4, 0], 44), (44, 2, [1, 0], 45), (45, 15, [], 46), (46, 3, [4, 2], 48), (48, 2, [2, 0], 49), (49, 2, [4, 2], 51), (51, 18, [89, 0], 54), (54, 7, [2, 59], 57), (57, 1, [-1], 58), (58, 22, [0], 59), (59, 2, [4, 2], 61), (61, 18, [92, 0], 64), (64, 2, [0, 2], 65), (65, 2, [3, 0], 66), (66, 6, [1, 78], 69), (69, 2, [4, 2], 71), (71, 2, [2, 0], 72), (72, 18, [95, 1], 75), (75, 8, [84], 78), (78, 2, [4, 2], 80), (80, 2, [2, 0], 81), (81, 18, [96, 1], 84), (84, 10, [9, 7], 87), (87, 1, [1], 88), (88, 22, [0], 89)]
def sm_c92 : List (Nat × Smi) := [(0, 2, [0, 2], 1), (1, 9, [8, 6], 4), (4, 6, [1, 39], 7), (7, 1, [0], 8), (8, 3, [1, 0], 9), (9, 1, [0], 10), (10, 3, [2, 0], 11), (11, 2, [2, 0], 12), (12, 1, [4], 13), (13, 7, [3, 38], 16), (16, 2, [0, 2], 17), (17, 9, [8, 1], 20), (20, 2, [2, 0], 21), (21, 15, [], 22), (22, 2, [2, 0], 23), (23, 2, [0, 2], 24), (24, 9, [8, 5], 27), (27, 2, [1, 0], 28), (28, 18, [93, 3], 31), (31, 3, [1, 0], 32), (32, 4, [2, 1], 35), (35, 8, [11], 38), (38, 21, [], 39), (39, 1, [0], 40), (40, 3, [1, 0], 41), (41, 1, [0], 42), (42, 3, [2, 0], 43), (43, 2, [2, 0], 44), (44, 1, [32], 46), (46, 7, [3, 79], 49), (49, 2, [0, 2], 50), (50, 9, [8, 0], 53), (53, 2, [2, 0], 54), (54, 18, [51, 1], 57), (57, 6, [0, 73], 60), (60, 2, [0, 2], 61), (61, 9, [8, 5], 64), (64, 2, [1, 0], 65), (65, 1, [31], 67), (67, 5, [8], 68), (68, 2, [2, 0], 69), (69, 12, [], 70), (70, 4, [1, 1], 73), (73, 4, [2, 1], 76), (76, 8, [43], 79), (79, 21, [], 80)]
def sm_c93 : List (Nat × Smi) := [(0, 2, [0, 2], 1), (1, 2, [0, 2], 2), (2, 9, [7, 0], 5), (5, 2, [1, 0], 6), (6, 2, [2, 2], 7), (7, 2, [3, 0], 8), (8, 18, [94, 4], 11), (11, 3, [4, 0], 13), (13, 2, [0, 2], 14), (14, 2, [0, 2], 15), (15, 9, [7, 1], 18), (18, 2, [1, 0], 19), (19, 2, [2, 2], 20), (20, 2, [4, 0], 22), (22, 18, [94, 4], 25), (25, 22, [0], 26)]
def sm_c94 : List (Nat × Smi) := [(0, 2, [4, 0], 2), (2, 3, [5, 0], 4), (4, 1, [0], 5), (5, 3, [6, 0], 7), (7, 2, [6, 0], 9), (9, 1, [8], 11), (11, 7, [3, 80], 14), (14, 2, [1, 2], 15), (15, 2, [6, 0], 17), (17, 11, [], 18), (18, 3, [7, 0], 20), (20, 1, [0], 21), (21, 3, [8, 0], 23), (23, 2, [8, 0], 25), (25, 1, [8], 27), (27, 7, [3, 74], 30), (30, 2, [7, 0], 32), (32, 1, [-1], 33), (33, 7, [0, 74], 36), (36, 2, [5, 0], 38), (38, 2, [3, 2], 39), (39, 17, [], 40), (40, 7, [3, 74], 43), (43, 2, [3, 2], 44), (44, 2, [5, 0], 46), (46, 1, [4], 47), (47, 2, [7, 0], 49), (49, 5, [2], 50), (50, 2, [2, 0], 51), (51, 5, [0], 52), (52, 12, [], 53), (53, 4, [5, 1], 56), (56, 2, [0, 2], 57), (57, 9, [7, 2], 60), (60, 2, [7, 0], 62), (62, 1, [7], 64), (64, 5, [8], 65), (65, 11, [], 66), (66, 3, [7, 0], 68), (68, 4, [8, 1], 71), (71, 8, [23], 74), (74, 4, [6, 1], 77), (77, 8, [7], 80), (80, 2, [5, 0], 82), (82, 22, [0], 83)]
def sm_c95 : List (Nat × Smi) := [(0, 2, [0, 2], 1), (1, 9, [8, 6], 4), (4, 1, [1], 5), (5, 7, [0, 24], 8), (8, 2, [0, 2], 9), (9, 9, [8, 6], 12), (12, 1, [2], 13), (13, 7, [0, 24], 16), (16, 2, [0, 2], 17), (17, 9, [8, 6], 20), (20, 1, [3], 21), (21, 7, [1, 28], 24), (24, 2, [1, 0], 25), (25, 8, [37], 28), (28, 2, [0, 2], 29), (29, 9, [8, 5], 32), (32, 2, [1, 0], 33), (33, 1, [31], 35), (35, 5, [8], 36), (36, 11, [], 37), (37, 22, [0], 38)]
def sm_c96 : List (Nat × Smi) := [(0, 2, [0, 2], 1), (1, 9, [8, 6], 4), (4, 1, [1], 5), (5, 7, [0, 16], 8), (8, 2, [0, 2], 9), (9, 9, [8, 6], 12), (12, 1, [2], 13), (13, 7, [1, 27], 16), (16, 2, [0, 2], 17), (17, 9, [8, 0], 20), (20, 2, [1, 0], 21), (21, 18, [97, 1], 24), (24, 8, [39], 27), (27, 2, [0, 2], 28), (28, 9, [8, 0], 31), (31, 2, [0, 2], 32), (32, 2, [1, 0], 33), (33, 18, [95, 1], 36), (36, 18, [52, 1], 39), (39, 22, [0], 40)]
def sm_c97 : List (Nat × Smi) := [(0, 2, [0, 2], 1), (1, 9, [1, 0], 4), (4, 2, [0, 2], 5), (5, 9, [1, 2], 8), (8, 2, [1, 0], 9), (9, 5, [0], 10), (10, 1, [63], 12), (12, 5, [8], 13), (13, 11, [], 14), (14, 22, [0], 15)]
def sm_c98 : List (Nat × Smi) := [(0, 2, [0, 2], 1), (1, 9, [9, 7], 4), (4, 22, [0], 5)]
def sm_c99 : List (Nat × Smi) := [(0, 2, [0, 2], 1), (1, 9, [9, 0], 4), (4, 2, [1, 0], 5), (5, 18, [18, 1], 8), (8, 6, [0, 20], 11), (11, 2, [2, 0], 12), (12, 6, [2, 20], 15), (15, 2, [2, 0], 16), (16, 1, [5], 17), (17, 7, [5, 23], 20), (20, 1, [-2], 22), (22, 22, [0], 23), (23, 2, [0, 2], 24), (24, 9, [9, 0], 27), (27, 9, [4, 0], 30), (30, 2, [1, 0], 31), (31, 15, [], 32), (32, 3, [3, 2], 33), (33, 2, [2, 0], 34), (34, 1, [2], 35), (35, 7, [4, 42], 38), (38, 1, [0], 39), (39, 8, [52], 42), (42, 2, [2, 0], 43), (43, 1, [3], 44), (44, 7, [1, 51], 47), (47, 1, [2], 48), (48, 8, [52], 51), (51, 1, [5], 52), (52, 3, [4, 0], 54), (54, 2, [3, 2], 55), (55, 9, [8, 6], 58), (58, 2, [4, 0], 60), (60, 7, [0, 66], 63), (63, 1, [-2], 65), (65, 22, [0], 66), (66, 2, [0, 2], 67), (67, 9, [9, 5], 70), (70, 6, [1, 76], 73), (73, 1, [-3], 75), (75, 22, [0], 76), (76, 2, [2, 0], 77), (77, 40, [0, 148, 112, 117, 122, 127, 143], 112), (112, 2, [3, 2], 113), (113, 18, [100, 0], 116), (116, 22, [0], 117), (117, 2, [3, 2], 118), (118, 18, [101, 0], 121), (121, 22, [0], 122), (122, 2, [3, 2], 123), (123, 18, [102, 0], 126), (126, 22, [0], 127), (127, 2, [3, 2], 128), (128, 9, [8, 0], 131), (131, 9, [1, 4], 134), (134, 6, [5, 141], 137), (137, 1, [1], 138), (138, 8, [142], 141), (141, 1, [0], 142), (142, 22, [0], 143), (143, 2, [3, 2], 144), (144, 9, [8, 10], 147), (147, 22, [0], 148), (148, 2, [3, 2], 149), (149, 9, [8, 11], 152), (152, 22, [0], 153)]
def sm_c100 : List (Nat × Smi) := [(0, 1, [0], 1), (1, 3, [1, 0], 2), (2, 1, [0], 3), (3, 3, [2, 0], 4), (4, 2, [2, 0], 5), (5, 1, [4], 6), (6, 7, [3, 27], 9), (9, 2, [1, 0], 10), (10, 2, [0, 2], 11), (11, 9, [8, 1], 14), (14, 2, [2, 0], 15), (15, 15, [], 16), (16, 9, [7, 7], 19), (19, 5, [0], 20), (20, 3, [1, 0], 21), (21, 4, [2, 1], 24), (24, 8, [4], 27), (27, 2, [1, 0], 28), (28, 22, [0], 29)]
def sm_c101 : List (Nat × Smi) := [(0, 1, [0], 1), (1, 3, [1, 0], 2), (2, 1, [0], 3), (3, 3, [2, 0], 4), (4, 2, [2, 0], 5), (5, 1, [4], 6), (6, 7, [3, 27], 9), (9, 2, [1, 0], 10), (10, 2, [0, 2], 11), (11, 9, [8, 1], 14), (14, 2, [2, 0], 15), (15, 15, [], 16), (16, 9, [7, 8], 19), (19, 5, [0], 20), (20, 3, [1, 0], 21), (21, 4, [2, 1], 24), (24, 8, [4], 27), (27, 2, [1, 0], 28), (28, 22, [0], 29)]
def sm_c102 : List (Nat × Smi) := [(0, 1, [0], 1), (1, 3, [1, 0], 2), (2, 1, [0], 3), (3, 3, [2, 0], 4), (4, 2, [2, 0], 5), (5, 1, [4], 6), (6, 7, [3, 27], 9), (9, 2, [1, 0], 10), (10, 2, [0, 2], 11), (11, 9, [8, 1], 14), (14, 2, [2, 0], 15), (15, 15, [], 16), (16, 18, [103, 0], 19), (19, 5, [0], 20), (20, 3, [1, 0], 21), (21, 4, [2, 1], 24), (24, 8, [4], 27), (27, 2, [1, 0], 28), (28, 22, [0], 29)]
def sm_c103 : List (Nat × Smi) := [(0, 2, [0, 2], 1), (1, 9, [7, 5], 4), (4, 6, [0, 16], 7), (7, 1, [2], 8), (8, 2, [0, 2], 9), (9, 9, [7, 3], 12), (12, 5, [2], 13), (13, 8, [20], 16), (16, 2, [0, 2], 17), (17, 9, [7, 3], 20), (20, 22, [0], 21)]
def sm_c104 : List (Nat × Smi) := [(0, 2, [0, 2], 1), (1, 9, [9, 0], 4), (4, 2, [1, 0], 5), (5, 18, [18, 1], 8), (8, 6, [1, 14], 11), (11, 1, [-2], 13), (13, 22, [0], 14), (14, 2, [0, 2], 15), (15, 9, [9, 5], 18), (18, 6, [1, 24], 21), (21, 1, [-3], 23), (23, 22, [0], 24), (24, 2, [0, 2], 25), (25, 2, [1, 0], 26), (26, 18, [105, 1], 29), (29, 22, [0], 30)]
def sm_c105 : List (Nat × Smi) := [(0, 2, [0, 2], 1), (1, 9, [9, 2], 4), (4, 2, [1, 0], 5), (5, 1, [3000], 8), (8, 18, [106, 2], 11), (11, 3, [2, 0], 12), (12, 2, [2, 0], 13), (13, 1, [-1], 14), (14, 7, [0, 28], 17), (17, 2, [0, 2], 18), (18, 2, [0, 2], 19), (19, 9, [9, 2], 22), (22, 9, [2, 11], 25), (25, 10, [9, 6], 28), (28, 2, [2, 0], 29), (29, 22, [0], 30)]
def sm_c106 : List (Nat × Smi) := [(0, 2, [0, 2], 1), (1, 1, [0], 2), (2, 10, [2, 9], 5), (5, 2, [0, 2], 6), (6, 9, [2, 1], 9), (9, 9, [6, 6], 12), (12, 1, [2], 13), (13, 7, [0, 35], 16), (16, 2, [0, 2], 17), (17, 9, [2, 0], 20), (20, 2, [1, 0], 21), (21, 18, [18, 1], 24), (24, 6, [0, 35], 27), (27, 2, [0, 2], 28), (28, 2, [1, 0], 29), (29, 18, [107, 1], 32), (32, 6, [1, 37], 35), (35, 1, [-1], 36), (36, 22, [0], 37), (37, 2, [0, 2], 38), (38, 2, [0, 2], 39), (39, 9, [2, 0], 42), (42, 9, [4, 0], 45), (45, 2, [1, 0], 46), (46, 15, [], 47), (47, 9, [8, 6], 50), (50, 10, [2, 6], 53), (53, 2, [0, 2], 54), (54, 2, [0, 2], 55), (55, 9, [2, 0], 58), (58, 9, [4, 0], 61), (61, 2, [1, 0], 62), (62, 15, [], 63), (63, 9, [8, 7], 66), (66, 10, [2, 7], 69), (69, 2, [0, 2], 70), (70, 2, [0, 2], 71), (71, 9, [2, 0], 74), (74, 9, [4, 0], 77), (77, 2, [1, 0], 78), (78, 15, [], 79), (79, 9, [8, 0], 82), (82, 10, [2, 8], 85), (85, 2, [0, 2], 86), (86, 2, [2, 0], 87), (87, 10, [2, 12], 90), (90, 2, [0, 2], 91), (91, 1, [0], 92), (92, 10, [2, 11], 95), (95, 2, [0, 2], 96), (96, 1, [0], 97), (97, 10, [2, 10], 100), (100, 2, [0, 2], 101), (101, 9, [2, 2], 104), (104, 18, [29, 0], 107), (107, 2, [0, 2], 108), (108, 18, [109, 0], 111), (111, 2, [0, 2], 112), (112, 1, [0], 113), (113, 19, [110, 2], 116), (116, 22, [0], 117)]
def sm_c107 : List (Nat × Smi) := [(0, 1, [0], 1), (1, 3, [2, 0], 2), (2, 2, [2, 0], 3), (3, 2, [0, 2], 4), (4, 9, [2, 1], 7), (7, 9, [6, 4], 10), (10, 7, [3, 154], 13), (13, 2, [2, 0], 14), (14, 1, [80], 16), (16, 7, [3, 154], 19), (19, 2, [2, 0], 20), (20, 1, [4], 21), (21, 5, [2], 22), (22, 3, [3, 0], 23), (23, 2, [0, 2], 24), (24, 9, [2, 1], 27), (27, 9, [6, 1], 30), (30, 2, [3, 0], 31), (31, 11, [], 32), (32, 3, [4, 0], 34), (34, 2, [0, 2], 35), (35, 9, [2, 1], 38), (38, 9, [6, 1], 41), (41, 2, [3, 0], 42), (42, 1, [1], 43), (43, 5, [0], 44), (44, 11, [], 45), (45, 3, [5, 0], 47), (47, 2, [0, 2], 48), (48, 9, [2, 1], 51), (51, 9, [6, 1], 54), (54, 2, [3, 0], 55), (55, 1, [2], 56), (56, 5, [0], 57), (57, 11, [], 58), (58, 6, [1, 148], 61), (61, 2, [0, 2], 62), (62, 9, [2, 0], 65), (65, 2, [4, 0], 67), (67, 2, [5, 0], 69), (69, 18, [23, 2], 72), (72, 6, [1, 78], 75), (75, 8, [148], 78), (78, 2, [0, 2], 79), (79, 9, [2, 0], 82), (82, 9, [4, 1], 85), (85, 2, [4, 0], 87), (87, 15, [], 88), (88, 9, [3, 1], 91), (91, 2, [5, 0], 93), (93, 15, [], 94), (94, 3, [6, 2], 96), (96, 2, [6, 2], 98), (98, 9, [0, 2], 101), (101, 2, [1, 0], 102), (102, 7, [1, 148], 105), (105, 2, [6, 2], 107), (107, 18, [108, 0], 110), (110, 6, [1, 116], 113), (113, 8, [148], 116), (116, 2, [0, 2], 117), (117, 9, [2, 9], 120), (120, 1, [12], 122), (122, 7, [2, 127], 125), (125, 1, [0], 126), (126, 22, [1], 127), (127, 2, [0, 2], 128), (128, 9, [2, 3], 131), (131, 2, [0, 2], 132), (132, 9, [2, 9], 135), (135, 2, [6, 2], 137), (137, 16, [], 138), (138, 2, [0, 2], 139), (139, 25, [], 140), (140, 9, [2, 9], 143), (143, 1, [1], 144), (144, 5, [0], 145), (145, 10, [2, 9], 148), (148, 4, [2, 1], 151), (151, 8, [2], 154), (154, 1, [1], 155), (155, 22, [1], 156)]
def sm_c108 : List (Nat × Smi) := [(0, 2, [0, 2], 1), (1, 9, [0, 15], 4), (4, 1, [4], 5), (5, 7, [3, 12], 8), (8, 1, [1], 9), (9, 8, [13], 12), (12, 1, [0], 13), (13, 22, [1], 14)]
def sm_c109 : List (Nat × Smi) := [(0, 1, [0], 1), (1, 3, [1, 0], 2), (2, 2, [1, 0], 3), (3, 2, [0, 2], 4), (4, 9, [2, 9], 7), (7, 7, [3, 72], 10), (10, 2, [0, 2], 11), (11, 9, [2, 4], 14), (14, 2, [1, 0], 15), (15, 1, [0], 16), (16, 12, [], 17), (17, 1, [0], 18), (18, 3, [2, 0], 19), (19, 2, [2, 0], 20), (20, 2, [0, 2], 21), (21, 9, [2, 9], 24), (24, 7, [3, 66], 27), (27, 2, [0, 2], 28), (28, 9, [2, 3], 31), (31, 2, [2, 0], 32), (32, 15, [], 33), (33, 9, [0, 18], 36), (36, 2, [0, 2], 37), (37, 9, [2, 3], 40), (40, 2, [1, 0], 41), (41, 15, [], 42), (42, 9, [0, 17], 45), (45, 7, [3, 60], 48), (48, 2, [0, 2], 49), (49, 9, [2, 4], 52), (52, 2, [1, 0], 53), (53, 26, [], 54), (54, 11, [], 55), (55, 1, [1], 56), (56, 2, [2, 0], 57), (57, 5, [5], 58), (58, 5, [9], 59), (59, 12, [], 60), (60, 4, [2, 1], 63), (63, 8, [19], 66), (66, 4, [1, 1], 69), (69, 8, [2], 72), (72, 21, [], 73)]
def sm_c110 : List (Nat × Smi) := [(0, 2, [1, 0], 1), (1, 2, [0, 2], 2), (2, 9, [2, 9], 5), (5, 7, [3, 14], 8), (8, 2, [1, 0], 9), (9, 1, [12], 11), (11, 7, [2, 38], 14), (14, 2, [0, 2], 15), (15, 9, [2, 2], 18), (18, 2, [0, 2], 19), (19, 9, [2, 6], 22), (22, 2, [0, 2], 23), (23, 9, [2, 8], 26), (26, 18, [111, 2], 29), (29, 6, [0, 36], 32), (32, 1, [1], 33), (33, 8, [37], 36), (36, 1, [0], 37), (37, 22, [0], 38), (38, 1, [0], 39), (39, 3, [2, 0], 40), (40, 2, [2, 0], 41), (41, 2, [0, 2], 42), (42, 9, [2, 9], 45), (45, 7, [3, 197], 48), (48, 2, [0, 2], 49), (49, 9, [2, 10], 52), (52, 2, [2, 0], 53), (53, 5, [7], 54), (54, 1, [1], 55), (55, 5, [8], 56), (56, 6, [0, 62], 59), (59, 8, [191], 62), (62, 2, [0, 2], 63), (63, 9, [2, 11], 66), (66, 2, [0, 2], 67), (67, 9, [2, 12], 70), (70, 7, [2, 76], 73), (73, 1, [-5], 75), (75, 22, [0], 76), (76, 2, [0, 2], 77), (77, 25, [], 78), (78, 9, [2, 11], 81), (81, 1, [1], 82), (82, 5, [0], 83), (83, 10, [2, 11], 86), (86, 2, [0, 2], 87), (87, 9, [2, 3], 90), (90, 2, [2, 0], 91), (91, 15, [], 92), (92, 3, [3, 2], 93), (93, 2, [0, 2], 94), (94, 9, [2, 4], 97), (97, 2, [2, 0], 98), (98, 11, [], 99), (99, 2, [0, 2], 100), (100, 9, [2, 10], 103), (103, 1, [-1], 104), (104, 5, [10], 105), (105, 5, [8], 106), (106, 6, [1, 191], 109), (109, 2, [0, 2], 110), (110, 2, [3, 2], 111), (111, 18, [114, 1], 114), (114, 6, [1, 120], 117), (117, 8, [191], 120), (120, 2, [0, 2], 121), (121, 9, [2, 2], 124), (124, 9, [1, 1], 127), (127, 3, [4, 0], 129), (129, 2, [0, 2], 130), (130, 2, [3, 2], 131), (131, 18, [121, 1], 134), (134, 2, [0, 2], 135), (135, 25, [], 136), (136, 9, [2, 10], 139), (139, 1, [1], 140), (140, 2, [2, 0], 141), (141, 5, [5], 142), (142, 5, [9], 143), (143, 10, [2, 10], 146), (146, 2, [0, 2], 147), (147, 9, [2, 5], 150), (150, 2, [1, 0], 151), (151, 2, [2, 0], 152), (152, 12, [], 153), (153, 2, [0, 2], 154), (154, 2, [1, 0], 155), (155, 1, [1], 156), (156, 5, [0], 157), (157, 19, [110, 2], 160), (160, 3, [5, 0], 162), (162, 2, [5, 0], 164), (164, 6, [0, 170], 167), (167, 2, [5, 0], 169), (169, 22, [0], 170), (170, 2, [0, 2], 171), (171, 25, [], 172), (172, 9, [2, 10], 175), (175, 1, [1], 176), (176, 2, [2, 0], 177), (177, 5, [5], 178), (178, 1, [-1], 179), (179, 5, [10], 180), (180, 5, [8], 181), (181, 10, [2, 10], 184), (184, 2, [0, 2], 185), (185, 2, [3, 2], 186), (186, 2, [4, 0], 188), (188, 18, [123, 2], 191), (191, 4, [2, 1], 194), (194, 8, [40], 197), (197, 1, [0], 198), (198, 22, [0], 199)]
def sm_c111 : List (Nat × Smi) := [(0, 2, [1, 0], 1), (1, 40, [1, 51, 28, 28, 34], 28), (28, 2, [0, 2], 29), (29, 2, [2, 2], 30), (30, 18, [112, 1], 33), (33, 22, [1], 34), (34, 2, [0, 2], 35), (35, 18, [55, 0], 38), (38, 2, [2, 2], 39), (39, 18, [55, 0], 42), (42, 7, [1, 49], 45), (45, 1, [1], 46), (46, 8, [50], 49), (49, 1, [0], 50), (50, 22, [1], 51), (51, 2, [0, 2], 52), (52, 2, [2, 2], 53), (53, 18, [113, 1], 56), (56, 22, [1], 57)]
def sm_c112 : List (Nat × Smi) := [(0, 2, [0, 2], 1), (1, 9, [1, 3], 4), (4, 2, [1, 2], 5), (5, 9, [1, 3], 8), (8, 7, [1, 38], 11), (11, 2, [0, 2], 12), (12, 9, [1, 4], 15), (15, 6, [5, 22], 18), (18, 1, [1], 19), (19, 8, [23], 22), (22, 1, [0], 23), (23, 2, [1, 2], 24), (24, 9, [1, 4], 27), (27, 6, [5, 34], 30), (30, 1, [1], 31), (31, 8, [35], 34), (34, 1, [0], 35), (35, 7, [0, 40], 38), (38, 1, [0], 39), (39, 22, [1], 40), (40, 1, [0], 41), (41, 3, [2, 0], 42), (42, 2, [2, 0], 43), (43, 2, [0, 2], 44), (44, 9, [1, 3], 47), (47, 7, [3, 71], 50), (50, 2, [0, 2], 51), (51, 2, [2, 0], 52), (52, 18, [97, 1], 55), (55, 2, [1, 2], 56), (56, 2, [2, 0], 57), (57, 18, [97, 1], 60), (60, 7, [0, 65], 63), (63, 1, [0], 64), (64, 22, [1], 65), (65, 4, [2, 1], 68), (68, 8, [42], 71), (71, 1, [1], 72), (72, 22, [1], 73)]
def sm_c113 : List (Nat × Smi) := [(0, 2, [0, 2], 1), (1, 9, [1, 1], 4), (4, 2, [1, 2], 5), (5, 9, [1, 1], 8), (8, 7, [0, 13], 11), (11, 1, [0], 12), (12, 22, [1], 13), (13, 1, [0], 14), (14, 3, [2, 0], 15), (15, 2, [2, 0], 16), (16, 1, [32], 18), (18, 7, [3, 52], 21), (21, 2, [0, 2], 22), (22, 2, [2, 0], 23), (23, 18, [51, 1], 26), (26, 6, [0, 46], 29), (29, 2, [0, 2], 30), (30, 9, [1, 0], 33), (33, 2, [2, 0], 34), (34, 11, [], 35), (35, 2, [1, 2], 36), (36, 9, [1, 0], 39), (39, 2, [2, 0], 40), (40, 11, [], 41), (41, 7, [0, 46], 44), (44, 1, [0], 45), (45, 22, [1], 46), (46, 4, [2, 1], 49), (49, 8, [15], 52), (52, 1, [1], 53), (53, 22, [1], 54)]
def sm_c114 : List (Nat × Smi) := [(0, 2, [0, 2], 1), (1, 9, [2, 6], 4), (4, 40, [0, 192, 40, 72, 119, 125, 166], 40), (40, 2, [1, 2], 41), (41, 9, [0, 3], 44), (44, 1, [3], 45), (45, 7, [1, 66], 48), (48, 2, [1, 2], 49), (49, 2, [0, 2], 50), (50, 2, [1, 2], 51), (51, 9, [0, 4], 54), (54, 18, [115, 1], 57), (57, 2, [1, 2], 58), (58, 9, [0, 5], 61), (61, 5, [0], 62), (62, 19, [116, 2], 65), (65, 22, [1], 66), (66, 2, [0, 2], 67), (67, 2, [1, 2], 68), (68, 18, [117, 1], 71), (71, 22, [1], 72), (72, 2, [1, 2], 73), (73, 9, [0, 3], 76), (76, 6, [1, 88], 79), (79, 2, [1, 2], 80), (80, 2, [1, 2], 81), (81, 9, [0, 4], 84), (84, 19, [116, 2], 87), (87, 22, [1], 88), (88, 2, [0, 2], 89), (89, 9, [2, 2], 92), (92, 9, [1, 3], 95), (95, 6, [5, 112], 98), (98, 2, [1, 2], 99), (99, 2, [0, 2], 100), (100, 9, [2, 2], 103), (103, 18, [54, 0], 106), (106, 19, [116, 2], 109), (109, 8, [118], 112), (112, 2, [1, 2], 113), (113, 1, [1], 114), (114, 1, [0], 115), (115, 19, [118, 3], 118), (118, 22, [1], 119), (119, 2, [0, 2], 120), (120, 2, [1, 2], 121), (121, 18, [119, 1], 124), (124, 22, [1], 125), (125, 2, [1, 2], 126), (126, 9, [0, 3], 129), (129, 1, [1], 130), (130, 7, [1, 145], 133), (133, 2, [1, 2], 134), (134, 2, [0, 2], 135), (135, 9, [2, 2], 138), (138, 18, [55, 0], 141), (141, 19, [116, 2], 144), (144, 22, [1], 145), (145, 2, [1, 2], 146), (146, 2, [0, 2], 147), (147, 9, [2, 2], 150), (150, 2, [1, 2], 151), (151, 9, [0, 8], 154), (154, 18, [52, 1], 157), (157, 2, [1, 2], 158), (158, 9, [0, 4], 161), (161, 5, [0], 162), (162, 19, [116, 2], 165), (165, 22, [1], 166), (166, 2, [1, 2], 167), (167, 9, [0, 3], 170), (170, 1, [3], 171), (171, 7, [1, 186], 174), (174, 2, [1, 2], 175), (175, 2, [0, 2], 176), (176, 9, [2, 2], 179), (179, 18, [56, 0], 182), (182, 19, [116, 2], 185), (185, 22, [1], 186), (186, 2, [0, 2], 187), (187, 2, [1, 2], 188), (188, 18, [117, 1], 191), (191, 22, [1], 192), (192, 2, [0, 2], 193), (193, 2, [1, 2], 194), (194, 18, [120, 1], 197), (197, 22, [1], 198)]
def sm_c115 : List (Nat × Smi) := [(0, 2, [0, 2], 1), (1, 9, [2, 2], 4), (4, 2, [1, 0], 5), (5, 18, [51, 1], 8), (8, 6, [0, 22], 11), (11, 2, [0, 2], 12), (12, 9, [2, 2], 15), (15, 2, [1, 0], 16), (16, 18, [52, 1], 19), (19, 8, [23], 22), (22, 1, [0], 23), (23, 22, [0], 24)]
def sm_c116 : List (Nat × Smi) := [(0, 2, [0, 2], 1), (1, 9, [0, 15], 4), (4, 6, [1, 19], 7), (7, 2, [0, 2], 8), (8, 9, [0, 16], 11), (11, 2, [1, 0], 12), (12, 7, [1, 19], 15), (15, 1, [1], 16), (16, 8, [20], 19), (19, 1, [0], 20), (20, 22, [1], 21)]
def sm_c117 : List (Nat × Smi) := [(0, 2, [0, 2], 1), (1, 9, [2, 2], 4), (4, 2, [1, 2], 5), (5, 9, [0, 4], 8), (8, 18, [51, 1], 11), (11, 6, [1, 21], 14), (14, 2, [1, 2], 15), (15, 1, [1], 16), (16, 1, [0], 17), (17, 19, [118, 3], 20), (20, 22, [1], 21), (21, 2, [1, 2], 22), (22, 2, [0, 2], 23), (23, 9, [2, 2], 26), (26, 2, [1, 2], 27), (27, 9, [0, 4], 30), (30, 18, [52, 1], 33), (33, 19, [116, 2], 36), (36, 22, [1], 37)]
def sm_c118 : List (Nat × Smi) := [(0, 2, [0, 2], 1), (1, 9, [0, 15], 4), (4, 2, [1, 0], 5), (5, 7, [1, 20], 8), (8, 2, [0, 2], 9), (9, 9, [0, 16], 12), (12, 2, [2, 0], 13), (13, 7, [1, 20], 16), (16, 1, [1], 17), (17, 8, [21], 20), (20, 1, [0], 21), (21, 22, [1], 22)]
def sm_c119 : List (Nat × Smi) := [(0, 2, [0, 2], 1), (1, 9, [2, 2], 4), (4, 9, [1, 4], 7), (7, 6, [5, 14], 10), (10, 1, [1], 11), (11, 8, [15], 14), (14, 1, [0], 15), (15, 3, [2, 0], 16), (16, 2, [1, 2], 17), (17, 9, [0, 3], 20), (20, 40, [0, 104, 56, 56, 104, 104, 98], 56), (56, 2, [2, 0], 57), (57, 6, [0, 67], 60), (60, 2, [1, 2], 61), (61, 1, [2], 62), (62, 1, [0], 63), (63, 19, [118, 3], 66), (66, 22, [1], 67), (67, 2, [0, 2], 68), (68, 9, [2, 2], 71), (71, 9, [1, 3], 74), (74, 2, [0, 2], 75), (75, 9, [2, 7], 78), (78, 7, [3, 96], 81), (81, 2, [1, 2], 82), (82, 2, [1, 2], 83), (83, 9, [0, 4], 86), (86, 19, [116, 2], 89), (89, 6, [0, 96], 92), (92, 1, [1], 93), (93, 8, [97], 96), (96, 1, [0], 97), (97, 22, [1], 98), (98, 2, [1, 2], 99), (99, 1, [0], 100), (100, 19, [116, 2], 103), (103, 22, [1], 104), (104, 2, [0, 2], 105), (105, 9, [2, 2], 108), (108, 9, [1, 3], 111), (111, 6, [4, 133], 114), (114, 2, [2, 0], 115), (115, 6, [0, 131], 118), (118, 2, [1, 2], 119), (119, 1, [2], 120), (120, 1, [0], 121), (121, 19, [118, 3], 124), (124, 6, [0, 131], 127), (127, 1, [1], 128), (128, 8, [132], 131), (131, 1, [0], 132), (132, 22, [1], 133), (133, 2, [1, 2], 134), (134, 2, [1, 2], 135), (135, 9, [0, 3], 138), (138, 1, [2], 139), (139, 7, [1, 152], 142), (142, 2, [0, 2], 143), (143, 9, [2, 2], 146), (146, 18, [54, 0], 149), (149, 8, [159], 152), (152, 2, [0, 2], 153), (153, 9, [2, 2], 156), (156, 18, [61, 0], 159), (159, 19, [116, 2], 162), (162, 22, [1], 163)]
def sm_c120 : List (Nat × Smi) := [(0, 2, [1, 2], 1), (1, 9, [0, 15], 4), (4, 1, [3], 5), (5, 7, [0, 19], 8), (8, 2, [1, 2], 9), (9, 2, [1, 2], 10), (10, 18, [77, 0], 13), (13, 19, [116, 2], 16), (16, 6, [0, 39], 19), (19, 2, [0, 2], 20), (20, 9, [2, 2], 23), (23, 2, [1, 2], 24), (24, 9, [0, 4], 27), (27, 18, [51, 1], 30), (30, 6, [1, 37], 33), (33, 1, [1], 34), (34, 8, [38], 37), (37, 1, [0], 38), (38, 22, [1], 39), (39, 2, [0, 2], 40), (40, 9, [2, 2], 43), (43, 2, [1, 2], 44), (44, 9, [0, 4], 47), (47, 18, [51, 1], 50), (50, 6, [0, 75], 53), (53, 2, [1, 2], 54), (54, 2, [0, 2], 55), (55, 9, [2, 2], 58), (58, 2, [1, 2], 59), (59, 9, [0, 4], 62), (62, 18, [52, 1], 65), (65, 19, [116, 2], 68), (68, 6, [0, 75], 71), (71, 1, [1], 72), (72, 8, [76], 75), (75, 1, [0], 76), (76, 22, [1], 77)]
def sm_c121 : List (Nat × Smi) := [(0, 2, [0, 2], 1), (1, 9, [2, 6], 4), (4, 40, [0, 192, 40, 120, 151, 166, 40], 40), (40, 2, [1, 2], 41), (41, 9, [0, 3], 44), (44, 6, [1, 65], 47), (47, 2, [0, 2], 48), (48, 9, [2, 2], 51), (51, 2, [1, 2], 52), (52, 9, [0, 4], 55), (55, 2, [1, 2], 56), (56, 9, [0, 5], 59), (59, 18, [70, 2], 62), (62, 8, [214], 65), (65, 2, [1, 2], 66), (66, 9, [0, 3], 69), (69, 1, [2], 70), (70, 7, [1, 87], 73), (73, 2, [0, 2], 74), (74, 9, [2, 2], 77), (77, 2, [1, 2], 78), (78, 9, [0, 4], 81), (81, 18, [68, 1], 84), (84, 8, [214], 87), (87, 2, [0, 2], 88), (88, 9, [2, 6], 91), (91, 6, [1, 214], 94), (94, 2, [1, 2], 95), (95, 9, [0, 3], 98), (98, 1, [3], 99), (99, 7, [1, 214], 102), (102, 2, [0, 2], 103), (103, 9, [2, 2], 106), (106, 2, [1, 2], 107), (107, 9, [0, 4], 110), (110, 2, [1, 2], 111), (111, 9, [0, 16], 114), (114, 18, [70, 2], 117), (117, 8, [214], 120), (120, 2, [1, 2], 121), (121, 9, [0, 3], 124), (124, 6, [1, 141], 127), (127, 2, [0, 2], 128), (128, 9, [2, 2], 131), (131, 2, [1, 2], 132), (132, 9, [0, 4], 135), (135, 18, [71, 1], 138), (138, 8, [214], 141), (141, 2, [0, 2], 142), (142, 9, [2, 2], 145), (145, 18, [72, 0], 148), (148, 8, [214], 151), (151, 2, [1, 2], 152), (152, 9, [0, 15], 155), (155, 6, [1, 214], 158), (158, 2, [0, 2], 159), (159, 2, [1, 2], 160), (160, 18, [122, 1], 163), (163, 8, [214], 166), (166, 2, [1, 2], 167), (167, 9, [0, 3], 170), (170, 1, [1], 171), (171, 7, [0, 214], 174), (174, 2, [0, 2], 175), (175, 9, [2, 2], 178), (178, 2, [1, 2], 179), (179, 9, [0, 8], 182), (182, 2, [1, 2], 183), (183, 9, [0, 16], 186), (186, 18, [70, 2], 189), (189, 8, [214], 192), (192, 2, [1, 2], 193), (193, 9, [0, 15], 196), (196, 6, [1, 214], 199), (199, 2, [0, 2], 200), (200, 9, [2, 2], 203), (203, 2, [1, 2], 204), (204, 9, [0, 4], 207), (207, 2, [1, 2], 208), (208, 9, [0, 16], 211), (211, 18, [70, 2], 214), (214, 21, [], 215)]
def sm_c122 : List (Nat × Smi) := [(0, 2, [1, 2], 1), (1, 9, [0, 3], 4), (4, 40, [0, 94, 40, 54, 68, 94, 78], 40), (40, 2, [0, 2], 41), (41, 9, [2, 2], 44), (44, 2, [1, 2], 45), (45, 9, [0, 4], 48), (48, 18, [71, 1], 51), (51, 8, [101], 54), (54, 2, [0, 2], 55), (55, 9, [2, 2], 58), (58, 2, [1, 2], 59), (59, 9, [0, 4], 62), (62, 18, [74, 1], 65), (65, 8, [101], 68), (68, 2, [0, 2], 69), (69, 9, [2, 2], 72), (72, 18, [72, 0], 75), (75, 8, [101], 78), (78, 2, [0, 2], 79), (79, 9, [2, 2], 82), (82, 25, [], 83), (83, 9, [1, 4], 86), (86, 1, [1], 87), (87, 5, [0], 88), (88, 10, [1, 4], 91), (91, 8, [101], 94), (94, 2, [0, 2], 95), (95, 9, [2, 2], 98), (98, 18, [75, 0], 101), (101, 21, [], 102)]
def sm_c123 : List (Nat × Smi) := [(0, 2, [0, 2], 1), (1, 9, [2, 6], 4), (4, 40, [0, 195, 40, 111, 149, 164, 40], 40), (40, 2, [1, 2], 41), (41, 9, [0, 3], 44), (44, 6, [0, 55], 47), (47, 2, [1, 2], 48), (48, 9, [0, 3], 51), (51, 1, [2], 52), (52, 7, [1, 73], 55), (55, 2, [0, 2], 56), (56, 9, [2, 2], 59), (59, 2, [1, 2], 60), (60, 9, [0, 4], 63), (63, 2, [1, 2], 64), (64, 9, [0, 16], 67), (67, 18, [70, 2], 70), (70, 8, [195], 73), (73, 2, [0, 2], 74), (74, 9, [2, 6], 77), (77, 6, [1, 195], 80), (80, 2, [1, 2], 81), (81, 9, [0, 3], 84), (84, 1, [3], 85), (85, 7, [1, 195], 88), (88, 2, [0, 2], 89), (89, 9, [2, 2], 92), (92, 2, [1, 2], 93), (93, 9, [0, 4], 96), (96, 2, [1, 2], 97), (97, 9, [0, 16], 100), (100, 2, [1, 2], 101), (101, 9, [0, 5], 104), (104, 5, [1], 105), (105, 18, [70, 2], 108), (108, 8, [195], 111), (111, 2, [1, 2], 112), (112, 9, [0, 3], 115), (115, 6, [1, 128], 118), (118, 2, [0, 2], 119), (119, 9, [2, 2], 122), (122, 18, [75, 0], 125), (125, 8, [195], 128), (128, 2, [1, 2], 129), (129, 9, [0, 15], 132), (132, 6, [1, 195], 135), (135, 2, [0, 2], 136), (136, 9, [2, 2], 139), (139, 2, [1, 2], 140), (140, 9, [0, 16], 143), (143, 18, [74, 1], 146), (146, 8, [195], 149), (149, 2, [1, 2], 150), (150, 9, [0, 15], 153), (153, 6, [1, 195], 156), (156, 2, [0, 2], 157), (157, 2, [1, 2], 158), (158, 18, [124, 1], 161), (161, 8, [195], 164), (164, 2, [1, 2], 165), (165, 9, [0, 3], 168), (168, 1, [1], 169), (169, 7, [0, 195], 172), (172, 2, [0, 2], 173), (173, 9, [2, 2], 176), (176, 2, [1, 2], 177), (177, 9, [0, 8], 180), (180, 2, [1, 2], 181), (181, 9, [0, 16], 184), (184, 2, [1, 2], 185), (185, 9, [0, 4], 188), (188, 5, [1], 189), (189, 18, [70, 2], 192), (192, 8, [195], 195), (195, 2, [0, 2], 196), (196, 9, [2, 2], 199), (199, 2, [2, 0], 200), (200, 10, [1, 1], 203), (203, 21, [], 204)]
def sm_c124 : List (Nat × Smi) := [(0, 2, [1, 2], 1), (1, 9, [0, 3], 4), (4, 40, [0, 90, 40, 50, 60, 90, 74], 40), (40, 2, [0, 2], 41), (41, 9, [2, 2], 44), (44, 18, [75, 0], 47), (47, 8, [101], 50), (50, 2, [0, 2], 51), (51, 9, [2, 2], 54), (54, 18, [72, 0], 57), (57, 8, [101], 60), (60, 2, [0, 2], 61), (61, 9, [2, 2], 64), (64, 2, [1, 2], 65), (65, 9, [0, 16], 68), (68, 18, [74, 1], 71), (71, 8, [101], 74), (74, 2, [0, 2], 75), (75, 9, [2, 2], 78), (78, 25, [], 79), (79, 9, [1, 4], 82), (82, 1, [1], 83), (83, 5, [1], 84), (84, 10, [1, 4], 87), (87, 8, [101], 90), (90, 2, [0, 2], 91), (91, 9, [2, 2], 94), (94, 2, [1, 2], 95), (95, 9, [0, 16], 98), (98, 18, [71, 1], 101), (101, 21, [], 102)]
def sm_c125 : List (Nat × Smi) := [(0, 2, [0, 2], 1), (1, 9, [9, 0], 4), (4, 2, [1, 0], 5), (5, 18, [18, 1], 8), (8, 6, [1, 14], 11), (11, 1, [-2], 13), (13, 22, [0], 14), (14, 2, [0, 2], 15), (15, 9, [9, 5], 18), (18, 6, [1, 24], 21), (21, 1, [-3], 23), (23, 22, [0], 24), (24, 2, [0, 2], 25), (25, 2, [1, 0], 26), (26, 18, [105, 1], 29), (29, 1, [1], 30), (30, 7, [1, 48], 33), (33, 2, [2, 0], 34), (34, 6, [2, 48], 37), (37, 2, [2, 0], 38), (38, 2, [0, 2], 39), (39, 9, [9, 2], 42), (42, 9, [2, 9], 45), (45, 7, [2, 50], 48), (48, 1, [-1], 49), (49, 22, [0], 50), (50, 2, [0, 2], 51), (51, 9, [9, 2], 54), (54, 2, [2, 0], 55), (55, 18, [126, 1], 58), (58, 22, [0], 59)]
def sm_c126 : List (Nat × Smi) := [(0, 2, [1, 0], 1), (1, 6, [2, 12], 4), (4, 2, [1, 0], 5), (5, 2, [0, 2], 6), (6, 9, [2, 9], 9), (9, 7, [2, 14], 12), (12, 1, [-1], 13), (13, 22, [0], 14), (14, 2, [0, 2], 15), (15, 9, [2, 5], 18), (18, 2, [1, 0], 19), (19, 11, [], 20), (20, 3, [2, 0], 21), (21, 2, [2, 0], 22), (22, 6, [2, 33], 25), (25, 2, [2, 0], 26), (26, 2, [0, 2], 27), (27, 9, [2, 9], 30), (30, 7, [2, 35], 33), (33, 1, [-1], 34), (34, 22, [0], 35), (35, 1, [8], 37), (37, 2, [0, 2], 38), (38, 9, [2, 3], 41), (41, 2, [2, 0], 42), (42, 15, [], 43), (43, 9, [0, 0], 46), (46, 5, [2], 47), (47, 2, [0, 2], 48), (48, 9, [2, 3], 51), (51, 2, [2, 0], 52), (52, 15, [], 53), (53, 9, [0, 1], 56), (56, 5, [0], 57), (57, 22, [0], 58)]
def sm_c127 : List (Nat × Smi) := [(0, 2, [0, 2], 1), (1, 9, [9, 6], 4), (4, 22, [0], 5)]
def sm_c128 : List (Nat × Smi) := [(0, 2, [0, 2], 1), (1, 9, [9, 5], 4), (4, 6, [1, 10], 7), (7, 1, [-3], 9), (9, 22, [0], 10), (10, 1, [0], 11), (11, 3, [1, 0], 12), (12, 2, [1, 0], 13), (13, 2, [0, 2], 14), (14, 9, [9, 0], 17), (17, 9, [4, 2], 20), (20, 7, [3, 39], 23), (23, 2, [0, 2], 24), (24, 2, [1, 0], 25), (25, 18, [105, 1], 28), (28, 6, [1, 33], 31), (31, 2, [1, 0], 32), (32, 22, [0], 33), (33, 4, [1, 1], 36), (36, 8, [12], 39), (39, 1, [-1], 40), (40, 22, [0], 41)]
def sm_c129 : List (Nat × Smi) := [(0, 2, [1, 0], 1), (1, 1, [1], 2), (2, 7, [2, 11], 5), (5, 2, [1, 0], 6), (6, 1, [60], 8), (8, 7, [5, 14], 11), (11, 1, [-2], 13), (13, 22, [0], 14), (14, 2, [0, 2], 15), (15, 9, [9, 3], 18), (18, 9, [5, 7], 21), (21, 2, [1, 0], 22), (22, 5, [0], 23), (23, 1, [1000], 26), (26, 7, [5, 32], 29), (29, 1, [-4], 31), (31, 22, [0], 32), (32, 2, [0, 2], 33), (33, 9, [9, 3], 36), (36, 18, [130, 0], 39), (39, 1, [1], 40), (40, 3, [2, 0], 41), (41, 1, [0], 42), (42, 3, [3, 0], 43), (43, 2, [3, 0], 44), (44, 2, [1, 0], 45), (45, 7, [3, 94], 48), (48, 2, [2, 0], 49), (49, 6, [0, 94], 52), (52, 2, [0, 2], 53), (53, 9, [9, 1], 56), (56, 2, [0, 2], 57), (57, 9, [9, 3], 60), (60, 9, [5, 3], 63), (63, 18, [26, 1], 66), (66, 2, [0, 2], 67), (67, 9, [9, 3], 70), (70, 18, [131, 0], 73), (73, 2, [0, 2], 74), (74, 9, [9, 3], 77), (77, 18, [132, 0], 80), (80, 2, [0, 2], 81), (81, 9, [9, 3], 84), (84, 18, [134, 0], 87), (87, 3, [2, 0], 88), (88, 4, [3, 1], 91), (91, 8, [43], 94), (94, 2, [0, 2], 95), (95, 9, [9, 3], 98), (98, 2, [3, 0], 99), (99, 2, [2, 0], 100), (100, 18, [135, 2], 103), (103, 2, [0, 2], 104), (104, 9, [9, 1], 107), (107, 2, [0, 2], 108), (108, 9, [9, 4], 111), (111, 18, [26, 1], 114), (114, 2, [0, 2], 115), (115, 1, [1], 116), (116, 10, [9, 5], 119), (119, 2, [3, 0], 120), (120, 22, [0], 121)]
def sm_c130 : List (Nat × Smi) := [(0, 2, [0, 2], 1), (1, 9, [5, 3], 4), (4, 1, [-1], 5), (5, 19, [10, 2], 8), (8, 2, [0, 2], 9), (9, 9, [5, 4], 12), (12, 1, [0], 13), (13, 19, [10, 2], 16), (16, 2, [0, 2], 17), (17, 1, [0], 18), (18, 10, [5, 6], 21), (21, 21, [], 22)]
def sm_c131 : List (Nat × Smi) := [(0, 2, [0, 2], 1), (1, 9, [5, 1], 4), (4, 9, [6, 6], 7), (7, 6, [0, 20], 10), (10, 2, [0, 2], 11), (11, 9, [5, 4], 14), (14, 1, [1], 15), (15, 26, [], 16), (16, 11, [], 17), (17, 1, [1], 18), (18, 5, [0], 19), (19, 12, [], 20), (20, 1, [0], 21), (21, 3, [1, 0], 22), (22, 1, [0], 23), (23, 3, [2, 0], 24), (24, 1, [0], 25), (25, 3, [3, 0], 26), (26, 2, [3, 0], 27), (27, 2, [0, 2], 28), (28, 9, [5, 0], 31), (31, 9, [4, 2], 34), (34, 7, [3, 78], 37), (37, 2, [1, 0], 38), (38, 6, [1, 78], 41), (41, 2, [0, 2], 42), (42, 9, [5, 2], 45), (45, 2, [3, 0], 46), (46, 1, [300], 49), (49, 18, [106, 2], 52), (52, 3, [4, 0], 54), (54, 2, [4, 0], 56), (56, 6, [1, 64], 59), (59, 1, [1], 60), (60, 3, [1, 0], 61), (61, 8, [72], 64), (64, 2, [4, 0], 66), (66, 1, [1], 67), (67, 7, [0, 72], 70), (70, 1, [1], 71), (71, 3, [2, 0], 72), (72, 4, [3, 1], 75), (75, 8, [26], 78), (78, 2, [1, 0], 79), (79, 6, [0, 95], 82), (82, 2, [0, 2], 83), (83, 9, [5, 4], 86), (86, 1, [2], 87), (87, 26, [], 88), (88, 11, [], 89), (89, 1, [1], 90), (90, 5, [0], 91), (91, 12, [], 92), (92, 8, [109], 95), (95, 2, [2, 0], 96), (96, 6, [0, 109], 99), (99, 2, [0, 2], 100), (100, 9, [5, 4], 103), (103, 1, [3], 104), (104, 26, [], 105), (105, 11, [], 106), (106, 1, [1], 107), (107, 5, [0], 108), (108, 12, [], 109), (109, 21, [], 110)]
def sm_c132 : List (Nat × Smi) := [(0, 2, [0, 2], 1), (1, 9, [5, 6], 4), (4, 1, [2], 5), (5, 5, [2], 6), (6, 1, [40], 8), (8, 5, [2], 9), (9, 3, [1, 0], 10), (10, 2, [1, 0], 11), (11, 1, [80], 13), (13, 5, [0], 14), (14, 2, [0, 2], 15), (15, 9, [5, 5], 18), (18, 17, [], 19), (19, 7, [5, 23], 22), (22, 21, [], 23), (23, 2, [1, 0], 24), (24, 3, [2, 0], 25), (25, 1, [0], 26), (26, 3, [3, 0], 27), (27, 2, [3, 0], 28), (28, 2, [0, 2], 29), (29, 9, [5, 0], 32), (32, 9, [4, 3], 35), (35, 7, [3, 120], 38), (38, 2, [0, 2], 39), (39, 9, [5, 0], 42), (42, 9, [4, 1], 45), (45, 2, [3, 0], 46), (46, 15, [], 47), (47, 3, [4, 2], 49), (49, 1, [0], 50), (50, 3, [5, 0], 52), (52, 2, [5, 0], 54), (54, 2, [4, 2], 56), (56, 9, [3, 3], 59), (59, 7, [3, 114], 62), (62, 2, [5, 0], 64), (64, 1, [8], 66), (66, 7, [3, 114], 69), (69, 2, [0, 2], 70), (70, 9, [5, 5], 73), (73, 2, [2, 0], 74), (74, 2, [4, 2], 76), (76, 9, [3, 1], 79), (79, 2, [5, 0], 81), (81, 15, [], 82), (82, 9, [0, 15], 85), (85, 12, [], 86), (86, 2, [0, 2], 87), (87, 9, [5, 5], 90), (90, 2, [2, 0], 91), (91, 1, [1], 92), (92, 5, [0], 93), (93, 2, [4, 2], 95), (95, 9, [3, 1], 98), (98, 2, [5, 0], 100), (100, 15, [], 101), (101, 9, [0, 16], 104), (104, 12, [], 105), (105, 4, [2, 2], 108), (108, 4, [5, 1], 111), (111, 8, [52], 114), (114, 4, [3, 1], 117), (117, 8, [27], 120), (120, 1, [0], 121), (121, 3, [3, 0], 122), (122, 2, [3, 0], 123), (123, 2, [0, 2], 124), (124, 9, [5, 6], 127), (127, 7, [3, 154], 130), (130, 2, [0, 2], 131), (131, 2, [3, 0], 132), (132, 1, [2], 133), (133, 5, [2], 134), (134, 1, [40], 136), (136, 5, [2], 137), (137, 2, [1, 0], 138), (138, 2, [2, 0], 139), (139, 2, [1, 0], 140), (140, 5, [1], 141), (141, 18, [133, 3], 144), (144, 6, [0, 148], 147), (147, 21, [], 148), (148, 4, [3, 1], 151), (151, 8, [122], 154), (154, 2, [0, 2], 155), (155, 25, [], 156), (156, 9, [5, 6], 159), (159, 1, [1], 160), (160, 5, [0], 161), (161, 10, [5, 6], 164), (164, 21, [], 165)]
def sm_c133 : List (Nat × Smi) := [(0, 1, [0], 1), (1, 3, [4, 0], 3), (3, 2, [4, 0], 5), (5, 2, [3, 0], 6), (6, 7, [3, 38], 9), (9, 2, [0, 2], 10), (10, 9, [5, 5], 13), (13, 2, [1, 0], 14), (14, 2, [4, 0], 16), (16, 5, [0], 17), (17, 11, [], 18), (18, 2, [0, 2], 19), (19, 9, [5, 5], 22), (22, 2, [2, 0], 23), (23, 2, [4, 0], 25), (25, 5, [0], 26), (26, 11, [], 27), (27, 7, [0, 32], 30), (30, 1, [0], 31), (31, 22, [1], 32), (32, 4, [4, 1], 35), (35, 8, [3], 38), (38, 1, [1], 39), (39, 22, [1], 40)]
def sm_c134 : List (Nat × Smi) := [(0, 2, [0, 2], 1), (1, 9, [5, 1], 4), (4, 9, [6, 5], 7), (7, 1, [1], 8), (8, 5, [1], 9), (9, 3, [1, 0], 10), (10, 2, [1, 0], 11), (11, 6, [2, 112], 14), (14, 2, [0, 2], 15), (15, 9, [5, 1], 18), (18, 9, [6, 2], 21), (21, 2, [1, 0], 22), (22, 11, [], 23), (23, 1, [1], 24), (24, 5, [0], 25), (25, 3, [2, 0], 26), (26, 2, [2, 0], 27), (27, 1, [5], 28), (28, 7, [3, 106], 31), (31, 2, [0, 2], 32), (32, 9, [5, 1], 35), (35, 9, [6, 3], 38), (38, 2, [1, 0], 39), (39, 11, [], 40), (40, 2, [2, 0], 41), (41, 5, [7], 42), (42, 1, [1], 43), (43, 5, [8], 44), (44, 6, [1, 50], 47), (47, 8, [100], 50), (50, 2, [0, 2], 51), (51, 9, [5, 1], 54), (54, 9, [6, 2], 57), (57, 1, [0], 58), (58, 2, [0, 2], 59), (59, 9, [5, 3], 62), (62, 1, [0], 63), (63, 2, [1, 0], 64), (64, 41, [], 67), (67, 2, [0, 2], 68), (68, 9, [5, 3], 71), (71, 2, [1, 0], 72), (72, 2, [2, 0], 73), (73, 12, [], 74), (74, 2, [1, 0], 75), (75, 1, [1], 76), (76, 5, [0], 77), (77, 3, [3, 0], 78), (78, 2, [3, 0], 79), (79, 1, [600], 82), (82, 7, [3, 98], 85), (85, 2, [0, 2], 86), (86, 9, [5, 3], 89), (89, 2, [3, 0], 90), (90, 1, [-1], 91), (91, 12, [], 92), (92, 4, [3, 1], 95), (95, 8, [78], 98), (98, 1, [1], 99), (99, 22, [1], 100), (100, 4, [2, 1], 103), (103, 8, [26], 106), (106, 4, [1, -1], 109), (109, 8, [10], 112), (112, 1, [0], 113), (113, 22, [1], 114)]
def sm_c135 : List (Nat × Smi) := [(0, 2, [0, 2], 1), (1, 9, [5, 4], 4), (4, 1, [0], 5), (5, 2, [2, 0], 6), (6, 6, [0, 13], 9), (9, 1, [0], 10), (10, 8, [14], 13), (13, 1, [1], 14), (14, 12, [], 15), (15, 2, [0, 2], 16), (16, 9, [5, 4], 19), (19, 1, [4], 20), (20, 2, [0, 2], 21), (21, 9, [5, 6], 24), (24, 12, [], 25), (25, 2, [0, 2], 26), (26, 25, [], 27), (27, 9, [5, 7], 30), (30, 2, [1, 0], 31), (31, 5, [0], 32), (32, 10, [5, 7], 35), (35, 21, [], 36)]
def sm_c136 : List (Nat × Smi) := [(0, 2, [1, 0], 1), (1, 6, [2, 9], 4), (4, 2, [1, 0], 5), (5, 1, [5], 6), (6, 7, [2, 12], 9), (9, 1, [-2], 11), (11, 22, [0], 12), (12, 2, [0, 2], 13), (13, 9, [9, 3], 16), (16, 9, [5, 4], 19), (19, 2, [1, 0], 20), (20, 11, [], 21), (21, 22, [0], 22)]
def sm_c137 : List (Nat × Smi) := [(0, 2, [0, 2], 1), (1, 9, [9, 5], 4), (4, 6, [1, 9], 7), (7, 39, [0], 8), (8, 23, [], 9), (9, 39, [7], 12), (12, 3, [1, 1], 13), (13, 1, [0], 14), (14, 3, [3, 0], 15), (15, 2, [3, 0], 16), (16, 2, [0, 2], 17), (17, 9, [9, 0], 20), (20, 9, [4, 3], 23), (23, 7, [3, 46], 26), (26, 2, [0, 2], 27), (27, 9, [9, 0], 30), (30, 9, [4, 1], 33), (33, 2, [3, 0], 34), (34, 15, [], 35), (35, 2, [1, 1], 36), (36, 18, [138, 1], 39), (39, 3, [1, 1], 40), (40, 4, [3, 1], 43), (43, 8, [15], 46), (46, 1, [0], 47), (47, 3, [3, 0], 48), (48, 2, [3, 0], 49), (49, 2, [0, 2], 50), (50, 9, [9, 0], 53), (53, 9, [4, 2], 56), (56, 7, [3, 79], 59), (59, 2, [0, 2], 60), (60, 9, [9, 0], 63), (63, 9, [4, 0], 66), (66, 2, [3, 0], 67), (67, 15, [], 68), (68, 2, [1, 1], 69), (69, 18, [139, 1], 72), (72, 3, [1, 1], 73), (73, 4, [3, 1], 76), (76, 8, [48], 79), (79, 2, [1, 1], 80), (80, 23, [], 81)]
def sm_c138 : List (Nat × Smi) := [(0, 2, [1, 1], 1), (1, 3, [3, 1], 2), (2, 1, [0], 3), (3, 3, [5, 0], 5), (5, 2, [5, 0], 7), (7, 2, [0, 2], 8), (8, 9, [3, 3], 11), (11, 7, [3, 81], 14), (14, 2, [5, 0], 16), (16, 1, [8], 18), (18, 7, [3, 81], 21), (21, 39, [31], 24), (24, 2, [3, 1], 25), (25, 38, [], 26), (26, 2, [0, 2], 27), (27, 9, [3, 1], 30), (30, 2, [5, 0], 32), (32, 15, [], 33), (33, 9, [0, 15], 36), (36, 36, [], 37), (37, 37, [], 38), (38, 3, [3, 1], 39), (39, 39, [31], 42), (42, 2, [3, 1], 43), (43, 38, [], 44), (44, 2, [0, 2], 45), (45, 9, [3, 1], 48), (48, 2, [5, 0], 50), (50, 15, [], 51), (51, 9, [0, 16], 54), (54, 36, [], 55), (55, 37, [], 56), (56, 3, [3, 1], 57), (57, 39, [31], 60), (60, 2, [3, 1], 61), (61, 38, [], 62), (62, 2, [0, 2], 63), (63, 9, [3, 1], 66), (66, 2, [5, 0], 68), (68, 15, [], 69), (69, 9, [0, 12], 72), (72, 36, [], 73), (73, 37, [], 74), (74, 3, [3, 1], 75), (75, 4, [5, 1], 78), (78, 8, [5], 81), (81, 2, [3, 1], 82), (82, 23, [], 83)]
def sm_c139 : List (Nat × Smi) := [(0, 2, [0, 2], 1), (1, 18, [89, 0], 4), (4, 3, [3, 0], 5), (5, 39, [31], 8), (8, 2, [1, 1], 9), (9, 38, [], 10), (10, 2, [3, 0], 11), (11, 36, [], 12), (12, 37, [], 13), (13, 3, [4, 1], 15), (15, 2, [0, 2], 16), (16, 18, [92, 0], 19), (19, 1, [0], 20), (20, 3, [6, 0], 22), (22, 2, [6, 0], 24), (24, 2, [3, 0], 25), (25, 7, [3, 66], 28), (28, 39, [31], 31), (31, 2, [4, 1], 33), (33, 38, [], 34), (34, 2, [0, 2], 35), (35, 2, [6, 0], 37), (37, 18, [95, 1], 40), (40, 36, [], 41), (41, 37, [], 42), (42, 3, [4, 1], 44), (44, 39, [31], 47), (47, 2, [4, 1], 49), (49, 38, [], 50), (50, 2, [0, 2], 51), (51, 2, [6, 0], 53), (53, 18, [96, 1], 56), (56, 36, [], 57), (57, 37, [], 58), (58, 3, [4, 1], 60), (60, 4, [6, 1], 63), (63, 8, [22], 66), (66, 2, [4, 1], 68), (68, 23, [], 69)]
def sm_c140 : List (Nat × Smi) := [(0, 2, [0, 2], 1), (1, 9, [9, 0], 4), (4, 18, [86, 0], 7), (7, 3, [1, 0], 8), (8, 2, [0, 2], 9), (9, 9, [9, 0], 12), (12, 1, [0], 13), (13, 10, [4, 2], 16), (16, 2, [0, 2], 17), (17, 9, [9, 0], 20), (20, 1, [0], 21), (21, 10, [4, 3], 24), (24, 2, [0, 2], 25), (25, 9, [9, 4], 28), (28, 1, [-1], 29), (29, 19, [10, 2], 32), (32, 2, [0, 2], 33), (33, 1, [0], 34), (34, 10, [9, 5], 37), (37, 2, [1, 0], 38), (38, 22, [0], 39)]
def sm_c141 : List (Nat × Smi) := [(0, 2, [0, 2], 1), (1, 42, [], 4), (4, 2, [0, 2], 5), (5, 1, [6], 7), (7, 30, [20], 9), (9, 10, [10, 1], 12), (12, 2, [0, 2], 13), (13, 1, [6], 15), (15, 30, [20], 17), (17, 10, [10, 2], 20), (20, 2, [0, 2], 21), (21, 1, [6], 23), (23, 30, [20], 25), (25, 10, [10, 3], 28), (28, 2, [0, 2], 29), (29, 1, [5], 30), (30, 30, [20], 32), (32, 10, [10, 5], 35), (35, 2, [0, 2], 36), (36, 1, [40], 38), (38, 30, [20], 40), (40, 10, [10, 6], 43), (43, 2, [0, 2], 44), (44, 1, [40], 46), (46, 30, [20], 48), (48, 10, [10, 7], 51), (51, 2, [0, 2], 52), (52, 1, [40], 54), (54, 30, [20], 56), (56, 10, [10, 8], 59), (59, 2, [0, 2], 60), (60, 1, [40], 62), (62, 30, [20], 64), (64, 10, [10, 9], 67), (67, 2, [0, 2], 68), (68, 1, [40], 70), (70, 30, [20], 72), (72, 10, [10, 10], 75), (75, 2, [0, 2], 76), (76, 1, [600], 79), (79, 30, [20], 81), (81, 10, [10, 11], 84), (84, 2, [0, 2], 85), (85, 1, [192], 88), (88, 30, [20], 90), (90, 10, [10, 12], 93), (93, 2, [0, 2], 94), (94, 1, [80], 96), (96, 30, [20], 98), (98, 10, [10, 17], 101), (101, 2, [0, 2], 102), (102, 1, [80], 104), (104, 30, [21], 106), (106, 10, [10, 18], 109), (109, 2, [0, 2], 110), (110, 1, [80], 112), (112, 30, [20], 114), (114, 10, [10, 19], 117), (117, 2, [0, 2], 118), (118, 1, [40], 120), (120, 30, [20], 122), (122, 10, [10, 20], 125), (125, 2, [0, 2], 126), (126, 1, [40], 128), (128, 30, [20], 130), (130, 10, [10, 21], 133), (133, 2, [0, 2], 134), (134, 1, [40], 136), (136, 30, [20], 138), (138, 10, [10, 22], 141), (141, 2, [0, 2], 142), (142, 1, [40], 144), (144, 30, [20], 146), (146, 10, [10, 23], 149), (149, 2, [0, 2], 150), (150, 1, [40], 152), (152, 30, [20], 154), (154, 10, [10, 24], 157), (157, 2, [0, 2], 158), (158, 1, [5], 159), (159, 30, [20], 161), (161, 10, [10, 25], 164), (164, 2, [0, 2], 165), (165, 1, [5], 166), (166, 30, [20], 168), (168, 10, [10, 26], 171), (171, 2, [0, 2], 172), (172, 1, [5], 173), (173, 30, [21], 175), (175, 10, [10, 27], 178), (178, 2, [0, 2], 179), (179, 1, [5], 180), (180, 30, [20], 182), (182, 10, [10, 28], 185), (185, 2, [0, 2], 186), (186, 1, [5], 187), (187, 30, [21], 189), (189, 10, [10, 29], 192), (192, 2, [0, 2], 193), (193, 1, [5], 194), (194, 30, [20], 196), (196, 10, [10, 30], 199), (199, 2, [0, 2], 200), (200, 1, [5], 201), (201, 30, [21], 203), (203, 10, [10, 31], 206), (206, 2, [0, 2], 207), (207, 1, [5], 208), (208, 30, [21], 210), (210, 10, [10, 32], 213), (213, 2, [0, 2], 214), (214, 1, [5], 215), (215, 30, [21], 217), (217, 10, [10, 33], 220), (220, 2, [0, 2], 221), (221, 1, [160], 224), (224, 30, [21], 226), (226, 10, [10, 34], 229), (229, 2, [0, 2], 230), (230, 1, [160], 233), (233, 30, [20], 235), (235, 10, [10, 35], 238), (238, 2, [0, 2], 239), (239, 1, [24], 241), (241, 30, [20], 243), (243, 10, [10, 36], 246), (246, 2, [0, 2], 247), (247, 1, [192], 250), (250, 30, [21], 252), (252, 10, [10, 37], 255), (255, 2, [0, 2], 256), (256, 1, [192], 259), (259, 30, [20], 261), (261, 10, [10, 38], 264), (264, 2, [0, 2], 265), (265, 1, [192], 268), (268, 30, [20], 270), (270, 10, [10, 39], 273), (273, 2, [0, 2], 274), (274, 1, [192], 277), (277, 30, [21], 279), (279, 10, [10, 40], 282), (282, 2, [0, 2], 283), (283, 1, [192], 286), (286, 30, [20], 288), (288, 10, [10, 41], 291), (291, 2, [0, 2], 292), (292, 1, [288], 295), (295, 30, [20], 297), (297, 10, [10, 43], 300), (300, 2, [0, 2], 301), (301, 1, [6], 303), (303, 30, [20], 305), (305, 10, [10, 44], 308), (308, 2, [0, 2], 309), (309, 1, [6], 311), (311, 30, [21], 313), (313, 10, [10, 45], 316), (316, 2, [0, 2], 317), (317, 1, [24], 319), (319, 30, [20], 321), (321, 10, [10, 46], 324), (324, 2, [0, 2], 325), (325, 1, [192], 328), (328, 30, [21], 330), (330, 10, [10, 47], 333), (333, 2, [0, 2], 334), (334, 1, [192], 337), (337, 30, [20], 339), (339, 10, [10, 48], 342), (342, 2, [0, 2], 343), (343, 1, [24], 345), (345, 30, [20], 347), (347, 10, [10, 49], 350), (350, 2, [0, 2], 351), (351, 1, [24], 353), (353, 30, [21], 355), (355, 10, [10, 50], 358), (358, 2, [0, 2], 359), (359, 1, [24], 361), (361, 30, [20], 363), (363, 10, [10, 51], 366), (366, 2, [0, 2], 367), (367, 1, [6], 369), (369, 30, [20], 371), (371, 10, [10, 52], 374), (374, 2, [0, 2], 375), (375, 1, [6], 377), (377, 30, [20], 379), (379, 10, [10, 53], 382), (382, 2, [0, 2], 383), (383, 1, [6], 385), (385, 30, [20], 387), (387, 10, [10, 54], 390), (390, 2, [0, 2], 391), (391, 1, [6], 393), (393, 30, [20], 395), (395, 10, [10, 55], 398), (398, 2, [0, 2], 399), (399, 1, [5], 400), (400, 30, [20], 402), (402, 10, [10, 58], 405), (405, 2, [0, 2], 406), (406, 1, [40], 408), (408, 30, [20], 410), (410, 10, [10, 59], 413), (413, 2, [0, 2], 414), (414, 1, [12], 416), (416, 30, [20], 418), (418, 10, [10, 61], 421), (421, 2, [0, 2], 422), (422, 1, [12], 424), (424, 30, [21], 426), (426, 10, [10, 62], 429), (429, 2, [0, 2], 430), (430, 1, [13], 432), (432, 30, [20], 434), (434, 10, [10, 63], 437), (437, 2, [0, 2], 438), (438, 1, [32], 440), (440, 30, [21], 442), (442, 10, [10, 65], 445), (445, 2, [0, 2], 446), (446, 1, [32], 448), (448, 30, [20], 450), (450, 10, [10, 66], 453), (453, 2, [0, 2], 454), (454, 1, [12], 456), (456, 30, [20], 458), (458, 10, [10, 67], 461), (461, 2, [0, 2], 462), (462, 1, [4], 463), (463, 30, [20], 465), (465, 10, [10, 70], 468), (468, 2, [0, 2], 469), (469, 1, [600], 472), (472, 30, [20], 474), (474, 10, [10, 71], 477), (477, 2, [0, 2], 478), (478, 1, [600], 481), (481, 30, [20], 483), (483, 10, [10, 72], 486), (486, 2, [0, 2], 487), (487, 1, [4800], 490), (490, 30, [20], 492), (492, 10, [10, 73], 495), (495, 1, [0], 496), (496, 3, [1, 0], 497), (497, 2, [1, 0], 498), (498, 1, [600], 501), (501, 7, [3, 517], 504), (504, 2, [0, 2], 505), (505, 9, [10, 11], 508), (508, 2, [1, 0], 509), (509, 1, [-1], 510), (510, 12, [], 511), (511, 4, [1, 1], 514), (514, 8, [497], 517), (517, 21, [], 518)]
def sm_c142 : List (Nat × Smi) := [(0, 2, [1, 0], 1), (1, 1, [0], 2), (2, 1, [5], 3), (3, 19, [143, 3], 6), (6, 6, [0, 33], 9), (9, 2, [1, 0], 10), (10, 1, [2], 11), (11, 7, [1, 24], 14), (14, 2, [2, 0], 15), (15, 1, [1], 16), (16, 1, [8], 18), (18, 19, [143, 3], 21), (21, 6, [0, 33], 24), (24, 2, [3, 0], 25), (25, 1, [0], 26), (26, 1, [2], 27), (27, 19, [143, 3], 30), (30, 6, [1, 36], 33), (33, 1, [-2], 35), (35, 22, [0], 36), (36, 2, [0, 2], 37), (37, 9, [10, 0], 40), (40, 1, [6], 42), (42, 7, [1, 48], 45), (45, 1, [-4], 47), (47, 22, [0], 48), (48, 2, [0, 2], 49), (49, 9, [10, 1], 52), (52, 2, [0, 2], 53), (53, 9, [10, 0], 56), (56, 2, [1, 0], 57), (57, 12, [], 58), (58, 2, [0, 2], 59), (59, 9, [10, 2], 62), (62, 2, [0, 2], 63), (63, 9, [10, 0], 66), (66, 2, [2, 0], 67), (67, 12, [], 68), (68, 2, [0, 2], 69), (69, 9, [10, 3], 72), (72, 2, [0, 2], 73), (73, 9, [10, 0], 76), (76, 2, [3, 0], 77), (77, 12, [], 78), (78, 2, [0, 2], 79), (79, 25, [], 80), (80, 9, [10, 0], 83), (83, 1, [1], 84), (84, 5, [0], 85), (85, 10, [10, 0], 88), (88, 2, [0, 2], 89), (89, 1, [0], 90), (90, 10, [10, 13], 93), (93, 2, [0, 2], 94), (94, 9, [10, 0], 97), (97, 1, [1], 98), (98, 5, [1], 99), (99, 22, [0], 100)]
def sm_c143 : List (Nat × Smi) := [(0, 2, [0, 0], 1), (1, 2, [1, 0], 2), (2, 7, [2, 14], 5), (5, 2, [0, 0], 6), (6, 2, [2, 0], 7), (7, 7, [4, 14], 10), (10, 1, [1], 11), (11, 8, [15], 14), (14, 1, [0], 15), (15, 22, [1], 16)]
def sm_c144 : List (Nat × Smi) := [(0, 2, [0, 2], 1), (1, 9, [10, 4], 4), (4, 1, [5], 5), (5, 7, [1, 11], 8), (8, 1, [-4], 10), (10, 22, [0], 11), (11, 2, [0, 2], 12), (12, 9, [10, 5], 15), (15, 2, [0, 2], 16), (16, 9, [10, 4], 19), (19, 1, [0], 20), (20, 12, [], 21), (21, 2, [0, 2], 22), (22, 25, [], 23), (23, 9, [10, 4], 26), (26, 1, [1], 27), (27, 5, [0], 28), (28, 10, [10, 4], 31), (31, 2, [0, 2], 32), (32, 1, [0], 33), (33, 10, [10, 13], 36), (36, 2, [0, 2], 37), (37, 9, [10, 4], 40), (40, 1, [1], 41), (41, 5, [1], 42), (42, 22, [0], 43)]
def sm_c145 : List (Nat × Smi) := [(0, 2, [1, 0], 1), (1, 1, [0], 2), (2, 2, [0, 2], 3), (3, 9, [10, 4], 6), (6, 1, [1], 7), (7, 5, [1], 8), (8, 19, [143, 3], 11), (11, 6, [0, 65], 14), (14, 2, [0, 2], 15), (15, 2, [2, 0], 16), (16, 18, [146, 1], 19), (19, 6, [0, 65], 22), (22, 2, [3, 0], 23), (23, 1, [0], 24), (24, 2, [0, 2], 25), (25, 9, [10, 1], 28), (28, 2, [2, 0], 29), (29, 11, [], 30), (30, 19, [147, 1], 33), (33, 1, [1], 34), (34, 5, [1], 35), (35, 19, [143, 3], 38), (38, 6, [0, 65], 41), (41, 2, [0, 2], 42), (42, 9, [10, 1], 45), (45, 2, [2, 0], 46), (46, 11, [], 47), (47, 2, [3, 0], 48), (48, 19, [148, 2], 51), (51, 6, [0, 68], 54), (54, 2, [4, 0], 56), (56, 1, [0], 57), (57, 1, [31], 59), (59, 19, [143, 3], 62), (62, 6, [1, 68], 65), (65, 1, [-2], 67), (67, 22, [0], 68), (68, 2, [0, 2], 69), (69, 9, [10, 5], 72), (72, 2, [1, 0], 73), (73, 11, [], 74), (74, 1, [8], 76), (76, 7, [1, 82], 79), (79, 1, [-4], 81), (81, 22, [0], 82), (82, 1, [8], 84), (84, 2, [1, 0], 85), (85, 5, [2], 86), (86, 2, [0, 2], 87), (87, 9, [10, 5], 90), (90, 2, [1, 0], 91), (91, 11, [], 92), (92, 5, [0], 93), (93, 3, [6, 0], 95), (95, 2, [0, 2], 96), (96, 9, [10, 6], 99), (99, 2, [6, 0], 101), (101, 2, [2, 0], 102), (102, 12, [], 103), (103, 2, [0, 2], 104), (104, 9, [10, 7], 107), (107, 2, [6, 0], 109), (109, 2, [3, 0], 110), (110, 12, [], 111), (111, 2, [0, 2], 112), (112, 9, [10, 8], 115), (115, 2, [6, 0], 117), (117, 2, [4, 0], 119), (119, 12, [], 120), (120, 2, [0, 2], 121), (121, 9, [10, 9], 124), (124, 2, [6, 0], 126), (126, 2, [5, 0], 128), (128, 12, [], 129), (129, 2, [0, 2], 130), (130, 9, [10, 10], 133), (133, 2, [6, 0], 135), (135, 1, [0], 136), (136, 12, [], 137), (137, 2, [0, 2], 138), (138, 9, [10, 5], 141), (141, 2, [1, 0], 142), (142, 26, [], 143), (143, 11, [], 144), (144, 1, [1], 145), (145, 5, [0], 146), (146, 12, [], 147), (147, 2, [0, 2], 148), (148, 1, [0], 149), (149, 10, [10, 13], 152), (152, 2, [0, 2], 153), (153, 9, [10, 5], 156), (156, 2, [1, 0], 157), (157, 11, [], 158), (158, 1, [1], 159), (159, 5, [1], 160), (160, 22, [0], 161)]
def sm_c146 : List (Nat × Smi) := [(0, 2, [1, 0], 1), (1, 1, [0], 2), (2, 2, [0, 2], 3), (3, 9, [10, 0], 6), (6, 1, [1], 7), (7, 5, [1], 8), (8, 19, [143, 3], 11), (11, 22, [1], 12)]
def sm_c147 : List (Nat × Smi) := [(0, 2, [0, 0], 1), (1, 6, [0, 9], 4), (4, 2, [0, 0], 5), (5, 1, [4], 6), (6, 7, [1, 13], 9), (9, 1, [4], 10), (10, 8, [37], 13), (13, 2, [0, 0], 14), (14, 1, [1], 15), (15, 7, [0, 23], 18), (18, 2, [0, 0], 19), (19, 1, [3], 20), (20, 7, [1, 27], 23), (23, 1, [2], 24), (24, 8, [37], 27), (27, 2, [0, 0], 28), (28, 1, [2], 29), (29, 7, [1, 36], 32), (32, 1, [5], 33), (33, 8, [37], 36), (36, 1, [1], 37), (37, 22, [0], 38)]
def sm_c148 : List (Nat × Smi) := [(0, 2, [0, 0], 1), (1, 6, [0, 19], 4), (4, 2, [0, 0], 5), (5, 1, [5], 6), (6, 7, [0, 19], 9), (9, 2, [0, 0], 10), (10, 1, [4], 11), (11, 7, [1, 23], 14), (14, 2, [1, 0], 15), (15, 1, [3], 16), (16, 7, [3, 23], 19), (19, 1, [1], 20), (20, 8, [24], 23), (23, 1, [0], 24), (24, 22, [1], 25)]
def sm_c149 : List (Nat × Smi) := [(0, 2, [1, 0], 1), (1, 1, [0], 2), (2, 1, [599], 5), (5, 19, [143, 3], 8), (8, 6, [0, 20], 11), (11, 2, [2, 0], 12), (12, 1, [-1], 13), (13, 1, [4], 14), (14, 19, [143, 3], 17), (17, 6, [1, 23], 20), (20, 1, [-2], 22), (22, 22, [0], 23), (23, 2, [0, 2], 24), (24, 9, [10, 11], 27), (27, 2, [1, 0], 28), (28, 2, [2, 0], 29), (29, 12, [], 30), (30, 2, [0, 2], 31), (31, 1, [0], 32), (32, 10, [10, 13], 35), (35, 1, [1], 36), (36, 22, [0], 37)]
def sm_c150 : List (Nat × Smi) := [(0, 2, [0, 2], 1), (1, 2, [1, 0], 2), (2, 2, [2, 0], 3), (3, 18, [151, 2], 6), (6, 6, [0, 19], 9), (9, 2, [3, 0], 10), (10, 1, [0], 11), (11, 1, [100], 13), (13, 19, [143, 3], 16), (16, 6, [1, 22], 19), (19, 1, [-2], 21), (21, 22, [0], 22), (22, 2, [0, 2], 23), (23, 9, [10, 10], 26), (26, 1, [8], 28), (28, 2, [1, 0], 29), (29, 5, [2], 30), (30, 2, [2, 0], 31), (31, 5, [0], 32), (32, 2, [3, 0], 33), (33, 12, [], 34), (34, 2, [0, 2], 35), (35, 1, [0], 36), (36, 10, [10, 13], 39), (39, 1, [1], 40), (40, 22, [0], 41)]
def sm_c151 : List (Nat × Smi) := [(0, 2, [1, 0], 1), (1, 1, [0], 2), (2, 2, [0, 2], 3), (3, 9, [10, 4], 6), (6, 1, [1], 7), (7, 5, [1], 8), (8, 19, [143, 3], 11), (11, 6, [0, 32], 14), (14, 2, [2, 0], 15), (15, 6, [2, 32], 18), (18, 2, [2, 0], 19), (19, 2, [0, 2], 20), (20, 9, [10, 5], 23), (23, 2, [1, 0], 24), (24, 11, [], 25), (25, 7, [3, 32], 28), (28, 1, [1], 29), (29, 8, [33], 32), (32, 1, [0], 33), (33, 22, [1], 34)]
def sm_c152 : List (Nat × Smi) := [(0, 2, [0, 2], 1), (1, 2, [1, 0], 2), (2, 18, [146, 1], 5), (5, 6, [0, 38], 8), (8, 2, [0, 2], 9), (9, 9, [10, 1], 12), (12, 2, [1, 0], 13), (13, 11, [], 14), (14, 1, [5], 15), (15, 7, [1, 38], 18), (18, 2, [2, 0], 19), (19, 1, [0], 20), (20, 1, [31], 22), (22, 19, [143, 3], 25), (25, 6, [0, 38], 28), (28, 2, [3, 0], 29), (29, 1, [0], 30), (30, 1, [9], 32), (32, 19, [143, 3], 35), (35, 6, [1, 41], 38), (38, 1, [-2], 40), (40, 22, [0], 41), (41, 2, [0, 2], 42), (42, 9, [10, 12], 45), (45, 1, [32], 47), (47, 2, [1, 0], 48), (48, 5, [2], 49), (49, 2, [2, 0], 50), (50, 5, [0], 51), (51, 2, [3, 0], 52), (52, 12, [], 53), (53, 2, [0, 2], 54), (54, 1, [0], 55), (55, 10, [10, 13], 58), (58, 1, [1], 59), (59, 22, [0], 60)]
def sm_c153 : List (Nat × Smi) := [(0, 2, [0, 2], 1), (1, 18, [154, 0], 4), (4, 2, [0, 2], 5), (5, 18, [155, 0], 8), (8, 3, [1, 0], 9), (9, 2, [1, 0], 10), (10, 1, [-1], 11), (11, 7, [0, 72], 14), (14, 2, [0, 2], 15), (15, 9, [10, 15], 18), (18, 1, [600], 21), (21, 7, [3, 72], 24), (24, 2, [0, 2], 25), (25, 9, [10, 11], 28), (28, 2, [0, 2], 29), (29, 9, [10, 15], 32), (32, 11, [], 33), (33, 3, [2, 0], 34), (34, 2, [0, 2], 35), (35, 2, [2, 0], 36), (36, 1, [-1], 37), (37, 7, [0, 60], 40), (40, 2, [2, 0], 41), (41, 2, [0, 2], 42), (42, 9, [10, 4], 45), (45, 7, [3, 60], 48), (48, 2, [0, 2], 49), (49, 2, [2, 0], 50), (50, 18, [156, 1], 53), (53, 6, [0, 60], 56), (56, 2, [2, 0], 57), (57, 8, [61], 60), (60, 2, [1, 0], 61), (61, 18, [158, 1], 64), (64, 2, [0, 2], 65), (65, 18, [155, 0], 68), (68, 3, [1, 0], 69), (69, 8, [9], 72), (72, 2, [0, 2], 73), (73, 2, [0, 2], 74), (74, 18, [178, 0], 77), (77, 10, [10, 14], 80), (80, 2, [0, 2], 81), (81, 1, [1], 82), (82, 10, [10, 13], 85), (85, 2, [0, 2], 86), (86, 9, [10, 14], 89), (89, 22, [0], 90)]
def sm_c154 : List (Nat × Smi) := [(0, 2, [0, 2], 1), (1, 1, [0], 2), (2, 10, [10, 15], 5), (5, 2, [0, 2], 6), (6, 1, [0], 7), (7, 10, [10, 16], 10), (10, 2, [0, 2], 11), (11, 1, [0], 12), (12, 10, [10, 42], 15), (15, 1, [0], 16), (16, 3, [1, 0], 17), (17, 2, [1, 0], 18), (18, 1, [40], 20), (20, 7, [3, 65], 23), (23, 2, [0, 2], 24), (24, 9, [10, 20], 27), (27, 2, [1, 0], 28), (28, 1, [0], 29), (29, 12, [], 30), (30, 2, [0, 2], 31), (31, 9, [10, 21], 34), (34, 2, [1, 0], 35), (35, 1, [6], 37), (37, 12, [], 38), (38, 2, [0, 2], 39), (39, 9, [10, 22], 42), (42, 2, [1, 0], 43), (43, 1, [0], 44), (44, 12, [], 45), (45, 2, [0, 2], 46), (46, 9, [10, 23], 49), (49, 2, [1, 0], 50), (50, 1, [-1], 51), (51, 12, [], 52), (52, 2, [0, 2], 53), (53, 9, [10, 24], 56), (56, 2, [1, 0], 57), (57, 1, [-1], 58), (58, 12, [], 59), (59, 4, [1, 1], 62), (62, 8, [17], 65), (65, 1, [0], 66), (66, 3, [1, 0], 67), (67, 2, [1, 0], 68), (68, 1, [5], 69), (69, 7, [3, 106], 72), (72, 2, [0, 2], 73), (73, 9, [10, 25], 76), (76, 2, [1, 0], 77), (77, 1, [0], 78), (78, 12, [], 79), (79, 2, [0, 2], 80), (80, 9, [10, 26], 83), (83, 2, [1, 0], 84), (84, 1, [0], 85), (85, 12, [], 86), (86, 2, [0, 2], 87), (87, 9, [10, 27], 90), (90, 2, [1, 0], 91), (91, 1, [0], 92), (92, 14, [], 93), (93, 2, [0, 2], 94), (94, 9, [10, 33], 97), (97, 2, [1, 0], 98), (98, 1, [0], 99), (99, 14, [], 100), (100, 4, [1, 1], 103), (103, 8, [67], 106), (106, 1, [0], 107), (107, 3, [1, 0], 108), (108, 2, [1, 0], 109), (109, 1, [24], 111), (111, 7, [3, 148], 114), (114, 2, [0, 2], 115), (115, 9, [10, 36], 118), (118, 2, [1, 0], 119), (119, 1, [-1], 120), (120, 12, [], 121), (121, 2, [0, 2], 122), (122, 9, [10, 46], 125), (125, 2, [1, 0], 126), (126, 1, [0], 127), (127, 12, [], 128), (128, 2, [0, 2], 129), (129, 9, [10, 49], 132), (132, 2, [1, 0], 133), (133, 1, [1], 134), (134, 12, [], 135), (135, 2, [0, 2], 136), (136, 9, [10, 50], 139), (139, 2, [1, 0], 140), (140, 1, [0], 141), (141, 14, [], 142), (142, 4, [1, 1], 145), (145, 8, [108], 148), (148, 1, [0], 149), (149, 3, [1, 0], 150), (150, 2, [1, 0], 151), (151, 1, [192], 154), (154, 7, [3, 196], 157), (157, 2, [0, 2], 158), (158, 9, [10, 37], 161), (161, 2, [1, 0], 162), (162, 1, [0], 163), (163, 14, [], 164), (164, 2, [0, 2], 165), (165, 9, [10, 40], 168), (168, 2, [1, 0], 169), (169, 1, [0], 170), (170, 14, [], 171), (171, 2, [0, 2], 172), (172, 9, [10, 47], 175), (175, 2, [1, 0], 176), (176, 1, [0], 177), (177, 14, [], 178), (178, 2, [0, 2], 179), (179, 9, [10, 48], 182), (182, 2, [1, 0], 183), (183, 2, [0, 2], 184), (184, 9, [10, 12], 187), (187, 2, [1, 0], 188), (188, 11, [], 189), (189, 12, [], 190), (190, 4, [1, 1], 193), (193, 8, [150], 196), (196, 1, [0], 197), (197, 3, [1, 0], 198), (198, 2, [1, 0], 199), (199, 1, [6], 201), (201, 7, [3, 252], 204), (204, 2, [0, 2], 205), (205, 9, [10, 44], 208), (208, 2, [1, 0], 209), (209, 1, [0], 210), (210, 12, [], 211), (211, 2, [0, 2], 212), (212, 9, [10, 45], 215), (215, 2, [1, 0], 216), (216, 1, [0], 217), (217, 14, [], 218), (218, 2, [0, 2], 219), (219, 9, [10, 52], 222), (222, 2, [1, 0], 223), (223, 1, [0], 224), (224, 12, [], 225), (225, 2, [0, 2], 226), (226, 9, [10, 53], 229), (229, 2, [1, 0], 230), (230, 1, [0], 231), (231, 12, [], 232), (232, 2, [0, 2], 233), (233, 9, [10, 54], 236), (236, 2, [1, 0], 237), (237, 1, [0], 238), (238, 12, [], 239), (239, 2, [0, 2], 240), (240, 9, [10, 55], 243), (243, 2, [1, 0], 244), (244, 1, [0], 245), (245, 12, [], 246), (246, 4, [1, 1], 249), (249, 8, [198], 252), (252, 21, [], 253)]
def sm_c155 : List (Nat × Smi) := [(0, 1, [0], 1), (1, 3, [1, 0], 2), (2, 2, [1, 0], 3), (3, 2, [0, 2], 4), (4, 9, [10, 4], 7), (7, 7, [3, 24], 10), (10, 2, [0, 2], 11), (11, 2, [1, 0], 12), (12, 18, [156, 1], 15), (15, 6, [1, 24], 18), (18, 4, [1, 1], 21), (21, 8, [2], 24), (24, 2, [1, 0], 25), (25, 2, [0, 2], 26), (26, 9, [10, 4], 29), (29, 7, [1, 36], 32), (32, 1, [-1], 33), (33, 8, [37], 36), (36, 2, [1, 0], 37), (37, 22, [0], 38)]
def sm_c156 : List (Nat × Smi) := [(0, 2, [0, 2], 1), (1, 9, [10, 25], 4), (4, 2, [1, 0], 5), (5, 11, [], 6), (6, 2, [0, 2], 7), (7, 9, [10, 5], 10), (10, 2, [1, 0], 11), (11, 11, [], 12), (12, 7, [1, 17], 15), (15, 1, [0], 16), (16, 22, [1], 17), (17, 1, [8], 19), (19, 2, [1, 0], 20), (20, 5, [2], 21), (21, 2, [0, 2], 22), (22, 9, [10, 25], 25), (25, 2, [1, 0], 26), (26, 11, [], 27), (27, 5, [0], 28), (28, 3, [2, 0], 29), (29, 2, [0, 2], 30), (30, 9, [10, 27], 33), (33, 2, [1, 0], 34), (34, 13, [], 35), (35, 6, [0, 73], 38), (38, 2, [0, 2], 39), (39, 9, [10, 10], 42), (42, 2, [2, 0], 43), (43, 11, [], 44), (44, 6, [5, 71], 47), (47, 2, [0, 2], 48), (48, 9, [10, 15], 51), (51, 2, [0, 2], 52), (52, 9, [10, 28], 55), (55, 2, [1, 0], 56), (56, 11, [], 57), (57, 5, [1], 58), (58, 2, [0, 2], 59), (59, 9, [10, 10], 62), (62, 2, [2, 0], 63), (63, 11, [], 64), (64, 7, [2, 71], 67), (67, 1, [1], 68), (68, 8, [72], 71), (71, 1, [0], 72), (72, 22, [1], 73), (73, 2, [0, 2], 74), (74, 2, [2, 0], 75), (75, 2, [1, 0], 76), (76, 2, [0, 2], 77), (77, 9, [10, 26], 80), (80, 2, [1, 0], 81), (81, 11, [], 82), (82, 18, [157, 3], 85), (85, 3, [3, 0], 86), (86, 2, [3, 0], 87), (87, 1, [100], 89), (89, 7, [2, 114], 92), (92, 2, [3, 0], 93), (93, 1, [200], 96), (96, 7, [3, 114], 99), (99, 2, [0, 2], 100), (100, 9, [10, 3], 103), (103, 2, [0, 2], 104), (104, 9, [10, 6], 107), (107, 2, [2, 0], 108), (108, 11, [], 109), (109, 11, [], 110), (110, 1, [1], 111), (111, 7, [1, 116], 114), (114, 1, [1], 115), (115, 22, [1], 116), (116, 2, [0, 2], 117), (117, 9, [10, 36], 120), (120, 1, [4], 121), (121, 2, [0, 2], 122), (122, 9, [10, 6], 125), (125, 2, [2, 0], 126), (126, 11, [], 127), (127, 5, [2], 128), (128, 2, [3, 0], 129), (129, 5, [0], 130), (130, 1, [100], 132), (132, 5, [1], 133), (133, 11, [], 134), (134, 3, [4, 0], 136), (136, 2, [4, 0], 138), (138, 1, [-1], 139), (139, 7, [0, 148], 142), (142, 2, [4, 0], 144), (144, 2, [1, 0], 145), (145, 7, [1, 152], 148), (148, 1, [1], 149), (149, 8, [153], 152), (152, 1, [0], 153), (153, 22, [1], 154)]
def sm_c157 : List (Nat × Smi) := [(0, 2, [0, 2], 1), (1, 9, [10, 6], 4), (4, 2, [1, 0], 5), (5, 11, [], 6), (6, 3, [4, 0], 8), (8, 2, [0, 2], 9), (9, 9, [10, 1], 12), (12, 2, [4, 0], 14), (14, 11, [], 15), (15, 3, [5, 0], 17), (17, 2, [0, 2], 18), (18, 9, [10, 7], 21), (21, 2, [1, 0], 22), (22, 11, [], 23), (23, 3, [6, 0], 25), (25, 2, [5, 0], 27), (27, 1, [3], 28), (28, 7, [1, 76], 31), (31, 2, [6, 0], 33), (33, 1, [1], 34), (34, 7, [1, 76], 37), (37, 2, [3, 0], 38), (38, 1, [4], 39), (39, 7, [3, 49], 42), (42, 1, [100], 44), (44, 2, [3, 0], 45), (45, 5, [0], 46), (46, 8, [75], 49), (49, 2, [3, 0], 50), (50, 1, [4], 51), (51, 7, [1, 58], 54), (54, 1, [1], 55), (55, 8, [75], 58), (58, 2, [3, 0], 59), (59, 1, [9], 61), (61, 7, [3, 74], 64), (64, 1, [200], 67), (67, 2, [3, 0], 68), (68, 5, [0], 69), (69, 1, [5], 70), (70, 5, [1], 71), (71, 8, [75], 74), (74, 1, [0], 75), (75, 22, [0], 76), (76, 2, [5, 0], 78), (78, 1, [4], 79), (79, 7, [1, 104], 82), (82, 2, [6, 0], 84), (84, 1, [1], 85), (85, 7, [0, 94], 88), (88, 2, [6, 0], 90), (90, 1, [3], 91), (91, 7, [1, 104], 94), (94, 2, [3, 0], 95), (95, 6, [1, 102], 98), (98, 1, [1], 99), (99, 8, [103], 102), (102, 1, [0], 103), (103, 22, [0], 104), (104, 2, [5, 0], 106), (106, 1, [5], 107), (107, 7, [1, 209], 110), (110, 2, [0, 2], 111), (111, 9, [10, 3], 114), (114, 2, [4, 0], 116), (116, 11, [], 117), (117, 1, [2], 118), (118, 7, [1, 140], 121), (121, 2, [3, 0], 122), (122, 1, [6], 124), (124, 7, [0, 133], 127), (127, 2, [3, 0], 128), (128, 1, [7], 130), (130, 7, [1, 140], 133), (133, 1, [13], 135), (135, 2, [3, 0], 136), (136, 5, [1], 137), (137, 8, [141], 140), (140, 2, [3, 0], 141), (141, 3, [7, 0], 143), (143, 2, [7, 0], 145), (145, 40, [0, 207, 192, 195, 197, 199, 203, 192, 205, 199], 192), (192, 1, [100], 194), (194, 22, [0], 195), (195, 1, [3], 196), (196, 22, [0], 197), (197, 1, [4], 198), (198, 22, [0], 199), (199, 1, [200], 202), (202, 22, [0], 203), (203, 1, [5], 204), (204, 22, [0], 205), (205, 1, [2], 206), (206, 22, [0], 207), (207, 1, [0], 208), (208, 22, [0], 209), (209, 2, [5, 0], 211), (211, 6, [1, 225], 214), (214, 2, [0, 2], 215), (215, 9, [10, 8], 218), (218, 2, [1, 0], 219), (219, 11, [], 220), (220, 1, [4], 221), (221, 5, [4], 222), (222, 8, [251], 225), (225, 2, [5, 0], 227), (227, 1, [1], 228), (228, 7, [1, 238], 231), (231, 1, [1], 232), (232, 2, [6, 0], 234), (234, 5, [1], 235), (235, 8, [251], 238), (238, 2, [5, 0], 240), (240, 1, [3], 241), (241, 7, [1, 250], 244), (244, 2, [2, 0], 245), (245, 1, [4], 246), (246, 5, [4], 247), (247, 8, [251], 250), (250, 1, [0], 251), (251, 3, [7, 0], 253), (253, 2, [5, 0], 255), (255, 6, [1, 301], 258), (258, 2, [6, 0], 260), (260, 1, [1], 261), (261, 7, [1, 301], 264), (264, 2, [3, 0], 265), (265, 6, [1, 276], 268), (268, 1, [100], 270), (270, 2, [7, 0], 272), (272, 5, [0], 273), (273, 8, [300], 276), (276, 2, [3, 0], 277), (277, 1, [1], 278), (278, 7, [1, 285], 281), (281, 1, [1], 282), (282, 8, [300], 285), (285, 2, [3, 0], 286), (286, 1, [2], 287), (287, 7, [1, 299], 290), (290, 1, [200], 293), (293, 2, [7, 0], 295), (295, 5, [0], 296), (296, 8, [300], 299), (299, 1, [0], 300), (300, 22, [0], 301), (301, 2, [0, 2], 302), (302, 9, [10, 3], 305), (305, 2, [4, 0], 307), (307, 11, [], 308), (308, 1, [2], 309), (309, 7, [1, 328], 312), (312, 2, [3, 0], 313), (313, 1, [2], 314), (314, 7, [0, 322], 317), (317, 2, [3, 0], 318), (318, 1, [3], 319), (319, 7, [1, 328], 322), (322, 1, [5], 323), (323, 2, [3, 0], 324), (324, 5, [1], 325), (325, 8, [329], 328), (328, 2, [3, 0], 329), (329, 3, [8, 0], 331), (331, 2, [8, 0], 333), (333, 6, [1, 344], 336), (336, 1, [100], 338), (338, 2, [7, 0], 340), (340, 5, [0], 341), (341, 8, [390], 344), (344, 2, [8, 0], 346), (346, 1, [1], 347), (347, 7, [1, 364], 350), (350, 2, [5, 0], 352), (352, 1, [2], 353), (353, 7, [1, 360], 356), (356, 1, [3], 357), (357, 8, [390], 360), (360, 1, [1], 361), (361, 8, [390], 364), (364, 2, [8, 0], 366), (366, 1, [2], 367), (367, 7, [1, 374], 370), (370, 1, [2], 371), (371, 8, [390], 374), (374, 2, [8, 0], 376), (376, 1, [3], 377), (377, 7, [1, 389], 380), (380, 1, [200], 383), (383, 2, [7, 0], 385), (385, 5, [0], 386), (386, 8, [390], 389), (389, 1, [0], 390), (390, 22, [0], 391)]
def sm_c158 : List (Nat × Smi) := [(0, 1, [8], 2), (2, 2, [1, 0], 3), (3, 5, [2], 4), (4, 2, [0, 2], 5), (5, 9, [10, 25], 8), (8, 2, [1, 0], 9), (9, 11, [], 10), (10, 5, [0], 11), (11, 3, [2, 0], 12), (12, 2, [0, 2], 13), (13, 9, [10, 23], 16), (16, 2, [2, 0], 17), (17, 11, [], 18), (18, 1, [-1], 19), (19, 7, [1, 35], 22), (22, 2, [0, 2], 23), (23, 2, [2, 0], 24), (24, 1, [0], 25), (25, 18, [159, 2], 28), (28, 2, [0, 2], 29), (29, 9, [10, 21], 32), (32, 2, [2, 0], 33), (33, 1, [5], 34), (34, 12, [], 35), (35, 2, [0, 2], 36), (36, 9, [10, 27], 39), (39, 2, [1, 0], 40), (40, 13, [], 41), (41, 6, [0, 63], 44), (44, 2, [0, 2], 45), (45, 2, [1, 0], 46), (46, 2, [2, 0], 47), (47, 1, [4], 48), (48, 1, [0], 49), (49, 18, [160, 4], 52), (52, 2, [0, 2], 53), (53, 25, [], 54), (54, 9, [10, 15], 57), (57, 1, [1], 58), (58, 5, [0], 59), (59, 10, [10, 15], 62), (62, 21, [], 63), (63, 2, [0, 2], 64), (64, 2, [2, 0], 65), (65, 2, [1, 0], 66), (66, 2, [0, 2], 67), (67, 9, [10, 26], 70), (70, 2, [1, 0], 71), (71, 11, [], 72), (72, 18, [157, 3], 75), (75, 3, [3, 0], 76), (76, 1, [4], 77), (77, 2, [0, 2], 78), (78, 9, [10, 6], 81), (81, 2, [2, 0], 82), (82, 11, [], 83), (83, 5, [2], 84), (84, 2, [3, 0], 85), (85, 1, [100], 87), (87, 5, [4], 88), (88, 5, [0], 89), (89, 3, [4, 0], 91), (91, 2, [0, 2], 92), (92, 9, [10, 3], 95), (95, 2, [0, 2], 96), (96, 9, [10, 6], 99), (99, 2, [2, 0], 100), (100, 11, [], 101), (101, 11, [], 102), (102, 1, [1], 103), (103, 7, [1, 110], 106), (106, 1, [1], 107), (107, 8, [111], 110), (110, 1, [0], 111), (111, 3, [5, 0], 113), (113, 2, [3, 0], 114), (114, 1, [200], 117), (117, 7, [2, 146], 120), (120, 2, [0, 2], 121), (121, 9, [10, 36], 124), (124, 2, [4, 0], 126), (126, 2, [5, 0], 128), (128, 6, [0, 141], 131), (131, 2, [0, 2], 132), (132, 9, [10, 36], 135), (135, 2, [4, 0], 137), (137, 11, [], 138), (138, 8, [142], 141), (141, 1, [-1], 142), (142, 12, [], 143), (143, 8, [256], 146), (146, 2, [3, 0], 147), (147, 1, [100], 149), (149, 7, [2, 178], 152), (152, 2, [0, 2], 153), (153, 9, [10, 36], 156), (156, 2, [4, 0], 158), (158, 2, [5, 0], 160), (160, 6, [0, 173], 163), (163, 2, [0, 2], 164), (164, 9, [10, 36], 167), (167, 2, [4, 0], 169), (169, 11, [], 170), (170, 8, [174], 173), (173, 2, [1, 0], 174), (174, 12, [], 175), (175, 8, [256], 178), (178, 2, [3, 0], 179), (179, 1, [1], 180), (180, 7, [1, 192], 183), (183, 2, [0, 2], 184), (184, 2, [1, 0], 185), (185, 2, [2, 0], 186), (186, 18, [161, 2], 189), (189, 8, [256], 192), (192, 2, [3, 0], 193), (193, 1, [3], 194), (194, 7, [1, 206], 197), (197, 2, [0, 2], 198), (198, 2, [1, 0], 199), (199, 2, [2, 0], 200), (200, 18, [167, 2], 203), (203, 8, [256], 206), (206, 2, [3, 0], 207), (207, 1, [2], 208), (208, 7, [1, 220], 211), (211, 2, [0, 2], 212), (212, 2, [1, 0], 213), (213, 2, [2, 0], 214), (214, 18, [169, 2], 217), (217, 8, [256], 220), (220, 2, [3, 0], 221), (221, 1, [4], 222), (222, 7, [1, 250], 225), (225, 2, [0, 2], 226), (226, 9, [10, 47], 229), (229, 1, [32], 231), (231, 2, [0, 2], 232), (232, 9, [10, 6], 235), (235, 2, [2, 0], 236), (236, 11, [], 237), (237, 5, [2], 238), (238, 2, [0, 2], 239), (239, 9, [10, 8], 242), (242, 2, [2, 0], 243), (243, 11, [], 244), (244, 5, [0], 245), (245, 1, [1], 246), (246, 14, [], 247), (247, 8, [256], 250), (250, 2, [0, 2], 251), (251, 2, [1, 0], 252), (252, 2, [2, 0], 253), (253, 18, [176, 2], 256), (256, 2, [0, 2], 257), (257, 9, [10, 26], 260), (260, 2, [1, 0], 261), (261, 26, [], 262), (262, 11, [], 263), (263, 1, [1], 264), (264, 5, [0], 265), (265, 12, [], 266), (266, 2, [0, 2], 267), (267, 9, [10, 33], 270), (270, 2, [1, 0], 271), (271, 13, [], 272), (272, 6, [0, 282], 275), (275, 2, [3, 0], 276), (276, 1, [200], 279), (279, 7, [3, 306], 282), (282, 2, [0, 2], 283), (283, 9, [10, 27], 286), (286, 2, [1, 0], 287), (287, 13, [], 288), (288, 6, [1, 312], 291), (291, 2, [0, 2], 292), (292, 2, [2, 0], 293), (293, 2, [1, 0], 294), (294, 2, [0, 2], 295), (295, 9, [10, 26], 298), (298, 2, [1, 0], 299), (299, 11, [], 300), (300, 18, [157, 3], 303), (303, 6, [1, 312], 306), (306, 2, [0, 2], 307), (307, 2, [1, 0], 308), (308, 2, [2, 0], 309), (309, 18, [177, 2], 312), (312, 2, [0, 2], 313), (313, 25, [], 314), (314, 9, [10, 15], 317), (317, 1, [1], 318), (318, 5, [0], 319), (319, 10, [10, 15], 322), (322, 21, [], 323)]
def sm_c159 : List (Nat × Smi) := [(0, 2, [0, 2], 1), (1, 9, [10, 17], 4), (4, 2, [0, 2], 5), (5, 9, [10, 16], 8), (8, 2, [1, 0], 9), (9, 12, [], 10), (10, 2, [0, 2], 11), (11, 9, [10, 18], 14), (14, 2, [0, 2], 15), (15, 9, [10, 16], 18), (18, 2, [2, 0], 19), (19, 14, [], 20), (20, 2, [0, 2], 21), (21, 9, [10, 19], 24), (24, 2, [0, 2], 25), (25, 9, [10, 16], 28), (28, 2, [0, 2], 29), (29, 9, [10, 15], 32), (32, 12, [], 33), (33, 2, [2, 0], 34), (34, 6, [0, 50], 37), (37, 2, [0, 2], 38), (38, 9, [10, 24], 41), (41, 2, [1, 0], 42), (42, 2, [0, 2], 43), (43, 9, [10, 16], 46), (46, 12, [], 47), (47, 8, [60], 50), (50, 2, [0, 2], 51), (51, 9, [10, 23], 54), (54, 2, [1, 0], 55), (55, 2, [0, 2], 56), (56, 9, [10, 16], 59), (59, 12, [], 60), (60, 2, [0, 2], 61), (61, 25, [], 62), (62, 9, [10, 16], 65), (65, 1, [1], 66), (66, 5, [0], 67), (67, 10, [10, 16], 70), (70, 21, [], 71)]
def sm_c160 : List (Nat × Smi) := [(0, 2, [0, 2], 1), (1, 2, [2, 0], 2), (2, 1, [1], 3), (3, 18, [159, 2], 6), (6, 2, [0, 2], 7), (7, 9, [10, 21], 10), (10, 2, [2, 0], 11), (11, 2, [3, 0], 12), (12, 12, [], 13), (13, 2, [0, 2], 14), (14, 9, [10, 20], 17), (17, 2, [2, 0], 18), (18, 2, [4, 0], 20), (20, 12, [], 21), (21, 2, [0, 2], 22), (22, 9, [10, 25], 25), (25, 2, [1, 0], 26), (26, 26, [], 27), (27, 11, [], 28), (28, 1, [1], 29), (29, 5, [0], 30), (30, 12, [], 31), (31, 2, [0, 2], 32), (32, 9, [10, 26], 35), (35, 2, [1, 0], 36), (36, 1, [0], 37), (37, 12, [], 38), (38, 2, [0, 2], 39), (39, 9, [10, 27], 42), (42, 2, [1, 0], 43), (43, 1, [0], 44), (44, 14, [], 45), (45, 2, [0, 2], 46), (46, 9, [10, 33], 49), (49, 2, [1, 0], 50), (50, 1, [0], 51), (51, 14, [], 52), (52, 21, [], 53)]
def sm_c161 : List (Nat × Smi) := [(0, 2, [0, 2], 1), (1, 9, [10, 6], 4), (4, 2, [2, 0], 5), (5, 11, [], 6), (6, 3, [3, 0], 7), (7, 2, [0, 2], 8), (8, 9, [10, 7], 11), (11, 2, [2, 0], 12), (12, 11, [], 13), (13, 3, [4, 0], 15), (15, 2, [0, 2], 16), (16, 9, [10, 8], 19), (19, 2, [2, 0], 20), (20, 11, [], 21), (21, 3, [5, 0], 23), (23, 2, [0, 2], 24), (24, 9, [10, 1], 27), (27, 2, [3, 0], 28), (28, 11, [], 29), (29, 40, [0, 246, 60, 119, 246, 176], 60), (60, 2, [0, 2], 61), (61, 2, [3, 0], 62), (62, 2, [5, 0], 64), (64, 18, [162, 2], 67), (67, 2, [0, 2], 68), (68, 9, [10, 29], 71), (71, 2, [1, 0], 72), (72, 2, [0, 2], 73), (73, 9, [10, 37], 76), (76, 1, [32], 78), (78, 2, [3, 0], 79), (79, 5, [2], 80), (80, 2, [5, 0], 82), (82, 5, [0], 83), (83, 13, [], 84), (84, 14, [], 85), (85, 2, [0, 2], 86), (86, 9, [10, 30], 89), (89, 2, [1, 0], 90), (90, 2, [0, 2], 91), (91, 9, [10, 29], 94), (94, 2, [1, 0], 95), (95, 13, [], 96), (96, 6, [0, 114], 99), (99, 2, [0, 2], 100), (100, 9, [10, 38], 103), (103, 1, [32], 105), (105, 2, [3, 0], 106), (106, 5, [2], 107), (107, 2, [5, 0], 109), (109, 5, [0], 110), (110, 11, [], 111), (111, 8, [115], 114), (114, 1, [0], 115), (115, 12, [], 116), (116, 8, [428], 119), (119, 2, [0, 2], 120), (120, 9, [10, 29], 123), (123, 2, [1, 0], 124), (124, 2, [4, 0], 126), (126, 1, [1], 127), (127, 7, [1, 143], 130), (130, 2, [0, 2], 131), (131, 9, [10, 44], 134), (134, 2, [3, 0], 135), (135, 11, [], 136), (136, 6, [5, 143], 139), (139, 1, [1], 140), (140, 8, [144], 143), (143, 1, [0], 144), (144, 14, [], 145), (145, 2, [0, 2], 146), (146, 9, [10, 30], 149), (149, 2, [1, 0], 150), (150, 2, [0, 2], 151), (151, 9, [10, 29], 154), (154, 2, [1, 0], 155), (155, 13, [], 156), (156, 6, [0, 171], 159), (159, 2, [0, 2], 160), (160, 9, [10, 43], 163), (163, 1, [48], 165), (165, 2, [3, 0], 166), (166, 5, [2], 167), (167, 11, [], 168), (168, 8, [172], 171), (171, 1, [0], 172), (172, 12, [], 173), (173, 8, [428], 176), (176, 2, [0, 2], 177), (177, 9, [10, 30], 180), (180, 2, [1, 0], 181), (181, 2, [4, 0], 183), (183, 6, [1, 201], 186), (186, 2, [0, 2], 187), (187, 9, [10, 46], 190), (190, 1, [4], 191), (191, 2, [3, 0], 192), (192, 5, [2], 193), (193, 2, [1, 0], 194), (194, 1, [4], 195), (195, 5, [4], 196), (196, 5, [0], 197), (197, 11, [], 198), (198, 8, [242], 201), (201, 2, [0, 2], 202), (202, 9, [10, 46], 205), (205, 1, [4], 206), (206, 2, [3, 0], 207), (207, 5, [2], 208), (208, 11, [], 209), (209, 2, [0, 2], 210), (210, 9, [10, 46], 213), (213, 1, [4], 214), (214, 2, [3, 0], 215), (215, 5, [2], 216), (216, 1, [1], 217), (217, 5, [0], 218), (218, 11, [], 219), (219, 5, [0], 220), (220, 2, [0, 2], 221), (221, 9, [10, 46], 224), (224, 1, [4], 225), (225, 2, [3, 0], 226), (226, 5, [2], 227), (227, 1, [2], 228), (228, 5, [0], 229), (229, 11, [], 230), (230, 5, [0], 231), (231, 2, [0, 2], 232), (232, 9, [10, 46], 235), (235, 1, [4], 236), (236, 2, [3, 0], 237), (237, 5, [2], 238), (238, 1, [3], 239), (239, 5, [0], 240), (240, 11, [], 241), (241, 5, [0], 242), (242, 12, [], 243), (243, 8, [428], 246), (246, 1, [0], 247), (247, 3, [6, 0], 249), (249, 1, [0], 250), (250, 3, [7, 0], 252), (252, 2, [7, 0], 254), (254, 1, [32], 256), (256, 7, [3, 354], 259), (259, 2, [0, 2], 260), (260, 9, [10, 34], 263), (263, 1, [32], 265), (265, 2, [1, 0], 266), (266, 5, [2], 267), (267, 2, [7, 0], 269), (269, 5, [0], 270), (270, 2, [0, 2], 271), (271, 9, [10, 37], 274), (274, 1, [32], 276), (276, 2, [3, 0], 277), (277, 5, [2], 278), (278, 2, [7, 0], 280), (280, 5, [0], 281), (281, 13, [], 282), (282, 14, [], 283), (283, 2, [0, 2], 284), (284, 9, [10, 35], 287), (287, 1, [32], 289), (289, 2, [1, 0], 290), (290, 5, [2], 291), (291, 2, [7, 0], 293), (293, 5, [0], 294), (294, 2, [0, 2], 295), (295, 9, [10, 38], 298), (298, 1, [32], 300), (300, 2, [3, 0], 301), (301, 5, [2], 302), (302, 2, [7, 0], 304), (304, 5, [0], 305), (305, 11, [], 306), (306, 12, [], 307), (307, 2, [6, 0], 309), (309, 2, [0, 2], 310), (310, 9, [10, 37], 313), (313, 1, [32], 315), (315, 2, [3, 0], 316), (316, 5, [2], 317), (317, 2, [7, 0], 319), (319, 5, [0], 320), (320, 13, [], 321), (321, 6, [0, 344], 324), (324, 2, [7, 0], 326), (326, 1, [1], 327), (327, 5, [0], 328), (328, 2, [0, 2], 329), (329, 9, [10, 38], 332), (332, 1, [32], 334), (334, 2, [3, 0], 335), (335, 5, [2], 336), (336, 2, [7, 0], 338), (338, 5, [0], 339), (339, 11, [], 340), (340, 5, [2], 341), (341, 8, [345], 344), (344, 1, [0], 345), (345, 5, [0], 346), (346, 3, [6, 0], 348), (348, 4, [7, 1], 351), (351, 8, [252], 354), (354, 2, [0, 2], 355), (355, 9, [10, 29], 358), (358, 2, [1, 0], 359), (359, 2, [4, 0], 361), (361, 1, [3], 362), (362, 7, [0, 380], 365), (365, 2, [0, 2], 366), (366, 9, [10, 37], 369), (369, 1, [32], 371), (371, 2, [3, 0], 372), (372, 5, [2], 373), (373, 2, [5, 0], 375), (375, 5, [0], 376), (376, 13, [], 377), (377, 6, [0, 384], 380), (380, 1, [1], 381), (381, 8, [385], 384), (384, 1, [0], 385), (385, 14, [], 386), (386, 2, [0, 2], 387), (387, 9, [10, 30], 390), (390, 2, [1, 0], 391), (391, 2, [4, 0], 393), (393, 1, [3], 394), (394, 7, [1, 402], 397), (397, 2, [6, 0], 399), (399, 8, [427], 402), (402, 2, [0, 2], 403), (403, 9, [10, 29], 406), (406, 2, [1, 0], 407), (407, 13, [], 408), (408, 6, [0, 426], 411), (411, 2, [0, 2], 412), (412, 9, [10, 38], 415), (415, 1, [32], 417), (417, 2, [3, 0], 418), (418, 5, [2], 419), (419, 2, [5, 0], 421), (421, 5, [0], 422), (422, 11, [], 423), (423, 8, [427], 426), (426, 1, [0], 427), (427, 12, [], 428), (428, 21, [], 429)]
def sm_c162 : List (Nat × Smi) := [(0, 2, [0, 2], 1), (1, 2, [1, 0], 2), (2, 2, [2, 0], 3), (3, 18, [163, 2], 6), (6, 3, [3, 0], 7), (7, 2, [0, 2], 8), (8, 9, [10, 50], 11), (11, 2, [3, 0], 12), (12, 13, [], 13), (13, 6, [1, 17], 16), (16, 21, [], 17), (17, 2, [0, 2], 18), (18, 9, [10, 51], 21), (21, 2, [3, 0], 22), (22, 11, [], 23), (23, 3, [4, 0], 25), (25, 2, [0, 2], 26), (26, 2, [1, 0], 27), (27, 2, [2, 0], 28), (28, 1, [4], 29), (29, 5, [4], 30), (30, 1, [0], 31), (31, 2, [4, 0], 33), (33, 18, [164, 4], 36), (36, 3, [5, 0], 38), (38, 2, [5, 0], 40), (40, 1, [-1], 41), (41, 7, [0, 86], 44), (44, 2, [0, 2], 45), (45, 2, [1, 0], 46), (46, 2, [5, 0], 48), (48, 1, [1], 49), (49, 1, [2], 50), (50, 2, [0, 2], 51), (51, 9, [10, 49], 54), (54, 2, [3, 0], 55), (55, 11, [], 56), (56, 5, [2], 57), (57, 18, [166, 4], 60), (60, 2, [0, 2], 61), (61, 9, [10, 53], 64), (64, 2, [1, 0], 65), (65, 26, [], 66), (66, 11, [], 67), (67, 1, [1], 68), (68, 5, [0], 69), (69, 12, [], 70), (70, 2, [0, 2], 71), (71, 2, [1, 0], 72), (72, 2, [2, 0], 73), (73, 1, [4], 74), (74, 5, [4], 75), (75, 1, [0], 76), (76, 2, [4, 0], 78), (78, 18, [164, 4], 81), (81, 3, [5, 0], 83), (83, 8, [38], 86), (86, 2, [0, 2], 87), (87, 9, [10, 51], 90), (90, 2, [3, 0], 91), (91, 26, [], 92), (92, 11, [], 93), (93, 1, [1], 94), (94, 5, [0], 95), (95, 12, [], 96), (96, 2, [0, 2], 97), (97, 9, [10, 51], 100), (100, 2, [3, 0], 101), (101, 11, [], 102), (102, 2, [0, 2], 103), (103, 9, [10, 49], 106), (106, 2, [3, 0], 107), (107, 11, [], 108), (108, 7, [1, 163], 111), (111, 2, [0, 2], 112), (112, 9, [10, 49], 115), (115, 2, [3, 0], 116), (116, 1, [2], 117), (117, 2, [0, 2], 118), (118, 9, [10, 49], 121), (121, 2, [3, 0], 122), (122, 11, [], 123), (123, 5, [2], 124), (124, 12, [], 125), (125, 2, [0, 2], 126), (126, 9, [10, 50], 129), (129, 2, [3, 0], 130), (130, 1, [0], 131), (131, 14, [], 132), (132, 2, [2, 0], 133), (133, 1, [4], 134), (134, 5, [4], 135), (135, 3, [6, 0], 137), (137, 2, [6, 0], 139), (139, 1, [32], 141), (141, 7, [3, 163], 144), (144, 2, [0, 2], 145), (145, 9, [10, 40], 148), (148, 1, [32], 150), (150, 2, [1, 0], 151), (151, 5, [2], 152), (152, 2, [6, 0], 154), (154, 5, [0], 155), (155, 1, [0], 156), (156, 14, [], 157), (157, 4, [6, 4], 160), (160, 8, [137], 163), (163, 21, [], 164)]
def sm_c163 : List (Nat × Smi) := [(0, 1, [4], 1), (1, 2, [1, 0], 2), (2, 5, [2], 3), (3, 2, [2, 0], 4), (4, 1, [4], 5), (5, 5, [4], 6), (6, 5, [0], 7), (7, 22, [0], 8)]
def sm_c164 : List (Nat × Smi) := [(0, 2, [0, 2], 1), (1, 2, [1, 0], 2), (2, 2, [2, 0], 3), (3, 2, [3, 0], 4), (4, 2, [4, 0], 6), (6, 2, [0, 2], 7), (7, 9, [10, 42], 10), (10, 1, [1], 11), (11, 5, [0], 12), (12, 18, [165, 5], 15), (15, 22, [0], 16)]
def sm_c165 : List (Nat × Smi) := [(0, 1, [-1], 1), (1, 3, [6, 0], 3), (3, 2, [2, 0], 4), (4, 3, [7, 0], 6), (6, 2, [7, 0], 8), (8, 1, [32], 10), (10, 7, [3, 122], 13), (13, 1, [32], 15), (15, 2, [1, 0], 16), (16, 5, [2], 17), (17, 2, [7, 0], 19), (19, 5, [0], 20), (20, 3, [8, 0], 22), (22, 2, [0, 2], 23), (23, 9, [10, 37], 26), (26, 2, [8, 0], 28), (28, 13, [], 29), (29, 6, [0, 71], 32), (32, 2, [0, 2], 33), (33, 9, [10, 40], 36), (36, 2, [8, 0], 38), (38, 13, [], 39), (39, 2, [3, 0], 40), (40, 7, [1, 71], 43), (43, 2, [0, 2], 44), (44, 9, [10, 39], 47), (47, 2, [8, 0], 49), (49, 11, [], 50), (50, 2, [4, 0], 52), (52, 7, [1, 71], 55), (55, 2, [0, 2], 56), (56, 9, [10, 41], 59), (59, 2, [8, 0], 61), (61, 11, [], 62), (62, 2, [5, 0], 64), (64, 7, [3, 71], 67), (67, 1, [1], 68), (68, 8, [72], 71), (71, 1, [0], 72), (72, 3, [9, 0], 74), (74, 2, [9, 0], 76), (76, 6, [0, 112], 79), (79, 2, [6, 0], 81), (81, 1, [-1], 82), (82, 7, [0, 107], 85), (85, 2, [0, 2], 86), (86, 9, [10, 41], 89), (89, 2, [8, 0], 91), (91, 11, [], 92), (92, 2, [0, 2], 93), (93, 9, [10, 41], 96), (96, 1, [32], 98), (98, 2, [1, 0], 99), (99, 5, [2], 100), (100, 2, [6, 0], 102), (102, 5, [0], 103), (103, 11, [], 104), (104, 7, [5, 112], 107), (107, 2, [7, 0], 109), (109, 8, [114], 112), (112, 2, [6, 0], 114), (114, 3, [6, 0], 116), (116, 4, [7, 4], 119), (119, 8, [6], 122), (122, 2, [6, 0], 124), (124, 22, [0], 125)]
def sm_c166 : List (Nat × Smi) := [(0, 1, [32], 2), (2, 2, [1, 0], 3), (3, 5, [2], 4), (4, 2, [2, 0], 5), (5, 5, [0], 6), (6, 3, [5, 0], 8), (8, 2, [0, 2], 9), (9, 25, [], 10), (10, 9, [10, 42], 13), (13, 1, [1], 14), (14, 5, [0], 15), (15, 10, [10, 42], 18), (18, 2, [0, 2], 19), (19, 9, [10, 41], 22), (22, 2, [5, 0], 24), (24, 2, [0, 2], 25), (25, 9, [10, 42], 28), (28, 12, [], 29), (29, 2, [0, 2], 30), (30, 9, [10, 40], 33), (33, 2, [5, 0], 35), (35, 2, [3, 0], 36), (36, 14, [], 37), (37, 2, [0, 2], 38), (38, 9, [10, 39], 41), (41, 2, [5, 0], 43), (43, 2, [2, 0], 44), (44, 1, [4], 45), (45, 5, [3], 46), (46, 2, [4, 0], 48), (48, 5, [4], 49), (49, 12, [], 50), (50, 21, [], 51)]
def sm_c167 : List (Nat × Smi) := [(0, 2, [0, 2], 1), (1, 9, [10, 6], 4), (4, 2, [2, 0], 5), (5, 11, [], 6), (6, 3, [3, 0], 7), (7, 2, [0, 2], 8), (8, 9, [10, 7], 11), (11, 2, [2, 0], 12), (12, 11, [], 13), (13, 3, [4, 0], 15), (15, 2, [0, 2], 16), (16, 9, [10, 31], 19), (19, 2, [1, 0], 20), (20, 1, [0], 21), (21, 14, [], 22), (22, 2, [0, 2], 23), (23, 9, [10, 1], 26), (26, 2, [3, 0], 27), (27, 11, [], 28), (28, 1, [5], 29), (29, 7, [1, 111], 32), (32, 1, [32], 34), (34, 2, [3, 0], 35), (35, 5, [2], 36), (36, 2, [0, 2], 37), (37, 9, [10, 8], 40), (40, 2, [2, 0], 41), (41, 11, [], 42), (42, 5, [0], 43), (43, 3, [5, 0], 45), (45, 2, [0, 2], 46), (46, 9, [10, 37], 49), (49, 2, [5, 0], 51), (51, 13, [], 52), (52, 6, [0, 92], 55), (55, 2, [0, 2], 56), (56, 9, [10, 29], 59), (59, 2, [1, 0], 60), (60, 1, [1], 61), (61, 14, [], 62), (62, 2, [0, 2], 63), (63, 9, [10, 30], 66), (66, 2, [1, 0], 67), (67, 2, [0, 2], 68), (68, 9, [10, 38], 71), (71, 2, [5, 0], 73), (73, 11, [], 74), (74, 12, [], 75), (75, 2, [0, 2], 76), (76, 9, [10, 33], 79), (79, 2, [1, 0], 80), (80, 1, [1], 81), (81, 14, [], 82), (82, 2, [0, 2], 83), (83, 9, [10, 26], 86), (86, 2, [1, 0], 87), (87, 1, [2], 88), (88, 12, [], 89), (89, 8, [108], 92), (92, 2, [0, 2], 93), (93, 9, [10, 47], 96), (96, 2, [5, 0], 98), (98, 13, [], 99), (99, 6, [0, 108], 102), (102, 2, [0, 2], 103), (103, 2, [1, 0], 104), (104, 2, [2, 0], 105), (105, 18, [168, 2], 108), (108, 8, [239], 111), (111, 2, [4, 0], 113), (113, 1, [2], 114), (114, 7, [3, 162], 117), (117, 2, [0, 2], 118), (118, 9, [10, 31], 121), (121, 2, [1, 0], 122), (122, 2, [0, 2], 123), (123, 9, [10, 45], 126), (126, 2, [3, 0], 127), (127, 13, [], 128), (128, 14, [], 129), (129, 2, [0, 2], 130), (130, 9, [10, 45], 133), (133, 2, [3, 0], 134), (134, 13, [], 135), (135, 6, [1, 239], 138), (138, 2, [0, 2], 139), (139, 9, [10, 44], 142), (142, 2, [3, 0], 143), (143, 11, [], 144), (144, 2, [0, 2], 145), (145, 9, [10, 2], 148), (148, 2, [3, 0], 149), (149, 11, [], 150), (150, 7, [2, 239], 153), (153, 2, [0, 2], 154), (154, 2, [1, 0], 155), (155, 2, [2, 0], 156), (156, 18, [168, 2], 159), (159, 8, [239], 162), (162, 2, [4, 0], 164), (164, 1, [4], 165), (165, 7, [3, 239], 168), (168, 2, [0, 2], 169), (169, 9, [10, 44], 172), (172, 2, [3, 0], 173), (173, 11, [], 174), (174, 6, [5, 214], 177), (177, 2, [0, 2], 178), (178, 9, [10, 30], 181), (181, 2, [1, 0], 182), (182, 2, [0, 2], 183), (183, 9, [10, 43], 186), (186, 1, [48], 188), (188, 2, [3, 0], 189), (189, 5, [2], 190), (190, 2, [4, 0], 192), (192, 1, [2], 193), (193, 7, [1, 200], 196), (196, 1, [0], 197), (197, 8, [208], 200), (200, 2, [0, 2], 201), (201, 9, [10, 44], 204), (204, 2, [3, 0], 205), (205, 11, [], 206), (206, 1, [1], 207), (207, 5, [1], 208), (208, 5, [0], 209), (209, 11, [], 210), (210, 12, [], 211), (211, 8, [239], 214), (214, 2, [0, 2], 215), (215, 9, [10, 45], 218), (218, 2, [3, 0], 219), (219, 13, [], 220), (220, 6, [0, 233], 223), (223, 2, [0, 2], 224), (224, 9, [10, 31], 227), (227, 2, [1, 0], 228), (228, 1, [1], 229), (229, 14, [], 230), (230, 8, [239], 233), (233, 2, [0, 2], 234), (234, 2, [1, 0], 235), (235, 2, [2, 0], 236), (236, 18, [168, 2], 239), (239, 21, [], 240)]
def sm_c168 : List (Nat × Smi) := [(0, 1, [4], 1), (1, 2, [0, 2], 2), (2, 9, [10, 6], 5), (5, 2, [2, 0], 6), (6, 11, [], 7), (7, 5, [2], 8), (8, 3, [3, 0], 9), (9, 2, [0, 2], 10), (10, 9, [10, 36], 13), (13, 2, [3, 0], 14), (14, 2, [0, 2], 15), (15, 9, [10, 36], 18), (18, 2, [3, 0], 19), (19, 11, [], 20), (20, 2, [1, 0], 21), (21, 7, [1, 28], 24), (24, 1, [-1], 25), (25, 8, [34], 28), (28, 2, [0, 2], 29), (29, 9, [10, 36], 32), (32, 2, [3, 0], 33), (33, 11, [], 34), (34, 12, [], 35), (35, 2, [0, 2], 36), (36, 9, [10, 27], 39), (39, 2, [1, 0], 40), (40, 1, [1], 41), (41, 14, [], 42), (42, 2, [0, 2], 43), (43, 9, [10, 28], 46), (46, 2, [1, 0], 47), (47, 2, [0, 2], 48), (48, 9, [10, 15], 51), (51, 1, [1], 52), (52, 5, [0], 53), (53, 12, [], 54), (54, 2, [0, 2], 55), (55, 9, [10, 22], 58), (58, 2, [2, 0], 59), (59, 26, [], 60), (60, 11, [], 61), (61, 1, [1], 62), (62, 5, [0], 63), (63, 12, [], 64), (64, 2, [0, 2], 65), (65, 9, [10, 26], 68), (68, 2, [1, 0], 69), (69, 1, [-1], 70), (70, 12, [], 71), (71, 21, [], 72)]
def sm_c169 : List (Nat × Smi) := [(0, 2, [0, 2], 1), (1, 9, [10, 6], 4), (4, 2, [2, 0], 5), (5, 11, [], 6), (6, 3, [3, 0], 7), (7, 2, [0, 2], 8), (8, 9, [10, 7], 11), (11, 2, [2, 0], 12), (12, 11, [], 13), (13, 3, [4, 0], 15), (15, 2, [0, 2], 16), (16, 9, [10, 8], 19), (19, 2, [2, 0], 20), (20, 11, [], 21), (21, 3, [5, 0], 23), (23, 2, [0, 2], 24), (24, 9, [10, 1], 27), (27, 2, [3, 0], 28), (28, 11, [], 29), (29, 40, [0, 419, 64, 156, 188, 284, 316], 64), (64, 2, [4, 0], 66), (66, 1, [2], 67), (67, 7, [1, 86], 70), (70, 2, [0, 2], 71), (71, 9, [10, 37], 74), (74, 1, [32], 76), (76, 2, [3, 0], 77), (77, 5, [2], 78), (78, 2, [5, 0], 80), (80, 5, [0], 81), (81, 1, [0], 82), (82, 14, [], 83), (83, 8, [452], 86), (86, 2, [0, 2], 87), (87, 2, [3, 0], 88), (88, 2, [5, 0], 90), (90, 2, [4, 0], 92), (92, 6, [1, 104], 95), (95, 2, [0, 2], 96), (96, 9, [10, 9], 99), (99, 2, [2, 0], 100), (100, 11, [], 101), (101, 8, [117], 104), (104, 2, [0, 2], 105), (105, 9, [10, 30], 108), (108, 2, [1, 0], 109), (109, 11, [], 110), (110, 2, [0, 2], 111), (111, 9, [10, 9], 114), (114, 2, [2, 0], 115), (115, 11, [], 116), (116, 5, [0], 117), (117, 18, [170, 3], 120), (120, 2, [0, 2], 121), (121, 9, [10, 30], 124), (124, 2, [1, 0], 125), (125, 2, [4, 0], 127), (127, 6, [1, 139], 130), (130, 2, [0, 2], 131), (131, 9, [10, 30], 134), (134, 2, [1, 0], 135), (135, 11, [], 136), (136, 8, [152], 139), (139, 2, [0, 2], 140), (140, 9, [10, 30], 143), (143, 2, [1, 0], 144), (144, 11, [], 145), (145, 2, [0, 2], 146), (146, 9, [10, 9], 149), (149, 2, [2, 0], 150), (150, 11, [], 151), (151, 5, [0], 152), (152, 12, [], 153), (153, 8, [452], 156), (156, 2, [4, 0], 158), (158, 6, [1, 171], 161), (161, 2, [0, 2], 162), (162, 2, [3, 0], 163), (163, 2, [5, 0], 165), (165, 18, [172, 2], 168), (168, 8, [452], 171), (171, 2, [0, 2], 172), (172, 9, [10, 29], 175), (175, 2, [1, 0], 176), (176, 13, [], 177), (177, 6, [0, 452], 180), (180, 2, [0, 2], 181), (181, 2, [3, 0], 182), (182, 18, [173, 1], 185), (185, 8, [452], 188), (188, 2, [0, 2], 189), (189, 9, [10, 31], 192), (192, 2, [1, 0], 193), (193, 13, [], 194), (194, 6, [1, 452], 197), (197, 2, [4, 0], 199), (199, 6, [1, 212], 202), (202, 2, [0, 2], 203), (203, 2, [3, 0], 204), (204, 2, [5, 0], 206), (206, 18, [172, 2], 209), (209, 8, [452], 212), (212, 2, [4, 0], 214), (214, 1, [1], 215), (215, 7, [1, 228], 218), (218, 2, [0, 2], 219), (219, 2, [3, 0], 220), (220, 2, [5, 0], 222), (222, 18, [174, 2], 225), (225, 8, [452], 228), (228, 2, [4, 0], 230), (230, 1, [2], 231), (231, 7, [1, 242], 234), (234, 2, [0, 2], 235), (235, 2, [3, 0], 236), (236, 18, [173, 1], 239), (239, 8, [452], 242), (242, 2, [4, 0], 244), (244, 1, [3], 245), (245, 7, [1, 274], 248), (248, 2, [0, 2], 249), (249, 9, [10, 44], 252), (252, 2, [3, 0], 253), (253, 26, [], 254), (254, 11, [], 255), (255, 2, [0, 2], 256), (256, 9, [10, 44], 259), (259, 2, [3, 0], 260), (260, 11, [], 261), (261, 6, [5, 268], 264), (264, 1, [1], 265), (265, 8, [269], 268), (268, 1, [0], 269), (269, 5, [1], 270), (270, 12, [], 271), (271, 8, [452], 274), (274, 2, [0, 2], 275), (275, 9, [10, 45], 278), (278, 2, [3, 0], 279), (279, 1, [1], 280), (280, 14, [], 281), (281, 8, [452], 284), (284, 2, [0, 2], 285), (285, 9, [10, 30], 288), (288, 2, [1, 0], 289), (289, 26, [], 290), (290, 11, [], 291), (291, 2, [5, 0], 293), (293, 5, [0], 294), (294, 12, [], 295), (295, 2, [0, 2], 296), (296, 9, [10, 46], 299), (299, 1, [4], 300), (300, 2, [3, 0], 301), (301, 5, [2], 302), (302, 2, [1, 0], 303), (303, 1, [4], 304), (304, 5, [4], 305), (305, 5, [0], 306), (306, 2, [0, 2], 307), (307, 9, [10, 30], 310), (310, 2, [1, 0], 311), (311, 11, [], 312), (312, 12, [], 313), (313, 8, [452], 316), (316, 1, [0], 317), (317, 3, [6, 0], 319), (319, 2, [6, 0], 321), (321, 1, [32], 323), (323, 7, [3, 416], 326), (326, 2, [0, 2], 327), (327, 9, [10, 37], 330), (330, 1, [32], 332), (332, 2, [3, 0], 333), (333, 5, [2], 334), (334, 2, [6, 0], 336), (336, 5, [0], 337), (337, 2, [6, 0], 339), (339, 2, [5, 0], 341), (341, 7, [1, 357], 344), (344, 2, [4, 0], 346), (346, 6, [1, 353], 349), (349, 1, [1], 350), (350, 8, [369], 353), (353, 1, [0], 354), (354, 8, [369], 357), (357, 2, [0, 2], 358), (358, 9, [10, 34], 361), (361, 1, [32], 363), (363, 2, [1, 0], 364), (364, 5, [2], 365), (365, 2, [6, 0], 367), (367, 5, [0], 368), (368, 13, [], 369), (369, 14, [], 370), (370, 2, [0, 2], 371), (371, 9, [10, 38], 374), (374, 1, [32], 376), (376, 2, [3, 0], 377), (377, 5, [2], 378), (378, 2, [6, 0], 380), (380, 5, [0], 381), (381, 2, [6, 0], 383), (383, 2, [5, 0], 385), (385, 7, [1, 397], 388), (388, 2, [0, 2], 389), (389, 9, [10, 9], 392), (392, 2, [2, 0], 393), (393, 11, [], 394), (394, 8, [409], 397), (397, 2, [0, 2], 398), (398, 9, [10, 35], 401), (401, 1, [32], 403), (403, 2, [1, 0], 404), (404, 5, [2], 405), (405, 2, [6, 0], 407), (407, 5, [0], 408), (408, 11, [], 409), (409, 12, [], 410), (410, 4, [6, 1], 413), (413, 8, [319], 416), (416, 8, [452], 419), (419, 2, [0, 2], 420), (420, 9, [10, 47], 423), (423, 1, [32], 425), (425, 2, [3, 0], 426), (426, 5, [2], 427), (427, 2, [5, 0], 429), (429, 5, [0], 430), (430, 1, [0], 431), (431, 14, [], 432), (432, 2, [0, 2], 433), (433, 9, [10, 32], 436), (436, 2, [1, 0], 437), (437, 13, [], 438), (438, 6, [1, 452], 441), (441, 2, [0, 2], 442), (442, 2, [3, 0], 443), (443, 2, [5, 0], 445), (445, 2, [2, 0], 446), (446, 19, [175, 1], 449), (449, 18, [170, 3], 452), (452, 1, [0], 453), (453, 3, [6, 0], 455), (455, 2, [6, 0], 457), (457, 2, [0, 2], 458), (458, 9, [10, 4], 461), (461, 7, [3, 510], 464), (464, 2, [0, 2], 465), (465, 9, [10, 27], 468), (468, 2, [6, 0], 470), (470, 13, [], 471), (471, 6, [0, 504], 474), (474, 2, [0, 2], 475), (475, 9, [10, 6], 478), (478, 1, [8], 480), (480, 2, [6, 0], 482), (482, 5, [2], 483), (483, 2, [0, 2], 484), (484, 9, [10, 25], 487), (487, 2, [6, 0], 489), (489, 11, [], 490), (490, 5, [0], 491), (491, 11, [], 492), (492, 2, [3, 0], 493), (493, 7, [1, 504], 496), (496, 2, [0, 2], 497), (497, 9, [10, 27], 500), (500, 2, [6, 0], 502), (502, 1, [0], 503), (503, 14, [], 504), (504, 4, [6, 1], 507), (507, 8, [455], 510), (510, 21, [], 511)]
def sm_c170 : List (Nat × Smi) := [(0, 1, [32], 2), (2, 2, [1, 0], 3), (3, 5, [2], 4), (4, 2, [2, 0], 5), (5, 5, [0], 6), (6, 3, [4, 0], 8), (8, 2, [0, 2], 9), (9, 9, [10, 38], 12), (12, 2, [4, 0], 14), (14, 2, [3, 0], 15), (15, 12, [], 16), (16, 2, [0, 2], 17), (17, 9, [10, 37], 20), (20, 2, [4, 0], 22), (22, 13, [], 23), (23, 6, [1, 35], 26), (26, 2, [0, 2], 27), (27, 9, [10, 1], 30), (30, 2, [1, 0], 31), (31, 11, [], 32), (32, 6, [0, 44], 35), (35, 2, [0, 2], 36), (36, 9, [10, 37], 39), (39, 2, [4, 0], 41), (41, 1, [1], 42), (42, 14, [], 43), (43, 21, [], 44), (44, 2, [0, 2], 45), (45, 9, [10, 37], 48), (48, 2, [4, 0], 50), (50, 1, [1], 51), (51, 14, [], 52), (52, 2, [0, 2], 53), (53, 2, [1, 0], 54), (54, 2, [2, 0], 55), (55, 18, [163, 2], 58), (58, 3, [5, 0], 60), (60, 2, [0, 2], 61), (61, 2, [1, 0], 62), (62, 2, [2, 0], 63), (63, 2, [0, 2], 64), (64, 9, [10, 50], 67), (67, 2, [5, 0], 69), (69, 13, [], 70), (70, 2, [0, 2], 71), (71, 9, [10, 50], 74), (74, 2, [5, 0], 76), (76, 13, [], 77), (77, 6, [0, 92], 80), (80, 1, [2], 81), (81, 2, [0, 2], 82), (82, 9, [10, 49], 85), (85, 2, [5, 0], 87), (87, 11, [], 88), (88, 5, [2], 89), (89, 8, [99], 92), (92, 2, [0, 2], 93), (93, 9, [10, 49], 96), (96, 2, [5, 0], 98), (98, 11, [], 99), (99, 18, [166, 4], 102), (102, 2, [0, 2], 103), (103, 9, [10, 50], 106), (106, 2, [5, 0], 108), (108, 13, [], 109), (109, 6, [1, 158], 112), (112, 2, [0, 2], 113), (113, 2, [1, 0], 114), (114, 2, [2, 0], 115), (115, 1, [4], 116), (116, 5, [4], 117), (117, 18, [171, 2], 120), (120, 1, [2], 121), (121, 2, [0, 2], 122), (122, 9, [10, 49], 125), (125, 2, [5, 0], 127), (127, 11, [], 128), (128, 5, [2], 129), (129, 7, [5, 158], 132), (132, 2, [0, 2], 133), (133, 9, [10, 50], 136), (136, 2, [5, 0], 138), (138, 1, [1], 139), (139, 14, [], 140), (140, 2, [0, 2], 141), (141, 9, [10, 51], 144), (144, 2, [5, 0], 146), (146, 1, [0], 147), (147, 12, [], 148), (148, 2, [0, 2], 149), (149, 9, [10, 52], 152), (152, 2, [1, 0], 153), (153, 26, [], 154), (154, 11, [], 155), (155, 1, [1], 156), (156, 5, [0], 157), (157, 12, [], 158), (158, 21, [], 159)]
def sm_c171 : List (Nat × Smi) := [(0, 1, [0], 1), (1, 3, [3, 0], 2), (2, 2, [2, 0], 3), (3, 3, [4, 0], 5), (5, 2, [4, 0], 7), (7, 1, [32], 9), (9, 7, [3, 41], 12), (12, 2, [3, 0], 13), (13, 2, [0, 2], 14), (14, 9, [10, 37], 17), (17, 1, [32], 19), (19, 2, [1, 0], 20), (20, 5, [2], 21), (21, 2, [4, 0], 23), (23, 5, [0], 24), (24, 13, [], 25), (25, 6, [0, 32], 28), (28, 1, [1], 29), (29, 8, [33], 32), (32, 1, [0], 33), (33, 5, [0], 34), (34, 3, [3, 0], 35), (35, 4, [4, 4], 38), (38, 8, [5], 41), (41, 2, [3, 0], 42), (42, 22, [0], 43)]
def sm_c172 : List (Nat × Smi) := [(0, 2, [0, 2], 1), (1, 9, [10, 43], 4), (4, 1, [48], 6), (6, 2, [1, 0], 7), (7, 5, [2], 8), (8, 2, [0, 2], 9), (9, 9, [10, 44], 12), (12, 2, [1, 0], 13), (13, 11, [], 14), (14, 5, [0], 15), (15, 2, [2, 0], 16), (16, 12, [], 17), (17, 2, [0, 2], 18), (18, 9, [10, 44], 21), (21, 2, [1, 0], 22), (22, 26, [], 23), (23, 11, [], 24), (24, 1, [1], 25), (25, 5, [0], 26), (26, 12, [], 27), (27, 21, [], 28)]
def sm_c173 : List (Nat × Smi) := [(0, 1, [1], 1), (1, 3, [2, 0], 2), (2, 2, [2, 0], 3), (3, 2, [0, 2], 4), (4, 9, [10, 44], 7), (7, 2, [1, 0], 8), (8, 11, [], 9), (9, 7, [3, 42], 12), (12, 2, [0, 2], 13), (13, 9, [10, 43], 16), (16, 1, [48], 18), (18, 2, [1, 0], 19), (19, 5, [2], 20), (20, 2, [2, 0], 21), (21, 5, [0], 22), (22, 1, [1], 23), (23, 5, [1], 24), (24, 2, [0, 2], 25), (25, 9, [10, 43], 28), (28, 1, [48], 30), (30, 2, [1, 0], 31), (31, 5, [2], 32), (32, 2, [2, 0], 33), (33, 5, [0], 34), (34, 11, [], 35), (35, 12, [], 36), (36, 4, [2, 1], 39), (39, 8, [2], 42), (42, 2, [0, 2], 43), (43, 9, [10, 44], 46), (46, 2, [1, 0], 47), (47, 26, [], 48), (48, 11, [], 49), (49, 2, [0, 2], 50), (50, 9, [10, 44], 53), (53, 2, [1, 0], 54), (54, 11, [], 55), (55, 6, [5, 62], 58), (58, 1, [1], 59), (59, 8, [63], 62), (62, 1, [0], 63), (63, 5, [1], 64), (64, 12, [], 65), (65, 21, [], 66)]
def sm_c174 : List (Nat × Smi) := [(0, 2, [0, 2], 1), (1, 9, [10, 44], 4), (4, 2, [1, 0], 5), (5, 11, [], 6), (6, 3, [3, 0], 7), (7, 2, [3, 0], 8), (8, 6, [5, 41], 11), (11, 2, [0, 2], 12), (12, 9, [10, 43], 15), (15, 1, [48], 17), (17, 2, [1, 0], 18), (18, 5, [2], 19), (19, 2, [3, 0], 20), (20, 5, [0], 21), (21, 2, [0, 2], 22), (22, 9, [10, 43], 25), (25, 1, [48], 27), (27, 2, [1, 0], 28), (28, 5, [2], 29), (29, 2, [3, 0], 30), (30, 5, [0], 31), (31, 1, [1], 32), (32, 5, [1], 33), (33, 11, [], 34), (34, 12, [], 35), (35, 4, [3, -1], 38), (38, 8, [7], 41), (41, 2, [0, 2], 42), (42, 9, [10, 43], 45), (45, 1, [48], 47), (47, 2, [1, 0], 48), (48, 5, [2], 49), (49, 2, [2, 0], 50), (50, 12, [], 51), (51, 2, [0, 2], 52), (52, 9, [10, 44], 55), (55, 2, [1, 0], 56), (56, 26, [], 57), (57, 11, [], 58), (58, 1, [1], 59), (59, 5, [0], 60), (60, 12, [], 61), (61, 21, [], 62)]
def sm_c175 : List (Nat × Smi) := [(0, 1, [1000], 3), (3, 2, [0, 0], 4), (4, 1, [8], 6), (6, 5, [3], 7), (7, 1, [1], 8), (8, 5, [0], 9), (9, 5, [2], 10), (10, 2, [0, 0], 11), (11, 1, [8], 13), (13, 5, [4], 14), (14, 5, [0], 15), (15, 22, [0], 16)]
def sm_c176 : List (Nat × Smi) := [(0, 2, [0, 2], 1), (1, 9, [10, 6], 4), (4, 2, [2, 0], 5), (5, 11, [], 6), (6, 3, [3, 0], 7), (7, 1, [32], 9), (9, 2, [3, 0], 10), (10, 5, [2], 11), (11, 2, [0, 2], 12), (12, 9, [10, 8], 15), (15, 2, [2, 0], 16), (16, 11, [], 17), (17, 5, [0], 18), (18, 3, [4, 0], 20), (20, 2, [0, 2], 21), (21, 9, [10, 54], 24), (24, 2, [3, 0], 25), (25, 26, [], 26), (26, 11, [], 27), (27, 1, [1], 28), (28, 5, [0], 29), (29, 12, [], 30), (30, 2, [0, 2], 31), (31, 9, [10, 32], 34), (34, 2, [1, 0], 35), (35, 2, [0, 2], 36), (36, 9, [10, 48], 39), (39, 2, [4, 0], 41), (41, 11, [], 42), (42, 6, [5, 49], 45), (45, 1, [1], 46), (46, 8, [50], 49), (49, 1, [0], 50), (50, 14, [], 51), (51, 2, [0, 2], 52), (52, 9, [10, 32], 55), (55, 2, [1, 0], 56), (56, 13, [], 57), (57, 6, [0, 81], 60), (60, 2, [0, 2], 61), (61, 9, [10, 48], 64), (64, 2, [4, 0], 66), (66, 26, [], 67), (67, 11, [], 68), (68, 1, [1], 69), (69, 5, [1], 70), (70, 12, [], 71), (71, 2, [0, 2], 72), (72, 9, [10, 55], 75), (75, 2, [3, 0], 76), (76, 26, [], 77), (77, 11, [], 78), (78, 1, [1], 79), (79, 5, [0], 80), (80, 12, [], 81), (81, 21, [], 82)]
def sm_c177 : List (Nat × Smi) := [(0, 2, [0, 2], 1), (1, 9, [10, 1], 4), (4, 2, [0, 2], 5), (5, 9, [10, 6], 8), (8, 2, [2, 0], 9), (9, 11, [], 10), (10, 11, [], 11), (11, 3, [3, 0], 12), (12, 2, [0, 2], 13), (13, 9, [10, 7], 16), (16, 2, [2, 0], 17), (17, 11, [], 18), (18, 3, [4, 0], 20), (20, 1, [0], 21), (21, 3, [5, 0], 23), (23, 2, [0, 2], 24), (24, 9, [10, 30], 27), (27, 2, [1, 0], 28), (28, 11, [], 29), (29, 3, [6, 0], 31), (31, 2, [3, 0], 32), (32, 40, [0, 205, 68, 93, 135, 183, 186], 68), (68, 2, [4, 0], 70), (70, 1, [3], 71), (71, 7, [0, 83], 74), (74, 2, [0, 2], 75), (75, 9, [10, 29], 78), (78, 2, [1, 0], 79), (79, 13, [], 80), (80, 6, [0, 87], 83), (83, 1, [0], 84), (84, 8, [88], 87), (87, 1, [1], 88), (88, 3, [5, 0], 90), (90, 8, [250], 93), (93, 2, [4, 0], 95), (95, 6, [0, 107], 98), (98, 2, [0, 2], 99), (99, 9, [10, 29], 102), (102, 2, [1, 0], 103), (103, 13, [], 104), (104, 6, [0, 111], 107), (107, 1, [0], 108), (108, 8, [112], 111), (111, 1, [1], 112), (112, 3, [5, 0], 114), (114, 2, [4, 0], 116), (116, 6, [1, 128], 119), (119, 2, [0, 2], 120), (120, 9, [10, 8], 123), (123, 2, [2, 0], 124), (124, 11, [], 125), (125, 8, [130], 128), (128, 2, [6, 0], 130), (130, 3, [6, 0], 132), (132, 8, [250], 135), (135, 2, [0, 2], 136), (136, 9, [10, 31], 139), (139, 2, [1, 0], 140), (140, 13, [], 141), (141, 6, [0, 148], 144), (144, 1, [2], 145), (145, 8, [149], 148), (148, 1, [0], 149), (149, 3, [5, 0], 151), (151, 2, [4, 0], 153), (153, 1, [2], 154), (154, 7, [3, 166], 157), (157, 2, [0, 2], 158), (158, 9, [10, 8], 161), (161, 2, [2, 0], 162), (162, 11, [], 163), (163, 8, [178], 166), (166, 2, [4, 0], 168), (168, 1, [4], 169), (169, 7, [1, 176], 172), (172, 1, [0], 173), (173, 8, [178], 176), (176, 2, [6, 0], 178), (178, 3, [6, 0], 180), (180, 8, [250], 183), (183, 8, [250], 186), (186, 2, [0, 2], 187), (187, 9, [10, 29], 190), (190, 2, [1, 0], 191), (191, 13, [], 192), (192, 6, [0, 199], 195), (195, 1, [0], 196), (196, 8, [200], 199), (199, 1, [1], 200), (200, 3, [5, 0], 202), (202, 8, [250], 205), (205, 2, [0, 2], 206), (206, 9, [10, 33], 209), (209, 2, [1, 0], 210), (210, 13, [], 211), (211, 6, [1, 227], 214), (214, 2, [0, 2], 215), (215, 9, [10, 32], 218), (218, 2, [1, 0], 219), (219, 13, [], 220), (220, 6, [0, 227], 223), (223, 1, [3], 224), (224, 8, [228], 227), (227, 1, [0], 228), (228, 3, [5, 0], 230), (230, 2, [0, 2], 231), (231, 9, [10, 33], 234), (234, 2, [1, 0], 235), (235, 13, [], 236), (236, 6, [0, 244], 239), (239, 2, [6, 0], 241), (241, 8, [248], 244), (244, 2, [2, 0], 245), (245, 19, [175, 1], 248), (248, 3, [6, 0], 250), (250, 2, [0, 2], 251), (251, 2, [1, 0], 252), (252, 2, [2, 0], 253), (253, 2, [5, 0], 255), (255, 2, [5, 0], 257), (257, 6, [1, 265], 260), (260, 2, [6, 0], 262), (262, 8, [266], 265), (265, 1, [0], 266), (266, 18, [160, 4], 269), (269, 21, [], 270)]
def sm_c178 : List (Nat × Smi) := [(0, 2, [0, 2], 1), (1, 18, [155, 0], 4), (4, 1, [-1], 5), (5, 7, [0, 10], 8), (8, 1, [2], 9), (9, 22, [0], 10), (10, 1, [0], 11), (11, 3, [1, 0], 12), (12, 2, [1, 0], 13), (13, 2, [0, 2], 14), (14, 9, [10, 4], 17), (17, 7, [3, 43], 20), (20, 2, [0, 2], 21), (21, 9, [10, 25], 24), (24, 2, [1, 0], 25), (25, 11, [], 26), (26, 2, [0, 2], 27), (27, 9, [10, 5], 30), (30, 2, [1, 0], 31), (31, 11, [], 32), (32, 7, [3, 37], 35), (35, 1, [1], 36), (36, 22, [0], 37), (37, 4, [1, 1], 40), (40, 8, [12], 43), (43, 1, [0], 44), (44, 22, [0], 45)]
def sm_c179 : List (Nat × Smi) := [(0, 2, [0, 2], 1), (1, 2, [1, 0], 2), (2, 2, [2, 0], 3), (3, 18, [151, 2], 6), (6, 6, [0, 30], 9), (9, 2, [0, 2], 10), (10, 9, [10, 13], 13), (13, 6, [0, 30], 16), (16, 2, [0, 2], 17), (17, 9, [10, 20], 20), (20, 1, [8], 22), (22, 2, [1, 0], 23), (23, 5, [2], 24), (24, 2, [2, 0], 25), (25, 5, [0], 26), (26, 11, [], 27), (27, 8, [31], 30), (30, 1, [0], 31), (31, 22, [0], 32)]
def sm_c180 : List (Nat × Smi) := [(0, 2, [0, 2], 1), (1, 2, [1, 0], 2), (2, 2, [2, 0], 3), (3, 18, [151, 2], 6), (6, 6, [1, 14], 9), (9, 1, [-2], 11), (11, 8, [37], 14), (14, 2, [0, 2], 15), (15, 9, [10, 13], 18), (18, 6, [1, 26], 21), (21, 1, [-3], 23), (23, 8, [37], 26), (26, 2, [0, 2], 27), (27, 9, [10, 21], 30), (30, 1, [8], 32), (32, 2, [1, 0], 33), (33, 5, [2], 34), (34, 2, [2, 0], 35), (35, 5, [0], 36), (36, 11, [], 37), (37, 22, [0], 38)]
def sm_c181 : List (Nat × Smi) := [(0, 2, [0, 2], 1), (1, 2, [1, 0], 2), (2, 2, [2, 0], 3), (3, 18, [151, 2], 6), (6, 6, [1, 14], 9), (9, 1, [-2], 11), (11, 8, [37], 14), (14, 2, [0, 2], 15), (15, 9, [10, 13], 18), (18, 6, [1, 26], 21), (21, 1, [-3], 23), (23, 8, [37], 26), (26, 2, [0, 2], 27), (27, 9, [10, 22], 30), (30, 1, [8], 32), (32, 2, [1, 0], 33), (33, 5, [2], 34), (34, 2, [2, 0], 35), (35, 5, [0], 36), (36, 11, [], 37), (37, 22, [0], 38)]
def sm_c182 : List (Nat × Smi) := [(0, 2, [2, 0], 1), (1, 1, [0], 2), (2, 1, [3], 3), (3, 19, [143, 3], 6), (6, 6, [1, 12], 9), (9, 1, [-2], 11), (11, 22, [0], 12), (12, 2, [0, 2], 13), (13, 9, [10, 13], 16), (16, 6, [1, 22], 19), (19, 1, [-3], 21), (21, 22, [0], 22), (22, 2, [1, 0], 23), (23, 1, [0], 24), (24, 2, [0, 2], 25), (25, 9, [10, 16], 28), (28, 1, [1], 29), (29, 5, [1], 30), (30, 19, [143, 3], 33), (33, 6, [1, 38], 36), (36, 1, [-1], 37), (37, 22, [0], 38), (38, 2, [2, 0], 39), (39, 6, [1, 54], 42), (42, 2, [0, 2], 43), (43, 9, [10, 17], 46), (46, 2, [1, 0], 47), (47, 11, [], 48), (48, 1, [8], 50), (50, 5, [3], 51), (51, 8, [99], 54), (54, 2, [2, 0], 55), (55, 1, [1], 56), (56, 7, [1, 71], 59), (59, 2, [0, 2], 60), (60, 9, [10, 17], 63), (63, 2, [1, 0], 64), (64, 11, [], 65), (65, 1, [8], 67), (67, 5, [4], 68), (68, 8, [99], 71), (71, 2, [2, 0], 72), (72, 1, [2], 73), (73, 7, [1, 93], 76), (76, 2, [0, 2], 77), (77, 9, [10, 18], 80), (80, 2, [1, 0], 81), (81, 13, [], 82), (82, 6, [0, 89], 85), (85, 1, [1], 86), (86, 8, [99], 89), (89, 1, [0], 90), (90, 8, [99], 93), (93, 2, [0, 2], 94), (94, 9, [10, 19], 97), (97, 2, [1, 0], 98), (98, 11, [], 99), (99, 22, [0], 100)]
def sm_c183 : List (Nat × Smi) := [(0, 1, [0], 1), (1, 3, [2, 0], 2), (2, 2, [1, 0], 3), (3, 40, [0, 158, 40, 45, 50, 77, 94, 111], 40), (40, 2, [0, 2], 41), (41, 9, [10, 0], 44), (44, 22, [0], 45), (45, 2, [0, 2], 46), (46, 9, [10, 4], 49), (49, 22, [0], 50), (50, 1, [0], 51), (51, 3, [3, 0], 52), (52, 2, [3, 0], 53), (53, 2, [0, 2], 54), (54, 9, [10, 4], 57), (57, 7, [3, 75], 60), (60, 2, [2, 0], 61), (61, 2, [0, 2], 62), (62, 9, [10, 5], 65), (65, 2, [3, 0], 66), (66, 11, [], 67), (67, 5, [0], 68), (68, 3, [2, 0], 69), (69, 4, [3, 1], 72), (72, 8, [52], 75), (75, 2, [2, 0], 76), (76, 22, [0], 77), (77, 2, [0, 2], 78), (78, 9, [10, 13], 81), (81, 6, [0, 91], 84), (84, 2, [0, 2], 85), (85, 9, [10, 15], 88), (88, 8, [93], 91), (91, 1, [-3], 93), (93, 22, [0], 94), (94, 2, [0, 2], 95), (95, 9, [10, 13], 98), (98, 6, [0, 108], 101), (101, 2, [0, 2], 102), (102, 9, [10, 16], 105), (105, 8, [110], 108), (108, 1, [-3], 110), (110, 22, [0], 111), (111, 1, [0], 112), (112, 3, [3, 0], 113), (113, 2, [3, 0], 114), (114, 2, [0, 2], 115), (115, 9, [10, 4], 118), (118, 7, [3, 144], 121), (121, 2, [2, 0], 122), (122, 2, [0, 2], 123), (123, 9, [10, 27], 126), (126, 2, [3, 0], 127), (127, 13, [], 128), (128, 6, [0, 135], 131), (131, 1, [1], 132), (132, 8, [136], 135), (135, 1, [0], 136), (136, 5, [0], 137), (137, 3, [2, 0], 138), (138, 4, [3, 1], 141), (141, 8, [113], 144), (144, 2, [0, 2], 145), (145, 9, [10, 13], 148), (148, 6, [0, 155], 151), (151, 2, [2, 0], 152), (152, 8, [157], 155), (155, 1, [-3], 157), (157, 22, [0], 158), (158, 1, [-2], 160), (160, 22, [0], 161)]
def sm_c184 : List (Nat × Smi) := [(0, 2, [0, 2], 1), (1, 2, [1, 0], 2), (2, 18, [146, 1], 5), (5, 6, [1, 13], 8), (8, 1, [-2], 10), (10, 8, [30], 13), (13, 2, [0, 2], 14), (14, 9, [10, 13], 17), (17, 6, [1, 25], 20), (20, 1, [-3], 22), (22, 8, [30], 25), (25, 2, [0, 2], 26), (26, 2, [1, 0], 27), (27, 18, [185, 1], 30), (30, 22, [0], 31)]
def sm_c185 : List (Nat × Smi) := [(0, 2, [0, 2], 1), (1, 9, [10, 1], 4), (4, 2, [1, 0], 5), (5, 11, [], 6), (6, 1, [3], 7), (7, 7, [1, 12], 10), (10, 1, [4], 11), (11, 22, [0], 12), (12, 2, [0, 2], 13), (13, 9, [10, 1], 16), (16, 2, [1, 0], 17), (17, 11, [], 18), (18, 1, [1], 19), (19, 7, [0, 32], 22), (22, 2, [0, 2], 23), (23, 9, [10, 1], 26), (26, 2, [1, 0], 27), (27, 11, [], 28), (28, 1, [2], 29), (29, 7, [1, 39], 32), (32, 2, [0, 2], 33), (33, 9, [10, 44], 36), (36, 2, [1, 0], 37), (37, 11, [], 38), (38, 22, [0], 39), (39, 1, [0], 40), (40, 3, [2, 0], 41), (41, 1, [0], 42), (42, 3, [3, 0], 43), (43, 2, [3, 0], 44), (44, 1, [32], 46), (46, 7, [3, 77], 49), (49, 2, [2, 0], 50), (50, 2, [0, 2], 51), (51, 9, [10, 37], 54), (54, 1, [32], 56), (56, 2, [1, 0], 57), (57, 5, [2], 58), (58, 2, [3, 0], 59), (59, 5, [0], 60), (60, 13, [], 61), (61, 6, [0, 68], 64), (64, 1, [1], 65), (65, 8, [69], 68), (68, 1, [0], 69), (69, 5, [0], 70), (70, 3, [2, 0], 71), (71, 4, [3, 1], 74), (74, 8, [43], 77), (77, 2, [2, 0], 78), (78, 22, [0], 79)]
def sm_c186 : List (Nat × Smi) := [(0, 2, [0, 2], 1), (1, 2, [1, 0], 2), (2, 18, [146, 1], 5), (5, 6, [0, 17], 8), (8, 2, [3, 0], 9), (9, 1, [0], 10), (10, 1, [1], 11), (11, 19, [143, 3], 14), (14, 6, [1, 20], 17), (17, 1, [-2], 19), (19, 22, [0], 20), (20, 2, [0, 2], 21), (21, 9, [10, 13], 24), (24, 6, [1, 30], 27), (27, 1, [-3], 29), (29, 22, [0], 30), (30, 2, [2, 0], 31), (31, 1, [0], 32), (32, 2, [0, 2], 33), (33, 2, [1, 0], 34), (34, 18, [185, 1], 37), (37, 1, [1], 38), (38, 5, [1], 39), (39, 19, [143, 3], 42), (42, 6, [1, 47], 45), (45, 1, [-1], 46), (46, 22, [0], 47), (47, 2, [0, 2], 48), (48, 2, [0, 2], 49), (49, 2, [1, 0], 50), (50, 2, [2, 0], 51), (51, 2, [3, 0], 52), (52, 18, [187, 3], 55), (55, 10, [10, 56], 58), (58, 1, [1], 59), (59, 22, [0], 60)]
def sm_c187 : List (Nat × Smi) := [(0, 2, [0, 2], 1), (1, 2, [1, 0], 2), (2, 2, [2, 0], 3), (3, 18, [188, 2], 6), (6, 3, [4, 0], 8), (8, 2, [3, 0], 9), (9, 6, [1, 15], 12), (12, 2, [4, 0], 14), (14, 22, [0], 15), (15, 2, [0, 2], 16), (16, 9, [10, 1], 19), (19, 2, [1, 0], 20), (20, 11, [], 21), (21, 1, [3], 22), (22, 7, [1, 38], 25), (25, 2, [0, 2], 26), (26, 9, [10, 46], 29), (29, 1, [4], 30), (30, 2, [1, 0], 31), (31, 5, [2], 32), (32, 2, [2, 0], 33), (33, 5, [0], 34), (34, 11, [], 35), (35, 8, [84], 38), (38, 2, [0, 2], 39), (39, 9, [10, 1], 42), (42, 2, [1, 0], 43), (43, 11, [], 44), (44, 1, [1], 45), (45, 7, [0, 58], 48), (48, 2, [0, 2], 49), (49, 9, [10, 1], 52), (52, 2, [1, 0], 53), (53, 11, [], 54), (54, 1, [2], 55), (55, 7, [1, 72], 58), (58, 2, [0, 2], 59), (59, 9, [10, 43], 62), (62, 1, [48], 64), (64, 2, [1, 0], 65), (65, 5, [2], 66), (66, 2, [2, 0], 67), (67, 5, [0], 68), (68, 11, [], 69), (69, 8, [84], 72), (72, 2, [0, 2], 73), (73, 9, [10, 38], 76), (76, 1, [32], 78), (78, 2, [1, 0], 79), (79, 5, [2], 80), (80, 2, [4, 0], 82), (82, 5, [0], 83), (83, 11, [], 84), (84, 22, [0], 85)]
def sm_c188 : List (Nat × Smi) := [(0, 2, [0, 2], 1), (1, 9, [10, 1], 4), (4, 2, [1, 0], 5), (5, 11, [], 6), (6, 6, [1, 16], 9), (9, 2, [0, 2], 10), (10, 2, [1, 0], 11), (11, 2, [2, 0], 12), (12, 18, [189, 2], 15), (15, 22, [0], 16), (16, 2, [0, 2], 17), (17, 9, [10, 1], 20), (20, 2, [1, 0], 21), (21, 11, [], 22), (22, 1, [4], 23), (23, 7, [0, 38], 26), (26, 2, [0, 2], 27), (27, 9, [10, 1], 30), (30, 2, [1, 0], 31), (31, 11, [], 32), (32, 1, [5], 33), (33, 7, [0, 38], 36), (36, 2, [2, 0], 37), (37, 22, [0], 38), (38, 2, [2, 0], 39), (39, 3, [3, 0], 40), (40, 1, [0], 41), (41, 3, [4, 0], 43), (43, 2, [0, 2], 44), (44, 9, [10, 37], 47), (47, 1, [32], 49), (49, 2, [1, 0], 50), (50, 5, [2], 51), (51, 2, [4, 0], 53), (53, 5, [0], 54), (54, 13, [], 55), (55, 6, [0, 62], 58), (58, 2, [3, 0], 59), (59, 6, [5, 91], 62), (62, 2, [3, 0], 63), (63, 2, [0, 2], 64), (64, 9, [10, 37], 67), (67, 1, [32], 69), (69, 2, [1, 0], 70), (70, 5, [2], 71), (71, 2, [4, 0], 73), (73, 5, [0], 74), (74, 13, [], 75), (75, 6, [0, 82], 78), (78, 1, [1], 79), (79, 8, [83], 82), (82, 1, [0], 83), (83, 5, [1], 84), (84, 3, [3, 0], 85), (85, 4, [4, 1], 88), (88, 8, [43], 91), (91, 2, [4, 0], 93), (93, 22, [0], 94)]
def sm_c189 : List (Nat × Smi) := [(0, 2, [2, 0], 1), (1, 3, [3, 0], 2), (2, 1, [0], 3), (3, 3, [4, 0], 5), (5, 2, [4, 0], 7), (7, 1, [4], 8), (8, 7, [3, 173], 11), (11, 2, [0, 2], 12), (12, 9, [10, 49], 15), (15, 1, [4], 16), (16, 2, [1, 0], 17), (17, 5, [2], 18), (18, 2, [4, 0], 20), (20, 5, [0], 21), (21, 11, [], 22), (22, 3, [5, 0], 24), (24, 2, [0, 2], 25), (25, 9, [10, 50], 28), (28, 1, [4], 29), (29, 2, [1, 0], 30), (30, 5, [2], 31), (31, 2, [4, 0], 33), (33, 5, [0], 34), (34, 13, [], 35), (35, 3, [6, 0], 37), (37, 1, [0], 38), (38, 3, [7, 0], 40), (40, 2, [7, 0], 42), (42, 2, [6, 0], 44), (44, 6, [0, 54], 47), (47, 1, [3], 48), (48, 2, [5, 0], 50), (50, 5, [2], 51), (51, 8, [56], 54), (54, 2, [5, 0], 56), (56, 7, [3, 167], 59), (59, 2, [6, 0], 61), (61, 6, [0, 75], 64), (64, 2, [7, 0], 66), (66, 2, [5, 0], 68), (68, 7, [2, 75], 71), (71, 1, [1], 72), (72, 8, [76], 75), (75, 1, [0], 76), (76, 3, [8, 0], 78), (78, 2, [0, 2], 79), (79, 2, [1, 0], 80), (80, 2, [4, 0], 82), (82, 2, [8, 0], 84), (84, 2, [8, 0], 86), (86, 6, [0, 97], 89), (89, 2, [7, 0], 91), (91, 2, [5, 0], 93), (93, 5, [1], 94), (94, 8, [99], 97), (97, 2, [7, 0], 99), (99, 18, [164, 4], 102), (102, 3, [9, 0], 104), (104, 2, [9, 0], 106), (106, 1, [-1], 107), (107, 7, [0, 161], 110), (110, 2, [3, 0], 111), (111, 6, [1, 117], 114), (114, 2, [9, 0], 116), (116, 22, [0], 117), (117, 4, [3, -1], 120), (120, 2, [0, 2], 121), (121, 2, [1, 0], 122), (122, 2, [4, 0], 124), (124, 2, [8, 0], 126), (126, 2, [8, 0], 128), (128, 6, [0, 139], 131), (131, 2, [7, 0], 133), (133, 2, [5, 0], 135), (135, 5, [1], 136), (136, 8, [141], 139), (139, 2, [7, 0], 141), (141, 2, [0, 2], 142), (142, 9, [10, 41], 145), (145, 1, [32], 147), (147, 2, [1, 0], 148), (148, 5, [2], 149), (149, 2, [9, 0], 151), (151, 5, [0], 152), (152, 11, [], 153), (153, 18, [165, 5], 156), (156, 3, [9, 0], 158), (158, 8, [104], 161), (161, 4, [7, 1], 164), (164, 8, [40], 167), (167, 4, [4, 1], 170), (170, 8, [5], 173), (173, 1, [-1], 174), (174, 22, [0], 175)]
def sm_c190 : List (Nat × Smi) := [(0, 2, [0, 2], 1), (1, 9, [10, 56], 4), (4, 22, [0], 5)]
def sm_c191 : List (Nat × Smi) := [(0, 2, [0, 2], 1), (1, 2, [1, 0], 2), (2, 18, [146, 1], 5), (5, 6, [0, 45], 8), (8, 2, [2, 0], 9), (9, 1, [0], 10), (10, 1, [5], 11), (11, 19, [143, 3], 14), (14, 6, [0, 45], 17), (17, 2, [0, 2], 18), (18, 9, [10, 1], 21), (21, 2, [1, 0], 22), (22, 11, [], 23), (23, 2, [2, 0], 24), (24, 1, [3], 25), (25, 7, [3, 32], 28), (28, 1, [0], 29), (29, 8, [42], 32), (32, 2, [2, 0], 33), (33, 1, [3], 34), (34, 7, [1, 41], 37), (37, 1, [2], 38), (38, 8, [42], 41), (41, 1, [5], 42), (42, 7, [0, 48], 45), (45, 1, [-2], 47), (47, 22, [0], 48), (48, 2, [0, 2], 49), (49, 9, [10, 13], 52), (52, 6, [1, 58], 55), (55, 1, [-3], 57), (57, 22, [0], 58), (58, 2, [2, 0], 59), (59, 40, [0, 191, 92, 99, 106, 169, 184], 92), (92, 2, [0, 2], 93), (93, 9, [10, 52], 96), (96, 2, [1, 0], 97), (97, 11, [], 98), (98, 22, [0], 99), (99, 2, [0, 2], 100), (100, 9, [10, 53], 103), (103, 2, [1, 0], 104), (104, 11, [], 105), (105, 22, [0], 106), (106, 1, [0], 107), (107, 3, [3, 0], 108), (108, 1, [0], 109), (109, 3, [4, 0], 111), (111, 2, [4, 0], 113), (113, 1, [4], 114), (114, 7, [3, 167], 117), (117, 2, [3, 0], 118), (118, 2, [0, 2], 119), (119, 9, [10, 50], 122), (122, 1, [4], 123), (123, 2, [1, 0], 124), (124, 5, [2], 125), (125, 2, [4, 0], 127), (127, 5, [0], 128), (128, 13, [], 129), (129, 6, [0, 148], 132), (132, 1, [2], 133), (133, 2, [0, 2], 134), (134, 9, [10, 49], 137), (137, 1, [4], 138), (138, 2, [1, 0], 139), (139, 5, [2], 140), (140, 2, [4, 0], 142), (142, 5, [0], 143), (143, 11, [], 144), (144, 5, [2], 145), (145, 8, [159], 148), (148, 2, [0, 2], 149), (149, 9, [10, 49], 152), (152, 1, [4], 153), (153, 2, [1, 0], 154), (154, 5, [2], 155), (155, 2, [4, 0], 157), (157, 5, [0], 158), (158, 11, [], 159), (159, 5, [0], 160), (160, 3, [3, 0], 161), (161, 4, [4, 1], 164), (164, 8, [111], 167), (167, 2, [3, 0], 168), (168, 22, [0], 169), (169, 2, [0, 2], 170), (170, 9, [10, 45], 173), (173, 2, [1, 0], 174), (174, 13, [], 175), (175, 6, [0, 182], 178), (178, 1, [1], 179), (179, 8, [183], 182), (182, 1, [0], 183), (183, 22, [0], 184), (184, 2, [0, 2], 185), (185, 9, [10, 54], 188), (188, 2, [1, 0], 189), (189, 11, [], 190), (190, 22, [0], 191), (191, 2, [0, 2], 192), (192, 9, [10, 55], 195), (195, 2, [1, 0], 196), (196, 11, [], 197), (197, 22, [0], 198)]
def sm_c192 : List (Nat × Smi) := [(0, 2, [0, 2], 1), (1, 2, [1, 0], 2), (2, 18, [146, 1], 5), (5, 6, [1, 13], 8), (8, 1, [-2], 10), (10, 8, [30], 13), (13, 2, [0, 2], 14), (14, 9, [10, 13], 17), (17, 6, [1, 25], 20), (20, 1, [-3], 22), (22, 8, [30], 25), (25, 2, [0, 2], 26), (26, 2, [1, 0], 27), (27, 18, [193, 1], 30), (30, 22, [0], 31)]
def sm_c193 : List (Nat × Smi) := [(0, 2, [0, 2], 1), (1, 2, [1, 0], 2), (2, 1, [3000], 5), (5, 18, [194, 2], 8), (8, 3, [2, 0], 9), (9, 2, [0, 2], 10), (10, 2, [2, 0], 11), (11, 1, [-1], 12), (12, 7, [1, 22], 15), (15, 2, [0, 2], 16), (16, 9, [10, 57], 19), (19, 8, [26], 22), (22, 2, [0, 2], 23), (23, 9, [10, 64], 26), (26, 10, [10, 57], 29), (29, 2, [2, 0], 30), (30, 22, [0], 31)]
def sm_c194 : List (Nat × Smi) := [(0, 2, [0, 2], 1), (1, 2, [1, 0], 2), (2, 18, [195, 1], 5), (5, 2, [0, 2], 6), (6, 9, [10, 14], 9), (9, 1, [2], 10), (10, 7, [0, 22], 13), (13, 2, [0, 2], 14), (14, 9, [10, 60], 17), (17, 1, [12], 19), (19, 7, [5, 24], 22), (22, 1, [-1], 23), (23, 22, [0], 24), (24, 2, [0, 2], 25), (25, 1, [0], 26), (26, 10, [10, 64], 29), (29, 1, [0], 30), (30, 3, [3, 0], 31), (31, 2, [3, 0], 32), (32, 2, [0, 2], 33), (33, 9, [10, 60], 36), (36, 7, [3, 52], 39), (39, 2, [0, 2], 40), (40, 9, [10, 62], 43), (43, 2, [3, 0], 44), (44, 1, [0], 45), (45, 14, [], 46), (46, 4, [3, 1], 49), (49, 8, [31], 52), (52, 1, [0], 53), (53, 3, [3, 0], 54), (54, 2, [0, 2], 55), (55, 9, [10, 63], 58), (58, 1, [0], 59), (59, 1, [0], 60), (60, 12, [], 61), (61, 2, [0, 2], 62), (62, 18, [196, 0], 65), (65, 2, [0, 2], 66), (66, 9, [10, 60], 69), (69, 6, [1, 86], 72), (72, 2, [0, 2], 73), (73, 2, [1, 0], 74), (74, 18, [197, 1], 77), (77, 6, [0, 84], 80), (80, 1, [1], 81), (81, 8, [85], 84), (84, 1, [0], 85), (85, 22, [0], 86), (86, 2, [3, 0], 87), (87, 6, [2, 238], 90), (90, 2, [0, 2], 91), (91, 9, [10, 63], 94), (94, 2, [3, 0], 95), (95, 11, [], 96), (96, 3, [4, 0], 98), (98, 2, [4, 0], 100), (100, 2, [0, 2], 101), (101, 9, [10, 60], 104), (104, 7, [1, 129], 107), (107, 4, [3, -1], 110), (110, 2, [3, 0], 111), (111, 6, [2, 235], 114), (114, 2, [0, 2], 115), (115, 9, [10, 62], 118), (118, 2, [0, 2], 119), (119, 9, [10, 61], 122), (122, 2, [3, 0], 123), (123, 11, [], 124), (124, 1, [0], 125), (125, 14, [], 126), (126, 8, [235], 129), (129, 2, [0, 2], 130), (130, 9, [10, 63], 133), (133, 2, [3, 0], 134), (134, 26, [], 135), (135, 11, [], 136), (136, 1, [1], 137), (137, 5, [0], 138), (138, 12, [], 139), (139, 2, [0, 2], 140), (140, 9, [10, 62], 143), (143, 2, [4, 0], 145), (145, 13, [], 146), (146, 6, [1, 235], 149), (149, 2, [0, 2], 150), (150, 9, [10, 64], 153), (153, 2, [2, 0], 154), (154, 7, [1, 160], 157), (157, 1, [-5], 159), (159, 22, [0], 160), (160, 2, [0, 2], 161), (161, 25, [], 162), (162, 9, [10, 64], 165), (165, 1, [1], 166), (166, 5, [0], 167), (167, 10, [10, 64], 170), (170, 2, [0, 2], 171), (171, 2, [4, 0], 173), (173, 2, [3, 0], 174), (174, 2, [1, 0], 175), (175, 18, [198, 3], 178), (178, 6, [0, 235], 181), (181, 2, [3, 0], 182), (182, 1, [1], 183), (183, 5, [0], 184), (184, 2, [0, 2], 185), (185, 9, [10, 60], 188), (188, 7, [1, 209], 191), (191, 2, [0, 2], 192), (192, 2, [1, 0], 193), (193, 18, [197, 1], 196), (196, 6, [0, 235], 199), (199, 2, [0, 2], 200), (200, 9, [10, 61], 203), (203, 2, [3, 0], 204), (204, 2, [4, 0], 206), (206, 12, [], 207), (207, 1, [1], 208), (208, 22, [0], 209), (209, 2, [0, 2], 210), (210, 9, [10, 61], 213), (213, 2, [3, 0], 214), (214, 2, [4, 0], 216), (216, 12, [], 217), (217, 2, [0, 2], 218), (218, 9, [10, 62], 221), (221, 2, [4, 0], 223), (223, 1, [1], 224), (224, 14, [], 225), (225, 4, [3, 1], 228), (228, 2, [0, 2], 229), (229, 9, [10, 63], 232), (232, 2, [3, 0], 233), (233, 1, [0], 234), (234, 12, [], 235), (235, 8, [86], 238), (238, 1, [0], 239), (239, 22, [0], 240)]
def sm_c195 : List (Nat × Smi) := [(0, 2, [0, 2], 1), (1, 1, [0], 2), (2, 10, [10, 60], 5), (5, 1, [0], 6), (6, 3, [2, 0], 7), (7, 2, [2, 0], 8), (8, 2, [0, 2], 9), (9, 9, [10, 16], 12), (12, 7, [3, 87], 15), (15, 2, [0, 2], 16), (16, 9, [10, 17], 19), (19, 2, [2, 0], 20), (20, 11, [], 21), (21, 3, [3, 0], 22), (22, 2, [0, 2], 23), (23, 9, [10, 18], 26), (26, 2, [2, 0], 27), (27, 13, [], 28), (28, 6, [1, 81], 31), (31, 2, [0, 2], 32), (32, 9, [10, 6], 35), (35, 2, [3, 0], 36), (36, 11, [], 37), (37, 2, [1, 0], 38), (38, 7, [1, 81], 41), (41, 2, [0, 2], 42), (42, 9, [10, 24], 45), (45, 2, [3, 0], 46), (46, 11, [], 47), (47, 1, [-1], 48), (48, 7, [0, 81], 51), (51, 2, [0, 2], 52), (52, 9, [10, 21], 55), (55, 2, [3, 0], 56), (56, 11, [], 57), (57, 1, [4], 58), (58, 7, [0, 81], 61), (61, 2, [0, 2], 62), (62, 9, [10, 59], 65), (65, 2, [0, 2], 66), (66, 9, [10, 60], 69), (69, 2, [3, 0], 70), (70, 12, [], 71), (71, 2, [0, 2], 72), (72, 25, [], 73), (73, 9, [10, 60], 76), (76, 1, [1], 77), (77, 5, [0], 78), (78, 10, [10, 60], 81), (81, 4, [2, 1], 84), (84, 8, [7], 87), (87, 21, [], 88)]
def sm_c196 : List (Nat × Smi) := [(0, 1, [0], 1), (1, 3, [1, 0], 2), (2, 2, [1, 0], 3), (3, 1, [32], 5), (5, 7, [3, 28], 8), (8, 2, [0, 2], 9), (9, 9, [10, 65], 12), (12, 2, [1, 0], 13), (13, 1, [0], 14), (14, 14, [], 15), (15, 2, [0, 2], 16), (16, 9, [10, 66], 19), (19, 2, [1, 0], 20), (20, 1, [0], 21), (21, 12, [], 22), (22, 4, [1, 1], 25), (25, 8, [2], 28), (28, 2, [0, 2], 29), (29, 1, [0], 30), (30, 10, [10, 68], 33), (33, 2, [0, 2], 34), (34, 1, [0], 35), (35, 10, [10, 69], 38), (38, 1, [0], 39), (39, 3, [1, 0], 40), (40, 2, [1, 0], 41), (41, 1, [4], 42), (42, 7, [3, 58], 45), (45, 2, [0, 2], 46), (46, 9, [10, 70], 49), (49, 2, [1, 0], 50), (50, 1, [0], 51), (51, 12, [], 52), (52, 4, [1, 1], 55), (55, 8, [40], 58), (58, 21, [], 59)]
def sm_c197 : List (Nat × Smi) := [(0, 1, [1], 1), (1, 3, [2, 0], 2), (2, 2, [0, 2], 3), (3, 9, [10, 1], 6), (6, 2, [1, 0], 7), (7, 11, [], 8), (8, 40, [1, 193, 36, 36, 116], 36), (36, 2, [0, 2], 37), (37, 9, [10, 68], 40), (40, 2, [0, 2], 41), (41, 9, [10, 44], 44), (44, 2, [1, 0], 45), (45, 11, [], 46), (46, 7, [1, 66], 49), (49, 2, [0, 2], 50), (50, 9, [10, 69], 53), (53, 2, [0, 2], 54), (54, 9, [10, 45], 57), (57, 2, [1, 0], 58), (58, 13, [], 59), (59, 7, [1, 66], 62), (62, 1, [1], 63), (63, 8, [67], 66), (66, 1, [0], 67), (67, 3, [2, 0], 68), (68, 1, [0], 69), (69, 3, [3, 0], 70), (70, 2, [3, 0], 71), (71, 2, [0, 2], 72), (72, 9, [10, 68], 75), (75, 7, [3, 114], 78), (78, 2, [2, 0], 79), (79, 6, [0, 114], 82), (82, 2, [0, 2], 83), (83, 9, [10, 67], 86), (86, 2, [3, 0], 87), (87, 11, [], 88), (88, 2, [0, 2], 89), (89, 9, [10, 43], 92), (92, 1, [48], 94), (94, 2, [1, 0], 95), (95, 5, [2], 96), (96, 2, [3, 0], 97), (97, 5, [0], 98), (98, 11, [], 99), (99, 7, [1, 106], 102), (102, 1, [1], 103), (103, 8, [107], 106), (106, 1, [0], 107), (107, 3, [2, 0], 108), (108, 4, [3, 1], 111), (111, 8, [70], 114), (114, 2, [2, 0], 115), (115, 22, [1], 116), (116, 2, [0, 2], 117), (117, 9, [10, 70], 120), (120, 1, [0], 121), (121, 11, [], 122), (122, 2, [0, 2], 123), (123, 9, [10, 70], 126), (126, 1, [1], 127), (127, 11, [], 128), (128, 5, [0], 129), (129, 2, [0, 2], 130), (130, 9, [10, 70], 133), (133, 1, [2], 134), (134, 11, [], 135), (135, 5, [0], 136), (136, 2, [0, 2], 137), (137, 9, [10, 70], 140), (140, 1, [3], 141), (141, 11, [], 142), (142, 5, [0], 143), (143, 2, [0, 2], 144), (144, 9, [10, 46], 147), (147, 1, [4], 148), (148, 2, [1, 0], 149), (149, 5, [2], 150), (150, 11, [], 151), (151, 2, [0, 2], 152), (152, 9, [10, 46], 155), (155, 1, [4], 156), (156, 2, [1, 0], 157), (157, 5, [2], 158), (158, 1, [1], 159), (159, 5, [0], 160), (160, 11, [], 161), (161, 5, [0], 162), (162, 2, [0, 2], 163), (163, 9, [10, 46], 166), (166, 1, [4], 167), (167, 2, [1, 0], 168), (168, 5, [2], 169), (169, 1, [2], 170), (170, 5, [0], 171), (171, 11, [], 172), (172, 5, [0], 173), (173, 2, [0, 2], 174), (174, 9, [10, 46], 177), (177, 1, [4], 178), (178, 2, [1, 0], 179), (179, 5, [2], 180), (180, 1, [3], 181), (181, 5, [0], 182), (182, 11, [], 183), (183, 5, [0], 184), (184, 7, [1, 191], 187), (187, 1, [1], 188), (188, 8, [192], 191), (191, 1, [0], 192), (192, 22, [1], 193), (193, 1, [0], 194), (194, 3, [3, 0], 195), (195, 2, [3, 0], 196), (196, 1, [32], 198), (198, 7, [3, 266], 201), (201, 2, [2, 0], 202), (202, 6, [0, 266], 205), (205, 2, [0, 2], 206), (206, 9, [10, 65], 209), (209, 2, [3, 0], 210), (210, 13, [], 211), (211, 2, [0, 2], 212), (212, 9, [10, 37], 215), (215, 1, [32], 217), (217, 2, [1, 0], 218), (218, 5, [2], 219), (219, 2, [3, 0], 220), (220, 5, [0], 221), (221, 13, [], 222), (222, 7, [1, 258], 225), (225, 2, [0, 2], 226), (226, 9, [10, 65], 229), (229, 2, [3, 0], 230), (230, 13, [], 231), (231, 6, [0, 254], 234), (234, 2, [0, 2], 235), (235, 9, [10, 66], 238), (238, 2, [3, 0], 239), (239, 11, [], 240), (240, 2, [0, 2], 241), (241, 9, [10, 38], 244), (244, 1, [32], 246), (246, 2, [1, 0], 247), (247, 5, [2], 248), (248, 2, [3, 0], 249), (249, 5, [0], 250), (250, 11, [], 251), (251, 7, [1, 258], 254), (254, 1, [1], 255), (255, 8, [259], 258), (258, 1, [0], 259), (259, 3, [2, 0], 260), (260, 4, [3, 1], 263), (263, 8, [195], 266), (266, 2, [2, 0], 267), (267, 22, [1], 268)]
def sm_c198 : List (Nat × Smi) := [(0, 1, [0], 1), (1, 3, [4, 0], 3), (3, 2, [4, 0], 5), (5, 2, [0, 2], 6), (6, 9, [10, 60], 9), (9, 7, [3, 62], 12), (12, 2, [0, 2], 13), (13, 9, [10, 62], 16), (16, 2, [4, 0], 18), (18, 13, [], 19), (19, 6, [1, 56], 22), (22, 2, [4, 0], 24), (24, 2, [1, 0], 25), (25, 7, [0, 56], 28), (28, 2, [0, 2], 29), (29, 9, [10, 24], 32), (32, 2, [0, 2], 33), (33, 9, [10, 59], 36), (36, 2, [4, 0], 38), (38, 11, [], 39), (39, 11, [], 40), (40, 2, [0, 2], 41), (41, 9, [10, 23], 44), (44, 2, [0, 2], 45), (45, 9, [10, 59], 48), (48, 2, [1, 0], 49), (49, 11, [], 50), (50, 11, [], 51), (51, 7, [3, 56], 54), (54, 1, [0], 55), (55, 22, [1], 56), (56, 4, [4, 1], 59), (59, 8, [3], 62), (62, 2, [0, 2], 63), (63, 18, [196, 0], 66), (66, 1, [0], 67), (67, 3, [4, 0], 69), (69, 2, [4, 0], 71), (71, 2, [2, 0], 72), (72, 7, [3, 99], 75), (75, 2, [0, 2], 76), (76, 2, [0, 2], 77), (77, 9, [10, 59], 80), (80, 2, [0, 2], 81), (81, 9, [10, 61], 84), (84, 2, [4, 0], 86), (86, 11, [], 87), (87, 11, [], 88), (88, 2, [3, 0], 89), (89, 18, [199, 2], 92), (92, 27, [], 93), (93, 4, [4, 1], 96), (96, 8, [69], 99), (99, 2, [0, 2], 100), (100, 2, [0, 2], 101), (101, 9, [10, 59], 104), (104, 2, [1, 0], 105), (105, 11, [], 106), (106, 2, [3, 0], 107), (107, 18, [199, 2], 110), (110, 22, [1], 111)]
def sm_c199 : List (Nat × Smi) := [(0, 2, [0, 2], 1), (1, 9, [10, 7], 4), (4, 2, [1, 0], 5), (5, 11, [], 6), (6, 3, [3, 0], 7), (7, 2, [0, 2], 8), (8, 9, [10, 8], 11), (11, 2, [1, 0], 12), (12, 11, [], 13), (13, 3, [4, 0], 15), (15, 2, [0, 2], 16), (16, 9, [10, 21], 19), (19, 2, [1, 0], 20), (20, 11, [], 21), (21, 3, [5, 0], 23), (23, 2, [0, 2], 24), (24, 9, [10, 20], 27), (27, 2, [1, 0], 28), (28, 11, [], 29), (29, 3, [6, 0], 31), (31, 2, [0, 2], 32), (32, 9, [10, 1], 35), (35, 2, [2, 0], 36), (36, 11, [], 37), (37, 40, [0, 550, 72, 211, 307, 314, 399], 72), (72, 2, [0, 2], 73), (73, 9, [10, 65], 76), (76, 2, [4, 0], 78), (78, 13, [], 79), (79, 3, [7, 0], 81), (81, 2, [0, 2], 82), (82, 9, [10, 66], 85), (85, 2, [4, 0], 87), (87, 11, [], 88), (88, 3, [8, 0], 90), (90, 2, [3, 0], 91), (91, 1, [3], 92), (92, 7, [1, 151], 95), (95, 2, [0, 2], 96), (96, 9, [10, 66], 99), (99, 2, [4, 0], 101), (101, 2, [7, 0], 103), (103, 6, [0, 111], 106), (106, 2, [8, 0], 108), (108, 8, [112], 111), (111, 1, [0], 112), (112, 2, [0, 2], 113), (113, 9, [10, 9], 116), (116, 2, [1, 0], 117), (117, 11, [], 118), (118, 5, [0], 119), (119, 12, [], 120), (120, 2, [0, 2], 121), (121, 9, [10, 65], 124), (124, 2, [4, 0], 126), (126, 1, [1], 127), (127, 14, [], 128), (128, 2, [5, 0], 130), (130, 6, [1, 149], 133), (133, 2, [6, 0], 135), (135, 2, [0, 2], 136), (136, 9, [10, 66], 139), (139, 2, [4, 0], 141), (141, 11, [], 142), (142, 7, [1, 149], 145), (145, 1, [1], 146), (146, 8, [150], 149), (149, 1, [0], 150), (150, 22, [1], 151), (151, 2, [0, 2], 152), (152, 9, [10, 65], 155), (155, 2, [4, 0], 157), (157, 2, [3, 0], 158), (158, 6, [0, 171], 161), (161, 2, [3, 0], 162), (162, 1, [1], 163), (163, 7, [1, 175], 166), (166, 2, [7, 0], 168), (168, 6, [0, 175], 171), (171, 1, [1], 172), (172, 8, [176], 175), (175, 1, [0], 176), (176, 14, [], 177), (177, 2, [0, 2], 178), (178, 9, [10, 66], 181), (181, 2, [4, 0], 183), (183, 2, [3, 0], 184), (184, 6, [1, 196], 187), (187, 2, [0, 2], 188), (188, 9, [10, 9], 191), (191, 2, [1, 0], 192), (192, 11, [], 193), (193, 8, [198], 196), (196, 2, [8, 0], 198), (198, 12, [], 199), (199, 2, [7, 0], 201), (201, 2, [8, 0], 203), (203, 2, [5, 0], 205), (205, 2, [6, 0], 207), (207, 19, [200, 4], 210), (210, 22, [1], 211), (211, 2, [3, 0], 212), (212, 6, [1, 254], 215), (215, 2, [0, 2], 216), (216, 9, [10, 67], 219), (219, 2, [0, 2], 220), (220, 9, [10, 68], 223), (223, 2, [4, 0], 225), (225, 12, [], 226), (226, 2, [0, 2], 227), (227, 25, [], 228), (228, 9, [10, 68], 231), (231, 1, [1], 232), (232, 5, [0], 233), (233, 10, [10, 68], 236), (236, 2, [5, 0], 238), (238, 6, [1, 252], 241), (241, 2, [6, 0], 243), (243, 2, [4, 0], 245), (245, 7, [1, 252], 248), (248, 1, [1], 249), (249, 8, [253], 252), (252, 1, [0], 253), (253, 22, [1], 254), (254, 2, [0, 2], 255), (255, 9, [10, 68], 258), (258, 6, [5, 265], 261), (261, 1, [1], 262), (262, 8, [266], 265), (265, 1, [0], 266), (266, 3, [7, 0], 268), (268, 2, [7, 0], 270), (270, 6, [0, 282], 273), (273, 2, [0, 2], 274), (274, 9, [10, 67], 277), (277, 1, [0], 278), (278, 11, [], 279), (279, 8, [283], 282), (282, 1, [0], 283), (283, 3, [8, 0], 285), (285, 2, [7, 0], 287), (287, 6, [0, 295], 290), (290, 2, [0, 2], 291), (291, 1, [1], 292), (292, 18, [201, 1], 295), (295, 2, [7, 0], 297), (297, 2, [8, 0], 299), (299, 2, [5, 0], 301), (301, 2, [6, 0], 303), (303, 19, [200, 4], 306), (306, 22, [1], 307), (307, 2, [0, 2], 308), (308, 2, [1, 0], 309), (309, 2, [2, 0], 310), (310, 18, [202, 2], 313), (313, 22, [1], 314), (314, 2, [1, 0], 315), (315, 1, [8], 317), (317, 5, [3], 318), (318, 1, [4], 319), (319, 5, [4], 320), (320, 3, [9, 0], 322), (322, 2, [0, 2], 323), (323, 9, [10, 70], 326), (326, 2, [9, 0], 328), (328, 26, [], 329), (329, 11, [], 330), (330, 2, [3, 0], 331), (331, 6, [1, 339], 334), (334, 2, [4, 0], 336), (336, 8, [340], 339), (339, 1, [0], 340), (340, 5, [0], 341), (341, 12, [], 342), (342, 2, [5, 0], 344), (344, 6, [1, 397], 347), (347, 2, [6, 0], 349), (349, 2, [3, 0], 350), (350, 6, [1, 363], 353), (353, 2, [0, 2], 354), (354, 9, [10, 70], 357), (357, 2, [9, 0], 359), (359, 11, [], 360), (360, 8, [390], 363), (363, 2, [0, 2], 364), (364, 9, [10, 70], 367), (367, 1, [0], 368), (368, 11, [], 369), (369, 2, [0, 2], 370), (370, 9, [10, 70], 373), (373, 1, [1], 374), (374, 11, [], 375), (375, 5, [0], 376), (376, 2, [0, 2], 377), (377, 9, [10, 70], 380), (380, 1, [2], 381), (381, 11, [], 382), (382, 5, [0], 383), (383, 2, [0, 2], 384), (384, 9, [10, 70], 387), (387, 1, [3], 388), (388, 11, [], 389), (389, 5, [0], 390), (390, 7, [1, 397], 393), (393, 1, [1], 394), (394, 8, [398], 397), (397, 1, [0], 398), (398, 22, [1], 399), (399, 2, [3, 0], 400), (400, 1, [3], 401), (401, 7, [1, 472], 404), (404, 1, [0], 405), (405, 3, [8, 0], 407), (407, 1, [0], 408), (408, 3, [10, 0], 410), (410, 2, [10, 0], 412), (412, 1, [32], 414), (414, 7, [3, 454], 417), (417, 2, [8, 0], 419), (419, 2, [0, 2], 420), (420, 9, [10, 65], 423), (423, 2, [10, 0], 425), (425, 13, [], 426), (426, 6, [0, 444], 429), (429, 2, [10, 0], 431), (431, 1, [1], 432), (432, 5, [0], 433), (433, 2, [0, 2], 434), (434, 9, [10, 66], 437), (437, 2, [10, 0], 439), (439, 11, [], 440), (440, 5, [2], 441), (441, 8, [445], 444), (444, 1, [0], 445), (445, 5, [0], 446), (446, 3, [8, 0], 448), (448, 4, [10, 1], 451), (451, 8, [410], 454), (454, 2, [5, 0], 456), (456, 6, [1, 470], 459), (459, 2, [6, 0], 461), (461, 2, [8, 0], 463), (463, 7, [1, 470], 466), (466, 1, [1], 467), (467, 8, [471], 470), (470, 1, [0], 471), (471, 22, [1], 472), (472, 2, [0, 2], 473), (473, 9, [10, 65], 476), (476, 2, [4, 0], 478), (478, 13, [], 479), (479, 3, [7, 0], 481), (481, 2, [0, 2], 482), (482, 9, [10, 66], 485), (485, 2, [4, 0], 487), (487, 11, [], 488), (488, 3, [8, 0], 490), (490, 2, [0, 2], 491), (491, 9, [10, 65], 494), (494, 2, [4, 0], 496), (496, 2, [3, 0], 497), (497, 6, [0, 510], 500), (500, 2, [3, 0], 501), (501, 1, [1], 502), (502, 7, [1, 514], 505), (505, 2, [7, 0], 507), (507, 6, [0, 514], 510), (510, 1, [1], 511), (511, 8, [515], 514), (514, 1, [0], 515), (515, 14, [], 516), (516, 2, [0, 2], 517), (517, 9, [10, 66], 520), (520, 2, [4, 0], 522), (522, 2, [3, 0], 523), (523, 6, [1, 535], 526), (526, 2, [0, 2], 527), (527, 9, [10, 9], 530), (530, 2, [1, 0], 531), (531, 11, [], 532), (532, 8, [537], 535), (535, 2, [8, 0], 537), (537, 12, [], 538), (538, 2, [7, 0], 540), (540, 2, [8, 0], 542), (542, 2, [5, 0], 544), (544, 2, [6, 0], 546), (546, 19, [200, 4], 549), (549, 22, [1], 550), (550, 2, [0, 2], 551), (551, 9, [10, 65], 554), (554, 2, [4, 0], 556), (556, 13, [], 557), (557, 3, [7, 0], 559), (559, 2, [5, 0], 561), (561, 1, [3], 562), (562, 7, [1, 576], 565), (565, 2, [7, 0], 567), (567, 6, [1, 574], 570), (570, 1, [1], 571), (571, 8, [575], 574), (574, 1, [0], 575), (575, 22, [1], 576), (576, 2, [6, 0], 578), (578, 2, [1, 0], 579), (579, 19, [175, 1], 582), (582, 7, [1, 613], 585), (585, 2, [0, 2], 586), (586, 9, [10, 65], 589), (589, 2, [4, 0], 591), (591, 1, [1], 592), (592, 14, [], 593), (593, 2, [0, 2], 594), (594, 9, [10, 66], 597), (597, 2, [4, 0], 599), (599, 2, [6, 0], 601), (601, 12, [], 602), (602, 2, [7, 0], 604), (604, 6, [1, 611], 607), (607, 1, [1], 608), (608, 8, [612], 611), (611, 1, [0], 612), (612, 22, [1], 613), (613, 2, [7, 0], 615), (615, 6, [0, 634], 618), (618, 2, [0, 2], 619), (619, 9, [10, 66], 622), (622, 2, [4, 0], 624), (624, 11, [], 625), (625, 2, [6, 0], 627), (627, 7, [1, 634], 630), (630, 1, [1], 631), (631, 8, [635], 634), (634, 1, [0], 635), (635, 22, [1], 636)]
def sm_c200 : List (Nat × Smi) := [(0, 2, [0, 0], 1), (1, 6, [0, 21], 4), (4, 2, [2, 0], 5), (5, 6, [1, 17], 8), (8, 2, [3, 0], 9), (9, 2, [1, 0], 10), (10, 7, [1, 17], 13), (13, 1, [1], 14), (14, 8, [31], 17), (17, 1, [0], 18), (18, 8, [31], 21), (21, 2, [2, 0], 22), (22, 1, [1], 23), (23, 7, [1, 30], 26), (26, 1, [1], 27), (27, 8, [31], 30), (30, 1, [0], 31), (31, 22, [1], 32)]
def sm_c201 : List (Nat × Smi) := [(0, 1, [1], 1), (1, 3, [2, 0], 2), (2, 2, [2, 0], 3), (3, 2, [0, 2], 4), (4, 9, [10, 68], 7), (7, 7, [3, 34], 10), (10, 2, [1, 0], 11), (11, 6, [0, 34], 14), (14, 2, [0, 2], 15), (15, 9, [10, 67], 18), (18, 2, [2, 0], 19), (19, 1, [1], 20), (20, 5, [1], 21), (21, 2, [0, 2], 22), (22, 9, [10, 67], 25), (25, 2, [2, 0], 26), (26, 11, [], 27), (27, 12, [], 28), (28, 4, [2, 1], 31), (31, 8, [2], 34), (34, 2, [0, 2], 35), (35, 25, [], 36), (36, 9, [10, 68], 39), (39, 1, [1], 40), (40, 5, [1], 41), (41, 10, [10, 68], 44), (44, 21, [], 45)]
def sm_c202 : List (Nat × Smi) := [(0, 2, [0, 2], 1), (1, 9, [10, 7], 4), (4, 2, [1, 0], 5), (5, 11, [], 6), (6, 3, [3, 0], 7), (7, 2, [0, 2], 8), (8, 9, [10, 8], 11), (11, 2, [1, 0], 12), (12, 11, [], 13), (13, 3, [4, 0], 15), (15, 2, [0, 2], 16), (16, 9, [10, 21], 19), (19, 2, [1, 0], 20), (20, 11, [], 21), (21, 3, [5, 0], 23), (23, 2, [3, 0], 24), (24, 1, [4], 25), (25, 7, [1, 53], 28), (28, 2, [0, 2], 29), (29, 1, [1], 30), (30, 10, [10, 69], 33), (33, 2, [5, 0], 35), (35, 6, [1, 51], 38), (38, 2, [0, 2], 39), (39, 9, [10, 20], 42), (42, 2, [1, 0], 43), (43, 11, [], 44), (44, 6, [1, 51], 47), (47, 1, [1], 48), (48, 8, [52], 51), (51, 1, [0], 52), (52, 22, [1], 53), (53, 2, [3, 0], 54), (54, 1, [2], 55), (55, 7, [3, 182], 58), (58, 2, [0, 2], 59), (59, 9, [10, 69], 62), (62, 6, [0, 77], 65), (65, 2, [5, 0], 67), (67, 1, [2], 68), (68, 7, [1, 75], 71), (71, 1, [1], 72), (72, 8, [76], 75), (75, 1, [0], 76), (76, 22, [1], 77), (77, 2, [0, 2], 78), (78, 9, [10, 68], 81), (81, 2, [0, 2], 82), (82, 9, [10, 2], 85), (85, 2, [2, 0], 86), (86, 11, [], 87), (87, 7, [2, 92], 90), (90, 1, [0], 91), (91, 22, [1], 92), (92, 2, [0, 2], 93), (93, 9, [10, 68], 96), (96, 3, [6, 0], 98), (98, 2, [6, 0], 100), (100, 6, [5, 130], 103), (103, 2, [3, 0], 104), (104, 1, [1], 105), (105, 7, [1, 130], 108), (108, 2, [0, 2], 109), (109, 9, [10, 67], 112), (112, 2, [6, 0], 114), (114, 2, [0, 2], 115), (115, 9, [10, 67], 118), (118, 2, [6, 0], 120), (120, 1, [1], 121), (121, 5, [1], 122), (122, 11, [], 123), (123, 12, [], 124), (124, 4, [6, -1], 127), (127, 8, [98], 130), (130, 2, [0, 2], 131), (131, 9, [10, 67], 134), (134, 2, [3, 0], 135), (135, 1, [1], 136), (136, 7, [1, 143], 139), (139, 1, [0], 140), (140, 8, [147], 143), (143, 2, [0, 2], 144), (144, 9, [10, 68], 147), (147, 2, [4, 0], 149), (149, 12, [], 150), (150, 2, [0, 2], 151), (151, 25, [], 152), (152, 9, [10, 68], 155), (155, 1, [1], 156), (156, 5, [0], 157), (157, 10, [10, 68], 160), (160, 2, [5, 0], 162), (162, 6, [1, 180], 165), (165, 2, [0, 2], 166), (166, 9, [10, 20], 169), (169, 2, [1, 0], 170), (170, 11, [], 171), (171, 2, [4, 0], 173), (173, 7, [1, 180], 176), (176, 1, [1], 177), (177, 8, [181], 180), (180, 1, [0], 181), (181, 22, [1], 182), (182, 2, [0, 2], 183), (183, 9, [10, 68], 186), (186, 6, [1, 208], 189), (189, 2, [0, 2], 190), (190, 9, [10, 69], 193), (193, 6, [0, 206], 196), (196, 2, [5, 0], 198), (198, 1, [2], 199), (199, 7, [1, 206], 202), (202, 1, [1], 203), (203, 8, [207], 206), (206, 1, [0], 207), (207, 22, [1], 208), (208, 2, [0, 2], 209), (209, 9, [10, 67], 212), (212, 2, [3, 0], 213), (213, 1, [2], 214), (214, 7, [1, 221], 217), (217, 1, [0], 218), (218, 8, [227], 221), (221, 2, [0, 2], 222), (222, 9, [10, 68], 225), (225, 1, [1], 226), (226, 5, [1], 227), (227, 11, [], 228), (228, 3, [6, 0], 230), (230, 2, [0, 2], 231), (231, 2, [3, 0], 232), (232, 1, [2], 233), (233, 7, [1, 240], 236), (236, 1, [1], 237), (237, 8, [241], 240), (240, 1, [0], 241), (241, 18, [201, 1], 244), (244, 2, [5, 0], 246), (246, 6, [1, 264], 249), (249, 2, [0, 2], 250), (250, 9, [10, 20], 253), (253, 2, [1, 0], 254), (254, 11, [], 255), (255, 2, [6, 0], 257), (257, 7, [1, 264], 260), (260, 1, [1], 261), (261, 8, [265], 264), (264, 1, [0], 265), (265, 22, [1], 266)]
def sm_c203 : List (Nat × Smi) := [(0, 2, [0, 2], 1), (1, 2, [1, 0], 2), (2, 18, [146, 1], 5), (5, 6, [1, 11], 8), (8, 1, [-2], 10), (10, 22, [0], 11), (11, 2, [0, 2], 12), (12, 9, [10, 13], 15), (15, 6, [1, 21], 18), (18, 1, [-3], 20), (20, 22, [0], 21), (21, 2, [0, 2], 22), (22, 2, [1, 0], 23), (23, 18, [193, 1], 26), (26, 1, [1], 27), (27, 7, [1, 58], 30), (30, 2, [2, 0], 31), (31, 1, [0], 32), (32, 2, [0, 2], 33), (33, 9, [10, 60], 36), (36, 1, [1], 37), (37, 5, [1], 38), (38, 19, [143, 3], 41), (41, 6, [0, 58], 44), (44, 2, [0, 2], 45), (45, 9, [10, 59], 48), (48, 2, [0, 2], 49), (49, 9, [10, 61], 52), (52, 2, [2, 0], 53), (53, 11, [], 54), (54, 11, [], 55), (55, 8, [59], 58), (58, 1, [-1], 59), (59, 22, [0], 60)]
def sm_c204 : List (Nat × Smi) := [(0, 2, [0, 2], 1), (1, 9, [10, 57], 4), (4, 22, [0], 5)]
def sm_c205 : List (Nat × Smi) := [(0, 2, [0, 2], 1), (1, 9, [10, 13], 4), (4, 6, [1, 10], 7), (7, 1, [-3], 9), (9, 22, [0], 10), (10, 1, [0], 11), (11, 3, [1, 0], 12), (12, 2, [1, 0], 13), (13, 2, [0, 2], 14), (14, 9, [10, 0], 17), (17, 7, [3, 36], 20), (20, 2, [0, 2], 21), (21, 2, [1, 0], 22), (22, 18, [193, 1], 25), (25, 6, [1, 30], 28), (28, 2, [1, 0], 29), (29, 22, [0], 30), (30, 4, [1, 1], 33), (33, 8, [12], 36), (36, 1, [-1], 37), (37, 22, [0], 38)]
def sm_c206 : List (Nat × Smi) := [(0, 2, [1, 0], 1), (1, 1, [1], 2), (2, 1, [60], 4), (4, 19, [143, 3], 7), (7, 6, [1, 13], 10), (10, 1, [-2], 12), (12, 22, [0], 13), (13, 2, [0, 2], 14), (14, 9, [10, 74], 17), (17, 2, [1, 0], 18), (18, 5, [0], 19), (19, 1, [1000], 22), (22, 7, [5, 28], 25), (25, 1, [-4], 27), (27, 22, [0], 28), (28, 1, [0], 29), (29, 3, [2, 0], 30), (30, 2, [2, 0], 31), (31, 1, [5], 32), (32, 7, [3, 48], 35), (35, 2, [0, 2], 36), (36, 9, [10, 58], 39), (39, 2, [2, 0], 40), (40, 1, [0], 41), (41, 12, [], 42), (42, 4, [2, 1], 45), (45, 8, [30], 48), (48, 1, [0], 49), (49, 3, [2, 0], 50), (50, 1, [0], 51), (51, 3, [3, 0], 52), (52, 1, [1], 53), (53, 3, [4, 0], 55), (55, 2, [4, 0], 57), (57, 6, [0, 243], 60), (60, 2, [3, 0], 61), (61, 2, [1, 0], 62), (62, 7, [3, 243], 65), (65, 2, [0, 2], 66), (66, 18, [154, 0], 69), (69, 2, [0, 2], 70), (70, 18, [207, 0], 73), (73, 3, [5, 0], 75), (75, 2, [5, 0], 77), (77, 6, [5, 153], 80), (80, 2, [0, 2], 81), (81, 9, [10, 15], 84), (84, 1, [600], 87), (87, 7, [3, 153], 90), (90, 2, [0, 2], 91), (91, 9, [10, 15], 94), (94, 3, [6, 0], 96), (96, 2, [0, 2], 97), (97, 9, [10, 71], 100), (100, 2, [6, 0], 102), (102, 2, [6, 0], 104), (104, 2, [2, 0], 105), (105, 7, [3, 118], 108), (108, 2, [0, 2], 109), (109, 9, [10, 71], 112), (112, 2, [6, 0], 114), (114, 11, [], 115), (115, 8, [119], 118), (118, 1, [0], 119), (119, 12, [], 120), (120, 2, [0, 2], 121), (121, 9, [10, 72], 124), (124, 2, [6, 0], 126), (126, 2, [5, 0], 128), (128, 12, [], 129), (129, 2, [0, 2], 130), (130, 2, [0, 2], 131), (131, 2, [0, 2], 132), (132, 9, [10, 71], 135), (135, 2, [6, 0], 137), (137, 11, [], 138), (138, 18, [208, 1], 141), (141, 18, [158, 1], 144), (144, 2, [0, 2], 145), (145, 18, [207, 0], 148), (148, 3, [5, 0], 150), (150, 8, [75], 153), (153, 2, [0, 2], 154), (154, 2, [0, 2], 155), (155, 18, [178, 0], 158), (158, 10, [10, 14], 161), (161, 2, [0, 2], 162), (162, 2, [3, 0], 163), (163, 18, [209, 1], 166), (166, 4, [3, 1], 169), (169, 2, [0, 2], 170), (170, 9, [10, 15], 173), (173, 1, [1], 174), (174, 5, [1], 175), (175, 3, [6, 0], 177), (177, 2, [6, 0], 179), (179, 6, [2, 207], 182), (182, 2, [0, 2], 183), (183, 9, [10, 71], 186), (186, 2, [6, 0], 188), (188, 11, [], 189), (189, 1, [1], 190), (190, 5, [0], 191), (191, 2, [0, 2], 192), (192, 9, [10, 72], 195), (195, 2, [6, 0], 197), (197, 11, [], 198), (198, 7, [2, 207], 201), (201, 4, [6, -1], 204), (204, 8, [177], 207), (207, 2, [6, 0], 209), (209, 6, [2, 216], 212), (212, 1, [1], 213), (213, 8, [217], 216), (216, 1, [0], 217), (217, 3, [4, 0], 219), (219, 2, [4, 0], 221), (221, 6, [0, 240], 224), (224, 2, [0, 2], 225), (225, 9, [10, 71], 228), (228, 2, [6, 0], 230), (230, 26, [], 231), (231, 11, [], 232), (232, 1, [1], 233), (233, 5, [0], 234), (234, 12, [], 235), (235, 2, [6, 0], 237), (237, 1, [1], 238), (238, 5, [0], 239), (239, 3, [2, 0], 240), (240, 8, [55], 243), (243, 2, [0, 2], 244), (244, 9, [10, 58], 247), (247, 1, [0], 248), (248, 2, [4, 0], 250), (250, 6, [0, 257], 253), (253, 1, [0], 254), (254, 8, [258], 257), (257, 1, [1], 258), (258, 12, [], 259), (259, 2, [0, 2], 260), (260, 25, [], 261), (261, 9, [10, 74], 264), (264, 2, [3, 0], 265), (265, 5, [0], 266), (266, 10, [10, 74], 269), (269, 2, [0, 2], 270), (270, 18, [153, 0], 273), (273, 27, [], 274), (274, 2, [3, 0], 275), (275, 22, [0], 276)]
def sm_c207 : List (Nat × Smi) := [(0, 1, [0], 1), (1, 3, [1, 0], 2), (2, 1, [0], 3), (3, 3, [2, 0], 4), (4, 2, [2, 0], 5), (5, 2, [0, 2], 6), (6, 9, [10, 4], 9), (9, 7, [3, 34], 12), (12, 2, [1, 0], 13), (13, 2, [0, 2], 14), (14, 2, [2, 0], 15), (15, 18, [156, 1], 18), (18, 6, [0, 25], 21), (21, 1, [1], 22), (22, 8, [26], 25), (25, 1, [0], 26), (26, 5, [0], 27), (27, 3, [1, 0], 28), (28, 4, [2, 1], 31), (31, 8, [4], 34), (34, 2, [1, 0], 35), (35, 22, [0], 36)]
def sm_c208 : List (Nat × Smi) := [(0, 2, [1, 0], 1), (1, 3, [2, 0], 2), (2, 1, [0], 3), (3, 3, [3, 0], 4), (4, 2, [0, 2], 5), (5, 2, [3, 0], 6), (6, 18, [156, 1], 9), (9, 6, [0, 16], 12), (12, 2, [2, 0], 13), (13, 6, [5, 38], 16), (16, 2, [2, 0], 17), (17, 2, [0, 2], 18), (18, 2, [3, 0], 19), (19, 18, [156, 1], 22), (22, 6, [0, 29], 25), (25, 1, [1], 26), (26, 8, [30], 29), (29, 1, [0], 30), (30, 5, [1], 31), (31, 3, [2, 0], 32), (32, 4, [3, 1], 35), (35, 8, [4], 38), (38, 2, [3, 0], 39), (39, 22, [0], 40)]
def sm_c209 : List (Nat × Smi) := [(0, 2, [0, 2], 1), (1, 9, [10, 58], 4), (4, 1, [1], 5), (5, 26, [], 6), (6, 11, [], 7), (7, 2, [0, 2], 8), (8, 9, [10, 14], 11), (11, 6, [0, 18], 14), (14, 1, [1], 15), (15, 8, [19], 18), (18, 1, [0], 19), (19, 5, [0], 20), (20, 12, [], 21), (21, 1, [0], 22), (22, 3, [2, 0], 23), (23, 1, [0], 24), (24, 3, [3, 0], 25), (25, 1, [0], 26), (26, 3, [4, 0], 28), (28, 2, [4, 0], 30), (30, 2, [0, 2], 31), (31, 9, [10, 0], 34), (34, 7, [3, 84], 37), (37, 2, [0, 2], 38), (38, 2, [4, 0], 40), (40, 1, [300], 43), (43, 18, [194, 2], 46), (46, 3, [5, 0], 48), (48, 2, [2, 0], 49), (49, 6, [1, 57], 52), (52, 2, [5, 0], 54), (54, 6, [1, 61], 57), (57, 1, [1], 58), (58, 8, [62], 61), (61, 1, [0], 62), (62, 3, [2, 0], 63), (63, 2, [3, 0], 64), (64, 6, [1, 72], 67), (67, 2, [5, 0], 69), (69, 6, [3, 76], 72), (72, 1, [1], 73), (73, 8, [77], 76), (76, 1, [0], 77), (77, 3, [3, 0], 78), (78, 4, [4, 1], 81), (81, 8, [28], 84), (84, 2, [0, 2], 85), (85, 9, [10, 58], 88), (88, 1, [2], 89), (89, 26, [], 90), (90, 11, [], 91), (91, 2, [2, 0], 92), (92, 6, [0, 99], 95), (95, 1, [1], 96), (96, 8, [100], 99), (99, 1, [0], 100), (100, 5, [0], 101), (101, 12, [], 102), (102, 2, [0, 2], 103), (103, 9, [10, 58], 106), (106, 1, [3], 107), (107, 26, [], 108), (108, 11, [], 109), (109, 2, [3, 0], 110), (110, 6, [0, 121], 113), (113, 2, [2, 0], 114), (114, 6, [1, 121], 117), (117, 1, [1], 118), (118, 8, [122], 121), (121, 1, [0], 122), (122, 5, [0], 123), (123, 12, [], 124), (124, 1, [0], 125), (125, 3, [4, 0], 127), (127, 2, [4, 0], 129), (129, 1, [40], 131), (131, 7, [3, 184], 134), (134, 2, [0, 2], 135), (135, 9, [10, 73], 138), (138, 1, [80], 140), (140, 2, [1, 0], 141), (141, 5, [2], 142), (142, 1, [2], 143), (143, 2, [4, 0], 145), (145, 5, [2], 146), (146, 5, [0], 147), (147, 2, [0, 2], 148), (148, 9, [10, 20], 151), (151, 2, [4, 0], 153), (153, 11, [], 154), (154, 12, [], 155), (155, 2, [0, 2], 156), (156, 9, [10, 73], 159), (159, 1, [80], 161), (161, 2, [1, 0], 162), (162, 5, [2], 163), (163, 1, [2], 164), (164, 2, [4, 0], 166), (166, 5, [2], 167), (167, 5, [0], 168), (168, 1, [1], 169), (169, 5, [0], 170), (170, 2, [0, 2], 171), (171, 9, [10, 21], 174), (174, 2, [4, 0], 176), (176, 11, [], 177), (177, 12, [], 178), (178, 4, [4, 1], 181), (181, 8, [127], 184), (184, 1, [1], 185), (185, 3, [4, 0], 187), (187, 1, [0], 188), (188, 3, [5, 0], 190), (190, 2, [5, 0], 192), (192, 2, [1, 0], 193), (193, 7, [3, 216], 196), (196, 2, [4, 0], 198), (198, 6, [0, 216], 201), (201, 2, [0, 2], 202), (202, 2, [1, 0], 203), (203, 2, [5, 0], 205), (205, 18, [210, 2], 208), (208, 3, [4, 0], 210), (210, 4, [5, 1], 213), (213, 8, [190], 216), (216, 2, [0, 2], 217), (217, 9, [10, 58], 220), (220, 1, [4], 221), (221, 26, [], 222), (222, 11, [], 223), (223, 2, [4, 0], 225), (225, 6, [0, 232], 228), (228, 1, [1], 229), (229, 8, [233], 232), (232, 1, [0], 233), (233, 5, [0], 234), (234, 12, [], 235), (235, 21, [], 236)]
def sm_c210 : List (Nat × Smi) := [(0, 1, [0], 1), (1, 3, [3, 0], 2), (2, 2, [3, 0], 3), (3, 1, [80], 5), (5, 7, [3, 41], 8), (8, 2, [0, 2], 9), (9, 9, [10, 73], 12), (12, 1, [80], 14), (14, 2, [1, 0], 15), (15, 5, [2], 16), (16, 2, [3, 0], 17), (17, 5, [0], 18), (18, 11, [], 19), (19, 2, [0, 2], 20), (20, 9, [10, 73], 23), (23, 1, [80], 25), (25, 2, [2, 0], 26), (26, 5, [2], 27), (27, 2, [3, 0], 28), (28, 5, [0], 29), (29, 11, [], 30), (30, 7, [0, 35], 33), (33, 1, [1], 34), (34, 22, [1], 35), (35, 4, [3, 1], 38), (38, 8, [2], 41), (41, 1, [0], 42), (42, 22, [1], 43)]
def sm_c211 : List (Nat × Smi) := [(0, 2, [1, 0], 1), (1, 1, [0], 2), (2, 1, [4], 3), (3, 19, [143, 3], 6), (6, 6, [0, 18], 9), (9, 2, [0, 2], 10), (10, 9, [10, 58], 13), (13, 2, [1, 0], 14), (14, 11, [], 15), (15, 8, [20], 18), (18, 1, [-2], 20), (20, 22, [0], 21)]
def sm_c212 : List (Nat × Smi) := [(0, 2, [0, 2], 1), (1, 9, [10, 13], 4), (4, 6, [1, 9], 7), (7, 39, [0], 8), (8, 23, [], 9), (9, 39, [7], 12), (12, 3, [1, 1], 13), (13, 1, [0], 14), (14, 3, [3, 0], 15), (15, 2, [3, 0], 16), (16, 2, [0, 2], 17), (17, 9, [10, 4], 20), (20, 7, [3, 105], 23), (23, 1, [0], 24), (24, 3, [4, 0], 26), (26, 2, [4, 0], 28), (28, 2, [0, 2], 29), (29, 9, [10, 5], 32), (32, 2, [3, 0], 33), (33, 11, [], 34), (34, 7, [3, 99], 37), (37, 39, [31], 40), (40, 39, [31], 43), (43, 39, [31], 46), (46, 2, [1, 1], 47), (47, 38, [], 48), (48, 2, [0, 2], 49), (49, 9, [10, 21], 52), (52, 1, [8], 54), (54, 2, [3, 0], 55), (55, 5, [2], 56), (56, 2, [4, 0], 58), (58, 5, [0], 59), (59, 11, [], 60), (60, 36, [], 61), (61, 37, [], 62), (62, 38, [], 63), (63, 2, [0, 2], 64), (64, 9, [10, 20], 67), (67, 1, [8], 69), (69, 2, [3, 0], 70), (70, 5, [2], 71), (71, 2, [4, 0], 73), (73, 5, [0], 74), (74, 11, [], 75), (75, 36, [], 76), (76, 37, [], 77), (77, 38, [], 78), (78, 2, [0, 2], 79), (79, 9, [10, 22], 82), (82, 1, [8], 84), (84, 2, [3, 0], 85), (85, 5, [2], 86), (86, 2, [4, 0], 88), (88, 5, [0], 89), (89, 11, [], 90), (90, 36, [], 91), (91, 37, [], 92), (92, 3, [1, 1], 93), (93, 4, [4, 1], 96), (96, 8, [26], 99), (99, 4, [3, 1], 102), (102, 8, [15], 105), (105, 1, [0], 106), (106, 3, [3, 0], 107), (107, 2, [3, 0], 108), (108, 2, [0, 2], 109), (109, 9, [10, 0], 112), (112, 7, [3, 184], 115), (115, 2, [0, 2], 116), (116, 2, [3, 0], 117), (117, 18, [185, 1], 120), (120, 3, [4, 0], 122), (122, 39, [31], 125), (125, 2, [1, 1], 126), (126, 38, [], 127), (127, 2, [4, 0], 129), (129, 36, [], 130), (130, 37, [], 131), (131, 3, [1, 1], 132), (132, 1, [0], 133), (133, 3, [5, 0], 135), (135, 2, [5, 0], 137), (137, 2, [4, 0], 139), (139, 7, [3, 178], 142), (142, 39, [31], 145), (145, 39, [31], 148), (148, 2, [1, 1], 149), (149, 38, [], 150), (150, 2, [0, 2], 151), (151, 2, [3, 0], 152), (152, 2, [5, 0], 154), (154, 1, [0], 155), (155, 18, [187, 3], 158), (158, 36, [], 159), (159, 37, [], 160), (160, 38, [], 161), (161, 2, [0, 2], 162), (162, 2, [3, 0], 163), (163, 2, [5, 0], 165), (165, 1, [1], 166), (166, 18, [187, 3], 169), (169, 36, [], 170), (170, 37, [], 171), (171, 3, [1, 1], 172), (172, 4, [5, 1], 175), (175, 8, [135], 178), (178, 4, [3, 1], 181), (181, 8, [107], 184), (184, 2, [1, 1], 185), (185, 23, [], 186)]
def sm_c213 : List (Nat × Smi) := [(0, 2, [0, 2], 1), (1, 1, [2], 2), (2, 18, [183, 1], 5), (5, 3, [1, 0], 6), (6, 2, [0, 2], 7), (7, 1, [0], 8), (8, 10, [10, 0], 11), (11, 2, [0, 2], 12), (12, 1, [0], 13), (13, 10, [10, 4], 16), (16, 1, [0], 17), (17, 3, [2, 0], 18), (18, 2, [2, 0], 19), (19, 1, [600], 22), (22, 7, [3, 38], 25), (25, 2, [0, 2], 26), (26, 9, [10, 11], 29), (29, 2, [2, 0], 30), (30, 1, [-1], 31), (31, 12, [], 32), (32, 4, [2, 1], 35), (35, 8, [18], 38), (38, 1, [0], 39), (39, 3, [2, 0], 40), (40, 2, [2, 0], 41), (41, 1, [192], 44), (44, 7, [3, 60], 47), (47, 2, [0, 2], 48), (48, 9, [10, 12], 51), (51, 2, [2, 0], 52), (52, 1, [0], 53), (53, 12, [], 54), (54, 4, [2, 1], 57), (57, 8, [40], 60), (60, 2, [0, 2], 61), (61, 1, [0], 62), (62, 10, [10, 13], 65), (65, 2, [1, 0], 66), (66, 22, [0], 67)]
def sm_c214 : List (Nat × Smi) := [(0, 29, [9], 3), (3, 25, [], 4), (4, 20, [0, 0], 7), (7, 3, [1, 2], 8), (8, 29, [10], 11), (11, 25, [], 12), (12, 20, [141, 0], 15), (15, 3, [2, 2], 16), (16, 1, [0], 17), (17, 3, [3, 0], 18), (18, 2, [3, 0], 19), (19, 2, [0, 2], 20), (20, 17, [], 21), (21, 1, [6], 23), (23, 5, [1], 24), (24, 7, [4, 822], 27), (27, 2, [0, 2], 28), (28, 2, [3, 0], 29), (29, 11, [], 30), (30, 1, [31], 32), (32, 5, [8], 33), (33, 40, [0, 816, 144, 187, 200, 263, 296, 339, 382, 395, 428, 461, 494, 527, 550, 573, 616, 629, 662, 685, 718, 731, 744, 767, 790, 803], 144), (144, 2, [1, 2], 145), (145, 2, [0, 2], 146), (146, 2, [3, 0], 147), (147, 1, [1], 148), (148, 5, [0], 149), (149, 11, [], 150), (150, 2, [0, 2], 151), (151, 2, [3, 0], 152), (152, 1, [2], 153), (153, 5, [0], 154), (154, 11, [], 155), (155, 2, [0, 2], 156), (156, 2, [3, 0], 157), (157, 1, [3], 158), (158, 5, [0], 159), (159, 11, [], 160), (160, 18, [11, 3], 163), (163, 27, [], 164), (164, 2, [2, 2], 165), (165, 2, [0, 2], 166), (166, 2, [3, 0], 167), (167, 1, [1], 168), (168, 5, [0], 169), (169, 11, [], 170), (170, 2, [0, 2], 171), (171, 2, [3, 0], 172), (172, 1, [2], 173), (173, 5, [0], 174), (174, 11, [], 175), (175, 2, [0, 2], 176), (176, 2, [3, 0], 177), (177, 1, [3], 178), (178, 5, [0], 179), (179, 11, [], 180), (180, 18, [142, 3], 183), (183, 27, [], 184), (184, 8, [816], 187), (187, 2, [1, 2], 188), (188, 18, [14, 0], 191), (191, 27, [], 192), (192, 2, [2, 2], 193), (193, 18, [144, 0], 196), (196, 27, [], 197), (197, 8, [816], 200), (200, 2, [1, 2], 201), (201, 2, [0, 2], 202), (202, 2, [3, 0], 203), (203, 1, [1], 204), (204, 5, [0], 205), (205, 11, [], 206), (206, 2, [0, 2], 207), (207, 2, [3, 0], 208), (208, 1, [2], 209), (209, 5, [0], 210), (210, 11, [], 211), (211, 2, [0, 2], 212), (212, 2, [3, 0], 213), (213, 1, [3], 214), (214, 5, [0], 215), (215, 11, [], 216), (216, 2, [0, 2], 217), (217, 2, [3, 0], 218), (218, 1, [4], 219), (219, 5, [0], 220), (220, 11, [], 221), (221, 2, [0, 2], 222), (222, 2, [3, 0], 223), (223, 1, [5], 224), (224, 5, [0], 225), (225, 11, [], 226), (226, 18, [16, 5], 229), (229, 27, [], 230), (230, 2, [2, 2], 231), (231, 2, [0, 2], 232), (232, 2, [3, 0], 233), (233, 1, [1], 234), (234, 5, [0], 235), (235, 11, [], 236), (236, 2, [0, 2], 237), (237, 2, [3, 0], 238), (238, 1, [2], 239), (239, 5, [0], 240), (240, 11, [], 241), (241, 2, [0, 2], 242), (242, 2, [3, 0], 243), (243, 1, [3], 244), (244, 5, [0], 245), (245, 11, [], 246), (246, 2, [0, 2], 247), (247, 2, [3, 0], 248), (248, 1, [4], 249), (249, 5, [0], 250), (250, 11, [], 251), (251, 2, [0, 2], 252), (252, 2, [3, 0], 253), (253, 1, [5], 254), (254, 5, [0], 255), (255, 11, [], 256), (256, 18, [145, 5], 259), (259, 27, [], 260), (260, 8, [816], 263), (263, 2, [1, 2], 264), (264, 2, [0, 2], 265), (265, 2, [3, 0], 266), (266, 1, [1], 267), (267, 5, [0], 268), (268, 11, [], 269), (269, 2, [0, 2], 270), (270, 2, [3, 0], 271), (271, 1, [2], 272), (272, 5, [0], 273), (273, 11, [], 274), (274, 18, [21, 2], 277), (277, 2, [2, 2], 278), (278, 2, [0, 2], 279), (279, 2, [3, 0], 280), (280, 1, [1], 281), (281, 5, [0], 282), (282, 11, [], 283), (283, 2, [0, 2], 284), (284, 2, [3, 0], 285), (285, 1, [2], 286), (286, 5, [0], 287), (287, 11, [], 288), (288, 18, [149, 2], 291), (291, 7, [0, 816], 294), (294, 1, [0], 295), (295, 22, [1], 296), (296, 2, [1, 2], 297), (297, 2, [0, 2], 298), (298, 2, [3, 0], 299), (299, 1, [1], 300), (300, 5, [0], 301), (301, 11, [], 302), (302, 2, [0, 2], 303), (303, 2, [3, 0], 304), (304, 1, [2], 305), (305, 5, [0], 306), (306, 11, [], 307), (307, 2, [0, 2], 308), (308, 2, [3, 0], 309), (309, 1, [3], 310), (310, 5, [0], 311), (311, 11, [], 312), (312, 18, [22, 3], 315), (315, 27, [], 316), (316, 2, [2, 2], 317), (317, 2, [0, 2], 318), (318, 2, [3, 0], 319), (319, 1, [1], 320), (320, 5, [0], 321), (321, 11, [], 322), (322, 2, [0, 2], 323), (323, 2, [3, 0], 324), (324, 1, [2], 325), (325, 5, [0], 326), (326, 11, [], 327), (327, 2, [0, 2], 328), (328, 2, [3, 0], 329), (329, 1, [3], 330), (330, 5, [0], 331), (331, 11, [], 332), (332, 18, [150, 3], 335), (335, 27, [], 336), (336, 8, [816], 339), (339, 2, [1, 2], 340), (340, 2, [0, 2], 341), (341, 2, [3, 0], 342), (342, 1, [1], 343), (343, 5, [0], 344), (344, 11, [], 345), (345, 2, [0, 2], 346), (346, 2, [3, 0], 347), (347, 1, [2], 348), (348, 5, [0], 349), (349, 11, [], 350), (350, 2, [0, 2], 351), (351, 2, [3, 0], 352), (352, 1, [3], 353), (353, 5, [0], 354), (354, 11, [], 355), (355, 18, [24, 3], 358), (358, 27, [], 359), (359, 2, [2, 2], 360), (360, 2, [0, 2], 361), (361, 2, [3, 0], 362), (362, 1, [1], 363), (363, 5, [0], 364), (364, 11, [], 365), (365, 2, [0, 2], 366), (366, 2, [3, 0], 367), (367, 1, [2], 368), (368, 5, [0], 369), (369, 11, [], 370), (370, 2, [0, 2], 371), (371, 2, [3, 0], 372), (372, 1, [3], 373), (373, 5, [0], 374), (374, 11, [], 375), (375, 18, [152, 3], 378), (378, 27, [], 379), (379, 8, [816], 382), (382, 2, [1, 2], 383), (383, 18, [25, 0], 386), (386, 27, [], 387), (387, 2, [2, 2], 388), (388, 18, [153, 0], 391), (391, 27, [], 392), (392, 8, [816], 395), (395, 2, [1, 2], 396), (396, 2, [0, 2], 397), (397, 2, [3, 0], 398), (398, 1, [1], 399), (399, 5, [0], 400), (400, 11, [], 401), (401, 2, [0, 2], 402), (402, 2, [3, 0], 403), (403, 1, [2], 404), (404, 5, [0], 405), (405, 11, [], 406), (406, 18, [81, 2], 409), (409, 27, [], 410), (410, 2, [2, 2], 411), (411, 2, [0, 2], 412), (412, 2, [3, 0], 413), (413, 1, [1], 414), (414, 5, [0], 415), (415, 11, [], 416), (416, 2, [0, 2], 417), (417, 2, [3, 0], 418), (418, 1, [2], 419), (419, 5, [0], 420), (420, 11, [], 421), (421, 18, [179, 2], 424), (424, 27, [], 425), (425, 8, [816], 428), (428, 2, [1, 2], 429), (429, 2, [0, 2], 430), (430, 2, [3, 0], 431), (431, 1, [1], 432), (432, 5, [0], 433), (433, 11, [], 434), (434, 2, [0, 2], 435), (435, 2, [3, 0], 436), (436, 1, [2], 437), (437, 5, [0], 438), (438, 11, [], 439), (439, 18, [82, 2], 442), (442, 27, [], 443), (443, 2, [2, 2], 444), (444, 2, [0, 2], 445), (445, 2, [3, 0], 446), (446, 1, [1], 447), (447, 5, [0], 448), (448, 11, [], 449), (449, 2, [0, 2], 450), (450, 2, [3, 0], 451), (451, 1, [2], 452), (452, 5, [0], 453), (453, 11, [], 454), (454, 18, [180, 2], 457), (457, 27, [], 458), (458, 8, [816], 461), (461, 2, [1, 2], 462), (462, 2, [0, 2], 463), (463, 2, [3, 0], 464), (464, 1, [1], 465), (465, 5, [0], 466), (466, 11, [], 467), (467, 2, [0, 2], 468), (468, 2, [3, 0], 469), (469, 1, [2], 470), (470, 5, [0], 471), (471, 11, [], 472), (472, 18, [83, 2], 475), (475, 27, [], 476), (476, 2, [2, 2], 477), (477, 2, [0, 2], 478), (478, 2, [3, 0], 479), (479, 1, [1], 480), (480, 5, [0], 481), (481, 11, [], 482), (482, 2, [0, 2], 483), (483, 2, [3, 0], 484), (484, 1, [2], 485), (485, 5, [0], 486), (486, 11, [], 487), (487, 18, [181, 2], 490), (490, 27, [], 491), (491, 8, [816], 494), (494, 2, [1, 2], 495), (495, 2, [0, 2], 496), (496, 2, [3, 0], 497), (497, 1, [1], 498), (498, 5, [0], 499), (499, 11, [], 500), (500, 2, [0, 2], 501), (501, 2, [3, 0], 502), (502, 1, [2], 503), (503, 5, [0], 504), (504, 11, [], 505), (505, 18, [84, 2], 508), (508, 27, [], 509), (509, 2, [2, 2], 510), (510, 2, [0, 2], 511), (511, 2, [3, 0], 512), (512, 1, [1], 513), (513, 5, [0], 514), (514, 11, [], 515), (515, 2, [0, 2], 516), (516, 2, [3, 0], 517), (517, 1, [2], 518), (518, 5, [0], 519), (519, 11, [], 520), (520, 18, [182, 2], 523), (523, 27, [], 524), (524, 8, [816], 527), (527, 2, [1, 2], 528), (528, 2, [0, 2], 529), (529, 2, [3, 0], 530), (530, 1, [1], 531), (531, 5, [0], 532), (532, 11, [], 533), (533, 18, [85, 1], 536), (536, 27, [], 537), (537, 2, [2, 2], 538), (538, 2, [0, 2], 539), (539, 2, [3, 0], 540), (540, 1, [1], 541), (541, 5, [0], 542), (542, 11, [], 543), (543, 18, [183, 1], 546), (546, 27, [], 547), (547, 8, [816], 550), (550, 2, [1, 2], 551), (551, 2, [0, 2], 552), (552, 2, [3, 0], 553), (553, 1, [1], 554), (554, 5, [0], 555), (555, 11, [], 556), (556, 18, [88, 1], 559), (559, 27, [], 560), (560, 2, [2, 2], 561), (561, 2, [0, 2], 562), (562, 2, [3, 0], 563), (563, 1, [1], 564), (564, 5, [0], 565), (565, 11, [], 566), (566, 18, [184, 1], 569), (569, 27, [], 570), (570, 8, [816], 573), (573, 2, [1, 2], 574), (574, 2, [0, 2], 575), (575, 2, [3, 0], 576), (576, 1, [1], 577), (577, 5, [0], 578), (578, 11, [], 579), (579, 2, [0, 2], 580), (580, 2, [3, 0], 581), (581, 1, [2], 582), (582, 5, [0], 583), (583, 11, [], 584), (584, 2, [0, 2], 585), (585, 2, [3, 0], 586), (586, 1, [3], 587), (587, 5, [0], 588), (588, 11, [], 589), (589, 18, [91, 3], 592), (592, 27, [], 593), (593, 2, [2, 2], 594), (594, 2, [0, 2], 595), (595, 2, [3, 0], 596), (596, 1, [1], 597), (597, 5, [0], 598), (598, 11, [], 599), (599, 2, [0, 2], 600), (600, 2, [3, 0], 601), (601, 1, [2], 602), (602, 5, [0], 603), (603, 11, [], 604), (604, 2, [0, 2], 605), (605, 2, [3, 0], 606), (606, 1, [3], 607), (607, 5, [0], 608), (608, 11, [], 609), (609, 18, [186, 3], 612), (612, 27, [], 613), (613, 8, [816], 616), (616, 2, [1, 2], 617), (617, 18, [98, 0], 620), (620, 27, [], 621), (621, 2, [2, 2], 622), (622, 18, [190, 0], 625), (625, 27, [], 626), (626, 8, [816], 629), (629, 2, [1, 2], 630), (630, 2, [0, 2], 631), (631, 2, [3, 0], 632), (632, 1, [1], 633), (633, 5, [0], 634), (634, 11, [], 635), (635, 2, [0, 2], 636), (636, 2, [3, 0], 637), (637, 1, [2], 638), (638, 5, [0], 639), (639, 11, [], 640), (640, 18, [99, 2], 643), (643, 27, [], 644), (644, 2, [2, 2], 645), (645, 2, [0, 2], 646), (646, 2, [3, 0], 647), (647, 1, [1], 648), (648, 5, [0], 649), (649, 11, [], 650), (650, 2, [0, 2], 651), (651, 2, [3, 0], 652), (652, 1, [2], 653), (653, 5, [0], 654), (654, 11, [], 655), (655, 18, [191, 2], 658), (658, 27, [], 659), (659, 8, [816], 662), (662, 2, [1, 2], 663), (663, 2, [0, 2], 664), (664, 2, [3, 0], 665), (665, 1, [1], 666), (666, 5, [0], 667), (667, 11, [], 668), (668, 18, [104, 1], 671), (671, 27, [], 672), (672, 2, [2, 2], 673), (673, 2, [0, 2], 674), (674, 2, [3, 0], 675), (675, 1, [1], 676), (676, 5, [0], 677), (677, 11, [], 678), (678, 18, [192, 1], 681), (681, 27, [], 682), (682, 8, [816], 685), (685, 2, [1, 2], 686), (686, 2, [0, 2], 687), (687, 2, [3, 0], 688), (688, 1, [1], 689), (689, 5, [0], 690), (690, 11, [], 691), (691, 2, [0, 2], 692), (692, 2, [3, 0], 693), (693, 1, [2], 694), (694, 5, [0], 695), (695, 11, [], 696), (696, 18, [125, 2], 699), (699, 27, [], 700), (700, 2, [2, 2], 701), (701, 2, [0, 2], 702), (702, 2, [3, 0], 703), (703, 1, [1], 704), (704, 5, [0], 705), (705, 11, [], 706), (706, 2, [0, 2], 707), (707, 2, [3, 0], 708), (708, 1, [2], 709), (709, 5, [0], 710), (710, 11, [], 711), (711, 18, [203, 2], 714), (714, 27, [], 715), (715, 8, [816], 718), (718, 2, [1, 2], 719), (719, 18, [127, 0], 722), (722, 27, [], 723), (723, 2, [2, 2], 724), (724, 18, [204, 0], 727), (727, 27, [], 728), (728, 8, [816], 731), (731, 2, [1, 2], 732), (732, 18, [128, 0], 735), (735, 27, [], 736), (736, 2, [2, 2], 737), (737, 18, [205, 0], 740), (740, 27, [], 741), (741, 8, [816], 744), (744, 2, [1, 2], 745), (745, 2, [0, 2], 746), (746, 2, [3, 0], 747), (747, 1, [1], 748), (748, 5, [0], 749), (749, 11, [], 750), (750, 18, [129, 1], 753), (753, 27, [], 754), (754, 2, [2, 2], 755), (755, 2, [0, 2], 756), (756, 2, [3, 0], 757), (757, 1, [1], 758), (758, 5, [0], 759), (759, 11, [], 760), (760, 18, [206, 1], 763), (763, 27, [], 764), (764, 8, [816], 767), (767, 2, [1, 2], 768), (768, 2, [0, 2], 769), (769, 2, [3, 0], 770), (770, 1, [1], 771), (771, 5, [0], 772), (772, 11, [], 773), (773, 18, [136, 1], 776), (776, 27, [], 777), (777, 2, [2, 2], 778), (778, 2, [0, 2], 779), (779, 2, [3, 0], 780), (780, 1, [1], 781), (781, 5, [0], 782), (782, 11, [], 783), (783, 18, [211, 1], 786), (786, 27, [], 787), (787, 8, [816], 790), (790, 2, [1, 2], 791), (791, 18, [137, 0], 794), (794, 28, [], 795), (795, 2, [2, 2], 796), (796, 18, [212, 0], 799), (799, 28, [], 800), (800, 8, [816], 803), (803, 2, [1, 2], 804), (804, 18, [140, 0], 807), (807, 27, [], 808), (808, 2, [2, 2], 809), (809, 18, [213, 0], 812), (812, 27, [], 813), (813, 8, [816], 816), (816, 4, [3, 6], 819), (819, 8, [18], 822), (822, 1, [1], 823), (823, 22, [1], 824)]
def sm_cs0 : List (List (Nat × Smi)) := [sm_c0, sm_c1, sm_c2, sm_c3, sm_c4, sm_c5, sm_c6, sm_c7, sm_c8, sm_c9, sm_c10, sm_c11, sm_c12, sm_c13, sm_c14, sm_c15, sm_c16, sm_c17, sm_c18, sm_c19, sm_c20, sm_c21, sm_c22, sm_c23, sm_c24, sm_c25, sm_c26, sm_c27, sm_c28, sm_c29, sm_c30, sm_c31, sm_c32, sm_c33, sm_c34, sm_c35, sm_c36, sm_c37, sm_c38, sm_c39]
def sm_cs1 : List (List (Nat × Smi)) := [sm_c40, sm_c41, sm_c42, sm_c43, sm_c44, sm_c45, sm_c46, sm_c47, sm_c48, sm_c49, sm_c50, sm_c51, sm_c52, sm_c53, sm_c54, sm_c55, sm_c56, sm_c57, sm_c58, sm_c59, sm_c60, sm_c61, sm_c62, sm_c63, sm_c64, sm_c65, sm_c66, sm_c67, sm_c68, sm_c69, sm_c70, sm_c71, sm_c72, sm_c73, sm_c74, sm_c75, sm_c76, sm_c77, sm_c78, sm_c79]
def sm_cs2 : List (List (Nat × Smi)) := [sm_c80, sm_c81, sm_c82, sm_c83, sm_c84, sm_c85, sm_c86, sm_c87, sm_c88, sm_c89, sm_c90, sm_c91, sm_c92, sm_c93, sm_c94, sm_c95, sm_c96, sm_c97, sm_c98, sm_c99, sm_c100, sm_c101, sm_c102, sm_c103, sm_c104, sm_c105, sm_c106, sm_c107, sm_c108, sm_c109, sm_c110, sm_c111, sm_c112, sm_c113, sm_c114, sm_c115, sm_c116, sm_c117, sm_c118, sm_c119]
def sm_cs3 : List (List (Nat × Smi)) := [sm_c120, sm_c121, sm_c122, sm_c123, sm_c124, sm_c125, sm_c126, sm_c127, sm_c128, sm_c129, sm_c130, sm_c131, sm_c132, sm_c133, sm_c134, sm_c135, sm_c136, sm_c137, sm_c138, sm_c139, sm_c140, sm_c141, sm_c142, sm_c143, sm_c144, sm_c145, sm_c146, sm_c147, sm_c148, sm_c149, sm_c150, sm_c151, sm_c152, sm_c153, sm_c154, sm_c155, sm_c156, sm_c157, sm_c158, sm_c159]
def sm_cs4 : List (List (Nat × Smi)) := [sm_c160, sm_c161, sm_c162, sm_c163, sm_c164, sm_c165, sm_c166, sm_c167, sm_c168, sm_c169, sm_c170, sm_c171, sm_c172, sm_c173, sm_c174, sm_c175, sm_c176, sm_c177, sm_c178, sm_c179, sm_c180, sm_c181, sm_c182, sm_c183, sm_c184, sm_c185, sm_c186, sm_c187, sm_c188, sm_c189, sm_c190, sm_c191, sm_c192, sm_c193, sm_c194, sm_c195, sm_c196, sm_c197, sm_c198, sm_c199]
def sm_cs5 : List (List (Nat × Smi)) := [sm_c200, sm_c201, sm_c202, sm_c203, sm_c204, sm_c205, sm_c206, sm_c207, sm_c208, sm_c209, sm_c210, sm_c211, sm_c212, sm_c213, sm_c214]
def sm_cs : List (List (Nat × Smi)) := sm_cs0 ++ sm_cs1 ++ sm_cs2 ++ sm_cs3 ++ sm_cs4 ++ sm_cs5
end
section
/-! THE FLAT CODE IS THE METHODS' CODE: each flat instruction out of the decoded one, each link by its word -/
def sm_tbl : List Cond := lw_tbl.filter goodWord
def sm_cond : Jvm.ClassFile.Cond → Int
  | .eq => 0
  | .ne => 1
  | .lt => 2
  | .ge => 3
  | .gt => 4
  | .le => 5
/-- the flat instruction and the length of the decoded one; own: the number of the class, pc: the place -/
def sm_lower (own pc : Nat) (i : Instr) : Option (Smi × Nat) := match i with
  | .iconst v => some ((1, [v], pc + 1), 1)
  | .bipush v => if (Int8.ofInt v).toInt32 = Int32.ofInt v then some ((1, [v], pc + 2), 2) else none
  | .sipush v => if (Int16.ofInt v).toInt32 = Int32.ofInt v then some ((1, [v], pc + 3), 3) else none
  | .ldc k => match sm_at sm_rk own k with
    | some (v, _) => some ((1, [v], pc + 2), 2)
    | none => none
  | .ldc_w k => match sm_at sm_rk own k with
    | some (v, _) => some ((1, [v], pc + 3), 3)
    | none => none
  | .ldc2_w k => match sm_at sm_rl own k with
    | some (v, _) => some ((39, [v], pc + 3), 3)
    | none => none
  | .lconst k => some ((39, [((k : Nat) : Int)], pc + 1), 1)
  | .iload k => some ((2, [(k : Int), 0], pc + 2), 2)
  | .lload k => some ((2, [(k : Int), 1], pc + 2), 2)
  | .aload k => some ((2, [(k : Int), 2], pc + 2), 2)
  | .iload_n k => some ((2, [((k : Nat) : Int), 0], pc + 1), 1)
  | .lload_n k => some ((2, [((k : Nat) : Int), 1], pc + 1), 1)
  | .aload_n k => some ((2, [((k : Nat) : Int), 2], pc + 1), 1)
  | .istore k => some ((3, [(k : Int), 0], pc + 2), 2)
  | .lstore k => some ((3, [(k : Int), 1], pc + 2), 2)
  | .astore k => some ((3, [(k : Int), 2], pc + 2), 2)
  | .istore_n k => some ((3, [((k : Nat) : Int), 0], pc + 1), 1)
  | .lstore_n k => some ((3, [((k : Nat) : Int), 1], pc + 1), 1)
  | .astore_n k => some ((3, [((k : Nat) : Int), 2], pc + 1), 1)
  | .iinc k d => some ((4, [(k : Int), d], pc + 3), 3)
  | .iadd => some ((5, [0], pc + 1), 1)
  | .isub => some ((5, [1], pc + 1), 1)
  | .imul => some ((5, [2], pc + 1), 1)
  | .idiv => some ((5, [3], pc + 1), 1)
  | .irem => some ((5, [4], pc + 1), 1)
  | .ishl => some ((5, [5], pc + 1), 1)
  | .ishr => some ((5, [6], pc + 1), 1)
  | .iushr => some ((5, [7], pc + 1), 1)
  | .iand => some ((5, [8], pc + 1), 1)
  | .ior => some ((5, [9], pc + 1), 1)
  | .ixor => some ((5, [10], pc + 1), 1)
  | .ifCond c o => if 0 ≤ (pc : Int) + o then some ((6, [sm_cond c, (pc : Int) + o], pc + 3), 3) else none
  | .if_icmp c o => if 0 ≤ (pc : Int) + o then some ((7, [sm_cond c, (pc : Int) + o], pc + 3), 3) else none
  | .goto o => if 0 ≤ (pc : Int) + o then some ((8, [(pc : Int) + o], pc + 3), 3) else none
  | .getfield k => match sm_at sm_rf own k with
    | some (ci, j, _) => some ((9, [(ci : Int), (j : Int)], pc + 3), 3)
    | none => none
  | .putfield k => match sm_at sm_rf own k with
    | some (ci, j, _) => some ((10, [(ci : Int), (j : Int)], pc + 3), 3)
    | none => none
  | .iaload => some ((11, [], pc + 1), 1)
  | .iastore => some ((12, [], pc + 1), 1)
  | .baload => some ((13, [], pc + 1), 1)
  | .bastore => some ((14, [], pc + 1), 1)
  | .aaload => some ((15, [], pc + 1), 1)
  | .aastore => some ((16, [], pc + 1), 1)
  | .arraylength => some ((17, [], pc + 1), 1)
  | .invokevirtual k => match sm_at sm_rm own k with
    | some (mi, _, _) => match sm_ms[mi]? with
      | some y => match parseMethodDescriptor y.1.desc with
        | some d => some ((18, [(mi : Int), (d.parameters.length : Int)], pc + 3), 3)
        | none => none
      | none => none
    | none => none
  | .invokestatic k => match sm_at sm_rm own k with
    | some (9998, _, _) => some ((41, [], pc + 3), 3)
    | some (mi, _, _) => match sm_ms[mi]? with
      | some y => match parseMethodDescriptor y.1.desc with
        | some d => some ((19, [(mi : Int), (d.parameters.length : Int)], pc + 3), 3)
        | none => none
      | none => none
    | none => none
  | .invokespecial k => match sm_at sm_rm own k with
    | some (9999, _, _) => some ((42, [], pc + 3), 3)
    | some (mi, _, _) => match sm_ms[mi]? with
      | some y => match parseMethodDescriptor y.1.desc with
        | some d => some ((20, [(mi : Int), (d.parameters.length : Int)], pc + 3), 3)
        | none => none
      | none => none
    | none => none
  | .return_ => some ((21, [], pc + 1), 1)
  | .ireturn => some ((22, [], pc + 1), 1)
  | .lreturn => some ((23, [], pc + 1), 1)
  | .areturn => some ((24, [], pc + 1), 1)
  | .dup => some ((25, [], pc + 1), 1)
  | .dup2 => some ((26, [], pc + 1), 1)
  | .pop => some ((27, [], pc + 1), 1)
  | .pop2 => some ((28, [], pc + 1), 1)
  | .new k => match sm_at sm_rc own k with
    | some (ci, _) => some ((29, [(ci : Int)], pc + 3), 3)
    | none => none
  | .newarray .int => some ((30, [20], pc + 2), 2)
  | .newarray .boolean => some ((30, [21], pc + 2), 2)
  | .anewarray k => match sm_at sm_rc own k with
    | some (ci, _) => some ((31, [(ci : Int)], pc + 3), 3)
    | none => none
  | .getstatic k => match sm_at sm_rs own k with
    | some (j, _, _) => some ((32, [(j : Int)], pc + 3), 3)
    | none => none
  | .ifnull o => if 0 ≤ (pc : Int) + o then some ((33, [(pc : Int) + o], pc + 3), 3) else none
  | .ifnonnull o => if 0 ≤ (pc : Int) + o then some ((34, [(pc : Int) + o], pc + 3), 3) else none
  | .aconst_null => some ((35, [], pc + 1), 1)
  | .i2l => some ((36, [], pc + 1), 1)
  | .ladd => some ((37, [], pc + 1), 1)
  | .lmul => some ((38, [], pc + 1), 1)
  | _ => none
/-- the same, with a table switch (its length hangs on its padding) and the kind of an int's return -/
def sm_low (own : Nat) (ret : Option FieldType) (pc : Nat) (i : Instr) (len : Nat) : Option Smi := match i with
  | .tableswitch df lo hi offs => if (lo ≤ hi + 1 ∧ offs.size = (hi + 1 - lo).toNat) ∧ (0 ≤ (pc : Int) + df ∧ offs.all (fun o => decide (0 ≤ (pc : Int) + o)) = true) then some (40, lo :: ((pc : Int) + df) :: offs.toList.map (fun o => (pc : Int) + o), pc + len) else none
  | .ireturn => if len = 1 then (match ret with
    | some .int => some (22, [0], pc + 1)
    | some .boolean => some (22, [1], pc + 1)
    | _ => none) else none
  | i => match sm_lower own pc i with
    | some (q, n) => if n = len then some q else none
    | none => none
def sm_chk (y : sm_M) (e : Nat × Smi) : Bool := match decode y.2.1 e.1 with
  | .ok (i, len) => sm_low y.2.2.2.2 y.2.2.2.1 e.1 i len == some e.2
  | _ => false
def sm_chks (m : Nat) : Bool := match sm_ms[m]?, sm_cs[m]? with
  | some y, some l => l.all (sm_chk y)
  | _, _ => false
theorem sm_t0 : ((List.range 48).map (· + 0)).all sm_chks = true := by decide +kernel
theorem sm_t1 : ((List.range 30).map (· + 48)).all sm_chks = true := by decide +kernel
theorem sm_t2 : ((List.range 41).map (· + 78)).all sm_chks = true := by decide +kernel
theorem sm_t3 : ((List.range 22).map (· + 119)).all sm_chks = true := by decide +kernel
theorem sm_t4 : ((List.range 1).map (· + 141)).all sm_chks = true := by decide +kernel
theorem sm_t5 : ((List.range 15).map (· + 142)).all sm_chks = true := by decide +kernel
theorem sm_t6 : ((List.range 1).map (· + 157)).all sm_chks = true := by decide +kernel
theorem sm_t7 : ((List.range 3).map (· + 158)).all sm_chks = true := by decide +kernel
end
section
theorem sm_t8 : ((List.range 1).map (· + 161)).all sm_chks = true := by decide +kernel
theorem sm_t9 : ((List.range 7).map (· + 162)).all sm_chks = true := by decide +kernel
theorem sm_t10 : ((List.range 1).map (· + 169)).all sm_chks = true := by decide +kernel
theorem sm_t11 : ((List.range 21).map (· + 170)).all sm_chks = true := by decide +kernel
theorem sm_t12 : ((List.range 8).map (· + 191)).all sm_chks = true := by decide +kernel
theorem sm_t13 : ((List.range 1).map (· + 199)).all sm_chks = true := by decide +kernel
end
section
theorem sm_t14 : ((List.range 9).map (· + 200)).all sm_chks = true := by decide +kernel
theorem sm_t15 : ((List.range 5).map (· + 209)).all sm_chks = true := by decide +kernel
end
section
def sm_lawy : sm_M := (⟨"CardIndexLaw", "law", "([I)Z"⟩, code, 4, some .boolean, 11)
theorem sm_w0 : ((sm_c214.drop 0).take 80).all (sm_chk sm_lawy) = true := by decide +kernel
theorem sm_w1 : ((sm_c214.drop 80).take 80).all (sm_chk sm_lawy) = true := by decide +kernel
theorem sm_w2 : ((sm_c214.drop 160).take 80).all (sm_chk sm_lawy) = true := by decide +kernel
theorem sm_w3 : ((sm_c214.drop 240).take 80).all (sm_chk sm_lawy) = true := by decide +kernel
theorem sm_w4 : ((sm_c214.drop 320).take 80).all (sm_chk sm_lawy) = true := by decide +kernel
theorem sm_w5 : ((sm_c214.drop 400).take 80).all (sm_chk sm_lawy) = true := by decide +kernel
theorem sm_w6 : ((sm_c214.drop 480).take 80).all (sm_chk sm_lawy) = true := by decide +kernel
theorem all_cut {α : Type} {f : α → Bool} {l : List α} (k n : Nat) (h1 : ((l.drop k).take n).all f = true) (h2 : (l.drop (k + n)).all f = true) : (l.drop k).all f = true := by
  have e : l.drop k = (l.drop k).take n ++ l.drop (k + n) := by rw [← List.drop_drop, List.take_append_drop]
  rw [e, List.all_append, h1, h2]
  rfl
theorem sm_wz : (sm_c214.drop 560).all (sm_chk sm_lawy) = true := by decide +kernel
theorem sm_y6 : (sm_c214.drop 480).all (sm_chk sm_lawy) = true := all_cut 480 80 sm_w6 sm_wz
theorem sm_y5 : (sm_c214.drop 400).all (sm_chk sm_lawy) = true := all_cut 400 80 sm_w5 sm_y6
theorem sm_y4 : (sm_c214.drop 320).all (sm_chk sm_lawy) = true := all_cut 320 80 sm_w4 sm_y5
theorem sm_y3 : (sm_c214.drop 240).all (sm_chk sm_lawy) = true := all_cut 240 80 sm_w3 sm_y4
theorem sm_y2 : (sm_c214.drop 160).all (sm_chk sm_lawy) = true := all_cut 160 80 sm_w2 sm_y3
theorem sm_y1 : (sm_c214.drop 80).all (sm_chk sm_lawy) = true := all_cut 80 80 sm_w1 sm_y2
theorem sm_y0 : (sm_c214.drop 0).all (sm_chk sm_lawy) = true := all_cut 0 80 sm_w0 sm_y1
theorem sm_law : sm_chks 214 = true := sm_y0
theorem sm_all : ∀ m, m < 215 → sm_chks m = true := by
  intro m hm
  by_cases h0 : m < 48
  · exact List.all_eq_true.mp sm_t0 m (List.mem_map.mpr ⟨m - 0, List.mem_range.mpr (by omega), by omega⟩)
  by_cases h1 : m < 78
  · exact List.all_eq_true.mp sm_t1 m (List.mem_map.mpr ⟨m - 48, List.mem_range.mpr (by omega), by omega⟩)
  by_cases h2 : m < 119
  · exact List.all_eq_true.mp sm_t2 m (List.mem_map.mpr ⟨m - 78, List.mem_range.mpr (by omega), by omega⟩)
  by_cases h3 : m < 141
  · exact List.all_eq_true.mp sm_t3 m (List.mem_map.mpr ⟨m - 119, List.mem_range.mpr (by omega), by omega⟩)
  by_cases h4 : m < 142
  · exact List.all_eq_true.mp sm_t4 m (List.mem_map.mpr ⟨m - 141, List.mem_range.mpr (by omega), by omega⟩)
  by_cases h5 : m < 157
  · exact List.all_eq_true.mp sm_t5 m (List.mem_map.mpr ⟨m - 142, List.mem_range.mpr (by omega), by omega⟩)
  by_cases h6 : m < 158
  · exact List.all_eq_true.mp sm_t6 m (List.mem_map.mpr ⟨m - 157, List.mem_range.mpr (by omega), by omega⟩)
  by_cases h7 : m < 161
  · exact List.all_eq_true.mp sm_t7 m (List.mem_map.mpr ⟨m - 158, List.mem_range.mpr (by omega), by omega⟩)
  by_cases h8 : m < 162
  · exact List.all_eq_true.mp sm_t8 m (List.mem_map.mpr ⟨m - 161, List.mem_range.mpr (by omega), by omega⟩)
  by_cases h9 : m < 169
  · exact List.all_eq_true.mp sm_t9 m (List.mem_map.mpr ⟨m - 162, List.mem_range.mpr (by omega), by omega⟩)
  by_cases h10 : m < 170
  · exact List.all_eq_true.mp sm_t10 m (List.mem_map.mpr ⟨m - 169, List.mem_range.mpr (by omega), by omega⟩)
  by_cases h11 : m < 191
  · exact List.all_eq_true.mp sm_t11 m (List.mem_map.mpr ⟨m - 170, List.mem_range.mpr (by omega), by omega⟩)
  by_cases h12 : m < 199
  · exact List.all_eq_true.mp sm_t12 m (List.mem_map.mpr ⟨m - 191, List.mem_range.mpr (by omega), by omega⟩)
  by_cases h13 : m < 200
  · exact List.all_eq_true.mp sm_t13 m (List.mem_map.mpr ⟨m - 199, List.mem_range.mpr (by omega), by omega⟩)
  by_cases h14 : m < 209
  · exact List.all_eq_true.mp sm_t14 m (List.mem_map.mpr ⟨m - 200, List.mem_range.mpr (by omega), by omega⟩)
  by_cases h15 : m < 214
  · exact List.all_eq_true.mp sm_t15 m (List.mem_map.mpr ⟨m - 209, List.mem_range.mpr (by omega), by omega⟩)
  rw [show m = 214 by omega]
  exact sm_law
theorem sm_len : sm_cs.length = 215 ∧ sm_ms.length = 215 := by decide +kernel
end
section
/-! THE FLAT MACHINE: cells by number, two heaps (whole numbers, references), code by number -/
/-- the plan of the cells, in the order in which they are made: kind (below 20: an object of that class; 20, 21: ints, booleans; 30 and more: references to objects of that class), size -/
def fl_l0 : List (Nat × Nat) := [(9, 8), (4, 4), (38, 6), (33, 5), (8, 12), (1, 5), (20, 64), (37, 4), (20, 4), (20, 32), (20, 32), (20, 32), (7, 9), (20, 8), (20, 8), (20, 8), (7, 9), (20, 8), (20, 8), (20, 8), (7, 9), (20, 8), (20, 8), (20, 8), (7, 9), (20, 8), (20, 8), (20, 8), (8, 12), (1, 5), (20, 64), (37, 4), (20, 4), (20, 32), (20, 32), (20, 32), (7, 9), (20, 8), (20, 8), (20, 8), (7, 9), (20, 8), (20, 8), (20, 8), (7, 9), (20, 8), (20, 8), (20, 8), (7, 9), (20, 8), (20, 8), (20, 8), (8, 12), (1, 5), (20, 64), (37, 4), (20, 4), (20, 32), (20, 32), (20, 32)]
def fl_l1 : List (Nat × Nat) := [(7, 9), (20, 8), (20, 8), (20, 8), (7, 9), (20, 8), (20, 8), (20, 8), (7, 9), (20, 8), (20, 8), (20, 8), (7, 9), (20, 8), (20, 8), (20, 8), (8, 12), (1, 5), (20, 64), (37, 4), (20, 4), (20, 32), (20, 32), (20, 32), (7, 9), (20, 8), (20, 8), (20, 8), (7, 9), (20, 8), (20, 8), (20, 8), (7, 9), (20, 8), (20, 8), (20, 8), (7, 9), (20, 8), (20, 8), (20, 8), (8, 12), (1, 5), (20, 64), (37, 4), (20, 4), (20, 32), (20, 32), (20, 32), (7, 9), (20, 8), (20, 8), (20, 8), (7, 9), (20, 8), (20, 8), (20, 8), (7, 9), (20, 8), (20, 8), (20, 8)]
def fl_l2 : List (Nat × Nat) := [(7, 9), (20, 8), (20, 8), (20, 8), (8, 12), (1, 5), (20, 64), (37, 4), (20, 4), (20, 32), (20, 32), (20, 32), (7, 9), (20, 8), (20, 8), (20, 8), (7, 9), (20, 8), (20, 8), (20, 8), (7, 9), (20, 8), (20, 8), (20, 8), (7, 9), (20, 8), (20, 8), (20, 8), (3, 5), (30, 8), (1, 5), (20, 64), (0, 19), (0, 19), (0, 19), (0, 19), (0, 19), (0, 19), (0, 19), (0, 19), (3, 5), (30, 8), (1, 5), (20, 64), (0, 19), (0, 19), (0, 19), (0, 19), (0, 19), (0, 19), (0, 19), (0, 19), (3, 5), (30, 8), (1, 5), (20, 64), (0, 19), (0, 19), (0, 19), (0, 19)]
def fl_l3 : List (Nat × Nat) := [(0, 19), (0, 19), (0, 19), (0, 19), (3, 5), (30, 8), (1, 5), (20, 64), (0, 19), (0, 19), (0, 19), (0, 19), (0, 19), (0, 19), (0, 19), (0, 19), (3, 5), (30, 8), (1, 5), (20, 64), (0, 19), (0, 19), (0, 19), (0, 19), (0, 19), (0, 19), (0, 19), (0, 19), (6, 7), (20, 320), (20, 600), (20, 600), (2, 13), (1, 5), (20, 64), (30, 12), (20, 12), (20, 12), (5, 8), (20, 600), (20, 5), (20, 4800), (20, 600), (10, 75), (20, 6), (20, 6), (20, 6), (20, 5), (20, 40), (20, 40), (20, 40), (20, 40), (20, 40), (20, 600), (20, 192), (20, 80), (21, 80), (20, 80), (20, 40), (20, 40)]
def fl_l4 : List (Nat × Nat) := [(20, 40), (20, 40), (20, 40), (20, 5), (20, 5), (21, 5), (20, 5), (21, 5), (20, 5), (21, 5), (21, 5), (21, 5), (21, 160), (20, 160), (20, 24), (21, 192), (20, 192), (20, 192), (21, 192), (20, 192), (20, 288), (20, 6), (21, 6), (20, 24), (21, 192), (20, 192), (20, 24), (21, 24), (20, 24), (20, 6), (20, 6), (20, 6), (20, 6), (20, 5), (20, 40), (20, 12), (21, 12), (20, 13), (21, 32), (20, 32), (20, 12), (20, 4), (20, 600), (20, 600), (20, 4800)]
def fl_ll : List (Nat × Nat) := fl_l0 ++ fl_l1 ++ fl_l2 ++ fl_l3 ++ fl_l4
abbrev fl_tot : Nat := 285
/-- what the static arrays hold -/
def fl_st : List (List Int32) := [[2], [0, 2, 1], [0, 2, 1, 3], [0, 2, 3, 1], [0, 4, 1, 3], [0, 4, 3, 1], [0, 0, 0, 0, 2, 1, 1, 1, 1], [0, 4, 5, 1, 6, 0, 1, 3], [0, 4, 5, 1, 6, 0, 3, 1], [0, 4, 1]]
abbrev vwCl : List vw_C := [(RX0, TX0, 19), (RX1, TX1, 5), (RX2, TX2, 13), (RX3, TX3, 5), (RX4, TX4, 4), (RX5, TX5, 8), (RX6, TX6, 7), (RX7, TX7, 9), (RX8, TX8, 12), (RX9, TX9, 8), (RX10, TX10, 75)]
def fl_ty : List (Nat → FieldType) := [tyX0, tyX1, tyX2, tyX3, tyX4, tyX5, tyX6, tyX7, tyX8, tyX9, tyX10]
def fl_N : List Nat := [19, 5, 13, 5, 4, 8, 7, 9, 12, 8, 75]
def fl_lay (k : Nat) : Nat × Nat := (fl_ll[k]?).getD (99, 0)
abbrev Hp : Type := (Nat → Nat → Int32) × (Nat → Nat → Option Nat)
/-- a state of one method: place, locals, stack, heap, how many cells are made -/
abbrev Cfg : Type := Nat × List (Option Value) × List Value × Hp × Nat
def fl_setI (h : Hp) (k j : Nat) (v : Int32) : Hp := (fun a b => if a = k ∧ b = j then v else h.1 a b, h.2)
def fl_setR (h : Hp) (k j : Nat) (v : Option Nat) : Hp := (h.1, fun a b => if a = k ∧ b = j then v else h.2 a b)
def fl_zero (h : Hp) (k : Nat) : Hp := (fun a b => if a = k then 0 else h.1 a b, fun a b => if a = k then none else h.2 a b)
def fl_copy (h : Hp) (a sp b dp n : Nat) : Hp := (fun k j => if k = b then (if dp ≤ j ∧ j < dp + n then h.1 a (sp + (j - dp)) else h.1 b j) else h.1 k j, h.2)
/-- kinds of fields: 0 int, 1 boolean, 2 reference, 3 none -/
def fl_kind (ci k : Nat) : Nat := match fl_ty[ci]? with
  | none => 3
  | some f => if k < (fl_N[ci]?).getD 0 then (match f k with
    | .int => 0
    | .boolean => 1
    | .object _ => 2
    | .array _ => 2
    | _ => 3) else 3
def fl_rv : Option Nat → Value
  | none => .null
  | some a => .ref a
def fl_vr : Value → Option (Option Nat)
  | .null => some none
  | .ref a => some (some a)
  | _ => none
/-- the length of an array: a cell of ours, a static one, the script (its length lies in cell 1011) -/
def fl_len (h : Hp) (k : Nat) : Nat := if k < 1000 then (fl_lay k).2 else if k = 1010 then (h.1 1011 0).toNatClampNeg else ((fl_st[k - 1000]?).getD []).length
/-- may an int be read there: an array of ints that is made, or a static one -/
def fl_isI (n k : Nat) : Bool := if k < 1000 then decide (k < n) && (fl_lay k).1 == 20 else decide (k ≤ 1010)
def fl_bin (o : Int) (x y : Int32) : Option Int32 := match o with
  | 0 => some (x + y)
  | 1 => some (x - y)
  | 2 => some (x * y)
  | 3 => if y = 0 then none else some (x / y)
  | 4 => if y = 0 then none else some (x - x / y * y)
  | 5 => some (x <<< (y &&& 31))
  | 6 => some (x >>> (y &&& 31))
  | 7 => some ((x.toUInt32 >>> (y.toUInt32 &&& Int32.toUInt32 31)).toInt32)
  | 8 => some (x &&& y)
  | 9 => some (x ||| y)
  | 10 => some (x ^^^ y)
  | _ => none
def fl_cmp (o : Int) (x y : Int32) : Option Bool := match o with
  | 0 => some (decide (x = y))
  | 1 => some (decide (x ≠ y))
  | 2 => some (decide (x < y))
  | 3 => some (decide (y ≤ x))
  | 4 => some (decide (y < x))
  | 5 => some (decide (x ≤ y))
  | _ => none
def fl_in (i : Int32) (n : Nat) : Bool := decide (¬ i < 0) && decide (i.toNatClampNeg < n)
def fl_bit (x : Int32) : Bool := decide (x = 0) || decide (x = 1)
/-- what a step comes to: a next state; a call (method, arguments, the stack behind it, the place behind it); an end -/
abbrev Out : Type := Cfg ⊕ ((Nat × List Value × List Value × Nat) ⊕ Option Value)
def fl_nolong (ls : List (Option Value)) : Nat → Bool
  | 0 => true
  | j + 1 => match ls[j]? with
    | some (some v) => v.category == 1
    | _ => true
def fl_store (ls : List (Option Value)) (i : Nat) (v : Value) : Option (List (Option Value)) :=
  if fl_nolong ls i then
    match v with
    | .long x => if i + 1 < ls.length then some ((ls.set i (some (.long x))).set (i + 1) none) else none
    | .int x => if i < ls.length then some (ls.set i (some (.int x))) else none
    | .ref x => if i < ls.length then some (ls.set i (some (.ref x))) else none
    | .null => if i < ls.length then some (ls.set i (some .null)) else none
    | _ => none
  else none
/-- sorts of values: 0 int, 1 long, 2 reference or null -/
def fl_is (t : Int) : Value → Bool
  | .int _ => t == 0
  | .long _ => t == 1
  | .ref _ => t == 2
  | .null => t == 2
  | _ => false
/-- the locals at a method's start -/
def fl_args : List Value → List (Option Value)
  | [] => []
  | v :: vs => if v.category = 2 then some v :: none :: fl_args vs else some v :: fl_args vs
def fl_enter (nL : Nat) (vs : List Value) : List (Option Value) := fl_args vs ++ List.replicate (nL - (fl_args vs).length) none
def fl_cat (vs : List Value) : Nat := (vs.map fun v => v.category).sum
/-- a call: the arguments off the stack (last one first), room on the stack, a receiver of the class -/
def fl_call (virt : Bool) (inst : Nat) (m n nx : Nat) (ls : List (Option Value)) (st : List Value) (h : Hp) (nc : Nat) : Option Out :=
  if st.length < n + inst then none else
  let as := (st.take (n + inst)).reverse
  let rest := st.drop (n + inst)
  if fl_cat rest ≤ 8 then
    if virt then
      match as with
      | .ref b :: _ => if b < nc ∧ (fl_lay b).1 = ((sm_ms[m]?).map fun q => q.2.2.2.2).getD 98 then some (.inr (.inl (m, as, rest, nx))) else none
      | _ => none
    else
      if inst = 1 then (match as with
      | .ref _ :: _ => some (.inr (.inl (m, as, rest, nx)))
      | _ => none)
      else some (.inr (.inl (m, as, rest, nx)))
  else none
def fl_step (q : Smi) (c : Cfg) : Option Out := match q, c with
  | (op, a, nx), (pc, ls, st, h, n) => match op with
    | 1 => match a with
      | [v] => some (.inl (nx, ls, .int (Int32.ofInt v) :: st, h, n))
      | _ => none
    | 2 => match a with
      | [i, t] => match ls[i.toNat]? with
        | some (some v) => if fl_is t v then some (.inl (nx, ls, v :: st, h, n)) else none
        | _ => none
      | _ => none
    | 3 => match a, st with
      | [i, t], v :: st => if fl_is t v then (match fl_store ls i.toNat v with
        | some ls => some (.inl (nx, ls, st, h, n))
        | none => none) else none
      | _, _ => none
    | 4 => match a with
      | [i, d] => match ls[i.toNat]? with
        | some (some (.int x)) => match fl_store ls i.toNat (.int (x + Int32.ofInt d)) with
          | some ls => some (.inl (nx, ls, st, h, n))
          | none => none
        | _ => none
      | _ => none
    | 5 => match a, st with
      | [o], .int y :: .int x :: st => match fl_bin o x y with
        | some z => some (.inl (nx, ls, .int z :: st, h, n))
        | none => none
      | _, _ => none
    | 6 => match a, st with
      | [o, t], .int x :: st => match fl_cmp o x 0 with
        | some b => some (.inl (if b then t.toNat else nx, ls, st, h, n))
        | none => none
      | _, _ => none
    | 7 => match a, st with
      | [o, t], .int y :: .int x :: st => match fl_cmp o x y with
        | some b => some (.inl (if b then t.toNat else nx, ls, st, h, n))
        | none => none
      | _, _ => none
    | 8 => match a with
      | [t] => some (.inl (t.toNat, ls, st, h, n))
      | _ => none
    | 9 => match a, st with
      | [ci, k], .ref r :: st => if r < n ∧ fl_lay r = (ci.toNat, (fl_N[ci.toNat]?).getD 0) then
          (match fl_kind ci.toNat k.toNat with
          | 0 => some (.inl (nx, ls, .int (h.1 r k.toNat) :: st, h, n))
          | 1 => some (.inl (nx, ls, .int (h.1 r k.toNat) :: st, h, n))
          | 2 => some (.inl (nx, ls, fl_rv (h.2 r k.toNat) :: st, h, n))
          | _ => none) else none
      | _, _ => none
    | 10 => match a, st with
      | [ci, k], v :: .ref r :: st => if r < n ∧ fl_lay r = (ci.toNat, (fl_N[ci.toNat]?).getD 0) then
          (match fl_kind ci.toNat k.toNat, v with
          | 0, .int x => some (.inl (nx, ls, st, fl_setI h r k.toNat x, n))
          | 1, .int x => if fl_bit x then some (.inl (nx, ls, st, fl_setI h r k.toNat x, n)) else none
          | 2, .ref b => some (.inl (nx, ls, st, fl_setR h r k.toNat (some b), n))
          | 2, .null => some (.inl (nx, ls, st, fl_setR h r k.toNat none, n))
          | _, _ => none) else none
      | _, _ => none
    | 11 => match st with
      | .int i :: .ref r :: st => if fl_isI n r && fl_in i (fl_len h r) then some (.inl (nx, ls, .int (h.1 r i.toNatClampNeg) :: st, h, n)) else none
      | _ => none
    | 12 => match st with
      | .int x :: .int i :: .ref r :: st => if r < n ∧ (fl_lay r).1 = 20 ∧ fl_in i (fl_lay r).2 = true then some (.inl (nx, ls, st, fl_setI h r i.toNatClampNeg x, n)) else none
      | _ => none
    | 13 => match st with
      | .int i :: .ref r :: st => if r < n ∧ (fl_lay r).1 = 21 ∧ fl_in i (fl_lay r).2 = true then some (.inl (nx, ls, .int (h.1 r i.toNatClampNeg) :: st, h, n)) else none
      | _ => none
    | 14 => match st with
      | .int x :: .int i :: .ref r :: st => if r < n ∧ (fl_lay r).1 = 21 ∧ fl_in i (fl_lay r).2 = true ∧ fl_bit x = true ∧ n = fl_tot then some (.inl (nx, ls, st, fl_setI h r i.toNatClampNeg x, n)) else none
      | _ => none
    | 15 => match st with
      | .int i :: .ref r :: st => if r < n ∧ 30 ≤ (fl_lay r).1 ∧ (fl_lay r).1 < 41 ∧ fl_in i (fl_lay r).2 = true then some (.inl (nx, ls, fl_rv (h.2 r i.toNatClampNeg) :: st, h, n)) else none
      | _ => none
    | 16 => match st with
      | .ref b :: .int i :: .ref r :: st => if r < n ∧ 30 ≤ (fl_lay r).1 ∧ (fl_lay r).1 < 41 ∧ fl_in i (fl_lay r).2 = true ∧ b < n ∧ (fl_lay b).1 + 30 = (fl_lay r).1 then some (.inl (nx, ls, st, fl_setR h r i.toNatClampNeg (some b), n)) else none
      | _ => none
    | 17 => match st with
      | .ref r :: st => if r < n ∧ 20 ≤ (fl_lay r).1 ∧ (fl_lay r).1 < 41 ∨ 1000 ≤ r ∧ r ≤ 1010 then some (.inl (nx, ls, .int (Int32.ofNat (fl_len h r)) :: st, h, n)) else none
      | _ => none
    | 18 => match a with
      | [m, k] => fl_call true 1 m.toNat k.toNat nx ls st h n
      | _ => none
    | 19 => match a with
      | [m, k] => fl_call false 0 m.toNat k.toNat nx ls st h n
      | _ => none
    | 20 => match a with
      | [m, k] => fl_call false 1 m.toNat k.toNat nx ls st h n
      | _ => none
    | 21 => match st with
      | [] => some (.inr (.inr none))
      | _ => none
    | 22 => match a, st with
      | [r], [.int x] => if r = 0 ∨ fl_bit x = true then some (.inr (.inr (some (.int x)))) else none
      | _, _ => none
    | 23 => match st with
      | [.long x] => some (.inr (.inr (some (.long x))))
      | _ => none
    | 24 => match st with
      | [.ref b] => some (.inr (.inr (some (.ref b))))
      | [.null] => some (.inr (.inr (some .null)))
      | _ => none
    | 25 => match st with
      | v :: st => if v.category = 1 then some (.inl (nx, ls, v :: v :: st, h, n)) else none
      | _ => none
    | 26 => match st with
      | .long x :: st => some (.inl (nx, ls, .long x :: .long x :: st, h, n))
      | v :: w :: st => if v.category = 1 ∧ w.category = 1 then some (.inl (nx, ls, v :: w :: v :: w :: st, h, n)) else none
      | _ => none
    | 27 => match st with
      | v :: st => if v.category = 1 then some (.inl (nx, ls, st, h, n)) else none
      | _ => none
    | 28 => match st with
      | .long _ :: st => some (.inl (nx, ls, st, h, n))
      | v :: w :: st => if v.category = 1 ∧ w.category = 1 then some (.inl (nx, ls, st, h, n)) else none
      | _ => none
    | 29 => match a with
      | [ci] => if n < fl_tot ∧ fl_lay n = (ci.toNat, (fl_N[ci.toNat]?).getD 0) then some (.inl (nx, ls, .ref n :: st, fl_zero h n, n + 1)) else none
      | _ => none
    | 30 => match a, st with
      | [k], .int x :: st => if n < fl_tot ∧ ¬ x < 0 ∧ fl_lay n = (k.toNat, x.toNatClampNeg) then some (.inl (nx, ls, .ref n :: st, fl_zero h n, n + 1)) else none
      | _, _ => none
    | 31 => match a, st with
      | [ci], .int x :: st => if n < fl_tot ∧ ¬ x < 0 ∧ fl_lay n = (30 + ci.toNat, x.toNatClampNeg) then some (.inl (nx, ls, .ref n :: st, fl_zero h n, n + 1)) else none
      | _, _ => none
    | 32 => match a with
      | [j] => some (.inl (nx, ls, .ref (1000 + j.toNat) :: st, h, n))
      | _ => none
    | 33 => match a, st with
      | [t], .null :: st => some (.inl (t.toNat, ls, st, h, n))
      | [_], .ref _ :: st => some (.inl (nx, ls, st, h, n))
      | _, _ => none
    | 34 => match a, st with
      | [_], .null :: st => some (.inl (nx, ls, st, h, n))
      | [t], .ref _ :: st => some (.inl (t.toNat, ls, st, h, n))
      | _, _ => none
    | 35 => some (.inl (nx, ls, .null :: st, h, n))
    | 36 => match st with
      | .int x :: st => some (.inl (nx, ls, .long x.toInt64 :: st, h, n))
      | _ => none
    | 37 => match st with
      | .long y :: .long x :: st => some (.inl (nx, ls, .long (x + y) :: st, h, n))
      | _ => none
    | 38 => match st with
      | .long y :: .long x :: st => some (.inl (nx, ls, .long (x * y) :: st, h, n))
      | _ => none
    | 39 => match a with
      | [v] => some (.inl (nx, ls, .long (Int64.ofInt v) :: st, h, n))
      | _ => none
    | 40 => match a, st with
      | lo :: df :: ts, .int x :: st =>
        if x.toInt < lo then some (.inl (df.toNat, ls, st, h, n)) else
        match ts[(x.toInt - lo).toNat]? with
        | some t => some (.inl (t.toNat, ls, st, h, n))
        | none => some (.inl (df.toNat, ls, st, h, n))
      | _, _ => none
    | 41 => match st with
      | .int k :: .int dp :: .ref b :: .int sp :: .ref r :: st =>
        if n = fl_tot ∧ r < n ∧ b < n ∧ (fl_lay r).1 = 20 ∧ (fl_lay b).1 = 20 ∧ ¬ sp < 0 ∧ ¬ dp < 0 ∧ ¬ k < 0 ∧ sp.toNatClampNeg + k.toNatClampNeg ≤ (fl_lay r).2 ∧ dp.toNatClampNeg + k.toNatClampNeg ≤ (fl_lay b).2 ∧ fl_cat st ≤ 8 then
          some (.inl (nx, ls, st, fl_copy h r sp.toNatClampNeg b dp.toNatClampNeg k.toNatClampNeg, n)) else none
      | _ => none
    | 42 => match st with
      | .ref _ :: st => if fl_cat st ≤ 8 then some (.inl (nx, ls, st, h, n)) else none
      | _ => none
    | _ => none
def fl_code (m pc : Nat) : Option Smi := match sm_cs[m]? with
  | some l => l.lookup pc
  | none => none
/-- the machine: at most f steps in all, at most d calls within one another -/
def fl_run : Nat → Nat → Nat → Cfg → Option (Option Value × Hp × Nat)
  | 0, _, _, _ => none
  | f + 1, d, m, c => match fl_code m c.1 with
    | none => none
    | some q => match fl_step q c with
      | none => none
      | some (.inl c') => fl_run f d m c'
      | some (.inr (.inr v)) => some (v, c.2.2.2.1, c.2.2.2.2)
      | some (.inr (.inl (m2, as, rest, nx))) => match d with
        | 0 => none
        | d' + 1 => match sm_ms[m2]? with
          | none => none
          | some y => if (fl_args as).length ≤ y.2.2.1 then (match fl_run f d' m2 (0, fl_enter y.2.2.1 as, [], c.2.2.2.1, c.2.2.2.2) with
            | none => none
            | some (v, h, n) => fl_run f d m (nx, c.2.1, v.toList ++ rest, h, n)) else none
end
section
/-! THE WORDS: each link of the flat code stands among the tables' words, and is a word that stays -/
def sm_arrName : MethodName := ⟨"java/lang/System", "arraycopy", "(Ljava/lang/Object;ILjava/lang/Object;II)V"⟩
def sw_is (p : Nat) (w : Cond) : Bool := decide (lw_tbl[p]? = some w)
def sw_good (p : Nat) (w : Cond) : Bool := sw_is p w && goodWord w
theorem sw_in {p : Nat} {w : Cond} (h : sw_is p w = true) : w ∈ lw_tbl := List.mem_of_getElem? (of_decide_eq_true h)
theorem sw_tbl {p : Nat} {w : Cond} (h : sw_good p w = true) : w ∈ sm_tbl := by
  rw [sw_good, Bool.and_eq_true] at h
  exact List.mem_filter.mpr ⟨sw_in h.1, h.2⟩
theorem sw_goodIn : GoodIn sm_tbl sm_tbl := fun w h => ⟨h, good_of_word (List.mem_filter.mp h).2⟩
/-- the words that aren't of that kind: links to private members of a nest mate -/
def sw_nest : List Cond := lw_tbl.filter fun w => match w with
  | .fieldLinkNest _ _ _ _ _ _ => true
  | .methodLinkNest _ _ _ _ => true
  | _ => false
theorem sw_nestF {p : Nat} {a : String} {i : Nat} {b n d h : String} (q : sw_is p (.fieldLinkNest a i b n d h) = true) : Cond.fieldLinkNest a i b n d h ∈ sw_nest := List.mem_filter.mpr ⟨sw_in q, rfl⟩
theorem sw_nestM {p : Nat} {a : String} {i : Nat} {b : MethodName} {h : String} (q : sw_is p (.methodLinkNest a i b h) = true) : Cond.methodLinkNest a i b h ∈ sw_nest := List.mem_filter.mpr ⟨sw_in q, rfl⟩
/-- methods: instance (1), static (2) by place -/
def sw_m (e : sm_M × Nat × Nat × Nat × Nat × Nat) : Bool := match e with
  | ((y, _, _, _, o), _, q2, q3, q4, q5) => decide (sm_own[o]? = some y.cls) && sw_good q5 (.initialized y.cls) &&
    (if q3 = 99999 then sw_good q2 (.instanceMethod y) && (decide (q4 = 99999) || sw_good q4 (.selects y.cls y y)) else sw_good q3 (.static y)) &&
    decide (y.cls ≠ "java/lang/invoke/MethodHandle" ∧ y.cls ≠ "java/lang/invoke/VarHandle") && plainName y.cls
theorem sw_mall : (sm_ms.zip sm_pos).all sw_m = true := by decide +kernel
set_option maxRecDepth 1000000 in
theorem sw_ccode : (sm_ms.zip sm_pos).map (fun e => Cond.code e.1.1 e.1.2.1 e.1.2.2.1 e.1.2.2.2.1) = (sm_ms.zip sm_pos).filterMap (fun e => lw_tbl[e.2.1]?) := by rfl
/-- fields -/
def sw_all {α : Type} (l : List (List (Nat × α))) (f : String → Nat → α → Bool) : Bool := (sm_own.zip l).all (fun q => q.2.all (fun e => f q.1 e.1 e.2))
def sw_f (o : String) (i : Nat) (e : Nat × Nat × Nat) : Bool := match vwCl[e.1]? with
  | some (_, T, N) => decide (e.2.1 < N) && sw_good e.2.2 (.fieldLink o i (T e.2.1).1 (T e.2.1).2.1 (T e.2.1).2.2.1)
  | _ => false
theorem sw_fall : sw_all sm_rf sw_f = true := by decide +kernel
def sw_r (o : String) (i : Nat) (e : Nat × Nat × Nat) : Bool := if e.1 = 9999 then sw_good e.2.1 (.methodLink o i objectInit) else if e.1 = 9998 then sw_good e.2.1 (.methodLink o i sm_arrName) else
    (match sm_ms[e.1]? with
    | some y => decide (e.1 < 214) && (if e.2.2 = 0 then sw_good e.2.1 (.methodLink o i y.1) else sw_is e.2.1 (.methodLinkNest o i y.1 "CardIndex"))
    | none => false)
theorem sw_rall : sw_all sm_rm sw_r = true := by decide +kernel
def sw_c (o : String) (i : Nat) (e : Nat × Nat) : Bool := match vwCl[e.1]? with
  | some (C, _, _) => sw_good e.2 (.classLink o i C)
  | _ => false
theorem sw_call : sw_all sm_rc sw_c = true := by decide +kernel
def sw_k (o : String) (i : Nat) (e : Int × Nat) : Bool := sw_good e.2 (.constant o i (Int32.ofInt e.1))
theorem sw_kall : sw_all sm_rk sw_k = true := by decide +kernel
def sw_l (o : String) (i : Nat) (e : Int × Nat) : Bool := sw_good e.2 (.constantLong o i (Int64.ofInt e.1))
theorem sw_lall : sw_all sm_rl sw_l = true := by decide +kernel
def sw_s (o : String) (i : Nat) (e : Nat × Nat × Nat) : Bool := match sm_sn[e.1]? with
  | some n => if e.2.2 = 0 then sw_good e.2.1 (.fieldLink o i "CardIndex" n "[I") else sw_is e.2.1 (.fieldLinkNest o i "CardIndex" n "[I" "CardIndex")
  | _ => false
theorem sw_sall : sw_all sm_rs sw_s = true := by decide +kernel
theorem sw_of {α : Type} {l : List (List (Nat × α))} {f : String → Nat → α → Bool} (h : sw_all l f = true) {own k : Nat} {o : String} {v : α} (ho : sm_own[own]? = some o) (hv : sm_at l own k = some v) : f o k v = true := by
  unfold sm_at at hv
  cases hl : l[own]? with
  | none => rw [hl] at hv; cases hv
  | some t =>
    rw [hl] at hv
    have h1 : (o, t) ∈ sm_own.zip l := List.mem_of_getElem? (i := own) (by rw [List.getElem?_zip_eq_some]; exact ⟨ho, hl⟩)
    have h2 := List.all_eq_true.mp h _ h1
    simp only at hv
    have hm : (k, v) ∈ t := by
      clear h1 h2 hl
      induction t with
      | nil => cases hv
      | cons a t ih =>
        obtain ⟨a1, a2⟩ := a
        rw [List.lookup_cons] at hv
        by_cases e : k = a1
        · subst e
          rw [beq_self_eq_true] at hv
          cases hv
          exact List.mem_cons_self
        · rw [beq_false_of_ne e] at hv
          exact List.mem_cons_of_mem _ (ih hv)
    exact List.all_eq_true.mp h2 _ hm
/-- classes: their layout's words, their objects can be made -/
def sw_cl (e : vw_C) : Bool := (u_ws e.1 e.2.1 e.2.2).all (fun w => decide (w ∈ lw_tbl) && goodWord w) && decide (Cond.instantiable e.1 e.2.2 ∈ lw_tbl) && decide (Cond.initialized e.1 ∈ lw_tbl)
theorem sw_clall : vwCl.all sw_cl = true := by decide +kernel
theorem sw_arr : Cond.arrayClass .int ∈ sm_tbl ∧ Cond.arrayClass .boolean ∈ sm_tbl := ⟨sw_tbl (p := 142) (by decide +kernel), sw_tbl (p := 1359) (by decide +kernel)⟩
theorem sw_obj : Cond.instanceMethod objectInit ∈ sm_tbl ∧ Cond.code objectInit ⟨#[0xb1]⟩ 1 none ∈ sm_tbl := ⟨sw_tbl (p := 96) (by decide +kernel), sw_tbl (p := 97) (by decide +kernel)⟩
theorem sw_cpy : Cond.native sm_arrName ∈ sm_tbl ∧ Cond.static sm_arrName ∈ sm_tbl ∧ Cond.initialized "java/lang/System" ∈ sm_tbl := ⟨sw_tbl (p := 631) (by decide +kernel), sw_tbl (p := 630) (by decide +kernel), sw_tbl (p := 88) (by decide +kernel)⟩
end
section
/-! THE WORLD: the flat heap as the machine's cells, from the address E.1 on; static arrays at E.2.1 -/
abbrev wd_E : Type := Nat × (Nat → Nat) × va_G
def wd_ad (E : wd_E) (k : Nat) : Nat := if k < 1000 then E.1 + k else E.2.1 (k - 1000)
def wd_v (E : wd_E) : Value → Value
  | .ref k => .ref (wd_ad E k)
  | v => v
def wd_aty (k : Nat) : Option FieldType := if k = 20 then some .int else if k = 21 then some .boolean else if 30 ≤ k ∧ k < 41 then (vwCl[k - 30]?).map (fun q => .object q.1) else none
def wd_f (h : Hp) (ci r j : Nat) : Value := if fl_kind ci j = 2 then fl_rv (h.2 r j) else .int (h.1 r j)
def wd_c (E : wd_E) (cA : Nat → ClassId) (h : Hp) (k : Nat) : va_E :=
  if (fl_lay k).1 < 20 then .inr ((fl_lay k).1, (List.range (fl_lay k).2).map (fun j => wd_v E (wd_f h (fl_lay k).1 k j)))
  else if (fl_lay k).1 < 30 then .inl (cA k, (fl_lay k).2, .inl (h.1 k))
  else .inl (cA k, (fl_lay k).2, .inr (.inr (.inr (.inr (fun j => (h.2 k j).map (wd_ad E))))))
def wd_ws (E : wd_E) (cA : Nat → ClassId) (h : Hp) (n : Nat) : va_W := (List.range n).map (fun k => (E.1 + k, wd_c E cA h k))
def wd_tys (cA : Nat → ClassId) (n : Nat) : List (ClassId × FieldType) := (List.range n).filterMap (fun k => (wd_aty (fl_lay k).1).map (fun t => (cA k, t)))
/-- slots of the first n cells -/
def wd_sz : Nat → Nat
  | 0 => 0
  | n + 1 => wd_sz n + (fl_lay n).2
theorem wd_at {E : wd_E} {cA : Nat → ClassId} {h : Hp} {n k : Nat} (hk : k < n) : (wd_ws E cA h n)[k]? = some (E.1 + k, wd_c E cA h k) := by
  simp [wd_ws, hk]
theorem wd_at' {E : wd_E} {cA : Nat → ClassId} {h : Hp} {n k : Nat} {q : Nat × va_E} (hk : (wd_ws E cA h n)[k]? = some q) : k < n ∧ q = (E.1 + k, wd_c E cA h k) := by
  have hl : k < n := by
    have := (List.getElem?_eq_some_iff.mp hk).1
    simpa [wd_ws] using this
  exact ⟨hl, by rw [wd_at hl] at hk; exact (Option.some.inj hk).symm⟩
theorem wd_ty {cA : Nat → ClassId} {n k : Nat} {t : FieldType} (hk : k < n) (ht : wd_aty (fl_lay k).1 = some t) : ∃ t0 : Nat, (wd_tys cA n)[t0]? = some (cA k, t) :=
  List.getElem?_of_mem (List.mem_filterMap.mpr ⟨k, List.mem_range.mpr hk, by rw [ht]; rfl⟩)
theorem wd_D (E : wd_E) (cA : Nat → ClassId) (h : Hp) (n : Nat) : va_D (fun q => E.1 ≤ q) (wd_ws E cA h n) := by
  refine ⟨fun i j p q hi hj e => ?_, fun k q hk => ?_⟩
  · have h1 := (wd_at' hi).2
    have h2 := (wd_at' hj).2
    subst h1; subst h2
    simpa using e
  · have h1 := (wd_at' hk).2
    subst h1
    exact Nat.le_add_right _ _
theorem wd_c_congr {E : wd_E} {cA cA' : Nat → ClassId} {h h' : Hp} {k : Nat} (e1 : h'.1 k = h.1 k) (e2 : h'.2 k = h.2 k) (e3 : cA' k = cA k) : wd_c E cA' h' k = wd_c E cA h k := by
  unfold wd_c wd_f
  rw [e1, e2, e3]
theorem wd_set {E : wd_E} {cA : Nat → ClassId} {h h' : Hp} {n k : Nat} {e : va_E} (hk : k < n) (h1 : ∀ j, j ≠ k → h'.1 j = h.1 j ∧ h'.2 j = h.2 j) (h2 : wd_c E cA h' k = e) : (wd_ws E cA h n).set k (E.1 + k, e) = wd_ws E cA h' n := by
  apply List.ext_getElem?
  intro j
  have hlen : (wd_ws E cA h n).length = n := by simp [wd_ws]
  by_cases hj : j = k
  · subst hj
    rw [List.getElem?_set_self (by rw [hlen]; exact hk), wd_at hk, h2]
  · rw [List.getElem?_set_ne (Ne.symm hj)]
    by_cases hn : j < n
    · rw [wd_at hn, wd_at hn, wd_c_congr (h1 j hj).1 (h1 j hj).2 rfl]
    · rw [List.getElem?_eq_none (by rw [hlen]; omega), List.getElem?_eq_none (by simp [wd_ws]; omega)]
theorem wd_push {E : wd_E} {cA cA' : Nat → ClassId} {h : Hp} {n : Nat} {e : va_E} (h1 : ∀ j, j ≠ n → cA' j = cA j) (h2 : wd_c E cA' (fl_zero h n) n = e) : wd_ws E cA h n ++ [(E.1 + n, e)] = wd_ws E cA' (fl_zero h n) (n + 1) := by
  unfold wd_ws
  rw [List.range_succ, List.map_append]
  congr 1
  · apply List.map_congr_left
    intro k hk
    have hkn : k ≠ n := Nat.ne_of_lt (List.mem_range.mp hk)
    rw [wd_c_congr (h := h) (h' := fl_zero h n) (cA := cA) (cA' := cA') (by funext b; simp [fl_zero, hkn]) (by funext b; simp [fl_zero, hkn]) (h1 k hkn)]
  · simp [h2]
theorem fm_congr {α β : Type} {f g : α → Option β} {l : List α} (h : ∀ a ∈ l, f a = g a) : l.filterMap f = l.filterMap g := by
  induction l with
  | nil => rfl
  | cons a t ih =>
    rw [List.filterMap_cons, List.filterMap_cons, h a List.mem_cons_self, ih (fun b hb => h b (List.mem_cons_of_mem _ hb))]
theorem wd_tys_eq {cA cA' : Nat → ClassId} {n : Nat} (h1 : ∀ j, j ≠ n → cA' j = cA j) : wd_tys cA' n = wd_tys cA n := by
  unfold wd_tys
  apply fm_congr
  intro k hk
  rw [h1 k (Nat.ne_of_lt (List.mem_range.mp hk))]
theorem wd_tys_succ {cA cA' : Nat → ClassId} {n : Nat} (h1 : ∀ j, j ≠ n → cA' j = cA j) : wd_tys cA' (n + 1) = wd_tys cA n ++ ((wd_aty (fl_lay n).1).map (fun t => (cA' n, t))).toList := by
  rw [← wd_tys_eq h1]
  unfold wd_tys
  rw [List.range_succ, List.filterMap_append]
  congr 1
/-- what the launch gives, and no call changes: the static arrays and the script, the statics that hold them, the words of private members, of arrays of objects -/
def wd_len (g : Nat → Nat → Int32) (j : Nat) : Nat := if j = 10 then (g 11 0).toNatClampNeg else ((fl_st[j]?).getD []).length
def wd_T (E : wd_E) (g : Nat → Nat → Int32) (U : State) (H : Heap) : Prop :=
  (∀ j, j ≤ 10 → va_T .int (E.2.1 j) (wd_len g j) (fun i => .int (g j i)) (fun q => E.1 ≤ q) U H) ∧
  (∀ (j : Nat) (n : String), sm_sn[j]? = some n → va_Z "CardIndex" n "[I" (.ref (E.2.1 j)) (fun q => E.1 ≤ q) U H) ∧
  (∀ w ∈ sw_nest, va_Nw w U) ∧ (∀ q ∈ vwCl, q.1 = RX0 ∨ q.1 = RX3 ∨ q.1 = RX7 ∨ q.1 = RX8 → va_AO q.1 U)
theorem wd_T.warm {E : wd_E} {g : Nat → Nat → Int32} {s U : State} {H : Heap} (hW : s.WarmedH U.vm) (h : wd_T E g s H) : wd_T E g U H := by
  refine ⟨fun j hj => (h.1 j hj).moved hW.alike, fun j n hn => (h.2.1 j n hn).moved hW.alike, fun w hw => ?_, fun q hq z => (h.2.2.2 q hq z).moved hW.alike⟩
  have h1 := h.2.2.1 w hw
  have h2 := (List.mem_filter.mp hw).2
  cases w <;> first | exact va_Nw.warmF hW h1 | exact va_Nw.warmM hW h1 | (exact absurd h2 (by simp))
theorem wd_T.same {E : wd_E} {g : Nat → Nat → Int32} {s U : State} {H : Heap} (hW : s.vm = U.vm) (h : wd_T E g s H) : wd_T E g U H := by
  have hA : s.vm.Alike U.vm := by rw [hW]; exact Vm.Alike.refl _
  refine ⟨fun j hj => (h.1 j hj).moved hA, fun j n hn => (h.2.1 j n hn).moved hA, fun w hw => ?_, fun q hq z => (h.2.2.2 q hq z).moved hA⟩
  have h1 := h.2.2.1 w hw
  have h2 := (List.mem_filter.mp hw).2
  cases w <;> first | exact va_Nw.same rfl hW h1 | (exact absurd h2 (by simp))
theorem wd_T.kept {E : wd_E} {g : Nat → Nat → Int32} {U : State} {H H1 : Heap} (h : wd_T E g U H) (hq : ∀ a : Nat, a < H.size → ¬ E.1 ≤ a → H1[a]? = H[a]?) : wd_T E g U H1 :=
  ⟨fun j hj => (h.1 j hj).kept hq, fun j n hn => (h.2.1 j n hn).kept hq, h.2.2.1, h.2.2.2⟩
/-- the world, n cells of it made -/
def Wd (E : wd_E) (g : Nat → Nat → Int32) (cA : Nat → ClassId) (n : Nat) (h : Hp) (U : State) (H : Heap) : Prop :=
  n ≤ fl_tot ∧ va_P E.2.2 vwCl (wd_ws E cA h n) H ∧ va_K E.2.2 vwCl (wd_tys cA n) U ∧ (n < fl_tot → H.size = E.1 + n) ∧ ∀ j i, h.1 (1000 + j) i = g j i
theorem Wd.moved {E : wd_E} {g : Nat → Nat → Int32} {cA : Nat → ClassId} {n : Nat} {h : Hp} {s U : State} {H : Heap} (hA : s.vm.Alike U.vm) (w : Wd E g cA n h s H) : Wd E g cA n h U H := ⟨w.1, w.2.1, va_K.moved hA w.2.2.1, w.2.2.2⟩
theorem wd_len_eq {g : Nat → Nat → Int32} {h : Hp} (hg : ∀ j i, h.1 (1000 + j) i = g j i) {k : Nat} (hk : 1000 ≤ k) : fl_len h k = wd_len g (k - 1000) := by
  unfold fl_len wd_len
  have e : h.1 1011 0 = g 11 0 := hg 11 0
  by_cases h1 : k = 1010
  · subst h1
    simp [e]
  · rw [if_neg (by omega), if_neg h1, if_neg (by omega)]
/-- a method's locals: the flat ones, told of the machine's -/
def Lv (E : wd_E) (lsA : Array Slot) (nL : Nat) (ls : List (Option Value)) : Prop := lsA.size = nL ∧ lv_wf lsA ∧ ls.length = nL ∧ ∀ (i : Nat) (v : Value), ls[i]? = some (some v) → lsA[i]? = some (.val (wd_v E v))
def lv_al (E : wd_E) (ls : List (Option Value)) : List (Nat × Value) := (List.range ls.length).filterMap (fun i => ((ls[i]?).getD none).map (fun v => (i, wd_v E v)))
theorem lv_al_mem {E : wd_E} {ls : List (Option Value)} {q : Nat × Value} : q ∈ lv_al E ls ↔ ∃ v, ls[q.1]? = some (some v) ∧ q.2 = wd_v E v := by
  unfold lv_al
  rw [List.mem_filterMap]
  constructor
  · rintro ⟨i, -, hi⟩
    cases hv : (ls[i]?).getD none with
    | none => rw [hv] at hi; cases hi
    | some v =>
      rw [hv] at hi
      cases hi
      refine ⟨v, ?_, rfl⟩
      cases hl : ls[i]? with
      | none => rw [hl] at hv; cases hv
      | some o => rw [hl] at hv; exact congrArg some hv
  · rintro ⟨v, h1, h2⟩
    refine ⟨q.1, List.mem_range.mpr (List.getElem?_eq_some_iff.mp h1).1, ?_⟩
    rw [h1]
    simp [← h2]
theorem Lv.has {E : wd_E} {lsA : Array Slot} {nL : Nat} {ls : List (Option Value)} (h : Lv E lsA nL ls) : lv_has lsA nL (lv_al E ls) := by
  refine ⟨h.1, h.2.1, fun q hq => ?_⟩
  obtain ⟨v, h1, h2⟩ := lv_al_mem.mp hq
  rw [h2]
  exact h.2.2.2 _ _ h1
theorem wd_v_cat (E : wd_E) (v : Value) : (wd_v E v).category = v.category := by cases v <;> rfl
theorem wd_cat (E : wd_E) (vs : List Value) : ((vs.map (wd_v E)).map fun v => v.category).sum = fl_cat vs := by
  unfold fl_cat
  rw [List.map_map]
  congr 1
  apply List.map_congr_left
  intro v _
  exact wd_v_cat E v
end
section
/-! what a step of the flat machine says, instruction by instruction -/
section INV
variable {a : List Int} {nx pc n : Nat} {ls : List (Option Value)} {st : List Value} {h : Hp} {r : Out}
theorem iv1 {v : Int} (q : fl_step (1, [v], nx) (pc, ls, st, h, n) = some r) : r = .inl (nx, ls, .int (Int32.ofInt v) :: st, h, n) := (Option.some.inj q).symm
theorem iv2 {i t : Int} (q : fl_step (2, [i, t], nx) (pc, ls, st, h, n) = some r) : ∃ v, ls[i.toNat]? = some (some v) ∧ fl_is t v = true ∧ r = .inl (nx, ls, v :: st, h, n) := by
  simp only [fl_step] at q
  split at q
  · rename_i v e
    split at q
    · rename_i e2
      exact ⟨v, e, e2, (Option.some.inj q).symm⟩
    · cases q
  · cases q
theorem iv3 {i t : Int} (q : fl_step (3, [i, t], nx) (pc, ls, st, h, n) = some r) : ∃ v st' ls', st = v :: st' ∧ fl_is t v = true ∧ fl_store ls i.toNat v = some ls' ∧ r = .inl (nx, ls', st', h, n) := by
  simp only [fl_step] at q
  split at q
  · rename_i i' t' v st' e1
    cases e1
    split at q
    · rename_i e2
      split at q
      · rename_i ls' e
        exact ⟨v, st', ls', rfl, e2, e, (Option.some.inj q).symm⟩
      · cases q
    · cases q
  · cases q
theorem is_int {v : Value} (h : fl_is 0 v = true) : ∃ x, v = .int x := by cases v <;> first | exact ⟨_, rfl⟩ | (exact absurd h (by decide)) | (exact absurd h (by simp [fl_is]))
theorem is_long {v : Value} (h : fl_is 1 v = true) : ∃ x, v = .long x := by cases v <;> first | exact ⟨_, rfl⟩ | (exact absurd h (by decide)) | (exact absurd h (by simp [fl_is]))
theorem is_ref {v : Value} (h : fl_is 2 v = true) : ∃ o, v = fl_rv o := by cases v <;> first | exact ⟨none, rfl⟩ | exact ⟨some _, rfl⟩ | (exact absurd h (by decide)) | (exact absurd h (by simp [fl_is]))
theorem iv4 {i d : Int} (q : fl_step (4, [i, d], nx) (pc, ls, st, h, n) = some r) : ∃ x ls', ls[i.toNat]? = some (some (.int x)) ∧ fl_store ls i.toNat (.int (x + Int32.ofInt d)) = some ls' ∧ r = .inl (nx, ls', st, h, n) := by
  simp only [fl_step] at q
  split at q
  · rename_i x e
    split at q
    · rename_i ls' e'
      exact ⟨x, ls', e, e', (Option.some.inj q).symm⟩
    · cases q
  · cases q
theorem iv5 {o : Int} (q : fl_step (5, [o], nx) (pc, ls, st, h, n) = some r) : ∃ x y z st', st = .int y :: .int x :: st' ∧ fl_bin o x y = some z ∧ r = .inl (nx, ls, .int z :: st', h, n) := by
  simp only [fl_step] at q
  split at q
  · rename_i o' y x st' e1
    cases e1
    split at q
    · rename_i z e
      exact ⟨x, y, z, st', rfl, e, (Option.some.inj q).symm⟩
    · cases q
  · cases q
theorem iv6 {o t : Int} (q : fl_step (6, [o, t], nx) (pc, ls, st, h, n) = some r) : ∃ x b st', st = .int x :: st' ∧ fl_cmp o x 0 = some b ∧ r = .inl (if b then t.toNat else nx, ls, st', h, n) := by
  simp only [fl_step] at q
  split at q
  · rename_i o' t' x st' e1
    cases e1
    split at q
    · rename_i b e
      exact ⟨x, b, st', rfl, e, (Option.some.inj q).symm⟩
    · cases q
  · cases q
theorem iv7 {o t : Int} (q : fl_step (7, [o, t], nx) (pc, ls, st, h, n) = some r) : ∃ x y b st', st = .int y :: .int x :: st' ∧ fl_cmp o x y = some b ∧ r = .inl (if b then t.toNat else nx, ls, st', h, n) := by
  simp only [fl_step] at q
  split at q
  · rename_i o' t' y x st' e1
    cases e1
    split at q
    · rename_i b e
      exact ⟨x, y, b, st', rfl, e, (Option.some.inj q).symm⟩
    · cases q
  · cases q
theorem iv8 {t : Int} (q : fl_step (8, [t], nx) (pc, ls, st, h, n) = some r) : r = .inl (t.toNat, ls, st, h, n) := (Option.some.inj q).symm
theorem iv9 {ci k : Int} (q : fl_step (9, [ci, k], nx) (pc, ls, st, h, n) = some r) : ∃ a st', st = .ref a :: st' ∧ a < n ∧ fl_lay a = (ci.toNat, (fl_N[ci.toNat]?).getD 0) ∧ ((fl_kind ci.toNat k.toNat < 2 ∧ r = .inl (nx, ls, .int (h.1 a k.toNat) :: st', h, n)) ∨ (fl_kind ci.toNat k.toNat = 2 ∧ r = .inl (nx, ls, fl_rv (h.2 a k.toNat) :: st', h, n))) := by
  simp only [fl_step] at q
  split at q
  · rename_i ci' k' a st' e1
    cases e1
    split at q
    · rename_i e
      refine ⟨a, st', rfl, e.1, e.2, ?_⟩
      split at q
      · rename_i e3
        exact Or.inl ⟨by rw [e3]; decide, (Option.some.inj q).symm⟩
      · rename_i e3
        exact Or.inl ⟨by rw [e3]; decide, (Option.some.inj q).symm⟩
      · rename_i e3
        exact Or.inr ⟨e3, (Option.some.inj q).symm⟩
      · cases q
    · cases q
  · cases q
theorem iv10 {ci k : Int} (q : fl_step (10, [ci, k], nx) (pc, ls, st, h, n) = some r) : ∃ v a st', st = v :: .ref a :: st' ∧ a < n ∧ fl_lay a = (ci.toNat, (fl_N[ci.toNat]?).getD 0) ∧ ((fl_kind ci.toNat k.toNat < 2 ∧ ∃ x, v = .int x ∧ (fl_kind ci.toNat k.toNat = 1 → fl_bit x = true) ∧ r = .inl (nx, ls, st', fl_setI h a k.toNat x, n)) ∨ (fl_kind ci.toNat k.toNat = 2 ∧ ∃ o, v = fl_rv o ∧ r = .inl (nx, ls, st', fl_setR h a k.toNat o, n))) := by
  simp only [fl_step] at q
  split at q
  · rename_i ci' k' v a st' e1
    cases e1
    split at q
    · rename_i e
      refine ⟨v, a, st', rfl, e.1, e.2, ?_⟩
      split at q
      · rename_i x e3
        exact Or.inl ⟨by rw [e3]; decide, x, rfl, fun z => absurd (e3.symm.trans z) (by decide), (Option.some.inj q).symm⟩
      · rename_i x e3
        split at q
        · rename_i e4
          exact Or.inl ⟨by rw [e3]; decide, x, rfl, fun _ => e4, (Option.some.inj q).symm⟩
        · cases q
      · rename_i b e3
        exact Or.inr ⟨e3, some b, rfl, (Option.some.inj q).symm⟩
      · rename_i e3
        exact Or.inr ⟨e3, none, rfl, (Option.some.inj q).symm⟩
      · cases q
    · cases q
  · cases q
theorem iv11 (q : fl_step (11, a, nx) (pc, ls, st, h, n) = some r) : ∃ i b st', st = .int i :: .ref b :: st' ∧ fl_isI n b = true ∧ fl_in i (fl_len h b) = true ∧ r = .inl (nx, ls, .int (h.1 b i.toNatClampNeg) :: st', h, n) := by
  simp only [fl_step] at q
  split at q
  · rename_i i b st'
    split at q
    · rename_i e
      rw [Bool.and_eq_true] at e
      exact ⟨i, b, st', rfl, e.1, e.2, (Option.some.inj q).symm⟩
    · cases q
  · cases q
theorem iv12 (q : fl_step (12, a, nx) (pc, ls, st, h, n) = some r) : ∃ x i b st', st = .int x :: .int i :: .ref b :: st' ∧ b < n ∧ (fl_lay b).1 = 20 ∧ fl_in i (fl_lay b).2 = true ∧ r = .inl (nx, ls, st', fl_setI h b i.toNatClampNeg x, n) := by
  simp only [fl_step] at q
  split at q
  · rename_i x i b st'
    split at q
    · rename_i e
      exact ⟨x, i, b, st', rfl, e.1, e.2.1, e.2.2, (Option.some.inj q).symm⟩
    · cases q
  · cases q
theorem iv13 (q : fl_step (13, a, nx) (pc, ls, st, h, n) = some r) : ∃ i b st', st = .int i :: .ref b :: st' ∧ b < n ∧ (fl_lay b).1 = 21 ∧ fl_in i (fl_lay b).2 = true ∧ r = .inl (nx, ls, .int (h.1 b i.toNatClampNeg) :: st', h, n) := by
  simp only [fl_step] at q
  split at q
  · rename_i i b st'
    split at q
    · rename_i e
      exact ⟨i, b, st', rfl, e.1, e.2.1, e.2.2, (Option.some.inj q).symm⟩
    · cases q
  · cases q
theorem iv14 (q : fl_step (14, a, nx) (pc, ls, st, h, n) = some r) : ∃ x i b st', st = .int x :: .int i :: .ref b :: st' ∧ b < n ∧ (fl_lay b).1 = 21 ∧ fl_in i (fl_lay b).2 = true ∧ fl_bit x = true ∧ n = fl_tot ∧ r = .inl (nx, ls, st', fl_setI h b i.toNatClampNeg x, n) := by
  simp only [fl_step] at q
  split at q
  · rename_i x i b st'
    split at q
    · rename_i e
      exact ⟨x, i, b, st', rfl, e.1, e.2.1, e.2.2.1, e.2.2.2.1, e.2.2.2.2, (Option.some.inj q).symm⟩
    · cases q
  · cases q
theorem iv15 (q : fl_step (15, a, nx) (pc, ls, st, h, n) = some r) : ∃ i b st', st = .int i :: .ref b :: st' ∧ b < n ∧ 30 ≤ (fl_lay b).1 ∧ (fl_lay b).1 < 41 ∧ fl_in i (fl_lay b).2 = true ∧ r = .inl (nx, ls, fl_rv (h.2 b i.toNatClampNeg) :: st', h, n) := by
  simp only [fl_step] at q
  split at q
  · rename_i i b st'
    split at q
    · rename_i e
      exact ⟨i, b, st', rfl, e.1, e.2.1, e.2.2.1, e.2.2.2, (Option.some.inj q).symm⟩
    · cases q
  · cases q
theorem iv16 (q : fl_step (16, a, nx) (pc, ls, st, h, n) = some r) : ∃ x i b st', st = .ref x :: .int i :: .ref b :: st' ∧ b < n ∧ 30 ≤ (fl_lay b).1 ∧ (fl_lay b).1 < 41 ∧ fl_in i (fl_lay b).2 = true ∧ x < n ∧ (fl_lay x).1 + 30 = (fl_lay b).1 ∧ r = .inl (nx, ls, st', fl_setR h b i.toNatClampNeg (some x), n) := by
  simp only [fl_step] at q
  split at q
  · rename_i x i b st'
    split at q
    · rename_i e
      exact ⟨x, i, b, st', rfl, e.1, e.2.1, e.2.2.1, e.2.2.2.1, e.2.2.2.2.1, e.2.2.2.2.2, (Option.some.inj q).symm⟩
    · cases q
  · cases q
theorem iv17 (q : fl_step (17, a, nx) (pc, ls, st, h, n) = some r) : ∃ b st', st = .ref b :: st' ∧ (b < n ∧ 20 ≤ (fl_lay b).1 ∧ (fl_lay b).1 < 41 ∨ 1000 ≤ b ∧ b ≤ 1010) ∧ r = .inl (nx, ls, .int (Int32.ofNat (fl_len h b)) :: st', h, n) := by
  simp only [fl_step] at q
  split at q
  · rename_i b st'
    split at q
    · rename_i e
      exact ⟨b, st', rfl, e, (Option.some.inj q).symm⟩
    · cases q
  · cases q
theorem ivcall {virt : Bool} {inst k m : Nat} (q : fl_call virt inst m k nx ls st h n = some r) : k + inst ≤ st.length ∧ fl_cat (st.drop (k + inst)) ≤ 8 ∧ r = .inr (.inl (m, (st.take (k + inst)).reverse, st.drop (k + inst), nx)) ∧ (virt = true → ∃ b as, (st.take (k + inst)).reverse = .ref b :: as ∧ b < n ∧ (fl_lay b).1 = ((sm_ms[m]?).map fun q => q.2.2.2.2).getD 98) ∧ (virt = false → inst = 1 → ∃ b as, (st.take (k + inst)).reverse = .ref b :: as) := by
  unfold fl_call at q
  split at q
  · cases q
  · rename_i e0
    simp only at q
    split at q
    · rename_i e1
      split at q
      · rename_i e2
        split at q
        · rename_i b as e3
          split at q
          · rename_i e4
            refine ⟨by omega, e1, ?_, fun _ => ⟨b, as, e3, e4⟩, fun z => ?_⟩
            · rw [e3]
              rw [← e3]
              exact (Option.some.inj q).symm
            · rw [e2] at z; cases z
          · cases q
        · cases q
      · rename_i e2
        split at q
        · rename_i e3
          split at q
          · rename_i b as e4
            refine ⟨by omega, e1, ?_, fun z => absurd z e2, fun _ _ => ⟨b, as, e4⟩⟩
            exact (Option.some.inj q).symm
          · cases q
        · rename_i e3
          exact ⟨by omega, e1, (Option.some.inj q).symm, fun z => absurd z e2, fun _ z => absurd z e3⟩
    · cases q
theorem iv18 {m k : Int} (q : fl_step (18, [m, k], nx) (pc, ls, st, h, n) = some r) : fl_call true 1 m.toNat k.toNat nx ls st h n = some r := q
theorem iv19 {m k : Int} (q : fl_step (19, [m, k], nx) (pc, ls, st, h, n) = some r) : fl_call false 0 m.toNat k.toNat nx ls st h n = some r := q
theorem iv20 {m k : Int} (q : fl_step (20, [m, k], nx) (pc, ls, st, h, n) = some r) : fl_call false 1 m.toNat k.toNat nx ls st h n = some r := q
theorem iv21 (q : fl_step (21, a, nx) (pc, ls, st, h, n) = some r) : st = [] ∧ r = .inr (.inr none) := by
  simp only [fl_step] at q
  split at q
  · exact ⟨rfl, (Option.some.inj q).symm⟩
  · cases q
theorem iv22 {o : Int} (q : fl_step (22, [o], nx) (pc, ls, st, h, n) = some r) : ∃ x, st = [.int x] ∧ (o = 0 ∨ fl_bit x = true) ∧ r = .inr (.inr (some (.int x))) := by
  simp only [fl_step] at q
  split at q
  · rename_i o' x e1
    cases e1
    split at q
    · rename_i e
      exact ⟨x, rfl, e, (Option.some.inj q).symm⟩
    · cases q
  · cases q
theorem iv23 (q : fl_step (23, a, nx) (pc, ls, st, h, n) = some r) : ∃ x, st = [.long x] ∧ r = .inr (.inr (some (.long x))) := by
  simp only [fl_step] at q
  split at q
  · rename_i x
    exact ⟨x, rfl, (Option.some.inj q).symm⟩
  · cases q
theorem iv24 (q : fl_step (24, a, nx) (pc, ls, st, h, n) = some r) : ∃ o, st = [fl_rv o] ∧ r = .inr (.inr (some (fl_rv o))) := by
  simp only [fl_step] at q
  split at q
  · rename_i b
    exact ⟨some b, rfl, (Option.some.inj q).symm⟩
  · exact ⟨none, rfl, (Option.some.inj q).symm⟩
  · cases q
theorem iv25 (q : fl_step (25, a, nx) (pc, ls, st, h, n) = some r) : ∃ v st', st = v :: st' ∧ v.category = 1 ∧ r = .inl (nx, ls, v :: v :: st', h, n) := by
  simp only [fl_step] at q
  split at q
  · rename_i v st'
    split at q
    · rename_i e
      exact ⟨v, st', rfl, e, (Option.some.inj q).symm⟩
    · cases q
  · cases q
theorem iv26 (q : fl_step (26, a, nx) (pc, ls, st, h, n) = some r) : (∃ x st', st = .long x :: st' ∧ r = .inl (nx, ls, .long x :: .long x :: st', h, n)) ∨ (∃ v w st', st = v :: w :: st' ∧ v.category = 1 ∧ w.category = 1 ∧ r = .inl (nx, ls, v :: w :: v :: w :: st', h, n)) := by
  simp only [fl_step] at q
  split at q
  · rename_i x st'
    exact Or.inl ⟨x, st', rfl, (Option.some.inj q).symm⟩
  · rename_i v w st' _
    split at q
    · rename_i e
      exact Or.inr ⟨v, w, st', rfl, e.1, e.2, (Option.some.inj q).symm⟩
    · cases q
  · cases q
theorem iv27 (q : fl_step (27, a, nx) (pc, ls, st, h, n) = some r) : ∃ v st', st = v :: st' ∧ v.category = 1 ∧ r = .inl (nx, ls, st', h, n) := by
  simp only [fl_step] at q
  split at q
  · rename_i v st'
    split at q
    · rename_i e
      exact ⟨v, st', rfl, e, (Option.some.inj q).symm⟩
    · cases q
  · cases q
theorem iv28 (q : fl_step (28, a, nx) (pc, ls, st, h, n) = some r) : (∃ x st', st = .long x :: st' ∧ r = .inl (nx, ls, st', h, n)) ∨ (∃ v w st', st = v :: w :: st' ∧ v.category = 1 ∧ w.category = 1 ∧ r = .inl (nx, ls, st', h, n)) := by
  simp only [fl_step] at q
  split at q
  · rename_i x st'
    exact Or.inl ⟨x, _, rfl, (Option.some.inj q).symm⟩
  · rename_i v w st' _
    split at q
    · rename_i e
      exact Or.inr ⟨v, w, st', rfl, e.1, e.2, (Option.some.inj q).symm⟩
    · cases q
  · cases q
theorem iv29 {ci : Int} (q : fl_step (29, [ci], nx) (pc, ls, st, h, n) = some r) : n < fl_tot ∧ fl_lay n = (ci.toNat, (fl_N[ci.toNat]?).getD 0) ∧ r = .inl (nx, ls, .ref n :: st, fl_zero h n, n + 1) := by
  simp only [fl_step] at q
  split at q
  · rename_i e
    exact ⟨e.1, e.2, (Option.some.inj q).symm⟩
  · cases q
theorem iv30 {k : Int} (q : fl_step (30, [k], nx) (pc, ls, st, h, n) = some r) : ∃ x st', st = .int x :: st' ∧ n < fl_tot ∧ ¬ x < 0 ∧ fl_lay n = (k.toNat, x.toNatClampNeg) ∧ r = .inl (nx, ls, .ref n :: st', fl_zero h n, n + 1) := by
  simp only [fl_step] at q
  split at q
  · rename_i k' x st' e1
    cases e1
    split at q
    · rename_i e
      exact ⟨x, st', rfl, e.1, e.2.1, e.2.2, (Option.some.inj q).symm⟩
    · cases q
  · cases q
theorem iv31 {ci : Int} (q : fl_step (31, [ci], nx) (pc, ls, st, h, n) = some r) : ∃ x st', st = .int x :: st' ∧ n < fl_tot ∧ ¬ x < 0 ∧ fl_lay n = (30 + ci.toNat, x.toNatClampNeg) ∧ r = .inl (nx, ls, .ref n :: st', fl_zero h n, n + 1) := by
  simp only [fl_step] at q
  split at q
  · rename_i k' x st' e1
    cases e1
    split at q
    · rename_i e
      exact ⟨x, st', rfl, e.1, e.2.1, e.2.2, (Option.some.inj q).symm⟩
    · cases q
  · cases q
theorem iv32 {j : Int} (q : fl_step (32, [j], nx) (pc, ls, st, h, n) = some r) : r = .inl (nx, ls, .ref (1000 + j.toNat) :: st, h, n) := (Option.some.inj q).symm
theorem iv33 {t : Int} (q : fl_step (33, [t], nx) (pc, ls, st, h, n) = some r) : (∃ st', st = .null :: st' ∧ r = .inl (t.toNat, ls, st', h, n)) ∨ (∃ b st', st = .ref b :: st' ∧ r = .inl (nx, ls, st', h, n)) := by
  simp only [fl_step] at q
  split at q
  · rename_i t' st' e1
    cases e1
    exact Or.inl ⟨_, rfl, (Option.some.inj q).symm⟩
  · exact Or.inr ⟨_, _, rfl, (Option.some.inj q).symm⟩
  · cases q
theorem iv34 {t : Int} (q : fl_step (34, [t], nx) (pc, ls, st, h, n) = some r) : (∃ st', st = .null :: st' ∧ r = .inl (nx, ls, st', h, n)) ∨ (∃ b st', st = .ref b :: st' ∧ r = .inl (t.toNat, ls, st', h, n)) := by
  simp only [fl_step] at q
  split at q
  · exact Or.inl ⟨_, rfl, (Option.some.inj q).symm⟩
  · rename_i t' b st' e1
    cases e1
    exact Or.inr ⟨_, _, rfl, (Option.some.inj q).symm⟩
  · cases q
theorem iv35 (q : fl_step (35, a, nx) (pc, ls, st, h, n) = some r) : r = .inl (nx, ls, .null :: st, h, n) := (Option.some.inj q).symm
theorem iv36 (q : fl_step (36, a, nx) (pc, ls, st, h, n) = some r) : ∃ x st', st = .int x :: st' ∧ r = .inl (nx, ls, .long x.toInt64 :: st', h, n) := by
  simp only [fl_step] at q
  split at q
  · exact ⟨_, _, rfl, (Option.some.inj q).symm⟩
  · cases q
theorem iv37 (q : fl_step (37, a, nx) (pc, ls, st, h, n) = some r) : ∃ x y st', st = .long y :: .long x :: st' ∧ r = .inl (nx, ls, .long (x + y) :: st', h, n) := by
  simp only [fl_step] at q
  split at q
  · exact ⟨_, _, _, rfl, (Option.some.inj q).symm⟩
  · cases q
theorem iv38 (q : fl_step (38, a, nx) (pc, ls, st, h, n) = some r) : ∃ x y st', st = .long y :: .long x :: st' ∧ r = .inl (nx, ls, .long (x * y) :: st', h, n) := by
  simp only [fl_step] at q
  split at q
  · exact ⟨_, _, _, rfl, (Option.some.inj q).symm⟩
  · cases q
theorem iv39 {v : Int} (q : fl_step (39, [v], nx) (pc, ls, st, h, n) = some r) : r = .inl (nx, ls, .long (Int64.ofInt v) :: st, h, n) := (Option.some.inj q).symm
theorem iv40 {lo df : Int} {ts : List Int} (q : fl_step (40, lo :: df :: ts, nx) (pc, ls, st, h, n) = some r) : ∃ x st', st = .int x :: st' ∧ ((x.toInt < lo ∧ r = .inl (df.toNat, ls, st', h, n)) ∨ (¬ x.toInt < lo ∧ ts[(x.toInt - lo).toNat]? = none ∧ r = .inl (df.toNat, ls, st', h, n)) ∨ (¬ x.toInt < lo ∧ ∃ t, ts[(x.toInt - lo).toNat]? = some t ∧ r = .inl (t.toNat, ls, st', h, n))) := by
  simp only [fl_step] at q
  split at q
  · rename_i lo' df' ts' x st' e1
    cases e1
    refine ⟨x, st', rfl, ?_⟩
    split at q
    · rename_i e
      exact Or.inl ⟨e, (Option.some.inj q).symm⟩
    · rename_i e
      split at q
      · rename_i t e2
        exact Or.inr (Or.inr ⟨e, t, e2, (Option.some.inj q).symm⟩)
      · rename_i e2
        exact Or.inr (Or.inl ⟨e, e2, (Option.some.inj q).symm⟩)
  · cases q
theorem iv41 (q : fl_step (41, a, nx) (pc, ls, st, h, n) = some r) : ∃ k dp b sp o st', st = .int k :: .int dp :: .ref b :: .int sp :: .ref o :: st' ∧ (n = fl_tot ∧ o < n ∧ b < n ∧ (fl_lay o).1 = 20 ∧ (fl_lay b).1 = 20 ∧ ¬ sp < 0 ∧ ¬ dp < 0 ∧ ¬ k < 0 ∧ sp.toNatClampNeg + k.toNatClampNeg ≤ (fl_lay o).2 ∧ dp.toNatClampNeg + k.toNatClampNeg ≤ (fl_lay b).2 ∧ fl_cat st' ≤ 8) ∧ r = .inl (nx, ls, st', fl_copy h o sp.toNatClampNeg b dp.toNatClampNeg k.toNatClampNeg, n) := by
  simp only [fl_step] at q
  split at q
  · rename_i k dp b sp o st'
    split at q
    · rename_i e
      exact ⟨k, dp, b, sp, o, st', rfl, e, (Option.some.inj q).symm⟩
    · cases q
  · cases q
theorem iv42 (q : fl_step (42, a, nx) (pc, ls, st, h, n) = some r) : ∃ b st', st = .ref b :: st' ∧ fl_cat st' ≤ 8 ∧ r = .inl (nx, ls, st', h, n) := by
  simp only [fl_step] at q
  split at q
  · rename_i b st'
    split at q
    · rename_i e
      exact ⟨b, st', rfl, e, (Option.some.inj q).symm⟩
    · cases q
  · cases q
end INV
end
section
/-! A STEP OF THE FLAT MACHINE IS A STEP OF THE MACHINE: rows for cells -/
theorem lk_mem {α : Type} {l : List (Nat × α)} {k : Nat} {v : α} (h : l.lookup k = some v) : (k, v) ∈ l := by
  induction l with
  | nil => cases h
  | cons a t ih =>
    obtain ⟨a1, a2⟩ := a
    rw [List.lookup_cons] at h
    by_cases e : k = a1
    · subst e
      rw [beq_self_eq_true] at h
      cases h
      exact List.mem_cons_self
    · rw [beq_false_of_ne e] at h
      exact List.mem_cons_of_mem _ (ih h)
theorem cd_mem {mi pc : Nat} {q : Smi} (hc : fl_code mi pc = some q) : ∃ l, sm_cs[mi]? = some l ∧ (pc, q) ∈ l := by
  unfold fl_code at hc
  cases hl : sm_cs[mi]? with
  | none => rw [hl] at hc; cases hc
  | some l =>
    rw [hl] at hc
    exact ⟨l, rfl, lk_mem hc⟩
theorem cd_dec {mi pc : Nat} {q : Smi} {y : sm_M} (hy : sm_ms[mi]? = some y) (hc : fl_code mi pc = some q) : ∃ (i : Instr) (len : Nat), decode y.2.1 pc = .ok (i, len) ∧ sm_low y.2.2.2.2 y.2.2.2.1 pc i len = some q := by
  have hm : mi < 215 := by
    have h1 := (List.getElem?_eq_some_iff.mp hy).1
    rw [sm_len.2] at h1
    exact h1
  have h1 := sm_all mi hm
  unfold sm_chks at h1
  obtain ⟨l, hl, hm⟩ := cd_mem hc
  rw [hl, hy] at h1
  have h2 := List.all_eq_true.mp h1 _ hm
  unfold sm_chk at h2
  cases hd : decode y.2.1 pc with
  | error e => simp only [hd] at h2; cases h2
  | ok r =>
    obtain ⟨i, len⟩ := r
    simp only [hd] at h2
    exact ⟨i, len, rfl, eq_of_beq h2⟩
theorem sm_ownall : sm_ms.all (fun y => decide (sm_own[y.2.2.2.2]? = some y.1.cls)) = true := by decide +kernel
theorem sm_ownof {mi : Nat} {y : sm_M} (hy : sm_ms[mi]? = some y) : sm_own[y.2.2.2.2]? = some y.1.cls := of_decide_eq_true (List.all_eq_true.mp sm_ownall y (List.mem_of_getElem? hy))
/-- final fields are written in constructors alone; each call is of the callee's kind -/
def sm_static (y : sm_M) (e : Nat × Smi) : Bool := match e.2 with
  | (10, [ci, k], _) => (match vwCl[ci.toNat]? with
    | some (_, T, _) => if (T k.toNat).2.2.2 then y.1.name == "<init>" && (T k.toNat).1 == y.1.cls else true
    | none => false)
  | (18, [m, _], _) => (match sm_pos[m.toNat]? with
    | some (_, _, q3, q4, _) => q3 == 99999 && q4 != 99999
    | none => false)
  | (19, [m, _], _) => (match sm_pos[m.toNat]? with
    | some (_, _, q3, _, _) => q3 != 99999
    | none => false)
  | (20, [m, _], _) => (match sm_pos[m.toNat]?, sm_ms[m.toNat]? with
    | some (_, _, q3, _, _), some y2 => q3 == 99999 && y2.1.name == "<init>" && y2.2.2.2.1 == none
    | _, _ => false)
  | (21, _, _) => y.2.2.2.1 == none
  | (23, _, _) => y.2.2.2.1 == some .long
  | (24, _, _) => (match y.2.2.2.1 with
    | some (.object _) => true
    | some (.array _) => true
    | _ => false)
  | _ => true
theorem sm_stall : (sm_ms.zip sm_cs).all (fun q => q.2.all (sm_static q.1)) = true := by decide +kernel
theorem cd_static {mi pc : Nat} {q : Smi} {y : sm_M} (hy : sm_ms[mi]? = some y) (hc : fl_code mi pc = some q) : sm_static y (pc, q) = true := by
  obtain ⟨l, hl, hm⟩ := cd_mem hc
  have h1 : (y, l) ∈ sm_ms.zip sm_cs := List.mem_of_getElem? (i := mi) (by rw [List.getElem?_zip_eq_some]; exact ⟨hy, hl⟩)
  exact List.all_eq_true.mp (List.all_eq_true.mp sm_stall _ h1) _ hm
/-- a class, by its number -/
theorem cl_of {ci : Nat} {C : String} {T : u_T} {N : Nat} (h : vwCl[ci]? = some (C, T, N)) : ∃ ty : Nat → FieldType, fl_ty[ci]? = some ty ∧ fl_N[ci]? = some N ∧ (∀ k, k < N → parseFieldDescriptor (T k).2.2.1 = some (ty k)) ∧ (∀ a, a < N → ∀ b, b < N → a ≠ b → (T a).2.1 ≠ (T b).2.1) := by
  match ci, h with
  | 0, h => cases h; exact ⟨tyX0, rfl, rfl, tyX0_ok, nmX0⟩
  | 1, h => cases h; exact ⟨tyX1, rfl, rfl, tyX1_ok, nmX1⟩
  | 2, h => cases h; exact ⟨tyX2, rfl, rfl, tyX2_ok, nmX2⟩
  | 3, h => cases h; exact ⟨tyX3, rfl, rfl, tyX3_ok, nmX3⟩
  | 4, h => cases h; exact ⟨tyX4, rfl, rfl, tyX4_ok, nmX4⟩
  | 5, h => cases h; exact ⟨tyX5, rfl, rfl, tyX5_ok, nmX5⟩
  | 6, h => cases h; exact ⟨tyX6, rfl, rfl, tyX6_ok, nmX6⟩
  | 7, h => cases h; exact ⟨tyX7, rfl, rfl, tyX7_ok, nmX7⟩
  | 8, h => cases h; exact ⟨tyX8, rfl, rfl, tyX8_ok, nmX8⟩
  | 9, h => cases h; exact ⟨tyX9, rfl, rfl, tyX9_ok, nmX9⟩
  | 10, h => cases h; exact ⟨tyX10, rfl, rfl, tyX10_ok, nmX10⟩
  | k + 11, h => simp at h
theorem cl_lt {ci : Nat} {q : vw_C} (h : vwCl[ci]? = some q) : ci < 11 := by
  have := (List.getElem?_eq_some_iff.mp h).1
  simpa using this
theorem cl_words {ci : Nat} {C : String} {T : u_T} {N : Nat} (h : vwCl[ci]? = some (C, T, N)) : (∀ w ∈ u_ws C T N, w ∈ sm_tbl) ∧ Cond.instantiable C N ∈ sm_tbl ∧ Cond.initialized C ∈ sm_tbl := by
  have h1 := List.all_eq_true.mp sw_clall _ (List.mem_of_getElem? h)
  simp only [sw_cl, Bool.and_eq_true, decide_eq_true_eq] at h1
  obtain ⟨⟨h2, h3⟩, h4⟩ := h1
  refine ⟨fun w hw => ?_, List.mem_filter.mpr ⟨h3, rfl⟩, List.mem_filter.mpr ⟨h4, rfl⟩⟩
  have h5 := List.all_eq_true.mp h2 w hw
  simp only [Bool.and_eq_true, decide_eq_true_eq] at h5
  exact List.mem_filter.mpr h5
theorem wd_adlt {E : wd_E} {k n : Nat} (hn : n ≤ fl_tot) (hk : k < n) : wd_ad E k = E.1 + k := if_pos (Nat.lt_of_lt_of_le hk (Nat.le_trans hn (by decide)))
/-- the state within a method's body -/
def Sb (E : wd_E) (g : Nat → Nat → Int32) (cA : Nat → ClassId) (n : Nat) (h : Hp) (s : State) (H : Heap) (locs : List Loc) : Prop := Wd E g cA n h s H ∧ va_S (fun q => E.1 ≤ q) s.heap H locs
theorem Sb.upd {E : wd_E} {g : Nat → Nat → Int32} {cA : Nat → ClassId} {n : Nat} {h h' : Hp} {s : State} {H H1 : Heap} {locs : List Loc} (S : Sb E g cA n h s H locs) {r : Nat} (hr : r < n) (h1 : ∀ j, j ≠ r → h'.1 j = h.1 j ∧ h'.2 j = h.2 j) {e : va_E} (he : wd_c E cA h' r = e) (ha : va_at E.2.2 vwCl (E.1 + r, e) H1) (z : H1.size = H.size) (oq : ∀ q : Nat, q ≠ E.1 + r → H1[q]? = H[q]?) (k : Nat) : Sb E g cA n h' s H1 (locs ++ [⟨E.1 + r, k⟩]) := by
  obtain ⟨⟨a1, a2, a3, a4, a5⟩, hS⟩ := S
  refine ⟨⟨a1, ?_, a3, fun q => by rw [z]; exact a4 q, fun j i => ?_⟩, hS.put z oq (Nat.le_add_right _ _)⟩
  · have h2 := a2.set (wd_D E cA h n) (wd_at hr) ha oq
    rw [wd_set hr h1 he] at h2
    exact h2
  · rw [(h1 (1000 + j) (by have : fl_tot = 285 := rfl; omega)).1]
    exact a5 j i
def Ctx (E : wd_E) (g : Nat → Nat → Int32) (p : Program) (s : State) (m : MethodId) (args : Array Value) (meth : Method) (c : Code) (y : sm_M) : Prop :=
  p.tables.exec = Jvm.exec ∧ c.code = y.2.1 ∧ c.maxLocals = y.2.2.1 ∧ meth.sig.returnType = y.2.2.2.1 ∧ s.vm.findClass y.1.cls = some m.cls ∧ (∀ w ∈ sm_tbl, w.before args s = true) ∧ wd_T E g s s.heap ∧ meth.locks = false ∧ E.1 ≤ s.heap.size ∧ (y.1.name = "<init>" → meth.name = "<init>")
theorem fl_in_of {i : Int32} {n : Nat} (h : fl_in i n = true) : vp_in i n := by
  simp only [fl_in, Bool.and_eq_true, decide_eq_true_eq] at h
  intro q
  rcases q with q | q
  · exact h.1 q
  · omega
theorem fs_set {N k : Nat} {f f' : Nat → Value} (h1 : ∀ j, j ≠ k → f' j = f j) : (List.range N).map f' = ((List.range N).map f).set k (f' k) := by
  apply List.ext_getElem?
  intro j
  by_cases hj : j = k
  · subst hj
    by_cases hN : j < N
    · rw [List.getElem?_set_self (by simpa using hN)]
      simp [hN]
    · rw [List.getElem?_eq_none (by simp; omega), List.getElem?_eq_none (by simp; omega)]
  · rw [List.getElem?_set_ne (Ne.symm hj), List.getElem?_map, List.getElem?_map]
    by_cases hN : j < N
    · simp [hN, h1 j hj]
    · rw [List.getElem?_eq_none (by simp; omega)]
      rfl
theorem wd_c_obj {E : wd_E} {cA : Nat → ClassId} {h : Hp} {r ci N : Nat} (hl : fl_lay r = (ci, N)) (hc : ci < 20) : wd_c E cA h r = .inr (ci, (List.range N).map (fun j => wd_v E (wd_f h ci r j))) := by
  unfold wd_c
  rw [hl]
  simp [hc]
theorem wd_c_int {E : wd_E} {cA : Nat → ClassId} {h : Hp} {r : Nat} (h1 : 20 ≤ (fl_lay r).1) (h2 : (fl_lay r).1 < 30) : wd_c E cA h r = .inl (cA r, (fl_lay r).2, .inl (h.1 r)) := by
  unfold wd_c
  rw [if_neg (by omega), if_pos h2]
theorem wd_c_ref {E : wd_E} {cA : Nat → ClassId} {h : Hp} {r : Nat} (h1 : 30 ≤ (fl_lay r).1) : wd_c E cA h r = .inl (cA r, (fl_lay r).2, .inr (.inr (.inr (.inr (fun j => (h.2 r j).map (wd_ad E)))))) := by
  unfold wd_c
  rw [if_neg (by omega), if_neg (by omega)]
theorem wd_rv (E : wd_E) (o : Option Nat) : wd_v E (fl_rv o) = va_rf (o.map (wd_ad E)) := by cases o <;> rfl
theorem put_ok {E : wd_E} {ci k N : Nat} {f : Nat → FieldType} {v : Value} (hf : fl_ty[ci]? = some f) (hN : fl_N[ci]? = some N) (hk : k < N)
    (q : (fl_kind ci k < 2 ∧ ∃ x, v = .int x ∧ (fl_kind ci k = 1 → fl_bit x = true)) ∨ (fl_kind ci k = 2 ∧ ∃ o, v = fl_rv o)) : narrow (f k) (wd_v E v) = wd_v E v ∧ fits (f k) (wd_v E v) = true := by
  have hb : ∀ x : Int32, fl_bit x = true → narrow .boolean (.int x) = .int x ∧ fits .boolean (.int x) = true := by
    intro x hx
    simp only [fl_bit, Bool.or_eq_true, decide_eq_true_eq] at hx
    rcases hx with rfl | rfl <;> exact ⟨by decide, by decide⟩
  unfold fl_kind at q
  rw [hf, hN] at q
  simp only [Option.getD_some, if_pos hk] at q
  cases ht : f k <;> rw [ht] at q <;> simp at q
  · obtain ⟨x, rfl⟩ := q
    exact ⟨rfl, rfl⟩
  · obtain ⟨x, rfl, hx⟩ := q
    exact hb x hx
  · obtain ⟨o, rfl⟩ := q
    cases o <;> exact ⟨rfl, rfl⟩
  · obtain ⟨o, rfl⟩ := q
    cases o <;> exact ⟨rfl, rfl⟩
section OPS
variable {p : Program} {l : Launch} {e : Env} {R : Room} {s : State} {m : MethodId} {args : Array Value} {below : List Frame} {meth : Method} {c : Code} {H : Heap} {locs : List Loc} {cells slots : Nat} {Q : State → Prop}
variable {E : wd_E} {g : Nat → Nat → Int32} {cA : Nat → ClassId} {n : Nat} {h h' : Hp} {y : sm_M} {pc : Nat} {lsA : Array Slot} {rest : List Value}
/-- a field of a cell that is made -/
theorem rw_get (C : Ctx E g p s m args meth c y) (S : Sb E g cA n h s H locs) {r ci k idx : Nat} (hr : r < n) (hl : fl_lay r = (ci, (fl_N[ci]?).getD 0)) {ps : Nat} (hf : sm_at sm_rf y.2.2.2.2 idx = some (ci, k, ps)) (hy : sm_own[y.2.2.2.2]? = some y.1.cls) (hd : decode y.2.1 pc = .ok (.getfield idx, 3))
    (kk : W p l e R s m args below meth c H locs cells slots Q (F0 m (pc + 3) lsA (wd_v E (wd_f h ci r k) :: rest))) : W p l e R s m args below meth c H locs cells slots Q (F0 m pc lsA (.ref (wd_ad E r) :: rest)) := by
  obtain ⟨hx, hb, -, -, hown, hts, -⟩ := C
  have h1 := sw_of sw_fall hy hf
  unfold sw_f at h1
  cases hc : vwCl[ci]? with
  | none => rw [hc] at h1; cases h1
  | some q =>
    obtain ⟨Cn, T, N⟩ := q
    rw [hc] at h1
    simp only [Bool.and_eq_true, decide_eq_true_eq] at h1
    obtain ⟨hk, hw⟩ := h1
    obtain ⟨ty, e1, e2, e3, e4⟩ := cl_of hc
    rw [e2] at hl
    rw [wd_adlt S.1.1 hr]
    exact va_get hx hb hts (cl_words hc).1 hown S.1.2.2.1 S.1.2.1 r (by rw [wd_at hr, wd_c_obj hl (by have := cl_lt hc; omega)]) hc k hk (hts _ (sw_tbl hw)) (fun _ q => q) (by simp [hk]) hd kk
/-- a write to a field -/
theorem rw_put (C : Ctx E g p s m args meth c y) (S : Sb E g cA n h s H locs) {r ci k idx : Nat} {v : Value} (hr : r < n) (hl : fl_lay r = (ci, (fl_N[ci]?).getD 0)) {ps : Nat} (hf : sm_at sm_rf y.2.2.2.2 idx = some (ci, k, ps)) (hy : sm_own[y.2.2.2.2]? = some y.1.cls) (hd : decode y.2.1 pc = .ok (.putfield idx, 3))
    {nx : Nat} (hst : sm_static y (pc, (10, [(ci : Int), (k : Int)], nx)) = true)
    (hv : (fl_kind ci k < 2 ∧ ∃ x, v = .int x ∧ (fl_kind ci k = 1 → fl_bit x = true)) ∨ (fl_kind ci k = 2 ∧ ∃ o, v = fl_rv o)) (h1 : ∀ j, j ≠ r → h'.1 j = h.1 j ∧ h'.2 j = h.2 j) (h2 : ∀ j, j ≠ k → wd_f h' ci r j = wd_f h ci r j) (h3 : wd_f h' ci r k = v)
    (kk : ∀ (H1 : Heap) (locs1 : List Loc), Sb E g cA n h' s H1 locs1 → W p l e R s m args below meth c H1 locs1 cells slots Q (F0 m (pc + 3) lsA rest)) : W p l e R s m args below meth c H locs cells slots Q (F0 m pc lsA (wd_v E v :: .ref (wd_ad E r) :: rest)) := by
  obtain ⟨hx, hb, -, -, hown, hts, -, -, -, hnm⟩ := C
  have hw1 := sw_of sw_fall hy hf
  unfold sw_f at hw1
  cases hc : vwCl[ci]? with
  | none => rw [hc] at hw1; cases hw1
  | some q =>
    obtain ⟨Cn, T, N⟩ := q
    rw [hc] at hw1
    simp only [Bool.and_eq_true, decide_eq_true_eq] at hw1
    obtain ⟨hk, hw⟩ := hw1
    have hci := cl_lt hc
    have hci20 : ci < 20 := by omega
    obtain ⟨ty, e1, e2, e3, e4⟩ := cl_of hc
    rw [e2] at hl
    obtain ⟨hn, hfit⟩ := put_ok (E := E) e1 e2 hk hv
    have hin := (cl_words hc).1
    have hK := S.1.2.2.1
    have he := wd_at (E := E) (cA := cA) (h := h) hr
    rw [wd_c_obj hl hci20] at he
    have hlink := hts _ (sw_tbl hw)
    have hap := va_apart (own := y.1.cls) hts hin ty e3 e4 hK hc
    obtain ⟨r', hr1, cell, q1, q2, q3, q4⟩ := S.1.2.1 r _ he
    have hr' : r' = (Cn, T, N) := Option.some.inj (hr1.symm.trans hc)
    subst hr'
    obtain ⟨hS, hfc, kC, hkC, hkind⟩ := hK.1 ci _ hc
    obtain ⟨cf, kf, fi, f, hi, hsl⟩ := hS k hk
    have hlay := hts _ (hin _ (u_in_lay hk))
    unfold u_lay at hlay
    have hstf := (u_facts hfc hkC (u_lays hts hin hk) hi).1
    have hNl : (((List.range N).map (fun j => wd_v E (wd_f h ci r j)))).length = N := by simp
    have hfin : ∀ (H' : Heap), H'[E.1 + r]? = some (cell.setSlot f.slot (wd_v E v)) → H'.size = H.size → (∀ q, q ≠ E.1 + r → H'[q]? = H[q]?) → Sb E g cA n h' s H' (locs ++ [⟨E.1 + r, f.slot⟩]) := by
      intro H' z1 z2 z3
      refine S.upd hr h1 (wd_c_obj hl hci20) ⟨_, hc, ?_⟩ z2 z3 _
      rw [fs_set (f := fun j => wd_v E (wd_f h ci r j)) (k := k) (fun j hj => by rw [h2 j hj])]
      simp only [h3]
      rw [hsl] at z1
      exact t_OB.to (V := updV (vp_V ((List.range N).map (fun j => wd_v E (wd_f h ci r j)))) k (wd_v E v)) ⟨_, z1, q2, q3, t_set q4 hap hk _⟩ (fun j _ => vp_updV_set (by rw [hNl]; exact hk) _ j)
    rw [wd_adlt S.1.1 hr]
    unfold sm_static at hst
    simp only [Int.toNat_natCast, hc] at hst
    by_cases hfn : (T k).2.2.2 = true
    · rw [if_pos hfn] at hlay hst
      rw [Bool.and_eq_true] at hst
      have hdecl : (T k).1 = y.1.cls := eq_of_beq hst.2
      have hcf : m.cls = cf := by
        obtain ⟨_, _, c', _, _, _, -, -, hf', -, -, -, hown2, -⟩ := Cond.laysFinal_spec hlay
        have z1 : c' = cf := by have := hi.symm.trans hf'; simp at this; exact this.1.symm
        rw [hdecl] at hown2
        rw [← z1]
        exact Option.some.inj (hown.symm.trans hown2)
      have h6 := u_fits hfc hkC hkind (Or.inr hlay) hi (e3 k hk) hn hfit
      exact W.putFinK hx hb hown hlink hi hstf hcf (hnm (eq_of_beq hst.1)) (by rw [q2]; exact h6) q1 q3 (by rw [hsl]; exact k2_hasslot (q4 k hk)) rfl rfl hd fun H' z1 z2 z3 => kk H' _ (hfin H' z1 z2 z3)
    · rw [if_neg hfn] at hlay
      have h6 := u_store hfc hkC hkind hlay hi (e3 k hk) hn hfit
      exact W.putK hx hb (f := f) ⟨hown, hlink, ⟨_, _, _, hi⟩, hstf⟩ (by rw [q2]; exact h6) q1 q3 (by rw [hsl]; exact k2_hasslot (q4 k hk)) rfl rfl hd fun H' z1 z2 z3 => kk H' _ (hfin H' z1 z2 z3)
end OPS
end
section
/-! rows for arrays, new cells, statics, copies -/
theorem fl_tyall : ∀ ci, ci < 11 → ∀ k, k < (fl_N[ci]?).getD 0 → (match fl_ty[ci]? with
  | some f => (match f k with
    | FieldType.int => true
    | FieldType.boolean => true
    | FieldType.object _ => true
    | FieldType.array _ => true
    | _ => false)
  | none => false) = true := by decide +kernel
theorem fl_tyof {ci N k : Nat} {f : Nat → FieldType} (hf : fl_ty[ci]? = some f) (hN : fl_N[ci]? = some N) (hk : k < N) : f k = FieldType.int ∨ f k = FieldType.boolean ∨ (∃ o, f k = FieldType.object o) ∨ ∃ o, f k = FieldType.array o := by
  have hci : ci < 11 := by
    have := (List.getElem?_eq_some_iff.mp hN).1
    simpa [fl_N] using this
  have hz := fl_tyall ci hci k (by rw [hN]; exact hk)
  rw [hf] at hz
  simp only at hz
  split at hz
  · rename_i z; exact Or.inl z
  · rename_i z; exact Or.inr (Or.inl z)
  · rename_i z; exact Or.inr (Or.inr (Or.inl ⟨_, z⟩))
  · rename_i z; exact Or.inr (Or.inr (Or.inr ⟨_, z⟩))
  · cases hz
section CELLS
variable {p : Program} {l : Launch} {e : Env} {R : Room} {s : State} {m : MethodId} {args : Array Value} {below : List Frame} {meth : Method} {c : Code} {H : Heap} {locs : List Loc} {cells slots : Nat} {Q : State → Prop}
variable {E : wd_E} {g : Nat → Nat → Int32} {cA : Nat → ClassId} {n : Nat} {h h' : Hp} {y : sm_M} {pc : Nat} {lsA : Array Slot} {rest : List Value}
theorem wd_adge {E : wd_E} {b : Nat} (hb : ¬ b < 1000) : wd_ad E b = E.2.1 (b - 1000) := if_neg hb
theorem rw_iald (C : Ctx E g p s m args meth c y) (S : Sb E g cA n h s H locs) {b : Nat} {i : Int32} (hI : fl_isI n b = true) (hin : fl_in i (fl_len h b) = true) (hd : decode y.2.1 pc = .ok (.iaload, 1))
    (kk : W p l e R s m args below meth c H locs cells slots Q (F0 m (pc + 1) lsA (.int (h.1 b i.toNatClampNeg) :: rest))) : W p l e R s m args below meth c H locs cells slots Q (F0 m pc lsA (.int i :: .ref (wd_ad E b) :: rest)) := by
  obtain ⟨hx, hb, -, -, -, -, hT, -⟩ := C
  unfold fl_isI at hI
  by_cases hlt : b < 1000
  · rw [if_pos hlt, Bool.and_eq_true] at hI
    have hbn : b < n := of_decide_eq_true hI.1
    have hk : (fl_lay b).1 = 20 := eq_of_beq hI.2
    have hlen : fl_len h b = (fl_lay b).2 := if_pos hlt
    rw [hlen] at hin
    obtain ⟨t0, ht⟩ := wd_ty (cA := cA) hbn (t := .int) (by unfold wd_aty; rw [if_pos hk])
    rw [wd_adlt S.1.1 hbn]
    exact va_iald hx hb S.1.2.2.1 S.1.2.1 b t0 (by rw [wd_at hbn, wd_c_int (by omega) (by omega)]) ht (fl_in_of hin) hd kk
  · rw [if_neg hlt] at hI
    have hle : b ≤ 1010 := of_decide_eq_true hI
    rw [wd_len_eq S.1.2.2.2.2 (by omega)] at hin
    rw [wd_adge hlt]
    have e2 : h.1 b i.toNatClampNeg = g (b - 1000) i.toNatClampNeg := by
      have z := S.1.2.2.2.2 (b - 1000) i.toNatClampNeg
      rw [show 1000 + (b - 1000) = b by omega] at z
      exact z
    rw [e2] at kk
    exact va_ti hx hb (hT.1 (b - 1000) (by omega)) S.2 (fl_in_of hin) rfl hd kk
theorem rw_bald (C : Ctx E g p s m args meth c y) (S : Sb E g cA n h s H locs) {b : Nat} {i : Int32} (hbn : b < n) (hk : (fl_lay b).1 = 21) (hin : fl_in i (fl_lay b).2 = true) (hd : decode y.2.1 pc = .ok (.baload, 1))
    (kk : W p l e R s m args below meth c H locs cells slots Q (F0 m (pc + 1) lsA (.int (h.1 b i.toNatClampNeg) :: rest))) : W p l e R s m args below meth c H locs cells slots Q (F0 m pc lsA (.int i :: .ref (wd_ad E b) :: rest)) := by
  obtain ⟨hx, hb, -, -, -, -, hT, -⟩ := C
  obtain ⟨t0, ht⟩ := wd_ty (cA := cA) hbn (t := .boolean) (by unfold wd_aty; rw [if_neg (by omega), if_pos hk])
  rw [wd_adlt S.1.1 hbn]
  exact va_zald hx hb S.1.2.2.1 S.1.2.1 b t0 (by rw [wd_at hbn, wd_c_int (by omega) (by omega)]) ht (fl_in_of hin) hd kk
theorem wd_aty_ref {k : Nat} (h1 : 30 ≤ k) (h2 : k < 41) : ∃ q : vw_C, vwCl[k - 30]? = some q ∧ wd_aty k = some (.object q.1) := by
  have hl : k - 30 < vwCl.length := by simp; omega
  refine ⟨vwCl[k - 30], List.getElem?_eq_getElem hl, ?_⟩
  unfold wd_aty
  rw [if_neg (by omega), if_neg (by omega), if_pos ⟨h1, h2⟩, List.getElem?_eq_getElem hl]
  rfl
theorem rw_aald (C : Ctx E g p s m args meth c y) (S : Sb E g cA n h s H locs) {b : Nat} {i : Int32} (hbn : b < n) (h1 : 30 ≤ (fl_lay b).1) (h2 : (fl_lay b).1 < 41) (hin : fl_in i (fl_lay b).2 = true) (hd : decode y.2.1 pc = .ok (.aaload, 1))
    (kk : W p l e R s m args below meth c H locs cells slots Q (F0 m (pc + 1) lsA (wd_v E (fl_rv (h.2 b i.toNatClampNeg)) :: rest))) : W p l e R s m args below meth c H locs cells slots Q (F0 m pc lsA (.int i :: .ref (wd_ad E b) :: rest)) := by
  obtain ⟨hx, hb, -, -, -, -, hT, -⟩ := C
  obtain ⟨q, hq, ha⟩ := wd_aty_ref h1 h2
  obtain ⟨t0, ht⟩ := wd_ty (cA := cA) hbn ha
  rw [wd_adlt S.1.1 hbn]
  rw [wd_rv] at kk
  exact va_aldq hx hb S.1.2.2.1 S.1.2.1 b t0 (by rw [wd_at hbn, wd_c_ref h1]) ht (fl_in_of hin) hd kk
theorem rw_alen (C : Ctx E g p s m args meth c y) (S : Sb E g cA n h s H locs) {b : Nat} (hb0 : b < n ∧ 20 ≤ (fl_lay b).1 ∧ (fl_lay b).1 < 41 ∨ 1000 ≤ b ∧ b ≤ 1010) (h29 : b < n → (fl_lay b).1 < 22 ∨ 30 ≤ (fl_lay b).1) (hd : decode y.2.1 pc = .ok (.arraylength, 1))
    (kk : W p l e R s m args below meth c H locs cells slots Q (F0 m (pc + 1) lsA (.int (Int32.ofNat (fl_len h b)) :: rest))) : W p l e R s m args below meth c H locs cells slots Q (F0 m pc lsA (.ref (wd_ad E b) :: rest)) := by
  obtain ⟨hx, hb, -, -, -, -, hT, -⟩ := C
  rcases hb0 with ⟨hbn, k1, k2⟩ | ⟨k1, k2⟩
  · have hlt : b < 1000 := Nat.lt_of_lt_of_le hbn (Nat.le_trans S.1.1 (by decide))
    have hlen : fl_len h b = (fl_lay b).2 := if_pos hlt
    rw [hlen] at kk
    rw [wd_adlt S.1.1 hbn]
    rcases h29 hbn with z | z
    · have : ∃ t, wd_aty (fl_lay b).1 = some t := by
        unfold wd_aty
        by_cases z1 : (fl_lay b).1 = 20
        · exact ⟨_, if_pos z1⟩
        · exact ⟨_, by rw [if_neg z1, if_pos (by omega)]⟩
      obtain ⟨t, hta⟩ := this
      obtain ⟨t0, ht⟩ := wd_ty (cA := cA) hbn hta
      exact va_alen hx hb S.1.2.2.1 S.1.2.1 b t0 (by rw [wd_at hbn, wd_c_int (by omega) (by omega)]) ht rfl hd kk
    · obtain ⟨q, hq, hta⟩ := wd_aty_ref z k2
      obtain ⟨t0, ht⟩ := wd_ty (cA := cA) hbn hta
      exact va_alen hx hb S.1.2.2.1 S.1.2.1 b t0 (by rw [wd_at hbn, wd_c_ref z]) ht rfl hd kk
  · rw [wd_adge (by omega)]
    rw [wd_len_eq S.1.2.2.2.2 (by omega)] at kk
    exact va_tlen hx hb (hT.1 (b - 1000) (by omega)) S.2 rfl hd kk
theorem rw_iast (C : Ctx E g p s m args meth c y) (S : Sb E g cA n h s H locs) {b : Nat} {i x : Int32} (hbn : b < n) (hk : (fl_lay b).1 = 20) (hin : fl_in i (fl_lay b).2 = true) (hd : decode y.2.1 pc = .ok (.iastore, 1))
    (kk : ∀ (H1 : Heap) (locs1 : List Loc), Sb E g cA n (fl_setI h b i.toNatClampNeg x) s H1 locs1 → W p l e R s m args below meth c H1 locs1 cells slots Q (F0 m (pc + 1) lsA rest)) : W p l e R s m args below meth c H locs cells slots Q (F0 m pc lsA (.int x :: .int i :: .ref (wd_ad E b) :: rest)) := by
  obtain ⟨hx, hb, -, -, -, -, hT, -⟩ := C
  obtain ⟨t0, ht⟩ := wd_ty (cA := cA) hbn (t := .int) (by unfold wd_aty; rw [if_pos hk])
  rw [wd_adlt S.1.1 hbn]
  have he := wd_at (E := E) (cA := cA) (h := h) hbn
  rw [wd_c_int (by omega) (by omega)] at he
  have hcell : H[E.1 + b]? = some (vp_cell (cA b) ((fl_lay b).2, .inl (h.1 b))) := S.1.2.1 b _ he
  refine W.iast hx hb hcell ((S.1.2.2.1.2 t0 _ ht).1 _ (fun j => .int (h.1 b j))) (fun q => by cases q) (by show ¬ (i < 0 ∨ (arrV _ _ _).slots.size ≤ _); rw [arrV_size]; exact fl_in_of hin) rfl rfl hd fun H1 z1 z2 z3 => ?_
  refine kk H1 _ (S.upd (h' := fl_setI h b i.toNatClampNeg x) hbn (fun j hj => ⟨by funext k; simp [fl_setI, hj], rfl⟩) (wd_c_int (by omega) (by omega)) ?_ z2 z3 _)
  show H1[E.1 + b]? = some (vp_cell _ _)
  rw [z1, vp_cell_i, vp_cell_i, arrV_store]
  congr 2
  funext q
  by_cases hq : q = i.toNatClampNeg
  · subst hq
    simp [updV, fl_setI]
  · simp [updV, fl_setI, hq]
theorem rw_aast (C : Ctx E g p s m args meth c y) (S : Sb E g cA n h s H locs) {b v : Nat} {i : Int32} (hbn : b < n) (h1 : 30 ≤ (fl_lay b).1) (h2 : (fl_lay b).1 < 41) (hin : fl_in i (fl_lay b).2 = true) (hvn : v < n) (hv : (fl_lay v).1 + 30 = (fl_lay b).1) (hd : decode y.2.1 pc = .ok (.aastore, 1))
    (kk : ∀ (H1 : Heap) (locs1 : List Loc), Sb E g cA n (fl_setR h b i.toNatClampNeg (some v)) s H1 locs1 → W p l e R s m args below meth c H1 locs1 cells slots Q (F0 m (pc + 1) lsA rest)) : W p l e R s m args below meth c H locs cells slots Q (F0 m pc lsA (.ref (wd_ad E v) :: .int i :: .ref (wd_ad E b) :: rest)) := by
  obtain ⟨hx, hb, -, -, -, -, hT, -⟩ := C
  obtain ⟨r, hq, ha⟩ := wd_aty_ref h1 h2
  obtain ⟨t0, ht⟩ := wd_ty (cA := cA) hbn ha
  rw [wd_adlt S.1.1 hbn, wd_adlt S.1.1 hvn]
  have he := wd_at (E := E) (cA := cA) (h := h) hbn
  rw [wd_c_ref h1] at he
  have hev := wd_at (E := E) (cA := cA) (h := h) hvn
  rw [wd_c_obj (ci := (fl_lay v).1) (N := (fl_lay v).2) rfl (by omega)] at hev
  have hin' := fl_in_of hin
  have hlt : i.toNatClampNeg < (fl_lay b).2 := Nat.not_le.mp fun q => hin' (Or.inr q)
  have h0 : ¬ i < 0 := fun q => hin' (Or.inl q)
  have hK := S.1.2.2.1
  have hc : vwCl[(fl_lay v).1]? = some r := by rw [show (fl_lay v).1 = (fl_lay b).1 - 30 by omega]; exact hq
  obtain ⟨r', hr', cellV, g1, g2, g3, -⟩ := S.1.2.1 v _ hev
  have hcls := (hK.1 _ r hc).2
  obtain ⟨kA, comp, k1, k2, k3, -⟩ := (hK.2 t0 _ ht).2
  have hcomp : comp = E.2.2.1 (fl_lay v).1 := Option.some.inj (k3.symm.trans hcls.1)
  subst hcomp
  obtain ⟨kC, hkC, -⟩ := hcls.2
  have hcell : H[E.1 + b]? = some (vp_cell (cA b) ((fl_lay b).2, .inr (.inr (.inr (.inr (fun j => (h.2 b j).map (wd_ad E))))))) := S.1.2.1 b _ he
  refine W.aast hx hb hcell (fun q z => by cases z) (fun z => by cases z) k1 k2 rfl hkC ⟨h0, by show _ < (arrV _ _ _).slots.size; rw [arrV_size]; exact hlt⟩ g1 (fun q z => by rw [g3] at z; cases z) (by rw [g2]; exact hkC) (by rw [g2]; exact va_assign hcls) rfl rfl hd fun H1 z1 z2 z3 => ?_
  refine kk H1 _ (S.upd (h' := fl_setR h b i.toNatClampNeg (some v)) hbn (fun j hj => ⟨rfl, by funext k; simp [fl_setR, hj]⟩) (wd_c_ref h1) ?_ z2 z3 _)
  show H1[E.1 + b]? = some (vp_cell _ _)
  rw [z1, vp_cell_q, vp_cell_q, arrV_store]
  congr 2
  funext q
  by_cases hq : q = i.toNatClampNeg
  · subst hq
    simp [updV, fl_setR, va_rf, wd_adlt S.1.1 hvn]
  · simp [updV, fl_setR, hq]
theorem Sb.last (S : Sb E g cA n h s H locs) {r : Nat} (hn : n = fl_tot) (hr : r < n) (h1 : ∀ j, j ≠ r → h'.1 j = h.1 j ∧ h'.2 j = h.2 j) {e : va_E} (he : wd_c E cA h' r = e) {H1 : Heap} {locs1 : List Loc} (hP : va_P E.2.2 vwCl ((wd_ws E cA h n).set r (E.1 + r, e)) H1) (hS : va_S (fun q => E.1 ≤ q) s.heap H1 locs1) : Sb E g cA n h' s H1 locs1 := by
  rw [wd_set hr h1 he] at hP
  refine ⟨⟨S.1.1, hP, S.1.2.2.1, fun q => absurd q (by omega), fun j i => ?_⟩, hS⟩
  rw [(h1 (1000 + j) (by have : fl_tot = 285 := rfl; omega)).1]
  exact S.1.2.2.2.2 j i
theorem rw_bast (C : Ctx E g p s m args meth c y) (S : Sb E g cA n h s H locs) {b : Nat} {i x : Int32} (hbn : b < n) (hk : (fl_lay b).1 = 21) (hin : fl_in i (fl_lay b).2 = true) (hx1 : fl_bit x = true) (hn : n = fl_tot) (hd : decode y.2.1 pc = .ok (.bastore, 1))
    (kk : ∀ (H1 : Heap) (locs1 : List Loc), Sb E g cA n (fl_setI h b i.toNatClampNeg x) s H1 locs1 → W p l e R s m args below meth c H1 locs1 cells slots Q (F0 m (pc + 1) lsA rest)) : W p l e R s m args below meth c H locs cells slots Q (F0 m pc lsA (.int x :: .int i :: .ref (wd_ad E b) :: rest)) := by
  obtain ⟨hx, hb, -, -, -, -, hT, -⟩ := C
  obtain ⟨t0, ht⟩ := wd_ty (cA := cA) hbn (t := .boolean) (by unfold wd_aty; rw [if_neg (by omega), if_pos hk])
  rw [wd_adlt S.1.1 hbn]
  have hnar : vp_nar .boolean x = x := by
    simp only [fl_bit, Bool.or_eq_true, decide_eq_true_eq] at hx1
    rcases hx1 with rfl | rfl <;> decide
  refine va_zast hx hb S.1.2.2.1 S.1.2.1 (wd_D E cA h n) S.2 b t0 (by rw [wd_at hbn, wd_c_int (by omega) (by omega)]) ht (fl_in_of hin) hd fun H1 locs1 z1 z2 z3 => ?_
  refine kk H1 _ (S.last (h' := fl_setI h b i.toNatClampNeg x) hn hbn (fun j hj => ⟨by funext k; simp [fl_setI, hj], rfl⟩) (by rw [wd_c_int (by omega) (by omega), hnar, show (fl_setI h b i.toNatClampNeg x).1 b = upd (h.1 b) i.toNatClampNeg x from by funext q; by_cases hq : q = i.toNatClampNeg <;> simp [upd, fl_setI, hq]]) z1 z3)
theorem rw_copy (C : Ctx E g p s m args meth c y) (S : Sb E g cA n h s H locs) {o b idx : Nat} {sp dp k : Int32} (hn : n = fl_tot) (hon : o < n) (hbn : b < n) (ho : (fl_lay o).1 = 20) (hbk : (fl_lay b).1 = 20) (h1 : ¬ sp < 0) (h2 : ¬ dp < 0) (h3 : ¬ k < 0) (h4 : sp.toNatClampNeg + k.toNatClampNeg ≤ (fl_lay o).2) (h5 : dp.toNatClampNeg + k.toNatClampNeg ≤ (fl_lay b).2)
    (hlink : (Cond.methodLink y.1.cls idx sm_arrName).before args s = true) (hml : c.maxLocals = lsA.size) (hrf : 1 ≤ R.frames) (hrl : 60 ≤ R.locals) (hrest : (rest.map fun v => v.category).sum ≤ 8) (hd : decode y.2.1 pc = .ok (.invokestatic idx, 3))
    (kk : ∀ (H1 : Heap) (locs1 : List Loc), Sb E g cA n (fl_copy h o sp.toNatClampNeg b dp.toNatClampNeg k.toNatClampNeg) s H1 locs1 → W p l e R s m args below meth c H1 locs1 cells slots Q (F0 m (pc + 3) lsA rest)) : W p l e R s m args below meth c H locs cells slots Q (F0 m pc lsA (.int k :: .int dp :: .ref (wd_ad E b) :: .int sp :: .ref (wd_ad E o) :: rest)) := by
  obtain ⟨hx, hb, -, -, hown, hts, hT, -⟩ := C
  obtain ⟨t0, ht0⟩ := wd_ty (cA := cA) hon (t := .int) (by unfold wd_aty; rw [if_pos ho])
  obtain ⟨t1, ht1⟩ := wd_ty (cA := cA) hbn (t := .int) (by unfold wd_aty; rw [if_pos hbk])
  rw [wd_adlt S.1.1 hbn, wd_adlt S.1.1 hon]
  have hw : nativeFrameWords "java/lang/System" "arraycopy" 5 + 11 ≤ 52 := by decide
  refine va_copyi hx hb hml hown hlink (hts _ sw_cpy.1) (hts _ sw_cpy.2.1) (hts _ sw_cpy.2.2) S.1.2.2.1 S.1.2.1 (wd_D E cA h n) S.2 o b t0 t1 (by rw [wd_at hon, wd_c_int (by omega) (by omega)]) (by rw [wd_at hbn, wd_c_int (by omega) (by omega)]) ht0 ht1 rfl h1 h2 h3 h4 h5 (fun i hi => rfl) hrf (by omega) hd fun H1 locs1 z1 z2 z3 => ?_
  refine kk H1 _ (S.last (h' := fl_copy h o sp.toNatClampNeg b dp.toNatClampNeg k.toNatClampNeg) hn hbn (fun j hj => ⟨by funext q; simp [fl_copy, hj], rfl⟩) (by rw [wd_c_int (by omega) (by omega), show (fl_copy h o sp.toNatClampNeg b dp.toNatClampNeg k.toNatClampNeg).1 b = va_cpy (h.1 o) (h.1 b) sp.toNatClampNeg dp.toNatClampNeg k.toNatClampNeg from by funext q; simp [va_cpy, fl_copy]]) z1 z3)
/-- the next cell -/
theorem Sb.push (S : Sb E g cA n h s H locs) {cA' : Nat → ClassId} {e : va_E} {H1 : Heap} (hn : n < fl_tot) (hsz : H1.size = H.size + 1) (ho : ∀ q, q < H.size → H1[q]? = H[q]?) (h1 : ∀ j, j ≠ n → cA' j = cA j) (h2 : wd_c E cA' (fl_zero h n) n = e) (ha : va_at E.2.2 vwCl (H.size, e) H1) (hK : va_K E.2.2 vwCl (wd_tys cA' (n + 1)) s) : Sb E g cA' (n + 1) (fl_zero h n) s H1 locs := by
  obtain ⟨⟨a1, a2, a3, a4, a5⟩, hS⟩ := S
  have hz := a4 hn
  refine ⟨⟨hn, ?_, hK, fun _ => by omega, fun j i => ?_⟩, ⟨by have := hS.1; omega, fun q q1 q2 => (ho q (Nat.lt_of_lt_of_le q1 hS.1)).trans (hS.2.1 q q1 q2), hS.2.2⟩⟩
  · rw [← wd_push h1 h2]
    refine (a2.kept fun k q hk => ho _ ((a2 k q hk).lt)).app fun k q hk => ?_
    have hk0 : k < 1 := (List.getElem?_eq_some_iff.mp hk).1
    rw [show k = 0 by omega] at hk
    cases hk
    rw [← hz]
    exact ha
  · have : fl_tot = 285 := rfl
    simp [fl_zero, show 1000 + j ≠ n by omega, a5 j i]
theorem rw_new (C : Ctx E g p s m args meth c y) (S : Sb E g cA n h s H locs) {ci idx ps : Nat} (hn : n < fl_tot) (hl : fl_lay n = (ci, (fl_N[ci]?).getD 0)) (hf : sm_at sm_rc y.2.2.2.2 idx = some (ci, ps)) (hy : sm_own[y.2.2.2.2]? = some y.1.cls) (hcells : cells + 1 ≤ R.cells) (hslots : slots + (fl_lay n).2 ≤ R.slots) (hd : decode y.2.1 pc = .ok (.new idx, 3))
    (kk : ∀ (H1 : Heap), Sb E g cA (n + 1) (fl_zero h n) s H1 locs → W p l e R s m args below meth c H1 locs (cells + 1) (slots + (fl_lay n).2) Q (F0 m (pc + 3) lsA (.ref (wd_ad E n) :: rest))) : W p l e R s m args below meth c H locs cells slots Q (F0 m pc lsA rest) := by
  obtain ⟨hx, hb, -, -, hown, hts, hT, -⟩ := C
  have h1 := sw_of sw_call hy hf
  unfold sw_c at h1
  cases hc : vwCl[ci]? with
  | none => rw [hc] at h1; cases h1
  | some q =>
    obtain ⟨Cn, T, N⟩ := q
    rw [hc] at h1
    obtain ⟨ty, e1, e2, e3, e4⟩ := cl_of hc
    rw [e2] at hl
    have hl2 : (fl_lay n).2 = N := by rw [hl]; rfl
    rw [hl2] at hslots kk
    obtain ⟨hin, hinst, hini⟩ := cl_words hc
    have hKn := S.1.2.2.1.1 ci _ hc
    have hci := cl_lt hc
    refine W.newcK hx hb hown (hts _ (sw_tbl h1)) (hts _ hinst) (hts _ hini) rfl hd hcells hslots hKn.2.1 rfl fun H1 kC hkC z1 z2 z3 => ?_
    have hz := S.1.2.2.2.1 hn
    have hadn : wd_ad E n = H.size := by rw [hz]; exact if_pos (by have : fl_tot = 285 := rfl; omega)
    have hdef : ∀ j, j < N → defaultValue (ty j) = vp_V ((List.range N).map (fun j => wd_v E (wd_f (fl_zero h n) ci n j))) j := by
      intro j hj
      have : vp_V ((List.range N).map (fun j => wd_v E (wd_f (fl_zero h n) ci n j))) j = wd_v E (wd_f (fl_zero h n) ci n j) := by
        unfold vp_V
        rw [List.getD_eq_getElem?_getD, List.getElem?_map]
        simp [hj]
      rw [this]
      unfold wd_f fl_kind
      rw [e1, e2]
      simp only [Option.getD_some, if_pos hj]
      have hz := fl_tyof e1 e2 hj
      rcases hz with z | z | ⟨o, z⟩ | ⟨o, z⟩ <;> rw [z] <;> simp [fl_zero, fl_rv] <;> rfl
    refine (hadn ▸ kk H1 (S.push hn z2 z3 (fun _ _ => rfl) (wd_c_obj (ci := ci) (N := N) hl (by omega)) ⟨_, hc, (u_born ty hts hin hKn hkC z1 e3).to hdef⟩ ?_) : _)
    rw [wd_tys_succ (cA := cA) (fun _ _ => rfl)]
    have : wd_aty (fl_lay n).1 = none := by
      rw [hl]
      unfold wd_aty
      simp only
      rw [if_neg (by omega), if_neg (by omega), if_neg (by omega)]
    rw [this]
    simpa using S.1.2.2.1
theorem rw_newa (C : Ctx E g p s m args meth c y) (S : Sb E g cA n h s H locs) {k : Nat} {x : Int32} {at0 : ArrayType} {ty : FieldType} (hty : newarray.typeOf at0 = ty) (hk : k = 20 ∧ ty = .int ∨ k = 21 ∧ ty = .boolean) (hn : n < fl_tot) (hx0 : ¬ x < 0) (hl : fl_lay n = (k, x.toNatClampNeg)) (hsm : (fl_lay n).2 ≤ 5000) (hcells : cells + 1 ≤ R.cells) (hslots : slots + (fl_lay n).2 ≤ R.slots) (hd : decode y.2.1 pc = .ok (.newarray at0, 2))
    (kk : ∀ (H1 : Heap) (cA' : Nat → ClassId), Sb E g cA' (n + 1) (fl_zero h n) s H1 locs → W p l e R s m args below meth c H1 locs (cells + 1) (slots + (fl_lay n).2) Q (F0 m (pc + 2) lsA (.ref (wd_ad E n) :: rest))) : W p l e R s m args below meth c H locs cells slots Q (F0 m pc lsA (.int x :: rest)) := by
  obtain ⟨hx, hb, -, -, hown, hts, hT, -⟩ := C
  have hl1 : (fl_lay n).1 = k := by rw [hl]
  have hl2 : (fl_lay n).2 = x.toNatClampNeg := by rw [hl]
  have harr : (Cond.arrayClass (newarray.typeOf at0)).before args s = true := by
    rw [hty]
    rcases hk with ⟨-, rfl⟩ | ⟨-, rfl⟩
    · exact hts _ sw_arr.1
    · exact hts _ sw_arr.2
  rw [hl2] at hslots kk hsm
  have hcb : componentBytes (newarray.typeOf at0) ≤ 8 := by rw [hty]; rcases hk with ⟨-, rfl⟩ | ⟨-, rfl⟩ <;> decide
  refine va_newaK hx hb harr rfl hd rfl hx0 rfl (by have := Nat.mul_le_mul hsm hcb; omega) hcells hslots rfl fun H1 c1 z1 z2 z3 z4 z5 => ?_
  have hz := S.1.2.2.2.1 hn
  have hadn : wd_ad E n = H.size := by rw [hz]; exact if_pos (by have : fl_tot = 285 := rfl; omega)
  have hcA : ∀ j, j ≠ n → (fun j => if j = n then c1 else cA j) j = cA j := fun j hj => if_neg hj
  have hdv : (fun _ : Nat => defaultValue (newarray.typeOf at0)) = fun _ => .int 0 := by rw [hty]; rcases hk with ⟨-, rfl⟩ | ⟨-, rfl⟩ <;> rfl
  have haty : wd_aty (fl_lay n).1 = some ty := by
    rw [hl1]
    unfold wd_aty
    rcases hk with ⟨rfl, rfl⟩ | ⟨rfl, rfl⟩ <;> rfl
  refine (hadn ▸ kk H1 (fun j => if j = n then c1 else cA j) (S.push hn z2 z3 hcA (wd_c_int (by rw [hl1]; rcases hk with z | z <;> omega) (by rw [hl1]; rcases hk with z | z <;> omega)) ?_ ?_) : _)
  · show H1[H.size]? = some (vp_cell _ _)
    rw [z1, vp_cell_i, hdv, hl2]
    simp [fl_zero]
  · rw [wd_tys_succ (cA := cA) hcA, haty]
    refine S.1.2.2.1.app ⟨S.1.2.2.1.1, fun k' q hq => ?_⟩
    have hk0 : k' < 1 := by simpa using (List.getElem?_eq_some_iff.mp hq).1
    rw [show k' = 0 by omega] at hq
    simp at hq
    subst hq
    refine ⟨by rw [← hty]; exact z4, ?_⟩
    rw [hty] at z5
    rcases hk with ⟨-, rfl⟩ | ⟨-, rfl⟩ <;> exact z5
theorem rw_newq (C : Ctx E g p s m args meth c y) (S : Sb E g cA n h s H locs) {ci idx ps : Nat} {x : Int32} (hn : n < fl_tot) (hx0 : ¬ x < 0) (hl : fl_lay n = (30 + ci, x.toNatClampNeg)) (hsm : (fl_lay n).2 ≤ 5000) (hci4 : ci = 0 ∨ ci = 3 ∨ ci = 7 ∨ ci = 8) (hf : sm_at sm_rc y.2.2.2.2 idx = some (ci, ps)) (hy : sm_own[y.2.2.2.2]? = some y.1.cls) (hcells : cells + 1 ≤ R.cells) (hslots : slots + (fl_lay n).2 ≤ R.slots) (hd : decode y.2.1 pc = .ok (.anewarray idx, 3))
    (kk : ∀ (H1 : Heap) (cA' : Nat → ClassId), Sb E g cA' (n + 1) (fl_zero h n) s H1 locs → W p l e R s m args below meth c H1 locs (cells + 1) (slots + (fl_lay n).2) Q (F0 m (pc + 3) lsA (.ref (wd_ad E n) :: rest))) : W p l e R s m args below meth c H locs cells slots Q (F0 m pc lsA (.int x :: rest)) := by
  obtain ⟨hx, hb, -, -, hown, hts, hT, -⟩ := C
  have hl1 : (fl_lay n).1 = 30 + ci := by rw [hl]
  have hl2 : (fl_lay n).2 = x.toNatClampNeg := by rw [hl]
  have h1 := sw_of sw_call hy hf
  unfold sw_c at h1
  cases hc : vwCl[ci]? with
  | none => rw [hc] at h1; cases h1
  | some q =>
    obtain ⟨Cn, T, N⟩ := q
    rw [hc] at h1
    have hci := cl_lt hc
    rw [hl2] at hslots kk hsm
    have hao : va_AO Cn s := by
      refine hT.2.2.2 _ (List.mem_of_getElem? hc) ?_
      rcases hci4 with rfl | rfl | rfl | rfl <;> (cases hc; simp)
    refine W.anew hx hb hown (hts _ (sw_tbl h1)) (va_AO.use hao) rfl hd rfl hx0 (by omega) hcells hslots fun c1 kA comp f1 f2 f3 f4 => ?_
    generalize hH1 : H.push ({ cls := c1, slots := Array.replicate x.toNatClampNeg .null, vm := .none } : Cell) = H1
    have z2 : H1.size = H.size + 1 := by rw [← hH1, Array.size_push]
    have z1 : H1[H.size]? = some (arrV c1 x.toNatClampNeg (fun _ => .null)) := by rw [← hH1, Array.getElem?_push_size, ← arrV_new]
    have z3 : ∀ q : Nat, q < H.size → H1[q]? = H[q]? := fun q hq => by rw [← hH1, Array.getElem?_push, if_neg (Nat.ne_of_lt hq)]
    have hAr : ArrOfT s c1 (.object Cn) := fun N z => ⟨(fun k h => by cases h), kA, f2, comp, f3⟩
    have hz := S.1.2.2.2.1 hn
    have hadn : wd_ad E n = H.size := by rw [hz]; exact if_pos (by have : fl_tot = 285 := rfl; omega)
    have hcA : ∀ j, j ≠ n → (fun j => if j = n then c1 else cA j) j = cA j := fun j hj => if_neg hj
    have haty : wd_aty (fl_lay n).1 = some (.object Cn) := by
      rw [hl1]
      unfold wd_aty
      rw [if_neg (by omega), if_neg (by omega), if_pos (by omega), show 30 + ci - 30 = ci by omega, hc]
      rfl
    refine (hadn ▸ kk H1 (fun j => if j = n then c1 else cA j) (S.push hn z2 z3 hcA (wd_c_ref (by rw [hl1]; omega)) ?_ ?_) : _)
    · show H1[H.size]? = some (vp_cell _ _)
      rw [z1, vp_cell_q, hl2]
      simp [fl_zero, va_rf]
    · rw [wd_tys_succ (cA := cA) hcA, haty]
      refine S.1.2.2.1.app ⟨S.1.2.2.1.1, fun k' q hq => ?_⟩
      have hk0 : k' < 1 := by simpa using (List.getElem?_eq_some_iff.mp hq).1
      rw [show k' = 0 by omega] at hq
      simp at hq
      subst hq
      exact ⟨hAr, kA, comp, f2, f3, f4, f1⟩
theorem rw_gets (C : Ctx E g p s m args meth c y) (S : Sb E g cA n h s H locs) {j idx ps nest : Nat} (hf : sm_at sm_rs y.2.2.2.2 idx = some (j, ps, nest)) (hy : sm_own[y.2.2.2.2]? = some y.1.cls) (hd : decode y.2.1 pc = .ok (.getstatic idx, 3))
    (kk : W p l e R s m args below meth c H locs cells slots Q (F0 m (pc + 3) lsA (.ref (wd_ad E (1000 + j)) :: rest))) : W p l e R s m args below meth c H locs cells slots Q (F0 m pc lsA rest) := by
  obtain ⟨hx, hb, -, -, hown, hts, hT, -⟩ := C
  have h1 := sw_of sw_sall hy hf
  unfold sw_s at h1
  cases hs : sm_sn[j]? with
  | none => simp only [hs] at h1; cases h1
  | some nm =>
    simp only [hs] at h1
    rw [wd_adge (by omega), show 1000 + j - 1000 = j by omega] at kk
    have hZ := hT.2.1 j nm hs
    split at h1
    · exact va_gets hx hb hZ S.2 hown (hts _ (sw_tbl h1)) (fun _ q => q) hd kk
    · exact va_getsN hx hb hZ S.2 hown (va_Nw.use rfl (hT.2.2.1 _ (sw_nestF h1))) (fun _ q => q) hd kk
theorem rw_obj (C : Ctx E g p s m args meth c y) {idx a : Nat} (hlink : (Cond.methodLink y.1.cls idx objectInit).before args s = true) (hml : lsA.size = c.maxLocals) (hrf : 1 ≤ R.frames) (hrl : 60 ≤ R.locals) (hrest : (rest.map fun v => v.category).sum ≤ 8) (hd : decode y.2.1 pc = .ok (.invokespecial idx, 3))
    (kk : W p l e R s m args below meth c H locs cells slots Q (F0 m (pc + 3) lsA rest)) : W p l e R s m args below meth c H locs cells slots Q (F0 m pc lsA (.ref a :: rest)) := by
  obtain ⟨hx, hb, -, -, hown, hts, hT, -⟩ := C
  exact W.objInit hx hb hown hlink (hts _ sw_obj.1) (hts _ sw_obj.2) (g := F0 m pc lsA (.ref a :: rest)) rfl hml rfl hd hrf (by show 2 * 0 + _ + 12 ≤ _; omega) kk
end CELLS
end
section
/-! EVERY INTERNAL STEP -/
theorem it_some {α : Type} {P : Prop} [Decidable P] {a b : α} (h : (if P then some a else none) = some b) : P ∧ a = b := by
  split at h
  · rename_i p
    exact ⟨p, Option.some.inj h⟩
  · cases h
theorem wd_sz_le {a b : Nat} (h : a ≤ b) : wd_sz a ≤ wd_sz b := by
  induction b with
  | zero => rw [Nat.le_zero.mp h]; exact Nat.le_refl _
  | succ b ih =>
    rcases Nat.lt_or_ge a (b + 1) with q | q
    · exact Nat.le_trans (ih (by omega)) (Nat.le_add_right _ _)
    · rw [show a = b + 1 by omega]; exact Nat.le_refl _
theorem fl_kinds : ∀ b, b < fl_tot → ((fl_lay b).1 < 22 ∨ (fl_lay b).1 = 30 ∨ (fl_lay b).1 = 33 ∨ (fl_lay b).1 = 37 ∨ (fl_lay b).1 = 38) ∧ (fl_lay b).2 ≤ 5000 := by decide +kernel
theorem stI {E : wd_E} {lsA lsA' : Array Slot} {nL i : Nat} {ls ls2 : List (Option Value)} {v : Value} (hL : Lv E lsA nL ls) (hc : v.category = 1) (e : fl_store ls i v = some ls2) : i < nL ∧ (lv_has lsA' nL ((i, wd_v E v) :: (lv_al E ls).filter (fun q => !(q.1 == i) && !(q.1 + 1 == i && q.2.category == 2))) → Lv E lsA' nL ls2) := by
  have key : fl_nolong ls i = true ∧ i < ls.length ∧ ls2 = ls.set i (some v) := by
    unfold fl_store at e
    split at e
    · rename_i h1
      refine ⟨h1, ?_⟩
      split at e
      · exact absurd hc (by simp [Value.category])
      all_goals first
        | (have z := it_some e; exact ⟨z.1, z.2.symm⟩)
        | (cases e)
    · cases e
  obtain ⟨k1, k2, k3⟩ := key
  subst k3
  refine ⟨by rw [hL.2.2.1] at k2; exact k2, fun h' => ⟨h'.1, h'.2.1, by simpa using hL.2.2.1, fun j w hj => ?_⟩⟩
  by_cases hji : j = i
  · subst hji
    rw [List.getElem?_set_self k2] at hj
    cases hj
    exact h'.2.2 _ List.mem_cons_self
  · rw [List.getElem?_set_ne (Ne.symm hji)] at hj
    refine h'.2.2 (j, wd_v E w) (List.mem_cons_of_mem _ (List.mem_filter.mpr ⟨lv_al_mem.mpr ⟨w, hj, rfl⟩, ?_⟩))
    simp only [Bool.and_eq_true, Bool.not_eq_true', beq_eq_false_iff_ne, ne_eq, Bool.and_eq_false_iff]
    refine ⟨hji, ?_⟩
    by_cases hj1 : j + 1 = i
    · right
      subst hj1
      unfold fl_nolong at k1
      simp only [hj] at k1
      rw [wd_v_cat, eq_of_beq k1]
      decide
    · exact Or.inl hj1
theorem stJ {E : wd_E} {lsA lsA' : Array Slot} {nL i : Nat} {ls ls2 : List (Option Value)} {x : Int64} (hL : Lv E lsA nL ls) (e : fl_store ls i (.long x) = some ls2) : i + 1 < nL ∧ (lv_has lsA' nL ((i, Value.long x) :: (lv_al E ls).filter (fun q => !(q.1 == i) && (!(q.1 == i + 1) && !(q.1 + 1 == i && q.2.category == 2)))) → Lv E lsA' nL ls2) := by
  have key : fl_nolong ls i = true ∧ i + 1 < ls.length ∧ ls2 = (ls.set i (some (.long x))).set (i + 1) none := by
    unfold fl_store at e
    split at e
    · rename_i h1
      have z := it_some e
      exact ⟨h1, z.1, z.2.symm⟩
    · cases e
  obtain ⟨k1, k2, k3⟩ := key
  subst k3
  refine ⟨by rw [hL.2.2.1] at k2; exact k2, fun h' => ⟨h'.1, h'.2.1, by simpa using hL.2.2.1, fun j w hj => ?_⟩⟩
  by_cases hj1 : j = i + 1
  · subst hj1
    rw [List.getElem?_set_self (by simpa using k2)] at hj
    cases hj
  · rw [List.getElem?_set_ne (Ne.symm hj1)] at hj
    by_cases hji : j = i
    · subst hji
      rw [List.getElem?_set_self (by omega)] at hj
      cases hj
      exact h'.2.2 _ List.mem_cons_self
    · rw [List.getElem?_set_ne (Ne.symm hji)] at hj
      refine h'.2.2 (j, wd_v E w) (List.mem_cons_of_mem _ (List.mem_filter.mpr ⟨lv_al_mem.mpr ⟨w, hj, rfl⟩, ?_⟩))
      simp only [Bool.and_eq_true, Bool.not_eq_true', beq_eq_false_iff_ne, ne_eq, Bool.and_eq_false_iff]
      refine ⟨hji, hj1, ?_⟩
      by_cases hj2 : j + 1 = i
      · right
        subst hj2
        unfold fl_nolong at k1
        simp only [hj] at k1
        rw [wd_v_cat, eq_of_beq k1]
        decide
      · exact Or.inl hj2
section STEP
variable {p : Program} {l : Launch} {e : Env} {R : Room} {s : State} {m : MethodId} {args : Array Value} {below : List Frame} {meth : Method} {c : Code} {H : Heap} {locs : List Loc} {Q : State → Prop}
variable {E : wd_E} {g : Nat → Nat → Int32} {cA : Nat → ClassId} {n n' n0 mi : Nat} {h h' : Hp} {y : sm_M} {pc pc' : Nat} {lsA : Array Slot} {ls ls' : List (Option Value)} {st st' : List Value} {q : Smi}
set_option maxHeartbeats 4000000 in
theorem st_step (C : Ctx E g p s m args meth c y) (hy : sm_ms[mi]? = some y) (S : Sb E g cA n h s H locs) (hL : Lv E lsA y.2.2.1 ls) (hc : fl_code mi pc = some q) (hs : fl_step q (pc, ls, st, h, n) = some (.inl (pc', ls', st', h', n'))) (hn0 : n0 ≤ n) (hR : n' - n0 ≤ R.cells ∧ wd_sz n' - wd_sz n0 ≤ R.slots ∧ 1 ≤ R.frames ∧ 60 ≤ R.locals)
    (kk : ∀ (lsA' : Array Slot) (cA' : Nat → ClassId) (H' : Heap) (locs' : List Loc), Lv E lsA' y.2.2.1 ls' → Sb E g cA' n' h' s H' locs' → W p l e R s m args below meth c H' locs' (n' - n0) (wd_sz n' - wd_sz n0) Q (F0 m pc' lsA' (st'.map (wd_v E)))) :
    W p l e R s m args below meth c H locs (n - n0) (wd_sz n - wd_sz n0) Q (F0 m pc lsA (st.map (wd_v E))) := by
  obtain ⟨i, len, hd, hl⟩ := cd_dec hy hc
  have ho := sm_ownof hy
  have hst := cd_static hy hc
  obtain ⟨hx, hb, hml, hr, hown, hts, hT, hlocks, hbs, hnm⟩ := id C
  cases i
  case iconst v =>
    simp only [sm_low, sm_lower] at hl
    obtain ⟨rfl, rfl⟩ := it_some hl
    cases iv1 hs
    exact lv_iconst hx hb hd rfl (kk _ _ _ _ hL S)
  case bipush v =>
    simp only [sm_low, sm_lower] at hl
    split at hl
    · rename_i q0 n9 e9
      obtain ⟨h9, e10⟩ := it_some e9
      cases e10
      obtain ⟨rfl, rfl⟩ := it_some hl
      cases iv1 hs
      exact lv_bipush hx hb hd h9 (kk _ _ _ _ hL S)
    · cases hl
  case sipush v =>
    simp only [sm_low, sm_lower] at hl
    split at hl
    · rename_i q0 n9 e9
      obtain ⟨h9, e10⟩ := it_some e9
      cases e10
      obtain ⟨rfl, rfl⟩ := it_some hl
      cases iv1 hs
      exact lv_sipush hx hb hd h9 (kk _ _ _ _ hL S)
    · cases hl
  case ldc k =>
    simp only [sm_low, sm_lower] at hl
    cases hk : sm_at sm_rk y.2.2.2.2 k with
    | none => rw [hk] at hl; cases hl
    | some z =>
      obtain ⟨v, ps⟩ := z
      rw [hk] at hl
      simp only at hl
      obtain ⟨rfl, rfl⟩ := it_some hl
      cases iv1 hs
      exact lv_ldc hx hb hown (hts _ (sw_tbl (sw_of sw_kall ho hk))) hd (kk _ _ _ _ hL S)
  case ldc_w k =>
    simp only [sm_low, sm_lower] at hl
    cases hk : sm_at sm_rk y.2.2.2.2 k with
    | none => rw [hk] at hl; cases hl
    | some z =>
      obtain ⟨v, ps⟩ := z
      rw [hk] at hl
      simp only at hl
      obtain ⟨rfl, rfl⟩ := it_some hl
      cases iv1 hs
      exact lv_ldcw hx hb hown (hts _ (sw_tbl (sw_of sw_kall ho hk))) hd (kk _ _ _ _ hL S)
  case ldc2_w k =>
    simp only [sm_low, sm_lower] at hl
    cases hk : sm_at sm_rl y.2.2.2.2 k with
    | none => rw [hk] at hl; cases hl
    | some z =>
      obtain ⟨v, ps⟩ := z
      rw [hk] at hl
      simp only at hl
      obtain ⟨rfl, rfl⟩ := it_some hl
      cases iv39 hs
      exact lv_ldc2 hx hb hown (hts _ (sw_tbl (sw_of sw_lall ho hk))) hd (kk _ _ _ _ hL S)
  case lconst k =>
    simp only [sm_low, sm_lower] at hl
    obtain ⟨rfl, rfl⟩ := it_some hl
    cases iv39 hs
    exact lv_lconst hx hb hd rfl (kk _ _ _ _ hL S)
  case iload k =>
    simp only [sm_low, sm_lower] at hl
    obtain ⟨rfl, rfl⟩ := it_some hl
    obtain ⟨v, e1, e2, e3⟩ := iv2 hs
    cases e3
    obtain ⟨x, rfl⟩ := is_int e2
    rw [Int.toNat_natCast] at e1
    exact lv_iload hx hb hd (hL.2.2.2 _ _ e1) (kk _ _ _ _ hL S)
  case iload_n k =>
    simp only [sm_low, sm_lower] at hl
    obtain ⟨rfl, rfl⟩ := it_some hl
    obtain ⟨v, e1, e2, e3⟩ := iv2 hs
    cases e3
    obtain ⟨x, rfl⟩ := is_int e2
    rw [Int.toNat_natCast] at e1
    exact lv_iload_n hx hb hd rfl (hL.2.2.2 _ _ e1) (kk _ _ _ _ hL S)
  case lload k =>
    simp only [sm_low, sm_lower] at hl
    obtain ⟨rfl, rfl⟩ := it_some hl
    obtain ⟨v, e1, e2, e3⟩ := iv2 hs
    cases e3
    obtain ⟨x, rfl⟩ := is_long e2
    rw [Int.toNat_natCast] at e1
    exact lv_lload hx hb hd (hL.2.2.2 _ _ e1) (kk _ _ _ _ hL S)
  case lload_n k =>
    simp only [sm_low, sm_lower] at hl
    obtain ⟨rfl, rfl⟩ := it_some hl
    obtain ⟨v, e1, e2, e3⟩ := iv2 hs
    cases e3
    obtain ⟨x, rfl⟩ := is_long e2
    rw [Int.toNat_natCast] at e1
    exact lv_lload_n hx hb hd rfl (hL.2.2.2 _ _ e1) (kk _ _ _ _ hL S)
  case aload k =>
    simp only [sm_low, sm_lower] at hl
    obtain ⟨rfl, rfl⟩ := it_some hl
    obtain ⟨v, e1, e2, e3⟩ := iv2 hs
    cases e3
    obtain ⟨b, rfl⟩ := is_ref e2
    rw [Int.toNat_natCast] at e1
    cases b with
    | none => exact lv_aloadN hx hb hd (hL.2.2.2 _ _ e1) (kk _ _ _ _ hL S)
    | some b => exact lv_aload hx hb hd (hL.2.2.2 _ _ e1) (kk _ _ _ _ hL S)
  case aload_n k =>
    simp only [sm_low, sm_lower] at hl
    obtain ⟨rfl, rfl⟩ := it_some hl
    obtain ⟨v, e1, e2, e3⟩ := iv2 hs
    cases e3
    obtain ⟨b, rfl⟩ := is_ref e2
    rw [Int.toNat_natCast] at e1
    cases b with
    | none => exact lv_aload_nN hx hb hd rfl (hL.2.2.2 _ _ e1) (kk _ _ _ _ hL S)
    | some b => exact lv_aload_n hx hb hd rfl (hL.2.2.2 _ _ e1) (kk _ _ _ _ hL S)
  case istore k =>
    simp only [sm_low, sm_lower] at hl
    obtain ⟨rfl, rfl⟩ := it_some hl
    obtain ⟨v, st2, ls2, rfl, e2, e3, e4⟩ := iv3 hs
    cases e4
    obtain ⟨x, rfl⟩ := is_int e2
    rw [Int.toNat_natCast] at e3
    exact lv_istore hx hb hd hL.has (stI (lsA' := lsA) hL rfl e3).1 rfl (fun lsA' z => kk _ _ _ _ ((stI hL rfl e3).2 z) S)
  case lstore k =>
    simp only [sm_low, sm_lower] at hl
    obtain ⟨rfl, rfl⟩ := it_some hl
    obtain ⟨v, st2, ls2, rfl, e2, e3, e4⟩ := iv3 hs
    cases e4
    obtain ⟨x, rfl⟩ := is_long e2
    rw [Int.toNat_natCast] at e3
    exact lv_lstore hx hb hd hL.has (stJ (lsA' := lsA) hL e3).1 rfl (fun lsA' z => kk _ _ _ _ ((stJ hL e3).2 z) S)
  case astore k =>
    simp only [sm_low, sm_lower] at hl
    obtain ⟨rfl, rfl⟩ := it_some hl
    obtain ⟨v, st3, ls2, rfl, e2, e3, e4⟩ := iv3 hs
    cases e4
    obtain ⟨b, rfl⟩ := is_ref e2
    rw [Int.toNat_natCast] at e3
    cases b with
    | none => exact lv_astoreN hx hb hd hL.has (stI (lsA' := lsA) hL rfl e3).1 rfl (fun lsA' z => kk _ _ _ _ ((stI hL rfl e3).2 z) S)
    | some b => exact lv_astore hx hb hd hL.has (stI (lsA' := lsA) hL rfl e3).1 rfl (fun lsA' z => kk _ _ _ _ ((stI hL rfl e3).2 z) S)
  case istore_n k =>
    simp only [sm_low, sm_lower] at hl
    obtain ⟨rfl, rfl⟩ := it_some hl
    obtain ⟨v, st2, ls2, rfl, e2, e3, e4⟩ := iv3 hs
    cases e4
    obtain ⟨x, rfl⟩ := is_int e2
    rw [Int.toNat_natCast] at e3
    exact lv_istore_n hx hb hd rfl hL.has (stI (lsA' := lsA) hL rfl e3).1 rfl (fun lsA' z => kk _ _ _ _ ((stI hL rfl e3).2 z) S)
  case lstore_n k =>
    simp only [sm_low, sm_lower] at hl
    obtain ⟨rfl, rfl⟩ := it_some hl
    obtain ⟨v, st2, ls2, rfl, e2, e3, e4⟩ := iv3 hs
    cases e4
    obtain ⟨x, rfl⟩ := is_long e2
    rw [Int.toNat_natCast] at e3
    exact lv_lstore_n hx hb hd rfl hL.has (stJ (lsA' := lsA) hL e3).1 rfl (fun lsA' z => kk _ _ _ _ ((stJ hL e3).2 z) S)
  case astore_n k =>
    simp only [sm_low, sm_lower] at hl
    obtain ⟨rfl, rfl⟩ := it_some hl
    obtain ⟨v, st3, ls2, rfl, e2, e3, e4⟩ := iv3 hs
    cases e4
    obtain ⟨b, rfl⟩ := is_ref e2
    rw [Int.toNat_natCast] at e3
    cases b with
    | none => exact lv_astore_nN hx hb hd rfl hL.has (stI (lsA' := lsA) hL rfl e3).1 rfl (fun lsA' z => kk _ _ _ _ ((stI hL rfl e3).2 z) S)
    | some b => exact lv_astore_n hx hb hd rfl hL.has (stI (lsA' := lsA) hL rfl e3).1 rfl (fun lsA' z => kk _ _ _ _ ((stI hL rfl e3).2 z) S)
  case iinc k d =>
    simp only [sm_low, sm_lower] at hl
    obtain ⟨rfl, rfl⟩ := it_some hl
    obtain ⟨x, ls2, e1, e2, e3⟩ := iv4 hs
    cases e3
    rw [Int.toNat_natCast] at e1 e2
    obtain ⟨j, hj⟩ := List.getElem?_of_mem (lv_al_mem (E := E) (q := (k, .int x)) |>.mpr ⟨_, e1, rfl⟩)
    exact lv_iinc hx hb hd hL.has hj rfl (stI (lsA' := lsA) hL rfl e2).1 rfl (fun lsA' z => kk _ _ _ _ ((stI hL rfl e2).2 z) S)
  case iadd =>
    simp only [sm_low, sm_lower] at hl
    obtain ⟨rfl, rfl⟩ := it_some hl
    obtain ⟨x, yv, z, st2, rfl, e1, e2⟩ := iv5 hs
    cases e2
    cases e1
    exact lv_iadd hx hb hd (kk _ _ _ _ hL S)
  case isub =>
    simp only [sm_low, sm_lower] at hl
    obtain ⟨rfl, rfl⟩ := it_some hl
    obtain ⟨x, yv, z, st2, rfl, e1, e2⟩ := iv5 hs
    cases e2
    cases e1
    exact lv_isub hx hb hd (kk _ _ _ _ hL S)
  case imul =>
    simp only [sm_low, sm_lower] at hl
    obtain ⟨rfl, rfl⟩ := it_some hl
    obtain ⟨x, yv, z, st2, rfl, e1, e2⟩ := iv5 hs
    cases e2
    cases e1
    exact lv_imul hx hb hd (kk _ _ _ _ hL S)
  case idiv =>
    simp only [sm_low, sm_lower] at hl
    obtain ⟨rfl, rfl⟩ := it_some hl
    obtain ⟨x, yv, z, st2, rfl, e1, e2⟩ := iv5 hs
    cases e2
    have hne : ¬ yv = 0 := by
      intro z9
      simp [fl_bin, z9] at e1
    simp only [fl_bin, if_neg hne] at e1
    cases e1
    exact lv_idiv hx hb hd hne (kk _ _ _ _ hL S)
  case irem =>
    simp only [sm_low, sm_lower] at hl
    obtain ⟨rfl, rfl⟩ := it_some hl
    obtain ⟨x, yv, z, st2, rfl, e1, e2⟩ := iv5 hs
    cases e2
    have hne : ¬ yv = 0 := by
      intro z9
      simp [fl_bin, z9] at e1
    simp only [fl_bin, if_neg hne] at e1
    cases e1
    exact lv_irem hx hb hd hne (kk _ _ _ _ hL S)
  case ishl =>
    simp only [sm_low, sm_lower] at hl
    obtain ⟨rfl, rfl⟩ := it_some hl
    obtain ⟨x, yv, z, st2, rfl, e1, e2⟩ := iv5 hs
    cases e2
    cases e1
    exact lv_ishl hx hb hd (kk _ _ _ _ hL S)
  case ishr =>
    simp only [sm_low, sm_lower] at hl
    obtain ⟨rfl, rfl⟩ := it_some hl
    obtain ⟨x, yv, z, st2, rfl, e1, e2⟩ := iv5 hs
    cases e2
    cases e1
    exact lv_ishr hx hb hd (kk _ _ _ _ hL S)
  case iushr =>
    simp only [sm_low, sm_lower] at hl
    obtain ⟨rfl, rfl⟩ := it_some hl
    obtain ⟨x, yv, z, st2, rfl, e1, e2⟩ := iv5 hs
    cases e2
    cases e1
    exact lv_iushr hx hb hd rfl (kk _ _ _ _ hL S)
  case iand =>
    simp only [sm_low, sm_lower] at hl
    obtain ⟨rfl, rfl⟩ := it_some hl
    obtain ⟨x, yv, z, st2, rfl, e1, e2⟩ := iv5 hs
    cases e2
    cases e1
    exact lv_iand hx hb hd (kk _ _ _ _ hL S)
  case ior =>
    simp only [sm_low, sm_lower] at hl
    obtain ⟨rfl, rfl⟩ := it_some hl
    obtain ⟨x, yv, z, st2, rfl, e1, e2⟩ := iv5 hs
    cases e2
    cases e1
    exact lv_ior hx hb hd (kk _ _ _ _ hL S)
  case ixor =>
    simp only [sm_low, sm_lower] at hl
    obtain ⟨rfl, rfl⟩ := it_some hl
    obtain ⟨x, yv, z, st2, rfl, e1, e2⟩ := iv5 hs
    cases e2
    cases e1
    exact lv_ixor hx hb hd (kk _ _ _ _ hL S)
  case ifCond cc o =>
    simp only [sm_low, sm_lower] at hl
    split at hl
    · rename_i q0 n9 e9
      obtain ⟨h9, e10⟩ := it_some e9
      cases e10
      obtain ⟨rfl, rfl⟩ := it_some hl
      obtain ⟨x, b, st2, rfl, e1, e2⟩ := iv6 hs
      have ht : (pc : Int) + o = (((pc : Int) + o).toNat : Int) := (Int.toNat_of_nonneg h9).symm
      cases cc <;> cases e1 <;> cases e2
      · exact lv_if_eq hx hb hd ht (fun z => by have k9 := kk _ _ _ _ hL S; simpa [z] using k9) (fun z => by have k9 := kk _ _ _ _ hL S; simpa [z] using k9)
      · exact lv_if_ne hx hb hd ht (fun z => by have k9 := kk _ _ _ _ hL S; simpa [z] using k9) (fun z => by have k9 := kk _ _ _ _ hL S; simpa [z] using k9)
      · exact lv_if_lt hx hb hd ht (fun z => by have k9 := kk _ _ _ _ hL S; simpa [z] using k9) (fun z => by have k9 := kk _ _ _ _ hL S; simpa [z] using k9)
      · exact lv_if_ge hx hb hd ht (fun z => by have k9 := kk _ _ _ _ hL S; simpa [z] using k9) (fun z => by have k9 := kk _ _ _ _ hL S; simpa [z] using k9)
      · exact lv_if_gt hx hb hd ht (fun z => by have k9 := kk _ _ _ _ hL S; simpa [z] using k9) (fun z => by have k9 := kk _ _ _ _ hL S; simpa [z] using k9)
      · exact lv_if_le hx hb hd ht (fun z => by have k9 := kk _ _ _ _ hL S; simpa [z] using k9) (fun z => by have k9 := kk _ _ _ _ hL S; simpa [z] using k9)
    · cases hl
  case if_icmp cc o =>
    simp only [sm_low, sm_lower] at hl
    split at hl
    · rename_i q0 n9 e9
      obtain ⟨h9, e10⟩ := it_some e9
      cases e10
      obtain ⟨rfl, rfl⟩ := it_some hl
      obtain ⟨x, yv, b, st2, rfl, e1, e2⟩ := iv7 hs
      have ht : (pc : Int) + o = (((pc : Int) + o).toNat : Int) := (Int.toNat_of_nonneg h9).symm
      cases cc <;> cases e1 <;> cases e2
      · exact lv_icmp_eq hx hb hd ht (fun z => by have k9 := kk _ _ _ _ hL S; simpa [z] using k9) (fun z => by have k9 := kk _ _ _ _ hL S; simpa [z] using k9)
      · exact lv_icmp_ne hx hb hd ht (fun z => by have k9 := kk _ _ _ _ hL S; simpa [z] using k9) (fun z => by have k9 := kk _ _ _ _ hL S; simpa [z] using k9)
      · exact lv_icmp_lt hx hb hd ht (fun z => by have k9 := kk _ _ _ _ hL S; simpa [z] using k9) (fun z => by have k9 := kk _ _ _ _ hL S; simpa [z] using k9)
      · exact lv_icmp_ge hx hb hd ht (fun z => by have k9 := kk _ _ _ _ hL S; simpa [z] using k9) (fun z => by have k9 := kk _ _ _ _ hL S; simpa [z] using k9)
      · exact lv_icmp_gt hx hb hd ht (fun z => by have k9 := kk _ _ _ _ hL S; simpa [z] using k9) (fun z => by have k9 := kk _ _ _ _ hL S; simpa [z] using k9)
      · exact lv_icmp_le hx hb hd ht (fun z => by have k9 := kk _ _ _ _ hL S; simpa [z] using k9) (fun z => by have k9 := kk _ _ _ _ hL S; simpa [z] using k9)
    · cases hl
  case goto o =>
    simp only [sm_low, sm_lower] at hl
    split at hl
    · rename_i q0 n9 e9
      obtain ⟨h9, e10⟩ := it_some e9
      cases e10
      obtain ⟨rfl, rfl⟩ := it_some hl
      cases iv8 hs
      exact lv_goto hx hb hd (Int.toNat_of_nonneg h9).symm (kk _ _ _ _ hL S)
    · cases hl
  case getfield k =>
    simp only [sm_low, sm_lower] at hl
    cases hk : sm_at sm_rf y.2.2.2.2 k with
    | none => rw [hk] at hl; cases hl
    | some z =>
      obtain ⟨ci, j, ps⟩ := z
      rw [hk] at hl
      simp only at hl
      obtain ⟨rfl, rfl⟩ := it_some hl
      obtain ⟨b, st2, rfl, e1, e2, e3⟩ := iv9 hs
      simp only [Int.toNat_natCast] at e2 e3
      refine rw_get C S e1 e2 hk ho hd ?_
      rcases e3 with ⟨z1, z2⟩ | ⟨z1, z2⟩
      · cases z2
        rw [show wd_f h ci b j = .int (h.1 b j) from if_neg (by omega)]
        exact kk _ _ _ _ hL S
      · cases z2
        rw [show wd_f h ci b j = fl_rv (h.2 b j) from if_pos z1]
        exact kk _ _ _ _ hL S
  case putfield k =>
    simp only [sm_low, sm_lower] at hl
    cases hk : sm_at sm_rf y.2.2.2.2 k with
    | none => rw [hk] at hl; cases hl
    | some z =>
      obtain ⟨ci, j, ps⟩ := z
      rw [hk] at hl
      simp only at hl
      obtain ⟨rfl, rfl⟩ := it_some hl
      obtain ⟨v, b, st2, rfl, e1, e2, e3⟩ := iv10 hs
      simp only [Int.toNat_natCast] at e2 e3
      rcases e3 with ⟨z1, x, z2, z3, z4⟩ | ⟨z1, x, z2, z3⟩
      · cases z4
        refine rw_put (h' := fl_setI h b j x) C S e1 e2 hk ho hd hst (Or.inl ⟨z1, x, z2, z3⟩) (fun j9 h9 => ⟨by funext q9; simp [fl_setI, h9], rfl⟩) (fun j9 h9 => ?_) ?_ (fun H1 locs1 S1 => kk _ _ _ _ hL S1)
        · unfold wd_f
          split
          · rfl
          · simp [fl_setI, h9]
        · rw [z2]
          unfold wd_f
          rw [if_neg (by omega)]
          simp [fl_setI]
      · cases z3
        refine rw_put (h' := fl_setR h b j x) C S e1 e2 hk ho hd hst (Or.inr ⟨z1, x, z2⟩) (fun j9 h9 => ⟨rfl, by funext q9; simp [fl_setR, h9]⟩) (fun j9 h9 => ?_) ?_ (fun H1 locs1 S1 => kk _ _ _ _ hL S1)
        · unfold wd_f
          split
          · simp [fl_setR, h9]
          · rfl
        · rw [z2]
          unfold wd_f
          rw [if_pos z1]
          simp [fl_setR]
  case iaload =>
    simp only [sm_low, sm_lower] at hl
    obtain ⟨rfl, rfl⟩ := it_some hl
    obtain ⟨j, b, st2, rfl, e1, e2, e3⟩ := iv11 hs
    cases e3
    exact rw_iald C S e1 e2 hd (kk _ _ _ _ hL S)
  case iastore =>
    simp only [sm_low, sm_lower] at hl
    obtain ⟨rfl, rfl⟩ := it_some hl
    obtain ⟨x, j, b, st2, rfl, e1, e2, e3, e4⟩ := iv12 hs
    cases e4
    exact rw_iast C S e1 e2 e3 hd (fun H1 locs1 S1 => kk _ _ _ _ hL S1)
  case baload =>
    simp only [sm_low, sm_lower] at hl
    obtain ⟨rfl, rfl⟩ := it_some hl
    obtain ⟨j, b, st2, rfl, e1, e2, e3, e4⟩ := iv13 hs
    cases e4
    exact rw_bald C S e1 e2 e3 hd (kk _ _ _ _ hL S)
  case bastore =>
    simp only [sm_low, sm_lower] at hl
    obtain ⟨rfl, rfl⟩ := it_some hl
    obtain ⟨x, j, b, st2, rfl, e1, e2, e3, e4, e5, e6⟩ := iv14 hs
    cases e6
    exact rw_bast C S e1 e2 e3 e4 e5 hd (fun H1 locs1 S1 => kk _ _ _ _ hL S1)
  case aaload =>
    simp only [sm_low, sm_lower] at hl
    obtain ⟨rfl, rfl⟩ := it_some hl
    obtain ⟨j, b, st2, rfl, e1, e2, e3, e4, e5⟩ := iv15 hs
    cases e5
    exact rw_aald C S e1 e2 e3 e4 hd (kk _ _ _ _ hL S)
  case aastore =>
    simp only [sm_low, sm_lower] at hl
    obtain ⟨rfl, rfl⟩ := it_some hl
    obtain ⟨x, j, b, st2, rfl, e1, e2, e3, e4, e5, e6, e7⟩ := iv16 hs
    cases e7
    exact rw_aast C S e1 e2 e3 e4 e5 e6 hd (fun H1 locs1 S1 => kk _ _ _ _ hL S1)
  case arraylength =>
    simp only [sm_low, sm_lower] at hl
    obtain ⟨rfl, rfl⟩ := it_some hl
    obtain ⟨b, st2, rfl, e1, e2⟩ := iv17 hs
    cases e2
    exact rw_alen C S e1 (fun z => by have := (fl_kinds b (Nat.lt_of_lt_of_le z S.1.1)).1; omega) hd (kk _ _ _ _ hL S)
  case invokevirtual k =>
    simp only [sm_low, sm_lower] at hl
    cases hk : sm_at sm_rm y.2.2.2.2 k with
    | none => rw [hk] at hl; cases hl
    | some z =>
      obtain ⟨m2, ps, nest⟩ := z
      rw [hk] at hl
      simp only at hl
      exfalso
      split at hl
      · rename_i q0 n9 e9
        split at e9
        · split at e9
          · cases e9
            obtain ⟨rfl, rfl⟩ := it_some hl
            have z9 := (ivcall (iv18 hs)).2.2.1
            cases z9
          · cases e9
        · cases e9
      · cases hl
  case invokestatic k =>
    simp only [sm_low, sm_lower] at hl
    split at hl
    · rename_i q0 n9 e9
      split at e9
      · rename_i ps nest hk
        cases e9
        obtain ⟨rfl, rfl⟩ := it_some hl
        obtain ⟨x9, dp, b, sp, o, st2, rfl, ⟨k1, k2, k3, k4, k5, k6, k7, k8, k9, k10, k11⟩, e2⟩ := iv41 hs
        cases e2
        have hw := sw_of sw_rall ho hk
        simp only [sw_r] at hw
        rw [if_neg (by decide), if_pos trivial] at hw
        exact rw_copy C S k1 k2 k3 k4 k5 k6 k7 k8 k9 k10 (hts _ (sw_tbl hw)) (by rw [hml, hL.1]) hR.2.2.1 hR.2.2.2 (by rw [wd_cat]; exact k11) hd (fun H1 locs1 S1 => kk _ _ _ _ hL S1)
      · exfalso
        split at e9
        · split at e9
          · cases e9
            obtain ⟨rfl, rfl⟩ := it_some hl
            have z9 := (ivcall (iv19 hs)).2.2.1
            cases z9
          · cases e9
        · cases e9
      · cases e9
    · cases hl
  case invokespecial k =>
    simp only [sm_low, sm_lower] at hl
    split at hl
    · rename_i q0 n9 e9
      split at e9
      · rename_i ps nest hk
        cases e9
        obtain ⟨rfl, rfl⟩ := it_some hl
        obtain ⟨b, st2, rfl, e1, e2⟩ := iv42 hs
        cases e2
        have hw := sw_of sw_rall ho hk
        simp only [sw_r] at hw
        rw [if_pos trivial] at hw
        exact rw_obj C (hts _ (sw_tbl hw)) (by rw [hml, hL.1]) hR.2.2.1 hR.2.2.2 (by rw [wd_cat]; exact e1) hd (kk _ _ _ _ hL S)
      · exfalso
        split at e9
        · split at e9
          · cases e9
            obtain ⟨rfl, rfl⟩ := it_some hl
            have z9 := (ivcall (iv20 hs)).2.2.1
            cases z9
          · cases e9
        · cases e9
      · cases e9
    · cases hl
  case return_ =>
    simp only [sm_low, sm_lower] at hl
    obtain ⟨rfl, rfl⟩ := it_some hl
    have z9 := (iv21 hs).2
    cases z9
  case ireturn =>
    simp only [sm_low] at hl
    split at hl
    · split at hl
      · cases hl
        obtain ⟨x, e1, e2, e3⟩ := iv22 hs
        cases e3
      · cases hl
        obtain ⟨x, e1, e2, e3⟩ := iv22 hs
        cases e3
      · cases hl
    · cases hl
  case lreturn =>
    simp only [sm_low, sm_lower] at hl
    obtain ⟨rfl, rfl⟩ := it_some hl
    obtain ⟨x, e1, e2⟩ := iv23 hs
    cases e2
  case areturn =>
    simp only [sm_low, sm_lower] at hl
    obtain ⟨rfl, rfl⟩ := it_some hl
    obtain ⟨x, e1, e2⟩ := iv24 hs
    cases e2
  case dup =>
    simp only [sm_low, sm_lower] at hl
    obtain ⟨rfl, rfl⟩ := it_some hl
    obtain ⟨v, st2, rfl, e1, e2⟩ := iv25 hs
    cases e2
    exact lv_dup hx hb hd (by rw [wd_v_cat]; exact e1) (kk _ _ _ _ hL S)
  case dup2 =>
    simp only [sm_low, sm_lower] at hl
    obtain ⟨rfl, rfl⟩ := it_some hl
    rcases iv26 hs with ⟨x, st2, rfl, e1⟩ | ⟨v, w, st2, rfl, e1, e2, e3⟩
    · cases e1
      exact lv_dup2_2 hx hb hd rfl (kk _ _ _ _ hL S)
    · cases e3
      exact lv_dup2_11 hx hb hd (by rw [wd_v_cat]; exact e1) (by rw [wd_v_cat]; exact e2) (kk _ _ _ _ hL S)
  case pop =>
    simp only [sm_low, sm_lower] at hl
    obtain ⟨rfl, rfl⟩ := it_some hl
    obtain ⟨v, st2, rfl, e1, e2⟩ := iv27 hs
    cases e2
    exact lv_pop hx hb hd (by rw [wd_v_cat]; exact e1) (kk _ _ _ _ hL S)
  case pop2 =>
    simp only [sm_low, sm_lower] at hl
    obtain ⟨rfl, rfl⟩ := it_some hl
    rcases iv28 hs with ⟨x, st2, rfl, e1⟩ | ⟨v, w, st2, rfl, e1, e2, e3⟩
    · cases e1
      exact lv_pop2_2 hx hb hd rfl (kk _ _ _ _ hL S)
    · cases e3
      exact lv_pop2_11 hx hb hd (by rw [wd_v_cat]; exact e1) (by rw [wd_v_cat]; exact e2) (kk _ _ _ _ hL S)
  case new k =>
    simp only [sm_low, sm_lower] at hl
    cases hk : sm_at sm_rc y.2.2.2.2 k with
    | none => rw [hk] at hl; cases hl
    | some z =>
      obtain ⟨ci, ps⟩ := z
      rw [hk] at hl
      simp only at hl
      obtain ⟨rfl, rfl⟩ := it_some hl
      obtain ⟨e1, e2, e3⟩ := iv29 hs
      simp only [Int.toNat_natCast] at e2
      cases e3
      have hle := wd_sz_le hn0
      have q1 : n + 1 - n0 = n - n0 + 1 := by omega
      have q2 : wd_sz (n + 1) - wd_sz n0 = wd_sz n - wd_sz n0 + (fl_lay n).2 := by show wd_sz n + (fl_lay n).2 - wd_sz n0 = _; omega
      rw [q1, q2] at hR kk
      exact rw_new C S e1 e2 hk ho hR.1 hR.2.1 hd (fun H1 S1 => kk _ _ _ _ hL S1)
  case newarray aty =>
    cases aty
    case int =>
      simp only [sm_low, sm_lower] at hl
      obtain ⟨rfl, rfl⟩ := it_some hl
      obtain ⟨x, st2, rfl, e1, e2, e3, e4⟩ := iv30 hs
      cases e4
      have hle := wd_sz_le hn0
      have q1 : n + 1 - n0 = n - n0 + 1 := by omega
      have q2 : wd_sz (n + 1) - wd_sz n0 = wd_sz n - wd_sz n0 + (fl_lay n).2 := by show wd_sz n + (fl_lay n).2 - wd_sz n0 = _; omega
      rw [q1, q2] at hR kk
      exact rw_newa C S (ty := .int) rfl (Or.inl ⟨rfl, rfl⟩) e1 e2 e3 (fl_kinds n e1).2 hR.1 hR.2.1 hd (fun H1 cA' S1 => kk _ _ _ _ hL S1)
    case boolean =>
      simp only [sm_low, sm_lower] at hl
      obtain ⟨rfl, rfl⟩ := it_some hl
      obtain ⟨x, st2, rfl, e1, e2, e3, e4⟩ := iv30 hs
      cases e4
      have hle := wd_sz_le hn0
      have q1 : n + 1 - n0 = n - n0 + 1 := by omega
      have q2 : wd_sz (n + 1) - wd_sz n0 = wd_sz n - wd_sz n0 + (fl_lay n).2 := by show wd_sz n + (fl_lay n).2 - wd_sz n0 = _; omega
      rw [q1, q2] at hR kk
      exact rw_newa C S (ty := .boolean) rfl (Or.inr ⟨rfl, rfl⟩) e1 e2 e3 (fl_kinds n e1).2 hR.1 hR.2.1 hd (fun H1 cA' S1 => kk _ _ _ _ hL S1)
    all_goals (simp only [sm_low, sm_lower] at hl; cases hl)
  case anewarray k =>
    simp only [sm_low, sm_lower] at hl
    cases hk : sm_at sm_rc y.2.2.2.2 k with
    | none => rw [hk] at hl; cases hl
    | some z =>
      obtain ⟨ci, ps⟩ := z
      rw [hk] at hl
      simp only at hl
      obtain ⟨rfl, rfl⟩ := it_some hl
      obtain ⟨x, st2, rfl, e1, e2, e3, e4⟩ := iv31 hs
      simp only [Int.toNat_natCast] at e3
      cases e4
      have hle := wd_sz_le hn0
      have q1 : n + 1 - n0 = n - n0 + 1 := by omega
      have q2 : wd_sz (n + 1) - wd_sz n0 = wd_sz n - wd_sz n0 + (fl_lay n).2 := by show wd_sz n + (fl_lay n).2 - wd_sz n0 = _; omega
      rw [q1, q2] at hR kk
      have hkd := (fl_kinds n e1).1
      rw [e3] at hkd
      simp only at hkd
      exact rw_newq C S e1 e2 e3 (fl_kinds n e1).2 (by omega) hk ho hR.1 hR.2.1 hd (fun H1 cA' S1 => kk _ _ _ _ hL S1)
  case getstatic k =>
    simp only [sm_low, sm_lower] at hl
    cases hk : sm_at sm_rs y.2.2.2.2 k with
    | none => rw [hk] at hl; cases hl
    | some z =>
      obtain ⟨j, ps, nest⟩ := z
      rw [hk] at hl
      simp only at hl
      obtain ⟨rfl, rfl⟩ := it_some hl
      cases iv32 hs
      exact rw_gets C S hk ho hd (kk _ _ _ _ hL S)
  case ifnull o =>
    simp only [sm_low, sm_lower] at hl
    split at hl
    · rename_i q0 n9 e9
      obtain ⟨h9, e10⟩ := it_some e9
      cases e10
      obtain ⟨rfl, rfl⟩ := it_some hl
      rcases iv33 hs with ⟨st2, rfl, e1⟩ | ⟨b, st2, rfl, e1⟩
      · cases e1
        exact lv_ifnullN hx hb hd (Int.toNat_of_nonneg h9).symm (kk _ _ _ _ hL S)
      · cases e1
        exact lv_ifnull hx hb hd (kk _ _ _ _ hL S)
    · cases hl
  case ifnonnull o =>
    simp only [sm_low, sm_lower] at hl
    split at hl
    · rename_i q0 n9 e9
      obtain ⟨h9, e10⟩ := it_some e9
      cases e10
      obtain ⟨rfl, rfl⟩ := it_some hl
      rcases iv34 hs with ⟨st2, rfl, e1⟩ | ⟨b, st2, rfl, e1⟩
      · cases e1
        exact lv_ifnonnullN hx hb hd (kk _ _ _ _ hL S)
      · cases e1
        exact lv_ifnonnull hx hb hd (Int.toNat_of_nonneg h9).symm (kk _ _ _ _ hL S)
    · cases hl
  case aconst_null =>
    simp only [sm_low, sm_lower] at hl
    obtain ⟨rfl, rfl⟩ := it_some hl
    cases iv35 hs
    exact lv_null hx hb hd (kk _ _ _ _ hL S)
  case i2l =>
    simp only [sm_low, sm_lower] at hl
    obtain ⟨rfl, rfl⟩ := it_some hl
    obtain ⟨x, st2, rfl, e1⟩ := iv36 hs
    cases e1
    exact lv_i2l hx hb hd rfl (kk _ _ _ _ hL S)
  case ladd =>
    simp only [sm_low, sm_lower] at hl
    obtain ⟨rfl, rfl⟩ := it_some hl
    obtain ⟨x, yv, st2, rfl, e1⟩ := iv37 hs
    cases e1
    exact lv_ladd hx hb hd (kk _ _ _ _ hL S)
  case lmul =>
    simp only [sm_low, sm_lower] at hl
    obtain ⟨rfl, rfl⟩ := it_some hl
    obtain ⟨x, yv, st2, rfl, e1⟩ := iv38 hs
    cases e1
    exact lv_lmul hx hb hd (kk _ _ _ _ hL S)
  case tableswitch df lo hi offs =>
    simp only [sm_low] at hl
    obtain ⟨⟨⟨h1, h2⟩, h3, h4⟩, e9⟩ := it_some hl
    cases e9
    obtain ⟨x, st2, rfl, e1⟩ := iv40 hs
    have hdf : (pc : Int) + df = (((pc : Int) + df).toNat : Int) := (Int.toNat_of_nonneg h3).symm
    have hlen : (offs.toList.map (fun o => (pc : Int) + o)).length = (hi + 1 - lo).toNat := by simpa using h2
    rcases e1 with ⟨z1, z2⟩ | ⟨z1, z2, z3⟩ | ⟨z1, t, z2, z3⟩
    · cases z2
      exact lv_tableOut hx hb hd (Or.inl z1) hdf (kk _ _ _ _ hL S)
    · cases z3
      have z4 := List.getElem?_eq_none_iff.mp z2
      rw [hlen] at z4
      exact lv_tableOut hx hb hd (Or.inr (by omega)) hdf (kk _ _ _ _ hL S)
    · cases z3
      have z4 := (List.getElem?_eq_some_iff.mp z2).1
      rw [hlen] at z4
      rw [List.getElem?_map] at z2
      obtain ⟨off, z5, z6⟩ := Option.map_eq_some_iff.mp z2
      subst z6
      have z7 : offs[(x.toInt - lo).toNat]? = some off := by rw [← Array.getElem?_toList]; exact z5
      have z8 : 0 ≤ (pc : Int) + off := by
        have z9 := (Array.all_eq_true_iff_forall_mem.mp h4) off (Array.mem_of_getElem? z7)
        exact of_decide_eq_true z9
      exact lv_tableIn hx hb hd z1 (by omega) z7 (Int.toNat_of_nonneg z8).symm (kk _ _ _ _ hL S)
  all_goals (simp only [sm_low, sm_lower] at hl; cases hl)
end STEP
end
section
/-! A RUN OF THE FLAT MACHINE IS A RUN OF THE MACHINE -/
theorem fl_step_mono {q : Smi} {c c' : Cfg} (hs : fl_step q c = some (.inl c')) : c.2.2.2.2 ≤ c'.2.2.2.2 := by
  obtain ⟨op, a, nx⟩ := q
  obtain ⟨pc, ls, st, h, n⟩ := c
  have hcall : ∀ {b i m k nx} {ls : List (Option Value)} {st h n c'}, fl_call b i m k nx ls st h n ≠ some (.inl c') := by
    intro b i m k nx ls st h n c' z
    have := (ivcall z).2.2.1
    cases this
  unfold fl_step at hs
  simp only at hs
  split at hs
  all_goals (repeat' (split at hs))
  all_goals first
    | (cases hs; exact Nat.le_refl _)
    | (cases hs; exact Nat.le_succ _)
    | (cases hs)
    | (exact absurd hs hcall)
theorem fl_mono : ∀ (f d m : Nat) (c : Cfg) (v : Option Value) (h' : Hp) (n' : Nat), fl_run f d m c = some (v, h', n') → c.2.2.2.2 ≤ n' := by
  intro f
  induction f with
  | zero => intro d m c v h' n' h; cases h
  | succ f ih =>
    intro d m c v h' n' h
    unfold fl_run at h
    split at h
    · cases h
    · split at h
      · cases h
      · rename_i q _ c' hs
        exact Nat.le_trans (fl_step_mono hs) (ih _ _ _ _ _ _ h)
      · cases h
        exact Nat.le_refl _
      · split at h
        · cases h
        · split at h
          · cases h
          · split at h
            · split at h
              · cases h
              · rename_i v2 h2 n2 hr
                have z1 := ih _ _ _ _ _ _ hr
                have z2 := ih _ _ _ _ _ _ h
                exact Nat.le_trans z1 z2
            · cases h
theorem sm_maxL : sm_ms.all (fun y => decide (y.2.2.1 ≤ 40)) = true := by decide +kernel
theorem sw_word {m2 : Nat} {y : sm_M} (hy : sm_ms[m2]? = some y) (hlt : m2 < 214) : ∃ (q : Nat × Nat × Nat × Nat × Nat), sm_pos[m2]? = some q ∧ Cond.code y.1 y.2.1 y.2.2.1 y.2.2.2.1 ∈ sm_tbl ∧ Cond.initialized y.1.cls ∈ sm_tbl ∧ (q.2.2.1 = 99999 → Cond.instanceMethod y.1 ∈ sm_tbl ∧ (q.2.2.2.1 ≠ 99999 → Cond.selects y.1.cls y.1 y.1 ∈ sm_tbl)) ∧ (q.2.2.1 ≠ 99999 → Cond.static y.1 ∈ sm_tbl) ∧ (y.1.cls ≠ "java/lang/invoke/MethodHandle" ∧ y.1.cls ≠ "java/lang/invoke/VarHandle") ∧ plainName y.1.cls = true := by
  have hlen : sm_pos.length = 214 := by decide +kernel
  have hq : sm_pos[m2]? = some sm_pos[m2] := List.getElem?_eq_getElem (by omega)
  generalize sm_pos[m2] = q at hq
  have hz : (y, q) ∈ sm_ms.zip sm_pos := List.mem_of_getElem? (i := m2) (by rw [List.getElem?_zip_eq_some]; exact ⟨hy, hq⟩)
  have h1 := List.all_eq_true.mp sw_mall _ hz
  obtain ⟨q1, q2, q3, q4, q5⟩ := q
  obtain ⟨y1, y2, y3, y4, y5⟩ := y
  simp only [sw_m, Bool.and_eq_true] at h1
  obtain ⟨⟨⟨⟨-, a2⟩, a3⟩, a4⟩, a5⟩ := h1
  refine ⟨_, hq, ?_, sw_tbl a2, ?_, ?_, of_decide_eq_true a4, a5⟩
  · refine List.mem_filter.mpr ⟨?_, rfl⟩
    have h2 : Cond.code y1 y2 y3 y4 ∈ (sm_ms.zip sm_pos).map (fun e => Cond.code e.1.1 e.1.2.1 e.1.2.2.1 e.1.2.2.2.1) := List.mem_map.mpr ⟨_, hz, rfl⟩
    rw [sw_ccode] at h2
    obtain ⟨e, -, he⟩ := List.mem_filterMap.mp h2
    exact List.mem_of_getElem? he
  · intro z
    simp only at z
    rw [if_pos z, Bool.and_eq_true] at a3
    refine ⟨sw_tbl a3.1, fun z2 => ?_⟩
    have a6 := a3.2
    rw [Bool.or_eq_true] at a6
    rcases a6 with a6 | a6
    · exact absurd (of_decide_eq_true a6) z2
    · exact sw_tbl a6
  · intro z
    simp only at z
    rw [if_neg z] at a3
    exact sw_tbl a3
theorem fl_args_mem {E : wd_E} (vs : List Value) : ∀ (k i : Nat) (v : Value), (fl_args vs)[i]? = some (some v) → (k + i, wd_v E v) ∈ lv_args k (vs.map (wd_v E)) := by
  induction vs with
  | nil => intro k i v h; simp [fl_args] at h
  | cons a t ih =>
    intro k i v h
    rw [List.map_cons]
    unfold lv_args
    rw [wd_v_cat]
    unfold fl_args at h
    by_cases hc : a.category = 2
    · rw [if_pos hc] at h ⊢
      match i, h with
      | 0, h => cases h; exact List.mem_cons_self
      | 1, h => cases h
      | i + 2, h =>
        have := ih (k + 2) i v (by simpa using h)
        rw [show k + (i + 2) = k + 2 + i by omega]
        exact List.mem_cons_of_mem _ this
    · rw [if_neg hc] at h ⊢
      match i, h with
      | 0, h => cases h; exact List.mem_cons_self
      | i + 1, h =>
        have := ih (k + 1) i v (by simpa using h)
        rw [show k + (i + 1) = k + 1 + i by omega]
        exact List.mem_cons_of_mem _ this
theorem lg_sl_len {E : wd_E} (vs : List Value) : (lg_sl (vs.map (wd_v E))).length = (fl_args vs).length := by
  induction vs with
  | nil => rfl
  | cons a t ih =>
    have e1 : lg_sl ((a :: t).map (wd_v E)) = (if (wd_v E a).category = 2 then [Slot.val (wd_v E a), .second] else [Slot.val (wd_v E a)]) ++ lg_sl (t.map (wd_v E)) := by simp [lg_sl]
    have e2 : fl_args (a :: t) = if a.category = 2 then some a :: none :: fl_args t else some a :: fl_args t := rfl
    rw [e1, List.length_append, ih, wd_v_cat, e2]
    by_cases hc : a.category = 2
    · rw [if_pos hc, if_pos hc]
      show 2 + _ = _ + 1 + 1
      omega
    · rw [if_neg hc, if_neg hc]
      show 1 + _ = _ + 1
      omega
theorem Lv.entry {E : wd_E} {nL : Nat} (vs : List Value) (h : (fl_args vs).length ≤ nL) : Lv E ((lg_sl (vs.map (wd_v E)) ++ List.replicate (nL - (lg_sl (vs.map (wd_v E))).length) Slot.unset).toArray) nL (fl_enter nL vs) := by
  have h0 := lv_entry (vs.map (wd_v E)) (n := nL) (by rw [lg_sl_len]; exact h)
  refine ⟨h0.1, h0.2.1, by simp [fl_enter]; omega, fun i v hv => ?_⟩
  have : (fl_args vs)[i]? = some (some v) := by
    unfold fl_enter at hv
    by_cases hi : i < (fl_args vs).length
    · rw [List.getElem?_append_left hi] at hv
      exact hv
    · rw [List.getElem?_append_right (by omega)] at hv
      rw [List.getElem?_replicate] at hv
      split at hv <;> cases hv
  have z := h0.2.2 _ (fl_args_mem (E := E) vs 0 i v this)
  rw [Nat.zero_add] at z
  exact z
/-- a method's end -/
def sv_Q (E : wd_E) (g : Nat → Nat → Int32) (v : Option Value) (h' : Hp) (n' : Nat) : Array Value → State → Outcome → State → Prop := fun _ st o t => o = .returned (v.map (wd_v E)) ∧ (∃ cA, Wd E g cA n' h' t t.heap) ∧ va_F (fun q => E.1 ≤ q) st t
def sv_P (E : wd_E) (g : Nat → Nat → Int32) (cA : Nat → ClassId) (n : Nat) (h : Hp) (as : List Value) : Array Value → State → Prop := va_Pc (as.map (wd_v E)) (fun U => Wd E g cA n h U U.heap ∧ wd_T E g U U.heap ∧ E.1 ≤ U.heap.size)
def rm_d (d mc ms : Nat) : Room := { frames := d + 1, cells := mc, slots := ms, locals := 60 * (d + 1) }
def sv_ws (y : sm_M) : List Cond := Cond.code y.1 y.2.1 y.2.2.1 y.2.2.2.1 :: sm_tbl
theorem sv_blind {E : wd_E} {g : Nat → Nat → Int32} {cA : Nat → ClassId} {n : Nat} {h : Hp} {as : List Value} : FrameBlind (sv_P E g cA n h as) := by
  intro a U gf mk q
  obtain ⟨q1, q2, q3, q4⟩ := q
  exact ⟨q1, q2.moved (U := U.calling gf mk a) (Vm.Alike.refl U.vm), q3.same (s := U) (U := U.calling gf mk a) rfl, q4⟩
def is_retI : Instr → Bool
  | .return_ => true
  | .ireturn => true
  | .lreturn => true
  | .areturn => true
  | _ => false
def is_callI : Instr → Bool
  | .invokevirtual _ => true
  | .invokestatic _ => true
  | .invokespecial _ => true
  | _ => false
theorem low_kind0 {own pc n : Nat} {i : Instr} {q : Smi} (h : sm_lower own pc i = some (q, n)) : (21 ≤ q.1 ∧ q.1 ≤ 24 → is_retI i = true) ∧ (18 ≤ q.1 ∧ q.1 ≤ 20 → is_callI i = true) := by
  unfold sm_lower at h
  split at h
  all_goals (repeat' (split at h))
  all_goals first
    | (cases h; exact ⟨fun z => by first | rfl | (exfalso; have := z.1; have := z.2; simp at *), fun z => by first | rfl | (exfalso; have := z.1; have := z.2; simp at *)⟩)
    | (cases h)
theorem low_kind {own pc len : Nat} {ret : Option FieldType} {i : Instr} {q : Smi} (h : sm_low own ret pc i len = some q) : (21 ≤ q.1 ∧ q.1 ≤ 24 → is_retI i = true) ∧ (18 ≤ q.1 ∧ q.1 ≤ 20 → is_callI i = true) := by
  unfold sm_low at h
  split at h
  · have z := (it_some h).2
    subst z
    exact ⟨fun z => by simp at z, fun z => by simp at z⟩
  · split at h
    · split at h
      · cases h; exact ⟨fun _ => rfl, fun z => by simp at z⟩
      · cases h; exact ⟨fun _ => rfl, fun z => by simp at z⟩
      · cases h
    · cases h
  · split at h
    · rename_i q0 n0 e0
      have z := (it_some h).2
      subst z
      exact low_kind0 e0
    · cases h
theorem ret_op {q : Smi} {c : Cfg} {v : Option Value} (hs : fl_step q c = some (.inr (.inr v))) : 21 ≤ q.1 ∧ q.1 ≤ 24 := by
  obtain ⟨op, a, nx⟩ := q
  obtain ⟨pc, ls, st, h, n⟩ := c
  have hcall : ∀ {b i m k nx} {ls : List (Option Value)} {st h n v}, fl_call b i m k nx ls st h n ≠ some (.inr (.inr v)) := by
    intro b i m k nx ls st h n c' z
    have := (ivcall z).2.2.1
    cases this
  unfold fl_step at hs
  simp only at hs
  split at hs
  all_goals (repeat' (split at hs))
  all_goals first
    | exact ⟨Nat.le_of_ble_eq_true rfl, Nat.le_of_ble_eq_true rfl⟩
    | (cases hs; done)
    | (exact absurd hs hcall)
theorem call_op {q : Smi} {c : Cfg} {z : Nat × List Value × List Value × Nat} (hs : fl_step q c = some (.inr (.inl z))) : 18 ≤ q.1 ∧ q.1 ≤ 20 := by
  obtain ⟨op, a, nx⟩ := q
  obtain ⟨pc, ls, st, h, n⟩ := c
  unfold fl_step at hs
  simp only at hs
  split at hs
  all_goals (repeat' (split at hs))
  all_goals first
    | exact ⟨Nat.le_of_ble_eq_true rfl, Nat.le_of_ble_eq_true rfl⟩
    | (cases hs; done)
theorem call_form {q : Smi} {c : Cfg} {m2 nx : Nat} {as rest : List Value} (hs : fl_step q c = some (.inr (.inl (m2, as, rest, nx)))) : ∃ (m k : Int) (nx' : Nat), (q = (18, [m, k], nx') ∨ q = (19, [m, k], nx') ∨ q = (20, [m, k], nx')) ∧ m2 = m.toNat := by
  obtain ⟨op, a, nx9⟩ := q
  obtain ⟨pc, ls, st, h, n⟩ := c
  have hcall : ∀ {b i m k nx0} {ls : List (Option Value)} {st h n}, fl_call b i m k nx0 ls st h n = some (.inr (.inl (m2, as, rest, nx))) → m2 = m := by
    intro b i m k nx0 ls st h n z
    have := (ivcall z).2.2.1
    cases this
    rfl
  unfold fl_step at hs
  simp only at hs
  split at hs
  all_goals (repeat' (split at hs))
  all_goals first
    | (cases hs; done)
    | exact ⟨_, _, _, Or.inl rfl, hcall hs⟩
    | exact ⟨_, _, _, Or.inr (Or.inl rfl), hcall hs⟩
    | exact ⟨_, _, _, Or.inr (Or.inr rfl), hcall hs⟩
theorem sm_pos_len : sm_pos.length = 214 := by decide +kernel
theorem call_lt {y : sm_M} {pc : Nat} {q : Smi} {c : Cfg} {m2 nx : Nat} {as rest : List Value} (hst : sm_static y (pc, q) = true) (hs : fl_step q c = some (.inr (.inl (m2, as, rest, nx)))) : m2 < 214 := by
  obtain ⟨m, k, nx', hq, rfl⟩ := call_form hs
  rcases Nat.lt_or_ge m.toNat 214 with z | z
  · exact z
  · exfalso
    have hn : sm_pos[m.toNat]? = none := List.getElem?_eq_none (by rw [sm_pos_len]; exact z)
    rcases hq with rfl | rfl | rfl <;> simp [sm_static, hn] at hst
section RET
variable {p : Program} {l : Launch} {e : Env} {R : Room} {s : State} {m : MethodId} {args : Array Value} {below : List Frame} {meth : Method} {c : Code} {H : Heap} {locs : List Loc}
variable {E : wd_E} {g : Nat → Nat → Int32} {cA : Nat → ClassId} {n n0 mi : Nat} {h : Hp} {y : sm_M} {pc : Nat} {lsA : Array Slot} {ls : List (Option Value)} {st : List Value} {q : Smi} {v : Option Value}
/-- the end of a method -/
theorem st_ret (C : Ctx E g p s m args meth c y) (hy : sm_ms[mi]? = some y) (S : Sb E g cA n h s H locs) (hc : fl_code mi pc = some q) (hs : fl_step q (pc, ls, st, h, n) = some (.inr (.inr v))) :
    W p l e R s m args below meth c H locs (n - n0) (wd_sz n - wd_sz n0) (MQ below (sv_Q E g v h n) args s (n - n0) (wd_sz n - wd_sz n0) (fun q => E.1 ≤ q)) (F0 m pc lsA (st.map (wd_v E))) := by
  obtain ⟨i, len, hd, hl⟩ := cd_dec hy hc
  have hst := cd_static hy hc
  obtain ⟨hx, hb, hml, hr, hown, hts, hT, hlocks, hbs, hnm⟩ := id C
  have hq : ∀ (w : Option Value), w = v.map (wd_v E) → ∀ t : State, t.heap = H → s.WarmedH t.vm → sv_Q E g v h n args s (.returned w) t := by
    intro w hw t ht hW
    refine ⟨by rw [hw], ⟨cA, ?_⟩, S.2.F ht⟩
    rw [ht]
    exact S.1.moved hW.alike
  have hmono := @fl_step_mono
  cases i
  case return_ =>
    simp only [sm_low, sm_lower] at hl
    obtain ⟨rfl, rfl⟩ := it_some hl
    obtain ⟨rfl, e2⟩ := iv21 hs
    cases e2
    have hrn : y.2.2.2.1 = none := eq_of_beq hst
    exact W.vret hx hb (by rw [hr, hrn]) (hq _ rfl) S.2.2.2 hd
  case ireturn =>
    simp only [sm_low] at hl
    split at hl
    · rename_i hlen
      subst hlen
      split at hl
      · rename_i hrt
        cases hl
        obtain ⟨x, rfl, e2, e3⟩ := iv22 hs
        cases e3
        exact W.iret hx hb (by rw [hr, hrt]) (hq _ rfl) S.2.2.2 hd
      · rename_i hrt
        cases hl
        obtain ⟨x, rfl, e2, e3⟩ := iv22 hs
        cases e3
        have hbit : x = 0 ∨ x = 1 := by
          rcases e2 with e2 | e2
          · cases e2
          · simpa [fl_bit] using e2
        exact W.zret hx hb (by rw [hr, hrt]) (by rcases hbit with rfl | rfl <;> decide) (hq _ rfl) S.2.2.2 hd
      · cases hl
    · cases hl
  case lreturn =>
    simp only [sm_low, sm_lower] at hl
    obtain ⟨rfl, rfl⟩ := it_some hl
    obtain ⟨x, rfl, e2⟩ := iv23 hs
    cases e2
    have hrn : y.2.2.2.1 = some .long := eq_of_beq hst
    exact W.lret hx hb (by rw [hr, hrn]) (hq _ rfl) S.2.2.2 hd
  case areturn =>
    simp only [sm_low, sm_lower] at hl
    obtain ⟨rfl, rfl⟩ := it_some hl
    obtain ⟨o, rfl, e2⟩ := iv24 hs
    cases e2
    simp only [sm_static] at hst
    have hrt : ∃ rt, y.2.2.2.1 = some rt ∧ ((∃ n, rt = .object n) ∨ ∃ t, rt = .array t) := by
      split at hst
      · rename_i z; exact ⟨_, z, Or.inl ⟨_, rfl⟩⟩
      · rename_i z; exact ⟨_, z, Or.inr ⟨_, rfl⟩⟩
      · cases hst
    obtain ⟨rt, e3, e4⟩ := hrt
    have hv : wd_v E (fl_rv o) = .null ∨ ∃ a, wd_v E (fl_rv o) = .ref a := by
      cases o with
      | none => exact Or.inl rfl
      | some b => exact Or.inr ⟨_, rfl⟩
    exact W.aret hx hb (by rw [hr, e3]) e4 hv (hq _ rfl) S.2.2.2 hd
  all_goals
    exfalso
    have z1 := ret_op hs
    have z2 := (low_kind hl).1 z1
    cases z2
end RET
theorem fl_kinds2 : ∀ b, b < fl_tot → ((fl_lay b).1 < 11 ∧ (fl_N[(fl_lay b).1]?).getD 0 = (fl_lay b).2) ∨ 20 ≤ (fl_lay b).1 := by decide +kernel
theorem sm_own11 : ∀ k, k < 11 → sm_own[k]? = (vwCl[k]?).map (fun q => q.1) := by decide +kernel
theorem sm_own14 : sm_ms.all (fun y => decide (y.2.2.2.2 < 14)) = true := by decide +kernel
section SIM
variable {p : Program} {l : Launch} {e : Env} {R : Room} {s : State} {m : MethodId} {args : Array Value} {below : List Frame} {meth : Method} {c : Code} {H : Heap} {locs : List Loc} {cells slots mc ms : Nat} {Q : State → Prop}
variable {E : wd_E} {g : Nat → Nat → Int32} {cA : Nat → ClassId} {n n2 : Nat} {h h2 : Hp} {y : sm_M} {pc : Nat} {lsA : Array Slot} {rest st0 : List Value} {v : Option Value} {a : Array Value}
/-- behind a call -/
theorem sv_call (S : Sb E g cA n h s H locs) (hr : va_Run p l e R s m args below meth c H locs cells slots mc ms (F0 m pc lsA st0) rest (sv_Q E g v h2 n2 a) (fun q => E.1 ≤ q))
    (kk : ∀ (cA' : Nat → ClassId) (H1 : Heap) (locs1 : List Loc), Sb E g cA' n2 h2 s H1 locs1 → W p l e R s m args below meth c H1 locs1 (cells + mc) (slots + ms) Q (F0 m (pc + 3) lsA ((v.map (wd_v E)).toList ++ rest))) : W p l e R s m args below meth c H locs cells slots Q (F0 m pc lsA st0) := by
  intro T hT X
  obtain ⟨v', st₀, t, T', L, h0, X', hL, e1, e2, ⟨hv, ⟨cA', hW⟩, hz, hk⟩, st⟩ := hr T hT X
  cases hv
  rw [h0] at hz hk
  have hal : s.vm.Alike t.vm := by rw [← e2]; exact X'.warmed.alike
  obtain ⟨t2, a1, b1⟩ := kk cA' T'.heap (locs ++ L) ⟨by rw [e1]; exact hW.moved hal.symm, Nat.le_trans S.2.1 (by rw [e1]; exact hz), fun q h1 h2 => by rw [e1, hk q (Nat.lt_of_lt_of_le h1 S.2.1) h2]; exact S.2.2.1 q h1 h2, fun q hq => by
      rcases List.mem_append.mp hq with h | h
      · exact S.2.2.2 q h
      · exact hL q h⟩ T' rfl X'
  exact ⟨t2, st t2 a1, b1⟩
theorem sv_pre (C : Ctx E g p s m args meth c y) (S : Sb E g cA n h s H locs) {as : List Value} {U : State} (hU : U.heap = H) (hW : s.WarmedH U.vm) : sv_P E g cA n h as (as.map (wd_v E)).toArray U := by
  obtain ⟨hx, hb, hml, hr, hown, hts, hT, hlocks, hbs, hnm⟩ := C
  refine ⟨rfl, ?_, ?_, ?_⟩
  · rw [hU]; exact S.1.moved hW.alike
  · rw [hU]; exact (hT.kept (fun a h1 h2 => S.2.2.1 a h1 h2)).warm hW
  · rw [hU]; exact Nat.le_trans hbs S.2.1
set_option maxHeartbeats 4000000 in
/-- a call, given the callee's contract -/
theorem st_call (C : Ctx E g p s m args meth c y) {mi m2 nx d : Nat} {y2 : sm_M} {q : Smi} {ls : List (Option Value)} {st as rest' : List Value} (hy : sm_ms[mi]? = some y) (hy2 : sm_ms[m2]? = some y2) (S : Sb E g cA n h s H locs) (hL : Lv E lsA y.2.2.1 ls) (hc : fl_code mi pc = some q) (hs : fl_step q (pc, ls, st, h, n) = some (.inr (.inl (m2, as, rest', nx))))
    (hM : Met l y2.1 (sv_ws y2) (rm_d d mc ms) (sv_P E g cA n h as) (sv_Q E g v h2 n2) mc ms (fun q => E.1 ≤ q))
    (hR : cells + mc ≤ R.cells ∧ slots + ms ≤ R.slots ∧ d + 2 ≤ R.frames ∧ 60 * (d + 2) ≤ R.locals)
    (kk : ∀ (cA' : Nat → ClassId) (H1 : Heap) (locs1 : List Loc), Sb E g cA' n2 h2 s H1 locs1 → W p l e R s m args below meth c H1 locs1 (cells + mc) (slots + ms) Q (F0 m nx lsA ((v.toList ++ rest').map (wd_v E)))) : W p l e R s m args below meth c H locs cells slots Q (F0 m pc lsA (st.map (wd_v E))) := by
  obtain ⟨i, len, hd, hl⟩ := cd_dec hy hc
  have ho := sm_ownof hy
  have ho2 := sm_ownof hy2
  have hst := cd_static hy hc
  have hop := call_op hs
  have hmaxL : y2.2.2.1 ≤ 40 := of_decide_eq_true (List.all_eq_true.mp sm_maxL y2 (List.mem_of_getElem? hy2))
  have hroom : (rm_d d mc ms).frames + 1 ≤ R.frames ∧ 8 + (y2.2.2.1 + 11) + (rm_d d mc ms).locals ≤ R.locals := by
    refine ⟨hR.2.2.1, ?_⟩
    show 8 + (y2.2.2.1 + 11) + 60 * (d + 1) ≤ R.locals
    omega
  have hcells : cells + mc ≤ R.cells ∧ slots + ms ≤ R.slots := ⟨hR.1, hR.2.1⟩
  have kk' : ∀ (cA' : Nat → ClassId) (H1 : Heap) (locs1 : List Loc), Sb E g cA' n2 h2 s H1 locs1 → nx = pc + 3 → W p l e R s m args below meth c H1 locs1 (cells + mc) (slots + ms) Q (F0 m (pc + 3) lsA ((v.map (wd_v E)).toList ++ rest'.map (wd_v E))) := by
    intro cA' H1 locs1 S1 hnx
    have := kk cA' H1 locs1 S1
    rw [hnx, List.map_append] at this
    cases v <;> exact this
  have hpre : ∀ U : State, U.heap = H → s.WarmedH U.vm → sv_P E g cA n h as (as.map (wd_v E)).toArray U := fun U hU hW => sv_pre C S hU hW
  obtain ⟨hx, hb, hml, hr, hown, hts, hT, hlocks, hbs, hnm⟩ := id C
  have hfix : CallFix p m c y.2.1 y.2.2.1 s args sm_tbl y.1.cls := ⟨hx, hb, hml, hown, hts⟩
  cases i
  case invokevirtual k =>
    simp only [sm_low, sm_lower] at hl
    cases hk : sm_at sm_rm y.2.2.2.2 k with
    | none => rw [hk] at hl; cases hl
    | some z =>
      obtain ⟨m3, ps, nest⟩ := z
      rw [hk] at hl
      simp only at hl
      split at hl
      · rename_i q0 n9 e9
        split at e9
        · rename_i y3 hy3
          split at e9
          · rename_i dsc hdsc
            cases e9
            obtain ⟨rfl, rfl⟩ := it_some hl
            obtain ⟨k1, k2, k3, k4, -⟩ := ivcall (iv18 hs)
            simp only [Int.toNat_natCast] at k1 k2 k3 k4
            cases k3
            cases hy2.symm.trans hy3
            obtain ⟨b, as', e3, e4, e5⟩ := k4 trivial
            have hw := sw_of sw_rall ho hk
            simp only [sw_r] at hw
            split at hw
            · rename_i z; subst z; exact absurd (List.getElem?_eq_some_iff.mp hy2).1 (by rw [sm_len.2]; decide)
            · split at hw
              · rename_i z; subst z; exact absurd (List.getElem?_eq_some_iff.mp hy2).1 (by rw [sm_len.2]; decide)
              · rw [hy2] at hw
                simp only [Bool.and_eq_true] at hw
                obtain ⟨hlt, hw⟩ := hw
                have hlt := of_decide_eq_true hlt
                obtain ⟨pq, w1, w2, w3, w4, w5, w6, w7⟩ := sw_word hy2 hlt
                simp only [sm_static, Int.toNat_natCast, w1] at hst
                rw [Bool.and_eq_true] at hst
                have hp3 := eq_of_beq hst.1
                have hp4 : pq.2.2.2.1 ≠ 99999 := by have := hst.2; simpa using this
                obtain ⟨w8, w9⟩ := w4 hp3
                have w9 := w9 hp4
                have hlen : as'.length = dsc.parameters.length := by
                  have := congrArg List.length e3
                  simp at this
                  omega
                have hstack : st.map (wd_v E) = (as'.map (wd_v E)).reverse ++ .ref (wd_ad E b) :: (st.drop (dsc.parameters.length + 1)).map (wd_v E) := by
                  have z1 : st = (Value.ref b :: as').reverse ++ st.drop (dsc.parameters.length + 1) := by
                    rw [← e3, List.reverse_reverse, List.take_append_drop]
                  calc st.map (wd_v E) = ((Value.ref b :: as').reverse ++ st.drop (dsc.parameters.length + 1)).map (wd_v E) := by rw [← z1]
                    _ = _ := by simp [wd_v]
                have hrecv : ∃ cellB : Cell, H[wd_ad E b]? = some cellB ∧ cellB.vm.isStatics = false ∧ s.vm.findClass y2.1.cls = some cellB.cls := by
                  rw [hy2] at e5
                  simp only [Option.map_some, Option.getD_some] at e5
                  have h14 : y2.2.2.2.2 < 14 := of_decide_eq_true (List.all_eq_true.mp sm_own14 y2 (List.mem_of_getElem? hy2))
                  rcases fl_kinds2 b (Nat.lt_of_lt_of_le e4 S.1.1) with ⟨z1, z2⟩ | z1
                  · obtain ⟨rq, hq⟩ : ∃ rq, vwCl[(fl_lay b).1]? = some rq := ⟨_, List.getElem?_eq_getElem (by simpa using z1)⟩
                    have z3 := sm_own11 _ z1
                    rw [hq, e5, ho2] at z3
                    have z4 : y2.1.cls = rq.1 := by simpa using z3
                    rw [wd_adlt S.1.1 e4, z4]
                    exact va_recv S.1.2.2.1 S.1.2.1 hq (by rw [wd_at e4, wd_c_obj (ci := (fl_lay b).1) (N := (fl_lay b).2) rfl (by omega)])
                  · omega
                have hpar : (parseMethodDescriptor y2.1.desc).map (fun d => d.parameters.length) = some dsc.parameters.length := by rw [hdsc]; rfl
                have hpreV : PreV s H y2.1.cls (wd_ad E b) (sv_P E g cA n h (st.take (dsc.parameters.length + 1)).reverse) (as'.map (wd_v E)) := ⟨sv_blind, hrecv, fun U hU hW => by have := hpre U hU hW; rw [e3] at this ⊢; exact this⟩
                have hrs : (((st.drop (dsc.parameters.length + 1)).map (wd_v E)).map (fun v => v.category)).sum ≤ 8 := by rw [wd_cat]; exact k2
                split at hw
                · exact sv_call S (va_runV (As := as'.map (wd_v E)) (rest := (st.drop (dsc.parameters.length + 1)).map (wd_v E)) (g := F0 m pc lsA (st.map (wd_v E))) hfix hM (cwV dsc.parameters.length hts (fun w hw9 => by
                    rcases List.mem_append.mp hw9 with z | z
                    · have : w ∈ sm_tbl := by
                        simp only [List.mem_cons, List.not_mem_nil, or_false] at z
                        rcases z with rfl | rfl | rfl | rfl
                        · exact sw_tbl hw
                        · exact w8
                        · exact w9
                        · exact w3
                      exact ⟨this, good_of_word (List.mem_filter.mp this).2⟩
                    · have : w ∈ sm_tbl := by
                        rcases List.mem_cons.mp z with rfl | z
                        · exact w2
                        · exact z
                      exact ⟨this, good_of_word (List.mem_filter.mp this).2⟩) rfl rfl rfl ⟨rfl, w6.1, w6.2, hpar⟩ hroom) hpreV rfl (by simpa using hlen) hL.1 hstack (lv_room hrs) hd hcells) (fun cA' H1 locs1 S1 => kk' cA' H1 locs1 S1 rfl)
                · exact sv_call S (va_runVN (As := as'.map (wd_v E)) (rest := (st.drop (dsc.parameters.length + 1)).map (wd_v E)) (g := F0 m pc lsA (st.map (wd_v E))) hfix hM ⟨va_cnB dsc.parameters.length hts (fun w hw9 => by
                    have : w ∈ sm_tbl := by
                      rcases List.mem_cons.mp hw9 with rfl | z
                      · exact w2
                      · exact z
                    exact ⟨this, good_of_word (List.mem_filter.mp this).2⟩) rfl rfl rfl (hT.2.2.1 _ (sw_nestM hw)) (hts _ w3) ⟨w6.1, w6.2, hpar⟩ hroom, hts _ w8, hts _ w9⟩ hpreV rfl (by simpa using hlen) hL.1 hstack (lv_room hrs) hd hcells) (fun cA' H1 locs1 S1 => kk' cA' H1 locs1 S1 rfl)
          · cases e9
        · cases e9
      · cases hl
  case invokestatic k =>
    simp only [sm_low, sm_lower] at hl
    split at hl
    · rename_i q0 n9 e9
      split at e9
      · cases e9
        obtain ⟨rfl, rfl⟩ := it_some hl
        exact absurd hop.2 (by simp)
      · rename_i m3 ps nest hne hk
        split at e9
        · rename_i y3 hy3
          split at e9
          · rename_i dsc hdsc
            cases e9
            obtain ⟨rfl, rfl⟩ := it_some hl
            obtain ⟨k1, k2, k3, -, -⟩ := ivcall (iv19 hs)
            simp only [Int.toNat_natCast, Nat.add_zero] at k1 k2 k3
            cases k3
            cases hy2.symm.trans hy3
            have hw := sw_of sw_rall ho hk
            simp only [sw_r] at hw
            split at hw
            · rename_i z; subst z; exact absurd (List.getElem?_eq_some_iff.mp hy2).1 (by rw [sm_len.2]; decide)
            · by_cases hz9 : True
              · rw [hy2] at hw
                simp only [Bool.and_eq_true] at hw
                obtain ⟨hlt, hw⟩ := hw
                have hlt := of_decide_eq_true hlt
                obtain ⟨pq, w1, w2, w3, w4, w5, w6, w7⟩ := sw_word hy2 hlt
                simp only [sm_static, Int.toNat_natCast, w1] at hst
                have hp3 : pq.2.2.1 ≠ 99999 := by simpa using hst
                have w8 := w5 hp3
                have hlen : ((st.take dsc.parameters.length).reverse.map (wd_v E)).length = dsc.parameters.length := by
                  simp
                  omega
                have hstack : st.map (wd_v E) = ((st.take dsc.parameters.length).reverse.map (wd_v E)).reverse ++ (st.drop dsc.parameters.length).map (wd_v E) := by
                  rw [← List.map_reverse, List.reverse_reverse, ← List.map_append, List.take_append_drop]
                have hpar : (parseMethodDescriptor y2.1.desc).map (fun d => d.parameters.length) = some dsc.parameters.length := by rw [hdsc]; rfl
                have hrs : (((st.drop dsc.parameters.length).map (wd_v E)).map (fun v => v.category)).sum ≤ 8 := by rw [wd_cat]; exact k2
                split at hw
                · exact sv_call S (va_runS (As := (st.take dsc.parameters.length).reverse.map (wd_v E)) (rest := (st.drop dsc.parameters.length).map (wd_v E)) (g := F0 m pc lsA (st.map (wd_v E))) hfix hM (va_cwS dsc.parameters.length hts (fun w hw9 => by
                    rcases List.mem_append.mp hw9 with z | z
                    · have : w ∈ sm_tbl := by
                        simp only [List.mem_cons, List.not_mem_nil, or_false] at z
                        rcases z with rfl | rfl | rfl
                        · exact sw_tbl hw
                        · exact w8
                        · exact w3
                      exact ⟨this, good_of_word (List.mem_filter.mp this).2⟩
                    · have : w ∈ sm_tbl := by
                        rcases List.mem_cons.mp z with rfl | z
                        · exact w2
                        · exact z
                      exact ⟨this, good_of_word (List.mem_filter.mp this).2⟩) rfl rfl rfl ⟨w6.1, w6.2, hpar⟩ hroom) ⟨sv_blind, hpre⟩ rfl hlen hL.1 hstack (lv_room hrs) hd hcells) (fun cA' H1 locs1 S1 => kk' cA' H1 locs1 S1 rfl)
                · exact sv_call S (va_runSN (As := (st.take dsc.parameters.length).reverse.map (wd_v E)) (rest := (st.drop dsc.parameters.length).map (wd_v E)) (g := F0 m pc lsA (st.map (wd_v E))) hfix hM ⟨va_cnB dsc.parameters.length hts (fun w hw9 => by
                    have : w ∈ sm_tbl := by
                      rcases List.mem_cons.mp hw9 with rfl | z
                      · exact w2
                      · exact z
                    exact ⟨this, good_of_word (List.mem_filter.mp this).2⟩) rfl rfl rfl (hT.2.2.1 _ (sw_nestM hw)) (hts _ w3) ⟨w6.1, w6.2, hpar⟩ hroom, hts _ w8, trivial⟩ ⟨sv_blind, hpre⟩ rfl hlen hL.1 hstack (lv_room hrs) hd hcells) (fun cA' H1 locs1 S1 => kk' cA' H1 locs1 S1 rfl)
              · exact absurd trivial hz9
          · cases e9
        · cases e9
      · cases e9
    · cases hl
  case invokespecial k =>
    simp only [sm_low, sm_lower] at hl
    split at hl
    · rename_i q0 n9 e9
      split at e9
      · cases e9
        obtain ⟨rfl, rfl⟩ := it_some hl
        exact absurd hop.2 (by simp)
      · rename_i m3 ps nest hne hk
        split at e9
        · rename_i y3 hy3
          split at e9
          · rename_i dsc hdsc
            cases e9
            obtain ⟨rfl, rfl⟩ := it_some hl
            obtain ⟨k1, k2, k3, -, k4⟩ := ivcall (iv20 hs)
            simp only [Int.toNat_natCast] at k1 k2 k3 k4
            cases k3
            cases hy2.symm.trans hy3
            obtain ⟨b, as', e3⟩ := k4 trivial trivial
            have hw := sw_of sw_rall ho hk
            simp only [sw_r] at hw
            split at hw
            · rename_i z; subst z; exact absurd (List.getElem?_eq_some_iff.mp hy2).1 (by rw [sm_len.2]; decide)
            · split at hw
              · rename_i z; subst z; exact absurd (List.getElem?_eq_some_iff.mp hy2).1 (by rw [sm_len.2]; decide)
              · rw [hy2] at hw
                simp only [Bool.and_eq_true] at hw
                obtain ⟨hlt, hw⟩ := hw
                have hlt := of_decide_eq_true hlt
                obtain ⟨pq, w1, w2, w3, w4, w5, w6, w7⟩ := sw_word hy2 hlt
                simp only [sm_static, Int.toNat_natCast, w1, hy2] at hst
                simp only [Bool.and_eq_true] at hst
                have hp3 := eq_of_beq hst.1.1
                have hnm2 : y2.1.name = "<init>" := eq_of_beq hst.1.2
                have hrt : y2.2.2.2.1 = none := eq_of_beq hst.2
                have w8 := (w4 hp3).1
                have hlen : (as'.map (wd_v E)).length = dsc.parameters.length := by
                  have := congrArg List.length e3
                  simp at this
                  simp
                  omega
                have hstack : st.map (wd_v E) = (as'.map (wd_v E)).reverse ++ .ref (wd_ad E b) :: (st.drop (dsc.parameters.length + 1)).map (wd_v E) := by
                  have z1 : st = (Value.ref b :: as').reverse ++ st.drop (dsc.parameters.length + 1) := by
                    rw [← e3, List.reverse_reverse, List.take_append_drop]
                  calc st.map (wd_v E) = ((Value.ref b :: as').reverse ++ st.drop (dsc.parameters.length + 1)).map (wd_v E) := by rw [← z1]
                    _ = _ := by simp [wd_v]
                have hpar : (parseMethodDescriptor y2.1.desc).map (fun d => d.parameters.length) = some dsc.parameters.length := by rw [hdsc]; rfl
                have hpreS : PreS s H (sv_P E g cA n h (st.take (dsc.parameters.length + 1)).reverse) (.ref (wd_ad E b) :: as'.map (wd_v E)) := ⟨sv_blind, fun U hU hW => by have := hpre U hU hW; rw [e3] at this ⊢; exact this⟩
                have hrs : (((st.drop (dsc.parameters.length + 1)).map (wd_v E)).map (fun v => v.category)).sum ≤ 8 := by rw [wd_cat]; exact k2
                have hws : sv_ws y2 = Cond.code y2.1 y2.2.1 y2.2.2.1 none :: sm_tbl := by rw [← hrt]; rfl
                have hG : GoodIn sm_tbl (sv_ws y2) := fun w hw9 => by
                    have : w ∈ sm_tbl := by
                      rcases List.mem_cons.mp hw9 with rfl | z
                      · exact w2
                      · exact z
                    exact ⟨this, good_of_word (List.mem_filter.mp this).2⟩
                split at hw
                · exact sv_call S (va_runI (As := as'.map (wd_v E)) (rest := (st.drop (dsc.parameters.length + 1)).map (wd_v E)) (g := F0 m pc lsA (st.map (wd_v E))) hfix hM (cwI dsc.parameters.length hts hG hws rfl rfl (hts _ w3) (hts _ (sw_tbl hw)) (hts _ w8) hnm2 ⟨w6.1, w6.2, hpar⟩ hroom) hpreS rfl hlen hL.1 hstack (lv_room hrs) hd hcells) (fun cA' H1 locs1 S1 => kk' cA' H1 locs1 S1 rfl)
                · exact sv_call S (va_runIN (As := as'.map (wd_v E)) (rest := (st.drop (dsc.parameters.length + 1)).map (wd_v E)) (g := F0 m pc lsA (st.map (wd_v E))) hfix hM ⟨va_cnB dsc.parameters.length hts hG hws rfl rfl (hT.2.2.1 _ (sw_nestM hw)) (hts _ w3) ⟨w6.1, w6.2, hpar⟩ hroom, hnm2, hts _ w8⟩ hpreS rfl hlen hL.1 hstack (lv_room hrs) hd hcells) (fun cA' H1 locs1 S1 => kk' cA' H1 locs1 S1 rfl)
          · cases e9
        · cases e9
      · cases e9
    · cases hl
  all_goals
    exfalso
    have z2 := (low_kind hl).2 hop
    cases z2
end SIM
set_option maxHeartbeats 4000000 in
/-- the machine does what the flat machine does -/
theorem fl_sim (l : Launch) : ∀ (f d mi : Nat) (pc : Nat) (ls : List (Option Value)) (st : List Value) (h : Hp) (n : Nat) (v : Option Value) (h' : Hp) (n' : Nat), fl_run f d mi (pc, ls, st, h, n) = some (v, h', n') →
    ∀ {p : Program} {e : Env} {R : Room} {s : State} {m : MethodId} {args : Array Value} {below : List Frame} {meth : Method} {c : Code} {H : Heap} {locs : List Loc} {Q : State → Prop} {E : wd_E} {g : Nat → Nat → Int32} {cA : Nat → ClassId} {n0 : Nat} {y : sm_M} {lsA : Array Slot},
    Ctx E g p s m args meth c y → sm_ms[mi]? = some y → Sb E g cA n h s H locs → Lv E lsA y.2.2.1 ls → n0 ≤ n → (n' - n0 ≤ R.cells ∧ wd_sz n' - wd_sz n0 ≤ R.slots ∧ d + 1 ≤ R.frames ∧ 60 * (d + 1) ≤ R.locals) →
    (∀ (pc : Nat) (q : Smi) (ls : List (Option Value)) (st : List Value) (cA : Nat → ClassId) (H' : Heap) (locs' : List Loc) (lsA' : Array Slot), fl_code mi pc = some q → fl_step q (pc, ls, st, h', n') = some (.inr (.inr v)) → Sb E g cA n' h' s H' locs' → W p l e R s m args below meth c H' locs' (n' - n0) (wd_sz n' - wd_sz n0) Q (F0 m pc lsA' (st.map (wd_v E)))) →
    W p l e R s m args below meth c H locs (n - n0) (wd_sz n - wd_sz n0) Q (F0 m pc lsA (st.map (wd_v E))) := by
  intro f
  induction f with
  | zero => intro d mi pc ls st h n v h' n' hrun; cases hrun
  | succ f ih =>
    intro d mi pc ls st h n v h' n' hrun p e R s m args below meth c H locs Q E g cA n0 y lsA C hy S hL hn0 hR hret
    have hrun0 := hrun
    unfold fl_run at hrun
    simp only at hrun
    cases hc : fl_code mi pc with
    | none => rw [hc] at hrun; cases hrun
    | some q =>
      rw [hc] at hrun
      simp only at hrun
      cases hs : fl_step q (pc, ls, st, h, n) with
      | none => rw [hs] at hrun; cases hrun
      | some r =>
        rw [hs] at hrun
        rcases r with ⟨pc1, ls1, st1, h1, n1⟩ | ⟨m2, as, rest, nx⟩ | v1
        · simp only at hrun
          have m1 : n ≤ n1 := fl_step_mono hs
          have m2 : n1 ≤ n' := fl_mono _ _ _ _ _ _ _ hrun
          have m3 := wd_sz_le m2
          exact st_step C hy S hL hc hs hn0 ⟨by omega, by omega, by omega, by omega⟩ (fun lsA' cA' H' locs' hL' S' => ih d mi pc1 ls1 st1 h1 n1 v h' n' hrun C hy S' hL' (Nat.le_trans hn0 m1) hR hret)
        · simp only at hrun
          cases d with
          | zero => cases hrun
          | succ d =>
            simp only at hrun
            cases hy2 : sm_ms[m2]? with
            | none => rw [hy2] at hrun; cases hrun
            | some y2 =>
              rw [hy2] at hrun
              simp only at hrun
              by_cases hlen : (fl_args as).length ≤ y2.2.2.1
              · rw [if_pos hlen] at hrun
                cases hr2 : fl_run f d m2 (0, fl_enter y2.2.2.1 as, [], h, n) with
                | none => rw [hr2] at hrun; cases hrun
                | some w =>
                  obtain ⟨v2, h2, n2⟩ := w
                  rw [hr2] at hrun
                  simp only at hrun
                  have m1 : n ≤ n2 := fl_mono _ _ _ _ _ _ _ hr2
                  have m2' : n2 ≤ n' := fl_mono _ _ _ _ _ _ _ hrun
                  have m3 := wd_sz_le m2'
                  have m4 := wd_sz_le m1
                  have m5 := wd_sz_le hn0
                  have hlt : m2 < 214 := call_lt (cd_static hy hc) hs
                  have hM : Met l y2.1 (sv_ws y2) (rm_d d (n2 - n) (wd_sz n2 - wd_sz n)) (sv_P E g cA n h as) (sv_Q E g v2 h2 n2) (n2 - n) (wd_sz n2 - wd_sz n) (fun q => E.1 ≤ q) := by
                    obtain ⟨pq, w1, w2, w3, w4, w5, w6, w7⟩ := sw_word hy2 hlt
                    refine Met.ofW (cc := y2.2.1) (maxL := y2.2.2.1) (ret := y2.2.2.2.1) w7 rfl ?_
                    intro p e s m args below meth c s₁ B hml hP
                    obtain ⟨hargs, hW, hT, hbs⟩ := hP
                    subst hargs
                    have hts := atoms_spec (ws := sv_ws y2) B.pre
                    have C2 : Ctx E g p s m (as.map (wd_v E)).toArray meth c y2 := ⟨B.exec, B.bytes, hml, B.returns, findClass_of_methodNamed B.named, fun w hw => hts w (List.mem_cons_of_mem _ hw), hT, B.notSynchronized, hbs, fun z => (name_of_methodNamed B.named B.method).1.trans z⟩
                    rw [lg_entry_eq]
                    have S2 : Sb E g cA n h s s.heap [] := ⟨hW, va_S.rf⟩
                    have key := ih d m2 0 (fl_enter y2.2.2.1 as) [] h n v2 h2 n2 hr2 (R := rm_d d (n2 - n) (wd_sz n2 - wd_sz n)) (below := below) (e := e) (Q := MQ below (sv_Q E g v2 h2 n2) (as.map (wd_v E)).toArray s (n2 - n) (wd_sz n2 - wd_sz n) (fun q => E.1 ≤ q)) C2 hy2 S2 (Lv.entry as hlen) (Nat.le_refl n) ⟨Nat.le_refl _, Nat.le_refl _, Nat.le_refl _, Nat.le_refl _⟩ (fun pc q ls st cA' H' locs' lsA' hc' hs' S' => st_ret C2 hy2 S' hc' hs')
                    rw [Nat.sub_self, Nat.sub_self] at key
                    exact key
                  have e1 : n - n0 + (n2 - n) = n2 - n0 := by omega
                  have e2 : wd_sz n - wd_sz n0 + (wd_sz n2 - wd_sz n) = wd_sz n2 - wd_sz n0 := by omega
                  refine st_call C hy hy2 S hL hc hs hM ⟨by omega, by omega, by omega, by omega⟩ (fun cA' H1 locs1 S1 => ?_)
                  rw [e1, e2]
                  exact ih (d + 1) mi nx ls (v2.toList ++ rest) h2 n2 v h' n' hrun C hy S1 hL (Nat.le_trans hn0 m1) hR hret
              · rw [if_neg hlen] at hrun; cases hrun
        · simp only at hrun
          cases hrun
          exact hret pc q ls st cA H locs lsA hc hs S
end
section
/-! THE LAW'S ENTRY: from the Statement's start to the flat machine's -/
def fl_g (L : Nat) (xs : Nat → Int32) : Nat → Nat → Int32 := fun j i => if j = 10 then xs i else if j = 11 then Int32.ofNat L else (((fl_st[j]?).getD []).getD i 0)
def fl_h0 (g : Nat → Nat → Int32) : Hp := (fun k j => if 1000 ≤ k then g (k - 1000) j else 0, fun _ _ => none)
theorem sn_lays : sm_sn.all (fun nm => decide (Cond.laysStatic "CardIndex" nm "[I" ∈ lw_tbl)) = true := by decide +kernel
theorem sn_ini : Cond.initialized "CardIndex" ∈ lw_tbl := by decide +kernel
theorem sn_ao : [RX0, RX3, RX7, RX8].all (fun nm => decide (Cond.arrayOver (.object nm) ∈ lw_tbl)) = true := by decide +kernel
/-- what the Statement says of the static arrays: their class, their length, their values -/
def sn_flat (nm : String) (vs : List Int32) : List Cond := [.arrayOf (.static "CardIndex" nm "[I") .int, .eq (.length (.static "CardIndex" nm "[I")) (.int (Int32.ofNat vs.length))] ++ (List.range vs.length).map (fun j => .eq (.elem (.static "CardIndex" nm "[I") (.int (Int32.ofNat j))) (.int (vs.getD j 0)))
theorem sn_all : ((sm_sn.zip fl_st).all (fun q => (sn_flat q.1 q.2).all (fun w => decide (w ∈ flatC (Jvm.Cond.and given_1 narrow_1))))) = true := by decide +kernel
theorem sn_len : sm_sn.length = 10 ∧ fl_st.length = 10 := ⟨rfl, rfl⟩
theorem sn_of {args : Array Value} {s : State} {A : Nat → Prop} (hg : (Jvm.Cond.and given_1 narrow_1).before args s = true) (hts : ∀ w ∈ lw_tbl, w.before args s = true) (hA : ∀ a : Nat, a < s.heap.size → ¬ A a) (j : Nat) (hj : j < 10) :
    ∃ t : Nat, va_T .int t ((fl_st[j]?).getD []).length (fun i => .int (((fl_st[j]?).getD []).getD i 0)) A s s.heap ∧ ∀ nm, sm_sn[j]? = some nm → va_Z "CardIndex" nm "[I" (.ref t) A s s.heap := by
  obtain ⟨vs, hv⟩ : ∃ vs, fl_st[j]? = some vs := ⟨_, List.getElem?_eq_getElem (by rw [sn_len.2]; exact hj)⟩
  obtain ⟨nm, hn⟩ : ∃ nm, sm_sn[j]? = some nm := ⟨_, List.getElem?_eq_getElem (by rw [sn_len.1]; exact hj)⟩
  have hz : (nm, vs) ∈ sm_sn.zip fl_st := List.mem_of_getElem? (i := j) (by rw [List.getElem?_zip_eq_some]; exact ⟨hn, hv⟩)
  have h1 : ∀ w ∈ sn_flat nm vs, w.before args s = true := fun w hw => flat_of_before _ hg w (of_decide_eq_true (List.all_eq_true.mp (List.all_eq_true.mp sn_all _ hz) w hw))
  have hlen : vs.length < 2 ^ 31 := by
    have : fl_st.all (fun vs => decide (vs.length < 100)) = true := by decide +kernel
    have := of_decide_eq_true (List.all_eq_true.mp this vs (List.mem_of_getElem? hv))
    omega
  obtain ⟨t, e1, e2⟩ := va_Tof (A := A) (f := fun i => .int (vs.getD i 0)) hlen (h1 _ (List.mem_append_left _ List.mem_cons_self)) (va_eqt (h1 _ (List.mem_append_left _ (List.mem_cons_of_mem _ List.mem_cons_self)))) (fun i hi => va_eqt (h1 _ (List.mem_append_right _ (List.mem_map.mpr ⟨i, List.mem_range.mpr hi, rfl⟩)))) hA
  rw [hv]
  refine ⟨t, e2, fun nm' hn' => ?_⟩
  cases hn.symm.trans hn'
  exact va_Zof (hts _ (of_decide_eq_true (List.all_eq_true.mp sn_lays nm (List.mem_of_getElem? hn)))) (hts _ sn_ini) e1 hA
def R_law : String := "CardIndexLaw"
def lw_P (b : Addr) (xs : List Int32) (args : Array Value) (s : State) : Prop := args = #[.ref b] ∧ s.IntsAt b xs ∧ xs.length ≤ 3072 ∧ (Jvm.Cond.and given_1 narrow_1).before args s = true
def lw_Q (_ : Array Value) (s : State) (o : Outcome) (t : State) : Prop := o = .returned (some (.int 1)) ∧ Framed s o t [] 600000 7302250
def lw_Z (below : List Frame) (a : Array Value) (s : State) : State → Prop := fun t => ∃ o, t.status = .running ∧ Ended t below o ∧ lw_Q a s o t
/-- the law's own end, with 1 on the stack, nothing written that was there before, its room as the claim has it -/
theorem lw_ret {p : Program} {l : Launch} {e : Env} {s : State} {m : MethodId} {below : List Frame} {meth : Method} {c : Code} {b : Nat} (hx : p.tables.exec = Jvm.exec) (hb : c.code = code) (hr : meth.sig.returnType = ret) (hlocks : meth.locks = false) {pc : Nat} {H : Heap} {ls : Array Slot} (hdg : decode code pc = .ok (.ireturn, 1)) : W p l e room_1 s m #[Value.ref b] below meth c H [] 600000 7302250 (lw_Z below #[Value.ref b] s) (F0 m pc ls [.int 1]) := by
  intro T hT X
  obtain ⟨fs, hret, hrun, hended, hW, hframe⟩ := X.leave (v := some (.int 1)) (hlocks := hlocks) (fun h => by rw [hr] at h; cases h)
  have hmeth' : T.vm.method? m = some meth := X.method'
  refine ⟨T.setFrames fs, ?_, .returned (some (.int 1)), hrun, hended, rfl, ⟨_, rfl⟩, hW, hframe⟩
  jvm_step X.here [X.here.top, hx, hb, hdg, hmeth', hr, ret, narrow_b1]
  (try refine ⟨rfl, ?_⟩); (try refine ⟨rfl, ?_⟩)
  first | (intro acts; rw [hret _ acts rfl rfl rfl]) | rw [hret _ _ rfl rfl rfl]
  exact Steps.refl _
/-- what holds at the law's entry -/
def lw_At (p : Program) (s : State) (m : MethodId) (meth : Method) (c : Code) (b L : Nat) (xs : Nat → Int32) : Prop :=
  p.tables.exec = Jvm.exec ∧ c.code = code ∧ meth.sig.returnType = ret ∧ c.maxLocals = 4 ∧ s.vm.findClass R_law = some m.cls ∧ (∀ w ∈ lw_tbl, w.before #[Value.ref b] s = true) ∧ va_X b L xs s s.heap ∧ b < s.heap.size ∧ meth.locks = false ∧ (Jvm.Cond.and given_1 narrow_1).before #[Value.ref b] s = true
/-- what is owed of the flat machine: the law's run ends, with 1, all cells made -/
def FlatLaw : Prop := ∀ (L : Nat) (xs : Nat → Int32), L ≤ 3072 → ∃ (f : Nat) (h' : Hp), fl_run f 40 214 (0, fl_enter 4 [.ref 1010], [], fl_h0 (fl_g L xs), 0) = some (some (.int 1), h', fl_tot)
theorem sz_tot : wd_sz fl_tot ≤ 7302250 := by decide +kernel
theorem law_y : sm_ms[214]? = some (⟨"CardIndexLaw", "law", "([I)Z"⟩, code, 4, some .boolean, 11) := by rfl
set_option maxHeartbeats 4000000 in
theorem start_of (hF : FlatLaw) {p : Program} {e : Env} {s : State} {m : MethodId} {below : List Frame} {meth : Method} {c : Code} (l : Launch) {b L : Nat} {xs : Nat → Int32} (hL : L ≤ 3072) (C0 : lw_At p s m meth c b L xs) : W p l e room_1 s m #[Value.ref b] below meth c s.heap [] 0 0 (lw_Z below #[Value.ref b] s) (entryFrame m ([Value.ref b] : List Value).toArray 4) := by
  obtain ⟨hx, hb, hr, hml, hown, hts, hX, hbl, hlocks, hgv⟩ := C0
  obtain ⟨f, h', hrun⟩ := hF L xs hL
  have hA : ∀ a : Nat, a < s.heap.size → ¬ (fun q => s.heap.size ≤ q) a := fun a h => Nat.not_le.mpr h
  have hst := sn_of (A := fun q => s.heap.size ≤ q) hgv hts hA
  obtain ⟨sa, hsa⟩ : ∃ sa : Nat → Nat, ∀ j, j < 10 → va_T .int (sa j) ((fl_st[j]?).getD []).length (fun i => .int (((fl_st[j]?).getD []).getD i 0)) (fun q => s.heap.size ≤ q) s s.heap ∧ ∀ nm, sm_sn[j]? = some nm → va_Z "CardIndex" nm "[I" (.ref (sa j)) (fun q => s.heap.size ≤ q) s s.heap :=
    ⟨fun j => if h : j < 10 then Classical.choose (hst j h) else b, fun j hj => by simp only [dif_pos hj]; exact Classical.choose_spec (hst j hj)⟩
  have hts' : ∀ w ∈ sm_tbl, w.before #[Value.ref b] s = true := fun w hw => hts w (List.mem_filter.mp hw).1
  have hcl : ∀ (k : Nat) (q : vw_C), vwCl[k]? = some q → ∃ (cC : ClassId) (iS : Nat → Nat), u_Kn s q.1 q.2.1 q.2.2 cC iS := by
    intro k q hq
    obtain ⟨C, T, N⟩ := q
    exact u_known hts' (cl_words hq).1 (hts' _ (cl_words hq).2.1)
  have hcl2 : ∀ k : Nat, ∃ (cC : ClassId) (iS : Nat → Nat), ∀ q : vw_C, vwCl[k]? = some q → u_Kn s q.1 q.2.1 q.2.2 cC iS := by
    intro k
    cases hq : vwCl[k]? with
    | none => exact ⟨0, fun _ => 0, fun q z => by cases z⟩
    | some r =>
      obtain ⟨cC, iS, h9⟩ := hcl k r hq
      exact ⟨cC, iS, fun q z => by cases z; exact h9⟩
  obtain ⟨dC, dI, hKc⟩ : ∃ (dC : Nat → ClassId) (dI : Nat → Nat → Nat), ∀ (k : Nat) (q : vw_C), vwCl[k]? = some q → u_Kn s q.1 q.2.1 q.2.2 (dC k) (dI k) :=
    ⟨fun k => Classical.choose (hcl2 k), fun k => Classical.choose (Classical.choose_spec (hcl2 k)), fun k => Classical.choose_spec (Classical.choose_spec (hcl2 k))⟩
  have hLc : (Int32.ofNat L).toNatClampNeg = L := Int32.toNatClampNeg_ofNat_of_lt (by omega)
  have hE : ∃ E : wd_E, E = (s.heap.size, (fun j => if j = 10 then b else sa j), (dC, dI)) := ⟨_, rfl⟩
  obtain ⟨E, hE⟩ := hE
  have hE1 : E.1 = s.heap.size := by rw [hE]
  have hT : wd_T E (fl_g L xs) s s.heap := by
    rw [hE]
    refine ⟨fun j hj => ?_, fun j nm hn => ?_, fun w hw => ?_, fun q hq z => ?_⟩
    · by_cases h10 : j = 10
      · subst h10
        obtain ⟨scr, q1, q2, q3, q4, q5⟩ := hX
        refine ⟨scr, q1, q2, q3, ?_, ?_, ?_, Nat.not_le.mpr hbl⟩
        · rw [q4]; simp [wd_len, fl_g, hLc]
        · rw [q4]; simp [wd_len, fl_g, hLc]
        · intro j hj
          have : wd_len (fl_g L xs) 10 = L := by simp [wd_len, fl_g, hLc]
          rw [this] at hj
          simpa [fl_g] using q5 j hj
      · have z := (hsa j (by omega)).1
        simp only [if_neg h10]
        have e1 : wd_len (fl_g L xs) j = ((fl_st[j]?).getD []).length := by unfold wd_len; rw [if_neg h10]
        have e2 : (fun i => Value.int (fl_g L xs j i)) = fun i => .int (((fl_st[j]?).getD []).getD i 0) := by funext i; unfold fl_g; rw [if_neg h10, if_neg (by omega)]
        rw [e1, e2]
        exact z
    · have hj : j < 10 := by
        have := (List.getElem?_eq_some_iff.mp hn).1
        rwa [sn_len.1] at this
      simp only [if_neg (by omega : ¬ j = 10)]
      exact (hsa j hj).2 nm hn
    · have hw1 := hts w (List.mem_filter.mp hw).1
      have h2 := (List.mem_filter.mp hw).2
      cases w <;> first | exact va_Nw.of rfl hw1 | (exact absurd h2 (by simp))
    · have hao := sn_ao
      simp only [List.all_cons, List.all_nil, Bool.and_true, Bool.and_eq_true, decide_eq_true_eq] at hao
      rcases z with z | z | z | z <;> rw [z]
      · exact va_AO.of (hts _ hao.1)
      · exact va_AO.of (hts _ hao.2.1)
      · exact va_AO.of (hts _ hao.2.2.1)
      · exact va_AO.of (hts _ hao.2.2.2)
  have C : Ctx E (fl_g L xs) p s m #[Value.ref b] meth c (⟨"CardIndexLaw", "law", "([I)Z"⟩, code, 4, some .boolean, 11) := ⟨hx, hb, hml, hr, hown, hts', hT, hlocks, by rw [hE1]; exact Nat.le_refl _, fun z => absurd z (by decide)⟩
  have S : Sb E (fl_g L xs) (fun _ => 0) 0 (fl_h0 (fl_g L xs)) s s.heap [] := by
    refine ⟨⟨Nat.zero_le _, fun k q hk => by simp [wd_ws] at hk, ⟨?_, fun k q hk => by simp [wd_tys] at hk⟩, fun _ => by rw [hE1]; rfl, fun j i => ?_⟩, va_S.rf⟩
    · rw [hE]; exact hKc
    · simp [fl_h0]
  have hargs : ([Value.ref b] : List Value) = [Value.ref 1010].map (wd_v E) := by
    show _ = [Value.ref (wd_ad E 1010)]
    rw [wd_adge (by omega), hE]
    rfl
  have key := fl_sim l f 40 214 0 (fl_enter 4 [.ref 1010]) [] (fl_h0 (fl_g L xs)) 0 (some (.int 1)) h' fl_tot hrun (R := room_1) (below := below) (e := e) (Q := lw_Z below #[Value.ref b] s) (n0 := 0) C law_y S (Lv.entry [.ref 1010] (by decide)) (Nat.le_refl 0) ⟨by decide, by have := sz_tot; show wd_sz fl_tot - wd_sz 0 ≤ 7302250; omega, by decide, by decide⟩ ?_
  · have e0 : entryFrame m ([Value.ref b] : List Value).toArray 4 = F0 m 0 ((lg_sl ([Value.ref 1010].map (wd_v E)) ++ List.replicate (4 - (lg_sl ([Value.ref 1010].map (wd_v E))).length) Slot.unset).toArray) [] := by rw [lg_entry_eq, hargs]
    rw [Nat.sub_self, Nat.sub_self] at key
    rw [e0]
    exact key
  · intro pc q ls st cA H' locs' lsA' hc' hs' S'
    obtain ⟨i, len, hd, hl⟩ := cd_dec law_y hc'
    have hop := ret_op hs'
    have hri := (low_kind hl).1 hop
    cases i <;> first | (cases hri; done) | skip
    case return_ =>
      simp only [sm_low, sm_lower] at hl
      obtain ⟨rfl, rfl⟩ := it_some hl
      have := (iv21 hs').2
      cases this
    case lreturn =>
      simp only [sm_low, sm_lower] at hl
      obtain ⟨rfl, rfl⟩ := it_some hl
      obtain ⟨x, e1, e2⟩ := iv23 hs'
      cases e2
    case areturn =>
      simp only [sm_low, sm_lower] at hl
      obtain ⟨rfl, rfl⟩ := it_some hl
      obtain ⟨o, e1, e2⟩ := iv24 hs'
      cases o <;> cases e2
    case ireturn =>
      simp only [sm_low] at hl
      split at hl
      · rename_i hlen
        subst hlen
        cases hl
        obtain ⟨x, rfl, e2, e3⟩ := iv22 hs'
        cases e3
        refine va_forget (fun q hq => by have := S'.2.2.2 q hq; rw [hE1] at this; exact this) ?_
        refine W.widen (k := 600000) (n := 7302250) (by decide) (by have := sz_tot; show wd_sz fl_tot - wd_sz 0 ≤ 7302250; omega) ?_
        exact lw_ret hx hb hr hlocks hd
      · cases hl
end
section
/-! RUNS OF THE FLAT MACHINE: more steps and more depth do no harm; steps, calls, ends -/
theorem fl_run_more : ∀ (f d m : Nat) (c : Cfg) (r : Option Value × Hp × Nat), fl_run f d m c = some r → ∀ (f' d' : Nat), f ≤ f' → d ≤ d' → fl_run f' d' m c = some r := by
  intro f
  induction f with
  | zero => intro d m c r h; cases h
  | succ f ih =>
    intro d m c r h f' d' hf hd
    obtain ⟨f1, rfl⟩ : ∃ f1, f' = f1 + 1 := ⟨f' - 1, by omega⟩
    have hf1 : f ≤ f1 := by omega
    unfold fl_run at h ⊢
    cases hc : fl_code m c.1 with
    | none => rw [hc] at h; cases h
    | some q =>
      rw [hc] at h
      simp only at h ⊢
      cases hs : fl_step q c with
      | none => rw [hs] at h; cases h
      | some o =>
        rw [hs] at h
        rcases o with c' | ⟨m2, as, rest, nx⟩ | v
        · simp only at h ⊢
          exact ih _ _ _ _ h _ _ hf1 hd
        · simp only at h ⊢
          cases d with
          | zero => cases h
          | succ d =>
            obtain ⟨d1, rfl⟩ : ∃ d1, d' = d1 + 1 := ⟨d' - 1, by omega⟩
            simp only at h ⊢
            cases hy : sm_ms[m2]? with
            | none => rw [hy] at h; cases h
            | some y =>
              rw [hy] at h
              simp only at h ⊢
              by_cases hl : (fl_args as).length ≤ y.2.2.1
              · rw [if_pos hl] at h ⊢
                cases hr : fl_run f d m2 (0, fl_enter y.2.2.1 as, [], c.2.2.2.1, c.2.2.2.2) with
                | none => rw [hr] at h; cases h
                | some w =>
                  rw [hr] at h
                  rw [ih _ _ _ _ hr f1 d1 hf1 (by omega)]
                  obtain ⟨v2, h2, n2⟩ := w
                  simp only at h ⊢
                  exact ih _ _ _ _ h _ _ hf1 hd
              · rw [if_neg hl] at h; cases h
        · exact h
/-- from c the method m comes to the end r, at most d calls within one another -/
def Ev (d m : Nat) (c : Cfg) (r : Option Value × Hp × Nat) : Prop := ∃ f, fl_run f d m c = some r
theorem Ev.mono {d d' m : Nat} {c : Cfg} {r : Option Value × Hp × Nat} (h : Ev d m c r) (hd : d ≤ d') : Ev d' m c r := by
  obtain ⟨f, hf⟩ := h
  exact ⟨f, fl_run_more _ _ _ _ _ hf _ _ (Nat.le_refl _) hd⟩
theorem Ev.step {d m : Nat} {c c' : Cfg} {q : Smi} {r : Option Value × Hp × Nat} (hc : fl_code m c.1 = some q) (hs : fl_step q c = some (.inl c')) (h : Ev d m c' r) : Ev d m c r := by
  obtain ⟨f, hf⟩ := h
  refine ⟨f + 1, ?_⟩
  unfold fl_run
  rw [hc]
  simp only [hs]
  exact hf
theorem Ev.ret {d m : Nat} {c : Cfg} {q : Smi} {v : Option Value} (hc : fl_code m c.1 = some q) (hs : fl_step q c = some (.inr (.inr v))) : Ev d m c (v, c.2.2.2.1, c.2.2.2.2) := by
  refine ⟨1, ?_⟩
  unfold fl_run
  rw [hc]
  simp only [hs]
theorem Ev.call {d m m2 nx : Nat} {c : Cfg} {q : Smi} {as rest : List Value} {y : sm_M} {v : Option Value} {h : Hp} {n : Nat} {r : Option Value × Hp × Nat} (hc : fl_code m c.1 = some q) (hs : fl_step q c = some (.inr (.inl (m2, as, rest, nx)))) (hy : sm_ms[m2]? = some y) (hl : (fl_args as).length ≤ y.2.2.1)
    (h1 : Ev d m2 (0, fl_enter y.2.2.1 as, [], c.2.2.2.1, c.2.2.2.2) (v, h, n)) (h2 : Ev (d + 1) m (nx, c.2.1, v.toList ++ rest, h, n) r) : Ev (d + 1) m c r := by
  obtain ⟨f1, hf1⟩ := h1
  obtain ⟨f2, hf2⟩ := h2
  refine ⟨f1 + f2 + 1, ?_⟩
  unfold fl_run
  rw [hc]
  simp only [hs, hy, if_pos hl]
  rw [fl_run_more _ _ _ _ _ hf1 (f1 + f2) d (by omega) (Nat.le_refl _)]
  simp only
  exact fl_run_more _ _ _ _ _ hf2 (f1 + f2) (d + 1) (by omega) (Nat.le_refl _)
end
section
/-! the kinds of the cells: code of the plan, size, types of the slots (1: int with bounds, 2: reference to a kind) -/
def ab_K : List (Nat × Nat × List (Nat × Int × Int)) := [(50, 0, [(1, 0, 6)]),
  (9, 8, [(2, 2, 0), (2, 19, 0), (2, 23, 0), (2, 27, 0), (2, 28, 0), (1, 0, 1), (1, -2147483648, 2147483647), (1, -2147483648, 2147483647)]),
  (4, 4, [(2, 3, 0), (2, 15, 0), (1, 0, 6), (1, 0, 5)]),
  (38, 6, [(2, 4, 0)]),
  (8, 12, [(2, 5, 0), (2, 7, 0), (2, 11, 0), (2, 12, 0), (2, 13, 0), (2, 14, 0), (1, 0, 5), (1, -2147483648, 2147483647), (1, 0, 2), (1, -2147483648, 2147483647), (1, -2147483648, 2147483647), (1, -2147483648, 2147483647)]),
  (1, 5, [(2, 6, 0), (1, -2147483648, 2147483647), (1, -2147483648, 2147483647), (1, -2147483648, 2147483647), (1, -2147483648, 2147483647)]),
  (20, 64, [(1, -2147483648, 2147483647)]),
  (37, 4, [(2, 8, 0)]),
  (7, 9, [(2, 9, 0), (2, 9, 0), (2, 10, 0), (1, -2147483648, 2147483647), (1, -2147483648, 2147483647), (1, 0, 1), (1, -2147483648, 2147483647), (1, -2147483648, 2147483647), (1, -2147483648, 2147483647)]),
  (20, 8, [(1, -2147483648, 2147483647)]),
  (20, 8, [(1, -2147483648, 2147483647)]),
  (20, 4, [(1, -2147483648, 2147483647)]),
  (20, 32, [(1, -2147483648, 2147483647)]),
  (20, 32, [(1, -2147483648, 2147483647)]),
  (20, 32, [(1, -2147483648, 2147483647)]),
  (33, 5, [(2, 16, 0)]),
  (3, 5, [(1, -2147483648, 2147483647), (2, 17, 0), (2, 5, 0), (1, 0, 8), (1, 0, 8)]),
  (30, 8, [(2, 18, 0)]),
  (0, 19, [(1, -2147483648, 2147483647), (1, -2147483648, 2147483647), (1, 0, 5), (1, -2147483648, 2147483647), (1, -2147483648, 2147483647), (1, -2147483648, 2147483647), (1, -2147483648, 2147483647), (2, 0, 0), (1, -2147483648, 2147483647), (1, -2147483648, 2147483647), (1, 0, 1), (1, -2147483648, 2147483647), (1, -2147483648, 2147483647), (1, -2147483648, 2147483647), (1, -2147483648, 2147483647), (1, -2147483648, 2147483647), (1, -2147483648, 2147483647), (1, -2147483648, 2147483647), (1, -2147483648, 2147483647)]),
  (6, 7, [(2, 2, 0), (2, 20, 0), (2, 21, 0), (2, 22, 0), (1, 0, 80), (1, 0, 600), (1, 0, 2)]),
  (20, 320, [(1, -2147483648, 2147483647)]),
  (20, 600, [(1, 0, 4)]),
  (20, 600, [(1, -2147483648, 2147483647)]),
  (2, 13, [(2, 2, 0), (2, 19, 0), (2, 5, 0), (2, 24, 0), (2, 25, 0), (2, 26, 0), (1, -2147483648, 2147483647), (1, -2147483648, 2147483647), (2, 5, 0), (1, 0, 12), (1, -2147483648, 2147483647), (1, -2147483648, 2147483647), (1, -2147483648, 2147483647)]),
  (30, 12, [(2, 18, 0)]),
  (20, 12, [(1, -2147483648, 2147483647)]),
  (20, 12, [(1, -2147483648, 2147483647)]),
  (5, 8, [(2, 2, 0), (2, 19, 0), (2, 23, 0), (2, 28, 0), (2, 29, 0), (2, 30, 0), (1, 0, 60), (1, -2147483648, 2147483647)]),
  (20, 600, [(1, -2147483648, 2147483647)]),
  (20, 5, [(1, -2147483648, 2147483647)]),
  (20, 4800, [(1, -2147483648, 2147483647)]),
  (10, 75, [(1, 0, 6), (2, 32, 0), (2, 33, 0), (2, 34, 0), (1, 0, 5), (2, 35, 0), (2, 36, 0), (2, 37, 0), (2, 38, 0), (2, 39, 0), (2, 40, 0), (2, 41, 0), (2, 42, 0), (1, 0, 1), (1, 0, 2), (1, 0, 600), (1, 0, 80), (2, 43, 0), (2, 44, 0), (2, 45, 0), (2, 46, 0), (2, 47, 0), (2, 48, 0), (2, 49, 0), (2, 50, 0), (2, 51, 0), (2, 52, 0), (2, 53, 0), (2, 54, 0), (2, 55, 0), (2, 56, 0), (2, 57, 0), (2, 58, 0), (2, 59, 0), (2, 60, 0), (2, 61, 0), (2, 62, 0), (2, 63, 0), (2, 64, 0), (2, 65, 0), (2, 66, 0), (2, 67, 0), (1, -2147483648, 2147483647), (2, 68, 0), (2, 69, 0), (2, 70, 0), (2, 71, 0), (2, 72, 0), (2, 73, 0), (2, 74, 0), (2, 75, 0), (2, 76, 0), (2, 77, 0), (2, 78, 0), (2, 79, 0), (2, 80, 0), (1, -2147483648, 2147483647), (1, -2147483648, 2147483647), (2, 81, 0), (2, 82, 0), (1, 0, 40), (2, 83, 0), (2, 84, 0), (2, 85, 0), (1, -2147483648, 2147483647), (2, 86, 0), (2, 87, 0), (2, 88, 0), (1, 0, 12), (1, 0, 1), (2, 89, 0), (2, 90, 0), (2, 91, 0), (2, 92, 0), (1, 0, 1000)]),
  (20, 6, [(1, 0, 5)]),
  (20, 6, [(1, -2147483648, 2147483647)]),
  (20, 6, [(1, 0, 2)]),
  (20, 5, [(1, 0, 8)]),
  (20, 40, [(1, 0, 5)]),
  (20, 40, [(1, 0, 4)]),
  (20, 40, [(1, -2147483648, 2147483647)]),
  (20, 40, [(1, -2147483648, 2147483647)]),
  (20, 40, [(1, -2147483648, 2147483647)]),
  (20, 600, [(1, -1, 4)]),
  (20, 192, [(1, 0, 9)]),
  (20, 80, [(1, 0, 39)]),
  (21, 80, [(1, 0, 1)]),
  (20, 80, [(1, -2147483648, 2147483647)]),
  (20, 40, [(1, -2147483648, 2147483647)]),
  (20, 40, [(1, 0, 6)]),
  (20, 40, [(1, -2147483648, 2147483647)]),
  (20, 40, [(1, -1, 79)]),
  (20, 40, [(1, -1, 79)]),
  (20, 5, [(1, 0, 8)]),
  (20, 5, [(1, -1, 20)]),
  (21, 5, [(1, 0, 1)]),
  (20, 5, [(1, -2147483648, 2147483647)]),
  (21, 5, [(1, 0, 1)]),
  (20, 5, [(1, -2147483648, 2147483647)]),
  (21, 5, [(1, 0, 1)]),
  (21, 5, [(1, 0, 1)]),
  (21, 5, [(1, 0, 1)]),
  (21, 160, [(1, 0, 1)]),
  (20, 160, [(1, -2147483648, 2147483647)]),
  (20, 24, [(1, -1, 4)]),
  (21, 192, [(1, 0, 1)]),
  (20, 192, [(1, -2147483648, 2147483647)]),
  (20, 192, [(1, 0, 7)]),
  (21, 192, [(1, 0, 1)]),
  (20, 192, [(1, -2147483648, 2147483647)]),
  (20, 288, [(1, -2147483648, 2147483647)]),
  (20, 6, [(1, 0, 40)]),
  (21, 6, [(1, 0, 1)]),
  (20, 24, [(1, -2147483648, 2147483647)]),
  (21, 192, [(1, 0, 1)]),
  (20, 192, [(1, 0, 9)]),
  (20, 24, [(1, 0, 8)]),
  (21, 24, [(1, 0, 1)]),
  (20, 24, [(1, 0, 8)]),
  (20, 6, [(1, -2147483648, 2147483647)]),
  (20, 6, [(1, -2147483648, 2147483647)]),
  (20, 6, [(1, -2147483648, 2147483647)]),
  (20, 6, [(1, -2147483648, 2147483647)]),
  (20, 5, [(1, -2147483648, 2147483647)]),
  (20, 40, [(1, 0, 39)]),
  (20, 12, [(1, 0, 11)]),
  (21, 12, [(1, 0, 1)]),
  (20, 13, [(1, 0, 12)]),
  (21, 32, [(1, 0, 1)]),
  (20, 32, [(1, -2147483648, 2147483647)]),
  (20, 12, [(1, -2147483648, 2147483647)]),
  (20, 4, [(1, -2147483648, 2147483647)]),
  (20, 600, [(1, 0, 4)]),
  (20, 600, [(1, 0, 5)]),
  (20, 4800, [(1, -2147483648, 2147483647)])]
def ab_kl : List Nat := [1, 2, 3, 15, 4, 5, 6, 7, 11, 12, 13, 14, 8, 9, 9, 10, 8, 9, 9, 10, 8, 9, 9, 10, 8, 9, 9, 10, 4, 5, 6, 7, 11, 12, 13, 14, 8, 9, 9, 10, 8, 9, 9, 10, 8, 9, 9, 10, 8, 9, 9, 10, 4, 5, 6, 7, 11, 12, 13, 14, 8, 9, 9, 10, 8, 9, 9, 10, 8, 9, 9, 10, 8, 9, 9, 10, 4, 5, 6, 7, 11, 12, 13, 14, 8, 9, 9, 10, 8, 9, 9, 10, 8, 9, 9, 10, 8, 9, 9, 10, 4, 5, 6, 7, 11, 12, 13, 14, 8, 9, 9, 10, 8, 9, 9, 10, 8, 9, 9, 10, 8, 9, 9, 10, 4, 5, 6, 7, 11, 12, 13, 14, 8, 9, 9, 10, 8, 9, 9, 10, 8, 9, 9, 10, 8, 9, 9, 10, 16, 17, 5, 6, 18, 18, 18, 18, 18, 18, 18, 18, 16, 17, 5, 6, 18, 18, 18, 18, 18, 18, 18, 18, 16, 17, 5, 6, 18, 18, 18, 18, 18, 18, 18, 18, 16, 17, 5, 6, 18, 18, 18, 18, 18, 18, 18, 18, 16, 17, 5, 6, 18, 18, 18, 18, 18, 18, 18, 18, 19, 20, 21, 22, 23, 5, 6, 24, 25, 26, 27, 28, 29, 30, 28, 31, 32, 33, 34, 35, 36, 37, 38, 39, 40, 41, 42, 43, 44, 45, 46, 47, 48, 49, 50, 51, 52, 53, 54, 55, 56, 57, 58, 59, 60, 61, 62, 63, 64, 65, 66, 67, 68, 69, 70, 71, 72, 73, 74, 75, 76, 77, 78, 79, 80, 81, 82, 83, 84, 85, 86, 87, 88, 89, 90, 91, 92]
end
section
/-! A CHECKER OF METHODS: intervals for whole numbers (by names of values), kinds for references -/
/-- a value as the checker knows it: sort (1 int, 2 reference, 3 null, 4 reference or null, 5 long, else nothing), name, offset (int) or kind -/
abbrev AV : Type := Nat × Nat × Int
/-- a type: sort, bounds (int) or kind -/
abbrev TY : Type := Nat × Int × Int
/-- locals, stack, bounds of the named values, fields read (name of the cell, kind, slot, value) -/
abbrev AS : Type := List AV × List AV × List (Int × Int) × List (Nat × Nat × Nat × AV)
/-- a kind of cells: code of the plan (below 20 its class, 20, 21, 30 and more arrays, 50 the static arrays), size, types of its slots (an array: one) -/
abbrev KI : Type := Nat × Nat × List TY
def ab_kd (r : Nat) : Nat := if r < 1000 then (ab_kl[r]?).getD 9999 else if r < 1010 then 0 else 9999
def ab_lim (lo hi : Int) : Bool := decide (-2147483648 ≤ lo) && decide (hi ≤ 2147483647)
def ab_full : Int × Int := (-2147483648, 2147483647)
def ab_bnd (env : List (Int × Int)) (a : AV) : Option (Int × Int) := if a.1 = 1 then (match env[a.2.1]? with
  | some b => if b.2 < b.1 then none else some (b.1 + a.2.2, b.2 + a.2.2)
  | none => none) else none
def ab_min (a b : Int) : Int := if a ≤ b then a else b
def ab_max (a b : Int) : Int := if a ≤ b then b else a
def ab_bin (o : Int) (x y : Int × Int) : Option (Int × Int) := match o with
  | 0 => if ab_lim (x.1 + y.1) (x.2 + y.2) then some (x.1 + y.1, x.2 + y.2) else some ab_full
  | 1 => if ab_lim (x.1 - y.2) (x.2 - y.1) then some (x.1 - y.2, x.2 - y.1) else some ab_full
  | 2 => if 0 ≤ x.1 ∧ 0 ≤ y.1 ∧ x.2 * y.2 ≤ 2147483647 then some (0, x.2 * y.2) else some ab_full
  | 3 => if 0 ≤ x.1 ∧ 1 ≤ y.1 then some (0, x.2) else if 1 ≤ y.1 ∨ y.2 ≤ -1 then some ab_full else none
  | 4 => if 0 ≤ x.1 ∧ 1 ≤ y.1 then some (0, ab_min x.2 (y.2 - 1)) else if 1 ≤ y.1 ∨ y.2 ≤ -1 then some ab_full else none
  | 5 => some ab_full
  | 6 => some ab_full
  | 7 => some ab_full
  | 8 => if 0 ≤ y.1 then some (0, y.2) else if 0 ≤ x.1 then some (0, x.2) else some ab_full
  | 9 => some ab_full
  | 10 => some ab_full
  | _ => none
/-- the bounds of two values of which a comparison holds; none: it can't hold -/
def ab_cmp (o : Int) (x y : Int × Int) : Option ((Int × Int) × (Int × Int)) :=
  let r : (Int × Int) × (Int × Int) := match o with
    | 0 => ((ab_max x.1 y.1, ab_min x.2 y.2), (ab_max x.1 y.1, ab_min x.2 y.2))
    | 1 => if y.1 = y.2 then ((if x.1 = y.1 then x.1 + 1 else x.1, if x.2 = y.1 then x.2 - 1 else x.2), y) else (x, y)
    | 2 => ((x.1, ab_min x.2 (y.2 - 1)), (ab_max y.1 (x.1 + 1), y.2))
    | 3 => ((ab_max x.1 y.1, x.2), (y.1, ab_min y.2 x.2))
    | 4 => ((ab_max x.1 (y.1 + 1), x.2), (y.1, ab_min y.2 (x.2 - 1)))
    | 5 => ((x.1, ab_min x.2 y.2), (ab_max y.1 x.1, y.2))
    | _ => (x, y)
  if r.1.2 < r.1.1 ∨ r.2.2 < r.2.1 then none else some r
def ab_neg (o : Int) : Int := match o with
  | 0 => 1
  | 1 => 0
  | 2 => 3
  | 3 => 2
  | 4 => 5
  | 5 => 4
  | _ => 9
/-- the named value of a is known to lie within b -/
def ab_set (env : List (Int × Int)) (a : AV) (b : Int × Int) : List (Int × Int) := env.set a.2.1 (b.1 - a.2.2, b.2 - a.2.2)
def ab_put (env : List (Int × Int)) (st : List AV) (t : TY) : Option (List AV × List (Int × Int) × AV) := match t.1 with
  | 1 => some ((1, env.length, 0) :: st, env ++ [(t.2.1, t.2.2)], (1, env.length, 0))
  | 2 => some ((2, env.length, t.2.1) :: st, env ++ [(1, 0)], (2, env.length, t.2.1))
  | 4 => some ((4, env.length, t.2.1) :: st, env ++ [(1, 0)], (4, env.length, t.2.1))
  | 5 => some ((5, 0, 0) :: st, env, (5, 0, 0))
  | _ => none
/-- does a value fit a type -/
def ab_fits (env : List (Int × Int)) (a : AV) (t : TY) : Bool := match t.1 with
  | 1 => (match ab_bnd env a with
    | some b => decide (t.2.1 ≤ b.1) && decide (b.2 ≤ t.2.2)
    | none => false)
  | 2 => a.1 == 2 && a.2.2 == t.2.1
  | 4 => a.1 == 3 || ((a.1 == 2 || a.1 == 4) && a.2.2 == t.2.1)
  | 5 => a.1 == 5
  | 0 => a.1 != 5
  | _ => false
def ab_cat (st : List AV) : Nat := (st.map fun a => if a.1 = 5 then 2 else 1).sum
def ab_one (a : AV) : Bool := a.1 == 1 || a.1 == 2 || a.1 == 3 || a.1 == 4
/-- a reference that may be null is known to be one -/
def ab_nn (i : Nat) (a : AV) : AV := if a.1 = 4 ∧ a.2.1 = i then (2, a.2.1, a.2.2) else a
/-- no long stands ahead of it -/
def ab_nl (ls : List AV) : Nat → Bool
  | 0 => true
  | j + 1 => match ls[j]? with
    | some b => b.1 != 5
    | none => true
/-- storing a local -/
def ab_store (ls : List AV) (i : Nat) (a : AV) : Option (List AV) :=
  if ab_nl ls i = true then
    if a.1 = 5 then (if i + 1 < ls.length then some ((ls.set i a).set (i + 1) (0, 0, 0)) else none)
    else if ab_one a then (if i < ls.length then some (ls.set i a) else none) else none
  else none
def ab_sort (t : Int) (a : AV) : Bool := (t == 0 && a.1 == 1) || (t == 1 && a.1 == 5) || (t == 2 && (a.1 == 2 || a.1 == 3 || a.1 == 4))
def ab_range (env : List (Int × Int)) (i : AV) (n : Nat) : Bool := match ab_bnd env i with
  | some b => decide (0 ≤ b.1) && decide (b.2 < (n : Int))
  | none => false
/-- the kind is of objects of the class ci, with a slot j -/
def ab_obj (kn ci j : Nat) : Bool := match ab_K[kn]? with
  | some (code, size, _) => code == ci && decide (j < size) && (fl_N[ci]?).getD 0 == size && decide (fl_kind ci j ≤ 2) && decide (1 ≤ kn)
  | none => false
/-- the first name is 0 -/
def ab_z : List (Int × Int) → Bool
  | b :: _ => b == (0, 0)
  | [] => false
/-- one step: the next places and states; mods: the kinds that may be written -/
def ab_step (mods : List Nat) (q : Smi) (s : AS) : Option (List (Nat × AS)) := match q, s with
  | (op, a, nx), (ls, st, env, ca) => match op with
    | 1 => match a with
      | [v] => if (ab_lim v v && ab_z env) = true then some [(nx, ls, (1, 0, v) :: st, env, ca)] else none
      | _ => none
    | 2 => match a with
      | [i, t] => match ls[i.toNat]? with
        | some v => if ab_sort t v then some [(nx, ls, v :: st, env, ca)] else none
        | none => none
      | _ => none
    | 3 => match a, st with
      | [i, t], v :: st => if ab_sort t v then (match ab_store ls i.toNat v with
        | some ls => some [(nx, ls, st, env, ca)]
        | none => none) else none
      | _, _ => none
    | 4 => match a with
      | [i, d] => match ls[i.toNat]? with
        | some v => (match ab_bnd env v with
          | some b => if ab_lim d d then (if ab_lim (b.1 + d) (b.2 + d) then (match ab_store ls i.toNat (1, v.2.1, v.2.2 + d) with
              | some ls => some [(nx, ls, st, env, ca)]
              | none => none) else
            (match ab_store ls i.toNat (1, env.length, 0) with
              | some ls => some [(nx, ls, st, env ++ [ab_full], ca)]
              | none => none)) else none
          | none => none)
        | none => none
      | _ => none
    | 5 => match a, st with
      | [o], y :: x :: st => (match ab_bnd env x, ab_bnd env y with
        | some bx, some by' =>
          if o = 0 ∧ by'.1 = by'.2 ∧ ab_lim (bx.1 + by'.1) (bx.2 + by'.1) = true then some [(nx, ls, (1, x.2.1, x.2.2 + by'.1) :: st, env, ca)]
          else if o = 0 ∧ bx.1 = bx.2 ∧ ab_lim (by'.1 + bx.1) (by'.2 + bx.1) = true then some [(nx, ls, (1, y.2.1, y.2.2 + bx.1) :: st, env, ca)]
          else if o = 1 ∧ by'.1 = by'.2 ∧ ab_lim (bx.1 - by'.1) (bx.2 - by'.1) = true then some [(nx, ls, (1, x.2.1, x.2.2 - by'.1) :: st, env, ca)]
          else match ab_bin o bx by' with
            | some b => some [(nx, ls, (1, env.length, 0) :: st, env ++ [b], ca)]
            | none => none
        | _, _ => none)
      | _, _ => none
    | 6 => match a, st with
      | [o, t], x :: st => (match ab_bnd env x with
        | some bx => if 0 ≤ o ∧ o ≤ 5 then some (
            (match ab_cmp o bx (0, 0) with
              | some r => [(t.toNat, ls, st, ab_set env x r.1, ca)]
              | none => []) ++
            (match ab_cmp (ab_neg o) bx (0, 0) with
              | some r => [(nx, ls, st, ab_set env x r.1, ca)]
              | none => [])) else none
        | none => none)
      | _, _ => none
    | 7 => match a, st with
      | [o, t], y :: x :: st => (match ab_bnd env x, ab_bnd env y with
        | some bx, some by' => if 0 ≤ o ∧ o ≤ 5 then some (
            (match ab_cmp o bx by' with
              | some r => [(t.toNat, ls, st, if x.2.1 = y.2.1 then env else ab_set (ab_set env x r.1) y r.2, ca)]
              | none => []) ++
            (match ab_cmp (ab_neg o) bx by' with
              | some r => [(nx, ls, st, if x.2.1 = y.2.1 then env else ab_set (ab_set env x r.1) y r.2, ca)]
              | none => [])) else none
        | _, _ => none)
      | _, _ => none
    | 8 => match a with
      | [t] => some [(t.toNat, ls, st, env, ca)]
      | _ => none
    | 9 => match a, st with
      | [ci, k], v :: st => if v.1 = 2 then
          (match ca.find? (fun e => e.1 == v.2.1 && e.2.2.1 == k.toNat) with
          | some e => if (fl_kind ci.toNat k.toNat == 2) == (e.2.2.2.1 == 2 || e.2.2.2.1 == 4) && ab_obj v.2.2.toNat ci.toNat k.toNat && ab_one e.2.2.2 && e.2.2.2.1 != 3 then some [(nx, ls, e.2.2.2 :: st, env, ca)] else none
          | none => (match ab_K[v.2.2.toNat]? with
            | some (code, size, tys) => if code == ci.toNat && decide (1 ≤ v.2.2.toNat) && decide (k.toNat < size) && (fl_N[ci.toNat]?).getD 0 == size then
                (match tys[k.toNat]? with
                | some t => if (t.1 == 1 && decide (fl_kind ci.toNat k.toNat < 2)) || ((t.1 == 2 || t.1 == 4) && fl_kind ci.toNat k.toNat == 2) then
                    (match ab_put env st t with
                    | some (st', env', v') => some [(nx, ls, st', env', (v.2.1, v.2.2.toNat, k.toNat, v') :: ca)]
                    | none => none) else none
                | none => none) else none
            | none => none)) else none
      | _, _ => none
    | 10 => match a, st with
      | [ci, k], x :: v :: st => if v.1 = 2 ∧ v.2.2.toNat ∈ mods then
          (match ab_K[v.2.2.toNat]? with
          | some (code, size, tys) => if code == ci.toNat && decide (1 ≤ v.2.2.toNat) && decide (k.toNat < size) && (fl_N[ci.toNat]?).getD 0 == size then
              (match tys[k.toNat]? with
              | some t => if ab_fits env x t && ab_one x && ((t.1 == 1 && decide (fl_kind ci.toNat k.toNat < 2) && (fl_kind ci.toNat k.toNat == 0 || (decide (0 ≤ t.2.1) && decide (t.2.2 ≤ 1)))) || ((t.1 == 2 || t.1 == 4) && fl_kind ci.toNat k.toNat == 2)) then
                  some [(nx, ls, st, env, (if x.1 = 3 then [] else [(v.2.1, v.2.2.toNat, k.toNat, x)]) ++ ca.filter (fun e => e.2.1 != v.2.2.toNat || e.2.2.1 != k.toNat))] else none
              | none => none) else none
          | none => none) else none
      | _, _ => none
    | 11 => match st with
      | i :: v :: st => if v.1 = 2 then
          (match ab_K[v.2.2.toNat]? with
          | some (code, size, tys) => if code == 20 && decide (1 ≤ v.2.2.toNat) && ab_range env i size then
              (match tys with
              | [t] => if t.1 = 1 then (match ab_put env st t with
                | some (st', env', _) => some [(nx, ls, st', env', ca)]
                | none => none) else none
              | _ => none) else none
          | none => none) else none
      | _ => none
    | 12 => match st with
      | x :: i :: v :: st => if v.1 = 2 ∧ v.2.2.toNat ∈ mods then
          (match ab_K[v.2.2.toNat]? with
          | some (code, size, tys) => if code == 20 && decide (1 ≤ v.2.2.toNat) && ab_range env i size then
              (match tys with
              | [t] => if t.1 = 1 ∧ ab_fits env x t = true then some [(nx, ls, st, env, ca)] else none
              | _ => none) else none
          | none => none) else none
      | _ => none
    | 13 => match st with
      | i :: v :: st => if v.1 = 2 then
          (match ab_K[v.2.2.toNat]? with
          | some (code, size, tys) => if code == 21 && decide (1 ≤ v.2.2.toNat) && ab_range env i size then
              (match tys with
              | [t] => if t.1 = 1 then (match ab_put env st t with
                | some (st', env', _) => some [(nx, ls, st', env', ca)]
                | none => none) else none
              | _ => none) else none
          | none => none) else none
      | _ => none
    | 14 => match st with
      | x :: i :: v :: st => if v.1 = 2 ∧ v.2.2.toNat ∈ mods then
          (match ab_K[v.2.2.toNat]? with
          | some (code, size, tys) => if code == 21 && decide (1 ≤ v.2.2.toNat) && ab_range env i size then
              (match tys with
              | [t] => if t.1 = 1 ∧ 0 ≤ t.2.1 ∧ t.2.2 ≤ 1 ∧ ab_fits env x t = true then some [(nx, ls, st, env, ca)] else none
              | _ => none) else none
          | none => none) else none
      | _ => none
    | 15 => match st with
      | i :: v :: st => if v.1 = 2 then
          (match ab_K[v.2.2.toNat]? with
          | some (code, size, tys) => if decide (30 ≤ code) && decide (code < 41) && decide (1 ≤ v.2.2.toNat) && ab_range env i size then
              (match tys with
              | [t] => if t.1 = 2 ∨ t.1 = 4 then (match ab_put env st t with
                | some (st', env', _) => some [(nx, ls, st', env', ca)]
                | none => none) else none
              | _ => none) else none
          | none => none) else none
      | _ => none
    | 16 => match st with
      | x :: i :: v :: st => if v.1 = 2 ∧ v.2.2.toNat ∈ mods ∧ x.1 = 2 ∧ 1 ≤ x.2.2.toNat then
          (match ab_K[v.2.2.toNat]?, ab_K[x.2.2.toNat]? with
          | some (code, size, tys), some (code2, _, _) => if decide (30 ≤ code) && decide (code < 41) && decide (1 ≤ v.2.2.toNat) && ab_range env i size && code2 + 30 == code then
              (match tys with
              | [t] => if (t.1 = 2 ∨ t.1 = 4) ∧ ab_fits env x t = true then some [(nx, ls, st, env, ca)] else none
              | _ => none) else none
          | _, _ => none) else none
      | _ => none
    | 17 => match st with
      | v :: st => if v.1 = 2 then
          (if v.2.2.toNat = 0 then some [(nx, ls, (1, env.length, 0) :: st, env ++ [(1, 9)], ca)] else
          (match ab_K[v.2.2.toNat]? with
          | some (code, size, _) => if (decide (20 ≤ code) && decide (code < 41)) && decide (size < 100000) then some [(nx, ls, (1, env.length, 0) :: st, env ++ [((size : Int), (size : Int))], ca)] else none
          | none => none)) else none
      | _ => none
    | 25 => match st with
      | v :: st => if ab_one v then some [(nx, ls, v :: v :: st, env, ca)] else none
      | _ => none
    | 26 => match st with
      | v :: w :: st => if ab_one v && ab_one w then some [(nx, ls, v :: w :: v :: w :: st, env, ca)] else none
      | _ => none
    | 27 => match st with
      | v :: st => if ab_one v then some [(nx, ls, st, env, ca)] else none
      | _ => none
    | 28 => match st with
      | v :: st => if v.1 = 5 then some [(nx, ls, st, env, ca)] else none
      | _ => none
    | 32 => match a with
      | [j] => if 0 ≤ j ∧ j < 10 then some [(nx, ls, (2, env.length, 0) :: st, env ++ [(1, 0)], ca)] else none
      | _ => none
    | 33 => match a, st with
      | [t], v :: st => if v.1 = 2 then some [(nx, ls, st, env, ca)] else if v.1 = 3 then some [(t.toNat, ls, st, env, ca)] else if v.1 = 4 then
          some [(t.toNat, ls, st, env, ca), (nx, ls.map (ab_nn v.2.1), st.map (ab_nn v.2.1), env, ca.map (fun e => (e.1, e.2.1, e.2.2.1, ab_nn v.2.1 e.2.2.2)))] else none
      | _, _ => none
    | 34 => match a, st with
      | [t], v :: st => if v.1 = 2 then some [(t.toNat, ls, st, env, ca)] else if v.1 = 3 then some [(nx, ls, st, env, ca)] else if v.1 = 4 then
          some [(nx, ls, st, env, ca), (t.toNat, ls.map (ab_nn v.2.1), st.map (ab_nn v.2.1), env, ca.map (fun e => (e.1, e.2.1, e.2.2.1, ab_nn v.2.1 e.2.2.2)))] else none
      | _, _ => none
    | 35 => some [(nx, ls, (3, 0, 0) :: st, env, ca)]
    | 36 => match st with
      | v :: st => if v.1 = 1 then some [(nx, ls, (5, 0, 0) :: st, env, ca)] else none
      | _ => none
    | 37 => match st with
      | v :: w :: st => if v.1 = 5 ∧ w.1 = 5 then some [(nx, ls, (5, 0, 0) :: st, env, ca)] else none
      | _ => none
    | 38 => match st with
      | v :: w :: st => if v.1 = 5 ∧ w.1 = 5 then some [(nx, ls, (5, 0, 0) :: st, env, ca)] else none
      | _ => none
    | 39 => match a with
      | [_] => some [(nx, ls, (5, 0, 0) :: st, env, ca)]
      | _ => none
    | 40 => match a, st with
      | lo :: df :: ts, x :: st => (match ab_bnd env x with
        | some b => some ((df.toNat, ls, st, env, ca) :: (ts.zipIdx.filterMap (fun e => if b.1 ≤ lo + (e.2 : Int) ∧ lo + (e.2 : Int) ≤ b.2 then some (e.1.toNat, ls, st, ab_set env x (lo + (e.2 : Int), lo + (e.2 : Int)), ca) else none)))
        | none => none)
      | _, _ => none
    | 41 => match st with
      | k :: dp :: b :: sp :: o :: st => if b.1 = 2 ∧ o.1 = 2 ∧ b.2.2.toNat ∈ mods ∧ 1 ≤ b.2.2.toNat ∧ 1 ≤ o.2.2.toNat ∧ ab_cat st ≤ 8 then
          (match ab_K[b.2.2.toNat]?, ab_K[o.2.2.toNat]?, ab_bnd env k, ab_bnd env dp, ab_bnd env sp with
          | some (c1, n1, [t1]), some (c2, n2, [t2]), some bk, some bd, some bs => if c1 == 20 && c2 == 20 && decide (0 ≤ bk.1) && decide (0 ≤ bd.1) && decide (0 ≤ bs.1) && decide (bs.2 + bk.2 ≤ (n2 : Int)) && decide (bd.2 + bk.2 ≤ (n1 : Int)) && t1.1 == 1 && t2.1 == 1 && decide (t1.2.1 ≤ t2.2.1) && decide (t2.2.2 ≤ t1.2.2) then some [(nx, ls, st, env, ca)] else none
          | _, _, _, _, _ => none) else none
      | _ => none
    | _ => none
end
section
/-! THE CHECKER IS RIGHT: what its values mean -/
theorem i_bm {z : Int} (h1 : -2147483648 ≤ z) (h2 : z ≤ 2147483647) : z.bmod (2 ^ 32) = z := by
  unfold Int.bmod
  simp only
  split <;> omega
theorem i_rng (x : Int32) : -2147483648 ≤ x.toInt ∧ x.toInt ≤ 2147483647 := by
  have h1 := x.le_toInt
  have h2 := x.toInt_lt
  omega
theorem lim_of {lo hi : Int} (h : ab_lim lo hi = true) : -2147483648 ≤ lo ∧ hi ≤ 2147483647 := by
  simpa [ab_lim] using h
theorem i_and {x y : Int32} (h : 0 ≤ y.toInt) : 0 ≤ (x &&& y).toInt ∧ (x &&& y).toInt ≤ y.toInt := by
  have hy : y.toBitVec.msb = false := by
    rw [BitVec.msb_eq_toInt]
    simp only [decide_eq_false_iff_not, Int.not_lt]
    exact h
  have hz : (x.toBitVec &&& y.toBitVec).msb = false := by rw [BitVec.msb_and, hy, Bool.and_false]
  have e1 : (x &&& y).toInt = ((x.toBitVec &&& y.toBitVec).toNat : Int) := BitVec.toInt_eq_toNat_of_msb hz
  have e2 : y.toInt = (y.toBitVec.toNat : Int) := BitVec.toInt_eq_toNat_of_msb hy
  rw [e1, e2, BitVec.toNat_and]
  have := Nat.and_le_right (n := x.toBitVec.toNat) (m := y.toBitVec.toNat)
  omega
theorem i_andl {x y : Int32} (h : 0 ≤ x.toInt) : 0 ≤ (x &&& y).toInt ∧ (x &&& y).toInt ≤ x.toInt := by
  have e : x &&& y = y &&& x := by
    apply Int32.toBitVec_inj.mp
    simp [BitVec.and_comm]
  rw [e]
  exact i_and h
theorem bin_ok {o : Int} {x y : Int32} {bx by' b : Int × Int} (hx : bx.1 ≤ x.toInt ∧ x.toInt ≤ bx.2) (hy : by'.1 ≤ y.toInt ∧ y.toInt ≤ by'.2) (h : ab_bin o bx by' = some b) : ∃ z, fl_bin o x y = some z ∧ b.1 ≤ z.toInt ∧ z.toInt ≤ b.2 := by
  have full : ∀ z : Int32, fl_bin o x y = some z → b = ab_full → ∃ z, fl_bin o x y = some z ∧ b.1 ≤ z.toInt ∧ z.toInt ≤ b.2 := by
    intro z hz hb
    subst hb
    exact ⟨z, hz, (i_rng z).1, (i_rng z).2⟩
  unfold ab_bin at h
  split at h
  · split at h
    · rename_i hl
      cases h
      have := lim_of hl
      refine ⟨x + y, rfl, ?_⟩
      rw [Int32.toInt_add, i_bm (by omega) (by omega)]
      simp only
      omega
    · exact full _ rfl (Option.some.inj h).symm
  · split at h
    · rename_i hl
      cases h
      have := lim_of hl
      refine ⟨x - y, rfl, ?_⟩
      rw [Int32.toInt_sub, i_bm (by omega) (by omega)]
      simp only
      omega
    · exact full _ rfl (Option.some.inj h).symm
  · split at h
    · rename_i hl
      cases h
      refine ⟨x * y, rfl, ?_⟩
      have h1 : 0 ≤ x.toInt * y.toInt := Int.mul_nonneg (by omega) (by omega)
      have h2 : x.toInt * y.toInt ≤ bx.2 * by'.2 := Int.mul_le_mul hx.2 hy.2 (by omega) (by omega)
      rw [Int32.toInt_mul, i_bm (by omega) (by omega)]
      exact ⟨h1, h2⟩
    · exact full _ rfl (Option.some.inj h).symm
  · have hne : ∀ (k : y.toInt ≠ 0), ¬ y = 0 := by
      intro k z
      rw [z] at k
      exact k (by decide)
    split at h
    · rename_i hl
      cases h
      refine ⟨x / y, if_neg (hne (by omega)), ?_⟩
      have h1 : x.toInt.tdiv y.toInt = x.toInt / y.toInt := Int.tdiv_eq_ediv_of_nonneg (by omega)
      have h2 : x.toInt / y.toInt ≤ x.toInt := Int.ediv_le_self _ (by omega)
      have h3 : 0 ≤ x.toInt / y.toInt := Int.ediv_nonneg (by omega) (by omega)
      have h4 := i_rng x
      rw [Int32.toInt_div, h1, i_bm (by omega) (by omega)]
      simp only
      omega
    · split at h
      · exact full _ (if_neg (hne (by omega))) (Option.some.inj h).symm
      · cases h
  · have hne : ∀ (k : y.toInt ≠ 0), ¬ y = 0 := by
      intro k z
      rw [z] at k
      exact k (by decide)
    split at h
    · rename_i hl
      cases h
      refine ⟨x - x / y * y, if_neg (hne (by omega)), ?_⟩
      have h1 : x.toInt.tdiv y.toInt = x.toInt / y.toInt := Int.tdiv_eq_ediv_of_nonneg (by omega)
      have h2 : x.toInt / y.toInt ≤ x.toInt := Int.ediv_le_self _ (by omega)
      have h3 : 0 ≤ x.toInt / y.toInt := Int.ediv_nonneg (by omega) (by omega)
      have h4 := i_rng x
      have h5 := Int.mul_ediv_add_emod x.toInt y.toInt
      have h6 := Int.emod_nonneg x.toInt (show y.toInt ≠ 0 by omega)
      have h7 := Int.emod_lt_of_pos x.toInt (show 0 < y.toInt by omega)
      have h8 : 0 ≤ x.toInt / y.toInt * y.toInt := Int.mul_nonneg h3 (by omega)
      have h9 : y.toInt * (x.toInt / y.toInt) = x.toInt / y.toInt * y.toInt := Int.mul_comm _ _
      have e1 : (x / y).toInt = x.toInt / y.toInt := by rw [Int32.toInt_div, h1, i_bm (by omega) (by omega)]
      have e2 : (x / y * y).toInt = x.toInt / y.toInt * y.toInt := by rw [Int32.toInt_mul, e1, i_bm (by omega) (by omega)]
      rw [Int32.toInt_sub, e2, i_bm (by omega) (by omega)]
      simp only [ab_min]
      split <;> omega
    · split at h
      · exact full _ (if_neg (hne (by omega))) (Option.some.inj h).symm
      · cases h
  · exact full _ rfl (Option.some.inj h).symm
  · exact full _ rfl (Option.some.inj h).symm
  · exact full _ rfl (Option.some.inj h).symm
  · split at h
    · rename_i hl
      cases h
      have := i_and (x := x) (y := y) (by omega)
      exact ⟨x &&& y, rfl, this.1, by simp only; omega⟩
    · split at h
      · cases h
        have := i_andl (x := x) (y := y) (by omega)
        exact ⟨x &&& y, rfl, this.1, by simp only; omega⟩
      · exact full _ rfl (Option.some.inj h).symm
  · exact full _ rfl (Option.some.inj h).symm
  · exact full _ rfl (Option.some.inj h).symm
  · cases h
theorem i_eq {x y : Int32} : x = y ↔ x.toInt = y.toInt := ⟨fun h => by rw [h], fun h => Int32.toInt_inj.mp h⟩
/-- a comparison that holds narrows both sides -/
theorem cmp_ok {o : Int} {x y : Int32} {bx by' : Int × Int} (hx : bx.1 ≤ x.toInt ∧ x.toInt ≤ bx.2) (hy : by'.1 ≤ y.toInt ∧ y.toInt ≤ by'.2) (ht : fl_cmp o x y = some true) : ∃ r, ab_cmp o bx by' = some r ∧ (r.1.1 ≤ x.toInt ∧ x.toInt ≤ r.1.2) ∧ (r.2.1 ≤ y.toInt ∧ y.toInt ≤ r.2.2) := by
  have key : ∀ r : (Int × Int) × (Int × Int), (r.1.1 ≤ x.toInt ∧ x.toInt ≤ r.1.2) → (r.2.1 ≤ y.toInt ∧ y.toInt ≤ r.2.2) → (if r.1.2 < r.1.1 ∨ r.2.2 < r.2.1 then none else some r) = some r := by
    intro r h1 h2
    rw [if_neg (by omega)]
  unfold fl_cmp at ht
  split at ht
  · have h := of_decide_eq_true (Option.some.inj ht)
    have h' : x.toInt = y.toInt := by rw [h]
    refine ⟨_, key _ ?_ ?_, ?_, ?_⟩ <;> (simp only [ab_max, ab_min]; constructor <;> split <;> omega)
  · have h := of_decide_eq_true (Option.some.inj ht)
    have h' : x.toInt ≠ y.toInt := fun z => h (i_eq.mpr z)
    unfold ab_cmp
    simp only
    split
    · refine ⟨_, key _ ?_ ?_, ?_, ?_⟩
      · simp only; constructor <;> split <;> omega
      · exact hy
      · simp only; constructor <;> split <;> omega
      · exact hy
    · exact ⟨_, key (bx, by') hx hy, hx, hy⟩
  · have h := of_decide_eq_true (Option.some.inj ht)
    have h' := Int32.lt_iff_toInt_lt.mp h
    refine ⟨_, key _ ?_ ?_, ?_, ?_⟩ <;> (simp only [ab_max, ab_min]; constructor <;> (try split) <;> omega)
  · have h := of_decide_eq_true (Option.some.inj ht)
    have h' := Int32.le_iff_toInt_le.mp h
    refine ⟨_, key _ ?_ ?_, ?_, ?_⟩ <;> (simp only [ab_max, ab_min]; constructor <;> (try split) <;> omega)
  · have h := of_decide_eq_true (Option.some.inj ht)
    have h' := Int32.lt_iff_toInt_lt.mp h
    refine ⟨_, key _ ?_ ?_, ?_, ?_⟩ <;> (simp only [ab_max, ab_min]; constructor <;> (try split) <;> omega)
  · have h := of_decide_eq_true (Option.some.inj ht)
    have h' := Int32.le_iff_toInt_le.mp h
    refine ⟨_, key _ ?_ ?_, ?_, ?_⟩ <;> (simp only [ab_max, ab_min]; constructor <;> (try split) <;> omega)
  · cases ht
theorem cmp_neg {o : Int} {x y : Int32} (h0 : 0 ≤ o ∧ o ≤ 5) : (∃ b, fl_cmp o x y = some b) ∧ (fl_cmp o x y = some false → fl_cmp (ab_neg o) x y = some true) := by
  have : o = 0 ∨ o = 1 ∨ o = 2 ∨ o = 3 ∨ o = 4 ∨ o = 5 := by omega
  have nle : ∀ a b : Int32, ¬ a ≤ b ↔ b < a := fun a b => Int32.not_le
  have nlt : ∀ a b : Int32, ¬ a < b ↔ b ≤ a := fun a b => Int32.not_lt
  rcases this with rfl | rfl | rfl | rfl | rfl | rfl
  · exact ⟨⟨_, rfl⟩, fun h => congrArg some (decide_eq_true (of_decide_eq_false (Option.some.inj h)))⟩
  · exact ⟨⟨_, rfl⟩, fun h => congrArg some (decide_eq_true (Classical.not_not.mp (of_decide_eq_false (Option.some.inj h))))⟩
  · exact ⟨⟨_, rfl⟩, fun h => congrArg some (decide_eq_true ((nlt _ _).mp (of_decide_eq_false (Option.some.inj h))))⟩
  · exact ⟨⟨_, rfl⟩, fun h => congrArg some (decide_eq_true ((nle _ _).mp (of_decide_eq_false (Option.some.inj h))))⟩
  · exact ⟨⟨_, rfl⟩, fun h => congrArg some (decide_eq_true ((nlt _ _).mp (of_decide_eq_false (Option.some.inj h))))⟩
  · exact ⟨⟨_, rfl⟩, fun h => congrArg some (decide_eq_true ((nle _ _).mp (of_decide_eq_false (Option.some.inj h))))⟩
/-- what a value of the checker says of a value; rho: the numbers behind the names (a reference: its cell, null: -1) -/
def gv (rho : List Int) (a : AV) (v : Value) : Prop := match a.1 with
  | 1 => ∃ (x : Int) (y : Int32), rho[a.2.1]? = some x ∧ v = .int y ∧ y.toInt = x + a.2.2
  | 2 => ∃ r : Nat, rho[a.2.1]? = some (r : Int) ∧ v = .ref r ∧ ab_kd r = a.2.2.toNat
  | 3 => v = .null
  | 4 => ∃ x : Int, rho[a.2.1]? = some x ∧ ((x = -1 ∧ v = .null) ∨ ∃ r : Nat, x = (r : Int) ∧ v = .ref r ∧ ab_kd r = a.2.2.toNat)
  | 5 => ∃ x : Int64, v = .long x
  | _ => v.category = 1
def ga (rho : List Int) (env : List (Int × Int)) : Prop := rho.length = env.length ∧ ∀ (i : Nat) (b : Int × Int), env[i]? = some b → ∃ x, rho[i]? = some x ∧ (b.2 < b.1 ∨ (b.1 ≤ x ∧ x ≤ b.2))
def gs (rho : List Int) : List AV → List Value → Prop
  | [], vs => vs = []
  | a :: s, vs => ∃ v t, vs = v :: t ∧ gv rho a v ∧ gs rho s t
def gl (rho : List Int) (avs : List AV) (ls : List (Option Value)) : Prop := avs.length = ls.length ∧ ∀ (i : Nat) (a : AV), avs[i]? = some a → (a.1 = 0 → ∀ v, ls[i]? = some (some v) → v.category = 1) ∧ (a.1 ≠ 0 → ∃ v, ls[i]? = some (some v) ∧ gv rho a v)
def ab_cv (h : Hp) (r k : Nat) (a : AV) : Value := if a.1 = 1 then .int (h.1 r k) else fl_rv (h.2 r k)
def gc (rho : List Int) (h : Hp) (ca : List (Nat × Nat × Nat × AV)) : Prop := ∀ e ∈ ca, ∃ r : Nat, rho[e.1]? = some (r : Int) ∧ ab_kd r = e.2.1 ∧ (fl_lay r).1 < 20 ∧ gv rho e.2.2.2 (ab_cv h r e.2.2.1 e.2.2.2)
def Gm (rho : List Int) (s : AS) (ls : List (Option Value)) (st : List Value) (h : Hp) : Prop := ga rho s.2.2.1 ∧ gl rho s.1 ls ∧ gs rho s.2.1 st ∧ gc rho h s.2.2.2
theorem get_ext {rho t : List Int} {i : Nat} {x : Int} (h : rho[i]? = some x) : (rho ++ t)[i]? = some x := by
  rw [List.getElem?_append_left (List.getElem?_eq_some_iff.mp h).1]
  exact h
theorem gv_ext {rho t : List Int} {a : AV} {v : Value} (h : gv rho a v) : gv (rho ++ t) a v := by
  unfold gv at h ⊢
  split at h
  · obtain ⟨x, y, h1, h2⟩ := h; exact ⟨x, y, get_ext h1, h2⟩
  · obtain ⟨r, h1, h2⟩ := h; exact ⟨r, get_ext h1, h2⟩
  · exact h
  · obtain ⟨x, h1, h2⟩ := h; exact ⟨x, get_ext h1, h2⟩
  · exact h
  · exact h
theorem gs_ext {rho t : List Int} : ∀ {s : List AV} {vs : List Value}, gs rho s vs → gs (rho ++ t) s vs
  | [], _, h => h
  | _ :: _, _, ⟨v, w, h1, h2, h3⟩ => ⟨v, w, h1, gv_ext h2, gs_ext h3⟩
theorem gl_ext {rho t : List Int} {avs : List AV} {ls : List (Option Value)} (h : gl rho avs ls) : gl (rho ++ t) avs ls := ⟨h.1, fun i a hi => ⟨(h.2 i a hi).1, fun z => by obtain ⟨v, h1, h2⟩ := (h.2 i a hi).2 z; exact ⟨v, h1, gv_ext h2⟩⟩⟩
theorem gc_ext {rho t : List Int} {h : Hp} {ca : List (Nat × Nat × Nat × AV)} (g : gc rho h ca) : gc (rho ++ t) h ca := fun e he => by
  obtain ⟨r, h1, h2, h4, h3⟩ := g e he
  exact ⟨r, get_ext h1, h2, h4, gv_ext h3⟩
theorem ga_push {rho : List Int} {env : List (Int × Int)} {x : Int} {b : Int × Int} (h : ga rho env) (hb : b.2 < b.1 ∨ (b.1 ≤ x ∧ x ≤ b.2)) : ga (rho ++ [x]) (env ++ [b]) := by
  refine ⟨by simp [h.1], fun i c hi => ?_⟩
  by_cases hlt : i < env.length
  · rw [List.getElem?_append_left hlt] at hi
    obtain ⟨y, h1, h2⟩ := h.2 i c hi
    exact ⟨y, get_ext h1, h2⟩
  · rw [List.getElem?_append_right (by omega)] at hi
    have h0 : i - env.length < 1 := by simpa using (List.getElem?_eq_some_iff.mp hi).1
    have hi0 : i = env.length := by omega
    subst hi0
    rw [Nat.sub_self] at hi
    cases hi
    exact ⟨x, by rw [List.getElem?_append_right (by rw [h.1]; exact Nat.le_refl _), h.1, Nat.sub_self]; rfl, hb⟩
theorem ga_last {rho : List Int} {env : List (Int × Int)} {x : Int} (h : ga rho env) : (rho ++ [x])[env.length]? = some x := by
  rw [List.getElem?_append_right (by rw [h.1]; exact Nat.le_refl _), h.1, Nat.sub_self]
  rfl
theorem ga_set {rho : List Int} {env : List (Int × Int)} {i : Nat} {x : Int} {b : Int × Int} (h : ga rho env) (hi : rho[i]? = some x) (hb : b.1 ≤ x ∧ x ≤ b.2) : ga rho (env.set i b) := by
  refine ⟨by simp [h.1], fun j c hj => ?_⟩
  by_cases e : j = i
  · subst e
    by_cases hlt : j < env.length
    · rw [List.getElem?_set_self hlt] at hj
      cases hj
      exact ⟨x, hi, Or.inr hb⟩
    · rw [List.getElem?_eq_none (by simpa using Nat.le_of_not_lt hlt)] at hj
      cases hj
  · rw [List.getElem?_set_ne (Ne.symm e)] at hj
    exact h.2 j c hj
theorem gv_int {rho : List Int} {a : AV} {v : Value} (h1 : a.1 = 1) (h : gv rho a v) : ∃ (x : Int) (y : Int32), rho[a.2.1]? = some x ∧ v = .int y ∧ y.toInt = x + a.2.2 := by
  unfold gv at h
  rw [h1] at h
  exact h
theorem gv_ref {rho : List Int} {a : AV} {v : Value} (h1 : a.1 = 2) (h : gv rho a v) : ∃ r : Nat, rho[a.2.1]? = some (r : Int) ∧ v = .ref r ∧ ab_kd r = a.2.2.toNat := by
  unfold gv at h
  rw [h1] at h
  exact h
theorem bnd_ok {rho : List Int} {env : List (Int × Int)} {a : AV} {v : Value} {b : Int × Int} (g : ga rho env) (h : gv rho a v) (hb : ab_bnd env a = some b) : ∃ (y : Int32), a.1 = 1 ∧ v = .int y ∧ (b.1 ≤ y.toInt ∧ y.toInt ≤ b.2) ∧ rho[a.2.1]? = some (y.toInt - a.2.2) := by
  unfold ab_bnd at hb
  split at hb
  · rename_i h1
    obtain ⟨x, y, e1, e2, e3⟩ := gv_int h1 h
    split at hb
    · rename_i c hc
      split at hb
      · cases hb
      · cases hb
        obtain ⟨x', z1, z2⟩ := g.2 _ _ hc
        cases e1.symm.trans z1
        exact ⟨y, h1, e2, by simp only; omega, by rw [e1]; congr 1; omega⟩
    · cases hb
  · cases hb
theorem gv_mk {rho : List Int} {i : Nat} {o : Int} {y : Int32} (h : rho[i]? = some (y.toInt - o)) : gv rho (1, i, o) (.int y) := ⟨_, y, h, rfl, by simp only; omega⟩
end
section
/-! each step that the checker allows is a step of the flat machine, and its states fit -/
def slotOK (h : Hp) (t : TY) (r j : Nat) : Prop := match t.1 with
  | 1 => t.2.1 ≤ (h.1 r j).toInt ∧ (h.1 r j).toInt ≤ t.2.2
  | 2 => ∃ b, h.2 r j = some b ∧ ab_kd b = t.2.1.toNat
  | 4 => h.2 r j = none ∨ ∃ b, h.2 r j = some b ∧ ab_kd b = t.2.1.toNat
  | _ => True
/-- every slot of every cell has its type -/
def TInv (h : Hp) : Prop := ∀ (r code size : Nat) (tys : List TY) (j : Nat) (t : TY), 1 ≤ ab_kd r → ab_K[ab_kd r]? = some (code, size, tys) → j < size → (if code < 20 then tys[j]? else tys[0]?) = some t → slotOK h t r j
def Fr (mods : List Nat) (h h' : Hp) : Prop := ∀ r, ab_kd r ∉ mods → h'.1 r = h.1 r ∧ h'.2 r = h.2 r
theorem Fr.rfl' {mods : List Nat} {h : Hp} : Fr mods h h := fun _ _ => ⟨rfl, rfl⟩
def Res (mods : List Nat) (q : Smi) (pc : Nat) (cls : List (Option Value)) (cst : List Value) (h : Hp) (l : List (Nat × AS)) (rho : List Int) : Prop :=
  ∃ (c' : Cfg) (e : Nat × AS) (t : List Int), fl_step q (pc, cls, cst, h, fl_tot) = some (.inl c') ∧ e ∈ l ∧ e.1 = c'.1 ∧ Gm (rho ++ t) e.2 c'.2.1 c'.2.2.1 c'.2.2.2.1 ∧ TInv c'.2.2.2.1 ∧ c'.2.2.2.2 = fl_tot ∧ Fr mods h c'.2.2.2.1
theorem ab_klK : ((List.range 1000).all fun r => match ab_K[ab_kd r]? with
  | some (code, size, _) => decide (ab_kd r = 0) || (decide (r < 285) && decide (fl_lay r = (code, size)))
  | none => true) = true := by decide +kernel
theorem ab_kdK {r code size : Nat} {tys : List TY} (h1 : 1 ≤ ab_kd r) (h2 : ab_K[ab_kd r]? = some (code, size, tys)) : r < fl_tot ∧ fl_lay r = (code, size) := by
  by_cases hr : r < 1000
  · have h3 := List.all_eq_true.mp ab_klK r (List.mem_range.mpr hr)
    rw [h2] at h3
    simp only [Bool.or_eq_true, Bool.and_eq_true, decide_eq_true_eq] at h3
    rcases h3 with h3 | h3
    · omega
    · exact ⟨h3.1, h3.2⟩
  · exfalso
    unfold ab_kd at h1 h2
    rw [if_neg hr] at h1 h2
    split at h1
    · omega
    · rename_i h9
      rw [if_neg h9] at h2
      have : ab_K.length < 9999 := by decide +kernel
      rw [List.getElem?_eq_none (by omega)] at h2
      cases h2
theorem ab_kd0 {r : Nat} (h : ab_kd r = 0) : 1000 ≤ r ∧ r < 1010 := by
  by_cases hr : r < 1000
  · exfalso
    have : ((List.range 1000).all fun r => decide (ab_kd r ≠ 0)) = true := by decide +kernel
    exact of_decide_eq_true (List.all_eq_true.mp this r (List.mem_range.mpr hr)) h
  · unfold ab_kd at h
    rw [if_neg hr] at h
    split at h
    · omega
    · cases h
theorem gs_cons {rho : List Int} {a : AV} {s : List AV} {v : Value} {vs : List Value} (h1 : gv rho a v) (h2 : gs rho s vs) : gs rho (a :: s) (v :: vs) := ⟨v, vs, rfl, h1, h2⟩
theorem nil_app {rho : List Int} : rho ++ [] = rho := List.append_nil rho
section ABS
variable {mods : List Nat} {a : List Int} {nx pc : Nat} {ls st : List AV} {env : List (Int × Int)} {ca : List (Nat × Nat × Nat × AV)} {l : List (Nat × AS)} {rho : List Int} {cls : List (Option Value)} {cst : List Value} {h : Hp}
/-- no write: the state behind the step fits -/
theorem res_pure {q : Smi} {e : Nat × AS} {t : List Int} {pc' : Nat} {cls' : List (Option Value)} {cst' : List Value} (hT : TInv h) (hs : fl_step q (pc, cls, cst, h, fl_tot) = some (.inl (pc', cls', cst', h, fl_tot))) (he : e ∈ l) (h1 : e.1 = pc') (hG : Gm (rho ++ t) e.2 cls' cst' h) : Res mods q pc cls cst h l rho := ⟨_, e, t, hs, he, h1, hG, hT, rfl, Fr.rfl'⟩
theorem one_cat {a : AV} {v : Value} (h1 : ab_one a = true) (h : gv rho a v) : v.category = 1 := by
  simp only [ab_one, Bool.or_eq_true, beq_iff_eq] at h1
  unfold gv at h
  rcases h1 with ((h1 | h1) | h1) | h1 <;> rw [h1] at h
  · obtain ⟨x, y, -, rfl, -⟩ := h; rfl
  · obtain ⟨r, -, rfl, -⟩ := h; rfl
  · rw [h]; rfl
  · obtain ⟨x, -, h⟩ := h
    rcases h with ⟨-, rfl⟩ | ⟨r, -, rfl, -⟩ <;> rfl
theorem sort_is {t : Int} {a : AV} {v : Value} (h1 : ab_sort t a = true) (h : gv rho a v) : fl_is t v = true ∧ a.1 ≠ 0 := by
  simp only [ab_sort, Bool.or_eq_true, Bool.and_eq_true, beq_iff_eq] at h1
  unfold gv at h
  rcases h1 with (⟨rfl, h1⟩ | ⟨rfl, h1⟩) | ⟨rfl, (h1 | h1) | h1⟩ <;> rw [h1] at h
  · obtain ⟨x, y, -, rfl, -⟩ := h; exact ⟨rfl, by rw [h1]; decide⟩
  · obtain ⟨x, rfl⟩ := h; exact ⟨rfl, by rw [h1]; decide⟩
  · obtain ⟨r, -, rfl, -⟩ := h; exact ⟨rfl, by rw [h1]; decide⟩
  · rw [h]; exact ⟨rfl, by rw [h1]; decide⟩
  · obtain ⟨x, -, h⟩ := h
    rcases h with ⟨-, rfl⟩ | ⟨r, -, rfl, -⟩ <;> exact ⟨rfl, by rw [h1]; decide⟩
theorem sort_ne0 {t : Int} {a : AV} (h1 : ab_sort t a = true) : a.1 ≠ 0 := by
  simp only [ab_sort, Bool.or_eq_true, Bool.and_eq_true, beq_iff_eq] at h1
  rcases h1 with (⟨-, h1⟩ | ⟨-, h1⟩) | ⟨-, (h1 | h1) | h1⟩ <;> rw [h1] <;> decide
theorem store_ok {i : Nat} {v : AV} {ls' : List AV} {w : Value} (hs : ab_store ls i v = some ls') (g : gl rho ls cls) (hv : gv rho v w) : ∃ cls', fl_store cls i w = some cls' ∧ gl rho ls' cls' := by
  unfold ab_store at hs
  split at hs
  · rename_i hpre
    have hno : fl_nolong cls i = true := by
      cases i with
      | zero => rfl
      | succ j =>
        show (match cls[j]? with
          | some (some v) => v.category == 1
          | _ => true) = true
        unfold ab_nl at hpre
        split
        · rename_i u hu
          have hlt : j < ls.length := by
            have := (List.getElem?_eq_some_iff.mp hu).1
            rw [g.1]; exact this
          have hb : ls[j]? = some ls[j] := List.getElem?_eq_getElem hlt
          simp only [hb, bne_iff_ne, ne_eq] at hpre
          have g2 := g.2 j _ hb
          by_cases h0 : (ls[j]).1 = 0
          · rw [g2.1 h0 u hu]; rfl
          · obtain ⟨v', e1, e2⟩ := g2.2 h0
            rw [hu] at e1
            cases e1
            have hc : u.category = 1 := by
              unfold gv at e2
              split at e2
              · obtain ⟨x, y, -, rfl, -⟩ := e2; rfl
              · obtain ⟨r, -, rfl, -⟩ := e2; rfl
              · rw [e2]; rfl
              · obtain ⟨x, -, e2⟩ := e2
                rcases e2 with ⟨-, rfl⟩ | ⟨r, -, rfl, -⟩ <;> rfl
              · rename_i h5; exact absurd h5 hpre
              · exact e2
            rw [hc]; rfl
        · rfl
    split at hs
    · rename_i h5
      split at hs
      · rename_i hlt
        cases hs
        unfold gv at hv
        rw [h5] at hv
        obtain ⟨x, rfl⟩ := hv
        refine ⟨(cls.set i (some (.long x))).set (i + 1) none, ?_, ?_⟩
        · unfold fl_store
          rw [if_pos hno]
          exact if_pos (by rw [← g.1]; exact hlt)
        · refine ⟨by simp [g.1], fun k b hk => ?_⟩
          by_cases hk1 : k = i + 1
          · subst hk1
            rw [List.getElem?_set_self (by simpa using hlt)] at hk
            cases hk
            refine ⟨fun _ u hu => ?_, fun z => absurd rfl z⟩
            rw [List.getElem?_set_self (by simpa [← g.1] using hlt)] at hu
            cases hu
          · rw [List.getElem?_set_ne (Ne.symm hk1)] at hk ⊢
            by_cases hk0 : k = i
            · subst hk0
              rw [List.getElem?_set_self (by omega)] at hk
              cases hk
              rw [List.getElem?_set_self (by rw [← g.1]; omega)]
              exact ⟨fun z => absurd (h5.symm.trans z) (by decide), fun _ => ⟨_, rfl, by unfold gv; rw [h5]; exact ⟨x, rfl⟩⟩⟩
            · rw [List.getElem?_set_ne (Ne.symm hk0)] at hk ⊢
              exact g.2 k b hk
      · cases hs
    · split at hs
      · rename_i h5 h1
        split at hs
        · rename_i hlt
          cases hs
          have hc := one_cat h1 hv
          have hlt' : i < cls.length := by rw [← g.1]; exact hlt
          have hne : v.1 ≠ 0 := by
            simp only [ab_one, Bool.or_eq_true, beq_iff_eq] at h1
            omega
          refine ⟨cls.set i (some w), ?_, ?_⟩
          · unfold fl_store
            rw [if_pos hno]
            simp only [ab_one, Bool.or_eq_true, beq_iff_eq] at h1
            unfold gv at hv
            rcases h1 with ((h1 | h1) | h1) | h1 <;> rw [h1] at hv
            · obtain ⟨x, y, -, rfl, -⟩ := hv; exact if_pos hlt'
            · obtain ⟨r, -, rfl, -⟩ := hv; exact if_pos hlt'
            · rw [hv]; exact if_pos hlt'
            · obtain ⟨x, -, hv⟩ := hv
              rcases hv with ⟨-, rfl⟩ | ⟨r, -, rfl, -⟩ <;> exact if_pos hlt'
          · refine ⟨by simp [g.1], fun k b hk => ?_⟩
            by_cases hk0 : k = i
            · subst hk0
              rw [List.getElem?_set_self hlt] at hk
              cases hk
              rw [List.getElem?_set_self hlt']
              exact ⟨fun z => absurd z hne, fun _ => ⟨_, rfl, hv⟩⟩
            · rw [List.getElem?_set_ne (Ne.symm hk0)] at hk ⊢
              exact g.2 k b hk
        · cases hs
      · cases hs
  · cases hs
theorem as1 (hq : ab_step mods (1, a, nx) (ls, st, env, ca) = some l) (G : Gm rho (ls, st, env, ca) cls cst h) (hT : TInv h) : Res mods (1, a, nx) pc cls cst h l rho := by
  simp only [ab_step] at hq
  split at hq
  · rename_i v
    split at hq
    · rename_i hc
      cases hq
      rw [Bool.and_eq_true] at hc
      have hl := lim_of hc.1
      have h0 : rho[0]? = some 0 := by
        have h2 := hc.2
        unfold ab_z at h2
        split at h2
        · rename_i b t
          have hb : b = (0, 0) := eq_of_beq h2
          obtain ⟨x, e1, e2⟩ := G.1.2 0 b rfl
          subst hb
          simp only at e2
          rw [e1]
          congr 1
          omega
        · cases h2
      refine res_pure (t := []) hT rfl List.mem_cons_self rfl ?_
      rw [nil_app]
      refine ⟨G.1, G.2.1, gs_cons ⟨0, Int32.ofInt v, h0, rfl, ?_⟩ G.2.2.1, G.2.2.2⟩
      rw [Int32.toInt_ofInt_of_le (by omega) (by omega)]
      simp
    · cases hq
  · cases hq
theorem as2 (hq : ab_step mods (2, a, nx) (ls, st, env, ca) = some l) (G : Gm rho (ls, st, env, ca) cls cst h) (hT : TInv h) : Res mods (2, a, nx) pc cls cst h l rho := by
  simp only [ab_step] at hq
  split at hq
  · rename_i i t
    split at hq
    · rename_i v hv
      split at hq
      · rename_i hs
        cases hq
        obtain ⟨w, e1, e2⟩ := (G.2.1.2 _ _ hv).2 (sort_ne0 hs)
        have e3 := (sort_is hs e2).1
        refine res_pure (t := []) hT (by simp only [fl_step, e1, if_pos e3] <;> rfl) List.mem_cons_self rfl ?_
        rw [nil_app]
        exact ⟨G.1, G.2.1, gs_cons e2 G.2.2.1, G.2.2.2⟩
      · cases hq
    · cases hq
  · cases hq
theorem as3 (hq : ab_step mods (3, a, nx) (ls, st, env, ca) = some l) (G : Gm rho (ls, st, env, ca) cls cst h) (hT : TInv h) : Res mods (3, a, nx) pc cls cst h l rho := by
  simp only [ab_step] at hq
  split at hq
  · rename_i i t v st
    split at hq
    · rename_i hs
      split at hq
      · rename_i ls' hls
        cases hq
        obtain ⟨w, cst', rfl, hv, hst⟩ := G.2.2.1
        obtain ⟨cls', e1, e2⟩ := store_ok hls G.2.1 hv
        refine res_pure (t := []) hT (by simp only [fl_step, if_pos (sort_is hs hv).1, e1] <;> rfl) List.mem_cons_self rfl ?_
        rw [nil_app]
        exact ⟨G.1, e2, hst, G.2.2.2⟩
      · cases hq
    · cases hq
  · cases hq
theorem as4 (hq : ab_step mods (4, a, nx) (ls, st, env, ca) = some l) (G : Gm rho (ls, st, env, ca) cls cst h) (hT : TInv h) : Res mods (4, a, nx) pc cls cst h l rho := by
  simp only [ab_step] at hq
  split at hq
  · rename_i i d
    split at hq
    · rename_i v hv
      split at hq
      · rename_i b hb
        split at hq
        · rename_i hd
          have hv1 : v.1 ≠ 0 := by
            unfold ab_bnd at hb
            split at hb
            · rename_i z; rw [z]; decide
            · cases hb
          obtain ⟨w, e1, e2⟩ := (G.2.1.2 _ _ hv).2 hv1
          obtain ⟨y, k1, rfl, k2, k3⟩ := bnd_ok G.1 e2 hb
          have hdl := lim_of hd
          have hdi : (Int32.ofInt d).toInt = d := Int32.toInt_ofInt_of_le (by omega) (by omega)
          split at hq
          · rename_i hl
            have hl := lim_of hl
            split at hq
            · rename_i ls' hls
              cases hq
              have hsum : (y + Int32.ofInt d).toInt = y.toInt + d := by rw [Int32.toInt_add, hdi, i_bm (by omega) (by omega)]
              obtain ⟨cls', z1, z2⟩ := store_ok (w := .int (y + Int32.ofInt d)) hls G.2.1 (gv_mk (by rw [k3, hsum]; congr 1; omega))
              refine res_pure (t := []) hT (by simp only [fl_step, e1, z1] <;> rfl) List.mem_cons_self rfl ?_
              rw [nil_app]
              exact ⟨G.1, z2, G.2.2.1, G.2.2.2⟩
            · cases hq
          · split at hq
            · rename_i ls' hls
              cases hq
              have hga := ga_push (x := (y + Int32.ofInt d).toInt) (b := ab_full) G.1 (Or.inr (i_rng _))
              obtain ⟨cls', z1, z2⟩ := store_ok (w := .int (y + Int32.ofInt d)) hls (gl_ext (t := [(y + Int32.ofInt d).toInt]) G.2.1) (gv_mk (by rw [ga_last G.1]; congr 1; omega))
              refine res_pure (t := [(y + Int32.ofInt d).toInt]) hT (by simp only [fl_step, e1, z1] <;> rfl) List.mem_cons_self rfl ?_
              exact ⟨hga, z2, gs_ext G.2.2.1, gc_ext G.2.2.2⟩
            · cases hq
        · cases hq
      · cases hq
    · cases hq
  · cases hq
theorem as5 (hq : ab_step mods (5, a, nx) (ls, st, env, ca) = some l) (G : Gm rho (ls, st, env, ca) cls cst h) (hT : TInv h) : Res mods (5, a, nx) pc cls cst h l rho := by
  simp only [ab_step] at hq
  split at hq
  · rename_i o y x st
    obtain ⟨wy, cst1, rfl, hy, hst1⟩ := G.2.2.1
    obtain ⟨wx, cst2, rfl, hx, hst2⟩ := hst1
    split at hq
    · rename_i bx by' hbx hby
      obtain ⟨vx, kx1, rfl, kx2, kx3⟩ := bnd_ok G.1 hx hbx
      obtain ⟨vy, ky1, rfl, ky2, ky3⟩ := bnd_ok G.1 hy hby
      split at hq
      · rename_i hc
        cases hq
        obtain ⟨rfl, hc2, hc3⟩ := hc
        have hl := lim_of hc3
        refine res_pure (t := []) hT (by simp only [fl_step, fl_bin] <;> rfl) List.mem_cons_self rfl ?_
        rw [nil_app]
        refine ⟨G.1, G.2.1, gs_cons (gv_mk ?_) hst2, G.2.2.2⟩
        rw [kx3, Int32.toInt_add, i_bm (by omega) (by omega)]
        congr 1
        omega
      · split at hq
        · rename_i hc
          cases hq
          obtain ⟨rfl, hc2, hc3⟩ := hc
          have hl := lim_of hc3
          refine res_pure (t := []) hT (by simp only [fl_step, fl_bin] <;> rfl) List.mem_cons_self rfl ?_
          rw [nil_app]
          refine ⟨G.1, G.2.1, gs_cons (gv_mk ?_) hst2, G.2.2.2⟩
          rw [ky3, Int32.toInt_add, i_bm (by omega) (by omega)]
          congr 1
          omega
        · split at hq
          · rename_i hc
            cases hq
            obtain ⟨rfl, hc2, hc3⟩ := hc
            have hl := lim_of hc3
            refine res_pure (t := []) hT (by simp only [fl_step, fl_bin] <;> rfl) List.mem_cons_self rfl ?_
            rw [nil_app]
            refine ⟨G.1, G.2.1, gs_cons (gv_mk ?_) hst2, G.2.2.2⟩
            rw [kx3, Int32.toInt_sub, i_bm (by omega) (by omega)]
            congr 1
            omega
          · split at hq
            · rename_i b hb
              cases hq
              obtain ⟨z, e1, e2⟩ := bin_ok kx2 ky2 hb
              refine res_pure (t := [z.toInt]) hT (by simp only [fl_step, e1] <;> rfl) List.mem_cons_self rfl ?_
              exact ⟨ga_push G.1 (Or.inr e2), gl_ext G.2.1, gs_cons (gv_mk (by rw [ga_last G.1]; congr 1; omega)) (gs_ext hst2), gc_ext G.2.2.2⟩
            · cases hq
    · cases hq
  · cases hq
theorem ga_setv {v : AV} {y : Int32} {b : Int × Int} (g : ga rho env) (hr : rho[v.2.1]? = some (y.toInt - v.2.2)) (hb : b.1 ≤ y.toInt ∧ y.toInt ≤ b.2) : ga rho (ab_set env v b) := ga_set g hr ⟨by simp only; omega, by simp only; omega⟩
theorem as6 (hq : ab_step mods (6, a, nx) (ls, st, env, ca) = some l) (G : Gm rho (ls, st, env, ca) cls cst h) (hT : TInv h) : Res mods (6, a, nx) pc cls cst h l rho := by
  simp only [ab_step] at hq
  split at hq
  · rename_i o t x st
    obtain ⟨wx, cst1, rfl, hx, hst1⟩ := G.2.2.1
    split at hq
    · rename_i bx hbx
      obtain ⟨vx, kx1, rfl, kx2, kx3⟩ := bnd_ok G.1 hx hbx
      split at hq
      · rename_i ho
        cases hq
        obtain ⟨⟨b, hb⟩, hneg⟩ := cmp_neg (x := vx) (y := 0) ho
        have hz : ((0, 0) : Int × Int).1 ≤ (0 : Int32).toInt ∧ (0 : Int32).toInt ≤ ((0, 0) : Int × Int).2 := by decide
        have hs : fl_step (6, [o, t], nx) (pc, cls, .int vx :: cst1, h, fl_tot) = some (.inl (if b then t.toNat else nx, cls, cst1, h, fl_tot)) := by simp only [fl_step, hb]
        cases b with
        | true =>
          obtain ⟨r, e1, e2, -⟩ := cmp_ok kx2 hz hb
          rw [e1]
          refine res_pure (t := []) hT hs (List.mem_append_left _ List.mem_cons_self) rfl ?_
          rw [nil_app]
          exact ⟨ga_setv G.1 kx3 e2, G.2.1, hst1, G.2.2.2⟩
        | false =>
          obtain ⟨r, e1, e2, -⟩ := cmp_ok kx2 hz (hneg hb)
          rw [e1]
          refine res_pure (t := []) hT hs (List.mem_append_right _ List.mem_cons_self) rfl ?_
          rw [nil_app]
          exact ⟨ga_setv G.1 kx3 e2, G.2.1, hst1, G.2.2.2⟩
      · cases hq
    · cases hq
  · cases hq
theorem as7 (hq : ab_step mods (7, a, nx) (ls, st, env, ca) = some l) (G : Gm rho (ls, st, env, ca) cls cst h) (hT : TInv h) : Res mods (7, a, nx) pc cls cst h l rho := by
  simp only [ab_step] at hq
  split at hq
  · rename_i o t y x st
    obtain ⟨wy, cst1, rfl, hy, hst1⟩ := G.2.2.1
    obtain ⟨wx, cst2, rfl, hx, hst2⟩ := hst1
    split at hq
    · rename_i bx by' hbx hby
      obtain ⟨vx, kx1, rfl, kx2, kx3⟩ := bnd_ok G.1 hx hbx
      obtain ⟨vy, ky1, rfl, ky2, ky3⟩ := bnd_ok G.1 hy hby
      split at hq
      · rename_i ho
        cases hq
        obtain ⟨⟨b, hb⟩, hneg⟩ := cmp_neg (x := vx) (y := vy) ho
        have hs : fl_step (7, [o, t], nx) (pc, cls, .int vy :: .int vx :: cst2, h, fl_tot) = some (.inl (if b then t.toNat else nx, cls, cst2, h, fl_tot)) := by simp only [fl_step, hb]
        have hset : ∀ r : (Int × Int) × (Int × Int), (r.1.1 ≤ vx.toInt ∧ vx.toInt ≤ r.1.2) → (r.2.1 ≤ vy.toInt ∧ vy.toInt ≤ r.2.2) → ga rho (if x.2.1 = y.2.1 then env else ab_set (ab_set env x r.1) y r.2) := by
          intro r e2 e3
          split
          · exact G.1
          · exact ga_setv (ga_setv G.1 kx3 e2) ky3 e3
        cases b with
        | true =>
          obtain ⟨r, e1, e2, e3⟩ := cmp_ok kx2 ky2 hb
          rw [e1]
          refine res_pure (t := []) hT hs (List.mem_append_left _ List.mem_cons_self) rfl ?_
          rw [nil_app]
          exact ⟨hset r e2 e3, G.2.1, hst2, G.2.2.2⟩
        | false =>
          obtain ⟨r, e1, e2, e3⟩ := cmp_ok kx2 ky2 (hneg hb)
          rw [e1]
          refine res_pure (t := []) hT hs (List.mem_append_right _ List.mem_cons_self) rfl ?_
          rw [nil_app]
          exact ⟨hset r e2 e3, G.2.1, hst2, G.2.2.2⟩
      · cases hq
    · cases hq
  · cases hq
theorem as8 (hq : ab_step mods (8, a, nx) (ls, st, env, ca) = some l) (G : Gm rho (ls, st, env, ca) cls cst h) (hT : TInv h) : Res mods (8, a, nx) pc cls cst h l rho := by
  simp only [ab_step] at hq
  split at hq
  · cases hq
    refine res_pure (t := []) hT rfl List.mem_cons_self rfl ?_
    rw [nil_app]
    exact G
  · cases hq
end ABS
end
section
/-! the steps that read and write cells -/
theorem n_of {y : Int32} {n : Nat} (h0 : 0 ≤ y.toInt) (h1 : y.toInt < (n : Int)) : fl_in y n = true ∧ y.toNatClampNeg < n := by
  have h2 : y.toNatClampNeg = y.toInt.toNat := rfl
  have h3 : y.toNatClampNeg < n := by rw [h2]; omega
  refine ⟨?_, h3⟩
  simp only [fl_in, Bool.and_eq_true, decide_eq_true_eq]
  exact ⟨fun z => by have := Int32.lt_iff_toInt_lt.mp z; rw [Int32.toInt_zero] at this; omega, h3⟩
def valOK (t : TY) (v : Value) : Prop := match t.1 with
  | 1 => ∃ y : Int32, v = .int y ∧ t.2.1 ≤ y.toInt ∧ y.toInt ≤ t.2.2
  | 2 => ∃ r : Nat, v = .ref r ∧ ab_kd r = t.2.1.toNat
  | 4 => v = .null ∨ ∃ r : Nat, v = .ref r ∧ ab_kd r = t.2.1.toNat
  | 5 => ∃ x : Int64, v = .long x
  | _ => v.category = 1
section ABS
variable {mods : List Nat} {a : List Int} {nx pc : Nat} {ls st : List AV} {env : List (Int × Int)} {ca : List (Nat × Nat × Nat × AV)} {l : List (Nat × AS)} {rho : List Int} {cls : List (Option Value)} {cst : List Value} {h : Hp}
theorem put_ty {t : TY} {st' : List AV} {env' : List (Int × Int)} {v' : AV} {v : Value} (hp : ab_put env st t = some (st', env', v')) (g : ga rho env) (hs : gs rho st cst) (hv : valOK t v) : ∃ x, ga (rho ++ x) env' ∧ gs (rho ++ x) st' (v :: cst) ∧ gv (rho ++ x) v' v ∧ v'.1 = t.1 ∧ st' = v' :: st := by
  unfold ab_put at hp
  unfold valOK at hv
  split at hp
  · rename_i h1
    cases hp
    rw [h1] at hv
    obtain ⟨y, rfl, h2⟩ := hv
    have hg : gv (rho ++ [y.toInt]) (1, env.length, 0) (.int y) := gv_mk (by rw [ga_last g]; congr 1; omega)
    exact ⟨[y.toInt], ga_push g (Or.inr h2), gs_cons hg (gs_ext hs), hg, h1.symm, rfl⟩
  · rename_i h1
    cases hp
    rw [h1] at hv
    obtain ⟨r, rfl, h2⟩ := hv
    have hg : gv (rho ++ [(r : Int)]) (2, env.length, t.2.1) (.ref r) := ⟨r, ga_last g, rfl, h2⟩
    exact ⟨[(r : Int)], ga_push g (Or.inl (by decide)), gs_cons hg (gs_ext hs), hg, h1.symm, rfl⟩
  · rename_i h1
    cases hp
    rw [h1] at hv
    rcases hv with rfl | ⟨r, rfl, h2⟩
    · have hg : gv (rho ++ [-1]) (4, env.length, t.2.1) .null := ⟨-1, ga_last g, Or.inl ⟨rfl, rfl⟩⟩
      exact ⟨[-1], ga_push g (Or.inl (by decide)), gs_cons hg (gs_ext hs), hg, h1.symm, rfl⟩
    · have hg : gv (rho ++ [(r : Int)]) (4, env.length, t.2.1) (.ref r) := ⟨r, ga_last g, Or.inr ⟨r, rfl, rfl, h2⟩⟩
      exact ⟨[(r : Int)], ga_push g (Or.inl (by decide)), gs_cons hg (gs_ext hs), hg, h1.symm, rfl⟩
  · rename_i h1
    cases hp
    rw [h1] at hv
    obtain ⟨x, rfl⟩ := hv
    have hg : gv (rho ++ []) (5, 0, 0) (.long x) := ⟨x, rfl⟩
    exact ⟨[], by rw [nil_app]; exact g, gs_cons hg (by rw [nil_app]; exact hs), hg, h1.symm, rfl⟩
  · cases hp
/-- what a slot holds, of its type -/
theorem slot_int {t : TY} {r j : Nat} (h1 : t.1 = 1) (hs : slotOK h t r j) : valOK t (.int (h.1 r j)) := by
  unfold slotOK at hs
  rw [h1] at hs
  unfold valOK
  rw [h1]
  exact ⟨_, rfl, hs⟩
theorem slot_ref {t : TY} {r j : Nat} (h1 : t.1 = 2 ∨ t.1 = 4) (hs : slotOK h t r j) : valOK t (fl_rv (h.2 r j)) := by
  unfold slotOK at hs
  unfold valOK
  rcases h1 with h1 | h1 <;> rw [h1] at hs ⊢
  · obtain ⟨b, e1, e2⟩ := hs
    rw [e1]
    exact ⟨b, rfl, e2⟩
  · rcases hs with e1 | ⟨b, e1, e2⟩
    · rw [e1]; exact Or.inl rfl
    · rw [e1]; exact Or.inr ⟨b, rfl, e2⟩
theorem fits_ok {t : TY} {x : AV} {v : Value} (g : ga rho env) (hf : ab_fits env x t = true) (hv : gv rho x v) : valOK t v := by
  unfold ab_fits at hf
  unfold valOK
  split at hf
  · rename_i h1
    rw [h1]
    split at hf
    · rename_i b hb
      obtain ⟨y, -, rfl, k2, -⟩ := bnd_ok g hv hb
      simp only [Bool.and_eq_true, decide_eq_true_eq] at hf
      exact ⟨y, rfl, by omega, by omega⟩
    · cases hf
  · rename_i h1
    rw [h1]
    simp only [Bool.and_eq_true, beq_iff_eq] at hf
    obtain ⟨r, -, rfl, e⟩ := gv_ref hf.1 hv
    exact ⟨r, rfl, by rw [e, hf.2]⟩
  · rename_i h1
    rw [h1]
    simp only [Bool.or_eq_true, Bool.and_eq_true, beq_iff_eq] at hf
    rcases hf with hf | ⟨hf | hf, h2⟩
    · unfold gv at hv
      rw [hf] at hv
      exact Or.inl hv
    · obtain ⟨r, -, rfl, e⟩ := gv_ref hf hv
      exact Or.inr ⟨r, rfl, by rw [e, h2]⟩
    · unfold gv at hv
      rw [hf] at hv
      obtain ⟨y, -, hv⟩ := hv
      rcases hv with ⟨-, rfl⟩ | ⟨r, -, rfl, e⟩
      · exact Or.inl rfl
      · exact Or.inr ⟨r, rfl, by rw [e, h2]⟩
  · rename_i h1
    rw [h1]
    have h5 := eq_of_beq hf
    unfold gv at hv
    rw [h5] at hv
    exact hv
  · rename_i h1
    rw [h1]
    have h5 : x.1 ≠ 5 := by simpa using hf
    by_cases h9 : ab_one x = true
    · exact one_cat h9 hv
    · unfold gv at hv
      simp only [ab_one, Bool.or_eq_true, beq_iff_eq, not_or] at h9
      split at hv
      · rename_i z; exact absurd z h9.1.1.1
      · rename_i z; exact absurd z h9.1.1.2
      · rename_i z; exact absurd z h9.1.2
      · rename_i z; exact absurd z h9.2
      · rename_i z; exact absurd z h5
      · exact hv
  · cases hf
theorem range_ok {x : AV} {v : Value} {n : Nat} (g : ga rho env) (hf : ab_range env x n = true) (hv : gv rho x v) : ∃ y : Int32, v = .int y ∧ fl_in y n = true ∧ y.toNatClampNeg < n := by
  unfold ab_range at hf
  split at hf
  · rename_i b hb
    obtain ⟨y, -, rfl, k2, -⟩ := bnd_ok g hv hb
    simp only [Bool.and_eq_true, decide_eq_true_eq] at hf
    have := n_of (y := y) (n := n) (by omega) (by omega)
    exact ⟨y, rfl, this⟩
  · cases hf
/-- a cell of a kind: made, laid as planned -/
theorem as9 (hq : ab_step mods (9, a, nx) (ls, st, env, ca) = some l) (G : Gm rho (ls, st, env, ca) cls cst h) (hT : TInv h) : Res mods (9, a, nx) pc cls cst h l rho := by
  simp only [ab_step] at hq
  split at hq
  · rename_i ci k v st
    obtain ⟨wv, cst1, rfl, hv, hst1⟩ := G.2.2.1
    split at hq
    · rename_i hv1
      obtain ⟨r, e1, rfl, e2⟩ := gv_ref hv1 hv
      split at hq
      · rename_i e he
        split at hq
        · rename_i hc
          cases hq
          simp only [Bool.and_eq_true] at hc
          obtain ⟨⟨⟨hc1, hc2⟩, hc3⟩, hc4⟩ := hc
          unfold ab_obj at hc2
          split at hc2
          · rename_i code size tys hK
            simp only [Bool.and_eq_true, beq_iff_eq, decide_eq_true_eq] at hc2
            obtain ⟨⟨⟨⟨k1, k2⟩, k3⟩, k4⟩, k5⟩ := hc2
            rw [← e2] at hK k5
            obtain ⟨hr, hlay⟩ := ab_kdK k5 hK
            have hmem := List.mem_of_find?_eq_some he
            have hp := List.find?_some he
            simp only [Bool.and_eq_true, beq_iff_eq] at hp
            obtain ⟨r', z1, z2, -, z3⟩ := G.2.2.2 e hmem
            rw [hp.1] at z1
            have hlay' : fl_lay r = (ci.toNat, (fl_N[ci.toNat]?).getD 0) := by rw [hlay, k1, k3]
            have hrr : r' = r := by
              have := e1.symm.trans z1
              simp only [Option.some.injEq] at this
              omega
            subst hrr
            have hcv : ab_cv h r' e.2.2.1 e.2.2.2 = (if fl_kind ci.toNat k.toNat = 2 then fl_rv (h.2 r' k.toNat) else .int (h.1 r' k.toNat)) := by
              rw [hp.2]
              unfold ab_cv
              have hb : (fl_kind ci.toNat k.toNat = 2) ↔ (e.2.2.2.1 = 2 ∨ e.2.2.2.1 = 4) := by
                have q := eq_of_beq hc1
                constructor
                · intro z
                  rw [z] at q
                  have q2 : (e.2.2.2.1 == 2 || e.2.2.2.1 == 4) = true := q.symm
                  simpa only [Bool.or_eq_true, beq_iff_eq] using q2
                · intro z
                  have q2 : (e.2.2.2.1 == 2 || e.2.2.2.1 == 4) = true := by simpa only [Bool.or_eq_true, beq_iff_eq] using z
                  rw [q2] at q
                  exact eq_of_beq q
              by_cases h9 : fl_kind ci.toNat k.toNat = 2
              · rw [if_pos h9, if_neg (by have := hb.mp h9; omega)]
              · have hone := hc3
                simp only [ab_one, Bool.or_eq_true, beq_iff_eq] at hone
                have h3 : e.2.2.2.1 ≠ 3 := by simpa using hc4
                have : e.2.2.2.1 = 1 := by
                  have := fun z => h9 (hb.mpr z)
                  omega
                rw [if_neg h9, if_pos this]
            rw [hcv] at z3
            by_cases h9 : fl_kind ci.toNat k.toNat = 2
            · rw [if_pos h9] at z3
              refine res_pure (t := []) hT (by simp only [fl_step, if_pos (⟨hr, hlay'⟩ : _ ∧ _), h9] <;> rfl) List.mem_cons_self rfl ?_
              rw [nil_app]
              exact ⟨G.1, G.2.1, gs_cons z3 hst1, G.2.2.2⟩
            · rw [if_neg h9] at z3
              have h01 : fl_kind ci.toNat k.toNat = 0 ∨ fl_kind ci.toNat k.toNat = 1 := by omega
              refine res_pure (t := []) hT (by rcases h01 with h01 | h01 <;> simp only [fl_step, if_pos (⟨hr, hlay'⟩ : _ ∧ _), h01] <;> rfl) List.mem_cons_self rfl ?_
              rw [nil_app]
              exact ⟨G.1, G.2.1, gs_cons z3 hst1, G.2.2.2⟩
          · cases hc2
        · cases hq
      · split at hq
        · rename_i code size tys hK
          split at hq
          · rename_i hc
            simp only [Bool.and_eq_true, beq_iff_eq, decide_eq_true_eq] at hc
            obtain ⟨⟨⟨k1, k2⟩, k3⟩, k4⟩ := hc
            split at hq
            · rename_i t ht
              split at hq
              · rename_i htk
                split at hq
                · rename_i st' env' v' hput
                  cases hq
                  rw [← e2] at hK k2
                  obtain ⟨hr, hlay⟩ := ab_kdK k2 hK
                  have hlay' : fl_lay r = (ci.toNat, (fl_N[ci.toNat]?).getD 0) := by rw [hlay, k1, k4]
                  have hcode : code < 20 := by
                    rcases fl_kinds2 r hr with z | z
                    · rw [hlay] at z; omega
                    · rw [hlay, k1] at z
                      have : ci.toNat < 11 := by
                        rcases Nat.lt_or_ge ci.toNat 11 with q | q
                        · exact q
                        · rw [show fl_N[ci.toNat]? = none from List.getElem?_eq_none (by simp [fl_N]; omega)] at k4
                          simp at k4
                          omega
                      simp only at z
                      omega
                  have hslot := hT r code size tys k.toNat t k2 hK k3 (by rw [if_pos hcode]; exact ht)
                  simp only [Bool.or_eq_true, Bool.and_eq_true, beq_iff_eq, decide_eq_true_eq] at htk
                  rcases htk with ⟨h1, h2⟩ | ⟨h1, h2⟩
                  · obtain ⟨x, p1, p2, p3, p4, rfl⟩ := put_ty hput G.1 hst1 (slot_int h1 hslot)
                    have h01 : fl_kind ci.toNat k.toNat = 0 ∨ fl_kind ci.toNat k.toNat = 1 := by omega
                    refine res_pure (t := x) hT (by rcases h01 with h01 | h01 <;> simp only [fl_step, if_pos (⟨hr, hlay'⟩ : _ ∧ _), h01] <;> rfl) List.mem_cons_self rfl ?_
                    refine ⟨p1, gl_ext G.2.1, p2, fun e he => ?_⟩
                    rcases List.mem_cons.mp he with rfl | he
                    · refine ⟨r, get_ext e1, e2, by rw [hlay]; exact hcode, ?_⟩
                      show gv _ v' (ab_cv h r k.toNat v')
                      unfold ab_cv
                      rw [if_pos (p4.trans h1)]
                      exact p3
                    · exact gc_ext G.2.2.2 e he
                  · obtain ⟨x, p1, p2, p3, p4, rfl⟩ := put_ty hput G.1 hst1 (slot_ref h1 hslot)
                    refine res_pure (t := x) hT (by simp only [fl_step, if_pos (⟨hr, hlay'⟩ : _ ∧ _), h2] <;> rfl) List.mem_cons_self rfl ?_
                    refine ⟨p1, gl_ext G.2.1, p2, fun e he => ?_⟩
                    rcases List.mem_cons.mp he with rfl | he
                    · refine ⟨r, get_ext e1, e2, by rw [hlay]; exact hcode, ?_⟩
                      show gv _ v' (ab_cv h r k.toNat v')
                      unfold ab_cv
                      rw [if_neg (by omega)]
                      exact p3
                    · exact gc_ext G.2.2.2 e he
                · cases hq
              · cases hq
            · cases hq
          · cases hq
        · cases hq
    · cases hq
  · cases hq
theorem slot_congr {h h' : Hp} {t : TY} {r j : Nat} (e1 : h'.1 r j = h.1 r j) (e2 : h'.2 r j = h.2 r j) (hs : slotOK h t r j) : slotOK h' t r j := by
  unfold slotOK at hs ⊢
  rw [e1, e2]
  exact hs
/-- a write of an int keeps all types -/
theorem TInv.setI (hT : TInv h) {r code size i : Nat} {tys : List TY} {t : TY} {x : Int32} (h1 : 1 ≤ ab_kd r) (hK : ab_K[ab_kd r]? = some (code, size, tys)) (ht : (if code < 20 then tys[i]? else tys[0]?) = some t) (ht1 : t.1 = 1) (hx : t.2.1 ≤ x.toInt ∧ x.toInt ≤ t.2.2) : TInv (fl_setI h r i x) := by
  intro r' code' size' tys' j t' q1 q2 q3 q4
  have old := hT r' code' size' tys' j t' q1 q2 q3 q4
  by_cases hr : r' = r ∧ j = i
  · obtain ⟨rfl, rfl⟩ := hr
    rw [hK] at q2
    cases q2
    rw [ht] at q4
    cases q4
    unfold slotOK
    rw [ht1]
    simp only [fl_setI, and_self, if_true]
    exact hx
  · exact slot_congr (h := h) (by simp only [fl_setI]; rw [if_neg hr]) rfl old
theorem TInv.setR (hT : TInv h) {r code size i : Nat} {tys : List TY} {t : TY} {o : Option Nat} (h1 : 1 ≤ ab_kd r) (hK : ab_K[ab_kd r]? = some (code, size, tys)) (ht : (if code < 20 then tys[i]? else tys[0]?) = some t) (ht1 : t.1 = 2 ∨ t.1 = 4) (hx : valOK t (fl_rv o)) : TInv (fl_setR h r i o) := by
  intro r' code' size' tys' j t' q1 q2 q3 q4
  have old := hT r' code' size' tys' j t' q1 q2 q3 q4
  by_cases hr : r' = r ∧ j = i
  · obtain ⟨rfl, rfl⟩ := hr
    rw [hK] at q2
    cases q2
    rw [ht] at q4
    cases q4
    unfold slotOK
    unfold valOK at hx
    have e2 : (fl_setR h r' j o).2 r' j = o := by simp [fl_setR]
    rcases ht1 with ht1 | ht1 <;> rw [ht1] at hx ⊢ <;> simp only [e2]
    · obtain ⟨b, e3, e4⟩ := hx
      cases o with
      | none => cases e3
      | some c => cases e3; exact ⟨b, rfl, e4⟩
    · rcases hx with e3 | ⟨b, e3, e4⟩
      · cases o with
        | none => exact Or.inl rfl
        | some c => cases e3
      · cases o with
        | none => cases e3
        | some c => cases e3; exact Or.inr ⟨b, rfl, e4⟩
  · exact slot_congr (h := h) rfl (by simp only [fl_setR]; rw [if_neg hr]) old
theorem Fr.setI {r i : Nat} {x : Int32} (hm : ab_kd r ∈ mods) : Fr mods h (fl_setI h r i x) := fun r' hr => ⟨by funext j; simp only [fl_setI]; rw [if_neg]; rintro ⟨rfl, -⟩; exact hr hm, rfl⟩
theorem Fr.setR {r i : Nat} {x : Option Nat} (hm : ab_kd r ∈ mods) : Fr mods h (fl_setR h r i x) := fun r' hr => ⟨rfl, by funext j; simp only [fl_setR]; rw [if_neg]; rintro ⟨rfl, -⟩; exact hr hm⟩
end ABS
end
section
/-! the other steps -/
section ABS
variable {mods : List Nat} {a : List Int} {nx pc : Nat} {ls st : List AV} {env : List (Int × Int)} {ca : List (Nat × Nat × Nat × AV)} {l : List (Nat × AS)} {rho : List Int} {cls : List (Option Value)} {cst : List Value} {h : Hp}
theorem gc_setI {r i : Nat} {x : Int32} (hne : ∀ e ∈ ca, ∀ r', rho[e.1]? = some ((r' : Nat) : Int) → ab_kd r' = e.2.1 → (fl_lay r').1 < 20 → ¬ (r' = r ∧ e.2.2.1 = i)) (g : gc rho h ca) : gc rho (fl_setI h r i x) ca := fun e he => by
  obtain ⟨r', h1, h2, h4, h3⟩ := g e he
  refine ⟨r', h1, h2, h4, ?_⟩
  have e1 : ab_cv (fl_setI h r i x) r' e.2.2.1 e.2.2.2 = ab_cv h r' e.2.2.1 e.2.2.2 := by
    unfold ab_cv
    have : (fl_setI h r i x).1 r' e.2.2.1 = h.1 r' e.2.2.1 := by
      simp only [fl_setI]
      rw [if_neg (hne e he r' h1 h2 h4)]
    rw [this]
    rfl
  rw [e1]
  exact h3
theorem gc_setR {r i : Nat} {x : Option Nat} (hne : ∀ e ∈ ca, ∀ r', rho[e.1]? = some ((r' : Nat) : Int) → ab_kd r' = e.2.1 → (fl_lay r').1 < 20 → ¬ (r' = r ∧ e.2.2.1 = i)) (g : gc rho h ca) : gc rho (fl_setR h r i x) ca := fun e he => by
  obtain ⟨r', h1, h2, h4, h3⟩ := g e he
  refine ⟨r', h1, h2, h4, ?_⟩
  have e1 : ab_cv (fl_setR h r i x) r' e.2.2.1 e.2.2.2 = ab_cv h r' e.2.2.1 e.2.2.2 := by
    unfold ab_cv
    have : (fl_setR h r i x).2 r' e.2.2.1 = h.2 r' e.2.2.1 := by
      simp only [fl_setR]
      rw [if_neg (hne e he r' h1 h2 h4)]
    rw [this]
    rfl
  rw [e1]
  exact h3
theorem tag_int {x : AV} {y : Int32} (h1 : ab_one x = true) (h : gv rho x (.int y)) : x.1 = 1 := by
  simp only [ab_one, Bool.or_eq_true, beq_iff_eq] at h1
  unfold gv at h
  rcases h1 with ((h1 | h1) | h1) | h1
  · exact h1
  · rw [h1] at h; obtain ⟨_, _, q, _⟩ := h; cases q
  · rw [h1] at h; cases h
  · rw [h1] at h
    obtain ⟨_, _, q⟩ := h
    rcases q with ⟨_, q⟩ | ⟨_, _, q, _⟩ <;> cases q
theorem val_int {t : TY} {v : Value} (h1 : t.1 = 1) (hv : valOK t v) : ∃ y : Int32, v = .int y ∧ t.2.1 ≤ y.toInt ∧ y.toInt ≤ t.2.2 := by
  unfold valOK at hv
  rw [h1] at hv
  exact hv
theorem val_ref {t : TY} {v : Value} (h1 : t.1 = 2 ∨ t.1 = 4) (hv : valOK t v) : ∃ o, v = fl_rv o := by
  unfold valOK at hv
  rcases h1 with h1 | h1 <;> rw [h1] at hv
  · obtain ⟨r, rfl, -⟩ := hv; exact ⟨some r, rfl⟩
  · rcases hv with rfl | ⟨r, rfl, -⟩
    · exact ⟨none, rfl⟩
    · exact ⟨some r, rfl⟩
theorem as10 (hq : ab_step mods (10, a, nx) (ls, st, env, ca) = some l) (G : Gm rho (ls, st, env, ca) cls cst h) (hT : TInv h) : Res mods (10, a, nx) pc cls cst h l rho := by
  simp only [ab_step] at hq
  split at hq
  · rename_i ci k x v st
    obtain ⟨wx, cst0, rfl, hx, hst0⟩ := G.2.2.1
    obtain ⟨wv, cst1, rfl, hv, hst1⟩ := hst0
    split at hq
    · rename_i hv1
      obtain ⟨hv1, hmod⟩ := hv1
      obtain ⟨r, e1, rfl, e2⟩ := gv_ref hv1 hv
      rw [← e2] at hmod
      split at hq
      · rename_i code size tys hK
        split at hq
        · rename_i hc
          simp only [Bool.and_eq_true, beq_iff_eq, decide_eq_true_eq] at hc
          obtain ⟨⟨⟨k1, k2⟩, k3⟩, k4⟩ := hc
          split at hq
          · rename_i t ht
            split at hq
            · rename_i hfk
              cases hq
              simp only [Bool.and_eq_true] at hfk
              obtain ⟨⟨hf, hone⟩, htk⟩ := hfk
              rw [← e2] at hK k2
              obtain ⟨hr, hlay⟩ := ab_kdK k2 hK
              have hlay' : fl_lay r = (ci.toNat, (fl_N[ci.toNat]?).getD 0) := by rw [hlay, k1, k4]
              have hcode : code < 20 := by
                rcases fl_kinds2 r hr with z | z
                · rw [hlay] at z; omega
                · rw [hlay, k1] at z
                  have : ci.toNat < 11 := by
                    rcases Nat.lt_or_ge ci.toNat 11 with q | q
                    · exact q
                    · rw [show fl_N[ci.toNat]? = none from List.getElem?_eq_none (by simp [fl_N]; omega)] at k4
                      simp at k4
                      omega
                  simp only at z
                  omega
              have hval := fits_ok G.1 hf hx
              have htt : (if code < 20 then tys[k.toNat]? else tys[0]?) = some t := by rw [if_pos hcode]; exact ht
              have hne : ∀ e ∈ ca.filter (fun e => e.2.1 != v.2.2.toNat || e.2.2.1 != k.toNat), ∀ r', rho[e.1]? = some ((r' : Nat) : Int) → ab_kd r' = e.2.1 → (fl_lay r').1 < 20 → ¬ (r' = r ∧ e.2.2.1 = k.toNat) := by
                rintro e he r' q1 q2 - ⟨rfl, q3⟩
                have := (List.mem_filter.mp he).2
                rw [← q2, e2, q3] at this
                simp at this
              have gcf : gc rho h (ca.filter (fun e => e.2.1 != v.2.2.toNat || e.2.2.1 != k.toNat)) := fun e he => G.2.2.2 e (List.mem_filter.mp he).1
              simp only [Bool.or_eq_true, Bool.and_eq_true, beq_iff_eq, decide_eq_true_eq] at htk
              rcases htk with ⟨⟨h1, h2⟩, h3⟩ | ⟨h1, h2⟩
              · obtain ⟨y, rfl, hy⟩ := val_int h1 hval
                have h01 : fl_kind ci.toNat k.toNat = 0 ∨ fl_kind ci.toNat k.toNat = 1 := by omega
                have hbit : fl_kind ci.toNat k.toNat = 1 → fl_bit y = true := by
                  intro z
                  have hb : 0 ≤ y.toInt ∧ y.toInt ≤ 1 := by
                    rcases h3 with h3 | h3 <;> omega
                  simp only [fl_bit, Bool.or_eq_true, decide_eq_true_eq]
                  rcases (by omega : y.toInt = 0 ∨ y.toInt = 1) with z | z
                  · exact Or.inl (i_eq.mpr z)
                  · exact Or.inr (i_eq.mpr z)
                refine ⟨(nx, cls, cst1, fl_setI h r k.toNat y, fl_tot), _, [], ?_, List.mem_cons_self, rfl, ?_, hT.setI k2 hK htt h1 hy, rfl, Fr.setI hmod⟩
                · rcases h01 with h01 | h01
                  · simp only [fl_step, if_pos (⟨hr, hlay'⟩ : _ ∧ _), h01]
                  · simp only [fl_step, if_pos (⟨hr, hlay'⟩ : _ ∧ _), h01, if_pos (hbit h01)]
                · rw [nil_app]
                  refine ⟨G.1, G.2.1, hst1, fun e he => ?_⟩
                  rcases List.mem_append.mp he with he | he
                  · split at he
                    · cases he
                    · rw [List.mem_singleton] at he
                      subst he
                      refine ⟨r, e1, e2, by rw [hlay]; exact hcode, ?_⟩
                      show gv rho x (ab_cv (fl_setI h r k.toNat y) r k.toNat x)
                      have hx1 : x.1 = 1 := tag_int hone hx
                      unfold ab_cv
                      rw [if_pos hx1]
                      simp only [fl_setI, and_self, if_true]
                      exact hx
                  · exact gc_setI hne gcf e he
              · obtain ⟨o, rfl⟩ := val_ref h1 hval
                refine ⟨(nx, cls, cst1, fl_setR h r k.toNat o, fl_tot), _, [], ?_, List.mem_cons_self, rfl, ?_, hT.setR k2 hK htt h1 hval, rfl, Fr.setR hmod⟩
                · cases o <;> simp only [fl_step, fl_rv, if_pos (⟨hr, hlay'⟩ : _ ∧ _), h2]
                · rw [nil_app]
                  refine ⟨G.1, G.2.1, hst1, fun e he => ?_⟩
                  rcases List.mem_append.mp he with he | he
                  · split at he
                    · cases he
                    · rw [List.mem_singleton] at he
                      subst he
                      refine ⟨r, e1, e2, by rw [hlay]; exact hcode, ?_⟩
                      show gv rho x (ab_cv (fl_setR h r k.toNat o) r k.toNat x)
                      have hx1 : x.1 ≠ 1 := by
                        intro z
                        obtain ⟨_, _, _, q, _⟩ := gv_int z hx
                        cases o <;> cases q
                      unfold ab_cv
                      rw [if_neg hx1]
                      simp only [fl_setR, and_self, if_true]
                      exact hx
                  · exact gc_setR hne gcf e he
            · cases hq
          · cases hq
        · cases hq
      · cases hq
    · cases hq
  · cases hq
end ABS
end
section
/-! arrays, references, longs, switches, copies -/
section ABS
variable {mods : List Nat} {a : List Int} {nx pc : Nat} {ls st : List AV} {env : List (Int × Int)} {ca : List (Nat × Nat × Nat × AV)} {l : List (Nat × AS)} {rho : List Int} {cls : List (Option Value)} {cst : List Value} {h : Hp}
theorem lay_isI {r size : Nat} (hr : r < fl_tot) (hl : fl_lay r = (20, size)) {h : Hp} : fl_isI fl_tot r = true ∧ fl_len h r = size := by
  have h285 : fl_tot = 285 := rfl
  unfold fl_isI fl_len
  rw [if_pos (by omega), if_pos (by omega), hl]
  simp only [Bool.and_eq_true, decide_eq_true_eq]
  exact ⟨⟨hr, rfl⟩, trivial⟩
theorem as11 (hq : ab_step mods (11, a, nx) (ls, st, env, ca) = some l) (G : Gm rho (ls, st, env, ca) cls cst h) (hT : TInv h) : Res mods (11, a, nx) pc cls cst h l rho := by
  simp only [ab_step] at hq
  split at hq
  · rename_i i v st
    obtain ⟨wi, cst0, rfl, hi, hst0⟩ := G.2.2.1
    obtain ⟨wv, cst1, rfl, hv, hst1⟩ := hst0
    split at hq
    · rename_i hv1
      obtain ⟨r, e1, rfl, e2⟩ := gv_ref hv1 hv
      split at hq
      · rename_i code size tys hK
        split at hq
        · rename_i hc
          simp only [Bool.and_eq_true, beq_iff_eq, decide_eq_true_eq] at hc
          obtain ⟨⟨k1, k2⟩, k3⟩ := hc
          split at hq
          · rename_i t
            split at hq
            · rename_i ht1
              split at hq
              · rename_i st' env' v' hput
                cases hq
                rw [← e2] at hK k2
                obtain ⟨hr, hlay⟩ := ab_kdK k2 hK
                rw [k1] at hlay
                obtain ⟨y, rfl, i1, i2⟩ := range_ok G.1 k3 hi
                obtain ⟨j1, j2⟩ := lay_isI (h := h) hr hlay
                have hslot := hT r code size [t] y.toNatClampNeg t k2 hK i2 (by rw [if_neg (by omega)]; rfl)
                obtain ⟨x, p1, p2, p3, p4, rfl⟩ := put_ty hput G.1 hst1 (slot_int ht1 hslot)
                refine res_pure (t := x) hT (by simp only [fl_step, j1, j2, i1, Bool.and_self, if_true] <;> rfl) List.mem_cons_self rfl ?_
                exact ⟨p1, gl_ext G.2.1, p2, gc_ext G.2.2.2⟩
              · cases hq
            · cases hq
          · cases hq
        · cases hq
      · cases hq
    · cases hq
  · cases hq
theorem as13 (hq : ab_step mods (13, a, nx) (ls, st, env, ca) = some l) (G : Gm rho (ls, st, env, ca) cls cst h) (hT : TInv h) : Res mods (13, a, nx) pc cls cst h l rho := by
  simp only [ab_step] at hq
  split at hq
  · rename_i i v st
    obtain ⟨wi, cst0, rfl, hi, hst0⟩ := G.2.2.1
    obtain ⟨wv, cst1, rfl, hv, hst1⟩ := hst0
    split at hq
    · rename_i hv1
      obtain ⟨r, e1, rfl, e2⟩ := gv_ref hv1 hv
      split at hq
      · rename_i code size tys hK
        split at hq
        · rename_i hc
          simp only [Bool.and_eq_true, beq_iff_eq, decide_eq_true_eq] at hc
          obtain ⟨⟨k1, k2⟩, k3⟩ := hc
          split at hq
          · rename_i t
            split at hq
            · rename_i ht1
              split at hq
              · rename_i st' env' v' hput
                cases hq
                rw [← e2] at hK k2
                obtain ⟨hr, hlay⟩ := ab_kdK k2 hK
                rw [k1] at hlay
                obtain ⟨y, rfl, i1, i2⟩ := range_ok G.1 k3 hi
                have hslot := hT r code size [t] y.toNatClampNeg t k2 hK i2 (by rw [if_neg (by omega)]; rfl)
                obtain ⟨x, p1, p2, p3, p4, rfl⟩ := put_ty hput G.1 hst1 (slot_int ht1 hslot)
                refine res_pure (t := x) hT (by simp only [fl_step]; exact if_pos ⟨hr, by rw [hlay], by rw [hlay]; exact i1⟩) List.mem_cons_self rfl ?_
                exact ⟨p1, gl_ext G.2.1, p2, gc_ext G.2.2.2⟩
              · cases hq
            · cases hq
          · cases hq
        · cases hq
      · cases hq
    · cases hq
  · cases hq
theorem as15 (hq : ab_step mods (15, a, nx) (ls, st, env, ca) = some l) (G : Gm rho (ls, st, env, ca) cls cst h) (hT : TInv h) : Res mods (15, a, nx) pc cls cst h l rho := by
  simp only [ab_step] at hq
  split at hq
  · rename_i i v st
    obtain ⟨wi, cst0, rfl, hi, hst0⟩ := G.2.2.1
    obtain ⟨wv, cst1, rfl, hv, hst1⟩ := hst0
    split at hq
    · rename_i hv1
      obtain ⟨r, e1, rfl, e2⟩ := gv_ref hv1 hv
      split at hq
      · rename_i code size tys hK
        split at hq
        · rename_i hc
          simp only [Bool.and_eq_true, beq_iff_eq, decide_eq_true_eq] at hc
          obtain ⟨⟨⟨k0, k1⟩, k2⟩, k3⟩ := hc
          split at hq
          · rename_i t
            split at hq
            · rename_i ht1
              split at hq
              · rename_i st' env' v' hput
                cases hq
                rw [← e2] at hK k2
                obtain ⟨hr, hlay⟩ := ab_kdK k2 hK
                obtain ⟨y, rfl, i1, i2⟩ := range_ok G.1 k3 hi
                have hslot := hT r code size [t] y.toNatClampNeg t k2 hK i2 (by rw [if_neg (by omega)]; rfl)
                obtain ⟨x, p1, p2, p3, p4, rfl⟩ := put_ty hput G.1 hst1 (slot_ref ht1 hslot)
                refine res_pure (t := x) hT (by simp only [fl_step]; exact if_pos ⟨hr, by rw [hlay]; exact k0, by rw [hlay]; exact k1, by rw [hlay]; exact i1⟩) List.mem_cons_self rfl ?_
                exact ⟨p1, gl_ext G.2.1, p2, gc_ext G.2.2.2⟩
              · cases hq
            · cases hq
          · cases hq
        · cases hq
      · cases hq
    · cases hq
  · cases hq
theorem gc_arrI {r i : Nat} {x : Int32} (hr : 20 ≤ (fl_lay r).1) (g : gc rho h ca) : gc rho (fl_setI h r i x) ca := gc_setI (fun e _ r' _ _ h4 => by rintro ⟨rfl, -⟩; omega) g
theorem gc_arrR {r i : Nat} {x : Option Nat} (hr : 20 ≤ (fl_lay r).1) (g : gc rho h ca) : gc rho (fl_setR h r i x) ca := gc_setR (fun e _ r' _ _ h4 => by rintro ⟨rfl, -⟩; omega) g
theorem as12 (hq : ab_step mods (12, a, nx) (ls, st, env, ca) = some l) (G : Gm rho (ls, st, env, ca) cls cst h) (hT : TInv h) : Res mods (12, a, nx) pc cls cst h l rho := by
  simp only [ab_step] at hq
  split at hq
  · rename_i x i v st
    obtain ⟨wx, cst9, rfl, hx, hst9⟩ := G.2.2.1
    obtain ⟨wi, cst0, rfl, hi, hst0⟩ := hst9
    obtain ⟨wv, cst1, rfl, hv, hst1⟩ := hst0
    split at hq
    · rename_i hv1
      obtain ⟨hv1, hmod⟩ := hv1
      obtain ⟨r, e1, rfl, e2⟩ := gv_ref hv1 hv
      rw [← e2] at hmod
      split at hq
      · rename_i code size tys hK
        split at hq
        · rename_i hc
          simp only [Bool.and_eq_true, beq_iff_eq, decide_eq_true_eq] at hc
          obtain ⟨⟨k1, k2⟩, k3⟩ := hc
          split at hq
          · rename_i t
            split at hq
            · rename_i ht1
              cases hq
              rw [← e2] at hK k2
              obtain ⟨hr, hlay⟩ := ab_kdK k2 hK
              rw [k1] at hlay
              obtain ⟨y, rfl, i1, i2⟩ := range_ok G.1 k3 hi
              obtain ⟨z, rfl, hz⟩ := val_int ht1.1 (fits_ok G.1 ht1.2 hx)
              refine ⟨(nx, cls, cst1, fl_setI h r y.toNatClampNeg z, fl_tot), _, [], by simp only [fl_step]; exact if_pos ⟨hr, by rw [hlay], by rw [hlay]; exact i1⟩, List.mem_cons_self, rfl, ?_, hT.setI k2 hK (by rw [if_neg (by omega)]; rfl) ht1.1 hz, rfl, Fr.setI hmod⟩
              rw [nil_app]
              exact ⟨G.1, G.2.1, hst1, gc_arrI (by rw [hlay]; exact Nat.le_refl _) G.2.2.2⟩
            · cases hq
          · cases hq
        · cases hq
      · cases hq
    · cases hq
  · cases hq
theorem as14 (hq : ab_step mods (14, a, nx) (ls, st, env, ca) = some l) (G : Gm rho (ls, st, env, ca) cls cst h) (hT : TInv h) : Res mods (14, a, nx) pc cls cst h l rho := by
  simp only [ab_step] at hq
  split at hq
  · rename_i x i v st
    obtain ⟨wx, cst9, rfl, hx, hst9⟩ := G.2.2.1
    obtain ⟨wi, cst0, rfl, hi, hst0⟩ := hst9
    obtain ⟨wv, cst1, rfl, hv, hst1⟩ := hst0
    split at hq
    · rename_i hv1
      obtain ⟨hv1, hmod⟩ := hv1
      obtain ⟨r, e1, rfl, e2⟩ := gv_ref hv1 hv
      rw [← e2] at hmod
      split at hq
      · rename_i code size tys hK
        split at hq
        · rename_i hc
          simp only [Bool.and_eq_true, beq_iff_eq, decide_eq_true_eq] at hc
          obtain ⟨⟨k1, k2⟩, k3⟩ := hc
          split at hq
          · rename_i t
            split at hq
            · rename_i ht1
              cases hq
              obtain ⟨ht1, ht2, ht3, ht4⟩ := ht1
              rw [← e2] at hK k2
              obtain ⟨hr, hlay⟩ := ab_kdK k2 hK
              rw [k1] at hlay
              obtain ⟨y, rfl, i1, i2⟩ := range_ok G.1 k3 hi
              obtain ⟨z, rfl, hz⟩ := val_int ht1 (fits_ok G.1 ht4 hx)
              have hbit : fl_bit z = true := by
                simp only [fl_bit, Bool.or_eq_true, decide_eq_true_eq]
                rcases (by omega : z.toInt = 0 ∨ z.toInt = 1) with q | q
                · exact Or.inl (i_eq.mpr q)
                · exact Or.inr (i_eq.mpr q)
              refine ⟨(nx, cls, cst1, fl_setI h r y.toNatClampNeg z, fl_tot), _, [], by simp only [fl_step]; exact if_pos ⟨hr, by rw [hlay], by rw [hlay]; exact i1, hbit, trivial⟩, List.mem_cons_self, rfl, ?_, hT.setI k2 hK (by rw [if_neg (by omega)]; rfl) ht1 hz, rfl, Fr.setI hmod⟩
              rw [nil_app]
              exact ⟨G.1, G.2.1, hst1, gc_arrI (by rw [hlay]; exact Nat.le_succ 20) G.2.2.2⟩
            · cases hq
          · cases hq
        · cases hq
      · cases hq
    · cases hq
  · cases hq
theorem as16 (hq : ab_step mods (16, a, nx) (ls, st, env, ca) = some l) (G : Gm rho (ls, st, env, ca) cls cst h) (hT : TInv h) : Res mods (16, a, nx) pc cls cst h l rho := by
  simp only [ab_step] at hq
  split at hq
  · rename_i x i v st
    obtain ⟨wx, cst9, rfl, hx, hst9⟩ := G.2.2.1
    obtain ⟨wi, cst0, rfl, hi, hst0⟩ := hst9
    obtain ⟨wv, cst1, rfl, hv, hst1⟩ := hst0
    split at hq
    · rename_i hv1
      obtain ⟨hv1, hmod, hx1, hx2⟩ := hv1
      obtain ⟨r, e1, rfl, e2⟩ := gv_ref hv1 hv
      obtain ⟨b, d1, rfl, d2⟩ := gv_ref hx1 hx
      rw [← e2] at hmod
      rw [← d2] at hx2
      split at hq
      · rename_i code size tys code2 size2 tys2 hK hK2
        split at hq
        · rename_i hc
          simp only [Bool.and_eq_true, beq_iff_eq, decide_eq_true_eq] at hc
          obtain ⟨⟨⟨⟨k0, k1⟩, k2⟩, k3⟩, k4⟩ := hc
          split at hq
          · rename_i t
            split at hq
            · rename_i ht1
              cases hq
              rw [← e2] at hK k2
              rw [← d2] at hK2
              obtain ⟨hr, hlay⟩ := ab_kdK k2 hK
              obtain ⟨hr2, hlay2⟩ := ab_kdK hx2 hK2
              obtain ⟨y, rfl, i1, i2⟩ := range_ok G.1 k3 hi
              refine ⟨(nx, cls, cst1, fl_setR h r y.toNatClampNeg (some b), fl_tot), _, [], by simp only [fl_step]; exact if_pos ⟨hr, by rw [hlay]; exact k0, by rw [hlay]; exact k1, by rw [hlay]; exact i1, hr2, by rw [hlay, hlay2]; exact k4⟩, List.mem_cons_self, rfl, ?_, hT.setR k2 hK (by rw [if_neg (by omega)]; rfl) ht1.1 (fits_ok (v := .ref b) G.1 ht1.2 hx), rfl, Fr.setR hmod⟩
              rw [nil_app]
              exact ⟨G.1, G.2.1, hst1, gc_arrR (by rw [hlay]; simp only; omega) G.2.2.2⟩
            · cases hq
          · cases hq
        · cases hq
      · cases hq
    · cases hq
  · cases hq
theorem st_lens : ∀ j, j < 10 → 1 ≤ ((fl_st[j]?).getD []).length ∧ ((fl_st[j]?).getD []).length ≤ 9 := by decide +kernel
theorem as17 (hq : ab_step mods (17, a, nx) (ls, st, env, ca) = some l) (G : Gm rho (ls, st, env, ca) cls cst h) (hT : TInv h) : Res mods (17, a, nx) pc cls cst h l rho := by
  simp only [ab_step] at hq
  split at hq
  · rename_i v st
    obtain ⟨wv, cst1, rfl, hv, hst1⟩ := G.2.2.1
    have hof : ∀ n : Nat, n < 100000 → (Int32.ofNat n).toInt = (n : Int) := fun n hn => Int32.toInt_ofNat_of_lt (by omega)
    have fin : ∀ (r n : Nat) (b : Int × Int), fl_step (17, a, nx) (pc, cls, .ref r :: cst1, h, fl_tot) = some (.inl (nx, cls, .int (Int32.ofNat n) :: cst1, h, fl_tot)) → n < 100000 → b.1 ≤ (n : Int) ∧ (n : Int) ≤ b.2 → wv = .ref r → l = [(nx, ls, (1, env.length, 0) :: st, env ++ [b], ca)] → Res mods (17, a, nx) pc cls (wv :: cst1) h l rho := by
      intro r n b hs hn hb hw hl
      subst hw; subst hl
      have e := hof n hn
      refine res_pure (t := [(n : Int)]) hT hs List.mem_cons_self rfl ?_
      exact ⟨ga_push G.1 (Or.inr hb), gl_ext G.2.1, gs_cons (gv_mk (by rw [ga_last G.1, e]; simp)) (gs_ext hst1), gc_ext G.2.2.2⟩
    split at hq
    · rename_i hv1
      obtain ⟨r, e1, rfl, e2⟩ := gv_ref hv1 hv
      split at hq
      · rename_i h0
        rw [← e2] at h0
        obtain ⟨q1, q2⟩ := ab_kd0 h0
        have hlen : fl_len h r = ((fl_st[r - 1000]?).getD []).length := by
          unfold fl_len
          rw [if_neg (by omega), if_neg (by omega)]
        have hb := st_lens (r - 1000) (by omega)
        refine fin r (fl_len h r) (1, 9) ?_ (by omega) (by simp only; omega) rfl (Option.some.inj hq).symm
        simp only [fl_step]
        exact if_pos (Or.inr ⟨q1, Nat.le_trans (Nat.le_of_lt q2) (by decide)⟩)
      · rename_i h0
        split at hq
        · rename_i code size tys hK
          split at hq
          · rename_i hc
            simp only [Bool.and_eq_true, decide_eq_true_eq] at hc
            rw [← e2] at hK h0
            obtain ⟨hr, hlay⟩ := ab_kdK (by omega) hK
            have hlen : fl_len h r = size := by
              unfold fl_len
              rw [if_pos (by have : fl_tot = 285 := rfl; omega), hlay]
            refine fin r (fl_len h r) ((size : Int), (size : Int)) ?_ (by omega) (by simp only; omega) rfl (Option.some.inj hq).symm
            simp only [fl_step]
            exact if_pos (Or.inl ⟨hr, by rw [hlay]; exact hc.1.1, by rw [hlay]; exact hc.1.2⟩)
          · cases hq
        · cases hq
    · cases hq
  · cases hq
theorem as25 (hq : ab_step mods (25, a, nx) (ls, st, env, ca) = some l) (G : Gm rho (ls, st, env, ca) cls cst h) (hT : TInv h) : Res mods (25, a, nx) pc cls cst h l rho := by
  simp only [ab_step] at hq
  split at hq
  · obtain ⟨wv, cst1, rfl, hv, hst1⟩ := G.2.2.1
    split at hq
    · rename_i h1
      cases hq
      refine res_pure (t := []) hT (by simp only [fl_step, if_pos (one_cat h1 hv)] <;> rfl) List.mem_cons_self rfl ?_
      rw [nil_app]
      exact ⟨G.1, G.2.1, gs_cons hv (gs_cons hv hst1), G.2.2.2⟩
    · cases hq
  · cases hq
theorem one_nl {v : AV} {w : Value} {cst : List Value} {h : Hp} {n : Nat} (h1 : ab_one v = true) (hv : gv rho v w) : ∀ x, w ≠ .long x := by
  intro x hx
  subst hx
  have := one_cat h1 hv
  cases this
theorem as26 (hq : ab_step mods (26, a, nx) (ls, st, env, ca) = some l) (G : Gm rho (ls, st, env, ca) cls cst h) (hT : TInv h) : Res mods (26, a, nx) pc cls cst h l rho := by
  simp only [ab_step] at hq
  split at hq
  · obtain ⟨wv, cst1, rfl, hv, hst1⟩ := G.2.2.1
    obtain ⟨ww, cst2, rfl, hw, hst2⟩ := hst1
    split at hq
    · rename_i h1
      cases hq
      rw [Bool.and_eq_true] at h1
      have c1 := one_cat h1.1 hv
      have c2 := one_cat h1.2 hw
      refine res_pure (t := []) (cls' := cls) (cst' := wv :: ww :: wv :: ww :: cst2) hT ?_ List.mem_cons_self rfl ?_
      · cases wv <;> first | (cases c1; done) | (simp only [fl_step, if_pos (⟨c1, c2⟩ : _ ∧ _)])
      · rw [nil_app]
        exact ⟨G.1, G.2.1, gs_cons hv (gs_cons hw (gs_cons hv (gs_cons hw hst2))), G.2.2.2⟩
    · cases hq
  · cases hq
theorem as27 (hq : ab_step mods (27, a, nx) (ls, st, env, ca) = some l) (G : Gm rho (ls, st, env, ca) cls cst h) (hT : TInv h) : Res mods (27, a, nx) pc cls cst h l rho := by
  simp only [ab_step] at hq
  split at hq
  · obtain ⟨wv, cst1, rfl, hv, hst1⟩ := G.2.2.1
    split at hq
    · rename_i h1
      cases hq
      refine res_pure (t := []) hT (by simp only [fl_step, if_pos (one_cat h1 hv)] <;> rfl) List.mem_cons_self rfl ?_
      rw [nil_app]
      exact ⟨G.1, G.2.1, hst1, G.2.2.2⟩
    · cases hq
  · cases hq
theorem gv_long {x : AV} {v : Value} (h5 : x.1 = 5) (h : gv rho x v) : ∃ y : Int64, v = .long y := by
  unfold gv at h
  rw [h5] at h
  exact h
theorem as28 (hq : ab_step mods (28, a, nx) (ls, st, env, ca) = some l) (G : Gm rho (ls, st, env, ca) cls cst h) (hT : TInv h) : Res mods (28, a, nx) pc cls cst h l rho := by
  simp only [ab_step] at hq
  split at hq
  · obtain ⟨wv, cst1, rfl, hv, hst1⟩ := G.2.2.1
    split at hq
    · rename_i h1
      cases hq
      obtain ⟨y, rfl⟩ := gv_long h1 hv
      refine res_pure (t := []) hT rfl List.mem_cons_self rfl ?_
      rw [nil_app]
      exact ⟨G.1, G.2.1, hst1, G.2.2.2⟩
    · cases hq
  · cases hq
theorem as32 (hq : ab_step mods (32, a, nx) (ls, st, env, ca) = some l) (G : Gm rho (ls, st, env, ca) cls cst h) (hT : TInv h) : Res mods (32, a, nx) pc cls cst h l rho := by
  simp only [ab_step] at hq
  split at hq
  · rename_i j
    split at hq
    · rename_i hj
      cases hq
      refine res_pure (t := [((1000 + j.toNat : Nat) : Int)]) hT rfl List.mem_cons_self rfl ?_
      refine ⟨ga_push G.1 (Or.inl (by decide)), gl_ext G.2.1, gs_cons ⟨1000 + j.toNat, ga_last G.1, rfl, ?_⟩ (gs_ext G.2.2.1), gc_ext G.2.2.2⟩
      unfold ab_kd
      rw [if_neg (by omega), if_pos (by omega)]
      rfl
    · cases hq
  · cases hq
/-- a reference or null that is known to be a reference -/
theorem nn_ok {i r : Nat} {b : AV} {v : Value} (hi : rho[i]? = some (r : Int)) (h : gv rho b v) : gv rho (ab_nn i b) v := by
  unfold ab_nn
  split
  · rename_i hc
    obtain ⟨h4, rfl⟩ := hc
    unfold gv at h
    rw [h4] at h
    obtain ⟨x, e1, e2⟩ := h
    have hx : x = (r : Int) := Option.some.inj (e1.symm.trans hi)
    rcases e2 with ⟨z, -⟩ | ⟨r', z1, z2, z3⟩
    · omega
    · exact ⟨r', by rw [e1, z1], z2, z3⟩
  · exact h
theorem nn_gs {i r : Nat} (hi : rho[i]? = some (r : Int)) : ∀ {s : List AV} {vs : List Value}, gs rho s vs → gs rho (s.map (ab_nn i)) vs
  | [], _, h => h
  | _ :: _, _, ⟨v, w, h1, h2, h3⟩ => ⟨v, w, h1, nn_ok hi h2, nn_gs hi h3⟩
theorem nn_tag {i : Nat} {b : AV} : ((ab_nn i b).1 = 0 ↔ b.1 = 0) ∧ ((ab_nn i b).1 = 1 ↔ b.1 = 1) := by
  unfold ab_nn
  split
  · rename_i hc
    rw [hc.1]
    exact ⟨⟨fun z => (by cases z), fun z => (by cases z)⟩, ⟨fun z => (by cases z), fun z => (by cases z)⟩⟩
  · exact ⟨Iff.rfl, Iff.rfl⟩
theorem nn_gl {i r : Nat} (hi : rho[i]? = some (r : Int)) (g : gl rho ls cls) : gl rho (ls.map (ab_nn i)) cls := by
  refine ⟨by simp [g.1], fun k b hk => ?_⟩
  rw [List.getElem?_map] at hk
  obtain ⟨c, h1, rfl⟩ := Option.map_eq_some_iff.mp hk
  refine ⟨fun z => (g.2 k c h1).1 (nn_tag.1.mp z), fun z => ?_⟩
  obtain ⟨v, e1, e2⟩ := (g.2 k c h1).2 (fun q => z (nn_tag.1.mpr q))
  exact ⟨v, e1, nn_ok hi e2⟩
theorem nn_gc {i r : Nat} (hi : rho[i]? = some (r : Int)) (g : gc rho h ca) : gc rho h (ca.map (fun e => (e.1, e.2.1, e.2.2.1, ab_nn i e.2.2.2))) := by
  intro e he
  obtain ⟨d, hd, rfl⟩ := List.mem_map.mp he
  obtain ⟨r', h1, h2, h4, h3⟩ := g d hd
  refine ⟨r', h1, h2, h4, ?_⟩
  have : ab_cv h r' d.2.2.1 (ab_nn i d.2.2.2) = ab_cv h r' d.2.2.1 d.2.2.2 := by
    unfold ab_cv
    by_cases z : d.2.2.2.1 = 1
    · rw [if_pos z, if_pos (nn_tag.2.mpr z)]
    · rw [if_neg z, if_neg (fun q => z (nn_tag.2.mp q))]
  simp only
  rw [this]
  exact nn_ok hi h3
theorem as33 (hq : ab_step mods (33, a, nx) (ls, st, env, ca) = some l) (G : Gm rho (ls, st, env, ca) cls cst h) (hT : TInv h) : Res mods (33, a, nx) pc cls cst h l rho := by
  simp only [ab_step] at hq
  split at hq
  · rename_i t v st
    obtain ⟨wv, cst1, rfl, hv, hst1⟩ := G.2.2.1
    split at hq
    · rename_i h1
      cases hq
      obtain ⟨r, e1, rfl, e2⟩ := gv_ref h1 hv
      refine res_pure (t := []) hT rfl List.mem_cons_self rfl ?_
      rw [nil_app]
      exact ⟨G.1, G.2.1, hst1, G.2.2.2⟩
    · split at hq
      · rename_i h1
        cases hq
        unfold gv at hv
        rw [h1] at hv
        subst hv
        refine res_pure (t := []) hT rfl List.mem_cons_self rfl ?_
        rw [nil_app]
        exact ⟨G.1, G.2.1, hst1, G.2.2.2⟩
      · split at hq
        · rename_i h1
          cases hq
          unfold gv at hv
          rw [h1] at hv
          obtain ⟨x, e1, e2⟩ := hv
          rcases e2 with ⟨-, rfl⟩ | ⟨r, rfl, rfl, e3⟩
          · refine res_pure (t := []) hT rfl List.mem_cons_self rfl ?_
            rw [nil_app]
            exact ⟨G.1, G.2.1, hst1, G.2.2.2⟩
          · refine res_pure (t := []) hT rfl (List.mem_cons_of_mem _ List.mem_cons_self) rfl ?_
            rw [nil_app]
            exact ⟨G.1, nn_gl e1 G.2.1, nn_gs e1 hst1, nn_gc e1 G.2.2.2⟩
        · cases hq
  · cases hq
theorem as34 (hq : ab_step mods (34, a, nx) (ls, st, env, ca) = some l) (G : Gm rho (ls, st, env, ca) cls cst h) (hT : TInv h) : Res mods (34, a, nx) pc cls cst h l rho := by
  simp only [ab_step] at hq
  split at hq
  · rename_i t v st
    obtain ⟨wv, cst1, rfl, hv, hst1⟩ := G.2.2.1
    split at hq
    · rename_i h1
      cases hq
      obtain ⟨r, e1, rfl, e2⟩ := gv_ref h1 hv
      refine res_pure (t := []) hT rfl List.mem_cons_self rfl ?_
      rw [nil_app]
      exact ⟨G.1, G.2.1, hst1, G.2.2.2⟩
    · split at hq
      · rename_i h1
        cases hq
        unfold gv at hv
        rw [h1] at hv
        subst hv
        refine res_pure (t := []) hT rfl List.mem_cons_self rfl ?_
        rw [nil_app]
        exact ⟨G.1, G.2.1, hst1, G.2.2.2⟩
      · split at hq
        · rename_i h1
          cases hq
          unfold gv at hv
          rw [h1] at hv
          obtain ⟨x, e1, e2⟩ := hv
          rcases e2 with ⟨-, rfl⟩ | ⟨r, rfl, rfl, e3⟩
          · refine res_pure (t := []) hT rfl List.mem_cons_self rfl ?_
            rw [nil_app]
            exact ⟨G.1, G.2.1, hst1, G.2.2.2⟩
          · refine res_pure (t := []) hT rfl (List.mem_cons_of_mem _ List.mem_cons_self) rfl ?_
            rw [nil_app]
            exact ⟨G.1, nn_gl e1 G.2.1, nn_gs e1 hst1, nn_gc e1 G.2.2.2⟩
        · cases hq
  · cases hq
theorem as35 (hq : ab_step mods (35, a, nx) (ls, st, env, ca) = some l) (G : Gm rho (ls, st, env, ca) cls cst h) (hT : TInv h) : Res mods (35, a, nx) pc cls cst h l rho := by
  cases hq
  refine res_pure (t := []) hT rfl List.mem_cons_self rfl ?_
  rw [nil_app]
  exact ⟨G.1, G.2.1, gs_cons rfl G.2.2.1, G.2.2.2⟩
theorem as36 (hq : ab_step mods (36, a, nx) (ls, st, env, ca) = some l) (G : Gm rho (ls, st, env, ca) cls cst h) (hT : TInv h) : Res mods (36, a, nx) pc cls cst h l rho := by
  simp only [ab_step] at hq
  split at hq
  · obtain ⟨wv, cst1, rfl, hv, hst1⟩ := G.2.2.1
    split at hq
    · rename_i h1
      cases hq
      obtain ⟨x, y, -, rfl, -⟩ := gv_int h1 hv
      refine res_pure (t := []) hT rfl List.mem_cons_self rfl ?_
      rw [nil_app]
      exact ⟨G.1, G.2.1, gs_cons ⟨_, rfl⟩ hst1, G.2.2.2⟩
    · cases hq
  · cases hq
theorem as37 (hq : ab_step mods (37, a, nx) (ls, st, env, ca) = some l) (G : Gm rho (ls, st, env, ca) cls cst h) (hT : TInv h) : Res mods (37, a, nx) pc cls cst h l rho := by
  simp only [ab_step] at hq
  split at hq
  · obtain ⟨wv, cst1, rfl, hv, hst1⟩ := G.2.2.1
    obtain ⟨ww, cst2, rfl, hw, hst2⟩ := hst1
    split at hq
    · rename_i h1
      cases hq
      obtain ⟨x, rfl⟩ := gv_long h1.1 hv
      obtain ⟨y, rfl⟩ := gv_long h1.2 hw
      refine res_pure (t := []) hT rfl List.mem_cons_self rfl ?_
      rw [nil_app]
      exact ⟨G.1, G.2.1, gs_cons ⟨_, rfl⟩ hst2, G.2.2.2⟩
    · cases hq
  · cases hq
theorem as38 (hq : ab_step mods (38, a, nx) (ls, st, env, ca) = some l) (G : Gm rho (ls, st, env, ca) cls cst h) (hT : TInv h) : Res mods (38, a, nx) pc cls cst h l rho := by
  simp only [ab_step] at hq
  split at hq
  · obtain ⟨wv, cst1, rfl, hv, hst1⟩ := G.2.2.1
    obtain ⟨ww, cst2, rfl, hw, hst2⟩ := hst1
    split at hq
    · rename_i h1
      cases hq
      obtain ⟨x, rfl⟩ := gv_long h1.1 hv
      obtain ⟨y, rfl⟩ := gv_long h1.2 hw
      refine res_pure (t := []) hT rfl List.mem_cons_self rfl ?_
      rw [nil_app]
      exact ⟨G.1, G.2.1, gs_cons ⟨_, rfl⟩ hst2, G.2.2.2⟩
    · cases hq
  · cases hq
theorem as39 (hq : ab_step mods (39, a, nx) (ls, st, env, ca) = some l) (G : Gm rho (ls, st, env, ca) cls cst h) (hT : TInv h) : Res mods (39, a, nx) pc cls cst h l rho := by
  simp only [ab_step] at hq
  split at hq
  · cases hq
    refine res_pure (t := []) hT rfl List.mem_cons_self rfl ?_
    rw [nil_app]
    exact ⟨G.1, G.2.1, gs_cons ⟨_, rfl⟩ G.2.2.1, G.2.2.2⟩
  · cases hq
theorem as40 (hq : ab_step mods (40, a, nx) (ls, st, env, ca) = some l) (G : Gm rho (ls, st, env, ca) cls cst h) (hT : TInv h) : Res mods (40, a, nx) pc cls cst h l rho := by
  simp only [ab_step] at hq
  split at hq
  · rename_i lo df ts x st
    obtain ⟨wv, cst1, rfl, hv, hst1⟩ := G.2.2.1
    split at hq
    · rename_i b hb
      cases hq
      obtain ⟨y, k1, rfl, k2, k3⟩ := bnd_ok G.1 hv hb
      have dfl : fl_step (40, lo :: df :: ts, nx) (pc, cls, .int y :: cst1, h, fl_tot) = some (.inl (df.toNat, cls, cst1, h, fl_tot)) → Res mods (40, lo :: df :: ts, nx) pc cls (.int y :: cst1) h ((df.toNat, ls, st, env, ca) :: (ts.zipIdx.filterMap (fun e => if b.1 ≤ lo + (e.2 : Int) ∧ lo + (e.2 : Int) ≤ b.2 then some (e.1.toNat, ls, st, ab_set env x (lo + (e.2 : Int), lo + (e.2 : Int)), ca) else none))) rho := by
        intro hs
        refine res_pure (t := []) hT hs List.mem_cons_self rfl ?_
        rw [nil_app]
        exact ⟨G.1, G.2.1, hst1, G.2.2.2⟩
      by_cases h1 : y.toInt < lo
      · exact dfl (by simp only [fl_step, if_pos h1])
      · cases ht : ts[(y.toInt - lo).toNat]? with
        | none => exact dfl (by simp only [fl_step, if_neg h1, ht])
        | some t =>
          have hidx : lo + (((y.toInt - lo).toNat : Nat) : Int) = y.toInt := by omega
          refine res_pure (t := []) (e := (t.toNat, ls, st, ab_set env x (lo + (((y.toInt - lo).toNat : Nat) : Int), lo + (((y.toInt - lo).toNat : Nat) : Int)), ca)) hT (by simp only [fl_step, if_neg h1, ht] <;> rfl) (List.mem_cons_of_mem _ (List.mem_filterMap.mpr ⟨(t, (y.toInt - lo).toNat), ?_, ?_⟩)) rfl ?_
          · exact List.mem_zipIdx_iff_getElem?.mpr ht
          · simp only
            rw [if_pos (by omega)]
          · rw [nil_app]
            exact ⟨ga_setv G.1 k3 (by simp only; omega), G.2.1, hst1, G.2.2.2⟩
    · cases hq
  · cases hq
theorem cat_ok : ∀ {s : List AV} {vs : List Value}, gs rho s vs → fl_cat vs ≤ ab_cat s
  | [], _, h => by
    have : _ = [] := h
    subst this
    exact Nat.zero_le _
  | b :: s, _, ⟨v, w, h1, h2, h3⟩ => by
    subst h1
    have ih := cat_ok h3
    have hc : v.category ≤ if b.1 = 5 then 2 else 1 := by
      unfold gv at h2
      split at h2
      · obtain ⟨_, _, _, rfl, _⟩ := h2; split <;> simp [Value.category]
      · obtain ⟨_, _, rfl, _⟩ := h2; split <;> simp [Value.category]
      · subst h2; split <;> simp [Value.category]
      · obtain ⟨_, _, q⟩ := h2
        rcases q with ⟨_, rfl⟩ | ⟨_, _, rfl, _⟩ <;> (split <;> simp [Value.category])
      · rename_i h5
        obtain ⟨_, rfl⟩ := h2
        rw [if_pos h5]
        simp [Value.category]
      · rw [h2]; split <;> omega
    show ((v :: w).map _).sum ≤ ((b :: s).map _).sum
    rw [List.map_cons, List.sum_cons, List.map_cons, List.sum_cons]
    have : (w.map fun v => v.category).sum ≤ (s.map fun a => if a.1 = 5 then 2 else 1).sum := ih
    omega
theorem as41 (hq : ab_step mods (41, a, nx) (ls, st, env, ca) = some l) (G : Gm rho (ls, st, env, ca) cls cst h) (hT : TInv h) : Res mods (41, a, nx) pc cls cst h l rho := by
  simp only [ab_step] at hq
  split at hq
  · rename_i k dp b sp o st
    obtain ⟨w1, c1, rfl, g1, s1⟩ := G.2.2.1
    obtain ⟨w2, c2, rfl, g2, s2⟩ := s1
    obtain ⟨w3, c3, rfl, g3, s3⟩ := s2
    obtain ⟨w4, c4, rfl, g4, s4⟩ := s3
    obtain ⟨w5, c5, rfl, g5, s5⟩ := s4
    split at hq
    · rename_i hc
      obtain ⟨hb1, ho1, hmod, hk1, hk2, hcat⟩ := hc
      obtain ⟨rb, e1, rfl, e2⟩ := gv_ref hb1 g3
      obtain ⟨ro, d1, rfl, d2⟩ := gv_ref ho1 g5
      split at hq
      · rename_i code1 n1 t1 code2 n2 t2 bk bd bs hK1 hK2 hbk hbd hbs
        split at hq
        · rename_i hz
          cases hq
          simp only [Bool.and_eq_true, beq_iff_eq, decide_eq_true_eq] at hz
          obtain ⟨⟨⟨⟨⟨⟨⟨⟨⟨⟨z1, z2⟩, z3⟩, z4⟩, z5⟩, z6⟩, z7⟩, z8⟩, z9⟩, z10⟩, z11⟩ := hz
          rw [← e2] at hmod hk1 hK1
          rw [← d2] at hk2 hK2
          obtain ⟨hr1, hl1⟩ := ab_kdK hk1 hK1
          obtain ⟨hr2, hl2⟩ := ab_kdK hk2 hK2
          rw [z1] at hl1
          rw [z2] at hl2
          obtain ⟨yk, -, rfl, yk2, -⟩ := bnd_ok G.1 g1 hbk
          obtain ⟨yd, -, rfl, yd2, -⟩ := bnd_ok G.1 g2 hbd
          obtain ⟨ys, -, rfl, ys2, -⟩ := bnd_ok G.1 g4 hbs
          have nn : ∀ y : Int32, 0 ≤ y.toInt → ¬ y < 0 := fun y hy z => by have := Int32.lt_iff_toInt_lt.mp z; rw [Int32.toInt_zero] at this; omega
          have tn : ∀ y : Int32, y.toNatClampNeg = y.toInt.toNat := fun y => rfl
          have hsrc : ys.toNatClampNeg + yk.toNatClampNeg ≤ n2 := by rw [tn, tn]; omega
          have hdst : yd.toNatClampNeg + yk.toNatClampNeg ≤ n1 := by rw [tn, tn]; omega
          refine ⟨(nx, cls, c5, fl_copy h ro ys.toNatClampNeg rb yd.toNatClampNeg yk.toNatClampNeg, fl_tot), _, [], ?_, List.mem_cons_self, rfl, ?_, ?_, rfl, ?_⟩
          · simp only [fl_step]
            exact if_pos ⟨trivial, hr2, hr1, by rw [hl2], by rw [hl1], nn _ (by omega), nn _ (by omega), nn _ (by omega), by rw [hl2]; exact hsrc, by rw [hl1]; exact hdst, Nat.le_trans (cat_ok s5) hcat⟩
          · rw [nil_app]
            refine ⟨G.1, G.2.1, s5, fun e he => ?_⟩
            obtain ⟨r', q1, q2, q4, q3⟩ := G.2.2.2 e he
            refine ⟨r', q1, q2, q4, ?_⟩
            have hne : r' ≠ rb := by
              rintro rfl
              rw [hl1] at q4
              simp only at q4
              omega
            have : ab_cv (fl_copy h ro ys.toNatClampNeg rb yd.toNatClampNeg yk.toNatClampNeg) r' e.2.2.1 e.2.2.2 = ab_cv h r' e.2.2.1 e.2.2.2 := by
              unfold ab_cv fl_copy
              simp only [if_neg hne]
            rw [this]
            exact q3
          · intro r code size tys j t q1 q2 q3 q4
            have old := hT r code size tys j t q1 q2 q3 q4
            by_cases hr : r = rb
            · subst hr
              rw [hK1] at q2
              cases q2
              rw [if_neg (by omega)] at q4
              cases q4
              unfold slotOK at old ⊢
              rw [z8] at old ⊢
              simp only at old ⊢
              simp only [fl_copy, if_true]
              split
              · rename_i hj
                have hin : ys.toNatClampNeg + (j - yd.toNatClampNeg) < n2 := by omega
                have src := hT ro code2 n2 [t2] (ys.toNatClampNeg + (j - yd.toNatClampNeg)) t2 hk2 hK2 hin (by rw [if_neg (by omega)]; rfl)
                unfold slotOK at src
                rw [z9] at src
                simp only at src
                omega
              · exact old
            · exact slot_congr (h := h) (by simp only [fl_copy, if_neg hr]) rfl old
          · intro r hr
            have : r ≠ rb := by rintro rfl; exact hr hmod
            exact ⟨by funext j; simp only [fl_copy, if_neg this], rfl⟩
        · cases hq
      · cases hq
    · cases hq
  · cases hq
end ABS
end
section
/-! CONTRACTS, and the checker's walk over a method -/
/-- a contract: method, depth, types of the arguments, type of the answer (sort 9: none), kinds that may be written, what fields of arguments hold before, what holds behind if the answer is neither 0 nor null (argument, slot or 9999 for the argument itself, bounds) -/
abbrev CT : Type := Nat × Nat × List TY × TY × List Nat × List (Nat × Nat × Int × Int) × List (Nat × Nat × Int × Int)
/-- a loop's head: types of locals and stack, and what falls: (0, _, B): B; (1, i, B): B less local i; (2, i, B): local i less B -/
abbrev HD : Type := List TY × List TY × List (Nat × Nat × Int)
/-- fresh values of given types -/
def ab_mk (env : List (Int × Int)) : List TY → List AV × List (Int × Int)
  | [] => ([], env)
  | t :: ts =>
    if t.1 = 1 then (match ab_mk (env ++ [(t.2.1, t.2.2)]) ts with | (l, e) => ((1, env.length, 0) :: l, e))
    else if t.1 = 2 then (match ab_mk (env ++ [(1, 0)]) ts with | (l, e) => ((2, env.length, t.2.1) :: l, e))
    else if t.1 = 4 then (match ab_mk (env ++ [(1, 0)]) ts with | (l, e) => ((4, env.length, t.2.1) :: l, e))
    else if t.1 = 5 then (match ab_mk env ts with | (l, e) => ((5, 0, 0) :: l, e))
    else (match ab_mk env ts with | (l, e) => ((0, 0, 0) :: l, e))
/-- the locals out of the arguments: a long takes two -/
def ab_loc : List AV → List AV
  | [] => []
  | a :: l => if a.1 = 5 then a :: (0, 0, 0) :: ab_loc l else a :: ab_loc l
def ab_io (k : Nat) : Bool := decide (1 ≤ k) && (match ab_K[k]? with
  | some (code, _, _) => decide (code < 20)
  | none => false)
def ab_pre (avs : List AV) (env : List (Int × Int)) : List (Nat × Nat × Int × Int) → List (Nat × Nat × Nat × AV) × List (Int × Int)
  | [] => ([], env)
  | p :: ps => match avs[p.1]? with
    | some a => if a.1 = 2 ∧ ab_io a.2.2.toNat = true then (match ab_pre avs (env ++ [(p.2.2.1, p.2.2.2)]) ps with | (l, e) => ((a.2.1, a.2.2.toNat, p.2.1, (1, env.length, 0)) :: l, e)) else ab_pre avs env ps
    | none => ab_pre avs env ps
def ab_entry (c : CT) (nL : Nat) : List AV × AS := match ab_mk [(0, 0)] c.2.2.1 with
  | (avs, env) => match ab_pre avs env c.2.2.2.2.2.1 with
    | (ca, env') => (avs, ab_loc avs ++ List.replicate (nL - (ab_loc avs).length) (0, 0, 0), [], env', ca)
def ab_head (hd : HD) : AS := match ab_mk [(0, 0)] hd.1 with
  | (ls, env) => match ab_mk env hd.2.1 with
    | (st, env') => (ls, st, env', [])
def ab_fitl (env : List (Int × Int)) : List AV → List TY → Bool
  | [], [] => true
  | a :: l, t :: ts => ab_fits env a t && ab_fitl env l ts
  | _, _ => false
/-- a measure's parts, by values -/
def ab_ms (ls : List AV) (m : List (Nat × Nat × Int)) : List (Nat × AV × Int) := m.map (fun e => (e.1, (ls[e.2.1]?).getD (0, 0, 0), e.2.2))
def ab_mb (env : List (Int × Int)) (e : Nat × AV × Int) : Option (Int × Int) := match e.1 with
  | 0 => some (e.2.2, e.2.2)
  | 1 => (match ab_bnd env e.2.1 with
    | some b => some (e.2.2 - b.2, e.2.2 - b.1)
    | none => none)
  | 2 => (match ab_bnd env e.2.1 with
    | some b => some (b.1 - e.2.2, b.2 - e.2.2)
    | none => none)
  | _ => none
/-- every part is a small natural number -/
def ab_mr (env : List (Int × Int)) (m : List (Nat × AV × Int)) : Bool := m.all fun e => match ab_mb env e with
  | some b => decide (0 ≤ b.1) && decide (b.2 < 8589934592)
  | none => false
/-- the first measure is below the second -/
def ab_lt (env : List (Int × Int)) : List (Nat × AV × Int) → List (Nat × AV × Int) → Bool
  | x :: xs, y :: ys =>
    if x.1 = y.1 ∧ x.2.2 = y.2.2 ∧ (x.1 = 0 ∨ (x.1 = 1 ∨ x.1 = 2) ∧ x.2.1.1 = 1 ∧ y.2.1.1 = 1 ∧ x.2.1.2.1 = y.2.1.2.1 ∧ x.2.1.2.2 = y.2.1.2.2) then ab_lt env xs ys
    else if x.1 = y.1 ∧ x.2.2 = y.2.2 ∧ x.1 = 1 ∧ x.2.1.1 = 1 ∧ y.2.1.1 = 1 ∧ x.2.1.2.1 = y.2.1.2.1 ∧ y.2.1.2.2 < x.2.1.2.2 then true
    else if x.1 = y.1 ∧ x.2.2 = y.2.2 ∧ x.1 = 2 ∧ x.2.1.1 = 1 ∧ y.2.1.1 = 1 ∧ x.2.1.2.1 = y.2.1.2.1 ∧ x.2.1.2.2 < y.2.1.2.2 then true
    else match ab_mb env x, ab_mb env y with
      | some bx, some by' => decide (bx.2 < by'.1)
      | _, _ => false
  | _, _ => false
def ab_find (ca : List (Nat × Nat × Nat × AV)) (i k : Nat) : Option AV := (ca.find? (fun e => e.1 == i && e.2.2.1 == k)).map (fun e => e.2.2.2)
/-- what a contract says of arguments and their fields holds -/
def ab_holds (avs : List AV) (env : List (Int × Int)) (ca : List (Nat × Nat × Nat × AV)) (p : Nat × Nat × Int × Int) : Bool := match avs[p.1]? with
  | some a => if p.2.1 = 9999 then (match ab_bnd env a with
      | some b => decide (p.2.2.1 ≤ b.1) && decide (b.2 ≤ p.2.2.2)
      | none => false)
    else if a.1 = 2 then (match ab_find ca a.2.1 p.2.1 with
      | some x => (match ab_bnd env x with
        | some b => decide (p.2.2.1 ≤ b.1) && decide (b.2 ≤ p.2.2.2)
        | none => false)
      | none => false) else false
  | none => false
/-- the end of a method -/
def ab_ret (c : CT) (avs : List AV) (q : Smi) (s : AS) : Bool := match q, s with
  | (op, a, _), (_, st, env, ca) => match op with
    | 21 => c.2.2.2.1.1 == 9 && c.2.2.2.2.2.2.isEmpty && st.isEmpty
    | 22 => match a, st with
      | [o], [x] => c.2.2.2.1.1 == 1 && ab_fits env x c.2.2.2.1 && (o == 0 || (decide (0 ≤ c.2.2.2.1.2.1) && decide (c.2.2.2.1.2.2 ≤ 1))) && (c.2.2.2.2.2.2.all (ab_holds avs env ca) || ab_bnd env x == some (0, 0))
      | _, _ => false
    | 23 => match st with
      | [x] => c.2.2.2.1.1 == 5 && x.1 == 5 && c.2.2.2.2.2.2.isEmpty
      | _ => false
    | 24 => match st with
      | [x] => (c.2.2.2.1.1 == 2 || c.2.2.2.1.1 == 4) && ab_fits env x c.2.2.2.1 && (c.2.2.2.2.2.2.all (ab_holds avs env ca) || x.1 == 3)
      | _ => false
    | _ => false
/-- what is known behind a call whose answer is neither 0 nor null (an empty list: there is no such answer) -/
def ab_post (avs : List AV) (env : List (Int × Int)) (ca : List (Nat × Nat × Nat × AV)) : List (Nat × Nat × Int × Int) → Option (List (List (Int × Int) × List (Nat × Nat × Nat × AV)))
  | [] => some [(env, ca)]
  | p :: ps => match avs[p.1]? with
    | some a => if p.2.1 = 9999 then (match ab_bnd env a with
        | some b => if ab_min b.2 p.2.2.2 < ab_max b.1 p.2.2.1 then some [] else ab_post avs (ab_set env a (ab_max b.1 p.2.2.1, ab_min b.2 p.2.2.2)) ca ps
        | none => none)
      else if a.1 = 2 ∧ 1 ≤ a.2.2.toNat then (match ab_K[a.2.2.toNat]? with
        | some (code, _, _) => if code < 20 then ab_post avs (env ++ [(p.2.2.1, p.2.2.2)]) ((a.2.1, a.2.2.toNat, p.2.1, (1, env.length, 0)) :: ca) ps else none
        | none => none) else none
    | none => none
/-- the receiver -/
def ab_recv (op m : Nat) (avs : List AV) : Bool := op == 19 || (match avs with
  | r :: _ => r.1 == 2 && (op == 20 || (decide (1 ≤ r.2.2.toNat) && (match ab_K[r.2.2.toNat]?, sm_ms[m]? with
    | some (code, _, _), some y => code == y.2.2.2.2
    | _, _ => false)))
  | [] => false)
def ab_callok (c cc : CT) (op m : Nat) (avs rest : List AV) (env : List (Int × Int)) (ca : List (Nat × Nat × Nat × AV)) : Bool :=
  (op == 18 || op == 19 || op == 20) && cc.1 == m && decide (cc.2.1 + 1 ≤ c.2.1) && ab_fitl env avs cc.2.2.1 && decide (ab_cat rest ≤ 8) && cc.2.2.2.2.1.all (fun x => decide (x ∈ c.2.2.2.2.1)) && cc.2.2.2.2.2.1.all (fun p => p.2.1 != 9999 && ab_holds avs env ca p) && ab_recv op m avs
/-- the states behind a call -/
def ab_after (cc : CT) (nx : Nat) (ls avs rest : List AV) (env : List (Int × Int)) (ca : List (Nat × Nat × Nat × AV)) : Option (List (Nat × AS)) :=
  if cc.2.2.2.1.1 = 9 then some [(nx, ls, rest, env, ca)]
  else if cc.2.2.2.2.2.2.isEmpty = true then (match ab_put env rest cc.2.2.2.1 with
    | some (st', env', _) => some [(nx, ls, st', env', ca)]
    | none => none)
  else if cc.2.2.2.1.1 = 1 then
    (match ab_post avs (env ++ [cc.2.2.2.1.2]) ca cc.2.2.2.2.2.2 with
      | some l => some ((nx, ls, (1, env.length, 0) :: rest, env ++ [(0, 0)], ca) :: l.map (fun e => (nx, ls, (1, env.length, 0) :: rest, e.1, e.2)))
      | none => none)
  else if cc.2.2.2.1.1 = 4 then
    (match ab_post avs (env ++ [(1, 0)]) ca cc.2.2.2.2.2.2 with
      | some l => some ((nx, ls, (3, 0, 0) :: rest, env, ca) :: l.map (fun e => (nx, ls, (2, env.length, cc.2.2.2.1.2.1) :: rest, e.1, e.2)))
      | none => none)
  else none
/-- a call, by the callee's contract -/
def ab_call (c cc : CT) (q : Smi) (s : AS) : Option (List (Nat × AS)) := match q, s with
  | (op, a, nx), (ls, st, env, ca) => match a with
    | [m, k] =>
      if k.toNat + (if op = 19 then 0 else 1) ≤ st.length then
        (if ab_callok c cc op m.toNat (st.take (k.toNat + (if op = 19 then 0 else 1))).reverse (st.drop (k.toNat + (if op = 19 then 0 else 1))) env ca = true then
          ab_after cc nx ls (st.take (k.toNat + (if op = 19 then 0 else 1))).reverse (st.drop (k.toNat + (if op = 19 then 0 else 1))) env (ca.filter (fun e => decide (e.2.1 ∉ cc.2.2.2.2.1)))
        else none)
      else none
    | _ => none
/-- the walk: from a place and a state, over all paths, to heads of loops and ends -/
def ab_go (cts : List CT) (c : CT) (hds : List (Nat × HD)) (cm : List (Nat × Nat)) (lim : Nat) (m0 : Option (List (Nat × AV × Int))) (avs : List AV) : Nat → Bool → Nat → AS → Bool
  | 0, _, _, _ => false
  | f + 1, first, pc, s => match (if first then none else hds.lookup pc) with
    | some hd => ab_fitl s.2.2.1 s.1 hd.1 && ab_fitl s.2.2.1 s.2.1 hd.2.1 && (match m0 with
      | none => true
      | some m => ab_lt s.2.2.1 (ab_ms s.1 hd.2.2) m && decide (hd.2.2.length = m.length))
    | none => match fl_code c.1 pc with
      | none => false
      | some q => if 21 ≤ q.1 ∧ q.1 ≤ 24 then (if m0.isNone || c.2.2.2.2.2.2.isEmpty then ab_ret c avs q s else false)
        else if 18 ≤ q.1 ∧ q.1 ≤ 20 then (match cm.lookup pc with
          | some j => if j < lim then (match cts[j]? with
            | some cc => (match ab_call c cc q s with
              | some l => l.all (fun e => ab_go cts c hds cm lim m0 avs f false e.1 e.2)
              | none => false)
            | none => false) else false
          | none => false)
        else (match ab_step c.2.2.2.2.1 q s with
          | some l => l.all (fun e => ab_go cts c hds cm lim m0 avs f false e.1 e.2)
          | none => false)
/-- the whole check of contract number i: its entry, and each head of a loop -/
def ab_chk (cts : List CT) (i : Nat) (hds : List (Nat × HD)) (cm : List (Nat × Nat)) (fuel : Nat) : Bool := match cts[i]? with
  | none => false
  | some c => match sm_ms[c.1]? with
    | none => false
    | some y => decide ((ab_loc (ab_entry c y.2.2.1).1).length ≤ y.2.2.1) && ab_go cts c hds cm i none (ab_entry c y.2.2.1).1 fuel false 0 (ab_entry c y.2.2.1).2 &&
      hds.all (fun e => (e.2.1.length == y.2.2.1) && ab_mr (ab_head e.2).2.2.1 (ab_ms (ab_head e.2).1 e.2.2.2) && ab_go cts c hds cm i (some (ab_ms (ab_head e.2).1 e.2.2.2)) [] fuel true e.1 (ab_head e.2))
end
section
/-! a contract that the checker accepts holds -/
def aOK : List TY → List Value → Prop
  | [], vs => vs = []
  | t :: ts, vs => ∃ v w, vs = v :: w ∧ valOK t v ∧ aOK ts w
def pOK (as : List Value) (h : Hp) (p : Nat × Nat × Int × Int) : Prop := ∃ r : Nat, as[p.1]? = some (.ref r) ∧ p.2.2.1 ≤ (h.1 r p.2.1).toInt ∧ (h.1 r p.2.1).toInt ≤ p.2.2.2
def qOK (as : List Value) (h : Hp) (p : Nat × Nat × Int × Int) : Prop := if p.2.1 = 9999 then ∃ x : Int32, as[p.1]? = some (.int x) ∧ p.2.2.1 ≤ x.toInt ∧ x.toInt ≤ p.2.2.2 else pOK as h p
def truthy (v : Option Value) : Prop := (∃ x : Int32, v = some (.int x) ∧ x ≠ 0) ∨ ∃ r : Nat, v = some (.ref r)
def retOK (t : TY) (v : Option Value) : Prop := if t.1 = 9 then v = none else ∃ w, v = some w ∧ valOK t w
/-- what a run of a method comes to -/
def Gd (c : CT) (as : List Value) (h0 : Hp) (pc : Nat) (ls : List (Option Value)) (st : List Value) (h : Hp) : Prop :=
  ∃ (v : Option Value) (h' : Hp), Ev c.2.1 c.1 (pc, ls, st, h, fl_tot) (v, h', fl_tot) ∧ TInv h' ∧ retOK c.2.2.2.1 v ∧ Fr c.2.2.2.2.1 h0 h' ∧ (truthy v → ∀ p ∈ c.2.2.2.2.2.2, qOK as h' p)
def CV (c : CT) : Prop := ∀ (as : List Value) (h : Hp), TInv h → aOK c.2.2.1 as → (∀ p ∈ c.2.2.2.2.2.1, pOK as h p) → ∃ y, sm_ms[c.1]? = some y ∧ (fl_args as).length ≤ y.2.2.1 ∧ Gd c as h 0 (fl_enter y.2.2.1 as) [] h
theorem Fr.trans {mods : List Nat} {h1 h2 h3 : Hp} (a : Fr mods h1 h2) (b : Fr mods h2 h3) : Fr mods h1 h3 := fun r hr => ⟨(b r hr).1.trans (a r hr).1, (b r hr).2.trans (a r hr).2⟩
theorem Fr.wide {m1 m2 : List Nat} {h1 h2 : Hp} (hs : ∀ x ∈ m1, x ∈ m2) (a : Fr m1 h1 h2) : Fr m2 h1 h2 := fun r hr => a r (fun z => hr (hs _ z))
theorem step_all {mods : List Nat} {q : Smi} {pc : Nat} {ls st : List AV} {env : List (Int × Int)} {ca : List (Nat × Nat × Nat × AV)} {l : List (Nat × AS)} {rho : List Int} {cls : List (Option Value)} {cst : List Value} {h : Hp} (hq : ab_step mods q (ls, st, env, ca) = some l) (G : Gm rho (ls, st, env, ca) cls cst h) (hT : TInv h) : Res mods q pc cls cst h l rho := by
  obtain ⟨op, a, nx⟩ := q
  have hq0 := hq
  unfold ab_step at hq
  simp only at hq
  split at hq
  · exact as1 hq0 G hT
  · exact as2 hq0 G hT
  · exact as3 hq0 G hT
  · exact as4 hq0 G hT
  · exact as5 hq0 G hT
  · exact as6 hq0 G hT
  · exact as7 hq0 G hT
  · exact as8 hq0 G hT
  · exact as9 hq0 G hT
  · exact as10 hq0 G hT
  · exact as11 hq0 G hT
  · exact as12 hq0 G hT
  · exact as13 hq0 G hT
  · exact as14 hq0 G hT
  · exact as15 hq0 G hT
  · exact as16 hq0 G hT
  · exact as17 hq0 G hT
  · exact as25 hq0 G hT
  · exact as26 hq0 G hT
  · exact as27 hq0 G hT
  · exact as28 hq0 G hT
  · exact as32 hq0 G hT
  · exact as33 hq0 G hT
  · exact as34 hq0 G hT
  · exact as35 hq0 G hT
  · exact as36 hq0 G hT
  · exact as37 hq0 G hT
  · exact as38 hq0 G hT
  · exact as39 hq0 G hT
  · exact as40 hq0 G hT
  · exact as41 hq0 G hT
  · cases hq
/-! fresh values of types -/
def lOK : List TY → List (Option Value) → Prop
  | [], os => os = []
  | t :: ts, os => ∃ o w, os = o :: w ∧ (if t.1 = 1 ∨ t.1 = 2 ∨ t.1 = 4 ∨ t.1 = 5 then ∃ v, o = some v ∧ valOK t v else ∀ v, o = some v → v.category = 1) ∧ lOK ts w
theorem gl_cons {rho : List Int} {a : AV} {l : List AV} {o : Option Value} {os : List (Option Value)} (h1 : (a.1 = 0 → ∀ v, o = some v → v.category = 1) ∧ (a.1 ≠ 0 → ∃ v, o = some v ∧ gv rho a v)) (h2 : gl rho l os) : gl rho (a :: l) (o :: os) := by
  refine ⟨by simp [h2.1], fun i b hb => ?_⟩
  cases i with
  | zero =>
    cases hb
    exact ⟨fun z v hv => h1.1 z v (Option.some.inj hv), fun z => by obtain ⟨v, e1, e2⟩ := h1.2 z; exact ⟨v, by rw [e1]; rfl, e2⟩⟩
  | succ i => exact h2.2 i b hb
theorem mk_ok : ∀ (ts : List TY) (os : List (Option Value)) (env : List (Int × Int)) (rho : List Int), ga rho env → lOK ts os → ∃ t, ga (rho ++ t) (ab_mk env ts).2 ∧ gl (rho ++ t) (ab_mk env ts).1 os
  | [], os, env, rho, g, h => by
    have : os = [] := h
    subst this
    exact ⟨[], by rw [nil_app]; exact g, rfl, fun i a hi => by simp [ab_mk] at hi⟩
  | t :: ts, os, env, rho, g, h => by
    obtain ⟨o, w, rfl, h1, h2⟩ := h
    unfold ab_mk
    by_cases t1 : t.1 = 1
    · rw [if_pos (Or.inl t1)] at h1
      obtain ⟨v, rfl, hv⟩ := h1
      obtain ⟨y, rfl, hy⟩ := val_int t1 hv
      obtain ⟨x, g1, g2⟩ := mk_ok ts w _ _ (ga_push (x := y.toInt) (b := (t.2.1, t.2.2)) g (Or.inr hy)) h2
      rw [if_pos t1]
      refine ⟨[y.toInt] ++ x, by rw [← List.append_assoc]; exact g1, gl_cons ⟨fun z => (by cases z), fun _ => ⟨_, rfl, ?_⟩⟩ (by rw [← List.append_assoc]; exact g2)⟩
      rw [← List.append_assoc]
      exact gv_ext (gv_mk (by rw [ga_last g]; simp))
    · rw [if_neg t1]
      by_cases t2 : t.1 = 2
      · rw [if_pos (Or.inr (Or.inl t2))] at h1
        obtain ⟨v, rfl, hv⟩ := h1
        unfold valOK at hv
        rw [t2] at hv
        obtain ⟨r, rfl, hr⟩ := hv
        obtain ⟨x, g1, g2⟩ := mk_ok ts w _ _ (ga_push (x := (r : Int)) (b := (1, 0)) g (Or.inl (by decide))) h2
        rw [if_pos t2]
        refine ⟨[(r : Int)] ++ x, by rw [← List.append_assoc]; exact g1, gl_cons ⟨fun z => (by cases z), fun _ => ⟨_, rfl, ?_⟩⟩ (by rw [← List.append_assoc]; exact g2)⟩
        rw [← List.append_assoc]
        exact gv_ext ⟨r, ga_last g, rfl, hr⟩
      · rw [if_neg t2]
        by_cases t4 : t.1 = 4
        · rw [if_pos (Or.inr (Or.inr (Or.inl t4)))] at h1
          obtain ⟨v, rfl, hv⟩ := h1
          unfold valOK at hv
          rw [t4] at hv
          rw [if_pos t4]
          rcases hv with rfl | ⟨r, rfl, hr⟩
          · obtain ⟨x, g1, g2⟩ := mk_ok ts w _ _ (ga_push (x := -1) (b := (1, 0)) g (Or.inl (by decide))) h2
            refine ⟨[-1] ++ x, by rw [← List.append_assoc]; exact g1, gl_cons ⟨fun z => (by cases z), fun _ => ⟨_, rfl, ?_⟩⟩ (by rw [← List.append_assoc]; exact g2)⟩
            rw [← List.append_assoc]
            exact gv_ext ⟨-1, ga_last g, Or.inl ⟨rfl, rfl⟩⟩
          · obtain ⟨x, g1, g2⟩ := mk_ok ts w _ _ (ga_push (x := (r : Int)) (b := (1, 0)) g (Or.inl (by decide))) h2
            refine ⟨[(r : Int)] ++ x, by rw [← List.append_assoc]; exact g1, gl_cons ⟨fun z => (by cases z), fun _ => ⟨_, rfl, ?_⟩⟩ (by rw [← List.append_assoc]; exact g2)⟩
            rw [← List.append_assoc]
            exact gv_ext ⟨_, ga_last g, Or.inr ⟨r, rfl, rfl, hr⟩⟩
        · rw [if_neg t4]
          by_cases t5 : t.1 = 5
          · rw [if_pos (Or.inr (Or.inr (Or.inr t5)))] at h1
            obtain ⟨v, rfl, hv⟩ := h1
            unfold valOK at hv
            rw [t5] at hv
            obtain ⟨z5, rfl⟩ := hv
            obtain ⟨x, g1, g2⟩ := mk_ok ts w _ _ g h2
            rw [if_pos t5]
            exact ⟨x, g1, gl_cons ⟨fun z => (by cases z), fun _ => ⟨_, rfl, ⟨z5, rfl⟩⟩⟩ g2⟩
          · rw [if_neg (by omega)] at h1
            obtain ⟨x, g1, g2⟩ := mk_ok ts w _ _ g h2
            rw [if_neg t5]
            exact ⟨x, g1, gl_cons ⟨fun _ => h1, fun z => absurd rfl z⟩ g2⟩
theorem gs_of_gl {rho : List Int} : ∀ {avs : List AV} {vs : List Value}, gl rho avs (vs.map some) → gs rho avs vs
  | [], vs, h => by
    have := h.1
    cases vs with
    | nil => rfl
    | cons v vs => simp at this
  | a :: l, vs, h => by
    cases vs with
    | nil => have := h.1; simp at this
    | cons v vs =>
      refine ⟨v, vs, rfl, ?_, gs_of_gl ⟨by have := h.1; simpa using this, fun i b hi => h.2 (i + 1) b hi⟩⟩
      have h0 := h.2 0 a rfl
      by_cases z : a.1 = 0
      · have := h0.1 z v rfl
        unfold gv
        rw [z]
        exact this
      · obtain ⟨w, e1, e2⟩ := h0.2 z
        have e1 : some v = some w := Option.some.inj e1
        cases e1
        exact e2
theorem aOK_l : ∀ {ts : List TY} {vs : List Value}, aOK ts vs → lOK ts (vs.map some)
  | [], _, h => by
    have : _ = [] := h
    subst this
    rfl
  | t :: ts, _, ⟨v, w, h1, h2, h3⟩ => by
    subst h1
    refine ⟨some v, w.map some, rfl, ?_, aOK_l h3⟩
    split
    · exact ⟨v, rfl, h2⟩
    · rename_i hn
      intro u hu
      cases hu
      unfold valOK at h2
      split at h2 <;> first | (exfalso; omega) | exact h2
theorem fitl_l {rho : List Int} {env : List (Int × Int)} (g : ga rho env) : ∀ {l : List AV} {ts : List TY} {os : List (Option Value)}, ab_fitl env l ts = true → gl rho l os → lOK ts os
  | [], [], os, _, h => by
    have := h.1
    cases os with
    | nil => rfl
    | cons o os => simp at this
  | [], _ :: _, _, hf, _ => by cases hf
  | _ :: _, [], _, hf, _ => by cases hf
  | a :: l, t :: ts, os, hf, h => by
    cases os with
    | nil => have := h.1; simp at this
    | cons o os =>
      unfold ab_fitl at hf
      rw [Bool.and_eq_true] at hf
      refine ⟨o, os, rfl, ?_, fitl_l g hf.2 ⟨by have := h.1; simpa using this, fun i b hi => h.2 (i + 1) b hi⟩⟩
      have h0 := h.2 0 a rfl
      have e0 : ∀ v, (o :: os)[0]? = some (some v) ↔ o = some v := fun v => by simp
      split
      · rename_i ht
        have hne : a.1 ≠ 0 := by
          intro z
          have := hf.1
          unfold ab_fits ab_bnd at this
          rcases ht with ht | ht | ht | ht <;> rw [ht] at this <;> simp [z] at this
        obtain ⟨v, e1, e2⟩ := h0.2 hne
        exact ⟨v, (e0 v).mp e1, fits_ok g hf.1 e2⟩
      · rename_i ht
        intro v hv
        by_cases z : a.1 = 0
        · exact h0.1 z v ((e0 v).mpr hv)
        · obtain ⟨w, e1, e2⟩ := h0.2 z
          rw [(e0 w).mp e1] at hv
          cases hv
          have h9 := fits_ok g hf.1 e2
          unfold valOK at h9
          split at h9 <;> first | (exfalso; omega) | exact h9
theorem gl_of_gs {rho : List Int} : ∀ {avs : List AV} {vs : List Value}, gs rho avs vs → gl rho avs (vs.map some)
  | [], vs, h => by
    have : vs = [] := h
    subst this
    exact ⟨rfl, fun i a hi => by simp at hi⟩
  | a :: l, vs, h => by
    obtain ⟨v, w, rfl, h1, h2⟩ := h
    refine gl_cons ⟨fun z u hu => ?_, fun _ => ⟨v, rfl, h1⟩⟩ (gl_of_gs h2)
    cases hu
    unfold gv at h1
    rw [z] at h1
    exact h1
/-- at a head: the state in the head's own names -/
theorem head_ok {rho : List Int} {s : AS} {hd : HD} {ls : List (Option Value)} {st : List Value} {h : Hp} (G : Gm rho s ls st h) (h1 : ab_fitl s.2.2.1 s.1 hd.1 = true) (h2 : ab_fitl s.2.2.1 s.2.1 hd.2.1 = true) : ∃ rho', Gm rho' (ab_head hd) ls st h := by
  obtain ⟨g1, g2, g3, g4⟩ := G
  have g0 : ga [0] [(0, 0)] := ⟨rfl, fun i b hb => by
    cases i with
    | zero => cases hb; exact ⟨0, rfl, Or.inr ⟨Int.le_refl _, Int.le_refl _⟩⟩
    | succ i => simp at hb⟩
  obtain ⟨t, a1, a2⟩ := mk_ok hd.1 ls [(0, 0)] [0] g0 (fitl_l g1 h1 g2)
  obtain ⟨t2, b1, b2⟩ := mk_ok hd.2.1 (st.map some) _ _ a1 (fitl_l g1 h2 (gl_of_gs g3))
  exact ⟨_, b1, gl_ext a2, gs_of_gl b2, fun e he => by cases he⟩
end
section
/-! measures, ends, calls, the walk -/
def iv_ (ls : List (Option Value)) (i : Nat) : Int := match ls[i]? with
  | some (some (.int x)) => x.toInt
  | _ => 0
def cme (ls : List (Option Value)) (e : Nat × Nat × Int) : Int := if e.1 = 1 then e.2.2 - iv_ ls e.2.1 else if e.1 = 2 then iv_ ls e.2.1 - e.2.2 else e.2.2
def mvv (rho : List Int) (e : Nat × AV × Int) : Int := if e.1 = 1 then e.2.2 - ((rho[e.2.1.2.1]?).getD 0 + e.2.1.2.2) else if e.1 = 2 then (rho[e.2.1.2.1]?).getD 0 + e.2.1.2.2 - e.2.2 else e.2.2
def vld (rho : List Int) (e : Nat × AV × Int) : Prop := e.1 = 0 ∨ ∃ x, rho[e.2.1.2.1]? = some x
def lexlt : List Int → List Int → Prop
  | x :: xs, y :: ys => x < y ∨ (x = y ∧ lexlt xs ys)
  | _, _ => False
def num : List Int → Nat
  | [] => 0
  | x :: xs => x.toNat * 8589934592 ^ xs.length + num xs
theorem num_bd : ∀ {xs : List Int}, (∀ x ∈ xs, 0 ≤ x ∧ x < 8589934592) → num xs < 8589934592 ^ xs.length
  | [], _ => Nat.lt_succ_self 0
  | x :: xs, h => by
    have h1 := num_bd (fun y hy => h y (List.mem_cons_of_mem _ hy))
    have h2 := h x List.mem_cons_self
    have h3 : x.toNat + 1 ≤ 8589934592 := by omega
    have h4 := Nat.mul_le_mul_right (8589934592 ^ xs.length) h3
    show x.toNat * 8589934592 ^ xs.length + num xs < 8589934592 ^ (xs.length + 1)
    rw [Nat.pow_succ, Nat.mul_comm (8589934592 ^ xs.length)]
    rw [Nat.add_mul, Nat.one_mul] at h4
    omega
theorem num_lt : ∀ {xs ys : List Int}, lexlt xs ys → xs.length = ys.length → (∀ x ∈ xs, 0 ≤ x ∧ x < 8589934592) → (∀ y ∈ ys, 0 ≤ y ∧ y < 8589934592) → num xs < num ys
  | [], ys, h, _, _, _ => by cases ys <;> cases h
  | _ :: _, [], h, _, _, _ => by cases h
  | x :: xs, y :: ys, h, hl, hx, hy => by
    have hl' : xs.length = ys.length := by simpa using hl
    show x.toNat * 8589934592 ^ xs.length + num xs < y.toNat * 8589934592 ^ ys.length + num ys
    rw [← hl']
    rcases h with h | ⟨h1, h2⟩
    · have h1 := num_bd (fun z hz => hx z (List.mem_cons_of_mem _ hz))
      have h2 := hx x List.mem_cons_self
      have h3 : x.toNat + 1 ≤ y.toNat := by omega
      have h4 := Nat.mul_le_mul_right (8589934592 ^ xs.length) h3
      rw [Nat.add_mul, Nat.one_mul] at h4
      omega
    · have h3 := num_lt h2 hl' (fun z hz => hx z (List.mem_cons_of_mem _ hz)) (fun z hz => hy z (List.mem_cons_of_mem _ hz))
      rw [h1]
      omega
theorem bnd_rho {rho : List Int} {env : List (Int × Int)} {a : AV} {b : Int × Int} (g : ga rho env) (hb : ab_bnd env a = some b) : a.1 = 1 ∧ ∃ x, rho[a.2.1]? = some x ∧ b.1 ≤ x + a.2.2 ∧ x + a.2.2 ≤ b.2 := by
  unfold ab_bnd at hb
  split at hb
  · rename_i h1
    split at hb
    · rename_i c hc
      split at hb
      · cases hb
      · cases hb
        obtain ⟨x, z1, z2⟩ := g.2 _ _ hc
        exact ⟨h1, x, z1, by simp only; omega, by simp only; omega⟩
    · cases hb
  · cases hb
theorem mb_ok {rho : List Int} {env : List (Int × Int)} {e : Nat × AV × Int} {b : Int × Int} (g : ga rho env) (hb : ab_mb env e = some b) : b.1 ≤ mvv rho e ∧ mvv rho e ≤ b.2 ∧ (e.1 = 0 ∨ e.2.1.1 = 1) := by
  unfold ab_mb at hb
  split at hb
  · rename_i h0
    cases hb
    unfold mvv
    rw [if_neg (by omega), if_neg (by omega)]
    exact ⟨Int.le_refl _, Int.le_refl _, Or.inl h0⟩
  · rename_i h0
    split at hb
    · rename_i c hc
      cases hb
      obtain ⟨t1, x, z1, z2, z3⟩ := bnd_rho g hc
      unfold mvv
      rw [if_pos h0, z1]
      simp only [Option.getD_some]
      exact ⟨by omega, by omega, Or.inr t1⟩
    · cases hb
  · rename_i h0
    split at hb
    · rename_i c hc
      cases hb
      obtain ⟨t1, x, z1, z2, z3⟩ := bnd_rho g hc
      unfold mvv
      rw [if_neg (by omega), if_pos h0, z1]
      simp only [Option.getD_some]
      exact ⟨by omega, by omega, Or.inr t1⟩
    · cases hb
  · cases hb
/-- a part of a measure, read off the locals -/
theorem cme_ok {rho : List Int} {avs : List AV} {ls : List (Option Value)} {e : Nat × Nat × Int} (g : gl rho avs ls) (h : e.1 = 0 ∨ ((avs[e.2.1]?).getD (0, 0, 0)).1 = 1) : cme ls e = mvv rho (e.1, (avs[e.2.1]?).getD (0, 0, 0), e.2.2) := by
  unfold cme mvv
  simp only
  by_cases h1 : e.1 = 1 ∨ e.1 = 2
  · have h2 : ((avs[e.2.1]?).getD (0, 0, 0)).1 = 1 := by omega
    cases ha : avs[e.2.1]? with
    | none => rw [ha] at h2; cases h2
    | some a =>
      rw [ha] at h2
      simp only [Option.getD_some] at h2 ⊢
      obtain ⟨v, e1, e2⟩ := (g.2 _ _ ha).2 (by omega)
      obtain ⟨x, y, z1, rfl, z2⟩ := gv_int h2 e2
      have : iv_ ls e.2.1 = y.toInt := by unfold iv_; rw [e1]
      rw [this, z1]
      simp only [Option.getD_some]
      rw [z2]
  · rw [if_neg (by omega), if_neg (by omega), if_neg (by omega), if_neg (by omega)]
theorem lt_ok {rho : List Int} {env : List (Int × Int)} {avs : List AV} {ls : List (Option Value)} (ge : ga rho env) (g : gl rho avs ls) : ∀ {m : List (Nat × Nat × Int)} {ys : List (Nat × AV × Int)}, ab_lt env (ab_ms avs m) ys = true → lexlt (m.map (cme ls)) (ys.map (mvv rho))
  | [], ys, h => by cases ys <;> cases h
  | _ :: _, [], h => by cases h
  | e :: m, y :: ys, h => by
    have h' : ab_lt env ((e.1, (avs[e.2.1]?).getD (0, 0, 0), e.2.2) :: ab_ms avs m) (y :: ys) = true := h
    unfold ab_lt at h'
    show cme ls e < mvv rho y ∨ (cme ls e = mvv rho y ∧ lexlt (m.map (cme ls)) (ys.map (mvv rho)))
    split at h'
    · rename_i hc
      simp only at hc
      obtain ⟨c1, c2, c3⟩ := hc
      right
      refine ⟨?_, lt_ok ge g h'⟩
      rcases c3 with c3 | ⟨c3, c4, c5, c6, c7⟩
      · rw [cme_ok g (Or.inl c3)]
        unfold mvv
        simp only
        rw [if_neg (by omega), if_neg (by omega), if_neg (by omega), if_neg (by omega), c2]
      · rw [cme_ok g (Or.inr c4)]
        unfold mvv
        simp only
        rw [c6, c7, c1, c2]
    · split at h'
      · rename_i hc
        simp only at hc
        obtain ⟨c1, c2, c3, c4, c5, c6, c7⟩ := hc
        left
        rw [cme_ok g (Or.inr c4)]
        unfold mvv
        simp only
        rw [if_pos c3, if_pos (by omega), c6, c2]
        omega
      · split at h'
        · rename_i hc
          simp only at hc
          obtain ⟨c1, c2, c3, c4, c5, c6, c7⟩ := hc
          left
          rw [cme_ok g (Or.inr c4)]
          unfold mvv
          simp only
          rw [if_neg (by omega), if_pos c3, if_neg (by omega), if_pos (by omega), c6, c2]
          omega
        · split at h'
          · rename_i bx by' hbx hby
            have h1 := mb_ok ge hbx
            have h2 := mb_ok ge hby
            have h3 := of_decide_eq_true h'
            left
            rw [cme_ok g h1.2.2]
            omega
          · cases h'
theorem vld_ext {rho t : List Int} {e : Nat × AV × Int} (h : vld rho e) : vld (rho ++ t) e ∧ mvv (rho ++ t) e = mvv rho e := by
  rcases h with h | ⟨x, h⟩
  · exact ⟨Or.inl h, by unfold mvv; rw [if_neg (by omega), if_neg (by omega), if_neg (by omega), if_neg (by omega)]⟩
  · exact ⟨Or.inr ⟨x, get_ext h⟩, by unfold mvv; rw [get_ext h, h]⟩
theorem mr_ok {rho : List Int} {env : List (Int × Int)} {avs : List AV} {ls : List (Option Value)} {m : List (Nat × Nat × Int)} (ge : ga rho env) (g : gl rho avs ls) (h : ab_mr env (ab_ms avs m) = true) : (∀ x ∈ m.map (cme ls), 0 ≤ x ∧ x < 8589934592) ∧ (∀ y ∈ ab_ms avs m, vld rho y) ∧ m.map (cme ls) = (ab_ms avs m).map (mvv rho) := by
  have key : ∀ e ∈ m, (0 ≤ cme ls e ∧ cme ls e < 8589934592) ∧ vld rho (e.1, (avs[e.2.1]?).getD (0, 0, 0), e.2.2) ∧ cme ls e = mvv rho (e.1, (avs[e.2.1]?).getD (0, 0, 0), e.2.2) := by
    intro e he
    have h1 := List.all_eq_true.mp h (e.1, (avs[e.2.1]?).getD (0, 0, 0), e.2.2) (List.mem_map.mpr ⟨e, he, rfl⟩)
    split at h1
    · rename_i b hb
      simp only [Bool.and_eq_true, decide_eq_true_eq] at h1
      have h2 := mb_ok ge hb
      have h3 := cme_ok g h2.2.2
      refine ⟨by rw [h3]; omega, ?_, h3⟩
      rcases h2.2.2 with z | z
      · exact Or.inl z
      · unfold ab_mb at hb
        split at hb
        · rename_i z0; exact Or.inl z0
        · split at hb
          · rename_i c hc
            obtain ⟨-, x, z1, -⟩ := bnd_rho ge hc
            exact Or.inr ⟨x, z1⟩
          · cases hb
        · split at hb
          · rename_i c hc
            obtain ⟨-, x, z1, -⟩ := bnd_rho ge hc
            exact Or.inr ⟨x, z1⟩
          · cases hb
        · cases hb
    · cases h1
  refine ⟨fun x hx => ?_, fun y hy => ?_, ?_⟩
  · obtain ⟨e, he, rfl⟩ := List.mem_map.mp hx
    exact (key e he).1
  · obtain ⟨e, he, rfl⟩ := List.mem_map.mp hy
    exact (key e he).2.1
  · unfold ab_ms
    rw [List.map_map]
    exact List.map_congr_left fun e he => (key e he).2.2
/-- what the checker holds of arguments holds -/
theorem holds_ok {rho : List Int} {avs : List AV} {env : List (Int × Int)} {ca : List (Nat × Nat × Nat × AV)} {as : List Value} {h : Hp} {p : Nat × Nat × Int × Int} (g1 : ga rho env) (g4 : gc rho h ca) (ga' : ∀ (i : Nat) (a : AV), avs[i]? = some a → ∃ v, as[i]? = some v ∧ gv rho a v) (hh : ab_holds avs env ca p = true) : qOK as h p := by
  unfold ab_holds at hh
  split at hh
  · rename_i a ha
    obtain ⟨v, e1, e2⟩ := ga' _ _ ha
    unfold qOK
    split at hh
    · rename_i h9
      rw [if_pos h9]
      split at hh
      · rename_i b hb
        obtain ⟨y, -, rfl, k2, -⟩ := bnd_ok g1 e2 hb
        simp only [Bool.and_eq_true, decide_eq_true_eq] at hh
        exact ⟨y, e1, by omega, by omega⟩
      · cases hh
    · rename_i h9
      rw [if_neg h9]
      split at hh
      · rename_i h2
        obtain ⟨r, z1, rfl, z2⟩ := gv_ref h2 e2
        split at hh
        · rename_i x hx
          unfold ab_find at hx
          obtain ⟨e, he, rfl⟩ := Option.map_eq_some_iff.mp hx
          have hm := List.mem_of_find?_eq_some he
          have hp := List.find?_some he
          simp only [Bool.and_eq_true, beq_iff_eq] at hp
          obtain ⟨r', q1, q2, -, q3⟩ := g4 e hm
          rw [hp.1] at q1
          have hrr : r' = r := by
            have := z1.symm.trans q1
            simp only [Option.some.injEq] at this
            omega
          subst hrr
          split at hh
          · rename_i b hb
            obtain ⟨y, k1, k2, k3, -⟩ := bnd_ok g1 q3 hb
            unfold ab_cv at k2
            rw [if_pos k1, hp.2] at k2
            cases k2
            simp only [Bool.and_eq_true, decide_eq_true_eq] at hh
            exact ⟨r', e1, by omega, by omega⟩
          · cases hh
        · cases hh
      · cases hh
  · cases hh
theorem bit_of {x : Int32} (h : 0 ≤ x.toInt ∧ x.toInt ≤ 1) : fl_bit x = true := by
  simp only [fl_bit, Bool.or_eq_true, decide_eq_true_eq]
  rcases (by omega : x.toInt = 0 ∨ x.toInt = 1) with z | z
  · exact Or.inl (i_eq.mpr z)
  · exact Or.inr (i_eq.mpr z)
/-- the end of a method -/
theorem ret_ok {c : CT} {avs : List AV} {q : Smi} {s : AS} {rho : List Int} {ls : List (Option Value)} {st : List Value} {h h0 : Hp} {as : List Value} {pc : Nat} (hq : ab_ret c avs q s = true) (hc : fl_code c.1 pc = some q) (G : Gm rho s ls st h) (hT : TInv h) (hF : Fr c.2.2.2.2.1 h0 h) (ga' : c.2.2.2.2.2.2 = [] ∨ ∀ (i : Nat) (a : AV), avs[i]? = some a → ∃ v, as[i]? = some v ∧ gv rho a v) : Gd c as h0 pc ls st h := by
  obtain ⟨op, a, nx⟩ := q
  obtain ⟨als, ast, env, ca⟩ := s
  obtain ⟨g1, g2, g3, g4⟩ := G
  have hpost : c.2.2.2.2.2.2.all (ab_holds avs env ca) = true → ∀ p ∈ c.2.2.2.2.2.2, qOK as h p := by
    intro hall p hp
    rcases ga' with z | z
    · rw [z] at hp; cases hp
    · exact holds_ok g1 g4 z (List.all_eq_true.mp hall p hp)
  have hnil : c.2.2.2.2.2.2.isEmpty = true → ∀ p ∈ c.2.2.2.2.2.2, qOK as h p := by
    intro hz p hp
    rw [List.isEmpty_iff.mp hz] at hp
    cases hp
  unfold ab_ret at hq
  simp only at hq g3
  split at hq
  · simp only [Bool.and_eq_true, beq_iff_eq] at hq
    obtain ⟨⟨q1, q2⟩, q3⟩ := hq
    rw [List.isEmpty_iff.mp q3] at g3
    have : st = [] := g3
    subst this
    exact ⟨none, h, Ev.ret hc rfl, hT, by unfold retOK; rw [if_pos q1], hF, fun _ => hnil q2⟩
  · split at hq
    · rename_i o x
      obtain ⟨v, w, rfl, gx, hw⟩ := g3
      have : w = [] := hw
      subst this
      simp only [Bool.and_eq_true, beq_iff_eq, Bool.or_eq_true, decide_eq_true_eq] at hq
      obtain ⟨⟨⟨q1, q2⟩, q3⟩, q4⟩ := hq
      have hval := fits_ok g1 q2 gx
      obtain ⟨y, rfl, hy⟩ := val_int q1 hval
      have hs : o = 0 ∨ fl_bit y = true := by
        rcases q3 with q3 | q3
        · exact Or.inl q3
        · exact Or.inr (bit_of (by omega))
      refine ⟨some (.int y), h, Ev.ret hc (by simp only [fl_step]; exact if_pos hs), hT, ?_, hF, fun ht => ?_⟩
      · unfold retOK
        rw [if_neg (by omega)]
        exact ⟨_, rfl, hval⟩
      · rcases q4 with q4 | q4
        · exact hpost q4
        · exfalso
          obtain ⟨y', -, e2, k2, -⟩ := bnd_ok g1 gx q4
          cases e2
          rcases ht with ⟨x', e3, e4⟩ | ⟨r, e3⟩
          · cases e3
            exact e4 (i_eq.mpr (by rw [Int32.toInt_zero]; simp only at k2; omega))
          · cases e3
    · cases hq
  · split at hq
    · rename_i x
      obtain ⟨v, w, rfl, gx, hw⟩ := g3
      have : w = [] := hw
      subst this
      simp only [Bool.and_eq_true, beq_iff_eq] at hq
      obtain ⟨⟨q1, q2⟩, q3⟩ := hq
      obtain ⟨y, rfl⟩ := gv_long q2 gx
      refine ⟨some (.long y), h, Ev.ret hc rfl, hT, ?_, hF, fun _ => hnil q3⟩
      unfold retOK valOK
      rw [if_neg (by omega)]
      exact ⟨_, rfl, by rw [q1]; exact ⟨y, rfl⟩⟩
    · cases hq
  · split at hq
    · rename_i x
      obtain ⟨v, w, rfl, gx, hw⟩ := g3
      have : w = [] := hw
      subst this
      simp only [Bool.and_eq_true, beq_iff_eq, Bool.or_eq_true] at hq
      obtain ⟨⟨q1, q2⟩, q4⟩ := hq
      have hval := fits_ok g1 q2 gx
      obtain ⟨o, rfl⟩ := val_ref q1 hval
      refine ⟨some (fl_rv o), h, Ev.ret hc (by cases o <;> rfl), hT, ?_, hF, fun ht => ?_⟩
      · unfold retOK
        rw [if_neg (by omega)]
        exact ⟨_, rfl, hval⟩
      · rcases q4 with q4 | q4
        · exact hpost q4
        · exfalso
          unfold gv at gx
          rw [q4] at gx
          rw [gx] at ht
          rcases ht with ⟨x', e3, e4⟩ | ⟨r, e3⟩ <;> cases e3
    · cases hq
  · cases hq
end
section
/-! CALLS by contract -/
theorem gs_app {rho : List Int} : ∀ {s t : List AV} {vs ws : List Value}, gs rho s vs → gs rho t ws → gs rho (s ++ t) (vs ++ ws)
  | [], _, _, _, h, h2 => by
    have : _ = [] := h
    subst this
    exact h2
  | _ :: _, _, _, _, ⟨v, w, e, h2, h3⟩, h4 => by
    subst e
    exact ⟨v, _, rfl, h2, gs_app h3 h4⟩
theorem gs_rev {rho : List Int} : ∀ {s : List AV} {vs : List Value}, gs rho s vs → gs rho s.reverse vs.reverse
  | [], _, h => by
    have : _ = [] := h
    subst this
    rfl
  | a :: s, _, ⟨v, w, e, h2, h3⟩ => by
    subst e
    rw [List.reverse_cons, List.reverse_cons]
    exact gs_app (gs_rev h3) (gs_cons h2 rfl)
theorem gs_td {rho : List Int} : ∀ (k : Nat) {s : List AV} {vs : List Value}, gs rho s vs → gs rho (s.take k) (vs.take k) ∧ gs rho (s.drop k) (vs.drop k)
  | 0, _, _, h => ⟨rfl, h⟩
  | k + 1, [], _, h => by
    have : _ = [] := h
    subst this
    exact ⟨rfl, rfl⟩
  | k + 1, _ :: _, _, ⟨v, w, e, h2, h3⟩ => by
    subst e
    have ih := gs_td k h3
    exact ⟨⟨v, _, rfl, h2, ih.1⟩, ih.2⟩
theorem gs_len {rho : List Int} : ∀ {s : List AV} {vs : List Value}, gs rho s vs → s.length = vs.length
  | [], _, h => by
    have : _ = [] := h
    subst this
    rfl
  | _ :: _, _, ⟨v, w, e, h2, h3⟩ => by
    subst e
    simp [gs_len h3]
theorem gs_get {rho : List Int} : ∀ {s : List AV} {vs : List Value}, gs rho s vs → ∀ (i : Nat) (a : AV), s[i]? = some a → ∃ v, vs[i]? = some v ∧ gv rho a v
  | [], _, _, i, a, hi => by simp at hi
  | _ :: _, _, ⟨v, w, e, h2, h3⟩, i, a, hi => by
    subst e
    cases i with
    | zero => cases hi; exact ⟨v, rfl, h2⟩
    | succ i => exact gs_get h3 i a hi
theorem gs_aOK {rho : List Int} {env : List (Int × Int)} (g : ga rho env) : ∀ {s : List AV} {ts : List TY} {vs : List Value}, ab_fitl env s ts = true → gs rho s vs → aOK ts vs
  | [], [], _, _, h => h
  | [], _ :: _, _, hf, _ => by cases hf
  | _ :: _, [], _, hf, _ => by cases hf
  | a :: s, t :: ts, _, hf, ⟨v, w, e, h2, h3⟩ => by
    unfold ab_fitl at hf
    rw [Bool.and_eq_true] at hf
    exact ⟨v, w, e, fits_ok g hf.1 h2, gs_aOK g hf.2 h3⟩
theorem post_ok {as : List Value} {h : Hp} {avs : List AV} : ∀ {ps : List (Nat × Nat × Int × Int)} {rho : List Int} {env : List (Int × Int)} {ca : List (Nat × Nat × Nat × AV)} {l : List (List (Int × Int) × List (Nat × Nat × Nat × AV))}, ab_post avs env ca ps = some l → ga rho env → gc rho h ca → gs rho avs as → (∀ p ∈ ps, qOK as h p) → ∃ e ∈ l, ∃ t, ga (rho ++ t) e.1 ∧ gc (rho ++ t) h e.2
  | [], rho, env, ca, l, hp, g1, g4, _, _ => by
    cases hp
    exact ⟨_, List.mem_singleton.mpr rfl, [], by rw [nil_app]; exact g1, by rw [nil_app]; exact g4⟩
  | p :: ps, rho, env, ca, l, hp, g1, g4, ha, hq => by
    unfold ab_post at hp
    split at hp
    · rename_i a hav
      obtain ⟨v, e1, e2⟩ := gs_get ha _ _ hav
      have hq1 := hq p List.mem_cons_self
      unfold qOK at hq1
      split at hp
      · rename_i h9
        rw [if_pos h9] at hq1
        obtain ⟨x, e3, b1, b2⟩ := hq1
        cases e1.symm.trans e3
        split at hp
        · rename_i b hb
          obtain ⟨y, -, e4, k2, k3⟩ := bnd_ok g1 e2 hb
          cases e4
          have hmx : ab_max b.1 p.2.2.1 ≤ x.toInt := by unfold ab_max; split <;> omega
          have hmn : x.toInt ≤ ab_min b.2 p.2.2.2 := by unfold ab_min; split <;> omega
          rw [if_neg (by omega)] at hp
          exact post_ok hp (ga_setv g1 k3 ⟨hmx, hmn⟩) g4 ha (fun z hz => hq z (List.mem_cons_of_mem _ hz))
        · cases hp
      · rename_i h9
        rw [if_neg h9] at hq1
        obtain ⟨r, e3, b1, b2⟩ := hq1
        cases e1.symm.trans e3
        split at hp
        · rename_i h2
          obtain ⟨r', z1, e4, z2⟩ := gv_ref h2.1 e2
          cases e4
          split at hp
          · rename_i code size tys hK
            split at hp
            · rename_i hlt
              obtain ⟨-, hl⟩ := ab_kdK (by rw [z2]; exact h2.2) (by rw [z2]; exact hK)
              obtain ⟨e, he, t, q1, q2⟩ := post_ok (rho := rho ++ [(h.1 r p.2.1).toInt]) hp (ga_push g1 (Or.inr ⟨b1, b2⟩)) (fun e he => by
                rcases List.mem_cons.mp he with rfl | he
                · exact ⟨r, get_ext z1, z2, by rw [hl]; exact hlt, gv_mk (by rw [ga_last g1]; simp)⟩
                · exact gc_ext g4 e he) (gs_ext ha) (fun z hz => hq z (List.mem_cons_of_mem _ hz))
              exact ⟨e, he, [(h.1 r p.2.1).toInt] ++ t, by rw [← List.append_assoc]; exact q1, by rw [← List.append_assoc]; exact q2⟩
            · cases hp
          · cases hp
        · cases hp
    · cases hp
theorem after_ok {cc : CT} {nx : Nat} {als avs rest : List AV} {env : List (Int × Int)} {ca : List (Nat × Nat × Nat × AV)} {l : List (Nat × AS)} {rho : List Int} {ls : List (Option Value)} {as vrest : List Value} {h : Hp} {v : Option Value} (hq : ab_after cc nx als avs rest env ca = some l) (g1 : ga rho env) (g2 : gl rho als ls) (g3 : gs rho rest vrest) (g4 : gc rho h ca) (ha : gs rho avs as)
    (hr : retOK cc.2.2.2.1 v) (ht : truthy v → ∀ p ∈ cc.2.2.2.2.2.2, qOK as h p) : ∃ e ∈ l, e.1 = nx ∧ ∃ t, Gm (rho ++ t) e.2 ls (v.toList ++ vrest) h := by
  unfold ab_after at hq
  unfold retOK at hr
  split at hq
  · rename_i h9
    rw [if_pos h9] at hr
    subst hr
    cases hq
    exact ⟨_, List.mem_singleton.mpr rfl, rfl, [], by rw [nil_app]; exact ⟨g1, g2, g3, g4⟩⟩
  · rename_i h9
    rw [if_neg h9] at hr
    obtain ⟨w, rfl, hw⟩ := hr
    split at hq
    · split at hq
      · rename_i st' env' x hput
        cases hq
        obtain ⟨x, q1, q2, -⟩ := put_ty hput g1 g3 hw
        exact ⟨_, List.mem_singleton.mpr rfl, rfl, x, q1, gl_ext g2, q2, gc_ext g4⟩
      · cases hq
    · split at hq
      · rename_i h1
        split at hq
        · rename_i l0 hpo
          cases hq
          obtain ⟨y, rfl, hy⟩ := val_int h1 hw
          by_cases hz : y = 0
          · subst hz
            refine ⟨_, List.mem_cons_self, rfl, [0], ga_push g1 (Or.inr ⟨Int.le_refl _, Int.le_refl _⟩), gl_ext g2, gs_cons ?_ (gs_ext g3), gc_ext g4⟩
            exact gv_mk (by rw [ga_last g1]; rfl)
          · obtain ⟨e, he, t, q1, q2⟩ := post_ok (rho := rho ++ [y.toInt]) (h := h) hpo (ga_push g1 (Or.inr hy)) (gc_ext g4) (gs_ext ha) (ht (Or.inl ⟨y, rfl, hz⟩))
            refine ⟨_, List.mem_cons_of_mem _ (List.mem_map.mpr ⟨e, he, rfl⟩), rfl, [y.toInt] ++ t, by rw [← List.append_assoc]; exact q1, gl_ext g2, ?_, by rw [← List.append_assoc]; exact q2⟩
            refine gs_cons ?_ (gs_ext g3)
            rw [← List.append_assoc]
            exact gv_ext (gv_mk (by rw [ga_last g1]; simp))
        · cases hq
      · split at hq
        · rename_i h4
          split at hq
          · rename_i l0 hpo
            cases hq
            unfold valOK at hw
            rw [h4] at hw
            rcases hw with rfl | ⟨r, rfl, hk⟩
            · exact ⟨_, List.mem_cons_self, rfl, [], by rw [nil_app]; exact ⟨g1, g2, gs_cons rfl g3, g4⟩⟩
            · obtain ⟨e, he, t, q1, q2⟩ := post_ok (rho := rho ++ [(r : Int)]) (h := h) hpo (ga_push g1 (Or.inl (by decide))) (gc_ext g4) (gs_ext ha) (ht (Or.inr ⟨r, rfl⟩))
              refine ⟨_, List.mem_cons_of_mem _ (List.mem_map.mpr ⟨e, he, rfl⟩), rfl, [(r : Int)] ++ t, by rw [← List.append_assoc]; exact q1, gl_ext g2, ?_, by rw [← List.append_assoc]; exact q2⟩
              refine gs_cons ?_ (gs_ext g3)
              rw [← List.append_assoc]
              exact gv_ext ⟨r, ga_last g1, rfl, hk⟩
          · cases hq
        · cases hq
theorem call_ok {c cc : CT} {q : Smi} {s : AS} {l : List (Nat × AS)} {rho : List Int} {ls : List (Option Value)} {st : List Value} {h : Hp} {pc : Nat} (hq : ab_call c cc q s = some l) (hcv : CV cc) (G : Gm rho s ls st h) (hT : TInv h) :
    ∃ (as rest : List Value) (y : sm_M) (v : Option Value) (h2 : Hp) (e : Nat × AS), fl_step q (pc, ls, st, h, fl_tot) = some (.inr (.inl (cc.1, as, rest, e.1))) ∧ sm_ms[cc.1]? = some y ∧ (fl_args as).length ≤ y.2.2.1 ∧ Ev cc.2.1 cc.1 (0, fl_enter y.2.2.1 as, [], h, fl_tot) (v, h2, fl_tot) ∧ cc.2.1 + 1 ≤ c.2.1 ∧ e ∈ l ∧ (∃ t, Gm (rho ++ t) e.2 ls (v.toList ++ rest) h2) ∧ TInv h2 ∧ Fr c.2.2.2.2.1 h h2 := by
  obtain ⟨op, a, nx⟩ := q
  obtain ⟨als, ast, env, ca⟩ := s
  obtain ⟨g1, g2, g3, g4⟩ := G
  simp only at g1 g2 g3 g4
  unfold ab_call at hq
  simp only at hq
  split at hq
  · rename_i m k
    generalize hkk : k.toNat + (if op = 19 then 0 else 1) = kk at hq
    split at hq
    · rename_i hlen
      split at hq
      · rename_i hok
        have hst : ast.length = st.length := gs_len g3
        obtain ⟨gt, gd⟩ := gs_td kk g3
        have gr := gs_rev gt
        unfold ab_callok at hok
        simp only [Bool.and_eq_true, decide_eq_true_eq, beq_iff_eq, Bool.or_eq_true, List.all_eq_true, bne_iff_ne] at hok
        obtain ⟨⟨⟨⟨⟨⟨⟨o1, o2⟩, o3⟩, o4⟩, o5⟩, o6⟩, o7⟩, o8⟩ := hok
        have hcat : fl_cat (st.drop kk) ≤ 8 := Nat.le_trans (cat_ok gd) o5
        have hpre : ∀ p ∈ cc.2.2.2.2.2.1, pOK (st.take kk).reverse h p := by
          intro p hp
          have := o7 p hp
          have h2 := holds_ok g1 g4 (gs_get gr) this.2
          unfold qOK at h2
          rw [if_neg this.1] at h2
          exact h2
        obtain ⟨y, y1, y2, v, h2, ev, t2, rt, fr, po⟩ := hcv _ h hT (gs_aOK g1 o4 gr) hpre
        have g4' : gc rho h2 (ca.filter (fun e => decide (e.2.1 ∉ cc.2.2.2.2.1))) := by
          intro e he
          obtain ⟨he1, he2⟩ := List.mem_filter.mp he
          obtain ⟨r, q1, q2, q3, q4⟩ := g4 e he1
          refine ⟨r, q1, q2, q3, ?_⟩
          have hf := fr r (by rw [q2]; exact of_decide_eq_true he2)
          unfold ab_cv at q4 ⊢
          rw [hf.1, hf.2]
          exact q4
        obtain ⟨e, he, e1, t, hG⟩ := after_ok hq g1 g2 gd g4' gr rt po
        refine ⟨(st.take kk).reverse, st.drop kk, y, v, h2, e, ?_, y1, y2, ev, o3, he, ⟨t, hG⟩, t2, fr.wide o6⟩
        rw [e1]
        unfold ab_recv at o8
        have hhd : ∀ {A : AV} {L : List AV}, (ast.take kk).reverse = A :: L → ∃ w W, (st.take kk).reverse = w :: W ∧ gv rho A w := by
          intro A L hA
          rw [hA] at gr
          obtain ⟨w, W, z1, z2, -⟩ := gr
          exact ⟨w, W, z1, z2⟩
        rcases o1 with (o1 | o1) | o1
        · subst o1
          rw [if_neg (by decide)] at hkk
          simp only [fl_step, fl_call, hkk]
          rw [if_neg (by omega), if_pos hcat]
          simp only [if_true]
          simp only [Bool.or_eq_true, Bool.and_eq_true, beq_iff_eq] at o8
          rcases o8 with o8 | o8
          · exact absurd o8 (by decide)
          · split at o8
            · rename_i A L hA
              obtain ⟨w, W, z1, z2⟩ := hhd hA
              simp only [Bool.or_eq_true, Bool.and_eq_true, beq_iff_eq, decide_eq_true_eq] at o8
              obtain ⟨p1, p2⟩ := o8
              obtain ⟨r, k1, rfl, k2⟩ := gv_ref p1 z2
              rw [z1]
              simp only
              rcases p2 with p2 | ⟨p2, p3⟩
              · exact absurd p2 (by decide)
              · split at p3
                · rename_i code size tys y' hK hy'
                  obtain ⟨w1, w2⟩ := ab_kdK (by rw [k2]; exact p2) (by rw [k2]; exact hK)
                  rw [if_pos ⟨w1, by rw [w2, hy']; exact of_decide_eq_true (by simpa using p3)⟩, ← o2]
                · cases p3
            · cases o8
        · subst o1
          rw [if_pos rfl] at hkk
          simp only [fl_step, fl_call, hkk]
          rw [if_neg (by omega), if_pos hcat]
          rw [if_neg (by decide), if_neg (by decide), ← o2]
        · subst o1
          rw [if_neg (by decide)] at hkk
          simp only [fl_step, fl_call, hkk]
          rw [if_neg (by omega), if_pos hcat]
          simp only [Bool.or_eq_true, Bool.and_eq_true, beq_iff_eq] at o8
          rcases o8 with o8 | o8
          · exact absurd o8 (by decide)
          · split at o8
            · rename_i A L hA
              obtain ⟨w, W, z1, z2⟩ := hhd hA
              simp only [Bool.and_eq_true, beq_iff_eq] at o8
              obtain ⟨r, k1, rfl, k2⟩ := gv_ref o8.1 z2
              rw [if_neg (by decide), if_pos trivial, z1, ← o2]
            · cases o8
      · cases hq
    · cases hq
  · cases hq
end
section
/-! THE WALK IS RIGHT, and so is the check of a contract -/
theorem Gd.to {c : CT} {as : List Value} {h0 : Hp} {pc : Nat} {ls : List (Option Value)} {st : List Value} {h : Hp} {pc' : Nat} {ls' : List (Option Value)} {st' : List Value} {h' : Hp} (hE : ∀ r, Ev c.2.1 c.1 (pc', ls', st', h', fl_tot) r → Ev c.2.1 c.1 (pc, ls, st, h, fl_tot) r) (g : Gd c as h0 pc' ls' st' h') : Gd c as h0 pc ls st h := by
  obtain ⟨v, h2, ev, x⟩ := g
  exact ⟨v, h2, hE _ ev, x⟩
theorem go_ok {cts : List CT} {c : CT} {hds : List (Nat × HD)} {cm : List (Nat × Nat)} {lim : Nat} {m0 : Option (List (Nat × AV × Int))} {avs : List AV} {as : List Value} {h0 : Hp} {Y : List Int}
    (hcv : ∀ (j : Nat) (cc : CT), j < lim → cts[j]? = some cc → CV cc)
    (hHd : ∀ (pc : Nat) (hd : HD), hds.lookup pc = some hd → ∀ (rho : List Int) (ls : List (Option Value)) (st : List Value) (h : Hp), Gm rho (ab_head hd) ls st h → TInv h → Fr c.2.2.2.2.1 h0 h → (m0 = none ∨ (lexlt (hd.2.2.map (cme ls)) Y ∧ hd.2.2.length = Y.length)) → Gd c as h0 pc ls st h) :
    ∀ (f : Nat) (first : Bool) (pc : Nat) (s : AS) (rho : List Int) (ls : List (Option Value)) (st : List Value) (h : Hp), ab_go cts c hds cm lim m0 avs f first pc s = true → Gm rho s ls st h → TInv h → Fr c.2.2.2.2.1 h0 h → (∀ m, m0 = some m → (∀ y ∈ m, vld rho y) ∧ Y = m.map (mvv rho)) → (m0 = none → gs rho avs as) → Gd c as h0 pc ls st h := by
  intro f
  induction f with
  | zero => intro first pc s rho ls st h hg; cases hg
  | succ f ih =>
    intro first pc s rho ls st h hg G hT hF hm ha
    unfold ab_go at hg
    generalize hlk : (if first = true then none else hds.lookup pc) = lk at hg
    cases lk with
    | some hd =>
      simp only [Bool.and_eq_true] at hg
      obtain ⟨⟨q1, q2⟩, q3⟩ := hg
      have hlk' : hds.lookup pc = some hd := by
        cases first
        · exact hlk
        · cases hlk
      obtain ⟨rho', G'⟩ := head_ok G q1 q2
      refine hHd pc hd hlk' rho' ls st h G' hT hF ?_
      cases hm0 : m0 with
      | none => exact Or.inl rfl
      | some m =>
        right
        obtain ⟨-, e⟩ := hm m hm0
        rw [hm0] at q3
        simp only [Bool.and_eq_true, decide_eq_true_eq] at q3
        rw [e]
        exact ⟨lt_ok G.1 G.2.1 q3.1, by rw [List.length_map]; exact q3.2⟩
    | none =>
      simp only at hg
      cases hc : fl_code c.1 pc with
      | none => rw [hc] at hg; cases hg
      | some q =>
        rw [hc] at hg
        simp only at hg
        have hext : ∀ t : List Int, (∀ m, m0 = some m → (∀ y ∈ m, vld (rho ++ t) y) ∧ Y = m.map (mvv (rho ++ t))) := by
          intro t m e
          obtain ⟨a1, a2⟩ := hm m e
          exact ⟨fun y hy => (vld_ext (a1 y hy)).1, by rw [a2]; exact List.map_congr_left fun y hy => (vld_ext (a1 y hy)).2.symm⟩
        by_cases hr : 21 ≤ q.1 ∧ q.1 ≤ 24
        · rw [if_pos hr] at hg
          split at hg
          · rename_i hn
            refine ret_ok hg hc G hT hF ?_
            rw [Bool.or_eq_true] at hn
            rcases hn with hn | hn
            · right
              cases m0 with
              | none => exact gs_get (ha rfl)
              | some m => cases hn
            · exact Or.inl (List.isEmpty_iff.mp hn)
          · cases hg
        · rw [if_neg hr] at hg
          by_cases hk : 18 ≤ q.1 ∧ q.1 ≤ 20
          · rw [if_pos hk] at hg
            split at hg
            · rename_i j hj
              split at hg
              · rename_i hjl
                split at hg
                · rename_i cc hcc
                  split at hg
                  · rename_i l hl
                    obtain ⟨as2, rest, y, v, h2, e, s1, s2, s3, s4, s5, s6, ⟨t, G2⟩, T2, F2⟩ := call_ok (pc := pc) hl (hcv j cc hjl hcc) G hT
                    have hgo := List.all_eq_true.mp hg e s6
                    obtain ⟨d, hd⟩ : ∃ d, c.2.1 = d + 1 := ⟨c.2.1 - 1, by omega⟩
                    refine Gd.to (fun r ev => ?_) (ih false e.1 e.2 _ ls (v.toList ++ rest) h2 hgo G2 T2 (hF.trans F2) (hext t) (fun z => gs_ext (ha z)))
                    rw [hd] at ev ⊢
                    exact Ev.call hc s1 s2 s3 (s4.mono (by omega)) ev
                  · cases hg
                · cases hg
              · cases hg
            · cases hg
          · rw [if_neg hk] at hg
            split at hg
            · rename_i l hl
              obtain ⟨c', e, t, s1, s2, s3, s4, s5, s6, s7⟩ := step_all (pc := pc) hl G hT
              have hgo := List.all_eq_true.mp hg e s2
              obtain ⟨pc', ls', st', h', n'⟩ := c'
              simp only at s1 s2 s3 s4 s5 s6 s7
              subst s6
              refine Gd.to (fun r ev => ?_) (ih false e.1 e.2 _ ls' st' h' hgo s4 s5 (hF.trans s7) (hext t) (fun z => gs_ext (ha z)))
              rw [s3] at ev
              exact Ev.step hc s1 ev
            · cases hg
theorem lk_mem2 {hd : HD} {pc : Nat} : ∀ {hds : List (Nat × HD)}, hds.lookup pc = some hd → (pc, hd) ∈ hds
  | [], h => by cases h
  | (k, x) :: l, h => by
    rw [List.lookup_cons] at h
    split at h
    · rename_i e
      cases h
      rw [beq_iff_eq] at e
      subst e
      exact List.mem_cons_self
    · exact List.mem_cons_of_mem _ (lk_mem2 h)
theorem loc_ok {rho : List Int} : ∀ {avs : List AV} {as : List Value}, gs rho avs as → gl rho (ab_loc avs) (fl_args as)
  | [], _, h => by
    have : _ = [] := h
    subst this
    exact ⟨rfl, fun i a hi => by simp [ab_loc] at hi⟩
  | a :: l, _, ⟨v, w, e, h2, h3⟩ => by
    subst e
    have ih := loc_ok h3
    unfold ab_loc fl_args
    by_cases h5 : a.1 = 5
    · obtain ⟨x, rfl⟩ := gv_long h5 h2
      rw [if_pos h5, if_pos (show (Value.long x).category = 2 from rfl)]
      exact gl_cons ⟨fun z => by omega, fun _ => ⟨_, rfl, h2⟩⟩ (gl_cons ⟨fun _ v hv => (by cases hv), fun z => absurd rfl z⟩ ih)
    · have hc : v.category = 1 := by
        unfold gv at h2
        split at h2
        · obtain ⟨_, _, _, rfl, _⟩ := h2; rfl
        · obtain ⟨_, _, rfl, _⟩ := h2; rfl
        · subst h2; rfl
        · obtain ⟨_, _, q⟩ := h2
          rcases q with ⟨_, rfl⟩ | ⟨_, _, rfl, _⟩ <;> rfl
        · rename_i h5'; exact absurd h5' h5
        · exact h2
      rw [if_neg h5, if_neg (by omega)]
      exact gl_cons ⟨fun _ u hu => by cases hu; exact hc, fun _ => ⟨_, rfl, h2⟩⟩ ih
theorem pad_ok {rho : List Int} {l : List AV} {os : List (Option Value)} (h : gl rho l os) (n : Nat) : gl rho (l ++ List.replicate n (0, 0, 0)) (os ++ List.replicate n none) := by
  refine ⟨by simp [h.1], fun i a hi => ?_⟩
  by_cases hlt : i < l.length
  · rw [List.getElem?_append_left hlt] at hi
    rw [List.getElem?_append_left (by rw [← h.1]; exact hlt)]
    exact h.2 i a hi
  · rw [List.getElem?_append_right (by omega)] at hi
    rw [List.getElem?_append_right (by rw [← h.1]; omega)]
    obtain ⟨hi1, hi2⟩ := List.getElem?_eq_some_iff.mp hi
    rw [List.getElem_replicate] at hi2
    subst hi2
    refine ⟨fun _ v hv => ?_, fun z => absurd rfl z⟩
    obtain ⟨hv1, hv2⟩ := List.getElem?_eq_some_iff.mp hv
    rw [List.getElem_replicate] at hv2
    cases hv2
theorem pre_ok {as : List Value} {h : Hp} {avs : List AV} : ∀ {ps : List (Nat × Nat × Int × Int)} {rho : List Int} {env : List (Int × Int)}, ga rho env → gs rho avs as → (∀ p ∈ ps, pOK as h p) → ∃ t, ga (rho ++ t) (ab_pre avs env ps).2 ∧ gc (rho ++ t) h (ab_pre avs env ps).1
  | [], rho, env, g, _, _ => ⟨[], by rw [nil_app]; exact g, fun e he => by cases he⟩
  | p :: ps, rho, env, g, ha, hp => by
    have hp' : ∀ p ∈ ps, pOK as h p := fun z hz => hp z (List.mem_cons_of_mem _ hz)
    unfold ab_pre
    split
    · rename_i a hav
      split
      · rename_i h2
        obtain ⟨v, e1, e2⟩ := gs_get ha _ _ hav
        obtain ⟨r, e3, b1, b2⟩ := hp p List.mem_cons_self
        cases e1.symm.trans e3
        obtain ⟨r', z1, e4, z2⟩ := gv_ref h2.1 e2
        cases e4
        have hio := h2.2
        unfold ab_io at hio
        simp only [Bool.and_eq_true, decide_eq_true_eq] at hio
        obtain ⟨k1, k2⟩ := hio
        split at k2
        · rename_i code size tys hK
          obtain ⟨-, hl⟩ := ab_kdK (by rw [z2]; exact k1) (by rw [z2]; exact hK)
          obtain ⟨t, q1, q2⟩ := pre_ok (ps := ps) (ga_push (x := (h.1 r p.2.1).toInt) g (Or.inr ⟨b1, b2⟩)) (gs_ext ha) hp'
          refine ⟨[(h.1 r p.2.1).toInt] ++ t, by rw [← List.append_assoc]; exact q1, fun e he => ?_⟩
          rw [← List.append_assoc]
          rcases List.mem_cons.mp he with rfl | he
          · exact ⟨r, get_ext (get_ext z1), z2, by rw [hl]; exact of_decide_eq_true k2, gv_ext (gv_mk (by rw [ga_last g]; simp))⟩
          · exact q2 e he
        · cases k2
      · exact pre_ok g ha hp'
    · exact pre_ok g ha hp'
theorem chk_ok {cts : List CT} {i : Nat} {hds : List (Nat × HD)} {cm : List (Nat × Nat)} {fuel : Nat} {c : CT} (hi : cts[i]? = some c) (hcv : ∀ (j : Nat) (cc : CT), j < i → cts[j]? = some cc → CV cc) (hk : ab_chk cts i hds cm fuel = true) : CV c := by
  unfold ab_chk at hk
  rw [hi] at hk
  simp only at hk
  cases hy : sm_ms[c.1]? with
  | none => rw [hy] at hk; cases hk
  | some y =>
    rw [hy] at hk
    simp only [Bool.and_eq_true, decide_eq_true_eq, List.all_eq_true, beq_iff_eq] at hk
    obtain ⟨⟨k1, k2⟩, k3⟩ := hk
    intro as h hT haok hpre
    have heads : ∀ (N pc : Nat) (hd : HD), hds.lookup pc = some hd → ∀ (rho : List Int) (ls : List (Option Value)) (st : List Value) (h' : Hp), Gm rho (ab_head hd) ls st h' → TInv h' → Fr c.2.2.2.2.1 h h' → num (hd.2.2.map (cme ls)) < N → Gd c as h pc ls st h' := by
      intro N
      induction N with
      | zero => intro pc hd _ rho ls st h' _ _ _ hn; omega
      | succ N ih =>
        intro pc hd hlk rho ls st h' G T F hn
        obtain ⟨⟨-, m1⟩, m2⟩ := k3 _ (lk_mem2 hlk)
        obtain ⟨r1, r2, r3⟩ := mr_ok G.1 G.2.1 m1
        refine go_ok (Y := hd.2.2.map (cme ls)) hcv (fun pc' hd' hlk' rho' ls' st' h2 G' T' F' hlex => ?_) fuel true pc _ rho ls st h' m2 G T F (fun m e => by cases e; exact ⟨r2, r3⟩) (fun z => by cases z)
        rcases hlex with z | ⟨z1, z2⟩
        · cases z
        · obtain ⟨⟨-, n1⟩, -⟩ := k3 _ (lk_mem2 hlk')
          have n2 := (mr_ok G'.1 G'.2.1 n1).1
          have := num_lt z1 (by rw [List.length_map]; exact z2) n2 r1
          exact ih pc' hd' hlk' rho' ls' st' h2 G' T' F' (by omega)
    have g0 : ga [0] [(0, 0)] := ⟨rfl, fun i b hb => by
      cases i with
      | zero => cases hb; exact ⟨0, rfl, Or.inr ⟨Int.le_refl _, Int.le_refl _⟩⟩
      | succ i => simp at hb⟩
    obtain ⟨t, a1, a2⟩ := mk_ok c.2.2.1 (as.map some) [(0, 0)] [0] g0 (aOK_l haok)
    have a3 := gs_of_gl a2
    obtain ⟨t2, b1, b2⟩ := pre_ok (h := h) a1 a3 hpre
    have e1 : (ab_entry c y.2.2.1).1 = (ab_mk [(0, 0)] c.2.2.1).1 := rfl
    have hl := loc_ok a3
    have hlen : (fl_args as).length ≤ y.2.2.1 := by rw [← hl.1, ← e1]; exact k1
    refine ⟨y, hy, hlen, ?_⟩
    have hG : Gm ([0] ++ t ++ t2) (ab_entry c y.2.2.1).2 (fl_enter y.2.2.1 as) [] h := by
      refine ⟨b1, ?_, rfl, b2⟩
      have := pad_ok (gl_ext (t := t2) hl) (y.2.2.1 - (fl_args as).length)
      unfold fl_enter
      show gl _ (ab_loc (ab_mk [(0, 0)] c.2.2.1).1 ++ List.replicate (y.2.2.1 - (ab_loc (ab_mk [(0, 0)] c.2.2.1).1).length) (0, 0, 0)) _
      rw [hl.1]
      exact this
    exact go_ok (Y := []) hcv (fun pc' hd' hlk' rho' ls' st' h2 G' T' F' _ => heads _ pc' hd' hlk' rho' ls' st' h2 G' T' F' (Nat.lt_succ_self _)) fuel false 0 _ _ _ _ h k2 hG hT Fr.rfl' (fun m e => by cases e) (fun _ => by rw [e1]; exact gs_ext a3)
end
section
/-! THE OPEN WALK: from a state to stops and ends, the names kept -/
def ab_cat2 (l : List (Option (List (Nat × AS)))) : Option (List (Nat × AS)) := match l with
  | [] => some []
  | none :: _ => none
  | some x :: l => (match ab_cat2 l with
    | some y => some (x ++ y)
    | none => none)
def ab_walk (cts : List CT) (c : CT) (stops : List Nat) (cm : List (Nat × Nat)) (lim : Nat) : Nat → Bool → Nat → AS → Option (List (Nat × AS))
  | 0, _, _, _ => none
  | f + 1, first, pc, s => if first = false ∧ pc ∈ stops then some [(pc, s)] else match fl_code c.1 pc with
      | none => none
      | some q => if 21 ≤ q.1 ∧ q.1 ≤ 24 then some [(pc, s)]
        else if 18 ≤ q.1 ∧ q.1 ≤ 20 then (match cm.lookup pc with
          | some j => if j < lim then (match cts[j]? with
            | some cc => (match ab_call c cc q s with
              | some l => ab_cat2 (l.map (fun e => ab_walk cts c stops cm lim f false e.1 e.2))
              | none => none)
            | none => none) else none
          | none => none)
        else (match ab_step c.2.2.2.2.1 q s with
          | some l => ab_cat2 (l.map (fun e => ab_walk cts c stops cm lim f false e.1 e.2))
          | none => none)
theorem cat2_ok : ∀ {α : Type} {g : α → Option (List (Nat × AS))} {l : List α} {L : List (Nat × AS)}, ab_cat2 (l.map g) = some L → ∀ e ∈ l, ∃ L', g e = some L' ∧ ∀ x ∈ L', x ∈ L
  | _, _, [], _, _, e, he => by cases he
  | _, g, a :: l, L, h, e, he => by
    rw [List.map_cons] at h
    cases hg : g a with
    | none => rw [hg] at h; cases h
    | some x =>
      rw [hg] at h
      unfold ab_cat2 at h
      split at h
      · rename_i y hy
        cases h
        rcases List.mem_cons.mp he with rfl | he
        · exact ⟨x, hg, fun z hz => List.mem_append_left _ hz⟩
        · obtain ⟨L', q1, q2⟩ := cat2_ok hy e he
          exact ⟨L', q1, fun z hz => List.mem_append_right _ (q2 z hz)⟩
      · cases h
/-- from here the machine comes there -/
def Rch (c : CT) (rho : List Int) (h0 : Hp) (pc : Nat) (ls : List (Option Value)) (st : List Value) (h : Hp) (L : List (Nat × AS)) : Prop :=
  ∃ e ∈ L, ∃ (t : List Int) (ls' : List (Option Value)) (st' : List Value) (h' : Hp), Gm (rho ++ t) e.2 ls' st' h' ∧ TInv h' ∧ Fr c.2.2.2.2.1 h0 h' ∧ ∀ r, Ev c.2.1 c.1 (e.1, ls', st', h', fl_tot) r → Ev c.2.1 c.1 (pc, ls, st, h, fl_tot) r
theorem walk_ok {cts : List CT} {c : CT} {stops : List Nat} {cm : List (Nat × Nat)} {lim : Nat} {h0 : Hp} (hcv : ∀ (j : Nat) (cc : CT), j < lim → cts[j]? = some cc → CV cc) :
    ∀ (f : Nat) (first : Bool) (pc : Nat) (s : AS) (L : List (Nat × AS)) (rho : List Int) (ls : List (Option Value)) (st : List Value) (h : Hp), ab_walk cts c stops cm lim f first pc s = some L → Gm rho s ls st h → TInv h → Fr c.2.2.2.2.1 h0 h → Rch c rho h0 pc ls st h L := by
  intro f
  induction f with
  | zero => intro first pc s L rho ls st h hg; cases hg
  | succ f ih =>
    intro first pc s L rho ls st h hg G hT hF
    have here : L = [(pc, s)] → Rch c rho h0 pc ls st h L := fun e => by
      subst e
      exact ⟨_, List.mem_singleton.mpr rfl, [], ls, st, h, by rw [nil_app]; exact G, hT, hF, fun r ev => ev⟩
    unfold ab_walk at hg
    split at hg
    · exact here (Option.some.inj hg).symm
    · cases hc : fl_code c.1 pc with
      | none => rw [hc] at hg; cases hg
      | some q =>
        rw [hc] at hg
        simp only at hg
        by_cases hr : 21 ≤ q.1 ∧ q.1 ≤ 24
        · rw [if_pos hr] at hg
          exact here (Option.some.inj hg).symm
        · rw [if_neg hr] at hg
          by_cases hk : 18 ≤ q.1 ∧ q.1 ≤ 20
          · rw [if_pos hk] at hg
            split at hg
            · rename_i j hj
              split at hg
              · rename_i hjl
                split at hg
                · rename_i cc hcc
                  split at hg
                  · rename_i l hl
                    obtain ⟨as2, rest, y, v, h2, e, s1, s2, s3, s4, s5, s6, ⟨t, G2⟩, T2, F2⟩ := call_ok (pc := pc) hl (hcv j cc hjl hcc) G hT
                    obtain ⟨L', w1, w2⟩ := cat2_ok hg e s6
                    obtain ⟨d, hd⟩ : ∃ d, c.2.1 = d + 1 := ⟨c.2.1 - 1, by omega⟩
                    obtain ⟨e', k1, t', ls', st', h', k2, k3, k4, k5⟩ := ih false e.1 e.2 L' _ ls (v.toList ++ rest) h2 w1 G2 T2 (hF.trans F2)
                    refine ⟨e', w2 _ k1, t ++ t', ls', st', h', by rw [← List.append_assoc]; exact k2, k3, k4, fun r ev => ?_⟩
                    have ev := k5 r ev
                    rw [hd] at ev ⊢
                    exact Ev.call hc s1 s2 s3 (s4.mono (by omega)) ev
                  · cases hg
                · cases hg
              · cases hg
            · cases hg
          · rw [if_neg hk] at hg
            split at hg
            · rename_i l hl
              obtain ⟨c', e, t, s1, s2, s3, s4, s5, s6, s7⟩ := step_all (pc := pc) hl G hT
              obtain ⟨L', w1, w2⟩ := cat2_ok hg e s2
              obtain ⟨pc', ls1, st1, h1, n'⟩ := c'
              simp only at s1 s2 s3 s4 s5 s6 s7
              subst s6
              obtain ⟨e', k1, t', ls', st', h', k2, k3, k4, k5⟩ := ih false e.1 e.2 L' _ ls1 st1 h1 w1 s4 s5 (hF.trans s7)
              refine ⟨e', w2 _ k1, t ++ t', ls', st', h', by rw [← List.append_assoc]; exact k2, k3, k4, fun r ev => ?_⟩
              have ev := k5 r ev
              rw [s3] at ev
              exact Ev.step hc s1 ev
            · cases hg
/-- entering a method: its first state -/
theorem entry_ok {c : CT} {y : sm_M} {as : List Value} {h : Hp} (hk : decide ((ab_loc (ab_entry c y.2.2.1).1).length ≤ y.2.2.1) = true) (ha : aOK c.2.2.1 as) (hpre : ∀ p ∈ c.2.2.2.2.2.1, pOK as h p) :
    (fl_args as).length ≤ y.2.2.1 ∧ ∃ rho, Gm rho (ab_entry c y.2.2.1).2 (fl_enter y.2.2.1 as) [] h ∧ gs rho (ab_entry c y.2.2.1).1 as := by
  have k1 := of_decide_eq_true hk
  have g0 : ga [0] [(0, 0)] := ⟨rfl, fun i b hb => by
    cases i with
    | zero => cases hb; exact ⟨0, rfl, Or.inr ⟨Int.le_refl _, Int.le_refl _⟩⟩
    | succ i => simp at hb⟩
  obtain ⟨t, a1, a2⟩ := mk_ok c.2.2.1 (as.map some) [(0, 0)] [0] g0 (aOK_l ha)
  have a3 := gs_of_gl a2
  obtain ⟨t2, b1, b2⟩ := pre_ok (h := h) a1 a3 hpre
  have e1 : (ab_entry c y.2.2.1).1 = (ab_mk [(0, 0)] c.2.2.1).1 := rfl
  have hl := loc_ok a3
  refine ⟨by rw [← hl.1, ← e1]; exact k1, [0] ++ t ++ t2, ⟨b1, ?_, rfl, b2⟩, by rw [e1]; exact gs_ext a3⟩
  have := pad_ok (gl_ext (t := t2) hl) (y.2.2.1 - (fl_args as).length)
  unfold fl_enter
  show gl _ (ab_loc (ab_mk [(0, 0)] c.2.2.1).1 ++ List.replicate (y.2.2.1 - (ab_loc (ab_mk [(0, 0)] c.2.2.1).1).length) (0, 0, 0)) _
  rw [hl.1]
  exact this
end
section
/-! methods by hand -/
theorem hs_getI {r ci k nx pc : Nat} {ls : List (Option Value)} {st : List Value} {h : Hp} (hl : r < fl_tot ∧ fl_lay r = (ci, (fl_N[ci]?).getD 0)) (hk : fl_kind ci k = 0 ∨ fl_kind ci k = 1) : fl_step (9, [(ci : Int), (k : Int)], nx) (pc, ls, .ref r :: st, h, fl_tot) = some (.inl (nx, ls, .int (h.1 r k) :: st, h, fl_tot)) := by
  simp only [fl_step, Int.toNat_natCast]
  rw [if_pos hl]
  rcases hk with hk | hk <;> rw [hk] <;> rfl
theorem hs_getR {r ci k nx pc : Nat} {ls : List (Option Value)} {st : List Value} {h : Hp} (hl : r < fl_tot ∧ fl_lay r = (ci, (fl_N[ci]?).getD 0)) (hk : fl_kind ci k = 2) : fl_step (9, [(ci : Int), (k : Int)], nx) (pc, ls, .ref r :: st, h, fl_tot) = some (.inl (nx, ls, fl_rv (h.2 r k) :: st, h, fl_tot)) := by
  simp only [fl_step, Int.toNat_natCast]
  rw [if_pos hl, hk]
  rfl
theorem hs_if {o t : Int} {nx pc : Nat} {ls : List (Option Value)} {st : List Value} {h : Hp} {x : Int32} {b : Bool} (hb : fl_cmp o x 0 = some b) : fl_step (6, [o, t], nx) (pc, ls, .int x :: st, h, fl_tot) = some (.inl (if b then t.toNat else nx, ls, st, h, fl_tot)) := by
  simp only [fl_step, hb]
theorem hs_ifc {o t : Int} {nx pc : Nat} {ls : List (Option Value)} {st : List Value} {h : Hp} {x y : Int32} {b : Bool} (hb : fl_cmp o x y = some b) : fl_step (7, [o, t], nx) (pc, ls, .int y :: .int x :: st, h, fl_tot) = some (.inl (if b then t.toNat else nx, ls, st, h, fl_tot)) := by
  simp only [fl_step, hb]
theorem cd38_0 : fl_code 38 0 = some (2, [0, 2], 1) := by decide +kernel
theorem cd38_1 : fl_code 38 1 = some (9, [0, 9], 4) := by decide +kernel
theorem cd38_4 : fl_code 38 4 = some (6, [2, 31], 7) := by decide +kernel
theorem cd38_7 : fl_code 38 7 = some (2, [0, 2], 8) := by decide +kernel
theorem cd38_8 : fl_code 38 8 = some (9, [0, 9], 11) := by decide +kernel
theorem cd38_11 : fl_code 38 11 = some (2, [0, 2], 12) := by decide +kernel
theorem cd38_12 : fl_code 38 12 = some (9, [0, 7], 15) := by decide +kernel
theorem cd38_15 : fl_code 38 15 = some (17, [], 16) := by decide +kernel
theorem cd38_16 : fl_code 38 16 = some (7, [3, 31], 19) := by decide +kernel
theorem cd38_19 : fl_code 38 19 = some (2, [0, 2], 20) := by decide +kernel
theorem cd38_20 : fl_code 38 20 = some (9, [0, 7], 23) := by decide +kernel
theorem cd38_23 : fl_code 38 23 = some (2, [0, 2], 24) := by decide +kernel
theorem cd38_24 : fl_code 38 24 = some (9, [0, 9], 27) := by decide +kernel
theorem cd38_27 : fl_code 38 27 = some (11, [], 28) := by decide +kernel
theorem cd38_28 : fl_code 38 28 = some (8, [32], 31) := by decide +kernel
theorem cd38_31 : fl_code 38 31 = some (1, [-1], 32) := by decide +kernel
theorem cd38_32 : fl_code 38 32 = some (22, [0], 33) := by decide +kernel
theorem cv_nextStep : CV (38, 0, [(2, 18, 0)], (1, -2147483648, 2147483647), [], [], []) := by
  intro as h hT ha _
  obtain ⟨v, w, rfl, hv, hw⟩ := ha
  have : w = [] := hw
  subst this
  obtain ⟨r, rfl, hr⟩ := hv
  have hr : ab_kd r = 18 := hr
  have hK : ∃ tys, ab_K[ab_kd r]? = some (0, 19, tys) ∧ tys[7]? = some (2, 0, 0) := by rw [hr]; exact ⟨_, rfl, rfl⟩
  obtain ⟨tys, hK, h7⟩ := hK
  have hl := ab_kdK (by omega) hK
  have hlay : r < fl_tot ∧ fl_lay r = (0, (fl_N[0]?).getD 0) := ⟨hl.1, hl.2⟩
  obtain ⟨b, hb, hb0⟩ : ∃ b, h.2 r 7 = some b ∧ ab_kd b = 0 := hT r 0 19 tys 7 (2, 0, 0) (by omega) hK (by omega) (by rw [if_pos (by omega)]; exact h7)
  obtain ⟨b1, b2⟩ := ab_kd0 hb0
  refine ⟨_, rfl, (show 1 ≤ 1 from Nat.le_refl 1), ?_⟩
  have fin : ∀ (x : Int32) (e : Ev 0 38 (0, [some (.ref r)], [], h, fl_tot) (some (.int x), h, fl_tot)), Gd (38, 0, [(2, 18, 0)], (1, -2147483648, 2147483647), [], [], []) [.ref r] h 0 [some (.ref r)] [] h := by
    intro x e
    refine ⟨_, h, e, hT, ?_, Fr.rfl', fun _ p hp => by cases hp⟩
    unfold retOK
    rw [if_neg (by decide)]
    exact ⟨_, rfl, x, rfl, i_rng x⟩
  generalize hP : h.1 r 9 = P at *
  have bad : Ev 0 38 (31, [some (.ref r)], [], h, fl_tot) (some (.int (-1)), h, fl_tot) :=
    Ev.step cd38_31 rfl (Ev.ret cd38_32 rfl)
  have ld : ∀ {pc nx : Nat} {st : List Value} {x : Option Value × Hp × Nat}, fl_code 38 pc = some (2, [0, 2], nx) → Ev 0 38 (nx, [some (.ref r)], .ref r :: st, h, fl_tot) x → Ev 0 38 (pc, [some (.ref r)], st, h, fl_tot) x := fun hc e => Ev.step hc rfl e
  have gp : ∀ {pc nx : Nat} {st : List Value} {x : Option Value × Hp × Nat}, fl_code 38 pc = some (9, [0, 9], nx) → Ev 0 38 (nx, [some (.ref r)], .int P :: st, h, fl_tot) x → Ev 0 38 (pc, [some (.ref r)], .ref r :: st, h, fl_tot) x := fun hc e => Ev.step hc (hs_getI (ci := 0) (k := 9) hlay (Or.inl (by decide +kernel))) (by rw [hP]; exact e)
  have gs7 : ∀ {pc nx : Nat} {st : List Value} {x : Option Value × Hp × Nat}, fl_code 38 pc = some (9, [0, 7], nx) → Ev 0 38 (nx, [some (.ref r)], .ref b :: st, h, fl_tot) x → Ev 0 38 (pc, [some (.ref r)], .ref r :: st, h, fl_tot) x := fun hc e => Ev.step hc (hs_getR (ci := 0) (k := 7) hlay (by decide +kernel)) (by rw [hb]; exact e)
  have pre : ∀ {x : Option Value × Hp × Nat}, Ev 0 38 (if decide (P < 0) then 31 else 7, [some (.ref r)], [], h, fl_tot) x → Ev 0 38 (0, [some (.ref r)], [], h, fl_tot) x := fun e => ld cd38_0 (gp cd38_1 (Ev.step cd38_4 (hs_if (b := decide (P < 0)) rfl) e))
  by_cases hneg : P < 0
  · exact fin _ (pre (by rw [decide_eq_true hneg]; exact bad))
  · rw [decide_eq_false hneg] at pre
    have mid : ∀ {x : Option Value × Hp × Nat}, Ev 0 38 (if decide (Int32.ofNat (fl_len h b) ≤ P) then 31 else 19, [some (.ref r)], [], h, fl_tot) x → Ev 0 38 (7, [some (.ref r)], [], h, fl_tot) x := fun e =>
      ld cd38_7 (gp cd38_8 (ld cd38_11 (gs7 cd38_12 (Ev.step cd38_15 (by simp only [fl_step]; exact if_pos (Or.inr ⟨b1, Nat.le_trans (Nat.le_of_lt b2) (by decide)⟩)) (Ev.step cd38_16 (hs_ifc (o := 3) (t := 31) (nx := 19) (pc := 16) (ls := [some (.ref r)]) (st := []) (h := h) (x := P) (y := Int32.ofNat (fl_len h b)) (b := decide (Int32.ofNat (fl_len h b) ≤ P)) rfl) e)))))
    by_cases hlen : Int32.ofNat (fl_len h b) ≤ P
    · exact fin _ (pre (mid (by rw [decide_eq_true hlen]; exact bad)))
    · rw [decide_eq_false hlen] at mid
      have e1 : fl_len h b = ((fl_st[b - 1000]?).getD []).length := by
        unfold fl_len
        rw [if_neg (by omega), if_neg (by omega)]
      have e2 := st_lens (b - 1000) (by omega)
      have e3 : (Int32.ofNat (fl_len h b)).toInt = (fl_len h b : Int) := Int32.toInt_ofNat_of_lt (by omega)
      have e4 : P.toInt < (fl_len h b : Int) := by
        have := Int32.not_le.mp hlen
        have := Int32.lt_iff_toInt_lt.mp this
        omega
      have e5 : 0 ≤ P.toInt := by
        have := Int32.le_iff_toInt_le.mp (Int32.not_lt.mp hneg)
        rw [Int32.toInt_zero] at this
        exact this
      have e6 := (n_of e5 e4).1
      exact fin (h.1 b P.toNatClampNeg) (pre (mid (ld cd38_19 (gs7 cd38_20 (ld cd38_23 (gp cd38_24 (Ev.step cd38_27 (by
        simp only [fl_step]
        refine if_pos ?_
        rw [Bool.and_eq_true]
        refine ⟨?_, e6⟩
        unfold fl_isI
        rw [if_neg (by omega)]
        exact decide_eq_true (by omega)) (Ev.step cd38_28 rfl (Ev.ret cd38_32 rfl)))))))))
end
section
/-! Explorer.seeAnswers, by open walks and what holds between its locals -/
theorem iv_at {rho : List Int} {avs : List AV} {ls : List (Option Value)} {i n : Nat} {o : Int} (g : gl rho avs ls) (h : avs[i]? = some (1, n, o)) : rho[n]? = some (iv_ ls i - o) := by
  obtain ⟨v, e1, e2⟩ := (g.2 _ _ h).2 (fun z => by cases z)
  obtain ⟨x, y, z1, rfl, z2⟩ := gv_int rfl e2
  have : iv_ ls i = y.toInt := by unfold iv_; rw [e1]
  rw [z1, this, z2]
  simp
theorem ref_at {rho : List Int} {avs : List AV} {ls : List (Option Value)} {i n : Nat} {k : Int} (g : gl rho avs ls) (h : avs[i]? = some (2, n, k)) : ∃ r : Nat, ls[i]? = some (some (.ref r)) ∧ rho[n]? = some (r : Int) ∧ ab_kd r = k.toNat := by
  obtain ⟨v, e1, e2⟩ := (g.2 _ _ h).2 (fun z => by cases z)
  obtain ⟨r, z1, rfl, z2⟩ := gv_ref rfl e2
  exact ⟨r, e1, z1, z2⟩
theorem gm_tight {rho : List Int} {ls st : List AV} {env : List (Int × Int)} {ca : List (Nat × Nat × Nat × AV)} {cls : List (Option Value)} {cst : List Value} {h : Hp} {i : Nat} {x : Int} {b : Int × Int} (G : Gm rho (ls, st, env, ca) cls cst h) (hi : rho[i]? = some x) (hb : b.1 ≤ x ∧ x ≤ b.2) : Gm rho (ls, st, env.set i b, ca) cls cst h := ⟨ga_set G.1 hi hb, G.2.1, G.2.2.1, G.2.2.2⟩
theorem same_at {rho t : List Int} {n : Nat} {x y : Int} (h1 : rho[n]? = some x) (h2 : (rho ++ t)[n]? = some y) : x = y := by
  have := (get_ext (t := t) h1).symm.trans h2
  exact Option.some.inj this
theorem env_at {rho : List Int} {env : List (Int × Int)} {n : Nat} {x : Int} {b : Int × Int} (g : ga rho env) (h1 : rho[n]? = some x) (h2 : env[n]? = some b) (hb : b.1 ≤ b.2) : b.1 ≤ x ∧ x ≤ b.2 := by
  obtain ⟨y, z1, z2⟩ := g.2 _ _ h2
  cases h1.symm.trans z1
  omega
abbrev seA : CT := (133, 0, [(2, 27, 0), (1, 0, 4720), (1, 0, 4720), (1, 0, 80)], (1, 0, 1), [], [], [])
abbrev seC : CT := (132, 1, [(2, 27, 0)], (9, 0, 0), [30], [], [])
abbrev seD : CT := (132, 1, [(2, 27, 0)], (9, 0, 0), [27, 30], [], [])
abbrev seCm : List (Nat × Nat) := [(141, 0)]
def seG (h0 : Hp) (pc : Nat) (ls : List (Option Value)) (st : List Value) (h : Hp) : Prop := ∃ h', Ev 1 132 (pc, ls, st, h, fl_tot) (none, h', fl_tot) ∧ TInv h' ∧ Fr [27, 30] h0 h'
def seH0 : AS := ([(2, 1, 27), (0, 0, 0), (0, 0, 0), (0, 0, 0), (0, 0, 0), (0, 0, 0)], [], [(0, 0), (1, 0)], [])
def seH27 : AS := ([(2, 1, 27), (1, 2, 0), (1, 3, 0), (1, 4, 0), (0, 0, 0), (0, 0, 0)], [], [(0, 0), (1, 0), (0, 4720), (0, 4800), (0, 5)], [])
def seH52 : AS := ([(2, 1, 27), (1, 2, 0), (1, 3, 0), (1, 4, 0), (2, 5, 16), (1, 6, 0)], [], [(0, 0), (1, 0), (0, 4720), (0, 4800), (0, 4), (1, 0), (0, 8)], [])
def seH69 : AS := ([(2, 1, 27), (1, 2, 0), (1, 3, 0), (1, 4, 0), (2, 5, 16), (1, 6, 0)], [], [(0, 0), (1, 0), (0, 4720), (0, 4798), (0, 4), (1, 0), (0, 7)], [])
def seH122 : AS := ([(2, 1, 27), (1, 2, 0), (1, 3, 0), (1, 4, 0), (0, 0, 0), (0, 0, 0)], [], [(0, 0), (1, 0), (0, 4720), (0, 4800), (0, 60)], [])
def seH141 : AS := ([(2, 1, 27), (1, 2, 0), (1, 3, 0), (1, 4, 0), (0, 0, 0), (0, 0, 0)], [(1, 5, 0), (1, 6, 0), (1, 7, 0), (2, 8, 27)], [(0, 0), (1, 0), (0, 4720), (0, 4800), (0, 59), (0, 80), (0, 4720), (0, 4720), (1, 0)], [])
def seH10 : AS := ([(2, 1, 27), (1, 2, 0), (0, 0, 0), (0, 0, 0), (0, 0, 0), (0, 0, 0)], [], [(0, 0), (1, 0), (0, 4800)], [])
def seH159 : AS := ([(2, 1, 27), (0, 0, 0), (0, 0, 0), (0, 0, 0), (0, 0, 0), (0, 0, 0)], [(1, 2, 0), (2, 1, 27)], [(0, 0), (1, 0), (0, 59)], [])
def seW (c : CT) (s : List Nat) (pc : Nat) (a : AS) : Option (List (Nat × AS)) := ab_walk [seA] c s seCm 1 200 true pc a
def ab_same (a b : Nat × AS) : Bool := decide (a.1 = b.1) && decide (a.2.1 = b.2.1) && decide (a.2.2.1 = b.2.2.1) && decide (a.2.2.2.1 = b.2.2.2.1) && decide (a.2.2.2.2 = b.2.2.2.2)
def ab_sames : List (Nat × AS) → List (Nat × AS) → Bool
  | [], [] => true
  | a :: l, b :: m => ab_same a b && ab_sames l m
  | _, _ => false
theorem same_eq {a b : Nat × AS} (h : ab_same a b = true) : a = b := by
  obtain ⟨a1, a2, a3, a4, a5⟩ := a
  obtain ⟨b1, b2, b3, b4, b5⟩ := b
  simp only [ab_same, Bool.and_eq_true, decide_eq_true_eq] at h
  obtain ⟨⟨⟨⟨h1, h2⟩, h3⟩, h4⟩, h5⟩ := h
  rw [h1, h2, h3, h4, h5]
theorem sames_eq : ∀ {l m : List (Nat × AS)}, ab_sames l m = true → l = m
  | [], [], _ => rfl
  | [], _ :: _, h => by cases h
  | _ :: _, [], h => by cases h
  | a :: l, b :: m, h => by
    unfold ab_sames at h
    rw [Bool.and_eq_true] at h
    rw [same_eq h.1, sames_eq h.2]
def ab_is (w : Option (List (Nat × AS))) (m : List (Nat × AS)) : Bool := match w with
  | some l => ab_sames l m
  | none => false
theorem is_eq {w : Option (List (Nat × AS))} {m : List (Nat × AS)} (h : ab_is w m = true) : w = some m := by
  cases w with
  | none => cases h
  | some l => rw [sames_eq h]
theorem se_w0 : seW seC [4] 0 seH0 = some [(4, ([(2, 1, 27), (0, 0, 0), (0, 0, 0), (0, 0, 0), (0, 0, 0), (0, 0, 0)], [(1, 2, 0)], [(0, 0), (1, 0), (0, 60)], [(1, 27, 6, (1, 2, 0))]))] := is_eq (by decide +kernel)
theorem se_w1 : seW seC [27] 10 seH10 = some [(27, ([(2, 1, 27), (1, 2, 0), (1, 2, 0), (1, 0, 0), (0, 0, 0), (0, 0, 0)], [], [(0, 0), (1, 0), (0, 4720), (1, 0), (4800, 4800)], [(1, 27, 5, (2, 3, 30))])), (22, ([(2, 1, 27), (1, 2, 0), (0, 0, 0), (0, 0, 0), (0, 0, 0), (0, 0, 0)], [], [(0, 0), (1, 0), (4721, 4800), (1, 0), (4800, 4800)], [(1, 27, 5, (2, 3, 30))]))] := is_eq (by decide +kernel)
theorem se_w2 : seW seC [52, 122] 27 seH27 = some [(122, ([(2, 1, 27), (1, 2, 0), (1, 3, 0), (1, 0, 0), (0, 0, 0), (0, 0, 0)], [], [(0, 0), (1, 0), (0, 4720), (0, 4800), (0, 5), (1, 0), (0, 5)], [(5, 2, 3, (1, 6, 0)), (1, 27, 0, (2, 5, 2))])), (52, ([(2, 1, 27), (1, 2, 0), (1, 3, 0), (1, 4, 0), (2, 8, 16), (1, 0, 0)], [], [(0, 0), (1, 0), (0, 4720), (0, 4800), (0, 4), (1, 0), (1, 5), (1, 0), (1, 0)], [(5, 2, 1, (2, 7, 15)), (5, 2, 3, (1, 6, 0)), (1, 27, 0, (2, 5, 2))]))] := is_eq (by decide +kernel)
theorem se_w3 : seW seC [69, 27] 52 seH52 = some [(27, ([(2, 1, 27), (1, 2, 0), (1, 3, 0), (1, 4, 1), (2, 5, 16), (1, 6, 0)], [], [(0, 0), (1, 0), (0, 4720), (0, 4800), (0, 4), (1, 0), (0, 8), (0, 8)], [(5, 16, 3, (1, 7, 0))])), (69, ([(2, 1, 27), (1, 2, 0), (1, 3, 0), (1, 4, 0), (2, 5, 16), (1, 6, 0)], [], [(0, 0), (1, 0), (0, 4720), (0, 4800), (0, 4), (1, 0), (0, 7), (1, 8)], [(5, 16, 3, (1, 7, 0))]))] := is_eq (by decide +kernel)
theorem se_w4 : seW seC [52] 69 seH69 = some [(52, ([(2, 1, 27), (1, 2, 0), (1, 3, 2), (1, 4, 0), (2, 5, 16), (1, 6, 1)], [], [(0, 0), (1, 0), (0, 4720), (0, 4798), (0, 4), (1, 0), (0, 7), (1, 0), (1, 0), (1, 0), (-2147483648, 2147483647), (1, 0), (-2147483648, 2147483647)], [(11, 18, 16, (1, 12, 0)), (9, 18, 15, (1, 10, 0)), (5, 16, 1, (2, 8, 17)), (1, 27, 5, (2, 7, 30))]))] := is_eq (by decide +kernel)
theorem se_w5 : seW seC [140, 154] 122 seH122 = some [(154, ([(2, 1, 27), (1, 2, 0), (1, 3, 0), (1, 4, 0), (0, 0, 0), (0, 0, 0)], [], [(0, 0), (1, 0), (0, 4720), (0, 4800), (0, 60), (0, 60)], [(1, 27, 6, (1, 5, 0))])), (140, ([(2, 1, 27), (1, 2, 0), (1, 3, 0), (1, 4, 0), (0, 0, 0), (0, 0, 0)], [(1, 2, 0), (1, 3, 0), (1, 2, 0), (1, 7, 0), (2, 1, 27)], [(0, 0), (1, 0), (0, 4720), (0, 4800), (0, 59), (1, 60), (0, 118), (0, 4720)], [(1, 27, 6, (1, 5, 0))]))] := is_eq (by decide +kernel)
theorem se_w6 : seW seC [122] 141 seH141 = some [(122, ([(2, 1, 27), (1, 2, 0), (1, 3, 0), (1, 4, 1), (0, 0, 0), (0, 0, 0)], [], [(0, 0), (1, 0), (0, 4720), (0, 4800), (0, 59), (0, 80), (0, 4720), (0, 4720), (1, 0), (0, 0)], [])), (147, ([(2, 1, 27), (1, 2, 0), (1, 3, 0), (1, 4, 0), (0, 0, 0), (0, 0, 0)], [], [(0, 0), (1, 0), (0, 4720), (0, 4800), (0, 59), (0, 80), (0, 4720), (0, 4720), (1, 0), (1, 1)], []))] := is_eq (by decide +kernel)
theorem se_w7 : seW seC [159] 154 seH0 = some [(159, ([(2, 1, 27), (0, 0, 0), (0, 0, 0), (0, 0, 0), (0, 0, 0), (0, 0, 0)], [(1, 2, 0), (2, 1, 27)], [(0, 0), (1, 0), (0, 60)], [(1, 27, 6, (1, 2, 0))]))] := is_eq (by decide +kernel)
theorem se_w8 : seW seD [] 159 seH159 = some [(164, ([(2, 1, 27), (0, 0, 0), (0, 0, 0), (0, 0, 0), (0, 0, 0), (0, 0, 0)], [], [(0, 0), (1, 0), (0, 59)], [(1, 27, 6, (1, 2, 1))]))] := is_eq (by decide +kernel)
theorem se_cv (hA : CV seA) : ∀ (j : Nat) (cc : CT), j < 1 → [seA][j]? = some cc → CV cc := by
  intro j cc hj h
  obtain rfl : j = 0 := by omega
  cases h
  exact hA
theorem se_go {c : CT} {s : List Nat} {pc : Nat} {S : AS} {L : List (Nat × AS)} {rho : List Int} {ls : List (Option Value)} {st : List Value} {h h0 : Hp} (hw : seW c s pc S = some L) (hA : CV seA) (G : Gm rho S ls st h) (hT : TInv h) (hF : Fr c.2.2.2.2.1 h0 h) : Rch c rho h0 pc ls st h L := walk_ok (se_cv hA) 200 true pc S L rho ls st h hw G hT hF
theorem head_mk {hd : HD} {ls : List (Option Value)} {st : List Value} {h : Hp} (h1 : lOK hd.1 ls) (h2 : lOK hd.2.1 (st.map some)) : ∃ rho', Gm rho' (ab_head hd) ls st h := by
  have g0 : ga [0] [(0, 0)] := ⟨rfl, fun i b hb => by
    cases i with
    | zero => cases hb; exact ⟨0, rfl, Or.inr ⟨Int.le_refl _, Int.le_refl _⟩⟩
    | succ i => simp at hb⟩
  obtain ⟨t, a1, a2⟩ := mk_ok hd.1 ls [(0, 0)] [0] g0 h1
  obtain ⟨t2, b1, b2⟩ := mk_ok hd.2.1 (st.map some) _ _ a1 h2
  exact ⟨_, b1, gl_ext a2, gs_of_gl b2, fun e he => by cases he⟩
theorem Gm.bare {rho : List Int} {ls st : List AV} {env : List (Int × Int)} {ca : List (Nat × Nat × Nat × AV)} {cls : List (Option Value)} {cst : List Value} {h : Hp} (G : Gm rho (ls, st, env, ca) cls cst h) : Gm rho (ls, st, env, []) cls cst h := ⟨G.1, G.2.1, G.2.2.1, fun e he => by cases he⟩
theorem seG.to {h0 : Hp} {pc pc' : Nat} {ls ls' : List (Option Value)} {st st' : List Value} {h h' : Hp} (k : ∀ r, Ev 1 132 (pc', ls', st', h', fl_tot) r → Ev 1 132 (pc, ls, st, h, fl_tot) r) (g : seG h0 pc' ls' st' h') : seG h0 pc ls st h := by
  obtain ⟨h2, ev, x⟩ := g
  exact ⟨h2, k _ ev, x⟩
theorem cd132_164 : fl_code 132 164 = some (21, [], 165) := by decide +kernel
theorem cd132_147 : fl_code 132 147 = some (21, [], 148) := by decide +kernel
theorem cd132_22 : fl_code 132 22 = some (21, [], 23) := by decide +kernel
theorem cd132_140 : fl_code 132 140 = some (5, [1], 141) := by decide +kernel
theorem se_end {h0 : Hp} {pc nx : Nat} {ls : List (Option Value)} {h : Hp} (hc : fl_code 132 pc = some (21, [], nx)) (hT : TInv h) (hF : Fr [27, 30] h0 h) : seG h0 pc ls [] h := ⟨h, Ev.ret hc rfl, hT, hF⟩
theorem se_30 {h0 h : Hp} (hF : Fr [30] h0 h) : Fr [27, 30] h0 h := hF.wide (fun x hx => List.mem_cons_of_mem _ hx)
/-- this: the same cell -/
theorem this_at {rho t : List Int} {avs avs' : List AV} {ls ls' : List (Option Value)} {r : Nat} {k k' : Int} (g : gl rho avs ls) (h1 : avs[0]? = some (2, 1, k)) (hr : ls[0]? = some (some (.ref r))) (g' : gl (rho ++ t) avs' ls') (h2 : avs'[0]? = some (2, 1, k')) : ls'[0]? = some (some (.ref r)) := by
  obtain ⟨r1, a1, a2, -⟩ := ref_at g h1
  obtain ⟨r2, b1, b2, -⟩ := ref_at g' h2
  rw [hr] at a1
  have h3 : r = r1 := by simpa using a1
  have h4 := same_at a2 b2
  have : r2 = r := by omega
  rw [b1, this]
theorem iv_eq {rho t : List Int} {avs avs' : List AV} {ls ls' : List (Option Value)} {i j n : Nat} {o o' : Int} (g : gl rho avs ls) (h1 : avs[i]? = some (1, n, o)) (g' : gl (rho ++ t) avs' ls') (h2 : avs'[j]? = some (1, n, o')) : iv_ ls' j - o' = iv_ ls i - o := (same_at (iv_at g h1) (iv_at g' h2)).symm
section SEE
variable {h0 : Hp} {r : Nat}
theorem se_154 (hA : CV seA) (hs : (h0.1 r 6).toInt ≤ 59) (hk : ab_kd r = 27) {rho : List Int} {ls : List (Option Value)} {h : Hp} (G : Gm rho seH0 ls [] h) (hr : ls[0]? = some (some (.ref r))) (hT : TInv h) (hF : Fr [30] h0 h) : seG h0 154 ls [] h := by
  obtain ⟨e, he, t, ls', st', h', G', T', F', k⟩ := se_go se_w7 hA G hT hF
  obtain rfl := List.mem_singleton.mp he
  refine seG.to k ?_
  have hr' := this_at G.2.1 rfl hr G'.2.1 rfl
  obtain ⟨r1, a1, a2, -⟩ := ref_at (i := 0) G'.2.1 rfl
  have e1 : r1 = r := by rw [hr'] at a1; simpa using a1.symm
  subst e1
  obtain ⟨r2, c1, c2, c3, c4⟩ := G'.2.2.2 _ (List.mem_singleton.mpr rfl)
  have e2 : r2 = r1 := by
    have := a2.symm.trans c1
    simp only [Option.some.injEq] at this
    omega
  subst e2
  obtain ⟨x, y, z1, z2, z3⟩ := gv_int rfl c4
  have hfr := (F' r2 (by rw [hk]; decide)).1
  have z4 : (h0.1 r2 6) = y := by
    have : Value.int (h'.1 r2 6) = .int y := z2
    rw [hfr] at this
    exact (Value.int.inj this)
  have hx := env_at G'.1 z1 (b := (0, 60)) rfl (by decide)
  have G2 : Gm (rho ++ t) seH159 ls' st' h' := (gm_tight (b := (0, 59)) G' z1 ⟨hx.1, by rw [z4] at hs; simp only at z3 ⊢; omega⟩).bare
  obtain ⟨e, he, t2, ls2, st2, h2, G3, T3, F3, k3⟩ := se_go (h0 := h') se_w8 hA G2 T' Fr.rfl'
  obtain rfl := List.mem_singleton.mp he
  refine seG.to k3 ?_
  have : st2 = [] := G3.2.2.1
  subst this
  exact se_end cd132_164 T3 ((se_30 F').trans F3)
theorem se_122 (hA : CV seA) (hs : (h0.1 r 6).toInt ≤ 59) (hk : ab_kd r = 27) : ∀ (N : Nat) (rho : List Int) (ls : List (Option Value)) (h : Hp), Gm rho seH122 ls [] h → ls[0]? = some (some (.ref r)) → TInv h → Fr [30] h0 h → iv_ ls 1 ≤ iv_ ls 2 → iv_ ls 2 ≤ iv_ ls 1 + 80 → (60 - iv_ ls 3).toNat < N → seG h0 122 ls [] h := by
  intro N
  induction N with
  | zero => intro rho ls h _ _ _ _ _ _ hn; omega
  | succ N ih =>
    intro rho ls h G hr hT hF hi1 hi2 hn
    obtain ⟨e, he, t, ls', st', h', G', T', F', k⟩ := se_go se_w5 hA G hT hF
    refine seG.to k ?_
    rcases List.mem_cons.mp he with rfl | he
    · have hr' := this_at G.2.1 rfl hr G'.2.1 rfl
      have hst : st' = [] := G'.2.2.1
      subst hst
      obtain ⟨rho', G2⟩ := head_ok (hd := ([(2, 27, 0), (0, 0, 0), (0, 0, 0), (0, 0, 0), (0, 0, 0), (0, 0, 0)], [], [])) G' (by decide +kernel) (by decide +kernel)
      exact se_154 hA hs hk G2 hr' T' F'
    · obtain rfl := List.mem_singleton.mp he
      have hr' := this_at G.2.1 rfl hr G'.2.1 rfl
      have i1 : iv_ ls' 1 - 0 = iv_ ls 1 - 0 := iv_eq G.2.1 rfl G'.2.1 rfl
      have i2 : iv_ ls' 2 - 0 = iv_ ls 2 - 0 := iv_eq G.2.1 rfl G'.2.1 rfl
      have i3 : iv_ ls' 3 - 0 = iv_ ls 3 - 0 := iv_eq G.2.1 rfl G'.2.1 rfl
      have n2 := iv_at (i := 1) (n := 2) (o := 0) G'.2.1 rfl
      have n3 := iv_at (i := 2) (n := 3) (o := 0) G'.2.1 rfl
      obtain ⟨v1, w1, rfl, p1, v2, w2, rfl, p2, v3, w3, rfl, p3, v4, w4, rfl, p4, v5, w5, rfl, p5, hw⟩ := G'.2.2.1
      have hw : w5 = [] := hw
      subst hw
      obtain ⟨x1, y1, q1, rfl, q1'⟩ := gv_int rfl p1
      obtain ⟨x2, y2, q2, rfl, q2'⟩ := gv_int rfl p2
      have f1 := fits_ok (t := (1, 0, 4720)) G'.1 (by decide +kernel) p3
      have f2 := fits_ok (t := (1, 0, 4720)) G'.1 (by decide +kernel) p4
      have f3 := fits_ok (t := (2, 27, 0)) G'.1 (by decide +kernel) p5
      have u1 : y1.toInt = iv_ ls' 1 := by
        have := q1.symm.trans n2
        simp only [Option.some.injEq] at this
        simp only at q1'
        omega
      have u2 : y2.toInt = iv_ ls' 2 := by
        have := q2.symm.trans n3
        simp only [Option.some.injEq] at this
        simp only at q2'
        omega
      have u3 : (y2 - y1).toInt = y2.toInt - y1.toInt := by rw [Int32.toInt_sub, i_bm (by omega) (by omega)]
      have fl := fitl_l G'.1 (ts := [(2, 27, 0), (1, 0, 4720), (1, 0, 4800), (1, 0, 59), (0, 0, 0), (0, 0, 0)]) (by decide +kernel) G'.2.1
      obtain ⟨rho', G2⟩ := head_mk (h := h') (hd := ([(2, 27, 0), (1, 0, 4720), (1, 0, 4800), (1, 0, 59), (0, 0, 0), (0, 0, 0)], [(1, 0, 80), (1, 0, 4720), (1, 0, 4720), (2, 27, 0)], [])) (st := [.int (y2 - y1), v3, v4, v5]) fl
        ⟨_, _, rfl, ⟨_, rfl, y2 - y1, rfl, by simp only; omega, by simp only; omega⟩, _, _, rfl, ⟨_, rfl, f1⟩, _, _, rfl, ⟨_, rfl, f2⟩, _, _, rfl, ⟨_, rfl, f3⟩, rfl⟩
      refine seG.to (fun r ev => Ev.step (c' := (141, ls', [.int (y2 - y1), v3, v4, v5], h', fl_tot)) cd132_140 rfl ev) ?_
      have G2 : Gm rho' seH141 ls' [.int (y2 - y1), v3, v4, v5] h' := G2
      obtain ⟨e, he, t2, ls2, st2, h2, G3, T3, F3, k3⟩ := se_go se_w6 hA G2 T' F'
      refine seG.to k3 ?_
      rcases List.mem_cons.mp he with rfl | he
      · have hst : st2 = [] := G3.2.2.1
        subst hst
        have hr2 := this_at G2.2.1 rfl hr' G3.2.1 rfl
        have j1 : iv_ ls2 1 - 0 = iv_ ls' 1 - 0 := iv_eq G2.2.1 rfl G3.2.1 rfl
        have j2 : iv_ ls2 2 - 0 = iv_ ls' 2 - 0 := iv_eq G2.2.1 rfl G3.2.1 rfl
        have j3 : iv_ ls2 3 - 1 = iv_ ls' 3 - 0 := iv_eq G2.2.1 rfl G3.2.1 rfl
        obtain ⟨rho3, G4⟩ := head_ok (hd := ([(2, 27, 0), (1, 0, 4720), (1, 0, 4800), (1, 0, 60), (0, 0, 0), (0, 0, 0)], [], [])) G3 (by decide +kernel) (by decide +kernel)
        have b3 := env_at G'.1 (iv_at (i := 3) (n := 4) (o := 0) G'.2.1 rfl) (b := (0, 59)) rfl (by decide)
        simp only at b3
        exact ih rho3 ls2 h2 G4 hr2 T3 F3 (by omega) (by omega) (by omega)
      · obtain rfl := List.mem_singleton.mp he
        have hst : st2 = [] := G3.2.2.1
        subst hst
        exact se_end cd132_147 T3 (se_30 F3)
theorem se_52 (hA : CV seA) {C : Int} (hP : ∀ (rho : List Int) (ls : List (Option Value)) (h : Hp), Gm rho seH27 ls [] h → ls[0]? = some (some (.ref r)) → TInv h → Fr [30] h0 h → iv_ ls 1 ≤ iv_ ls 2 → iv_ ls 2 ≤ iv_ ls 1 + 16 * iv_ ls 3 → iv_ ls 3 = C + 1 → seG h0 27 ls [] h) :
    ∀ (N : Nat) (rho : List Int) (ls : List (Option Value)) (h : Hp), Gm rho seH52 ls [] h → ls[0]? = some (some (.ref r)) → TInv h → Fr [30] h0 h → iv_ ls 1 ≤ iv_ ls 2 → iv_ ls 2 ≤ iv_ ls 1 + 16 * iv_ ls 3 + 2 * iv_ ls 5 → iv_ ls 3 = C → (8 - iv_ ls 5).toNat < N → seG h0 52 ls [] h := by
  intro N
  induction N with
  | zero => intro rho ls h _ _ _ _ _ _ _ hn; omega
  | succ N ih =>
    intro rho ls h G hr hT hF hi1 hi2 hC hn
    have b5 := env_at G.1 (iv_at (i := 5) (n := 6) (o := 0) G.2.1 rfl) (b := (0, 8)) rfl (by decide)
    have b3 := env_at G.1 (iv_at (i := 3) (n := 4) (o := 0) G.2.1 rfl) (b := (0, 4)) rfl (by decide)
    have b1 := env_at G.1 (iv_at (i := 1) (n := 2) (o := 0) G.2.1 rfl) (b := (0, 4720)) rfl (by decide)
    simp only at b5 b3 b1
    obtain ⟨e, he, t, ls', st', h', G', T', F', k⟩ := se_go se_w3 hA G hT hF
    refine seG.to k ?_
    rcases List.mem_cons.mp he with rfl | he
    · have hst : st' = [] := G'.2.2.1
      subst hst
      have hr' := this_at G.2.1 rfl hr G'.2.1 rfl
      have i1 : iv_ ls' 1 - 0 = iv_ ls 1 - 0 := iv_eq G.2.1 rfl G'.2.1 rfl
      have i2 : iv_ ls' 2 - 0 = iv_ ls 2 - 0 := iv_eq G.2.1 rfl G'.2.1 rfl
      have i3 : iv_ ls' 3 - 1 = iv_ ls 3 - 0 := iv_eq G.2.1 rfl G'.2.1 rfl
      obtain ⟨rho3, G4⟩ := head_ok (hd := ([(2, 27, 0), (1, 0, 4720), (1, 0, 4800), (1, 0, 5), (0, 0, 0), (0, 0, 0)], [], [])) G' (by decide +kernel) (by decide +kernel)
      exact hP rho3 ls' h' G4 hr' T' F' (by omega) (by omega) (by omega)
    · obtain rfl := List.mem_singleton.mp he
      have hst : st' = [] := G'.2.2.1
      subst hst
      have hr' := this_at G.2.1 rfl hr G'.2.1 rfl
      have i1 : iv_ ls' 1 - 0 = iv_ ls 1 - 0 := iv_eq G.2.1 rfl G'.2.1 rfl
      have i2 : iv_ ls' 2 - 0 = iv_ ls 2 - 0 := iv_eq G.2.1 rfl G'.2.1 rfl
      have i3 : iv_ ls' 3 - 0 = iv_ ls 3 - 0 := iv_eq G.2.1 rfl G'.2.1 rfl
      have i5 : iv_ ls' 5 - 0 = iv_ ls 5 - 0 := iv_eq G.2.1 rfl G'.2.1 rfl
      have n3 := iv_at (i := 2) (n := 3) (o := 0) G'.2.1 rfl
      have c5 := env_at G'.1 (iv_at (i := 5) (n := 6) (o := 0) G'.2.1 rfl) (b := (0, 7)) rfl (by decide)
      simp only at c5
      obtain ⟨rho3, G4⟩ := head_ok (hd := ([(2, 27, 0), (1, 0, 4720), (1, 0, 4798), (1, 0, 4), (2, 16, 0), (1, 0, 7)], [], [])) (gm_tight (b := (0, 4798)) G' n3 ⟨by simp only; omega, by simp only; omega⟩) (by decide +kernel) (by decide +kernel)
      have G4 : Gm rho3 seH69 ls' [] h' := G4
      obtain ⟨e, he, t2, ls2, st2, h2, G3, T3, F3, k3⟩ := se_go se_w4 hA G4 T' F'
      refine seG.to k3 ?_
      obtain rfl := List.mem_singleton.mp he
      have hst : st2 = [] := G3.2.2.1
      subst hst
      have hr2 := this_at G4.2.1 rfl hr' G3.2.1 rfl
      have j1 : iv_ ls2 1 - 0 = iv_ ls' 1 - 0 := iv_eq G4.2.1 rfl G3.2.1 rfl
      have j2 : iv_ ls2 2 - 2 = iv_ ls' 2 - 0 := iv_eq G4.2.1 rfl G3.2.1 rfl
      have j3 : iv_ ls2 3 - 0 = iv_ ls' 3 - 0 := iv_eq G4.2.1 rfl G3.2.1 rfl
      have j5 : iv_ ls2 5 - 1 = iv_ ls' 5 - 0 := iv_eq G4.2.1 rfl G3.2.1 rfl
      obtain ⟨rho5, G5⟩ := head_ok (hd := ([(2, 27, 0), (1, 0, 4720), (1, 0, 4800), (1, 0, 4), (2, 16, 0), (1, 0, 8)], [], [])) G3 (by decide +kernel) (by decide +kernel)
      exact ih rho5 ls2 h2 G5 hr2 T3 F3 (by omega) (by omega) (by omega) (by omega)
theorem se_27 (hA : CV seA) (hs : (h0.1 r 6).toInt ≤ 59) (hk : ab_kd r = 27) : ∀ (N : Nat) (rho : List Int) (ls : List (Option Value)) (h : Hp), Gm rho seH27 ls [] h → ls[0]? = some (some (.ref r)) → TInv h → Fr [30] h0 h → iv_ ls 1 ≤ iv_ ls 2 → iv_ ls 2 ≤ iv_ ls 1 + 16 * iv_ ls 3 → (5 - iv_ ls 3).toNat < N → seG h0 27 ls [] h := by
  intro N
  induction N with
  | zero => intro rho ls h _ _ _ _ _ _ hn; omega
  | succ N ih =>
    intro rho ls h G hr hT hF hi1 hi2 hn
    have b3 := env_at G.1 (iv_at (i := 3) (n := 4) (o := 0) G.2.1 rfl) (b := (0, 5)) rfl (by decide)
    simp only at b3
    obtain ⟨e, he, t, ls', st', h', G', T', F', k⟩ := se_go se_w2 hA G hT hF
    refine seG.to k ?_
    rcases List.mem_cons.mp he with rfl | he
    · have hst : st' = [] := G'.2.2.1
      subst hst
      have hr' := this_at G.2.1 rfl hr G'.2.1 rfl
      have i1 : iv_ ls' 1 - 0 = iv_ ls 1 - 0 := iv_eq G.2.1 rfl G'.2.1 rfl
      have i2 : iv_ ls' 2 - 0 = iv_ ls 2 - 0 := iv_eq G.2.1 rfl G'.2.1 rfl
      obtain ⟨rho3, G4⟩ := head_ok (hd := ([(2, 27, 0), (1, 0, 4720), (1, 0, 4800), (1, 0, 60), (0, 0, 0), (0, 0, 0)], [], [])) G' (by decide +kernel) (by decide +kernel)
      exact se_122 hA hs hk _ rho3 ls' h' G4 hr' T' F' (by omega) (by omega) (Nat.lt_succ_self _)
    · obtain rfl := List.mem_singleton.mp he
      have hst : st' = [] := G'.2.2.1
      subst hst
      have hr' := this_at G.2.1 rfl hr G'.2.1 rfl
      have i1 : iv_ ls' 1 - 0 = iv_ ls 1 - 0 := iv_eq G.2.1 rfl G'.2.1 rfl
      have i2 : iv_ ls' 2 - 0 = iv_ ls 2 - 0 := iv_eq G.2.1 rfl G'.2.1 rfl
      have i3 : iv_ ls' 3 - 0 = iv_ ls 3 - 0 := iv_eq G.2.1 rfl G'.2.1 rfl
      have c3 := env_at G'.1 (iv_at (i := 3) (n := 4) (o := 0) G'.2.1 rfl) (b := (0, 4)) rfl (by decide)
      simp only at c3
      have n5 := iv_at (i := 5) (n := 0) (o := 0) G'.2.1 rfl
      have c5 := env_at G'.1 n5 (b := (0, 0)) rfl (by decide)
      simp only at c5
      obtain ⟨rho3, G4⟩ := head_ok (hd := ([(2, 27, 0), (1, 0, 4720), (1, 0, 4800), (1, 0, 4), (2, 16, 0), (1, 0, 8)], [], [])) G' (by decide +kernel) (by decide +kernel)
      exact se_52 hA (C := iv_ ls 3) (fun rho4 ls4 h4 Q1 Q2 Q3 Q4 Q5 Q6 Q7 => ih rho4 ls4 h4 Q1 Q2 Q3 Q4 Q5 Q6 (by omega)) _ rho3 ls' h' G4 hr' T' F' (by omega) (by omega) (by omega) (Nat.lt_succ_self _)
end SEE
theorem cd132_4 : fl_code 132 4 = some (1, [2], 5) := by decide +kernel
theorem cd132_5 : fl_code 132 5 = some (5, [2], 6) := by decide +kernel
theorem cd132_6 : fl_code 132 6 = some (1, [40], 8) := by decide +kernel
theorem cd132_8 : fl_code 132 8 = some (5, [2], 9) := by decide +kernel
theorem cd132_9 : fl_code 132 9 = some (3, [1, 0], 10) := by decide +kernel
theorem cv_see (hA : CV seA) : CV seD := by
  intro as h0 hT ha hpre
  obtain ⟨v, w, rfl, hv, hw⟩ := ha
  have : w = [] := hw
  subst this
  obtain ⟨r, rfl, hk⟩ := hv
  have hk : ab_kd r = 27 := hk
  refine ⟨_, rfl, (show 1 ≤ 6 by decide), ?_⟩
  have main : seG h0 0 [some (.ref r), none, none, none, none, none] [] h0 := by
    obtain ⟨rho, G⟩ := head_mk (h := h0) (hd := ([(2, 27, 0), (0, 0, 0), (0, 0, 0), (0, 0, 0), (0, 0, 0), (0, 0, 0)], [], [])) (ls := [some (.ref r), none, none, none, none, none]) (st := [])
      ⟨_, _, rfl, ⟨_, rfl, r, rfl, hk⟩, _, _, rfl, (fun v hv => by cases hv), _, _, rfl, (fun v hv => by cases hv), _, _, rfl, (fun v hv => by cases hv), _, _, rfl, (fun v hv => by cases hv), _, _, rfl, (fun v hv => by cases hv), rfl⟩ rfl
    have G : Gm rho seH0 [some (.ref r), none, none, none, none, none] [] h0 := G
    obtain ⟨e, he, t, ls', st', h', G', T', F', k⟩ := se_go (h0 := h0) se_w0 hA G hT Fr.rfl'
    obtain rfl := List.mem_singleton.mp he
    refine seG.to k ?_
    have hr' := this_at G.2.1 rfl rfl G'.2.1 rfl
    obtain ⟨r1, a1, a2, -⟩ := ref_at (i := 0) G'.2.1 rfl
    have e1 : r1 = r := by rw [hr'] at a1; simpa using a1.symm
    subst e1
    obtain ⟨r2, c1, c2, c3, c4⟩ := G'.2.2.2 _ (List.mem_singleton.mpr rfl)
    have e2 : r2 = r1 := by
      have := a2.symm.trans c1
      simp only [Option.some.injEq] at this
      omega
    subst e2
    obtain ⟨x, y, z1, z2, z3⟩ := gv_int rfl c4
    have hfr := (F' r2 (by rw [hk]; decide)).1
    have z4 : (h0.1 r2 6) = y := by
      have : Value.int (h'.1 r2 6) = .int y := z2
      rw [hfr] at this
      exact (Value.int.inj this)
    have hx := env_at G'.1 z1 (b := (0, 60)) rfl (by decide)
    simp only at hx z3
    obtain ⟨v1, w1, rfl, p1, hw⟩ := G'.2.2.1
    have hw : w1 = [] := hw
    subst hw
    obtain ⟨x1, y1, q1, rfl, q1'⟩ := gv_int rfl p1
    simp only at q1'
    have ex : x1 = x := Option.some.inj (q1.symm.trans z1)
    have ey : y1.toInt = (h0.1 r2 6).toInt := by rw [z4]; omega
    have m1 : (y1 * Int32.ofInt 2).toInt = y1.toInt * 2 := by rw [Int32.toInt_mul, show (Int32.ofInt 2).toInt = 2 from by decide, i_bm (by omega) (by omega)]
    have m2 : (y1 * Int32.ofInt 2 * Int32.ofInt 40).toInt = y1.toInt * 80 := by rw [Int32.toInt_mul, m1, show (Int32.ofInt 40).toInt = 40 from by decide, i_bm (by omega) (by omega)]; omega
    obtain ⟨lsn, s1, s2⟩ := store_ok (i := 1) (v := (1, 3, 0)) (ls' := [(2, 1, 27), (1, 3, 0), (0, 0, 0), (0, 0, 0), (0, 0, 0), (0, 0, 0)]) (w := .int (y1 * Int32.ofInt 2 * Int32.ofInt 40)) (by decide +kernel) (gl_ext (t := [(y1 * Int32.ofInt 2 * Int32.ofInt 40).toInt]) G'.2.1) (gv_mk (by
      have := ga_last (x := (y1 * Int32.ofInt 2 * Int32.ofInt 40).toInt) G'.1
      rw [Int.sub_zero]
      exact this))
    refine seG.to (pc' := 10) (ls' := lsn) (st' := []) (h' := h') (fun q ev => Ev.step cd132_4 rfl (Ev.step cd132_5 rfl (Ev.step cd132_6 rfl (Ev.step cd132_8 rfl (Ev.step cd132_9 (by
      simp only [fl_step]
      rw [if_pos (show fl_is 0 (Value.int (y1 * Int32.ofInt 2 * Int32.ofInt 40)) = true from rfl)]
      have : fl_store ls' (Int.toNat 1) (.int (y1 * Int32.ofInt 2 * Int32.ofInt 40)) = some lsn := s1
      rw [this]) ev))))) ?_
    have hrn : lsn[0]? = some (some (.ref r2)) := by
      obtain ⟨r3, d1, d2, -⟩ := ref_at (i := 0) s2 rfl
      have d3 := get_ext (t := [(y1 * Int32.ofInt 2 * Int32.ofInt 40).toInt]) a2
      have := d3.symm.trans d2
      simp only [Option.some.injEq] at this
      rw [d1, show r3 = r2 by omega]
    have ivn : iv_ lsn 1 = y1.toInt * 80 := by
      have d1 := iv_at (i := 1) s2 rfl
      have d2 := (ga_last (x := (y1 * Int32.ofInt 2 * Int32.ofInt 40).toInt) G'.1).symm.trans d1
      simp only [Option.some.injEq] at d2
      omega
    have gpush := ga_push (x := (y1 * Int32.ofInt 2 * Int32.ofInt 40).toInt) (b := (0, 4800)) G'.1 (Or.inr ⟨by simp only; omega, by simp only; omega⟩)
    have GN : Gm _ ([(2, 1, 27), (1, 3, 0), (0, 0, 0), (0, 0, 0), (0, 0, 0), (0, 0, 0)], [], _, []) lsn [] h' := ⟨gpush, s2, rfl, fun e he => by cases he⟩
    obtain ⟨rho5, G5⟩ := head_ok (hd := ([(2, 27, 0), (1, 0, 4800), (0, 0, 0), (0, 0, 0), (0, 0, 0), (0, 0, 0)], [], [])) GN (by decide +kernel) (by decide +kernel)
    have G5 : Gm rho5 seH10 lsn [] h' := G5
    obtain ⟨e, he, t2, ls2, st2, h2, G3, T3, F3, k3⟩ := se_go se_w1 hA G5 T' F'
    refine seG.to k3 ?_
    rcases List.mem_cons.mp he with rfl | he
    · have hst : st2 = [] := G3.2.2.1
      subst hst
      have hr2 := this_at G5.2.1 rfl hrn G3.2.1 rfl
      have j1 : iv_ ls2 1 - 0 = iv_ lsn 1 - 0 := iv_eq G5.2.1 rfl G3.2.1 rfl
      have j2 : iv_ ls2 2 - 0 = iv_ lsn 1 - 0 := iv_eq G5.2.1 rfl G3.2.1 rfl
      have c1 := env_at G3.1 (iv_at (i := 1) (n := 2) (o := 0) G3.2.1 rfl) (b := (0, 4720)) rfl (by decide)
      have c3 := env_at G3.1 (iv_at (i := 3) (n := 0) (o := 0) G3.2.1 rfl) (b := (0, 0)) rfl (by decide)
      simp only at c1 c3
      obtain ⟨rho6, G6⟩ := head_ok (hd := ([(2, 27, 0), (1, 0, 4720), (1, 0, 4800), (1, 0, 5), (0, 0, 0), (0, 0, 0)], [], [])) G3 (by decide +kernel) (by decide +kernel)
      exact se_27 hA (by omega) hk _ rho6 ls2 h2 G6 hr2 T3 F3 (by omega) (by omega) (Nat.lt_succ_self _)
    · obtain rfl := List.mem_singleton.mp he
      have hst : st2 = [] := G3.2.2.1
      subst hst
      exact se_end cd132_22 T3 (se_30 F3)
  obtain ⟨h', ev, q1, q2⟩ := main
  exact ⟨none, h', ev, q1, by unfold retOK; rw [if_pos rfl], q2, fun _ p hp => by cases hp⟩
end
section
/-! the contracts of the methods, those called first -/
def ab_cts : List CT := [(10, 0, [(2, 12, 0), (1, 0, 0)], (9, 0, 0), [12], [], []),
  (13, 1, [(2, 4, 0), (1, 0, 5), (1, -2147483648, 2147483647), (1, 0, 2)], (9, 0, 0), [4, 12], [], []),
  (12, 2, [(2, 2, 0), (1, 0, 5), (1, -2147483648, 2147483647), (1, 0, 2)], (1, -4, 5), [2, 4, 12], [], []),
  (11, 3, [(2, 1, 0), (1, -2147483648, 2147483647), (1, -2147483648, 2147483647), (1, -2147483648, 2147483647)], (1, -4, 5), [1, 2, 4, 12], [], []),
  (15, 0, [(2, 2, 0)], (1, -4, 4), [2, 16], [], []),
  (14, 1, [(2, 1, 0)], (1, -4, 4), [1, 2, 16], [], []),
  (17, 0, [(2, 2, 0), (1, -2147483648, 2147483647)], (1, 0, 1), [], [], [(1, 9999, 0, 4)]),
  (18, 0, [(2, 2, 0), (1, -2147483648, 2147483647)], (1, 0, 1), [], [], [(1, 9999, 0, 5)]),
  (19, 0, [(2, 4, 0), (1, -2147483648, 2147483647), (1, -2147483648, 2147483647)], (1, 0, 1), [], [], []),
  (20, 0, [(2, 16, 0), (1, 0, 5), (1, -2147483648, 2147483647), (1, -2147483648, 2147483647), (1, -2147483648, 2147483647)], (1, -4, 7), [16, 18], [], []),
  (16, 1, [(2, 1, 0), (1, -2147483648, 2147483647), (1, -2147483648, 2147483647), (1, -2147483648, 2147483647), (1, -2147483648, 2147483647), (1, -2147483648, 2147483647)], (1, -4, 7), [1, 16, 18], [], []),
  (21, 0, [(2, 1, 0), (1, -2147483648, 2147483647), (1, -2147483648, 2147483647)], (1, -2, 1), [1, 28], [], []),
  (23, 1, [(2, 2, 0), (1, -2147483648, 2147483647), (1, -2147483648, 2147483647)], (1, 0, 1), [], [], [(1, 9999, 0, 4), (2, 9999, 0, 7)]),
  (22, 2, [(2, 1, 0), (1, -2147483648, 2147483647), (1, -2147483648, 2147483647), (1, -2147483648, 2147483647)], (1, -2, 1), [1, 18], [], []),
  (24, 1, [(2, 1, 0), (1, -2147483648, 2147483647), (1, -2147483648, 2147483647), (1, -2147483648, 2147483647)], (1, -2, 1), [1, 12], [], []),
  (10, 0, [(2, 11, 0), (1, -1, -1)], (9, 0, 0), [11], [], []),
  (10, 0, [(2, 6, 0), (1, 0, 0)], (9, 0, 0), [6], [], []),
  (29, 1, [(2, 5, 0)], (9, 0, 0), [5, 6], [], []),
  (10, 0, [(2, 9, 0), (1, -1, -1)], (9, 0, 0), [9], [], []),
  (30, 1, [(2, 8, 0)], (9, 0, 0), [8, 9], [], []),
  (28, 2, [(2, 4, 0)], (9, 0, 0), [4, 5, 6, 8, 9, 11, 13], [], []),
  (32, 0, [(2, 4, 0), (1, -2147483648, 2147483647)], (2, 0, 0), [], [], []),
  (33, 0, [(2, 4, 0), (2, 18, 0)], (1, -1, 3), [], [], []),
  (34, 0, [(2, 18, 0), (2, 0, 0), (1, -1, 3)], (9, 0, 0), [18], [], []),
  (31, 1, [(2, 2, 0), (2, 18, 0)], (9, 0, 0), [18], [], []),
  (27, 3, [(2, 2, 0)], (9, 0, 0), [4, 5, 6, 8, 9, 11, 13, 16, 18], [], []),
  (37, 0, [(2, 16, 0)], (4, 18, 0), [], [], [(0, 4, 0, 7)]),
  (38, 0, [(2, 18, 0)], (1, -2147483648, 2147483647), [], [], []),
  (39, 0, [(2, 18, 0)], (1, -2147483648, 2147483647), [], [], []),
  (40, 0, [(2, 4, 0), (1, -2147483648, 2147483647), (1, -2147483648, 2147483647)], (1, 0, 1), [], [], []),
  (36, 1, [(2, 19, 0), (2, 16, 0), (1, 0, 600)], (1, 0, 1), [], [], []),
  (35, 2, [(2, 19, 0), (1, 0, 600)], (1, -2147483648, 2147483647), [], [], []),
  (41, 0, [(1, -2147483648, 2147483647), (1, -2147483648, 2147483647)], (1, 0, 4), [], [], []),
  (43, 0, [(2, 19, 0), (2, 18, 0), (1, 0, 1), (1, 0, 599)], (9, 0, 0), [19, 20], [], []),
  (44, 1, [(2, 19, 0), (2, 16, 0), (2, 18, 0), (1, -2147483648, 2147483647), (1, 0, 599)], (9, 0, 0), [16, 18, 19, 20], [(1, 4, 0, 7)], []),
  (46, 0, [(2, 4, 0), (1, -2147483648, 2147483647), (1, -2147483648, 2147483647)], (9, 0, 0), [11], [], []),
  (47, 0, [(2, 4, 0), (1, -2147483648, 2147483647), (1, -2147483648, 2147483647)], (9, 0, 0), [11], [], []),
  (50, 0, [(2, 8, 0)], (9, 0, 0), [8], [], []),
  (49, 1, [(2, 8, 0)], (9, 0, 0), [8, 9, 10], [], []),
  (51, 0, [(2, 5, 0), (1, -2147483648, 2147483647)], (1, 0, 1), [], [], []),
  (52, 0, [(2, 5, 0), (1, -2147483648, 2147483647)], (1, -2147483648, 2147483647), [], [], []),
  (53, 0, [(2, 18, 0), (1, 0, 1), (1, -2147483648, 2147483647)], (9, 0, 0), [18], [], []),
  (54, 0, [(2, 5, 0)], (1, -2147483648, 2147483647), [], [], []),
  (55, 0, [(2, 5, 0)], (1, -2147483648, 2147483647), [], [], []),
  (56, 1, [(2, 5, 0)], (1, -2147483648, 2147483647), [], [], []),
  (57, 0, [(2, 5, 0), (2, 5, 0)], (9, 0, 0), [5, 6], [], []),
  (48, 2, [(2, 4, 0), (2, 18, 0), (2, 16, 0)], (9, 0, 0), [5, 6, 8, 9, 10, 18], [], []),
  (59, 1, [(2, 4, 0), (2, 18, 0)], (1, 0, 1), [18], [], []),
  (61, 0, [(2, 5, 0)], (1, -2147483648, 2147483647), [], [], []),
  (60, 1, [(2, 4, 0), (2, 18, 0)], (1, 0, 1), [18], [], []),
  (58, 2, [(2, 4, 0), (2, 18, 0)], (1, 0, 1), [18], [], []),
  (62, 1, [(2, 19, 0), (2, 16, 0), (2, 18, 0), (1, 0, 599)], (9, 0, 0), [11, 18], [], []),
  (63, 0, [(2, 4, 0), (1, -2147483648, 2147483647)], (9, 0, 0), [4], [], []),
  (64, 0, [(2, 4, 0), (2, 18, 0)], (9, 0, 0), [4, 13, 18], [], []),
  (67, 0, [(2, 8, 0), (1, 0, 7)], (9, 0, 0), [8, 9, 10], [], []),
  (68, 0, [(2, 5, 0), (1, -2147483648, 2147483647)], (9, 0, 0), [5], [], []),
  (69, 0, [(2, 8, 0), (1, 0, 7)], (9, 0, 0), [8, 9, 10], [], []),
  (70, 0, [(2, 5, 0), (1, -2147483648, 2147483647), (1, -2147483648, 2147483647)], (9, 0, 0), [5, 6], [], []),
  (66, 1, [(2, 4, 0), (2, 18, 0)], (9, 0, 0), [5, 6, 8, 9, 10, 18], [], []),
  (71, 0, [(2, 5, 0), (1, -2147483648, 2147483647)], (9, 0, 0), [5, 6], [], []),
  (72, 0, [(2, 5, 0)], (9, 0, 0), [5], [], []),
  (74, 0, [(2, 5, 0), (1, -2147483648, 2147483647)], (9, 0, 0), [5, 6], [], []),
  (75, 0, [(2, 5, 0)], (9, 0, 0), [5], [], []),
  (73, 1, [(2, 4, 0), (2, 18, 0)], (9, 0, 0), [5, 6], [], []),
  (77, 0, [(2, 18, 0)], (1, -2147483648, 2147483647), [], [], []),
  (76, 1, [(2, 4, 0), (2, 18, 0)], (9, 0, 0), [4, 5, 6, 18], [], []),
  (65, 2, [(2, 4, 0), (2, 18, 0), (2, 16, 0)], (9, 0, 0), [4, 5, 6, 8, 9, 10, 18], [], []),
  (79, 1, [(2, 16, 0)], (4, 18, 0), [], [], []),
  (78, 2, [(2, 2, 0), (1, 0, 5)], (9, 0, 0), [18], [], []),
  (45, 3, [(2, 19, 0), (2, 16, 0), (2, 18, 0), (1, 0, 599)], (9, 0, 0), [4, 5, 6, 8, 9, 10, 11, 13, 18], [], []),
  (42, 4, [(2, 19, 0), (2, 16, 0), (1, 0, 599)], (9, 0, 0), [4, 5, 6, 8, 9, 10, 11, 13, 16, 18, 19, 20], [], []),
  (80, 1, [(2, 19, 0)], (1, 0, 1), [], [], []),
  (26, 5, [(2, 19, 0), (2, 28, 0)], (9, 0, 0), [4, 5, 6, 8, 9, 10, 11, 13, 16, 18, 19, 20, 21, 22], [], []),
  (25, 6, [(2, 1, 0)], (1, 0, 2), [1, 4, 5, 6, 8, 9, 10, 11, 13, 16, 18, 19, 20, 21, 22], [], []),
  (81, 2, [(2, 1, 0), (1, -2147483648, 2147483647), (1, -2147483648, 2147483647)], (1, -2147483648, 2147483647), [], [], []),
  (82, 2, [(2, 1, 0), (1, -2147483648, 2147483647), (1, -2147483648, 2147483647)], (1, -2147483648, 2147483647), [], [], []),
  (83, 2, [(2, 1, 0), (1, -2147483648, 2147483647), (1, -2147483648, 2147483647)], (1, -2147483648, 2147483647), [], [], []),
  (84, 0, [(2, 1, 0), (1, -2147483648, 2147483647), (1, -2147483648, 2147483647)], (1, -2147483648, 2147483647), [], [], []),
  (86, 0, [(2, 2, 0)], (1, -2147483648, 2147483647), [], [], []),
  (87, 2, [(2, 2, 0)], (1, -2147483648, 2147483647), [], [], []),
  (85, 3, [(2, 1, 0), (1, -2147483648, 2147483647)], (1, -2147483648, 2147483647), [], [], []),
  (90, 0, [(1, -2147483648, 2147483647)], (1, 0, 63), [], [], []),
  (89, 1, [(2, 4, 0)], (1, -2147483648, 2147483647), [], [], []),
  (88, 2, [(2, 1, 0), (1, -2147483648, 2147483647)], (1, -2147483648, 2147483647), [], [], []),
  (94, 0, [(2, 8, 0), (2, 9, 0), (1, 0, 3), (2, 14, 0), (1, 0, 32)], (1, 0, 32), [14], [], []),
  (93, 1, [(2, 8, 0), (1, 0, 3), (2, 14, 0), (1, 0, 32)], (1, 0, 32), [14], [], []),
  (92, 2, [(2, 4, 0)], (9, 0, 0), [14], [], []),
  (95, 0, [(2, 4, 0), (1, 0, 2147483646)], (1, -2147483648, 2147483647), [], [], []),
  (97, 0, [(2, 5, 0), (1, 0, 2147483646)], (1, -2147483648, 2147483647), [], [], []),
  (96, 1, [(2, 4, 0), (1, 0, 2147483646)], (1, -2147483648, 2147483647), [], [], []),
  (91, 3, [(2, 1, 0), (1, -2147483648, 2147483647), (1, -2147483648, 2147483647), (1, -2147483648, 2147483647)], (1, -3, 1), [1, 14], [], []),
  (98, 0, [(2, 1, 0)], (1, -2147483648, 2147483647), [], [], []),
  (100, 0, [(2, 4, 0)], (1, -2147483648, 2147483647), [], [], []),
  (101, 0, [(2, 4, 0)], (1, -2147483648, 2147483647), [], [], []),
  (103, 0, [(2, 8, 0)], (1, -2147483648, 2147483647), [], [], []),
  (102, 1, [(2, 4, 0)], (1, -2147483648, 2147483647), [], [], []),
  (99, 2, [(2, 1, 0), (1, -2147483648, 2147483647), (1, -2147483648, 2147483647)], (1, -2147483648, 2147483647), [], [], []),
  (108, 0, [(2, 18, 0)], (1, 0, 1), [], [], []),
  (107, 2, [(2, 23, 0), (1, 0, 5)], (1, 0, 1), [23, 24], [], []),
  (109, 0, [(2, 23, 0)], (9, 0, 0), [25], [], []),
  (112, 1, [(2, 5, 0), (2, 5, 0)], (1, 0, 1), [], [], []),
  (113, 1, [(2, 5, 0), (2, 5, 0)], (1, 0, 1), [], [], []),
  (111, 2, [(2, 5, 0), (1, -2147483648, 2147483647), (2, 5, 0)], (1, 0, 1), [], [], []),
  (110, 3, [(2, 23, 0), (1, 12, 12)], (1, 0, 1), [], [], []),
  (115, 1, [(2, 23, 0), (1, -2147483648, 2147483647)], (1, -2147483648, 2147483647), [], [], []),
  (116, 0, [(2, 18, 0), (1, -2147483648, 2147483647)], (1, 0, 1), [], [], []),
  (118, 0, [(2, 18, 0), (1, 1, 2), (1, 0, 0)], (1, 0, 1), [], [], []),
  (117, 1, [(2, 23, 0), (2, 18, 0)], (1, 0, 1), [], [], []),
  (119, 1, [(2, 23, 0), (2, 18, 0)], (1, 0, 1), [], [], []),
  (120, 1, [(2, 23, 0), (2, 18, 0)], (1, 0, 1), [], [], []),
  (114, 2, [(2, 23, 0), (2, 18, 0)], (1, 0, 1), [], [], []),
  (122, 1, [(2, 23, 0), (2, 18, 0)], (9, 0, 0), [5, 6], [], []),
  (121, 2, [(2, 23, 0), (2, 18, 0)], (9, 0, 0), [5, 6], [], []),
  (124, 1, [(2, 23, 0), (2, 18, 0)], (9, 0, 0), [5, 6], [], []),
  (123, 2, [(2, 23, 0), (2, 18, 0), (1, -2147483648, 2147483647)], (9, 0, 0), [5, 6], [], []),
  (110, 4, [(2, 23, 0), (1, 11, 11)], (1, -5, 1), [5, 6, 23, 26], [], []),
  (110, 5, [(2, 23, 0), (1, 10, 10)], (1, -5, 1), [5, 6, 23, 26], [], []),
  (110, 6, [(2, 23, 0), (1, 9, 9)], (1, -5, 1), [5, 6, 23, 26], [], []),
  (110, 7, [(2, 23, 0), (1, 8, 8)], (1, -5, 1), [5, 6, 23, 26], [], []),
  (110, 8, [(2, 23, 0), (1, 7, 7)], (1, -5, 1), [5, 6, 23, 26], [], []),
  (110, 9, [(2, 23, 0), (1, 6, 6)], (1, -5, 1), [5, 6, 23, 26], [], []),
  (110, 10, [(2, 23, 0), (1, 5, 5)], (1, -5, 1), [5, 6, 23, 26], [], []),
  (110, 11, [(2, 23, 0), (1, 4, 4)], (1, -5, 1), [5, 6, 23, 26], [], []),
  (110, 12, [(2, 23, 0), (1, 3, 3)], (1, -5, 1), [5, 6, 23, 26], [], []),
  (110, 13, [(2, 23, 0), (1, 2, 2)], (1, -5, 1), [5, 6, 23, 26], [], []),
  (110, 14, [(2, 23, 0), (1, 1, 1)], (1, -5, 1), [5, 6, 23, 26], [], []),
  (110, 15, [(2, 23, 0), (1, 0, 0)], (1, -5, 1), [5, 6, 23, 26], [], []),
  (106, 16, [(2, 23, 0), (1, -2147483648, 2147483647), (1, 300, 3000)], (1, -5, 1), [5, 6, 23, 24, 25, 26], [], []),
  (105, 17, [(2, 1, 0), (1, -2147483648, 2147483647)], (1, -5, 1), [1, 5, 6, 23, 24, 25, 26], [], []),
  (104, 18, [(2, 1, 0), (1, -2147483648, 2147483647)], (1, -5, 1), [1, 5, 6, 23, 24, 25, 26], [], []),
  (126, 0, [(2, 23, 0), (1, 0, 11)], (1, -2147483648, 2147483647), [], [], []),
  (125, 18, [(2, 1, 0), (1, -2147483648, 2147483647), (1, -2147483648, 2147483647)], (1, -2147483648, 2147483647), [1, 5, 6, 23, 24, 25, 26], [], []),
  (127, 0, [(2, 1, 0)], (1, -2147483648, 2147483647), [], [], []),
  (128, 18, [(2, 1, 0)], (1, -3, 5), [1, 5, 6, 23, 24, 25, 26], [], []),
  (10, 0, [(2, 28, 0), (1, -1, -1)], (9, 0, 0), [28], [], []),
  (10, 0, [(2, 29, 0), (1, 0, 0)], (9, 0, 0), [29], [], []),
  (130, 1, [(2, 27, 0)], (9, 0, 0), [27, 28, 29], [], []),
  (131, 17, [(2, 27, 0)], (9, 0, 0), [5, 6, 23, 24, 25, 26, 29], [], []),
  (133, 0, [(2, 27, 0), (1, 0, 4720), (1, 0, 4720), (1, 0, 80)], (1, 0, 1), [], [], []),
  (132, 1, [(2, 27, 0)], (9, 0, 0), [27, 30], [], []),
  (134, 0, [(2, 27, 0)], (1, 0, 1), [28], [], []),
  (135, 0, [(2, 27, 0), (1, 0, 60), (1, 0, 1)], (9, 0, 0), [27, 29], [], []),
  (129, 18, [(2, 1, 0), (1, -2147483648, 2147483647)], (1, -4, 60), [1, 4, 5, 6, 8, 9, 10, 11, 13, 16, 18, 19, 20, 21, 22, 23, 24, 25, 26, 27, 28, 29, 30], [], []),
  (136, 0, [(2, 1, 0), (1, -2147483648, 2147483647)], (1, -2147483648, 2147483647), [], [], []),
  (138, 0, [(2, 16, 0), (5, 0, 0)], (5, 0, 0), [], [], []),
  (139, 3, [(2, 4, 0), (5, 0, 0)], (5, 0, 0), [14], [], []),
  (137, 4, [(2, 1, 0)], (5, 0, 0), [14], [], []),
  (140, 1, [(2, 1, 0)], (1, -2147483648, 2147483647), [1, 2, 28], [], [])]
/-- heads of loops, and the contract at each call -/
def ab_cert : List (List (Nat × HD) × List (Nat × Nat)) := [([(5, [(2, 12, 0), (1, 0, 0), (1, 0, 32), (1, 32, 32)], [], [(1, 2, 32)])], []),
  ([], [(20, 0)]),
  ([], [(24, 1)]),
  ([], [(67, 2)]),
  ([], []),
  ([], [(23, 4)]),
  ([], []),
  ([], []),
  ([], []),
  ([], []),
  ([], [(5, 6), (16, 7), (37, 8), (86, 9)]),
  ([], []),
  ([], [(2, 6)]),
  ([], [(6, 12)]),
  ([], [(5, 7)]),
  ([(5, [(2, 11, 0), (1, -1, -1), (1, 0, 4), (1, 4, 4)], [], [(1, 2, 4)])], []),
  ([(5, [(2, 6, 0), (1, 0, 0), (1, 0, 64), (1, 64, 64)], [], [(1, 2, 64)])], []),
  ([], [(5, 16)]),
  ([(5, [(2, 9, 0), (1, -1, -1), (1, 0, 8), (1, 8, 8)], [], [(1, 2, 8)])], []),
  ([], [(5, 18), (13, 18)]),
  ([(63, [(2, 4, 0), (1, 0, 4)], [], [(1, 1, 4)])], [(4, 17), (12, 15), (74, 19)]),
  ([], []),
  ([], []),
  ([], []),
  ([], [(5, 7), (28, 21), (33, 22), (36, 23)]),
  ([(2, [(2, 2, 0), (1, 0, 6), (0, 0, 0), (0, 0, 0)], [], [(0, 0, 1), (1, 1, 6), (0, 0, 0), (0, 0, 0)]), (27, [(2, 2, 0), (1, 0, 5), (0, 0, 0), (0, 0, 0)], [], [(0, 0, 0), (1, 1, 5), (0, 0, 1), (0, 0, 0)]), (49, [(2, 2, 0), (1, 0, 4), (2, 16, 0), (1, 0, 8)], [], [(0, 0, 0), (1, 1, 5), (0, 0, 0), (1, 3, 8)])], [(16, 20), (70, 24)]),
  ([], []),
  ([], []),
  ([], []),
  ([], []),
  ([], [(1, 26), (45, 27), (59, 7), (84, 28), (87, 29)]),
  ([(4, [(2, 19, 0), (1, 0, 600), (1, -2147483648, 2147483647), (1, 0, 5)], [], [(1, 3, 5)])], [(26, 30)]),
  ([(21, [(1, -2147483648, 2147483647), (1, -2147483648, 2147483647), (1, 0, 5)], [], [(1, 2, 5)])], []),
  ([], []),
  ([], [(47, 33)]),
  ([], []),
  ([], []),
  ([], []),
  ([(23, [(2, 8, 0), (1, -2147483648, 2147483647), (1, 0, 8), (0, 0, 0), (0, 0, 0)], [], [(1, 2, 8)])], [(136, 37)]),
  ([], []),
  ([], []),
  ([], []),
  ([], []),
  ([], []),
  ([(4, [(2, 5, 0), (1, -2147483648, 2147483647), (1, 0, 32)], [], [(1, 2, 32)])], [(12, 39)]),
  ([], []),
  ([], [(47, 38), (59, 39), (70, 40), (73, 41), (120, 42), (123, 41), (135, 41), (155, 43), (169, 40), (172, 41), (192, 44), (195, 41), (210, 39), (221, 40), (224, 41), (251, 45)]),
  ([], [(3, 41), (14, 39), (29, 40)]),
  ([], []),
  ([], [(3, 41), (64, 42), (74, 48)]),
  ([], [(10, 47), (18, 49)]),
  ([], [(42, 36)]),
  ([], []),
  ([], []),
  ([(2, [(2, 8, 0), (1, 0, 7), (1, 1, 3), (0, 0, 0), (0, 0, 0), (0, 0, 0), (0, 0, 0), (0, 0, 0)], [], [(1, 2, 3), (0, 0, 1), (0, 0, 0)]), (51, [(2, 8, 0), (1, 0, 7), (1, 1, 2), (2, 9, 0), (1, 0, 7), (1, -2147483648, 2147483647), (1, -2147483648, 2147483647), (1, 0, 8)], [], [(1, 2, 3), (0, 0, 0), (1, 7, 8)])], []),
  ([], []),
  ([], []),
  ([], []),
  ([], [(38, 39), (46, 54), (57, 55), (90, 39), (98, 56), (127, 57)]),
  ([], []),
  ([], []),
  ([], []),
  ([], []),
  ([], [(48, 59), (62, 61), (72, 60), (98, 62)]),
  ([], []),
  ([], [(31, 64), (49, 57)]),
  ([], [(42, 58), (63, 59), (80, 60), (96, 63), (127, 57), (141, 45), (163, 57), (177, 55), (185, 65)]),
  ([], [(1, 26)]),
  ([(2, [(2, 2, 0), (1, 0, 5), (1, 0, 5), (0, 0, 0)], [], [(1, 2, 5)])], [(16, 67)]),
  ([], [(15, 27), (67, 28), (70, 35), (83, 28), (86, 36), (96, 46), (105, 50), (115, 51), (125, 52), (134, 53), (144, 66), (155, 68)]),
  ([], [(1, 26), (17, 7), (47, 33), (62, 34), (70, 69), (93, 34)]),
  ([(2, [(2, 19, 0), (1, 0, 5)], [], [(1, 1, 5)])], [(22, 26)]),
  ([(20, [(2, 19, 0), (2, 28, 0), (1, -2147483648, 2147483647), (1, 0, 600), (0, 0, 0)], [], [(1, 3, 600)])], [(4, 25), (14, 31), (45, 32), (77, 70), (85, 31), (107, 71)]),
  ([], [(8, 72)]),
  ([], [(6, 12)]),
  ([], [(6, 12)]),
  ([], [(6, 12)]),
  ([], []),
  ([(4, [(2, 2, 0), (1, -2147483648, 2147483647), (1, 0, 5)], [], [(1, 2, 5)])], []),
  ([(4, [(2, 2, 0), (1, -2147483648, 2147483647), (1, 0, 5)], [], [(1, 2, 5)])], [(18, 67)]),
  ([], [(84, 78), (108, 79)]),
  ([], []),
  ([], [(43, 81)]),
  ([], [(5, 7), (33, 82)]),
  ([(7, [(2, 8, 0), (2, 9, 0), (1, 0, 3), (2, 14, 0), (1, 0, 32), (1, 0, 32), (1, 0, 8), (0, 0, 0), (0, 0, 0)], [], [(1, 5, 32), (1, 6, 8), (0, 0, 1)]), (23, [(2, 8, 0), (2, 9, 0), (1, 0, 3), (2, 14, 0), (1, 0, 32), (1, 0, 32), (1, 0, 7), (1, -2147483648, 2147483647), (1, 0, 8)], [], [(1, 5, 32), (1, 6, 8), (0, 0, 0)])], []),
  ([], [(8, 84), (22, 84)]),
  ([(11, [(2, 4, 0), (1, 0, 32), (1, 0, 4)], [], [(0, 0, 0), (1, 2, 4)]), (43, [(2, 4, 0), (1, -2147483648, 2147483647), (1, 0, 32)], [], [(0, 0, 1), (1, 2, 32)])], [(28, 85), (54, 39)]),
  ([], []),
  ([], []),
  ([], [(21, 88), (33, 87), (36, 40)]),
  ([], [(5, 7), (51, 82), (61, 86), (72, 87), (81, 89)]),
  ([], []),
  ([(4, [(2, 4, 0), (1, -2147483648, 2147483647), (1, 0, 4)], [], [(1, 2, 4)])], []),
  ([(4, [(2, 4, 0), (1, -2147483648, 2147483647), (1, 0, 4)], [], [(1, 2, 4)])], []),
  ([], []),
  ([(4, [(2, 4, 0), (1, -2147483648, 2147483647), (1, 0, 4)], [], [(1, 2, 4)])], [(16, 94)]),
  ([], [(5, 7), (113, 92), (118, 93), (123, 95)]),
  ([], []),
  ([(2, [(2, 23, 0), (1, 0, 5), (1, 0, 80), (0, 0, 0), (0, 0, 0), (0, 0, 0), (0, 0, 0)], [], [(1, 2, 80)])], [(69, 12), (107, 97)]),
  ([(2, [(2, 23, 0), (1, 0, 12), (0, 0, 0)], [], [(1, 1, 12), (0, 0, 1), (0, 0, 0)]), (19, [(2, 23, 0), (1, 0, 11), (1, 0, 12)], [], [(1, 1, 12), (0, 0, 0), (1, 2, 12)])], []),
  ([(42, [(2, 5, 0), (2, 5, 0), (1, 0, 2147483647)], [], [(1, 2, 2147483647)])], [(52, 88), (57, 88)]),
  ([(15, [(2, 5, 0), (2, 5, 0), (1, 0, 32)], [], [(1, 2, 32)])], [(23, 39)]),
  ([], [(30, 100), (35, 43), (39, 43), (53, 101)]),
  ([], [(26, 102)]),
  ([], [(5, 39), (16, 40)]),
  ([], []),
  ([], []),
  ([], [(8, 39), (17, 106), (30, 40), (33, 105)]),
  ([], [(63, 106), (86, 105), (100, 105), (121, 106), (146, 42), (156, 48), (159, 105)]),
  ([], [(10, 64), (13, 105), (27, 39), (47, 39), (62, 40), (65, 105)]),
  ([], [(54, 104), (62, 105), (68, 107), (84, 105), (103, 42), (106, 105), (115, 106), (121, 108), (138, 43), (141, 105), (154, 40), (162, 105), (179, 44), (182, 105), (188, 107), (194, 109)]),
  ([], [(48, 59), (62, 61), (72, 60), (98, 62)]),
  ([], [(59, 57), (81, 55), (114, 57), (135, 59), (145, 60), (160, 111), (186, 57), (211, 57)]),
  ([], [(44, 62), (54, 60), (68, 61), (98, 59)]),
  ([], [(67, 57), (105, 57), (122, 62), (143, 61), (158, 113), (189, 57)]),
  ([(40, [(2, 23, 0), (1, 11, 11), (1, 0, 12), (0, 0, 0), (0, 0, 0), (0, 0, 0)], [], [(1, 2, 12)])], [(26, 102), (111, 110), (131, 112), (157, 103), (188, 114)]),
  ([(40, [(2, 23, 0), (1, 10, 10), (1, 0, 12), (0, 0, 0), (0, 0, 0), (0, 0, 0)], [], [(1, 2, 12)])], [(26, 102), (111, 110), (131, 112), (157, 115), (188, 114)]),
  ([(40, [(2, 23, 0), (1, 9, 9), (1, 0, 12), (0, 0, 0), (0, 0, 0), (0, 0, 0)], [], [(1, 2, 12)])], [(26, 102), (111, 110), (131, 112), (157, 116), (188, 114)]),
  ([(40, [(2, 23, 0), (1, 8, 8), (1, 0, 12), (0, 0, 0), (0, 0, 0), (0, 0, 0)], [], [(1, 2, 12)])], [(26, 102), (111, 110), (131, 112), (157, 117), (188, 114)]),
  ([(40, [(2, 23, 0), (1, 7, 7), (1, 0, 12), (0, 0, 0), (0, 0, 0), (0, 0, 0)], [], [(1, 2, 12)])], [(26, 102), (111, 110), (131, 112), (157, 118), (188, 114)]),
  ([(40, [(2, 23, 0), (1, 6, 6), (1, 0, 12), (0, 0, 0), (0, 0, 0), (0, 0, 0)], [], [(1, 2, 12)])], [(26, 102), (111, 110), (131, 112), (157, 119), (188, 114)]),
  ([(40, [(2, 23, 0), (1, 5, 5), (1, 0, 12), (0, 0, 0), (0, 0, 0), (0, 0, 0)], [], [(1, 2, 12)])], [(26, 102), (111, 110), (131, 112), (157, 120), (188, 114)]),
  ([(40, [(2, 23, 0), (1, 4, 4), (1, 0, 12), (0, 0, 0), (0, 0, 0), (0, 0, 0)], [], [(1, 2, 12)])], [(26, 102), (111, 110), (131, 112), (157, 121), (188, 114)]),
  ([(40, [(2, 23, 0), (1, 3, 3), (1, 0, 12), (0, 0, 0), (0, 0, 0), (0, 0, 0)], [], [(1, 2, 12)])], [(26, 102), (111, 110), (131, 112), (157, 122), (188, 114)]),
  ([(40, [(2, 23, 0), (1, 2, 2), (1, 0, 12), (0, 0, 0), (0, 0, 0), (0, 0, 0)], [], [(1, 2, 12)])], [(26, 102), (111, 110), (131, 112), (157, 123), (188, 114)]),
  ([(40, [(2, 23, 0), (1, 1, 1), (1, 0, 12), (0, 0, 0), (0, 0, 0), (0, 0, 0)], [], [(1, 2, 12)])], [(26, 102), (111, 110), (131, 112), (157, 124), (188, 114)]),
  ([(40, [(2, 23, 0), (1, 0, 0), (1, 0, 12), (0, 0, 0), (0, 0, 0), (0, 0, 0)], [], [(1, 2, 12)])], [(26, 102), (111, 110), (131, 112), (157, 125), (188, 114)]),
  ([], [(21, 7), (29, 98), (104, 17), (108, 99), (113, 126)]),
  ([], [(8, 127)]),
  ([], [(5, 7), (26, 128)]),
  ([], []),
  ([], [(5, 7), (26, 128), (55, 130)]),
  ([], []),
  ([(12, [(2, 1, 0), (1, 0, 6)], [], [(1, 1, 6)])], [(25, 128)]),
  ([(5, [(2, 28, 0), (1, -1, -1), (1, 0, 600), (1, 600, 600)], [], [(1, 2, 600)])], []),
  ([(5, [(2, 29, 0), (1, 0, 0), (1, 0, 5), (1, 5, 5)], [], [(1, 2, 5)])], []),
  ([], [(5, 134), (13, 135)]),
  ([(26, [(2, 27, 0), (1, 0, 1), (1, 0, 1), (1, 0, 6), (0, 0, 0)], [], [(1, 3, 6)])], [(49, 127)]),
  ([(3, [(2, 27, 0), (1, 0, 4720), (1, 0, 4720), (1, 0, 80), (1, 0, 80)], [], [(1, 4, 80)])], []),
  ([], []),
  ([(10, [(2, 27, 0), (1, -1, 599), (0, 0, 0), (0, 0, 0)], [], [(0, 0, 1), (2, 1, -1), (0, 0, 1), (0, 0, 0)]), (26, [(2, 27, 0), (1, 0, 599), (1, 1, 5), (0, 0, 0)], [], [(0, 0, 1), (2, 1, -1), (0, 0, 0), (1, 2, 5)]), (78, [(2, 27, 0), (1, 0, 599), (1, 1, 4), (1, 1, 600)], [], [(0, 0, 0), (1, 3, 600), (0, 0, 0), (0, 0, 0)])], []),
  ([], []),
  ([(43, [(2, 1, 0), (1, 1, 60), (1, 0, 1), (1, 0, 60)], [], [(1, 3, 60)])], [(36, 136), (63, 72), (70, 137), (77, 139), (84, 140), (100, 141), (111, 72)]),
  ([], []),
  ([(5, [(2, 16, 0), (5, 0, 0), (0, 0, 0), (5, 0, 0), (0, 0, 0), (1, 0, 8)], [], [(1, 5, 8)])], []),
  ([(22, [(2, 4, 0), (5, 0, 0), (0, 0, 0), (1, -2147483648, 2147483647), (5, 0, 0), (0, 0, 0), (1, 0, 2147483647)], [], [(1, 6, 2147483647)])], [(1, 82), (16, 86), (37, 87), (53, 89)]),
  ([(15, [(2, 1, 0), (5, 0, 0), (0, 0, 0), (1, 0, 5)], [], [(0, 0, 1), (1, 3, 5)]), (48, [(2, 1, 0), (5, 0, 0), (0, 0, 0), (1, 0, 6)], [], [(0, 0, 0), (1, 3, 6)])], [(36, 144), (69, 145)]),
  ([], [(4, 78), (29, 134)])]
def ab_hand : List Nat := [27, 139]
def ab_ck (i : Nat) : Bool := match ab_cert[i]? with
  | some e => ab_chk ab_cts i e.1 e.2 400
  | none => false
end
section
/-! the checks -/
theorem ab_k0 : ((List.range 39).all fun i => decide (0 + i ∈ ab_hand) || ab_ck (0 + i)) = true := by decide +kernel
theorem ab_k1 : ((List.range 32).all fun i => decide (39 + i ∈ ab_hand) || ab_ck (39 + i)) = true := by decide +kernel
theorem ab_k2 : ((List.range 40).all fun i => decide (71 + i ∈ ab_hand) || ab_ck (71 + i)) = true := by decide +kernel
theorem ab_k3 : ((List.range 13).all fun i => decide (111 + i ∈ ab_hand) || ab_ck (111 + i)) = true := by decide +kernel
theorem ab_k4 : ((List.range 24).all fun i => decide (124 + i ∈ ab_hand) || ab_ck (124 + i)) = true := by decide +kernel
theorem ab_rng {b n : Nat} (h : ((List.range n).all fun i => decide (b + i ∈ ab_hand) || ab_ck (b + i)) = true) {i : Nat} (h1 : b ≤ i) (h2 : i < b + n) : i ∈ ab_hand ∨ ab_ck i = true := by
  have := List.all_eq_true.mp h (i - b) (List.mem_range.mpr (by omega))
  rw [show b + (i - b) = i by omega, Bool.or_eq_true, decide_eq_true_eq] at this
  exact this
theorem ab_all {i : Nat} (h : i < 148) : i ∈ ab_hand ∨ ab_ck i = true := by
  by_cases h0 : i < 39
  · exact ab_rng ab_k0 (b := 0) (by omega) (by omega)
  by_cases h1 : i < 71
  · exact ab_rng ab_k1 (b := 39) (by omega) (by omega)
  by_cases h2 : i < 111
  · exact ab_rng ab_k2 (b := 71) (by omega) (by omega)
  by_cases h3 : i < 124
  · exact ab_rng ab_k3 (b := 111) (by omega) (by omega)
  exact ab_rng ab_k4 (b := 124) (by omega) (by omega)
end
section
/-! every contract of the class's methods holds -/
theorem cv_below : ∀ (n i : Nat) (c : CT), i < n → ab_cts[i]? = some c → CV c := by
  intro n
  induction n with
  | zero => intro i c h; omega
  | succ n ih =>
    intro i c hi hc
    have hcv : ∀ (j : Nat) (cc : CT), j < i → ab_cts[j]? = some cc → CV cc := fun j cc hj h => ih j cc (by omega) h
    have hlen : i < 148 := by
      have := (List.getElem?_eq_some_iff.mp hc).1
      exact this
    rcases ab_all hlen with h | h
    · rcases List.mem_cons.mp h with rfl | h
      · cases hc
        exact cv_nextStep
      · obtain rfl := List.mem_singleton.mp h
        cases hc
        exact cv_see (hcv 138 _ (by decide) rfl)
    · unfold ab_ck at h
      split at h
      · exact chk_ok hc hcv h
      · cases h
theorem cv_all {i : Nat} {c : CT} (h : ab_cts[i]? = some c) : CV c := cv_below (i + 1) i c (Nat.lt_succ_self _) h
end
section
/-! WALKS THAT TELL WHAT THEY READ, WHERE THEY TURNED, WHAT THEY WROTE (for kinds of one cell each) -/
/-- a fact: (o, 0, A, B, 0): A and B compare so; (9, K, I, A, n): A was read at I of K when n writes were made -/
abbrev FX : Type := Nat × Nat × AV × AV × Nat
/-- a write: kind, index, value; the newest first -/
abbrev LG : Type := Nat × AV × AV
abbrev XS : Type := AS × List FX × List LG
def xc (K : Nat) : Nat := ab_kl.idxOf K
theorem xc_all : ((List.range 1000).all fun r => decide (ab_kd r < 31) || decide (93 ≤ ab_kd r) || decide (xc (ab_kd r) = r)) = true := by decide +kernel
theorem xc_of {r : Nat} (h1 : 31 ≤ ab_kd r) (h2 : ab_kd r < 93) : xc (ab_kd r) = r := by
  by_cases hr : r < 1000
  · have := List.all_eq_true.mp xc_all r (List.mem_range.mpr hr)
    simp only [Bool.or_eq_true, decide_eq_true_eq] at this
    omega
  · exfalso
    unfold ab_kd at h1 h2
    rw [if_neg hr] at h1 h2
    split at h1
    · omega
    · rename_i h9
      rw [if_neg h9] at h2
      omega
def nm (rho : List Int) (i : Nat) : Int := (rho[i]?).getD 0
def xv (rho : List Int) (a : AV) : Int := (rho[a.2.1]?).getD 0 + a.2.2
def rd (K : Nat) (i : Int) (h : Hp) : Int := (h.1 (xc K) i.toNat).toInt
def wr (K : Nat) (i v : Int) (h : Hp) : Hp := fl_setI h (xc K) i.toNat (Int32.ofInt v)
def xok (rho : List Int) (a : AV) : Prop := ∃ x, rho[a.2.1]? = some x
def xh (rho : List Int) (h : Hp) : List LG → Hp
  | [] => h
  | g :: l => wr g.1 (xv rho g.2.1) (xv rho g.2.2) (xh rho h l)
def icmp (o : Nat) (x y : Int) : Prop := match o with
  | 0 => x = y
  | 1 => x ≠ y
  | 2 => x < y
  | 3 => y ≤ x
  | 4 => y < x
  | 5 => x ≤ y
  | _ => True
def iop (o : Nat) (x y z : Int) : Prop := match o with
  | 20 => z = x + y
  | 21 => z = x - y
  | 22 => z = x * y
  | 23 => z = x / y
  | 24 => z = x % y
  | _ => True
/-- (20 and more, N, A, B, 0): name N is A (op) B -/
def fok (rho : List Int) (h : Hp) (lg : List LG) (f : FX) : Prop := if f.1 = 9 then xv rho f.2.2.2.1 = rd f.2.1 (xv rho f.2.2.1) (xh rho h (lg.drop (lg.length - f.2.2.2.2))) else if f.1 < 20 then icmp f.1 (xv rho f.2.2.1) (xv rho f.2.2.2.1) else iop f.1 (xv rho f.2.2.1) (xv rho f.2.2.2.1) (nm rho f.2.1)
def lgOK (rho : List Int) (lg : List LG) : Prop := ∀ g ∈ lg, xok rho g.2.1 ∧ xok rho g.2.2
def fxOK (rho : List Int) (h : Hp) (fx : List FX) (lg : List LG) : Prop := ∀ f ∈ fx, xok rho f.2.2.1 ∧ xok rho f.2.2.2.1 ∧ f.2.2.2.2 ≤ lg.length ∧ (f.1 < 20 ∨ xok rho (1, f.2.1, 0)) ∧ fok rho h lg f
def XM (rho : List Int) (h0 : Hp) (x : XS) (ls : List (Option Value)) (st : List Value) (h : Hp) : Prop := Gm rho x.1 ls st h ∧ h = xh rho h0 x.2.2 ∧ lgOK rho x.2.2 ∧ fxOK rho h0 x.2.1 x.2.2
theorem xv_ext {rho t : List Int} {a : AV} (h : xok rho a) : xv (rho ++ t) a = xv rho a := by
  obtain ⟨x, h⟩ := h
  unfold xv
  rw [get_ext h, h]
theorem xok_ext {rho t : List Int} {a : AV} (h : xok rho a) : xok (rho ++ t) a := by
  obtain ⟨x, h⟩ := h
  exact ⟨x, get_ext h⟩
theorem xh_ext {rho t : List Int} {h : Hp} : ∀ {lg : List LG}, lgOK rho lg → xh (rho ++ t) h lg = xh rho h lg
  | [], _ => rfl
  | g :: l, ho => by
    unfold xh
    rw [xh_ext (fun z hz => ho z (List.mem_cons_of_mem _ hz)), xv_ext (ho g List.mem_cons_self).1, xv_ext (ho g List.mem_cons_self).2]
theorem lgOK.ext {rho t : List Int} {lg : List LG} (h : lgOK rho lg) : lgOK (rho ++ t) lg := fun g hg => ⟨xok_ext (h g hg).1, xok_ext (h g hg).2⟩
theorem lgOK.drop {rho : List Int} {lg : List LG} (h : lgOK rho lg) (n : Nat) : lgOK rho (lg.drop n) := fun g hg => h g (List.mem_of_mem_drop hg)
theorem nm_ext {rho t : List Int} {i : Nat} (h : xok rho (1, i, 0)) : nm (rho ++ t) i = nm rho i := by
  obtain ⟨x, h⟩ := h
  unfold nm
  rw [get_ext h, h]
theorem fxOK.ext {rho t : List Int} {h : Hp} {fx : List FX} {lg : List LG} (hl : lgOK rho lg) (hf : fxOK rho h fx lg) : fxOK (rho ++ t) h fx lg := fun f hm => by
  obtain ⟨a, b, c, k, d⟩ := hf f hm
  refine ⟨xok_ext a, xok_ext b, c, k.imp id xok_ext, ?_⟩
  unfold fok at d ⊢
  rw [xv_ext a, xv_ext b, xh_ext (hl.drop _)]
  rcases k with k | k
  · split
    · rename_i z; rw [if_pos z] at d; exact d
    · rename_i z; rw [if_neg z, if_pos k] at d; first | exact d | (rw [if_pos k]; exact d)
  · rw [nm_ext k]; exact d
theorem fxOK.push {rho : List Int} {h : Hp} {fx : List FX} {lg : List LG} (hf : fxOK rho h fx lg) (g : LG) : fxOK rho h fx (g :: lg) := fun f hm => by
  obtain ⟨a, b, c, k, d⟩ := hf f hm
  refine ⟨a, b, Nat.le_succ_of_le c, k, ?_⟩
  unfold fok at d ⊢
  rw [List.length_cons, show lg.length + 1 - f.2.2.2.2 = (lg.length - f.2.2.2.2) + 1 by omega, List.drop_succ_cons]
  exact d
theorem fxOK.app {rho : List Int} {h : Hp} {fx fy : List FX} {lg : List LG} (h1 : fxOK rho h fx lg) (h2 : fxOK rho h fy lg) : fxOK rho h (fx ++ fy) lg := fun f hm => by
  rcases List.mem_append.mp hm with z | z
  · exact h1 f z
  · exact h2 f z
/-- an int of the checker, as xv gives it -/
theorem xv_int {rho : List Int} {a : AV} {v : Value} (h1 : a.1 = 1) (h : gv rho a v) : xok rho a ∧ ∃ y : Int32, v = .int y ∧ y.toInt = xv rho a := by
  obtain ⟨x, y, z1, z2, z3⟩ := gv_int h1 h
  refine ⟨⟨x, z1⟩, y, z2, ?_⟩
  unfold xv
  rw [z1, z3]
  rfl
theorem call_inr {b : Bool} {i m k nx : Nat} {ls : List (Option Value)} {st : List Value} {h : Hp} {n : Nat} {o : Out} (hs : fl_call b i m k nx ls st h n = some o) : ∃ x, o = .inr x := by
  unfold fl_call at hs
  simp only at hs
  (repeat' split at hs) <;> first | (cases hs; done) | (cases hs; exact ⟨_, rfl⟩)
/-- a step that writes no slot leaves the heap -/
theorem step_heap {q : Smi} {pc : Nat} {ls : List (Option Value)} {st : List Value} {h : Hp} {n : Nat} {c' : Cfg} (hs : fl_step q (pc, ls, st, h, n) = some (.inl c')) (hq : q.1 ≠ 10 ∧ q.1 ≠ 12 ∧ q.1 ≠ 14 ∧ q.1 ≠ 16 ∧ q.1 ≠ 29 ∧ q.1 ≠ 30 ∧ q.1 ≠ 31 ∧ q.1 ≠ 41) : c'.2.2.2.1 = h := by
  obtain ⟨op, a, nx⟩ := q
  obtain ⟨q1, q2, q3, q4, q5, q6, q7, q8⟩ := hq
  simp only at q1 q2 q3 q4 q5 q6 q7 q8
  unfold fl_step at hs
  simp only at hs
  have hcall : ∀ (b : Bool) (i m k : Nat), fl_call b i m k nx ls st h n = some (.inl c') → c'.2.2.2.1 = h := fun b i m k hk => by
    obtain ⟨x, hx⟩ := call_inr hk
    cases hx
  split at hs <;> first | (exact absurd rfl q1) | (exact absurd rfl q2) | (exact absurd rfl q3) | (exact absurd rfl q4) | (exact absurd rfl q5) | (exact absurd rfl q6) | (exact absurd rfl q7) | (exact absurd rfl q8) | (split at hs <;> first | exact hcall _ _ _ _ hs | (cases hs; done)) | ((repeat' split at hs) <;> first | (cases hs; done) | (cases hs; rfl))
end
section
/-- the operation gives the whole number itself -/
def sx_exact (o : Int) (x y : Int × Int) : Bool := match o with
  | 0 => ab_lim (x.1 + y.1) (x.2 + y.2)
  | 1 => ab_lim (x.1 - y.2) (x.2 - y.1)
  | 2 => decide (0 ≤ x.1) && decide (0 ≤ y.1) && decide (x.2 * y.2 ≤ 2147483647)
  | 3 => decide (0 ≤ x.1) && decide (1 ≤ y.1)
  | 4 => decide (0 ≤ x.1) && decide (1 ≤ y.1)
  | _ => false
/-- what a step adds: facts, writes -/
def sx_new (q : Smi) (s : AS) (e : Nat × AS) (n : Nat) : Option (List FX × List LG) :=
  if q.1 = 6 then (match q.2.1, s.2.1 with
    | [o, t], x :: _ => if t.toNat = q.2.2 ∨ ab_z s.2.2.1 = false then some ([], []) else some ([((if e.1 = t.toNat then o else ab_neg o).toNat, 0, x, (1, 0, 0), 0)], [])
    | _, _ => some ([], []))
  else if q.1 = 7 then (match q.2.1, s.2.1 with
    | [o, t], y :: x :: _ => if t.toNat = q.2.2 then some ([], []) else some ([((if e.1 = t.toNat then o else ab_neg o).toNat, 0, x, y, 0)], [])
    | _, _ => some ([], []))
  else if q.1 = 9 then (match q.2.1, s.2.1, e.2.2.1 with
    | [_, k], v :: _, a :: _ => if a.1 = 1 ∧ v.1 = 2 ∧ v.2.2 = 31 ∧ 0 ≤ k ∧ ab_z s.2.2.1 = true then some ([(9, 31, (1, 0, k), a, n)], []) else some ([], [])
    | _, _, _ => some ([], []))
  else if q.1 = 11 ∨ q.1 = 13 then (match s.2.1, e.2.2.1 with
    | i :: v :: _, a :: _ => if a.1 = 1 ∧ i.1 = 1 ∧ v.1 = 2 ∧ 31 ≤ v.2.2 ∧ v.2.2 < 93 then some ([(9, v.2.2.toNat, i, a, n)], []) else none
    | _, _ => none)
  else if q.1 = 10 then (match q.2.1, s.2.1 with
    | [_, k], x :: v :: _ => if x.1 = 1 ∧ v.1 = 2 ∧ v.2.2 = 31 ∧ 0 ≤ k ∧ ab_z s.2.2.1 = true then some ([], [(31, (1, 0, k), x)]) else none
    | _, _ => none)
  else if q.1 = 12 ∨ q.1 = 14 then (match s.2.1 with
    | x :: i :: v :: _ => if x.1 = 1 ∧ i.1 = 1 ∧ v.1 = 2 ∧ 31 ≤ v.2.2 ∧ v.2.2 < 93 then some ([], [(v.2.2.toNat, i, x)]) else none
    | _ => none)
  else if q.1 = 5 then (match q.2.1, s.2.1, e.2.2.1 with
    | [o], y :: x :: _, a :: _ => (match ab_bnd s.2.2.1 x, ab_bnd s.2.2.1 y with
      | some bx, some by' => if a.1 = 1 ∧ a.2.1 = s.2.2.1.length ∧ a.2.2 = 0 ∧ sx_exact o bx by' = true then some ([(20 + o.toNat, a.2.1, x, y, 0)], []) else some ([], [])
      | _, _ => some ([], []))
    | _, _, _ => some ([], []))
  else if q.1 = 40 then (match q.2.1, s.2.1 with
    | lo :: df :: ts, x :: _ => if e.1 = df.toNat ∧ ab_z s.2.2.1 = true ∧ x.1 = 1 then some (ts.zipIdx.filterMap (fun p => if p.1.toNat = df.toNat then none else some (1, 0, x, (1, 0, lo + (p.2 : Int)), 0)), []) else some ([], [])
    | _, _ => some ([], []))
  else if q.1 = 16 ∨ q.1 = 29 ∨ q.1 = 30 ∨ q.1 = 31 ∨ q.1 = 41 then none
  else some ([], [])
section SX
variable {mods : List Nat} {q : Smi} {pc : Nat} {s : AS} {fx : List FX} {lg : List LG} {rho t : List Int} {cls : List (Option Value)} {cst : List Value} {h h0 : Hp} {c' : Cfg} {e : Nat × AS}
/-- nothing read, nothing written -/
theorem sx_same (X : XM rho h0 (s, fx, lg) cls cst h) (hG : Gm (rho ++ t) e.2 c'.2.1 c'.2.2.1 c'.2.2.2.1) (hh : c'.2.2.2.1 = h) : XM (rho ++ t) h0 (e.2, fx, lg) c'.2.1 c'.2.2.1 c'.2.2.2.1 := by
  obtain ⟨-, x2, x4, x5⟩ := X
  exact ⟨hG, by rw [hh, x2, xh_ext x4], x4.ext, x5.ext x4⟩
/-- a fact more -/
theorem sx_fact {ls : List (Option Value)} {st : List Value} {h' : Hp} {s' : AS} {lg' : List LG} {fa : List FX} (Y : XM rho h0 (s', fx, lg') ls st h') (hf : fxOK rho h0 fa lg') : XM rho h0 (s', fa ++ fx, lg') ls st h' := ⟨Y.1, Y.2.1, Y.2.2.1, hf.app Y.2.2.2⟩
theorem z_rho (g : ga rho s.2.2.1) (hz : ab_z s.2.2.1 = true) : rho[0]? = some 0 := by
  unfold ab_z at hz
  split at hz
  · rename_i b l hb
    rw [beq_iff_eq] at hz
    subst hz
    have := g.2 0 (0, 0) (by rw [hb]; rfl)
    obtain ⟨x, h1, h2⟩ := this
    simp only at h2
    rw [h1]
    congr 1
    omega
  · cases hz
theorem cmp_icmp {o : Int} {x y : Int32} {b : Bool} (h0 : 0 ≤ o ∧ o ≤ 5) (h : fl_cmp o x y = some b) : icmp (if b = true then o else ab_neg o).toNat x.toInt y.toInt := by
  have : o = 0 ∨ o = 1 ∨ o = 2 ∨ o = 3 ∨ o = 4 ∨ o = 5 := by omega
  rcases this with rfl | rfl | rfl | rfl | rfl | rfl <;> cases b <;> (have h := Option.some.inj h) <;> simp only [decide_eq_true_eq, decide_eq_false_iff_not, Int32.lt_iff_toInt_lt, Int32.le_iff_toInt_le, i_eq, Int.not_lt, Int.not_le, Decidable.not_not, ne_eq] at h <;> exact h
theorem o_ne9 {o : Int} (ho : 0 ≤ o ∧ o ≤ 5) (b : Bool) : ¬ (if b = true then o else ab_neg o).toNat = 9 := by
  have : o = 0 ∨ o = 1 ∨ o = 2 ∨ o = 3 ∨ o = 4 ∨ o = 5 := by omega
  rcases this with rfl | rfl | rfl | rfl | rfl | rfl <;> cases b <;> decide
theorem o_ltb {o : Int} (ho : 0 ≤ o ∧ o ≤ 5) (b : Bool) : (if b = true then o else ab_neg o).toNat < 20 := by
  have : o = 0 ∨ o = 1 ∨ o = 2 ∨ o = 3 ∨ o = 4 ∨ o = 5 := by omega
  rcases this with rfl | rfl | rfl | rfl | rfl | rfl <;> cases b <;> decide
theorem o_lt {o : Int} (ho : 0 ≤ o ∧ o ≤ 5) {c : Prop} [Decidable c] : (if c then o else ab_neg o).toNat < 20 := by
  have : o = 0 ∨ o = 1 ∨ o = 2 ∨ o = 3 ∨ o = 4 ∨ o = 5 := by omega
  rcases this with rfl | rfl | rfl | rfl | rfl | rfl <;> split <;> decide
abbrev SxR (mods : List Nat) (q : Smi) (pc : Nat) (s : AS) (fx : List FX) (lg : List LG) (rho : List Int) (h0 : Hp) (cls : List (Option Value)) (cst : List Value) (h : Hp) (l : List (Nat × AS)) : Prop :=
  ∃ (c' : Cfg) (e : Nat × AS) (t : List Int), fl_step q (pc, cls, cst, h, fl_tot) = some (.inl c') ∧ e ∈ l ∧ e.1 = c'.1 ∧ (∀ fa la, sx_new q s e lg.length = some (fa, la) → XM (rho ++ t) h0 (e.2, fa ++ fx, la ++ lg) c'.2.1 c'.2.2.1 c'.2.2.2.1) ∧ TInv c'.2.2.2.1 ∧ c'.2.2.2.2 = fl_tot ∧ Fr mods h c'.2.2.2.1
theorem sx_6 {a : List Int} {nx : Nat} {l : List (Nat × AS)} (hq : ab_step mods (6, a, nx) s = some l) (X : XM rho h0 (s, fx, lg) cls cst h) (hT : TInv h) : SxR mods (6, a, nx) pc s fx lg rho h0 cls cst h l := by
  obtain ⟨c', e, t, s1, s2, s3, s4, s5, s6, s7⟩ := step_all (pc := pc) hq X.1 hT
  have hh := step_heap s1 (by simp)
  have Y := sx_same (t := t) (e := e) X s4 hh
  refine ⟨c', e, t, s1, s2, s3, fun fa la hn => ?_, s5, s6, s7⟩
  unfold sx_new at hn
  rw [if_pos rfl] at hn
  obtain ⟨als, ast, env, ca⟩ := s
  split at hn
  · rename_i o tt x st' ha hst
    simp only at ha hst
    subst ha; subst hst
    split at hn
    · cases hn; exact Y
    · rename_i hz
      cases hn
      refine sx_fact Y ?_
      obtain ⟨v, w, rfl, hv, hw⟩ := X.1.2.2.1
      simp only [ab_step] at hq
      split at hq
      · rename_i bx hb
        split at hq
        · rename_i ho
          obtain ⟨y, hx1, rfl, hy, hr⟩ := bnd_ok X.1.1 hv hb
          have hz1 : ab_z env = true := by
            cases hzz : ab_z env with
            | true => rfl
            | false => exact absurd (Or.inr hzz) hz
          have hz0 := z_rho (s := (als, (x :: st'), env, ca)) X.1.1 hz1
          simp only [fl_step] at s1
          split at s1
          · rename_i b hcmp
            cases s1
            have h1 := cmp_icmp ho hcmp
            have hne : ¬ tt.toNat = nx := fun z => hz (Or.inl z)
            have hx := (xv_int hx1 hv).2
            obtain ⟨y', e1, e2⟩ := hx
            cases e1
            intro f hf
            obtain rfl := List.mem_singleton.mp hf
            refine ⟨xok_ext (xv_int hx1 hv).1, xok_ext ⟨0, hz0⟩, Nat.zero_le _, Or.inl (o_lt ho), ?_⟩
            unfold fok
            have hb2 : (if e.1 = tt.toNat then o else ab_neg o) = (if b = true then o else ab_neg o) := by
              rw [s3]
              cases b
              · simp only [Bool.false_eq_true, if_false]
                rw [if_neg (fun z => hne z.symm)]
              · simp only [if_true]
            simp only
            rw [hb2]
            rw [if_neg (o_ne9 ho b), if_pos (o_ltb ho b)]
            rw [xv_ext (xv_int hx1 hv).1, ← e2, show xv (rho ++ t) (1, 0, 0) = 0 from by rw [xv_ext ⟨0, hz0⟩]; unfold xv; rw [hz0]; rfl]
            rw [Int32.toInt_zero] at h1
            exact h1
          · cases s1
        · cases hq
      · cases hq
  · cases hn; exact Y
theorem sx_7 {a : List Int} {nx : Nat} {l : List (Nat × AS)} (hq : ab_step mods (7, a, nx) s = some l) (X : XM rho h0 (s, fx, lg) cls cst h) (hT : TInv h) : SxR mods (7, a, nx) pc s fx lg rho h0 cls cst h l := by
  obtain ⟨c', e, t, s1, s2, s3, s4, s5, s6, s7⟩ := step_all (pc := pc) hq X.1 hT
  have hh := step_heap s1 (by simp)
  have Y := sx_same (t := t) (e := e) X s4 hh
  refine ⟨c', e, t, s1, s2, s3, fun fa la hn => ?_, s5, s6, s7⟩
  unfold sx_new at hn
  rw [if_neg (by simp), if_pos rfl] at hn
  obtain ⟨als, ast, env, ca⟩ := s
  split at hn
  · rename_i o tt x2 x st' ha hst
    simp only at ha hst
    subst ha; subst hst
    split at hn
    · cases hn; exact Y
    · rename_i hz
      cases hn
      refine sx_fact Y ?_
      obtain ⟨v2, w2, rfl, hv2, v, w, rfl, hv, hw⟩ := X.1.2.2.1
      simp only [ab_step] at hq
      split at hq
      · rename_i bx by' hb hb2
        split at hq
        · rename_i ho
          obtain ⟨y, hx1, rfl, hy, hr⟩ := bnd_ok X.1.1 hv hb
          obtain ⟨y2, hx2, rfl, hy2, hr2⟩ := bnd_ok X.1.1 hv2 hb2
          simp only [fl_step] at s1
          split at s1
          · rename_i b hcmp
            cases s1
            have h1 := cmp_icmp ho hcmp
            obtain ⟨k1, y', e1, e2⟩ := xv_int hx1 hv
            cases e1
            obtain ⟨k2, y2', e3, e4⟩ := xv_int hx2 hv2
            cases e3
            intro f hf
            obtain rfl := List.mem_singleton.mp hf
            refine ⟨xok_ext k1, xok_ext k2, Nat.zero_le _, Or.inl (o_lt ho), ?_⟩
            unfold fok
            have hbb : (if e.1 = tt.toNat then o else ab_neg o) = (if b = true then o else ab_neg o) := by
              rw [s3]
              cases b
              · simp only [Bool.false_eq_true, if_false]
                rw [if_neg (fun z => hz z.symm)]
              · simp only [if_true]
            simp only
            rw [hbb, if_neg (o_ne9 ho b), if_pos (o_ltb ho b), xv_ext k1, xv_ext k2, ← e2, ← e4]
            exact h1
          · cases s1
        · cases hq
      · cases hq
  · cases hn; exact Y
theorem sx_rd {op : Nat} (hop : op = 11 ∨ op = 13) {a : List Int} {nx : Nat} {l : List (Nat × AS)} (hq : ab_step mods (op, a, nx) s = some l) (X : XM rho h0 (s, fx, lg) cls cst h) (hT : TInv h) : SxR mods (op, a, nx) pc s fx lg rho h0 cls cst h l := by
  obtain ⟨c', e, t, s1, s2, s3, s4, s5, s6, s7⟩ := step_all (pc := pc) hq X.1 hT
  have hh := step_heap s1 (by rcases hop with rfl | rfl <;> simp)
  have Y := sx_same (t := t) (e := e) X s4 hh
  refine ⟨c', e, t, s1, s2, s3, fun fa la hn0 => ?_, s5, s6, s7⟩
  have hn : (match s.2.1, e.2.2.1 with
    | i :: v :: _, a :: _ => if a.1 = 1 ∧ i.1 = 1 ∧ v.1 = 2 ∧ 31 ≤ v.2.2 ∧ v.2.2 < 93 then some ([(9, v.2.2.toNat, i, a, lg.length)], []) else none
    | _, _ => none) = some (fa, la) := by rcases hop with rfl | rfl <;> exact hn0
  clear hn0
  obtain ⟨als, ast, env, ca⟩ := s
  obtain ⟨e1, els, est, eenv, eca⟩ := e
  split at hn
  · rename_i i v st' a2 est' hst hest
    simp only at hst hest
    subst hst; subst hest
    split at hn
    · rename_i hc
      cases hn
      refine sx_fact Y ?_
      obtain ⟨vi, w2, rfl, hvi, vv, w, rfl, hvv, hw⟩ := X.1.2.2.1
      obtain ⟨k1, y, rfl, z1⟩ := xv_int hc.2.1 hvi
      obtain ⟨r, -, rfl, hk⟩ := gv_ref hc.2.2.1 hvv
      have hst : c'.2.2.1 = .int (h.1 r y.toNatClampNeg) :: w := by
        rcases hop with rfl | rfl <;> (simp only [fl_step] at s1; split at s1 <;> first | (cases s1; rfl) | (cases s1; done))
      have g3 := s4.2.2.1
      rw [hst] at g3
      obtain ⟨va, wa, ea, hva, -⟩ := g3
      have ea1 : Value.int (h.1 r y.toNatClampNeg) = va := (List.cons.inj ea).1
      subst ea1
      obtain ⟨k2, y2, e2, z2⟩ := xv_int hc.1 hva
      cases e2
      intro f hf
      obtain rfl := List.mem_singleton.mp hf
      refine ⟨xok_ext k1, k2, Nat.le_refl _, Or.inl (show 9 < 20 by decide), ?_⟩
      unfold fok
      simp only [if_true, rd]
      have hx2 : h = xh rho h0 lg := X.2.1
      rw [List.nil_append, Nat.sub_self, List.drop_zero, xh_ext X.2.2.1, ← hx2, xv_ext k1, ← z1, ← z2, ← hk, xc_of (by omega) (by omega)]
      rfl
    · cases hn
  · cases hn
/-- a write more -/
theorem sx_log (X : XM rho h0 (s, fx, lg) cls cst h) {ls : List (Option Value)} {st : List Value} {s' : AS} {g : LG} {r k : Nat} {x : Int32} (hG : Gm (rho ++ t) s' ls st (fl_setI h r k x)) (h1 : xok rho g.2.1) (h2 : xok rho g.2.2) (hr : xc g.1 = r) (hk : (xv rho g.2.1).toNat = k) (hx : xv rho g.2.2 = x.toInt) : XM (rho ++ t) h0 (s', fx, g :: lg) ls st (fl_setI h r k x) := by
  obtain ⟨-, x2, x4, x5⟩ := X
  refine ⟨hG, ?_, ?_, (x5.ext x4).push g⟩
  · show _ = fl_setI (xh (rho ++ t) h0 lg) (xc g.1) (xv (rho ++ t) g.2.1).toNat (Int32.ofInt (xv (rho ++ t) g.2.2))
    rw [xh_ext x4, ← x2, xv_ext h1, xv_ext h2, hr, hk, hx, Int32.ofInt_toInt]
  · intro z hz
    rcases List.mem_cons.mp hz with rfl | hz
    · exact ⟨xok_ext h1, xok_ext h2⟩
    · exact x4.ext z hz
theorem sx_wr {op : Nat} (hop : op = 12 ∨ op = 14) {a : List Int} {nx : Nat} {l : List (Nat × AS)} (hq : ab_step mods (op, a, nx) s = some l) (X : XM rho h0 (s, fx, lg) cls cst h) (hT : TInv h) : SxR mods (op, a, nx) pc s fx lg rho h0 cls cst h l := by
  obtain ⟨c', e, t, s1, s2, s3, s4, s5, s6, s7⟩ := step_all (pc := pc) hq X.1 hT
  refine ⟨c', e, t, s1, s2, s3, fun fa la hn0 => ?_, s5, s6, s7⟩
  have hn : (match s.2.1 with
    | x :: i :: v :: _ => if x.1 = 1 ∧ i.1 = 1 ∧ v.1 = 2 ∧ 31 ≤ v.2.2 ∧ v.2.2 < 93 then some ([], [(v.2.2.toNat, i, x)]) else none
    | _ => none) = some (fa, la) := by rcases hop with rfl | rfl <;> exact hn0
  clear hn0
  obtain ⟨als, ast, env, ca⟩ := s
  split at hn
  · rename_i x i v st' hst
    simp only at hst
    subst hst
    split at hn
    · rename_i hc
      cases hn
      obtain ⟨vx, w3, rfl, hvx, vi, w2, rfl, hvi, vv, w, rfl, hvv, hw⟩ := X.1.2.2.1
      obtain ⟨k0, x0, rfl, z0⟩ := xv_int hc.1 hvx
      obtain ⟨k1, y, rfl, z1⟩ := xv_int hc.2.1 hvi
      obtain ⟨r, -, rfl, hk⟩ := gv_ref hc.2.2.1 hvv
      have hh : c'.2.2.2.1 = fl_setI h r y.toNatClampNeg x0 := by
        rcases hop with rfl | rfl <;> (simp only [fl_step] at s1; split at s1 <;> first | (cases s1; rfl) | (cases s1; done))
      rw [hh] at s4 ⊢
      exact sx_log X s4 k1 k0 (by simp only; rw [← hk, xc_of (by omega) (by omega)]) (by simp only; rw [← z1]; rfl) z0.symm
    · cases hn
  · cases hn
theorem sx_9 {a : List Int} {nx : Nat} {l : List (Nat × AS)} (hq : ab_step mods (9, a, nx) s = some l) (X : XM rho h0 (s, fx, lg) cls cst h) (hT : TInv h) : SxR mods (9, a, nx) pc s fx lg rho h0 cls cst h l := by
  obtain ⟨c', e, t, s1, s2, s3, s4, s5, s6, s7⟩ := step_all (pc := pc) hq X.1 hT
  have hh := step_heap s1 (by simp)
  have Y := sx_same (t := t) (e := e) X s4 hh
  refine ⟨c', e, t, s1, s2, s3, fun fa la hn => ?_, s5, s6, s7⟩
  unfold sx_new at hn
  rw [if_neg (by simp), if_neg (by simp), if_pos rfl] at hn
  obtain ⟨als, ast, env, ca⟩ := s
  obtain ⟨e1, els, est, eenv, eca⟩ := e
  split at hn
  · rename_i ci k v st' a2 est' ha hst hest
    simp only at ha hst hest
    subst ha; subst hst; subst hest
    split at hn
    · rename_i hc
      cases hn
      refine sx_fact Y ?_
      obtain ⟨vv, w, rfl, hvv, hw⟩ := X.1.2.2.1
      obtain ⟨r, -, rfl, hk⟩ := gv_ref hc.2.1 hvv
      have hz0 := z_rho (s := (als, (v :: st'), env, ca)) X.1.1 hc.2.2.2.2
      obtain ⟨va, wa, ea, hva, -⟩ := s4.2.2.1
      obtain ⟨k2, y2, e2, z2⟩ := xv_int hc.1 hva
      subst e2
      have hst : y2 = h.1 r k.toNat := by
        simp only [fl_step] at s1
        split at s1
        · split at s1
          · cases s1
            exact (Value.int.inj (List.cons.inj ea).1).symm
          · cases s1
            exact (Value.int.inj (List.cons.inj ea).1).symm
          · cases s1
            have := (List.cons.inj ea).1
            cases hr : h.2 r k.toNat <;> rw [hr] at this <;> cases this
          · cases s1
        · cases s1
      intro f hf
      obtain rfl := List.mem_singleton.mp hf
      refine ⟨⟨0, get_ext hz0⟩, k2, Nat.le_refl _, Or.inl (show 9 < 20 by decide), ?_⟩
      unfold fok
      simp only [if_true, rd]
      have hx2 : h = xh rho h0 lg := X.2.1
      have hk1 : xv (rho ++ t) (1, 0, k) = k := by
        rw [xv_ext ⟨0, hz0⟩]
        unfold xv
        rw [hz0]
        simp
      have hr31 : xc 31 = r := by
        have h31 : ab_kd r = 31 := by rw [hk, hc.2.2.1]; rfl
        have := xc_of (r := r) (by omega) (by omega)
        rw [h31] at this
        exact this
      rw [List.nil_append, Nat.sub_self, List.drop_zero, xh_ext X.2.2.1, ← hx2, hk1, hr31, ← z2, hst]
    · cases hn; exact Y
  · cases hn; exact Y
theorem sx_10 {a : List Int} {nx : Nat} {l : List (Nat × AS)} (hq : ab_step mods (10, a, nx) s = some l) (X : XM rho h0 (s, fx, lg) cls cst h) (hT : TInv h) : SxR mods (10, a, nx) pc s fx lg rho h0 cls cst h l := by
  obtain ⟨c', e, t, s1, s2, s3, s4, s5, s6, s7⟩ := step_all (pc := pc) hq X.1 hT
  refine ⟨c', e, t, s1, s2, s3, fun fa la hn => ?_, s5, s6, s7⟩
  unfold sx_new at hn
  rw [if_neg (by simp), if_neg (by simp), if_neg (by simp), if_neg (by simp), if_pos rfl] at hn
  obtain ⟨als, ast, env, ca⟩ := s
  split at hn
  · rename_i ci k x v st' ha hst
    simp only at ha hst
    subst ha; subst hst
    split at hn
    · rename_i hc
      cases hn
      obtain ⟨vx, w2, rfl, hvx, vv, w, rfl, hvv, hw⟩ := X.1.2.2.1
      obtain ⟨k0, x0, rfl, z0⟩ := xv_int hc.1 hvx
      obtain ⟨r, -, rfl, hk⟩ := gv_ref hc.2.1 hvv
      have hz0 := z_rho (s := (als, (x :: v :: st'), env, ca)) X.1.1 hc.2.2.2.2
      have hh : c'.2.2.2.1 = fl_setI h r k.toNat x0 := by
        simp only [fl_step] at s1
        split at s1
        · split at s1
          · rename_i hx; cases hx; cases s1; rfl
          · rename_i hx; cases hx
            split at s1
            · cases s1; rfl
            · cases s1
          · rename_i hx; cases hx
          · rename_i hx; cases hx
          · cases s1
        · cases s1
      rw [hh] at s4 ⊢
      have hr31 : xc 31 = r := by
        have h31 : ab_kd r = 31 := by rw [hk, hc.2.2.1]; rfl
        have := xc_of (r := r) (by omega) (by omega)
        rw [h31] at this
        exact this
      refine sx_log X s4 ⟨0, hz0⟩ k0 hr31 ?_ z0.symm
      show (xv rho (1, 0, k)).toNat = k.toNat
      unfold xv
      rw [hz0]
      simp
    · cases hn
  · cases hn
theorem bin_iop {o : Int} {x y z : Int32} {bx by' : Int × Int} (hx : bx.1 ≤ x.toInt ∧ x.toInt ≤ bx.2) (hy : by'.1 ≤ y.toInt ∧ y.toInt ≤ by'.2) (h : sx_exact o bx by' = true) (hz : fl_bin o x y = some z) : iop (20 + o.toNat) x.toInt y.toInt z.toInt := by
  have hne : ∀ (k : y.toInt ≠ 0), ¬ y = 0 := by
    intro k z
    rw [z] at k
    exact k (by decide)
  have h4 := i_rng x
  unfold sx_exact at h
  split at h
  · have := lim_of h
    cases hz
    show (x + y).toInt = x.toInt + y.toInt
    rw [Int32.toInt_add, i_bm (by omega) (by omega)]
  · have := lim_of h
    cases hz
    show (x - y).toInt = x.toInt - y.toInt
    rw [Int32.toInt_sub, i_bm (by omega) (by omega)]
  · simp only [Bool.and_eq_true, decide_eq_true_eq] at h
    cases hz
    show (x * y).toInt = x.toInt * y.toInt
    have h1 : 0 ≤ x.toInt * y.toInt := Int.mul_nonneg (by omega) (by omega)
    have h2 : x.toInt * y.toInt ≤ bx.2 * by'.2 := Int.mul_le_mul hx.2 hy.2 (by omega) (by omega)
    rw [Int32.toInt_mul, i_bm (by omega) (by omega)]
  · simp only [Bool.and_eq_true, decide_eq_true_eq] at h
    have hz' : x / y = z := by
      simp only [fl_bin] at hz
      rw [if_neg (hne (by omega))] at hz
      exact Option.some.inj hz
    subst hz'
    show (x / y).toInt = x.toInt / y.toInt
    have h1 : x.toInt.tdiv y.toInt = x.toInt / y.toInt := Int.tdiv_eq_ediv_of_nonneg (by omega)
    have h2 : x.toInt / y.toInt ≤ x.toInt := Int.ediv_le_self _ (by omega)
    have h3 : 0 ≤ x.toInt / y.toInt := Int.ediv_nonneg (by omega) (by omega)
    rw [Int32.toInt_div, h1, i_bm (by omega) (by omega)]
  · simp only [Bool.and_eq_true, decide_eq_true_eq] at h
    have hz' : x - x / y * y = z := by
      simp only [fl_bin] at hz
      rw [if_neg (hne (by omega))] at hz
      exact Option.some.inj hz
    subst hz'
    show (x - x / y * y).toInt = x.toInt % y.toInt
    have h1 : x.toInt.tdiv y.toInt = x.toInt / y.toInt := Int.tdiv_eq_ediv_of_nonneg (by omega)
    have h2 : x.toInt / y.toInt ≤ x.toInt := Int.ediv_le_self _ (by omega)
    have h3 : 0 ≤ x.toInt / y.toInt := Int.ediv_nonneg (by omega) (by omega)
    have h5 := Int.mul_ediv_add_emod x.toInt y.toInt
    have h6 := Int.emod_nonneg x.toInt (show y.toInt ≠ 0 by omega)
    have h8 : 0 ≤ x.toInt / y.toInt * y.toInt := Int.mul_nonneg h3 (by omega)
    have h9 : y.toInt * (x.toInt / y.toInt) = x.toInt / y.toInt * y.toInt := Int.mul_comm _ _
    have e1 : (x / y).toInt = x.toInt / y.toInt := by rw [Int32.toInt_div, h1, i_bm (by omega) (by omega)]
    have e2 : (x / y * y).toInt = x.toInt / y.toInt * y.toInt := by rw [Int32.toInt_mul, e1, i_bm (by omega) (by omega)]
    rw [Int32.toInt_sub, e2, i_bm (by omega) (by omega)]
    omega
  · cases h
theorem sx_5 {a : List Int} {nx : Nat} {l : List (Nat × AS)} (hq : ab_step mods (5, a, nx) s = some l) (X : XM rho h0 (s, fx, lg) cls cst h) (hT : TInv h) : SxR mods (5, a, nx) pc s fx lg rho h0 cls cst h l := by
  obtain ⟨c', e, t, s1, s2, s3, s4, s5, s6, s7⟩ := step_all (pc := pc) hq X.1 hT
  have hh := step_heap s1 (by simp)
  have Y := sx_same (t := t) (e := e) X s4 hh
  refine ⟨c', e, t, s1, s2, s3, fun fa la hn => ?_, s5, s6, s7⟩
  unfold sx_new at hn
  rw [if_neg (by simp), if_neg (by simp), if_neg (by simp), if_neg (by simp), if_neg (by simp), if_neg (by simp), if_pos rfl] at hn
  obtain ⟨als, ast, env, ca⟩ := s
  obtain ⟨e1, els, est, eenv, eca⟩ := e
  split at hn
  · rename_i o y x st' a2 est' ha hst hest
    simp only at ha hst hest
    subst ha; subst hst; subst hest
    split at hn
    · rename_i bx by' hb1 hb2
      split at hn
      · rename_i hc
        cases hn
        refine sx_fact Y ?_
        obtain ⟨vy, w1, rfl, hvy, vx, w, rfl, hvx, hw⟩ := X.1.2.2.1
        obtain ⟨x0, hx1, rfl, hx, -⟩ := bnd_ok X.1.1 hvx hb1
        obtain ⟨y0, hy1, rfl, hy, -⟩ := bnd_ok X.1.1 hvy hb2
        obtain ⟨k1, x1, ex, zx⟩ := xv_int hx1 hvx
        cases ex
        obtain ⟨k2, y1, ey, zy⟩ := xv_int hy1 hvy
        cases ey
        obtain ⟨va, wa, ea, hva, -⟩ := s4.2.2.1
        obtain ⟨k3, z0, ez, zz⟩ := xv_int hc.1 hva
        subst ez
        have hz : fl_bin o x0 y0 = some z0 := by
          simp only [fl_step] at s1
          split at s1
          · rename_i z hz
            cases s1
            rw [hz]
            exact congrArg some (Value.int.inj (List.cons.inj ea).1)
          · cases s1
        have key := bin_iop hx hy hc.2.2.2 hz
        intro f hf
        obtain rfl := List.mem_singleton.mp hf
        refine ⟨xok_ext k1, xok_ext k2, Nat.zero_le _, Or.inr k3, ?_⟩
        unfold fok
        simp only
        rw [if_neg (by omega), if_neg (by omega), xv_ext k1, xv_ext k2, ← zx, ← zy]
        have : nm (rho ++ t) a2.2.1 = z0.toInt := by
          rw [zz]
          unfold nm xv
          rw [hc.2.2.1]
          omega
        rw [this]
        exact key
      · cases hn; exact Y
    · cases hn; exact Y
  · cases hn; exact Y
theorem sx_40 {a : List Int} {nx : Nat} {l : List (Nat × AS)} (hq : ab_step mods (40, a, nx) s = some l) (X : XM rho h0 (s, fx, lg) cls cst h) (hT : TInv h) : SxR mods (40, a, nx) pc s fx lg rho h0 cls cst h l := by
  obtain ⟨c', e, t, s1, s2, s3, s4, s5, s6, s7⟩ := step_all (pc := pc) hq X.1 hT
  have hh := step_heap s1 (by simp)
  have Y := sx_same (t := t) (e := e) X s4 hh
  refine ⟨c', e, t, s1, s2, s3, fun fa la hn => ?_, s5, s6, s7⟩
  unfold sx_new at hn
  rw [if_neg (by simp), if_neg (by simp), if_neg (by simp), if_neg (by simp), if_neg (by simp), if_neg (by simp), if_neg (by simp), if_pos rfl] at hn
  obtain ⟨als, ast, env, ca⟩ := s
  split at hn
  · rename_i lo df ts x st' ha hst
    simp only at ha hst
    subst ha; subst hst
    split at hn
    · rename_i hc
      cases hn
      refine sx_fact Y ?_
      have hz0 := z_rho (s := (als, (x :: st'), env, ca)) X.1.1 hc.2.1
      obtain ⟨v, w, rfl, hv, hw⟩ := X.1.2.2.1
      obtain ⟨k1, y, rfl, z1⟩ := xv_int hc.2.2 hv
      intro f hf
      obtain ⟨p, hp, hpf⟩ := List.mem_filterMap.mp hf
      split at hpf
      · cases hpf
      · rename_i hne
        cases hpf
        refine ⟨xok_ext k1, xok_ext ⟨0, hz0⟩, Nat.zero_le _, Or.inl (show 1 < 20 by decide), ?_⟩
        unfold fok
        simp only
        rw [if_neg (by decide), if_pos (by decide), xv_ext k1, ← z1]
        intro heq
        apply hne
        have h2 : xv (rho ++ t) (1, 0, lo + (p.2 : Int)) = lo + (p.2 : Int) := by
          rw [xv_ext ⟨0, hz0⟩]
          unfold xv
          rw [hz0]
          simp
        rw [h2] at heq
        have hp2 : ts[p.2]? = some p.1 := List.mem_zipIdx_iff_getElem?.mp hp
        simp only [fl_step] at s1
        rw [if_neg (by omega), show (y.toInt - lo).toNat = p.2 by omega, hp2] at s1
        simp only at s1
        cases s1
        rw [← hc.1]
        exact s3.symm
    · cases hn; exact Y
  · cases hn; exact Y
theorem sx_else {a : List Int} {op nx : Nat} (h1 : op ≠ 6 ∧ op ≠ 7 ∧ op ≠ 9 ∧ op ≠ 11 ∧ op ≠ 13 ∧ op ≠ 10 ∧ op ≠ 12 ∧ op ≠ 14 ∧ op ≠ 5 ∧ op ≠ 40) {l : List (Nat × AS)} (hq : ab_step mods (op, a, nx) s = some l) (X : XM rho h0 (s, fx, lg) cls cst h) (hT : TInv h) : SxR mods (op, a, nx) pc s fx lg rho h0 cls cst h l := by
  obtain ⟨c', e, t, s1, s2, s3, s4, s5, s6, s7⟩ := step_all (pc := pc) hq X.1 hT
  refine ⟨c', e, t, s1, s2, s3, fun fa la hn => ?_, s5, s6, s7⟩
  obtain ⟨n1, n2, n3, n4, n5, n6, n7, n8, n9, n10⟩ := h1
  unfold sx_new at hn
  rw [if_neg n1, if_neg n2, if_neg n3, if_neg (by rintro (z | z) <;> contradiction), if_neg n6, if_neg (by rintro (z | z) <;> contradiction), if_neg n9, if_neg n10] at hn
  split at hn
  · cases hn
  · rename_i hne
    cases hn
    have hne' : op ≠ 16 ∧ op ≠ 29 ∧ op ≠ 30 ∧ op ≠ 31 ∧ op ≠ 41 := ⟨fun z => hne (Or.inl z), fun z => hne (Or.inr (Or.inl z)), fun z => hne (Or.inr (Or.inr (Or.inl z))), fun z => hne (Or.inr (Or.inr (Or.inr (Or.inl z)))), fun z => hne (Or.inr (Or.inr (Or.inr (Or.inr z))))⟩
    have hh := step_heap s1 ⟨n6, n7, n8, hne'.1, hne'.2.1, hne'.2.2.1, hne'.2.2.2.1, hne'.2.2.2.2⟩
    exact sx_same (t := t) (e := e) X s4 hh
theorem sx_ok {l : List (Nat × AS)} (hq : ab_step mods q s = some l) (X : XM rho h0 (s, fx, lg) cls cst h) (hT : TInv h) : SxR mods q pc s fx lg rho h0 cls cst h l := by
  obtain ⟨op, a, nx⟩ := q
  by_cases h6 : op = 6
  · subst h6; exact sx_6 hq X hT
  by_cases h7 : op = 7
  · subst h7; exact sx_7 hq X hT
  by_cases h9 : op = 9
  · subst h9; exact sx_9 hq X hT
  by_cases h11 : op = 11 ∨ op = 13
  · exact sx_rd h11 hq X hT
  by_cases h10 : op = 10
  · subst h10; exact sx_10 hq X hT
  by_cases h12 : op = 12 ∨ op = 14
  · exact sx_wr h12 hq X hT
  by_cases h5 : op = 5
  · subst h5; exact sx_5 hq X hT
  by_cases h40 : op = 40
  · subst h40; exact sx_40 hq X hT
  exact sx_else ⟨h6, h7, h9, fun z => h11 (Or.inl z), fun z => h11 (Or.inr z), h10, fun z => h12 (Or.inl z), fun z => h12 (Or.inr z), h5, h40⟩ hq X hT
end SX
end
section
/-! THE WALK over steps with facts: calls of given methods are gone through, others are arrivals -/
/-- an arrival: code (0 a stop, 1 a call, 2 an end, 3 a bound that fails), (place; or method, its locals, arguments, the place behind), the state -/
abbrev AR : Type := Nat × (Nat × Nat × Nat × Nat) × XS
/-- stops (method, place), methods gone through, bounds (method, place, low, high) for what a step leaves on the stack -/
abbrev SP : Type := List (Nat × Nat) × List Nat × List (Nat × Nat × Int × Int)
def sg_cat (l : List (Option (List AR))) : Option (List AR) := match l with
  | [] => some []
  | none :: _ => none
  | some x :: l => (match sg_cat l with
    | some y => some (x ++ y)
    | none => none)
def sg_ret (q : Smi) (s : AS) : Bool := match q.1, q.2.1, s.2.1 with
  | 21, _, [] => true
  | 22, [o], [x] => x.1 == 1 && (o == 0 || (match ab_bnd s.2.2.1 x with
    | some b => decide (0 ≤ b.1) && decide (b.2 ≤ 1)
    | none => false))
  | _, _, _ => false
/-- a call's method, its locals, how many values it takes -/
def sg_call (q : Smi) (s : AS) : Option (Nat × Nat × Nat) := match q.2.1 with
  | [m, k] => match sm_ms[m.toNat]? with
    | some y => if k.toNat + (if q.1 = 19 then 0 else 1) ≤ s.2.1.length ∧ ab_cat (s.2.1.drop (k.toNat + (if q.1 = 19 then 0 else 1))) ≤ 8 ∧ ab_recv q.1 m.toNat (s.2.1.take (k.toNat + (if q.1 = 19 then 0 else 1))).reverse = true ∧ (ab_loc (s.2.1.take (k.toNat + (if q.1 = 19 then 0 else 1))).reverse).length ≤ y.2.2.1 then
        some (m.toNat, y.2.2.1, k.toNat + (if q.1 = 19 then 0 else 1)) else none
    | none => none
  | _ => none
/-- a bound on what lies on the stack: where it fails, where it holds -/
def sg_asm (lo hi : Int) (x : XS) : Option (List XS × XS) := match x.1.2.1 with
  | a :: _ => if ab_z x.1.2.2.1 = true then (match ab_bnd x.1.2.2.1 a with
    | some b => some ((if b.1 < lo then [(x.1, (2, 0, a, (1, 0, lo), 0) :: x.2.1, x.2.2)] else []) ++ (if hi < b.2 then [(x.1, (4, 0, a, (1, 0, hi), 0) :: x.2.1, x.2.2)] else []), ((x.1.1, x.1.2.1, ab_set x.1.2.2.1 a (ab_max b.1 lo, ab_min b.2 hi), x.1.2.2.2), x.2.1, x.2.2))
    | none => none) else none
  | [] => none
def sg_mods : List Nat := List.range' 31 62
def sg_walk (P : SP) : Nat → Nat → Bool → Nat → Nat → XS → Option (List AR)
  | 0, _, _, _, _, _ => none
  | f + 1, k, first, m, pc, x => if first = false ∧ (m, pc) ∈ P.1 then some [(0, (pc, 0, 0, 0), x)] else match fl_code m pc with
    | none => none
    | some q => if 21 ≤ q.1 ∧ q.1 ≤ 24 then (if sg_ret q x.1 = true then some [(2, (0, 0, 0, 0), x)] else none)
      else if 18 ≤ q.1 ∧ q.1 ≤ 20 then (match sg_call q x.1 with
        | none => none
        | some (m2, nL, kk) => if m2 ∈ P.2.1 then (match k with
            | 0 => none
            | k' + 1 => (match sg_walk P f k' false m2 0 ((ab_loc (x.1.2.1.take kk).reverse ++ List.replicate (nL - (ab_loc (x.1.2.1.take kk).reverse).length) (0, 0, 0), [], x.1.2.2.1, x.1.2.2.2), x.2.1, x.2.2) with
              | none => none
              | some l => sg_cat (l.map (fun a => if a.1 = 2 then sg_walk P f (k' + 1) false m q.2.2 ((x.1.1, a.2.2.1.2.1 ++ x.1.2.1.drop kk, a.2.2.1.2.2.1, a.2.2.1.2.2.2), a.2.2.2.1, a.2.2.2.2) else if a.1 = 3 then some [a] else none))))
          else some [(1, (m2, nL, kk, q.2.2), x)])
      else (match ab_step sg_mods q x.1 with
        | none => none
        | some l => sg_cat (l.map (fun e => (match sx_new q x.1 e x.2.2.length with
          | none => none
          | some (fa, la) => (match P.2.2.find? (fun z => z.1 == m && z.2.1 == pc) with
            | none => sg_walk P f k false m e.1 (e.2, fa ++ x.2.1, la ++ x.2.2)
            | some z => (match sg_asm z.2.2.1 z.2.2.2 (e.2, fa ++ x.2.1, la ++ x.2.2) with
              | none => none
              | some (bads, good) => (match sg_walk P f k false m e.1 good with
                | none => none
                | some l2 => some (bads.map (fun b => (3, (pc, 0, 0, 0), b)) ++ l2))))))))
theorem sgcat_ok : ∀ {α : Type} {g : α → Option (List AR)} {l : List α} {L : List AR}, sg_cat (l.map g) = some L → ∀ e ∈ l, ∃ L', g e = some L' ∧ ∀ x ∈ L', x ∈ L
  | _, _, [], _, _, e, he => by cases he
  | _, g, a :: l, L, h, e, he => by
    rw [List.map_cons] at h
    cases hg : g a with
    | none => rw [hg] at h; cases h
    | some x =>
      rw [hg] at h
      unfold sg_cat at h
      split at h
      · rename_i y hy
        cases h
        rcases List.mem_cons.mp he with rfl | he
        · exact ⟨x, hg, fun z hz => List.mem_append_left _ hz⟩
        · obtain ⟨L', q1, q2⟩ := sgcat_ok hy e he
          exact ⟨L', q1, fun z hz => List.mem_append_right _ (q2 z hz)⟩
      · cases h
theorem sgret_ok {q : Smi} {s : AS} {rho : List Int} {ls : List (Option Value)} {st : List Value} {h : Hp} {n pc : Nat} (hq : sg_ret q s = true) (G : Gm rho s ls st h) : fl_step q (pc, ls, st, h, n) = some (.inr (.inr st.head?)) ∧ st = st.head?.toList := by
  obtain ⟨op, a, nx⟩ := q
  obtain ⟨als, ast, env, ca⟩ := s
  unfold sg_ret at hq
  simp only at hq
  split at hq
  · have : st = [] := G.2.2.1
    subst this
    exact ⟨rfl, rfl⟩
  · rename_i o x
    simp only [Bool.and_eq_true, beq_iff_eq, Bool.or_eq_true] at hq
    obtain ⟨v, w, rfl, hv, hw⟩ := G.2.2.1
    have : w = [] := hw
    subst this
    obtain ⟨k1, y, rfl, z1⟩ := xv_int hq.1 hv
    refine ⟨?_, rfl⟩
    have : o = 0 ∨ fl_bit y = true := by
      rcases hq.2 with h | h
      · exact Or.inl h
      · split at h
        · rename_i b hb
          simp only [Bool.and_eq_true, decide_eq_true_eq] at h
          obtain ⟨y', -, e, h3, -⟩ := bnd_ok G.1 hv hb
          cases e
          exact Or.inr (bit_of (by omega))
        · cases h
    simp only [fl_step, if_pos this]
    rfl
  · cases hq
theorem sgcall_ok {q : Smi} {s : AS} {rho : List Int} {ls : List (Option Value)} {st : List Value} {h : Hp} {pc m2 nL kk : Nat} (h1 : 18 ≤ q.1 ∧ q.1 ≤ 20) (hq : sg_call q s = some (m2, nL, kk)) (G : Gm rho s ls st h) :
    ∃ y, sm_ms[m2]? = some y ∧ y.2.2.1 = nL ∧ gs rho (s.2.1.take kk).reverse (st.take kk).reverse ∧ gs rho (s.2.1.drop kk) (st.drop kk) ∧ (fl_args (st.take kk).reverse).length ≤ nL ∧ (ab_loc (s.2.1.take kk).reverse).length = (fl_args (st.take kk).reverse).length ∧ fl_step q (pc, ls, st, h, fl_tot) = some (.inr (.inl (m2, (st.take kk).reverse, st.drop kk, q.2.2))) := by
  obtain ⟨op, a, nx⟩ := q
  obtain ⟨als, ast, env, ca⟩ := s
  obtain ⟨g1, g2, g3, g4⟩ := G
  simp only at g1 g2 g3 g4 h1
  unfold sg_call at hq
  simp only at hq
  split at hq
  · rename_i m k
    generalize hkk : k.toNat + (if op = 19 then 0 else 1) = k9 at hq
    split at hq
    · rename_i y hy
      split at hq
      · rename_i hc
        obtain ⟨c1, c2, c3, c4⟩ := hc
        cases hq
        have hst : ast.length = st.length := gs_len g3
        obtain ⟨gt, gd⟩ := gs_td kk g3
        have gr := gs_rev gt
        have hcat : fl_cat (st.drop kk) ≤ 8 := Nat.le_trans (cat_ok gd) c2
        have hl := loc_ok gr
        refine ⟨y, hy, rfl, gr, gd, by rw [← hl.1]; exact c4, hl.1, ?_⟩
        unfold ab_recv at c3
        have hhd : ∀ {A : AV} {L : List AV}, (ast.take kk).reverse = A :: L → ∃ w W, (st.take kk).reverse = w :: W ∧ gv rho A w := by
          intro A L hA
          rw [hA] at gr
          obtain ⟨w, W, z1, z2, -⟩ := gr
          exact ⟨w, W, z1, z2⟩
        have o1 : op = 18 ∨ op = 19 ∨ op = 20 := by omega
        rcases o1 with o1 | o1 | o1
        · subst o1
          rw [if_neg (by decide)] at hkk
          simp only [fl_step, fl_call, hkk]
          rw [if_neg (by omega), if_pos hcat]
          simp only [if_true]
          simp only [Bool.or_eq_true, Bool.and_eq_true, beq_iff_eq] at c3
          rcases c3 with o8 | o8
          · exact absurd o8 (by decide)
          · split at o8
            · rename_i A L hA
              obtain ⟨w, W, z1, z2⟩ := hhd hA
              simp only [Bool.or_eq_true, Bool.and_eq_true, beq_iff_eq, decide_eq_true_eq] at o8
              obtain ⟨p1, p2⟩ := o8
              obtain ⟨r, k1, rfl, k2⟩ := gv_ref p1 z2
              rw [z1]
              simp only
              rcases p2 with p2 | ⟨p2, p3⟩
              · exact absurd p2 (by decide)
              · split at p3
                · rename_i code size tys y' hK hy'
                  obtain ⟨w1, w2⟩ := ab_kdK (by rw [k2]; exact p2) (by rw [k2]; exact hK)
                  rw [if_pos ⟨w1, by rw [w2, hy']; exact of_decide_eq_true (by simpa using p3)⟩]
                · cases p3
            · cases o8
        · subst o1
          rw [if_pos rfl] at hkk
          simp only [fl_step, fl_call, hkk]
          rw [if_neg (by omega), if_pos hcat]
          rw [if_neg (by decide), if_neg (by decide)]
        · subst o1
          rw [if_neg (by decide)] at hkk
          simp only [fl_step, fl_call, hkk]
          rw [if_neg (by omega), if_pos hcat]
          simp only [Bool.or_eq_true, Bool.and_eq_true, beq_iff_eq] at c3
          rcases c3 with o8 | o8
          · exact absurd o8 (by decide)
          · split at o8
            · rename_i A L hA
              obtain ⟨w, W, z1, z2⟩ := hhd hA
              simp only [Bool.and_eq_true, beq_iff_eq] at o8
              obtain ⟨r, k1, rfl, k2⟩ := gv_ref o8.1 z2
              rw [if_neg (by decide), if_pos trivial, z1]
            · cases o8
      · cases hq
    · cases hq
  · cases hq
theorem asm_ok {lo hi : Int} {x : XS} {bads : List XS} {good : XS} {rho : List Int} {h0 h : Hp} {ls : List (Option Value)} {st : List Value} (hq : sg_asm lo hi x = some (bads, good)) (X : XM rho h0 x ls st h) : (∃ b ∈ bads, XM rho h0 b ls st h) ∨ XM rho h0 good ls st h := by
  obtain ⟨⟨als, ast, env, ca⟩, fx, lg⟩ := x
  unfold sg_asm at hq
  simp only at hq
  split at hq
  · rename_i a st'
    split at hq
    · rename_i hz
      split at hq
      · rename_i b hb
        cases hq
        have hz0 := z_rho (s := (als, (a :: st'), env, ca)) X.1.1 hz
        obtain ⟨v, w, hst, hv, hw⟩ := X.1.2.2.1
        obtain ⟨y, ha1, rfl, hy, hr⟩ := bnd_ok X.1.1 hv hb
        obtain ⟨k1, y', e, z1⟩ := xv_int ha1 hv
        cases e
        have hc : ∀ c : Int, xv rho (1, 0, c) = c := fun c => by
          unfold xv
          rw [hz0]
          simp
        by_cases h1 : y.toInt < lo
        · refine Or.inl ⟨_, List.mem_append_left _ (by rw [if_pos (by omega)]; exact List.mem_singleton.mpr rfl), ?_⟩
          refine ⟨X.1, X.2.1, X.2.2.1, fun f hf => ?_⟩
          rcases List.mem_cons.mp hf with rfl | hf
          · refine ⟨k1, ⟨0, hz0⟩, Nat.zero_le _, Or.inl (show 2 < 20 by decide), ?_⟩
            unfold fok
            simp only
            rw [if_neg (by decide), if_pos (by decide), hc, ← z1]
            exact h1
          · exact X.2.2.2 f hf
        · by_cases h2 : hi < y.toInt
          · refine Or.inl ⟨_, List.mem_append_right _ (by rw [if_pos (by omega)]; exact List.mem_singleton.mpr rfl), ?_⟩
            refine ⟨X.1, X.2.1, X.2.2.1, fun f hf => ?_⟩
            rcases List.mem_cons.mp hf with rfl | hf
            · refine ⟨k1, ⟨0, hz0⟩, Nat.zero_le _, Or.inl (show 4 < 20 by decide), ?_⟩
              unfold fok
              simp only
              rw [if_neg (by decide), if_pos (by decide), hc, ← z1]
              exact h2
            · exact X.2.2.2 f hf
          · refine Or.inr ⟨⟨?_, X.1.2⟩, X.2⟩
            refine ga_set X.1.1 hr ?_
            simp only [ab_max, ab_min]
            constructor
            · split <;> omega
            · split <;> omega
      · cases hq
    · cases hq
  · cases hq
/-- what an arrival means -/
def ARM (rho : List Int) (h0 : Hp) (k m pc : Nat) (ls : List (Option Value)) (st : List Value) (h : Hp) (a : AR) : Prop :=
  ∃ (t : List Int) (ls' : List (Option Value)) (st' : List Value) (h' : Hp), XM (rho ++ t) h0 a.2.2 ls' st' h' ∧ TInv h' ∧ (match a.1 with
    | 0 => ∀ d r, k ≤ d → Ev d m (a.2.1.1, ls', st', h', fl_tot) r → Ev d m (pc, ls, st, h, fl_tot) r
    | 1 => gs (rho ++ t) (a.2.2.1.2.1.take a.2.1.2.2.1).reverse (st'.take a.2.1.2.2.1).reverse ∧ gs (rho ++ t) (a.2.2.1.2.1.drop a.2.1.2.2.1) (st'.drop a.2.1.2.2.1) ∧ ∀ d v h2 r, k ≤ d + 1 → Ev d a.2.1.1 (0, fl_enter a.2.1.2.1 (st'.take a.2.1.2.2.1).reverse, [], h', fl_tot) (v, h2, fl_tot) → Ev (d + 1) m (a.2.1.2.2.2, ls', v.toList ++ st'.drop a.2.1.2.2.1, h2, fl_tot) r → Ev (d + 1) m (pc, ls, st, h, fl_tot) r
    | 2 => st' = st'.head?.toList ∧ ∀ d, k ≤ d → Ev d m (pc, ls, st, h, fl_tot) (st'.head?, h', fl_tot)
    | _ => True)
theorem ARM.pre {rho t0 : List Int} {h0 : Hp} {k m pc pc1 : Nat} {ls ls1 : List (Option Value)} {st st1 : List Value} {h h1 : Hp} {a : AR} (A : ARM (rho ++ t0) h0 k m pc1 ls1 st1 h1 a) (hs : ∀ d r, k ≤ d → Ev d m (pc1, ls1, st1, h1, fl_tot) r → Ev d m (pc, ls, st, h, fl_tot) r) : ARM rho h0 k m pc ls st h a := by
  obtain ⟨t, ls', st', h', X, T, E⟩ := A
  refine ⟨t0 ++ t, ls', st', h', by rw [← List.append_assoc]; exact X, T, ?_⟩
  split at E
  · exact fun d r hd ev => hs d r hd (E d r hd ev)
  · rw [← List.append_assoc]
    exact ⟨E.1, E.2.1, fun d v h2 r hd e1 e2 => hs _ _ hd (E.2.2 d v h2 r hd e1 e2)⟩
  · exact ⟨E.1, fun d hd => hs _ _ hd (E.2 d hd)⟩
  · trivial
theorem sg_ok (P : SP) : ∀ (f k : Nat) (first : Bool) (m pc : Nat) (x : XS) (L : List AR) (rho : List Int) (h0 : Hp) (ls : List (Option Value)) (st : List Value) (h : Hp), sg_walk P f k first m pc x = some L → XM rho h0 x ls st h → TInv h → ∃ a ∈ L, ARM rho h0 k m pc ls st h a := by
  intro f
  induction f with
  | zero => intro k first m pc x L rho h0 ls st h hg; cases hg
  | succ f ih =>
    intro k first m pc x L rho h0 ls st h hg X hT
    have X0 : XM (rho ++ []) h0 x ls st h := by rw [nil_app]; exact X
    unfold sg_walk at hg
    split at hg
    · cases hg
      exact ⟨_, List.mem_singleton.mpr rfl, [], ls, st, h, X0, hT, fun d r _ ev => ev⟩
    · cases hc : fl_code m pc with
      | none => rw [hc] at hg; cases hg
      | some q =>
        rw [hc] at hg
        simp only at hg
        by_cases hr : 21 ≤ q.1 ∧ q.1 ≤ 24
        · rw [if_pos hr] at hg
          split at hg
          · rename_i hret
            cases hg
            obtain ⟨r1, r2⟩ := sgret_ok (n := fl_tot) (pc := pc) hret X.1
            exact ⟨_, List.mem_singleton.mpr rfl, [], ls, st, h, X0, hT, r2, fun d _ => Ev.ret hc r1⟩
          · cases hg
        · rw [if_neg hr] at hg
          by_cases hk : 18 ≤ q.1 ∧ q.1 ≤ 20
          · rw [if_pos hk] at hg
            cases hcl : sg_call q x.1 with
            | none => rw [hcl] at hg; cases hg
            | some z =>
              obtain ⟨m2, nL, kk⟩ := z
              rw [hcl] at hg
              simp only at hg
              obtain ⟨y, y1, y2, y3, y4, y5, y6, y7⟩ := sgcall_ok (pc := pc) hk hcl X.1
              split at hg
              · cases k with
                | zero => cases hg
                | succ k' =>
                  simp only at hg
                  cases hw : sg_walk P f k' false m2 0 ((ab_loc (x.1.2.1.take kk).reverse ++ List.replicate (nL - (ab_loc (x.1.2.1.take kk).reverse).length) (0, 0, 0), [], x.1.2.2.1, x.1.2.2.2), x.2.1, x.2.2) with
                  | none => rw [hw] at hg; cases hg
                  | some l =>
                    rw [hw] at hg
                    simp only at hg
                    have X2 : XM rho h0 ((ab_loc (x.1.2.1.take kk).reverse ++ List.replicate (nL - (ab_loc (x.1.2.1.take kk).reverse).length) (0, 0, 0), [], x.1.2.2.1, x.1.2.2.2), x.2.1, x.2.2) (fl_enter nL (st.take kk).reverse) [] h := by
                      refine ⟨⟨X.1.1, ?_, rfl, X.1.2.2.2⟩, X.2⟩
                      have := pad_ok (loc_ok y3) (nL - (fl_args (st.take kk).reverse).length)
                      unfold fl_enter
                      simp only
                      rw [y6]
                      exact this
                    obtain ⟨a, ha, t, ls2, st2, h2, A1, A2, A3⟩ := ih k' false m2 0 _ l rho h0 _ _ h hw X2 hT
                    obtain ⟨L', w1, w2⟩ := sgcat_ok hg a ha
                    split at w1
                    · rename_i ha2
                      rw [ha2] at A3
                      obtain ⟨A4, A5⟩ := A3
                      have X3 : XM (rho ++ t) h0 ((x.1.1, a.2.2.1.2.1 ++ x.1.2.1.drop kk, a.2.2.1.2.2.1, a.2.2.1.2.2.2), a.2.2.2.1, a.2.2.2.2) ls (st2 ++ st.drop kk) h2 := ⟨⟨A1.1.1, gl_ext X.1.2.1, gs_app A1.1.2.2.1 (gs_ext y4), A1.1.2.2.2⟩, A1.2⟩
                      obtain ⟨b, hb, B⟩ := ih (k' + 1) false m q.2.2 _ L' (rho ++ t) h0 _ _ h2 w1 X3 A2
                      refine ⟨b, w2 _ hb, B.pre fun d r hd ev => ?_⟩
                      obtain ⟨d', rfl⟩ : ∃ d', d = d' + 1 := ⟨d - 1, by omega⟩
                      have hlen : (fl_args (st.take kk).reverse).length ≤ y.2.2.1 := by rw [y2]; exact y5
                      refine Ev.call hc y7 y1 hlen (v := st2.head?) (h := h2) (n := fl_tot) ?_ ?_
                      · rw [y2]
                        exact A5 d' (by omega)
                      · rw [← A4]
                        exact ev
                    · split at w1
                      · rename_i ha3
                        cases w1
                        refine ⟨a, w2 _ (List.mem_singleton.mpr rfl), t, ls2, st2, h2, A1, A2, ?_⟩
                        rw [ha3]
                        trivial
                      · cases w1
              · cases hg
                refine ⟨_, List.mem_singleton.mpr rfl, [], ls, st, h, X0, hT, by rw [nil_app]; exact y3, by rw [nil_app]; exact y4, fun d v h2 r _ e1 e2 => ?_⟩
                have hlen : (fl_args (st.take kk).reverse).length ≤ y.2.2.1 := by rw [y2]; exact y5
                exact Ev.call hc y7 y1 hlen (by rw [y2]; exact e1) e2
          · rw [if_neg hk] at hg
            cases hl : ab_step sg_mods q x.1 with
            | none => rw [hl] at hg; cases hg
            | some l =>
              rw [hl] at hg
              simp only at hg
              obtain ⟨s, fx, lg⟩ := x
              obtain ⟨c', e, t, s1, s2, s3, s4, s5, s6, s7⟩ := sx_ok (pc := pc) hl X hT
              obtain ⟨L', w1, w2⟩ := sgcat_ok hg e s2
              obtain ⟨pc', ls1, st1, h1, n'⟩ := c'
              simp only at s1 s2 s3 s4 s5 s6 s7 w1
              subst s6
              have go : ∀ d r, k ≤ d → Ev d m (e.1, ls1, st1, h1, fl_tot) r → Ev d m (pc, ls, st, h, fl_tot) r := fun d r _ ev => by
                rw [s3] at ev
                exact Ev.step hc s1 ev
              cases hn : sx_new q s e lg.length with
              | none => rw [hn] at w1; cases w1
              | some z =>
                obtain ⟨fa, la⟩ := z
                rw [hn] at w1
                simp only at w1
                have X1 := s4 fa la hn
                split at w1
                · obtain ⟨b, hb, B⟩ := ih k false m e.1 _ L' (rho ++ t) h0 _ _ h1 w1 X1 s5
                  exact ⟨b, w2 _ hb, B.pre go⟩
                · rename_i z hz
                  split at w1
                  · cases w1
                  · rename_i bads good hgood
                    split at w1
                    · cases w1
                    · rename_i l2 hl2
                      cases w1
                      rcases asm_ok hgood X1 with ⟨b, hb, XB⟩ | XG
                      · exact ⟨(3, (pc, 0, 0, 0), b), w2 _ (List.mem_append_left _ (List.mem_map.mpr ⟨b, hb, rfl⟩)), t, ls1, st1, h1, XB, s5, trivial⟩
                      · obtain ⟨b, hb, B⟩ := ih k false m e.1 _ l2 (rho ++ t) h0 _ _ h1 hl2 XG s5
                        exact ⟨b, w2 _ (List.mem_append_right _ hb), B.pre go⟩
end
section
/-! SEGMENTS: from given values at a place to the arrivals, told in plain terms -/
def pn : List Int → Nat → Int
  | [], _ => 0
  | x :: _, 0 => x
  | _ :: l, i + 1 => pn l i
theorem pn_nm : ∀ (l : List Int) (i : Nat), pn l i = nm l i
  | [], i => by simp [pn, nm]
  | x :: l, 0 => by simp [pn, nm]
  | x :: l, i + 1 => by
    have := pn_nm l i
    simpa [pn, nm] using this
def pv (rho : List Int) (a : AV) : Int := if a.2.1 = 0 then a.2.2 else if a.2.2 = 0 then pn rho a.2.1 else pn rho a.2.1 + a.2.2
theorem pv_xv {rho : List Int} (h0 : rho[0]? = some 0) (a : AV) : pv rho a = xv rho a := by
  unfold pv xv
  split
  · rename_i h
    rw [h, h0]
    simp
  · split
    · rename_i h
      rw [h, pn_nm]
      unfold nm
      omega
    · rw [pn_nm]
      rfl
def iv (z : Int) : Value := .int (Int32.ofInt z)
def rv (K : Nat) : Value := .ref (xc K)
def vl (rho : List Int) (a : AV) : Value := match a.1 with
  | 1 => iv (pv rho a)
  | 2 => rv a.2.2.toNat
  | _ => .null
def lv (rho : List Int) (a : AV) : Option Value := match a.1 with
  | 0 => none
  | _ => some (vl rho a)
def okv (a : AV) : Bool := a.1 == 1 || (a.1 == 2 && decide (31 ≤ a.2.2) && decide (a.2.2 < 93)) || a.1 == 3
/-- locals: none, nothing is known but that it is no long -/
def LVs (vs ls : List (Option Value)) : Prop := vs.length = ls.length ∧ ∀ i : Nat, (vs[i]? = some none → ∀ v, ls[i]? = some (some v) → v.category = 1) ∧ (∀ v, vs[i]? = some (some v) → ls[i]? = some (some v))
theorem LVs.self (l : List (Option Value)) : LVs l l := ⟨rfl, fun i => ⟨fun h v hv => (by rw [h] at hv; cases hv), fun v hv => hv⟩⟩
theorem gv_vl {rho : List Int} (h0 : rho[0]? = some 0) {a : AV} {v : Value} (ho : okv a = true) (h : gv rho a v) : v = vl rho a := by
  unfold okv at ho
  simp only [Bool.or_eq_true, Bool.and_eq_true, beq_iff_eq, decide_eq_true_eq] at ho
  rcases ho with (h1 | h1) | h1
  · obtain ⟨-, y, rfl, e⟩ := xv_int h1 h
    unfold vl
    rw [h1]
    show _ = iv _
    rw [pv_xv h0, ← e]
    unfold iv
    rw [Int32.ofInt_toInt]
  · obtain ⟨r, -, rfl, e⟩ := gv_ref h1.1.1 h
    unfold vl
    rw [h1.1.1]
    show _ = rv _
    unfold rv
    rw [← e, xc_of (by omega) (by omega)]
  · unfold gv at h
    rw [h1] at h
    unfold vl
    rw [h1]
    exact h
theorem gs_vl {rho : List Int} (h0 : rho[0]? = some 0) : ∀ {s : List AV} {vs : List Value}, s.all okv = true → gs rho s vs → vs = s.map (vl rho)
  | [], _, _, h => h
  | a :: s, _, ho, ⟨v, w, e, h2, h3⟩ => by
    subst e
    rw [List.all_cons, Bool.and_eq_true] at ho
    rw [List.map_cons, ← gv_vl h0 ho.1 h2, ← gs_vl h0 ho.2 h3]
theorem gl_LVs {rho : List Int} (h0 : rho[0]? = some 0) {s : List AV} {ls : List (Option Value)} (ho : s.all (fun a => a.1 == 0 || okv a) = true) (h : gl rho s ls) : LVs (s.map (lv rho)) ls := by
  refine ⟨by rw [List.length_map]; exact h.1, fun i => ?_⟩
  rw [List.getElem?_map]
  cases hs : s[i]? with
  | none => exact ⟨fun z => (by cases z), fun v z => by cases z⟩
  | some a =>
    obtain ⟨g1, g2⟩ := h.2 i a hs
    have hoa := List.all_eq_true.mp ho a (List.mem_of_getElem? hs)
    simp only [Bool.or_eq_true, beq_iff_eq] at hoa
    by_cases ha : a.1 = 0
    · refine ⟨fun _ => g1 ha, fun v z => ?_⟩
      simp only [Option.map_some, Option.some.injEq] at z
      unfold lv at z
      rw [ha] at z
      cases z
    · obtain ⟨v, w1, w2⟩ := g2 ha
      have e : lv rho a = some (vl rho a) := by
        unfold lv
        split
        · rename_i z; exact absurd z ha
        · rfl
      have e2 := gv_vl h0 (hoa.resolve_left ha) w2
      rw [Option.map_some, e]
      refine ⟨fun z => (by cases z), fun v' z => ?_⟩
      cases z
      rw [w1, e2]
def ph (rho : List Int) (h : Hp) : List LG → Hp
  | [] => h
  | g :: l => wr g.1 (pv rho g.2.1) (pv rho g.2.2) (ph rho h l)
theorem ph_xh {rho : List Int} (h0 : rho[0]? = some 0) {h : Hp} : ∀ l : List LG, ph rho h l = xh rho h l
  | [] => rfl
  | g :: l => by
    unfold ph xh
    rw [ph_xh h0 l, pv_xv h0, pv_xv h0]
def pf (rho : List Int) (h : Hp) (lg : List LG) (f : FX) : Prop := if f.1 = 9 then pv rho f.2.2.2.1 = rd f.2.1 (pv rho f.2.2.1) (ph rho h (lg.drop (lg.length - f.2.2.2.2))) else if f.1 < 20 then icmp f.1 (pv rho f.2.2.1) (pv rho f.2.2.2.1) else iop f.1 (pv rho f.2.2.1) (pv rho f.2.2.2.1) (pn rho f.2.1)
theorem pf_fok {rho : List Int} (h0 : rho[0]? = some 0) {h : Hp} {lg : List LG} {f : FX} (hf : fok rho h lg f) : pf rho h lg f := by
  unfold pf
  rw [pv_xv h0, pv_xv h0, ph_xh h0, pn_nm]
  exact hf
def FC (rho : List Int) (h : Hp) (lg : List LG) : List FX → Prop
  | [] => True
  | f :: fs => pf rho h lg f ∧ FC rho h lg fs
theorem FC_of {rho : List Int} {h : Hp} {lg : List LG} : ∀ {fx : List FX}, (∀ f ∈ fx, pf rho h lg f) → FC rho h lg fx
  | [], _ => trivial
  | f :: fs, h => ⟨h f List.mem_cons_self, FC_of fun g hg => h g (List.mem_cons_of_mem _ hg)⟩
/-- nothing but cells of the kinds 31 to 92 is written -/
def Rf (h h' : Hp) : Prop := h'.2 = h.2 ∧ ∀ r, ¬ (31 ≤ ab_kd r ∧ ab_kd r < 93) → h'.1 r = h.1 r
def Nx (h h' : Hp) : Prop := TInv h' ∧ Rf h h'
theorem Rf.refl (h : Hp) : Rf h h := ⟨rfl, fun _ _ => rfl⟩
theorem Rf.trans {a b c : Hp} (x : Rf a b) (y : Rf b c) : Rf a c := ⟨y.1.trans x.1, fun r hr => (y.2 r hr).trans (x.2 r hr)⟩
theorem Nx.trans {a b c : Hp} (x : Nx a b) (y : Nx b c) : Nx a c := ⟨y.1, x.2.trans y.2⟩
theorem xc_kd : ((List.range 62).all fun k => decide (ab_kd (xc (31 + k)) = 31 + k)) = true := by decide +kernel
theorem xc_kd' {K : Nat} (h1 : 31 ≤ K) (h2 : K < 93) : ab_kd (xc K) = K := by
  have := of_decide_eq_true (List.all_eq_true.mp xc_kd (K - 31) (List.mem_range.mpr (by omega)))
  rw [show 31 + (K - 31) = K by omega] at this
  exact this
theorem Rf.wr {h h' : Hp} {K : Nat} {i v : Int} (x : Rf h h') (h1 : 31 ≤ K) (h2 : K < 93) : Rf h (wr K i v h') := by
  refine ⟨x.1, fun r hr => ?_⟩
  rw [← x.2 r hr]
  funext j
  show (if r = xc K ∧ j = i.toNat then _ else h'.1 r j) = h'.1 r j
  rw [if_neg]
  rintro ⟨rfl, -⟩
  rw [xc_kd' h1 h2] at hr
  exact hr ⟨h1, h2⟩
def lg_ok (l : List LG) : Bool := l.all fun g => decide (31 ≤ g.1) && decide (g.1 < 93)
theorem ph_rf {rho : List Int} {h : Hp} : ∀ {l : List LG}, lg_ok l = true → Rf h (ph rho h l)
  | [], _ => Rf.refl h
  | g :: l, ho => by
    unfold lg_ok at ho
    rw [List.all_cons, Bool.and_eq_true, Bool.and_eq_true, decide_eq_true_eq, decide_eq_true_eq] at ho
    exact (ph_rf ho.2).wr ho.1.1 ho.1.2
def EB (rho : List Int) (env : List (Int × Int)) : Prop := ∀ (i : Nat) (b : Int × Int), env[i]? = some b → b.1 ≤ b.2 → b.1 ≤ pn rho i ∧ pn rho i ≤ b.2
/-- an arrival in plain terms -/
def AM (rho : List Int) (m pc : Nat) (ls : List (Option Value)) (st : List Value) (h : Hp) (a : AR) : Prop :=
  EB rho a.2.2.1.2.2.1 ∧ FC rho h a.2.2.2.2 a.2.2.2.1 ∧ match a.1 with
    | 0 => Nx h (ph rho h a.2.2.2.2) ∧ ∃ ls', LVs (a.2.2.1.1.map (lv rho)) ls' ∧ ∀ d r, 3 ≤ d → Ev d m (a.2.1.1, ls', a.2.2.1.2.1.map (vl rho), ph rho h a.2.2.2.2, fl_tot) r → Ev d m (pc, ls, st, h, fl_tot) r
    | 1 => Nx h (ph rho h a.2.2.2.2) ∧ ∃ ls', LVs (a.2.2.1.1.map (lv rho)) ls' ∧ ∀ d v h2 r, 2 ≤ d → Ev d a.2.1.1 (0, fl_enter a.2.1.2.1 ((a.2.2.1.2.1.take a.2.1.2.2.1).reverse.map (vl rho)), [], ph rho h a.2.2.2.2, fl_tot) (v, h2, fl_tot) → Ev (d + 1) m (a.2.1.2.2.2, ls', v.toList ++ (a.2.2.1.2.1.drop a.2.1.2.2.1).map (vl rho), h2, fl_tot) r → Ev (d + 1) m (pc, ls, st, h, fl_tot) r
    | 2 => Nx h (ph rho h a.2.2.2.2) ∧ ∀ d, 3 ≤ d → Ev d m (pc, ls, st, h, fl_tot) ((a.2.2.1.2.1.map (vl rho)).head?, ph rho h a.2.2.2.2, fl_tot)
    | _ => True
def sg_okA (a : AR) : Bool := a.1 == 3 || ((lg_ok a.2.2.2.2 && a.2.2.1.2.1.all okv) && (a.1 == 2 || a.2.2.1.1.all (fun x => x.1 == 0 || okv x)))
def sg_okT (t : TY) : Bool := (t.1 == 1 && decide (-2147483648 ≤ t.2.1) && decide (t.2.2 ≤ 2147483647)) || (t.1 == 2 && decide (31 ≤ t.2.1) && decide (t.2.1 < 93)) || t.1 == 0
def dq_AV : DecidableEq AV := inferInstance
def dq_AS : DecidableEq AS := @instDecidableEqProd _ _ (@instDecidableEqList _ dq_AV) (@instDecidableEqProd _ _ (@instDecidableEqList _ dq_AV) (@instDecidableEqProd _ _ inferInstance (@instDecidableEqList _ (@instDecidableEqProd _ _ inferInstance (@instDecidableEqProd _ _ inferInstance (@instDecidableEqProd _ _ inferInstance dq_AV))))))
def dq_FX : DecidableEq FX := @instDecidableEqProd _ _ inferInstance (@instDecidableEqProd _ _ inferInstance (@instDecidableEqProd _ _ dq_AV (@instDecidableEqProd _ _ dq_AV inferInstance)))
def dq_LG : DecidableEq LG := @instDecidableEqProd _ _ inferInstance (@instDecidableEqProd _ _ dq_AV dq_AV)
def dq_XS : DecidableEq XS := @instDecidableEqProd _ _ dq_AS (@instDecidableEqProd _ _ (@instDecidableEqList _ dq_FX) (@instDecidableEqList _ dq_LG))
def dq_AR : DecidableEq AR := @instDecidableEqProd _ _ inferInstance (@instDecidableEqProd _ _ inferInstance dq_XS)
def dq_L : DecidableEq (List AR) := @instDecidableEqList _ dq_AR
def sg_is (o : Option (List AR)) (L : List AR) : Bool := match o with
  | some L' => @decide (L' = L) (dq_L _ _)
  | none => false
theorem sg_is_ok {o : Option (List AR)} {L : List AR} (h : sg_is o L = true) : o = some L := by
  unfold sg_is at h
  split at h
  · rw [@of_decide_eq_true _ (dq_L _ _) h]
  · cases h
def sg_check (P : SP) (m pc : Nat) (tys stys : List TY) (L : List AR) : Bool := sg_is (sg_walk P 3000 3 true m pc (ab_head (tys, stys, []), [], [])) L && L.all sg_okA && tys.all sg_okT && stys.all (fun t => sg_okT t && t.1 != 0)
/-- the values that stand at a start -/
def hv : List TY → List Int → List (Option Value)
  | [], _ => []
  | t :: ts, zs => if t.1 = 1 then some (iv (zs.headD 0)) :: hv ts zs.tail else if t.1 = 2 then some (rv t.2.1.toNat) :: hv ts zs else none :: hv ts zs
def sv : List TY → List Int → List Value
  | [], _ => []
  | t :: ts, zs => if t.1 = 1 then iv (zs.headD 0) :: sv ts zs.tail else rv t.2.1.toNat :: sv ts zs
def hr : List TY → List Int → List Int
  | [], _ => []
  | t :: ts, zs => if t.1 = 1 then zs.headD 0 :: hr ts zs.tail else if t.1 = 2 then (xc t.2.1.toNat : Int) :: hr ts zs else hr ts zs
def HB : List TY → List Int → Prop
  | [], _ => True
  | t :: ts, zs => if t.1 = 1 then (t.2.1 ≤ zs.headD 0 ∧ zs.headD 0 ≤ t.2.2) ∧ HB ts zs.tail else HB ts zs
theorem ofInt_toInt {z : Int} (h1 : -2147483648 ≤ z) (h2 : z ≤ 2147483647) : (Int32.ofInt z).toInt = z := by
  rw [Int32.toInt_ofInt]
  exact i_bm h1 h2
theorem LVs.cons {o : Option Value} {vs ls : List (Option Value)} (h : LVs (o :: vs) ls) : ∃ o' ls', ls = o' :: ls' ∧ LVs vs ls' ∧ (o = none → ∀ v, o' = some v → v.category = 1) ∧ (∀ v, o = some v → o' = some v) := by
  cases ls with
  | nil => cases h.1
  | cons o' ls' =>
    refine ⟨o', ls', rfl, ⟨Nat.succ.inj h.1, fun i => h.2 (i + 1)⟩, ?_, ?_⟩
    · intro z v hv
      exact (h.2 0).1 (by rw [z]; rfl) v (by rw [hv]; rfl)
    · intro v hv
      have := (h.2 0).2 v (by rw [hv]; rfl)
      simpa using this
theorem mk_ex : ∀ (ts : List TY) (zs : List Int) (os : List (Option Value)) (env : List (Int × Int)) (rho : List Int), ts.all sg_okT = true → ga rho env → HB ts zs → LVs (hv ts zs) os → ga (rho ++ hr ts zs) (ab_mk env ts).2 ∧ gl (rho ++ hr ts zs) (ab_mk env ts).1 os
  | [], zs, os, env, rho, _, g, _, hl => by
    have : os = [] := by
      cases os with
      | nil => rfl
      | cons a l => cases hl.1
    subst this
    refine ⟨by unfold hr ab_mk; rw [List.append_nil]; exact g, ?_⟩
    exact ⟨rfl, fun i a h => by simp [ab_mk] at h⟩
  | t :: ts, zs, os, env, rho, ho, g, hb, hl => by
    rw [List.all_cons, Bool.and_eq_true] at ho
    have ht := ho.1
    unfold sg_okT at ht
    simp only [Bool.or_eq_true, Bool.and_eq_true, beq_iff_eq, decide_eq_true_eq] at ht
    unfold HB at hb
    unfold hv at hl
    unfold hr ab_mk
    rcases ht with (ht | ht) | ht
    · rw [if_pos ht.1.1] at hb hl ⊢
      rw [if_pos ht.1.1]
      obtain ⟨o', ls', rfl, h3, -, h5⟩ := hl.cons
      have h6 := h5 _ rfl
      subst h6
      have g1 := ga_push (x := zs.headD 0) (b := (t.2.1, t.2.2)) g (Or.inr hb.1)
      obtain ⟨q1, q2⟩ := mk_ex ts zs.tail ls' _ _ ho.2 g1 hb.2 h3
      rw [List.append_assoc, List.singleton_append] at q1 q2
      refine ⟨q1, gl_cons ⟨fun z => (by cases z), fun _ => ⟨_, rfl, ?_⟩⟩ q2⟩
      have e := ofInt_toInt (z := zs.headD 0) (by omega) (by omega)
      have := gv_ext (t := hr ts zs.tail) (gv_mk (rho := rho ++ [zs.headD 0]) (i := env.length) (o := 0) (y := Int32.ofInt (zs.headD 0)) (by rw [ga_last g, e]; simp))
      rw [List.append_assoc, List.singleton_append] at this
      exact this
    · have hn1 : ¬ t.1 = 1 := by omega
      rw [if_neg hn1, if_pos ht.1.1] at hl ⊢
      rw [if_neg hn1] at hb
      rw [if_neg hn1, if_pos ht.1.1]
      obtain ⟨o', ls', rfl, h3, -, h5⟩ := hl.cons
      have h6 := h5 _ rfl
      subst h6
      have g1 := ga_push (x := (xc t.2.1.toNat : Int)) (b := (1, 0)) g (Or.inl (by decide))
      obtain ⟨q1, q2⟩ := mk_ex ts zs ls' _ _ ho.2 g1 hb h3
      rw [List.append_assoc, List.singleton_append] at q1 q2
      refine ⟨q1, gl_cons ⟨fun z => (by cases z), fun _ => ⟨_, rfl, ?_⟩⟩ q2⟩
      have h7 : gv (rho ++ [(xc t.2.1.toNat : Int)]) (2, env.length, t.2.1) (rv t.2.1.toNat) := ⟨xc t.2.1.toNat, ga_last g, rfl, xc_kd' (by omega) (by omega)⟩
      have := gv_ext (t := hr ts zs) h7
      rw [List.append_assoc, List.singleton_append] at this
      exact this
    · have hn1 : ¬ t.1 = 1 := by omega
      have hn2 : ¬ t.1 = 2 := by omega
      rw [if_neg hn1, if_neg hn2] at hl ⊢
      rw [if_neg hn1] at hb
      rw [if_neg hn1, if_neg hn2, if_neg (by omega), if_neg (by omega)]
      obtain ⟨o', ls', rfl, h3, h4, -⟩ := hl.cons
      obtain ⟨q1, q2⟩ := mk_ex ts zs ls' _ _ ho.2 g hb h3
      exact ⟨q1, gl_cons ⟨fun _ => h4 rfl, fun z => absurd rfl z⟩ q2⟩
theorem hv_sv : ∀ (ts : List TY) (zs : List Int), ts.all (fun t => sg_okT t && t.1 != 0) = true → hv ts zs = (sv ts zs).map some
  | [], _, _ => rfl
  | t :: ts, zs, ho => by
    rw [List.all_cons, Bool.and_eq_true] at ho
    unfold hv sv
    split
    · rw [List.map_cons, hv_sv ts _ ho.2]
    · rename_i h1
      have h2 : t.1 = 2 := by
        have := ho.1
        unfold sg_okT at this
        simp only [Bool.or_eq_true, Bool.and_eq_true, beq_iff_eq, decide_eq_true_eq, bne_iff_ne] at this
        omega
      rw [if_pos h2, List.map_cons, hv_sv ts _ ho.2]
def EX {α : Type} : List α → (α → Prop) → Prop
  | [], _ => False
  | [a], P => P a
  | a :: l, P => P a ∨ EX l P
theorem EX_of {α : Type} {P : α → Prop} : ∀ {l : List α} {a : α}, a ∈ l → P a → EX l P
  | [], _, h, _ => by cases h
  | [b], a, h, hp => by
    obtain rfl := List.mem_singleton.mp h
    exact hp
  | b :: c :: l, a, h, hp => by
    rcases List.mem_cons.mp h with rfl | h
    · exact Or.inl hp
    · exact Or.inr (EX_of h hp)
theorem seg {P : SP} {m pc : Nat} {tys stys : List TY} {L : List AR} (hw : sg_check P m pc tys stys L = true) {zs szs : List Int} {ls : List (Option Value)} {h : Hp} (hT : TInv h) (hb : HB tys zs) (hsb : HB stys szs) (hl : LVs (hv tys zs) ls) : EX L (fun a => ∃ t, AM (0 :: (hr tys zs ++ (hr stys szs ++ t))) m pc ls (sv stys szs) h a) := by
  unfold sg_check at hw
  simp only [Bool.and_eq_true] at hw
  obtain ⟨⟨⟨w1, w2⟩, w3⟩, w4⟩ := hw
  replace w1 := sg_is_ok w1
  have g0 : ga [0] [(0, 0)] := ⟨rfl, fun i b hb => by
    cases i with
    | zero => cases hb; exact ⟨0, rfl, Or.inr ⟨Int.le_refl _, Int.le_refl _⟩⟩
    | succ i => simp at hb⟩
  obtain ⟨a1, a2⟩ := mk_ex tys zs ls [(0, 0)] [0] w3 g0 hb hl
  have w5 : stys.all sg_okT = true := by
    rw [List.all_eq_true] at w4 ⊢
    intro x hx
    have := w4 x hx
    rw [Bool.and_eq_true] at this
    exact this.1
  obtain ⟨b1, b2⟩ := mk_ex stys szs _ (ab_mk [(0, 0)] tys).2 ([0] ++ hr tys zs) w5 a1 hsb (LVs.self _)
  rw [hv_sv _ _ w4] at b2
  have G : Gm ([0] ++ hr tys zs ++ hr stys szs) (ab_head (tys, stys, [])) ls (sv stys szs) h := ⟨b1, gl_ext a2, gs_of_gl b2, fun e he => by cases he⟩
  have X : XM ([0] ++ hr tys zs ++ hr stys szs) h (ab_head (tys, stys, []), [], []) ls (sv stys szs) h := ⟨G, rfl, fun g hg => (by cases hg), fun f hf => by cases hf⟩
  obtain ⟨a, ha, t, ls', st', h', A1, A2, A3⟩ := sg_ok P 3000 3 true m pc _ L _ h _ _ h w1 X hT
  refine EX_of ha ⟨t, ?_⟩
  have er : (0 : Int) :: (hr tys zs ++ (hr stys szs ++ t)) = [0] ++ hr tys zs ++ hr stys szs ++ t := by simp
  rw [er]
  generalize hrho : [0] ++ hr tys zs ++ hr stys szs ++ t = rho at A1 A3
  have h0 : rho[0]? = some 0 := by rw [← hrho]; simp
  have hoa := List.all_eq_true.mp w2 a ha
  unfold sg_okA at hoa
  simp only [Bool.or_eq_true, Bool.and_eq_true, beq_iff_eq] at hoa
  obtain ⟨B1, B2, B3, B4⟩ := A1
  subst B2
  have e1 := ph_xh (rho := rho) h0 (h := h) a.2.2.2.2
  refine ⟨fun i b hb hbb => ?_, FC_of fun f hf => pf_fok h0 (B4 f hf).2.2.2.2, ?_⟩
  · obtain ⟨x, z1, z2⟩ := B1.1.2 i b hb
    have : pn rho i = x := by
      rw [pn_nm]
      unfold nm
      rw [z1]
      rfl
    omega
  · obtain ⟨c, w, x⟩ := a
    rw [e1]
    simp only at hoa B1 A3 ⊢
    match c with
    | 0 =>
      rcases hoa with hoa | ⟨⟨o0, o1⟩, o2 | o2⟩
      · cases hoa
      · cases o2
      · refine ⟨⟨A2, by rw [← e1]; exact ph_rf o0⟩, ls', gl_LVs h0 o2 B1.2.1, fun d r hd ev => A3 d r hd ?_⟩
        rw [gs_vl h0 o1 B1.2.2.1]
        exact ev
    | 1 =>
      rcases hoa with hoa | ⟨⟨o0, o1⟩, o2 | o2⟩
      · cases hoa
      · cases o2
      · obtain ⟨k1, k2, k3⟩ := A3
        refine ⟨⟨A2, by rw [← e1]; exact ph_rf o0⟩, ls', gl_LVs h0 o2 B1.2.1, fun d v h2 r hd e2 e3 => k3 d v h2 r (by omega) ?_ ?_⟩
        · rw [gs_vl h0 o1 B1.2.2.1, ← List.map_take, ← List.map_reverse]
          exact e2
        · rw [gs_vl h0 o1 B1.2.2.1, ← List.map_drop]
          exact e3
    | 2 =>
      rcases hoa with hoa | ⟨⟨o0, o1⟩, -⟩
      · cases hoa
      · refine ⟨⟨A2, by rw [← e1]; exact ph_rf o0⟩, fun d hd => ?_⟩
        have := A3.2 d hd
        rw [gs_vl h0 o1 B1.2.2.1] at this
        exact this
    | n + 3 => trivial
end
section
/-! READS AND WRITES -/
theorem xc_inj {K K' : Nat} (h : 31 ≤ K ∧ K < 93) (h' : 31 ≤ K' ∧ K' < 93) (hn : K ≠ K') : xc K ≠ xc K' := fun z => by
  have := congrArg ab_kd z
  rw [xc_kd' h.1 h.2, xc_kd' h'.1 h'.2] at this
  exact hn this
def kne (K K' : Nat) : Bool := decide (31 ≤ K) && decide (K < 93) && decide (31 ≤ K') && decide (K' < 93) && decide (K ≠ K')
theorem rd_k {K K' : Nat} (hk : kne K K' = true) (i j v : Int) (h : Hp) : rd K i (wr K' j v h) = rd K i h := by
  unfold kne at hk
  simp only [Bool.and_eq_true, decide_eq_true_eq] at hk
  have := xc_inj (K := K) (K' := K') ⟨hk.1.1.1.1, hk.1.1.1.2⟩ ⟨hk.1.1.2, hk.1.2⟩ hk.2
  unfold rd wr fl_setI
  simp only
  rw [if_neg (fun z => this z.1)]
theorem rd_eq {K : Nat} {i v : Int} {h : Hp} (h1 : -2147483648 ≤ v) (h2 : v ≤ 2147483647) : rd K i (wr K i v h) = v := by
  unfold rd wr fl_setI
  simp only
  rw [if_pos (by simp), ofInt_toInt h1 h2]
theorem rd_ne {K : Nat} {i j v : Int} {h : Hp} (h1 : 0 ≤ i) (h2 : 0 ≤ j) (hn : i ≠ j) : rd K i (wr K j v h) = rd K i h := by
  unfold rd wr fl_setI
  simp only
  rw [if_neg (fun z => hn (by omega))]
theorem rd_wr {K : Nat} {i j v : Int} {h : Hp} (h1 : 0 ≤ i) (h2 : 0 ≤ j) (h3 : -2147483648 ≤ v) (h4 : v ≤ 2147483647) : rd K i (wr K j v h) = if i = j then v else rd K i h := by
  split
  · rename_i e
    rw [e, rd_eq h3 h4]
  · rename_i e
    rw [rd_ne h1 h2 e]
theorem rd_int (K : Nat) (i : Int) (h : Hp) : -2147483648 ≤ rd K i h ∧ rd K i h ≤ 2147483647 := i_rng _
/-- the bounds of what is read -/
def rdt (K : Nat) (i : Nat) : Int × Int := match ab_K[K]? with
  | some (code, size, tys) => if 31 ≤ K ∧ K < 93 ∧ i < size then (match (if code < 20 then tys[i]? else tys[0]?) with
    | some t => if t.1 = 1 then (t.2.1, t.2.2) else ab_full
    | none => ab_full) else ab_full
  | none => ab_full
theorem rdt_ok {h : Hp} (hT : TInv h) (K : Nat) (i : Nat) : (rdt K i).1 ≤ rd K i h ∧ rd K i h ≤ (rdt K i).2 := by
  have full : ab_full.1 ≤ rd K i h ∧ rd K i h ≤ ab_full.2 := rd_int K i h
  unfold rdt
  split
  · rename_i code size tys hK
    split
    · rename_i hc
      split
      · rename_i t ht
        split
        · rename_i h1
          have hkd := xc_kd' hc.1 hc.2.1
          have := hT (xc K) code size tys i t (by rw [hkd]; omega) (by rw [hkd]; exact hK) hc.2.2 ht
          unfold slotOK at this
          rw [h1] at this
          exact this
        · exact full
      · exact full
    · exact full
  · exact full
/-- all slots of an array alike -/
def rdc (K size : Nat) (lo hi : Int) : Bool := rdt K 0 == (lo, hi) && decide (31 ≤ K) && decide (K < 93) && (match ab_K[K]? with
  | some (code, s, [_]) => decide (size ≤ s) && decide (0 < size) && decide (20 ≤ code)
  | _ => false)
theorem rda_ok {h : Hp} (hT : TInv h) (K size : Nat) (lo hi : Int) (hc : rdc K size lo hi = true) {i : Int} (h1 : 0 ≤ i) (h2 : i < size) : lo ≤ rd K i h ∧ rd K i h ≤ hi := by
  unfold rdc at hc
  simp only [Bool.and_eq_true, decide_eq_true_eq, beq_iff_eq] at hc
  obtain ⟨⟨⟨c1, c2⟩, c3⟩, c4⟩ := hc
  have e : rdt K i.toNat = rdt K 0 := by
    unfold rdt
    split at c4
    · rename_i code s t hK
      simp only [Bool.and_eq_true, decide_eq_true_eq] at c4
      rw [hK]
      simp only
      have hA : 31 ≤ K ∧ K < 93 ∧ i.toNat < s := ⟨c2, c3, by omega⟩
      have hB : 31 ≤ K ∧ K < 93 ∧ 0 < s := ⟨c2, c3, by omega⟩
      have hC : ¬ code < 20 := by omega
      simp only [if_pos hA, if_pos hB, if_neg hC]
    · cases c4
  have := rdt_ok hT K i.toNat
  rw [e, c1, show ((i.toNat : Nat) : Int) = i by omega] at this
  exact this
theorem Ev.up {d m : Nat} {c : Cfg} {r : Option Value × Hp × Nat} {D : Nat} (h : Ev D m c r) (hd : D ≤ d) : Ev d m c r := h.mono hd
end
section
def tys_s157 : List TY := [(2, 31, 0), (1, 0, 39), (1, 0, 4), (1, -1, 20), (0, 0, 0), (0, 0, 0), (0, 0, 0), (0, 0, 0), (0, 0, 0)]
def stys_s157 : List TY := []
theorem chk_s157 : sg_check ([(157, 253)], [], [(157, 219, 0, 31)]) 157 0 tys_s157 stys_s157 [(0, (253, 0, 0, 0), (([(2, 1, 31), (1, 2, 0), (1, 3, 0), (1, 4, 0), (1, 6, 0), (1, 8, 0), (1, 10, 0), (1, 0, 0), (0, 0, 0)], [], [(0, 0), (1, 0), (0, 39), (0, 4), (-1, 20), (1, 0), (0, 5), (1, 0), (2, 4), (1, 0), (0, 4)], [(1, 31, 7, (2, 9, 37)), (1, 31, 1, (2, 7, 32)), (1, 31, 6, (2, 5, 36))]), [(1, 0, (1, 8, 0), (1, 0, 3), 0), (1, 0, (1, 8, 0), (1, 0, 1), 0), (1, 0, (1, 8, 0), (1, 0, 0), 0), (1, 0, (1, 8, 0), (1, 0, 5), 0), (1, 0, (1, 8, 0), (1, 0, 4), 0), (1, 0, (1, 8, 0), (1, 0, 3), 0), (9, 37, (1, 2, 0), (1, 10, 0), 0), (9, 32, (1, 6, 0), (1, 8, 0), 0), (9, 36, (1, 2, 0), (1, 6, 0), 0)], [])),
 (0, (253, 0, 0, 0), (([(2, 1, 31), (1, 2, 0), (1, 3, 0), (1, 4, 0), (1, 6, 0), (1, 8, 0), (1, 10, 0), (1, 11, 0), (0, 0, 0)], [], [(0, 0), (1, 0), (0, 39), (0, 4), (-1, 20), (1, 0), (0, 5), (1, 0), (3, 3), (1, 0), (0, 4), (0, 3)], [(1, 31, 7, (2, 9, 37)), (1, 31, 1, (2, 7, 32)), (1, 31, 6, (2, 5, 36))]), [(24, 11, (1, 3, 0), (1, 0, 4), 0), (0, 0, (1, 8, 0), (1, 0, 3), 0), (1, 0, (1, 8, 0), (1, 0, 1), 0), (1, 0, (1, 8, 0), (1, 0, 0), 0), (1, 0, (1, 8, 0), (1, 0, 5), 0), (1, 0, (1, 8, 0), (1, 0, 4), 0), (1, 0, (1, 8, 0), (1, 0, 3), 0), (9, 37, (1, 2, 0), (1, 10, 0), 0), (9, 32, (1, 6, 0), (1, 8, 0), 0), (9, 36, (1, 2, 0), (1, 6, 0), 0)], [])),
 (0, (253, 0, 0, 0), (([(2, 1, 31), (1, 2, 0), (1, 3, 0), (1, 4, 0), (1, 6, 0), (1, 8, 0), (1, 10, 0), (1, 11, 0), (0, 0, 0)], [], [(0, 0), (1, 0), (0, 39), (0, 4), (-1, 20), (1, 0), (0, 5), (1, 0), (1, 1), (1, 0), (0, 4), (-3, 1)], [(1, 31, 7, (2, 9, 37)), (1, 31, 1, (2, 7, 32)), (1, 31, 6, (2, 5, 36))]), [(21, 11, (1, 0, 1), (1, 10, 0), 0), (0, 0, (1, 8, 0), (1, 0, 1), 0), (1, 0, (1, 8, 0), (1, 0, 0), 0), (1, 0, (1, 8, 0), (1, 0, 5), 0), (1, 0, (1, 8, 0), (1, 0, 4), 0), (1, 0, (1, 8, 0), (1, 0, 3), 0), (9, 37, (1, 2, 0), (1, 10, 0), 0), (9, 32, (1, 6, 0), (1, 8, 0), 0), (9, 36, (1, 2, 0), (1, 6, 0), 0)], [])),
 (3, (219, 0, 0, 0), (([(2, 1, 31), (1, 2, 0), (1, 3, 0), (1, 4, 0), (1, 6, 0), (1, 8, 0), (1, 10, 0), (0, 0, 0), (0, 0, 0)], [(1, 12, 0)], [(0, 0), (1, 0), (0, 39), (0, 4), (-1, 20), (1, 0), (0, 5), (1, 0), (0, 0), (1, 0), (0, 4), (1, 0), (-2147483648, 2147483647)], [(1, 31, 8, (2, 11, 38)), (1, 31, 7, (2, 9, 37)), (1, 31, 1, (2, 7, 32)), (1, 31, 6, (2, 5, 36))]), [(2, 0, (1, 12, 0), (1, 0, 0), 0), (9, 38, (1, 2, 0), (1, 12, 0), 0), (0, 0, (1, 8, 0), (1, 0, 0), 0), (1, 0, (1, 8, 0), (1, 0, 5), 0), (1, 0, (1, 8, 0), (1, 0, 4), 0), (1, 0, (1, 8, 0), (1, 0, 3), 0), (9, 37, (1, 2, 0), (1, 10, 0), 0), (9, 32, (1, 6, 0), (1, 8, 0), 0), (9, 36, (1, 2, 0), (1, 6, 0), 0)], [])),
 (3, (219, 0, 0, 0), (([(2, 1, 31), (1, 2, 0), (1, 3, 0), (1, 4, 0), (1, 6, 0), (1, 8, 0), (1, 10, 0), (0, 0, 0), (0, 0, 0)], [(1, 12, 0)], [(0, 0), (1, 0), (0, 39), (0, 4), (-1, 20), (1, 0), (0, 5), (1, 0), (0, 0), (1, 0), (0, 4), (1, 0), (-2147483648, 2147483647)], [(1, 31, 8, (2, 11, 38)), (1, 31, 7, (2, 9, 37)), (1, 31, 1, (2, 7, 32)), (1, 31, 6, (2, 5, 36))]), [(4, 0, (1, 12, 0), (1, 0, 31), 0), (9, 38, (1, 2, 0), (1, 12, 0), 0), (0, 0, (1, 8, 0), (1, 0, 0), 0), (1, 0, (1, 8, 0), (1, 0, 5), 0), (1, 0, (1, 8, 0), (1, 0, 4), 0), (1, 0, (1, 8, 0), (1, 0, 3), 0), (9, 37, (1, 2, 0), (1, 10, 0), 0), (9, 32, (1, 6, 0), (1, 8, 0), 0), (9, 36, (1, 2, 0), (1, 6, 0), 0)], [])),
 (0, (253, 0, 0, 0), (([(2, 1, 31), (1, 2, 0), (1, 3, 0), (1, 4, 0), (1, 6, 0), (1, 8, 0), (1, 10, 0), (1, 13, 0), (0, 0, 0)], [], [(0, 0), (1, 0), (0, 39), (0, 4), (-1, 20), (1, 0), (0, 5), (1, 0), (0, 0), (1, 0), (0, 4), (1, 0), (0, 31), (0, 3)], [(1, 31, 8, (2, 11, 38)), (1, 31, 7, (2, 9, 37)), (1, 31, 1, (2, 7, 32)), (1, 31, 6, (2, 5, 36))]), [(24, 13, (1, 12, 0), (1, 0, 4), 0), (9, 38, (1, 2, 0), (1, 12, 0), 0), (0, 0, (1, 8, 0), (1, 0, 0), 0), (1, 0, (1, 8, 0), (1, 0, 5), 0), (1, 0, (1, 8, 0), (1, 0, 4), 0), (1, 0, (1, 8, 0), (1, 0, 3), 0), (9, 37, (1, 2, 0), (1, 10, 0), 0), (9, 32, (1, 6, 0), (1, 8, 0), 0), (9, 36, (1, 2, 0), (1, 6, 0), 0)], [])),
 (2, (0, 0, 0, 0), (([(2, 1, 31), (1, 2, 0), (1, 3, 0), (1, 4, 0), (1, 6, 0), (1, 8, 0), (1, 10, 0), (1, 4, 0), (0, 0, 0)], [(1, 0, 0)], [(0, 0), (1, 0), (0, 39), (0, 4), (-1, 20), (1, 0), (0, 5), (1, 0), (5, 5), (1, 0), (0, 4), (1, 0), (0, 1)], [(1, 31, 3, (2, 11, 34)), (1, 31, 7, (2, 9, 37)), (1, 31, 1, (2, 7, 32)), (1, 31, 6, (2, 5, 36))]), [(1, 0, (1, 4, 0), (1, 0, 0), 0), (1, 0, (1, 4, 0), (1, 0, 1), 0), (1, 0, (1, 4, 0), (1, 0, 2), 0), (1, 0, (1, 4, 0), (1, 0, 3), 0), (1, 0, (1, 4, 0), (1, 0, 4), 0), (1, 0, (1, 4, 0), (1, 0, 5), 0), (1, 0, (1, 4, 0), (1, 0, 6), 0), (1, 0, (1, 4, 0), (1, 0, 7), 0), (1, 0, (1, 12, 0), (1, 0, 2), 0), (9, 34, (1, 6, 0), (1, 12, 0), 0), (0, 0, (1, 8, 0), (1, 0, 5), 0), (1, 0, (1, 8, 0), (1, 0, 4), 0), (1, 0, (1, 8, 0), (1, 0, 3), 0), (9, 37, (1, 2, 0), (1, 10, 0), 0), (9, 32, (1, 6, 0), (1, 8, 0), 0), (9, 36, (1, 2, 0), (1, 6, 0), 0)], [])),
 (2, (0, 0, 0, 0), (([(2, 1, 31), (1, 2, 0), (1, 3, 0), (1, 4, 0), (1, 6, 0), (1, 8, 0), (1, 10, 0), (1, 4, 0), (0, 0, 0)], [(1, 0, 100)], [(0, 0), (1, 0), (0, 39), (0, 4), (0, 0), (1, 0), (0, 5), (1, 0), (5, 5), (1, 0), (0, 4), (1, 0), (0, 1)], [(1, 31, 3, (2, 11, 34)), (1, 31, 7, (2, 9, 37)), (1, 31, 1, (2, 7, 32)), (1, 31, 6, (2, 5, 36))]), [(1, 0, (1, 12, 0), (1, 0, 2), 0), (9, 34, (1, 6, 0), (1, 12, 0), 0), (0, 0, (1, 8, 0), (1, 0, 5), 0), (1, 0, (1, 8, 0), (1, 0, 4), 0), (1, 0, (1, 8, 0), (1, 0, 3), 0), (9, 37, (1, 2, 0), (1, 10, 0), 0), (9, 32, (1, 6, 0), (1, 8, 0), 0), (9, 36, (1, 2, 0), (1, 6, 0), 0)], [])),
 (2, (0, 0, 0, 0), (([(2, 1, 31), (1, 2, 0), (1, 3, 0), (1, 4, 0), (1, 6, 0), (1, 8, 0), (1, 10, 0), (1, 4, 0), (0, 0, 0)], [(1, 0, 3)], [(0, 0), (1, 0), (0, 39), (0, 4), (1, 1), (1, 0), (0, 5), (1, 0), (5, 5), (1, 0), (0, 4), (1, 0), (0, 1)], [(1, 31, 3, (2, 11, 34)), (1, 31, 7, (2, 9, 37)), (1, 31, 1, (2, 7, 32)), (1, 31, 6, (2, 5, 36))]), [(1, 0, (1, 12, 0), (1, 0, 2), 0), (9, 34, (1, 6, 0), (1, 12, 0), 0), (0, 0, (1, 8, 0), (1, 0, 5), 0), (1, 0, (1, 8, 0), (1, 0, 4), 0), (1, 0, (1, 8, 0), (1, 0, 3), 0), (9, 37, (1, 2, 0), (1, 10, 0), 0), (9, 32, (1, 6, 0), (1, 8, 0), 0), (9, 36, (1, 2, 0), (1, 6, 0), 0)], [])),
 (2, (0, 0, 0, 0), (([(2, 1, 31), (1, 2, 0), (1, 3, 0), (1, 4, 0), (1, 6, 0), (1, 8, 0), (1, 10, 0), (1, 4, 0), (0, 0, 0)], [(1, 0, 4)], [(0, 0), (1, 0), (0, 39), (0, 4), (2, 2), (1, 0), (0, 5), (1, 0), (5, 5), (1, 0), (0, 4), (1, 0), (0, 1)], [(1, 31, 3, (2, 11, 34)), (1, 31, 7, (2, 9, 37)), (1, 31, 1, (2, 7, 32)), (1, 31, 6, (2, 5, 36))]), [(1, 0, (1, 12, 0), (1, 0, 2), 0), (9, 34, (1, 6, 0), (1, 12, 0), 0), (0, 0, (1, 8, 0), (1, 0, 5), 0), (1, 0, (1, 8, 0), (1, 0, 4), 0), (1, 0, (1, 8, 0), (1, 0, 3), 0), (9, 37, (1, 2, 0), (1, 10, 0), 0), (9, 32, (1, 6, 0), (1, 8, 0), 0), (9, 36, (1, 2, 0), (1, 6, 0), 0)], [])),
 (2, (0, 0, 0, 0), (([(2, 1, 31), (1, 2, 0), (1, 3, 0), (1, 4, 0), (1, 6, 0), (1, 8, 0), (1, 10, 0), (1, 4, 0), (0, 0, 0)], [(1, 0, 200)], [(0, 0), (1, 0), (0, 39), (0, 4), (3, 3), (1, 0), (0, 5), (1, 0), (5, 5), (1, 0), (0, 4), (1, 0), (0, 1)], [(1, 31, 3, (2, 11, 34)), (1, 31, 7, (2, 9, 37)), (1, 31, 1, (2, 7, 32)), (1, 31, 6, (2, 5, 36))]), [(1, 0, (1, 12, 0), (1, 0, 2), 0), (9, 34, (1, 6, 0), (1, 12, 0), 0), (0, 0, (1, 8, 0), (1, 0, 5), 0), (1, 0, (1, 8, 0), (1, 0, 4), 0), (1, 0, (1, 8, 0), (1, 0, 3), 0), (9, 37, (1, 2, 0), (1, 10, 0), 0), (9, 32, (1, 6, 0), (1, 8, 0), 0), (9, 36, (1, 2, 0), (1, 6, 0), 0)], [])),
 (2, (0, 0, 0, 0), (([(2, 1, 31), (1, 2, 0), (1, 3, 0), (1, 4, 0), (1, 6, 0), (1, 8, 0), (1, 10, 0), (1, 4, 0), (0, 0, 0)], [(1, 0, 5)], [(0, 0), (1, 0), (0, 39), (0, 4), (4, 4), (1, 0), (0, 5), (1, 0), (5, 5), (1, 0), (0, 4), (1, 0), (0, 1)], [(1, 31, 3, (2, 11, 34)), (1, 31, 7, (2, 9, 37)), (1, 31, 1, (2, 7, 32)), (1, 31, 6, (2, 5, 36))]), [(1, 0, (1, 12, 0), (1, 0, 2), 0), (9, 34, (1, 6, 0), (1, 12, 0), 0), (0, 0, (1, 8, 0), (1, 0, 5), 0), (1, 0, (1, 8, 0), (1, 0, 4), 0), (1, 0, (1, 8, 0), (1, 0, 3), 0), (9, 37, (1, 2, 0), (1, 10, 0), 0), (9, 32, (1, 6, 0), (1, 8, 0), 0), (9, 36, (1, 2, 0), (1, 6, 0), 0)], [])),
 (2, (0, 0, 0, 0), (([(2, 1, 31), (1, 2, 0), (1, 3, 0), (1, 4, 0), (1, 6, 0), (1, 8, 0), (1, 10, 0), (1, 4, 0), (0, 0, 0)], [(1, 0, 100)], [(0, 0), (1, 0), (0, 39), (0, 4), (5, 5), (1, 0), (0, 5), (1, 0), (5, 5), (1, 0), (0, 4), (1, 0), (0, 1)], [(1, 31, 3, (2, 11, 34)), (1, 31, 7, (2, 9, 37)), (1, 31, 1, (2, 7, 32)), (1, 31, 6, (2, 5, 36))]), [(1, 0, (1, 12, 0), (1, 0, 2), 0), (9, 34, (1, 6, 0), (1, 12, 0), 0), (0, 0, (1, 8, 0), (1, 0, 5), 0), (1, 0, (1, 8, 0), (1, 0, 4), 0), (1, 0, (1, 8, 0), (1, 0, 3), 0), (9, 37, (1, 2, 0), (1, 10, 0), 0), (9, 32, (1, 6, 0), (1, 8, 0), 0), (9, 36, (1, 2, 0), (1, 6, 0), 0)], [])),
 (2, (0, 0, 0, 0), (([(2, 1, 31), (1, 2, 0), (1, 3, 0), (1, 4, 0), (1, 6, 0), (1, 8, 0), (1, 10, 0), (1, 4, 0), (0, 0, 0)], [(1, 0, 2)], [(0, 0), (1, 0), (0, 39), (0, 4), (6, 6), (1, 0), (0, 5), (1, 0), (5, 5), (1, 0), (0, 4), (1, 0), (0, 1)], [(1, 31, 3, (2, 11, 34)), (1, 31, 7, (2, 9, 37)), (1, 31, 1, (2, 7, 32)), (1, 31, 6, (2, 5, 36))]), [(1, 0, (1, 12, 0), (1, 0, 2), 0), (9, 34, (1, 6, 0), (1, 12, 0), 0), (0, 0, (1, 8, 0), (1, 0, 5), 0), (1, 0, (1, 8, 0), (1, 0, 4), 0), (1, 0, (1, 8, 0), (1, 0, 3), 0), (9, 37, (1, 2, 0), (1, 10, 0), 0), (9, 32, (1, 6, 0), (1, 8, 0), 0), (9, 36, (1, 2, 0), (1, 6, 0), 0)], [])),
 (2, (0, 0, 0, 0), (([(2, 1, 31), (1, 2, 0), (1, 3, 0), (1, 4, 0), (1, 6, 0), (1, 8, 0), (1, 10, 0), (1, 4, 0), (0, 0, 0)], [(1, 0, 200)], [(0, 0), (1, 0), (0, 39), (0, 4), (7, 7), (1, 0), (0, 5), (1, 0), (5, 5), (1, 0), (0, 4), (1, 0), (0, 1)], [(1, 31, 3, (2, 11, 34)), (1, 31, 7, (2, 9, 37)), (1, 31, 1, (2, 7, 32)), (1, 31, 6, (2, 5, 36))]), [(1, 0, (1, 12, 0), (1, 0, 2), 0), (9, 34, (1, 6, 0), (1, 12, 0), 0), (0, 0, (1, 8, 0), (1, 0, 5), 0), (1, 0, (1, 8, 0), (1, 0, 4), 0), (1, 0, (1, 8, 0), (1, 0, 3), 0), (9, 37, (1, 2, 0), (1, 10, 0), 0), (9, 32, (1, 6, 0), (1, 8, 0), 0), (9, 36, (1, 2, 0), (1, 6, 0), 0)], [])),
 (2, (0, 0, 0, 0), (([(2, 1, 31), (1, 2, 0), (1, 3, 0), (1, 4, 0), (1, 6, 0), (1, 8, 0), (1, 10, 0), (1, 0, 7), (0, 0, 0)], [(1, 0, 0)], [(0, 0), (1, 0), (0, 39), (0, 4), (6, 6), (1, 0), (0, 5), (1, 0), (5, 5), (1, 0), (0, 4), (1, 0), (2, 2)], [(1, 31, 3, (2, 11, 34)), (1, 31, 7, (2, 9, 37)), (1, 31, 1, (2, 7, 32)), (1, 31, 6, (2, 5, 36))]), [(1, 0, (1, 0, 7), (1, 0, 0), 0), (1, 0, (1, 0, 7), (1, 0, 1), 0), (1, 0, (1, 0, 7), (1, 0, 2), 0), (1, 0, (1, 0, 7), (1, 0, 3), 0), (1, 0, (1, 0, 7), (1, 0, 4), 0), (1, 0, (1, 0, 7), (1, 0, 5), 0), (1, 0, (1, 0, 7), (1, 0, 6), 0), (1, 0, (1, 0, 7), (1, 0, 7), 0), (0, 0, (1, 4, 0), (1, 0, 6), 0), (0, 0, (1, 12, 0), (1, 0, 2), 0), (9, 34, (1, 6, 0), (1, 12, 0), 0), (0, 0, (1, 8, 0), (1, 0, 5), 0), (1, 0, (1, 8, 0), (1, 0, 4), 0), (1, 0, (1, 8, 0), (1, 0, 3), 0), (9, 37, (1, 2, 0), (1, 10, 0), 0), (9, 32, (1, 6, 0), (1, 8, 0), 0), (9, 36, (1, 2, 0), (1, 6, 0), 0)], [])),
 (2, (0, 0, 0, 0), (([(2, 1, 31), (1, 2, 0), (1, 3, 0), (1, 4, 0), (1, 6, 0), (1, 8, 0), (1, 10, 0), (1, 0, 7), (0, 0, 0)], [(1, 0, 200)], [(0, 0), (1, 0), (0, 39), (0, 4), (6, 6), (1, 0), (0, 5), (1, 0), (5, 5), (1, 0), (0, 4), (1, 0), (2, 2)], [(1, 31, 3, (2, 11, 34)), (1, 31, 7, (2, 9, 37)), (1, 31, 1, (2, 7, 32)), (1, 31, 6, (2, 5, 36))]), [(0, 0, (1, 4, 0), (1, 0, 6), 0), (0, 0, (1, 12, 0), (1, 0, 2), 0), (9, 34, (1, 6, 0), (1, 12, 0), 0), (0, 0, (1, 8, 0), (1, 0, 5), 0), (1, 0, (1, 8, 0), (1, 0, 4), 0), (1, 0, (1, 8, 0), (1, 0, 3), 0), (9, 37, (1, 2, 0), (1, 10, 0), 0), (9, 32, (1, 6, 0), (1, 8, 0), 0), (9, 36, (1, 2, 0), (1, 6, 0), 0)], [])),
 (2, (0, 0, 0, 0), (([(2, 1, 31), (1, 2, 0), (1, 3, 0), (1, 4, 0), (1, 6, 0), (1, 8, 0), (1, 10, 0), (1, 4, 0), (0, 0, 0)], [(1, 0, 0)], [(0, 0), (1, 0), (0, 39), (0, 4), (-1, 20), (1, 0), (0, 5), (1, 0), (5, 5), (1, 0), (0, 4), (1, 0), (2, 2)], [(1, 31, 3, (2, 11, 34)), (1, 31, 7, (2, 9, 37)), (1, 31, 1, (2, 7, 32)), (1, 31, 6, (2, 5, 36))]), [(1, 0, (1, 4, 0), (1, 0, 0), 0), (1, 0, (1, 4, 0), (1, 0, 1), 0), (1, 0, (1, 4, 0), (1, 0, 2), 0), (1, 0, (1, 4, 0), (1, 0, 3), 0), (1, 0, (1, 4, 0), (1, 0, 4), 0), (1, 0, (1, 4, 0), (1, 0, 5), 0), (1, 0, (1, 4, 0), (1, 0, 6), 0), (1, 0, (1, 4, 0), (1, 0, 7), 0), (1, 0, (1, 4, 0), (1, 0, 7), 0), (1, 0, (1, 4, 0), (1, 0, 6), 0), (0, 0, (1, 12, 0), (1, 0, 2), 0), (9, 34, (1, 6, 0), (1, 12, 0), 0), (0, 0, (1, 8, 0), (1, 0, 5), 0), (1, 0, (1, 8, 0), (1, 0, 4), 0), (1, 0, (1, 8, 0), (1, 0, 3), 0), (9, 37, (1, 2, 0), (1, 10, 0), 0), (9, 32, (1, 6, 0), (1, 8, 0), 0), (9, 36, (1, 2, 0), (1, 6, 0), 0)], [])),
 (2, (0, 0, 0, 0), (([(2, 1, 31), (1, 2, 0), (1, 3, 0), (1, 4, 0), (1, 6, 0), (1, 8, 0), (1, 10, 0), (1, 4, 0), (0, 0, 0)], [(1, 0, 100)], [(0, 0), (1, 0), (0, 39), (0, 4), (0, 0), (1, 0), (0, 5), (1, 0), (5, 5), (1, 0), (0, 4), (1, 0), (2, 2)], [(1, 31, 3, (2, 11, 34)), (1, 31, 7, (2, 9, 37)), (1, 31, 1, (2, 7, 32)), (1, 31, 6, (2, 5, 36))]), [(1, 0, (1, 4, 0), (1, 0, 7), 0), (1, 0, (1, 4, 0), (1, 0, 6), 0), (0, 0, (1, 12, 0), (1, 0, 2), 0), (9, 34, (1, 6, 0), (1, 12, 0), 0), (0, 0, (1, 8, 0), (1, 0, 5), 0), (1, 0, (1, 8, 0), (1, 0, 4), 0), (1, 0, (1, 8, 0), (1, 0, 3), 0), (9, 37, (1, 2, 0), (1, 10, 0), 0), (9, 32, (1, 6, 0), (1, 8, 0), 0), (9, 36, (1, 2, 0), (1, 6, 0), 0)], [])),
 (2, (0, 0, 0, 0), (([(2, 1, 31), (1, 2, 0), (1, 3, 0), (1, 4, 0), (1, 6, 0), (1, 8, 0), (1, 10, 0), (1, 4, 0), (0, 0, 0)], [(1, 0, 3)], [(0, 0), (1, 0), (0, 39), (0, 4), (1, 1), (1, 0), (0, 5), (1, 0), (5, 5), (1, 0), (0, 4), (1, 0), (2, 2)], [(1, 31, 3, (2, 11, 34)), (1, 31, 7, (2, 9, 37)), (1, 31, 1, (2, 7, 32)), (1, 31, 6, (2, 5, 36))]), [(1, 0, (1, 4, 0), (1, 0, 7), 0), (1, 0, (1, 4, 0), (1, 0, 6), 0), (0, 0, (1, 12, 0), (1, 0, 2), 0), (9, 34, (1, 6, 0), (1, 12, 0), 0), (0, 0, (1, 8, 0), (1, 0, 5), 0), (1, 0, (1, 8, 0), (1, 0, 4), 0), (1, 0, (1, 8, 0), (1, 0, 3), 0), (9, 37, (1, 2, 0), (1, 10, 0), 0), (9, 32, (1, 6, 0), (1, 8, 0), 0), (9, 36, (1, 2, 0), (1, 6, 0), 0)], [])),
 (2, (0, 0, 0, 0), (([(2, 1, 31), (1, 2, 0), (1, 3, 0), (1, 4, 0), (1, 6, 0), (1, 8, 0), (1, 10, 0), (1, 4, 0), (0, 0, 0)], [(1, 0, 4)], [(0, 0), (1, 0), (0, 39), (0, 4), (2, 2), (1, 0), (0, 5), (1, 0), (5, 5), (1, 0), (0, 4), (1, 0), (2, 2)], [(1, 31, 3, (2, 11, 34)), (1, 31, 7, (2, 9, 37)), (1, 31, 1, (2, 7, 32)), (1, 31, 6, (2, 5, 36))]), [(1, 0, (1, 4, 0), (1, 0, 7), 0), (1, 0, (1, 4, 0), (1, 0, 6), 0), (0, 0, (1, 12, 0), (1, 0, 2), 0), (9, 34, (1, 6, 0), (1, 12, 0), 0), (0, 0, (1, 8, 0), (1, 0, 5), 0), (1, 0, (1, 8, 0), (1, 0, 4), 0), (1, 0, (1, 8, 0), (1, 0, 3), 0), (9, 37, (1, 2, 0), (1, 10, 0), 0), (9, 32, (1, 6, 0), (1, 8, 0), 0), (9, 36, (1, 2, 0), (1, 6, 0), 0)], [])),
 (2, (0, 0, 0, 0), (([(2, 1, 31), (1, 2, 0), (1, 3, 0), (1, 4, 0), (1, 6, 0), (1, 8, 0), (1, 10, 0), (1, 4, 0), (0, 0, 0)], [(1, 0, 200)], [(0, 0), (1, 0), (0, 39), (0, 4), (3, 3), (1, 0), (0, 5), (1, 0), (5, 5), (1, 0), (0, 4), (1, 0), (2, 2)], [(1, 31, 3, (2, 11, 34)), (1, 31, 7, (2, 9, 37)), (1, 31, 1, (2, 7, 32)), (1, 31, 6, (2, 5, 36))]), [(1, 0, (1, 4, 0), (1, 0, 7), 0), (1, 0, (1, 4, 0), (1, 0, 6), 0), (0, 0, (1, 12, 0), (1, 0, 2), 0), (9, 34, (1, 6, 0), (1, 12, 0), 0), (0, 0, (1, 8, 0), (1, 0, 5), 0), (1, 0, (1, 8, 0), (1, 0, 4), 0), (1, 0, (1, 8, 0), (1, 0, 3), 0), (9, 37, (1, 2, 0), (1, 10, 0), 0), (9, 32, (1, 6, 0), (1, 8, 0), 0), (9, 36, (1, 2, 0), (1, 6, 0), 0)], [])),
 (2, (0, 0, 0, 0), (([(2, 1, 31), (1, 2, 0), (1, 3, 0), (1, 4, 0), (1, 6, 0), (1, 8, 0), (1, 10, 0), (1, 4, 0), (0, 0, 0)], [(1, 0, 5)], [(0, 0), (1, 0), (0, 39), (0, 4), (4, 4), (1, 0), (0, 5), (1, 0), (5, 5), (1, 0), (0, 4), (1, 0), (2, 2)], [(1, 31, 3, (2, 11, 34)), (1, 31, 7, (2, 9, 37)), (1, 31, 1, (2, 7, 32)), (1, 31, 6, (2, 5, 36))]), [(1, 0, (1, 4, 0), (1, 0, 7), 0), (1, 0, (1, 4, 0), (1, 0, 6), 0), (0, 0, (1, 12, 0), (1, 0, 2), 0), (9, 34, (1, 6, 0), (1, 12, 0), 0), (0, 0, (1, 8, 0), (1, 0, 5), 0), (1, 0, (1, 8, 0), (1, 0, 4), 0), (1, 0, (1, 8, 0), (1, 0, 3), 0), (9, 37, (1, 2, 0), (1, 10, 0), 0), (9, 32, (1, 6, 0), (1, 8, 0), 0), (9, 36, (1, 2, 0), (1, 6, 0), 0)], [])),
 (2, (0, 0, 0, 0), (([(2, 1, 31), (1, 2, 0), (1, 3, 0), (1, 4, 0), (1, 6, 0), (1, 8, 0), (1, 10, 0), (1, 4, 0), (0, 0, 0)], [(1, 0, 100)], [(0, 0), (1, 0), (0, 39), (0, 4), (5, 5), (1, 0), (0, 5), (1, 0), (5, 5), (1, 0), (0, 4), (1, 0), (2, 2)], [(1, 31, 3, (2, 11, 34)), (1, 31, 7, (2, 9, 37)), (1, 31, 1, (2, 7, 32)), (1, 31, 6, (2, 5, 36))]), [(1, 0, (1, 4, 0), (1, 0, 7), 0), (1, 0, (1, 4, 0), (1, 0, 6), 0), (0, 0, (1, 12, 0), (1, 0, 2), 0), (9, 34, (1, 6, 0), (1, 12, 0), 0), (0, 0, (1, 8, 0), (1, 0, 5), 0), (1, 0, (1, 8, 0), (1, 0, 4), 0), (1, 0, (1, 8, 0), (1, 0, 3), 0), (9, 37, (1, 2, 0), (1, 10, 0), 0), (9, 32, (1, 6, 0), (1, 8, 0), 0), (9, 36, (1, 2, 0), (1, 6, 0), 0)], [])),
 (2, (0, 0, 0, 0), (([(2, 1, 31), (1, 2, 0), (1, 3, 0), (1, 4, 0), (1, 6, 0), (1, 8, 0), (1, 10, 0), (1, 4, 0), (0, 0, 0)], [(1, 0, 2)], [(0, 0), (1, 0), (0, 39), (0, 4), (6, 6), (1, 0), (0, 5), (1, 0), (5, 5), (1, 0), (0, 4), (1, 0), (2, 2)], [(1, 31, 3, (2, 11, 34)), (1, 31, 7, (2, 9, 37)), (1, 31, 1, (2, 7, 32)), (1, 31, 6, (2, 5, 36))]), [(1, 0, (1, 4, 0), (1, 0, 7), 0), (1, 0, (1, 4, 0), (1, 0, 6), 0), (0, 0, (1, 12, 0), (1, 0, 2), 0), (9, 34, (1, 6, 0), (1, 12, 0), 0), (0, 0, (1, 8, 0), (1, 0, 5), 0), (1, 0, (1, 8, 0), (1, 0, 4), 0), (1, 0, (1, 8, 0), (1, 0, 3), 0), (9, 37, (1, 2, 0), (1, 10, 0), 0), (9, 32, (1, 6, 0), (1, 8, 0), 0), (9, 36, (1, 2, 0), (1, 6, 0), 0)], [])),
 (2, (0, 0, 0, 0), (([(2, 1, 31), (1, 2, 0), (1, 3, 0), (1, 4, 0), (1, 6, 0), (1, 8, 0), (1, 10, 0), (1, 4, 0), (0, 0, 0)], [(1, 0, 200)], [(0, 0), (1, 0), (0, 39), (0, 4), (7, 7), (1, 0), (0, 5), (1, 0), (5, 5), (1, 0), (0, 4), (1, 0), (2, 2)], [(1, 31, 3, (2, 11, 34)), (1, 31, 7, (2, 9, 37)), (1, 31, 1, (2, 7, 32)), (1, 31, 6, (2, 5, 36))]), [(1, 0, (1, 4, 0), (1, 0, 7), 0), (1, 0, (1, 4, 0), (1, 0, 6), 0), (0, 0, (1, 12, 0), (1, 0, 2), 0), (9, 34, (1, 6, 0), (1, 12, 0), 0), (0, 0, (1, 8, 0), (1, 0, 5), 0), (1, 0, (1, 8, 0), (1, 0, 4), 0), (1, 0, (1, 8, 0), (1, 0, 3), 0), (9, 37, (1, 2, 0), (1, 10, 0), 0), (9, 32, (1, 6, 0), (1, 8, 0), 0), (9, 36, (1, 2, 0), (1, 6, 0), 0)], [])),
 (2, (0, 0, 0, 0), (([(2, 1, 31), (1, 2, 0), (1, 3, 0), (1, 4, 0), (1, 6, 0), (1, 8, 0), (1, 10, 0), (1, 0, 6), (0, 0, 0)], [(1, 0, 0)], [(0, 0), (1, 0), (0, 39), (0, 4), (7, 7), (1, 0), (0, 5), (1, 0), (5, 5), (1, 0), (0, 4), (1, 0), (2, 2)], [(1, 31, 3, (2, 11, 34)), (1, 31, 7, (2, 9, 37)), (1, 31, 1, (2, 7, 32)), (1, 31, 6, (2, 5, 36))]), [(1, 0, (1, 0, 6), (1, 0, 0), 0), (1, 0, (1, 0, 6), (1, 0, 1), 0), (1, 0, (1, 0, 6), (1, 0, 2), 0), (1, 0, (1, 0, 6), (1, 0, 3), 0), (1, 0, (1, 0, 6), (1, 0, 4), 0), (1, 0, (1, 0, 6), (1, 0, 5), 0), (1, 0, (1, 0, 6), (1, 0, 6), 0), (1, 0, (1, 0, 6), (1, 0, 7), 0), (0, 0, (1, 4, 0), (1, 0, 7), 0), (1, 0, (1, 4, 0), (1, 0, 6), 0), (0, 0, (1, 12, 0), (1, 0, 2), 0), (9, 34, (1, 6, 0), (1, 12, 0), 0), (0, 0, (1, 8, 0), (1, 0, 5), 0), (1, 0, (1, 8, 0), (1, 0, 4), 0), (1, 0, (1, 8, 0), (1, 0, 3), 0), (9, 37, (1, 2, 0), (1, 10, 0), 0), (9, 32, (1, 6, 0), (1, 8, 0), 0), (9, 36, (1, 2, 0), (1, 6, 0), 0)], [])),
 (2, (0, 0, 0, 0), (([(2, 1, 31), (1, 2, 0), (1, 3, 0), (1, 4, 0), (1, 6, 0), (1, 8, 0), (1, 10, 0), (1, 0, 6), (0, 0, 0)], [(1, 0, 2)], [(0, 0), (1, 0), (0, 39), (0, 4), (7, 7), (1, 0), (0, 5), (1, 0), (5, 5), (1, 0), (0, 4), (1, 0), (2, 2)], [(1, 31, 3, (2, 11, 34)), (1, 31, 7, (2, 9, 37)), (1, 31, 1, (2, 7, 32)), (1, 31, 6, (2, 5, 36))]), [(0, 0, (1, 4, 0), (1, 0, 7), 0), (1, 0, (1, 4, 0), (1, 0, 6), 0), (0, 0, (1, 12, 0), (1, 0, 2), 0), (9, 34, (1, 6, 0), (1, 12, 0), 0), (0, 0, (1, 8, 0), (1, 0, 5), 0), (1, 0, (1, 8, 0), (1, 0, 4), 0), (1, 0, (1, 8, 0), (1, 0, 3), 0), (9, 37, (1, 2, 0), (1, 10, 0), 0), (9, 32, (1, 6, 0), (1, 8, 0), 0), (9, 36, (1, 2, 0), (1, 6, 0), 0)], [])),
 (2, (0, 0, 0, 0), (([(2, 1, 31), (1, 2, 0), (1, 3, 0), (1, 4, 0), (1, 6, 0), (1, 8, 0), (1, 10, 0), (0, 0, 0), (0, 0, 0)], [(1, 0, 0)], [(0, 0), (1, 0), (0, 39), (0, 4), (-1, 20), (1, 0), (0, 5), (1, 0), (4, 4), (1, 0), (1, 1)], [(1, 31, 7, (2, 9, 37)), (1, 31, 1, (2, 7, 32)), (1, 31, 6, (2, 5, 36))]), [(1, 0, (1, 4, 0), (1, 0, 0), 0), (0, 0, (1, 10, 0), (1, 0, 1), 0), (0, 0, (1, 8, 0), (1, 0, 4), 0), (1, 0, (1, 8, 0), (1, 0, 3), 0), (9, 37, (1, 2, 0), (1, 10, 0), 0), (9, 32, (1, 6, 0), (1, 8, 0), 0), (9, 36, (1, 2, 0), (1, 6, 0), 0)], [])),
 (2, (0, 0, 0, 0), (([(2, 1, 31), (1, 2, 0), (1, 3, 0), (1, 4, 0), (1, 6, 0), (1, 8, 0), (1, 10, 0), (0, 0, 0), (0, 0, 0)], [(1, 0, 1)], [(0, 0), (1, 0), (0, 39), (0, 4), (0, 0), (1, 0), (0, 5), (1, 0), (4, 4), (1, 0), (1, 1)], [(1, 31, 7, (2, 9, 37)), (1, 31, 1, (2, 7, 32)), (1, 31, 6, (2, 5, 36))]), [(0, 0, (1, 4, 0), (1, 0, 0), 0), (0, 0, (1, 10, 0), (1, 0, 1), 0), (0, 0, (1, 8, 0), (1, 0, 4), 0), (1, 0, (1, 8, 0), (1, 0, 3), 0), (9, 37, (1, 2, 0), (1, 10, 0), 0), (9, 32, (1, 6, 0), (1, 8, 0), 0), (9, 36, (1, 2, 0), (1, 6, 0), 0)], [])),
 (0, (253, 0, 0, 0), (([(2, 1, 31), (1, 2, 0), (1, 3, 0), (1, 4, 0), (1, 6, 0), (1, 8, 0), (1, 10, 0), (1, 0, 0), (0, 0, 0)], [], [(0, 0), (1, 0), (0, 39), (0, 4), (-1, 20), (1, 0), (0, 5), (1, 0), (4, 4), (1, 0), (0, 4)], [(1, 31, 7, (2, 9, 37)), (1, 31, 1, (2, 7, 32)), (1, 31, 6, (2, 5, 36))]), [(1, 0, (1, 8, 0), (1, 0, 3), 0), (1, 0, (1, 8, 0), (1, 0, 1), 0), (1, 0, (1, 8, 0), (1, 0, 0), 0), (1, 0, (1, 8, 0), (1, 0, 5), 0), (1, 0, (1, 10, 0), (1, 0, 3), 0), (1, 0, (1, 10, 0), (1, 0, 1), 0), (0, 0, (1, 8, 0), (1, 0, 4), 0), (1, 0, (1, 8, 0), (1, 0, 3), 0), (9, 37, (1, 2, 0), (1, 10, 0), 0), (9, 32, (1, 6, 0), (1, 8, 0), 0), (9, 36, (1, 2, 0), (1, 6, 0), 0)], [])),
 (2, (0, 0, 0, 0), (([(2, 1, 31), (1, 2, 0), (1, 3, 0), (1, 4, 0), (1, 6, 0), (1, 8, 0), (1, 10, 0), (0, 0, 0), (0, 0, 0)], [(1, 0, 0)], [(0, 0), (1, 0), (0, 39), (0, 4), (-1, 20), (1, 0), (0, 5), (1, 0), (4, 4), (1, 0), (3, 3)], [(1, 31, 7, (2, 9, 37)), (1, 31, 1, (2, 7, 32)), (1, 31, 6, (2, 5, 36))]), [(1, 0, (1, 4, 0), (1, 0, 0), 0), (0, 0, (1, 10, 0), (1, 0, 3), 0), (1, 0, (1, 10, 0), (1, 0, 1), 0), (0, 0, (1, 8, 0), (1, 0, 4), 0), (1, 0, (1, 8, 0), (1, 0, 3), 0), (9, 37, (1, 2, 0), (1, 10, 0), 0), (9, 32, (1, 6, 0), (1, 8, 0), 0), (9, 36, (1, 2, 0), (1, 6, 0), 0)], [])),
 (2, (0, 0, 0, 0), (([(2, 1, 31), (1, 2, 0), (1, 3, 0), (1, 4, 0), (1, 6, 0), (1, 8, 0), (1, 10, 0), (0, 0, 0), (0, 0, 0)], [(1, 0, 1)], [(0, 0), (1, 0), (0, 39), (0, 4), (0, 0), (1, 0), (0, 5), (1, 0), (4, 4), (1, 0), (3, 3)], [(1, 31, 7, (2, 9, 37)), (1, 31, 1, (2, 7, 32)), (1, 31, 6, (2, 5, 36))]), [(0, 0, (1, 4, 0), (1, 0, 0), 0), (0, 0, (1, 10, 0), (1, 0, 3), 0), (1, 0, (1, 10, 0), (1, 0, 1), 0), (0, 0, (1, 8, 0), (1, 0, 4), 0), (1, 0, (1, 8, 0), (1, 0, 3), 0), (9, 37, (1, 2, 0), (1, 10, 0), 0), (9, 32, (1, 6, 0), (1, 8, 0), 0), (9, 36, (1, 2, 0), (1, 6, 0), 0)], [])),
 (0, (253, 0, 0, 0), (([(2, 1, 31), (1, 2, 0), (1, 3, 0), (1, 4, 0), (1, 6, 0), (1, 8, 0), (1, 10, 0), (1, 11, 0), (0, 0, 0)], [], [(0, 0), (1, 0), (0, 39), (0, 4), (-1, 20), (1, 0), (0, 5), (1, 0), (3, 3), (1, 0), (0, 4), (0, 3)], [(1, 31, 7, (2, 9, 37)), (1, 31, 1, (2, 7, 32)), (1, 31, 6, (2, 5, 36))]), [(24, 11, (1, 3, 0), (1, 0, 4), 0), (0, 0, (1, 8, 0), (1, 0, 3), 0), (1, 0, (1, 8, 0), (1, 0, 1), 0), (1, 0, (1, 8, 0), (1, 0, 0), 0), (1, 0, (1, 8, 0), (1, 0, 5), 0), (1, 0, (1, 8, 0), (1, 0, 4), 0), (1, 0, (1, 10, 0), (1, 0, 1), 0), (0, 0, (1, 8, 0), (1, 0, 3), 0), (9, 37, (1, 2, 0), (1, 10, 0), 0), (9, 32, (1, 6, 0), (1, 8, 0), 0), (9, 36, (1, 2, 0), (1, 6, 0), 0)], [])),
 (2, (0, 0, 0, 0), (([(2, 1, 31), (1, 2, 0), (1, 3, 0), (1, 4, 0), (1, 6, 0), (1, 8, 0), (1, 10, 0), (0, 0, 0), (0, 0, 0)], [(1, 0, 0)], [(0, 0), (1, 0), (0, 39), (0, 4), (9, 20), (1, 0), (0, 5), (1, 0), (3, 3), (1, 0), (1, 1)], [(1, 31, 7, (2, 9, 37)), (1, 31, 1, (2, 7, 32)), (1, 31, 6, (2, 5, 36))]), [(3, 0, (1, 4, 0), (1, 0, 9), 0), (1, 0, (1, 4, 0), (1, 0, 4), 0), (3, 0, (1, 4, 0), (1, 0, 4), 0), (0, 0, (1, 10, 0), (1, 0, 1), 0), (0, 0, (1, 8, 0), (1, 0, 3), 0), (9, 37, (1, 2, 0), (1, 10, 0), 0), (9, 32, (1, 6, 0), (1, 8, 0), 0), (9, 36, (1, 2, 0), (1, 6, 0), 0)], [])),
 (2, (0, 0, 0, 0), (([(2, 1, 31), (1, 2, 0), (1, 3, 0), (1, 4, 0), (1, 6, 0), (1, 8, 0), (1, 10, 0), (0, 0, 0), (0, 0, 0)], [(1, 4, 195)], [(0, 0), (1, 0), (0, 39), (0, 4), (5, 8), (1, 0), (0, 5), (1, 0), (3, 3), (1, 0), (1, 1)], [(1, 31, 7, (2, 9, 37)), (1, 31, 1, (2, 7, 32)), (1, 31, 6, (2, 5, 36))]), [(2, 0, (1, 4, 0), (1, 0, 9), 0), (1, 0, (1, 4, 0), (1, 0, 4), 0), (3, 0, (1, 4, 0), (1, 0, 4), 0), (0, 0, (1, 10, 0), (1, 0, 1), 0), (0, 0, (1, 8, 0), (1, 0, 3), 0), (9, 37, (1, 2, 0), (1, 10, 0), 0), (9, 32, (1, 6, 0), (1, 8, 0), 0), (9, 36, (1, 2, 0), (1, 6, 0), 0)], [])),
 (2, (0, 0, 0, 0), (([(2, 1, 31), (1, 2, 0), (1, 3, 0), (1, 4, 0), (1, 6, 0), (1, 8, 0), (1, 10, 0), (0, 0, 0), (0, 0, 0)], [(1, 0, 1)], [(0, 0), (1, 0), (0, 39), (0, 4), (4, 4), (1, 0), (0, 5), (1, 0), (3, 3), (1, 0), (1, 1)], [(1, 31, 7, (2, 9, 37)), (1, 31, 1, (2, 7, 32)), (1, 31, 6, (2, 5, 36))]), [(0, 0, (1, 4, 0), (1, 0, 4), 0), (3, 0, (1, 4, 0), (1, 0, 4), 0), (0, 0, (1, 10, 0), (1, 0, 1), 0), (0, 0, (1, 8, 0), (1, 0, 3), 0), (9, 37, (1, 2, 0), (1, 10, 0), 0), (9, 32, (1, 6, 0), (1, 8, 0), 0), (9, 36, (1, 2, 0), (1, 6, 0), 0)], [])),
 (2, (0, 0, 0, 0), (([(2, 1, 31), (1, 2, 0), (1, 3, 0), (1, 4, 0), (1, 6, 0), (1, 8, 0), (1, 10, 0), (0, 0, 0), (0, 0, 0)], [(1, 4, 100)], [(0, 0), (1, 0), (0, 39), (0, 4), (-1, 3), (1, 0), (0, 5), (1, 0), (3, 3), (1, 0), (1, 1)], [(1, 31, 7, (2, 9, 37)), (1, 31, 1, (2, 7, 32)), (1, 31, 6, (2, 5, 36))]), [(2, 0, (1, 4, 0), (1, 0, 4), 0), (0, 0, (1, 10, 0), (1, 0, 1), 0), (0, 0, (1, 8, 0), (1, 0, 3), 0), (9, 37, (1, 2, 0), (1, 10, 0), 0), (9, 32, (1, 6, 0), (1, 8, 0), 0), (9, 36, (1, 2, 0), (1, 6, 0), 0)], []))] = true := by decide +kernel
theorem s157 {h : Hp} (hT : TInv h) {ls : List (Option Value)} {x : Int} {c : Int} {i : Int} (b_x : 0 ≤ x ∧ x ≤ 39) (b_c : 0 ≤ c ∧ c ≤ 4) (b_i : -1 ≤ i ∧ i ≤ 20) (hl : LVs [some (rv 31), some (iv x), some (iv c), some (iv i), none, none, none, none, none] ls) :
  (∃ (trayOf6 kind8 opOf10 : Int) , (0 ≤ trayOf6 ∧ trayOf6 ≤ 5) ∧ (2 ≤ kind8 ∧ kind8 ≤ 4) ∧ (0 ≤ opOf10 ∧ opOf10 ≤ 4) ∧ (trayOf6 = rd 36 x h) ∧ (kind8 = rd 32 trayOf6 h) ∧ (opOf10 = rd 37 x h) ∧ (kind8 ≠ 3) ∧ (kind8 ≠ 4) ∧ (kind8 ≠ 5) ∧ (kind8 ≠ 0) ∧ (kind8 ≠ 1) ∧ (kind8 ≠ 3) ∧ Nx h h ∧ (∃ ls', LVs [some (rv 31), some (iv x), some (iv c), some (iv i), some (iv trayOf6), some (iv kind8), some (iv opOf10), some (iv 0), none] ls' ∧ ∀ d r, 3 ≤ d → Ev d 157 (253, ls', [], h, fl_tot) r → Ev d 157 (0, ls, [], h, fl_tot) r)) ∨
  (∃ (trayOf6 kind8 opOf10 n11 : Int) , (0 ≤ trayOf6 ∧ trayOf6 ≤ 5) ∧ (3 ≤ kind8 ∧ kind8 ≤ 3) ∧ (0 ≤ opOf10 ∧ opOf10 ≤ 4) ∧ (0 ≤ n11 ∧ n11 ≤ 3) ∧ (trayOf6 = rd 36 x h) ∧ (kind8 = rd 32 trayOf6 h) ∧ (opOf10 = rd 37 x h) ∧ (kind8 ≠ 3) ∧ (kind8 ≠ 4) ∧ (kind8 ≠ 5) ∧ (kind8 ≠ 0) ∧ (kind8 ≠ 1) ∧ (kind8 = 3) ∧ (n11 = c % 4) ∧ Nx h h ∧ (∃ ls', LVs [some (rv 31), some (iv x), some (iv c), some (iv i), some (iv trayOf6), some (iv kind8), some (iv opOf10), some (iv n11), none] ls' ∧ ∀ d r, 3 ≤ d → Ev d 157 (253, ls', [], h, fl_tot) r → Ev d 157 (0, ls, [], h, fl_tot) r)) ∨
  (∃ (trayOf6 kind8 opOf10 n11 : Int) , (0 ≤ trayOf6 ∧ trayOf6 ≤ 5) ∧ (1 ≤ kind8 ∧ kind8 ≤ 1) ∧ (0 ≤ opOf10 ∧ opOf10 ≤ 4) ∧ (-3 ≤ n11 ∧ n11 ≤ 1) ∧ (trayOf6 = rd 36 x h) ∧ (kind8 = rd 32 trayOf6 h) ∧ (opOf10 = rd 37 x h) ∧ (kind8 ≠ 3) ∧ (kind8 ≠ 4) ∧ (kind8 ≠ 5) ∧ (kind8 ≠ 0) ∧ (kind8 = 1) ∧ (n11 = 1 - opOf10) ∧ Nx h h ∧ (∃ ls', LVs [some (rv 31), some (iv x), some (iv c), some (iv i), some (iv trayOf6), some (iv kind8), some (iv opOf10), some (iv n11), none] ls' ∧ ∀ d r, 3 ≤ d → Ev d 157 (253, ls', [], h, fl_tot) r → Ev d 157 (0, ls, [], h, fl_tot) r)) ∨
  (∃ (trayOf6 kind8 opOf10 aOf12 : Int) , (0 ≤ trayOf6 ∧ trayOf6 ≤ 5) ∧ (0 ≤ kind8 ∧ kind8 ≤ 0) ∧ (0 ≤ opOf10 ∧ opOf10 ≤ 4) ∧ (-2147483648 ≤ aOf12 ∧ aOf12 ≤ 2147483647) ∧ (trayOf6 = rd 36 x h) ∧ (kind8 = rd 32 trayOf6 h) ∧ (opOf10 = rd 37 x h) ∧ (kind8 ≠ 3) ∧ (kind8 ≠ 4) ∧ (kind8 ≠ 5) ∧ (kind8 = 0) ∧ (aOf12 = rd 38 x h) ∧ (aOf12 < 0)) ∨
  (∃ (trayOf6 kind8 opOf10 aOf12 : Int) , (0 ≤ trayOf6 ∧ trayOf6 ≤ 5) ∧ (0 ≤ kind8 ∧ kind8 ≤ 0) ∧ (0 ≤ opOf10 ∧ opOf10 ≤ 4) ∧ (-2147483648 ≤ aOf12 ∧ aOf12 ≤ 2147483647) ∧ (trayOf6 = rd 36 x h) ∧ (kind8 = rd 32 trayOf6 h) ∧ (opOf10 = rd 37 x h) ∧ (kind8 ≠ 3) ∧ (kind8 ≠ 4) ∧ (kind8 ≠ 5) ∧ (kind8 = 0) ∧ (aOf12 = rd 38 x h) ∧ (31 < aOf12)) ∨
  (∃ (trayOf6 kind8 opOf10 aOf12 n13 : Int) , (0 ≤ trayOf6 ∧ trayOf6 ≤ 5) ∧ (0 ≤ kind8 ∧ kind8 ≤ 0) ∧ (0 ≤ opOf10 ∧ opOf10 ≤ 4) ∧ (0 ≤ aOf12 ∧ aOf12 ≤ 31) ∧ (0 ≤ n13 ∧ n13 ≤ 3) ∧ (trayOf6 = rd 36 x h) ∧ (kind8 = rd 32 trayOf6 h) ∧ (opOf10 = rd 37 x h) ∧ (kind8 ≠ 3) ∧ (kind8 ≠ 4) ∧ (kind8 ≠ 5) ∧ (kind8 = 0) ∧ (aOf12 = rd 38 x h) ∧ (n13 = aOf12 % 4) ∧ Nx h h ∧ (∃ ls', LVs [some (rv 31), some (iv x), some (iv c), some (iv i), some (iv trayOf6), some (iv kind8), some (iv opOf10), some (iv n13), none] ls' ∧ ∀ d r, 3 ≤ d → Ev d 157 (253, ls', [], h, fl_tot) r → Ev d 157 (0, ls, [], h, fl_tot) r)) ∨
  (∃ (trayOf6 kind8 opOf10 fault12 : Int) , (0 ≤ trayOf6 ∧ trayOf6 ≤ 5) ∧ (5 ≤ kind8 ∧ kind8 ≤ 5) ∧ (0 ≤ opOf10 ∧ opOf10 ≤ 4) ∧ (0 ≤ fault12 ∧ fault12 ≤ 1) ∧ (trayOf6 = rd 36 x h) ∧ (kind8 = rd 32 trayOf6 h) ∧ (opOf10 = rd 37 x h) ∧ (kind8 ≠ 3) ∧ (kind8 ≠ 4) ∧ (kind8 = 5) ∧ (fault12 = rd 34 trayOf6 h) ∧ (fault12 ≠ 2) ∧ (i ≠ 7) ∧ (i ≠ 6) ∧ (i ≠ 5) ∧ (i ≠ 4) ∧ (i ≠ 3) ∧ (i ≠ 2) ∧ (i ≠ 1) ∧ (i ≠ 0) ∧ Nx h h ∧ (∀ d, 3 ≤ d → Ev d 157 (0, ls, [], h, fl_tot) (some (iv 0), h, fl_tot))) ∨
  (∃ (trayOf6 kind8 opOf10 fault12 : Int) , (0 ≤ i ∧ i ≤ 0) ∧ (0 ≤ trayOf6 ∧ trayOf6 ≤ 5) ∧ (5 ≤ kind8 ∧ kind8 ≤ 5) ∧ (0 ≤ opOf10 ∧ opOf10 ≤ 4) ∧ (0 ≤ fault12 ∧ fault12 ≤ 1) ∧ (trayOf6 = rd 36 x h) ∧ (kind8 = rd 32 trayOf6 h) ∧ (opOf10 = rd 37 x h) ∧ (kind8 ≠ 3) ∧ (kind8 ≠ 4) ∧ (kind8 = 5) ∧ (fault12 = rd 34 trayOf6 h) ∧ (fault12 ≠ 2) ∧ Nx h h ∧ (∀ d, 3 ≤ d → Ev d 157 (0, ls, [], h, fl_tot) (some (iv 100), h, fl_tot))) ∨
  (∃ (trayOf6 kind8 opOf10 fault12 : Int) , (1 ≤ i ∧ i ≤ 1) ∧ (0 ≤ trayOf6 ∧ trayOf6 ≤ 5) ∧ (5 ≤ kind8 ∧ kind8 ≤ 5) ∧ (0 ≤ opOf10 ∧ opOf10 ≤ 4) ∧ (0 ≤ fault12 ∧ fault12 ≤ 1) ∧ (trayOf6 = rd 36 x h) ∧ (kind8 = rd 32 trayOf6 h) ∧ (opOf10 = rd 37 x h) ∧ (kind8 ≠ 3) ∧ (kind8 ≠ 4) ∧ (kind8 = 5) ∧ (fault12 = rd 34 trayOf6 h) ∧ (fault12 ≠ 2) ∧ Nx h h ∧ (∀ d, 3 ≤ d → Ev d 157 (0, ls, [], h, fl_tot) (some (iv 3), h, fl_tot))) ∨
  (∃ (trayOf6 kind8 opOf10 fault12 : Int) , (2 ≤ i ∧ i ≤ 2) ∧ (0 ≤ trayOf6 ∧ trayOf6 ≤ 5) ∧ (5 ≤ kind8 ∧ kind8 ≤ 5) ∧ (0 ≤ opOf10 ∧ opOf10 ≤ 4) ∧ (0 ≤ fault12 ∧ fault12 ≤ 1) ∧ (trayOf6 = rd 36 x h) ∧ (kind8 = rd 32 trayOf6 h) ∧ (opOf10 = rd 37 x h) ∧ (kind8 ≠ 3) ∧ (kind8 ≠ 4) ∧ (kind8 = 5) ∧ (fault12 = rd 34 trayOf6 h) ∧ (fault12 ≠ 2) ∧ Nx h h ∧ (∀ d, 3 ≤ d → Ev d 157 (0, ls, [], h, fl_tot) (some (iv 4), h, fl_tot))) ∨
  (∃ (trayOf6 kind8 opOf10 fault12 : Int) , (3 ≤ i ∧ i ≤ 3) ∧ (0 ≤ trayOf6 ∧ trayOf6 ≤ 5) ∧ (5 ≤ kind8 ∧ kind8 ≤ 5) ∧ (0 ≤ opOf10 ∧ opOf10 ≤ 4) ∧ (0 ≤ fault12 ∧ fault12 ≤ 1) ∧ (trayOf6 = rd 36 x h) ∧ (kind8 = rd 32 trayOf6 h) ∧ (opOf10 = rd 37 x h) ∧ (kind8 ≠ 3) ∧ (kind8 ≠ 4) ∧ (kind8 = 5) ∧ (fault12 = rd 34 trayOf6 h) ∧ (fault12 ≠ 2) ∧ Nx h h ∧ (∀ d, 3 ≤ d → Ev d 157 (0, ls, [], h, fl_tot) (some (iv 200), h, fl_tot))) ∨
  (∃ (trayOf6 kind8 opOf10 fault12 : Int) , (4 ≤ i ∧ i ≤ 4) ∧ (0 ≤ trayOf6 ∧ trayOf6 ≤ 5) ∧ (5 ≤ kind8 ∧ kind8 ≤ 5) ∧ (0 ≤ opOf10 ∧ opOf10 ≤ 4) ∧ (0 ≤ fault12 ∧ fault12 ≤ 1) ∧ (trayOf6 = rd 36 x h) ∧ (kind8 = rd 32 trayOf6 h) ∧ (opOf10 = rd 37 x h) ∧ (kind8 ≠ 3) ∧ (kind8 ≠ 4) ∧ (kind8 = 5) ∧ (fault12 = rd 34 trayOf6 h) ∧ (fault12 ≠ 2) ∧ Nx h h ∧ (∀ d, 3 ≤ d → Ev d 157 (0, ls, [], h, fl_tot) (some (iv 5), h, fl_tot))) ∨
  (∃ (trayOf6 kind8 opOf10 fault12 : Int) , (5 ≤ i ∧ i ≤ 5) ∧ (0 ≤ trayOf6 ∧ trayOf6 ≤ 5) ∧ (5 ≤ kind8 ∧ kind8 ≤ 5) ∧ (0 ≤ opOf10 ∧ opOf10 ≤ 4) ∧ (0 ≤ fault12 ∧ fault12 ≤ 1) ∧ (trayOf6 = rd 36 x h) ∧ (kind8 = rd 32 trayOf6 h) ∧ (opOf10 = rd 37 x h) ∧ (kind8 ≠ 3) ∧ (kind8 ≠ 4) ∧ (kind8 = 5) ∧ (fault12 = rd 34 trayOf6 h) ∧ (fault12 ≠ 2) ∧ Nx h h ∧ (∀ d, 3 ≤ d → Ev d 157 (0, ls, [], h, fl_tot) (some (iv 100), h, fl_tot))) ∨
  (∃ (trayOf6 kind8 opOf10 fault12 : Int) , (6 ≤ i ∧ i ≤ 6) ∧ (0 ≤ trayOf6 ∧ trayOf6 ≤ 5) ∧ (5 ≤ kind8 ∧ kind8 ≤ 5) ∧ (0 ≤ opOf10 ∧ opOf10 ≤ 4) ∧ (0 ≤ fault12 ∧ fault12 ≤ 1) ∧ (trayOf6 = rd 36 x h) ∧ (kind8 = rd 32 trayOf6 h) ∧ (opOf10 = rd 37 x h) ∧ (kind8 ≠ 3) ∧ (kind8 ≠ 4) ∧ (kind8 = 5) ∧ (fault12 = rd 34 trayOf6 h) ∧ (fault12 ≠ 2) ∧ Nx h h ∧ (∀ d, 3 ≤ d → Ev d 157 (0, ls, [], h, fl_tot) (some (iv 2), h, fl_tot))) ∨
  (∃ (trayOf6 kind8 opOf10 fault12 : Int) , (7 ≤ i ∧ i ≤ 7) ∧ (0 ≤ trayOf6 ∧ trayOf6 ≤ 5) ∧ (5 ≤ kind8 ∧ kind8 ≤ 5) ∧ (0 ≤ opOf10 ∧ opOf10 ≤ 4) ∧ (0 ≤ fault12 ∧ fault12 ≤ 1) ∧ (trayOf6 = rd 36 x h) ∧ (kind8 = rd 32 trayOf6 h) ∧ (opOf10 = rd 37 x h) ∧ (kind8 ≠ 3) ∧ (kind8 ≠ 4) ∧ (kind8 = 5) ∧ (fault12 = rd 34 trayOf6 h) ∧ (fault12 ≠ 2) ∧ Nx h h ∧ (∀ d, 3 ≤ d → Ev d 157 (0, ls, [], h, fl_tot) (some (iv 200), h, fl_tot))) ∨
  (∃ (trayOf6 kind8 opOf10 fault12 : Int) , (6 ≤ i ∧ i ≤ 6) ∧ (0 ≤ trayOf6 ∧ trayOf6 ≤ 5) ∧ (5 ≤ kind8 ∧ kind8 ≤ 5) ∧ (0 ≤ opOf10 ∧ opOf10 ≤ 4) ∧ (2 ≤ fault12 ∧ fault12 ≤ 2) ∧ (trayOf6 = rd 36 x h) ∧ (kind8 = rd 32 trayOf6 h) ∧ (opOf10 = rd 37 x h) ∧ (kind8 ≠ 3) ∧ (kind8 ≠ 4) ∧ (kind8 = 5) ∧ (fault12 = rd 34 trayOf6 h) ∧ (fault12 = 2) ∧ (i = 6) ∧ ((7 : Int) ≠ 7) ∧ ((7 : Int) ≠ 6) ∧ ((7 : Int) ≠ 5) ∧ ((7 : Int) ≠ 4) ∧ ((7 : Int) ≠ 3) ∧ ((7 : Int) ≠ 2) ∧ ((7 : Int) ≠ 1) ∧ ((7 : Int) ≠ 0) ∧ Nx h h ∧ (∀ d, 3 ≤ d → Ev d 157 (0, ls, [], h, fl_tot) (some (iv 0), h, fl_tot))) ∨
  (∃ (trayOf6 kind8 opOf10 fault12 : Int) , (6 ≤ i ∧ i ≤ 6) ∧ (0 ≤ trayOf6 ∧ trayOf6 ≤ 5) ∧ (5 ≤ kind8 ∧ kind8 ≤ 5) ∧ (0 ≤ opOf10 ∧ opOf10 ≤ 4) ∧ (2 ≤ fault12 ∧ fault12 ≤ 2) ∧ (trayOf6 = rd 36 x h) ∧ (kind8 = rd 32 trayOf6 h) ∧ (opOf10 = rd 37 x h) ∧ (kind8 ≠ 3) ∧ (kind8 ≠ 4) ∧ (kind8 = 5) ∧ (fault12 = rd 34 trayOf6 h) ∧ (fault12 = 2) ∧ (i = 6) ∧ Nx h h ∧ (∀ d, 3 ≤ d → Ev d 157 (0, ls, [], h, fl_tot) (some (iv 200), h, fl_tot))) ∨
  (∃ (trayOf6 kind8 opOf10 fault12 : Int) , (0 ≤ trayOf6 ∧ trayOf6 ≤ 5) ∧ (5 ≤ kind8 ∧ kind8 ≤ 5) ∧ (0 ≤ opOf10 ∧ opOf10 ≤ 4) ∧ (2 ≤ fault12 ∧ fault12 ≤ 2) ∧ (trayOf6 = rd 36 x h) ∧ (kind8 = rd 32 trayOf6 h) ∧ (opOf10 = rd 37 x h) ∧ (kind8 ≠ 3) ∧ (kind8 ≠ 4) ∧ (kind8 = 5) ∧ (fault12 = rd 34 trayOf6 h) ∧ (fault12 = 2) ∧ (i ≠ 6) ∧ (i ≠ 7) ∧ (i ≠ 7) ∧ (i ≠ 6) ∧ (i ≠ 5) ∧ (i ≠ 4) ∧ (i ≠ 3) ∧ (i ≠ 2) ∧ (i ≠ 1) ∧ (i ≠ 0) ∧ Nx h h ∧ (∀ d, 3 ≤ d → Ev d 157 (0, ls, [], h, fl_tot) (some (iv 0), h, fl_tot))) ∨
  (∃ (trayOf6 kind8 opOf10 fault12 : Int) , (0 ≤ i ∧ i ≤ 0) ∧ (0 ≤ trayOf6 ∧ trayOf6 ≤ 5) ∧ (5 ≤ kind8 ∧ kind8 ≤ 5) ∧ (0 ≤ opOf10 ∧ opOf10 ≤ 4) ∧ (2 ≤ fault12 ∧ fault12 ≤ 2) ∧ (trayOf6 = rd 36 x h) ∧ (kind8 = rd 32 trayOf6 h) ∧ (opOf10 = rd 37 x h) ∧ (kind8 ≠ 3) ∧ (kind8 ≠ 4) ∧ (kind8 = 5) ∧ (fault12 = rd 34 trayOf6 h) ∧ (fault12 = 2) ∧ (i ≠ 6) ∧ (i ≠ 7) ∧ Nx h h ∧ (∀ d, 3 ≤ d → Ev d 157 (0, ls, [], h, fl_tot) (some (iv 100), h, fl_tot))) ∨
  (∃ (trayOf6 kind8 opOf10 fault12 : Int) , (1 ≤ i ∧ i ≤ 1) ∧ (0 ≤ trayOf6 ∧ trayOf6 ≤ 5) ∧ (5 ≤ kind8 ∧ kind8 ≤ 5) ∧ (0 ≤ opOf10 ∧ opOf10 ≤ 4) ∧ (2 ≤ fault12 ∧ fault12 ≤ 2) ∧ (trayOf6 = rd 36 x h) ∧ (kind8 = rd 32 trayOf6 h) ∧ (opOf10 = rd 37 x h) ∧ (kind8 ≠ 3) ∧ (kind8 ≠ 4) ∧ (kind8 = 5) ∧ (fault12 = rd 34 trayOf6 h) ∧ (fault12 = 2) ∧ (i ≠ 6) ∧ (i ≠ 7) ∧ Nx h h ∧ (∀ d, 3 ≤ d → Ev d 157 (0, ls, [], h, fl_tot) (some (iv 3), h, fl_tot))) ∨
  (∃ (trayOf6 kind8 opOf10 fault12 : Int) , (2 ≤ i ∧ i ≤ 2) ∧ (0 ≤ trayOf6 ∧ trayOf6 ≤ 5) ∧ (5 ≤ kind8 ∧ kind8 ≤ 5) ∧ (0 ≤ opOf10 ∧ opOf10 ≤ 4) ∧ (2 ≤ fault12 ∧ fault12 ≤ 2) ∧ (trayOf6 = rd 36 x h) ∧ (kind8 = rd 32 trayOf6 h) ∧ (opOf10 = rd 37 x h) ∧ (kind8 ≠ 3) ∧ (kind8 ≠ 4) ∧ (kind8 = 5) ∧ (fault12 = rd 34 trayOf6 h) ∧ (fault12 = 2) ∧ (i ≠ 6) ∧ (i ≠ 7) ∧ Nx h h ∧ (∀ d, 3 ≤ d → Ev d 157 (0, ls, [], h, fl_tot) (some (iv 4), h, fl_tot))) ∨
  (∃ (trayOf6 kind8 opOf10 fault12 : Int) , (3 ≤ i ∧ i ≤ 3) ∧ (0 ≤ trayOf6 ∧ trayOf6 ≤ 5) ∧ (5 ≤ kind8 ∧ kind8 ≤ 5) ∧ (0 ≤ opOf10 ∧ opOf10 ≤ 4) ∧ (2 ≤ fault12 ∧ fault12 ≤ 2) ∧ (trayOf6 = rd 36 x h) ∧ (kind8 = rd 32 trayOf6 h) ∧ (opOf10 = rd 37 x h) ∧ (kind8 ≠ 3) ∧ (kind8 ≠ 4) ∧ (kind8 = 5) ∧ (fault12 = rd 34 trayOf6 h) ∧ (fault12 = 2) ∧ (i ≠ 6) ∧ (i ≠ 7) ∧ Nx h h ∧ (∀ d, 3 ≤ d → Ev d 157 (0, ls, [], h, fl_tot) (some (iv 200), h, fl_tot))) ∨
  (∃ (trayOf6 kind8 opOf10 fault12 : Int) , (4 ≤ i ∧ i ≤ 4) ∧ (0 ≤ trayOf6 ∧ trayOf6 ≤ 5) ∧ (5 ≤ kind8 ∧ kind8 ≤ 5) ∧ (0 ≤ opOf10 ∧ opOf10 ≤ 4) ∧ (2 ≤ fault12 ∧ fault12 ≤ 2) ∧ (trayOf6 = rd 36 x h) ∧ (kind8 = rd 32 trayOf6 h) ∧ (opOf10 = rd 37 x h) ∧ (kind8 ≠ 3) ∧ (kind8 ≠ 4) ∧ (kind8 = 5) ∧ (fault12 = rd 34 trayOf6 h) ∧ (fault12 = 2) ∧ (i ≠ 6) ∧ (i ≠ 7) ∧ Nx h h ∧ (∀ d, 3 ≤ d → Ev d 157 (0, ls, [], h, fl_tot) (some (iv 5), h, fl_tot))) ∨
  (∃ (trayOf6 kind8 opOf10 fault12 : Int) , (5 ≤ i ∧ i ≤ 5) ∧ (0 ≤ trayOf6 ∧ trayOf6 ≤ 5) ∧ (5 ≤ kind8 ∧ kind8 ≤ 5) ∧ (0 ≤ opOf10 ∧ opOf10 ≤ 4) ∧ (2 ≤ fault12 ∧ fault12 ≤ 2) ∧ (trayOf6 = rd 36 x h) ∧ (kind8 = rd 32 trayOf6 h) ∧ (opOf10 = rd 37 x h) ∧ (kind8 ≠ 3) ∧ (kind8 ≠ 4) ∧ (kind8 = 5) ∧ (fault12 = rd 34 trayOf6 h) ∧ (fault12 = 2) ∧ (i ≠ 6) ∧ (i ≠ 7) ∧ Nx h h ∧ (∀ d, 3 ≤ d → Ev d 157 (0, ls, [], h, fl_tot) (some (iv 100), h, fl_tot))) ∨
  (∃ (trayOf6 kind8 opOf10 fault12 : Int) , (6 ≤ i ∧ i ≤ 6) ∧ (0 ≤ trayOf6 ∧ trayOf6 ≤ 5) ∧ (5 ≤ kind8 ∧ kind8 ≤ 5) ∧ (0 ≤ opOf10 ∧ opOf10 ≤ 4) ∧ (2 ≤ fault12 ∧ fault12 ≤ 2) ∧ (trayOf6 = rd 36 x h) ∧ (kind8 = rd 32 trayOf6 h) ∧ (opOf10 = rd 37 x h) ∧ (kind8 ≠ 3) ∧ (kind8 ≠ 4) ∧ (kind8 = 5) ∧ (fault12 = rd 34 trayOf6 h) ∧ (fault12 = 2) ∧ (i ≠ 6) ∧ (i ≠ 7) ∧ Nx h h ∧ (∀ d, 3 ≤ d → Ev d 157 (0, ls, [], h, fl_tot) (some (iv 2), h, fl_tot))) ∨
  (∃ (trayOf6 kind8 opOf10 fault12 : Int) , (7 ≤ i ∧ i ≤ 7) ∧ (0 ≤ trayOf6 ∧ trayOf6 ≤ 5) ∧ (5 ≤ kind8 ∧ kind8 ≤ 5) ∧ (0 ≤ opOf10 ∧ opOf10 ≤ 4) ∧ (2 ≤ fault12 ∧ fault12 ≤ 2) ∧ (trayOf6 = rd 36 x h) ∧ (kind8 = rd 32 trayOf6 h) ∧ (opOf10 = rd 37 x h) ∧ (kind8 ≠ 3) ∧ (kind8 ≠ 4) ∧ (kind8 = 5) ∧ (fault12 = rd 34 trayOf6 h) ∧ (fault12 = 2) ∧ (i ≠ 6) ∧ (i ≠ 7) ∧ Nx h h ∧ (∀ d, 3 ≤ d → Ev d 157 (0, ls, [], h, fl_tot) (some (iv 200), h, fl_tot))) ∨
  (∃ (trayOf6 kind8 opOf10 fault12 : Int) , (7 ≤ i ∧ i ≤ 7) ∧ (0 ≤ trayOf6 ∧ trayOf6 ≤ 5) ∧ (5 ≤ kind8 ∧ kind8 ≤ 5) ∧ (0 ≤ opOf10 ∧ opOf10 ≤ 4) ∧ (2 ≤ fault12 ∧ fault12 ≤ 2) ∧ (trayOf6 = rd 36 x h) ∧ (kind8 = rd 32 trayOf6 h) ∧ (opOf10 = rd 37 x h) ∧ (kind8 ≠ 3) ∧ (kind8 ≠ 4) ∧ (kind8 = 5) ∧ (fault12 = rd 34 trayOf6 h) ∧ (fault12 = 2) ∧ (i ≠ 6) ∧ (i = 7) ∧ ((6 : Int) ≠ 7) ∧ ((6 : Int) ≠ 6) ∧ ((6 : Int) ≠ 5) ∧ ((6 : Int) ≠ 4) ∧ ((6 : Int) ≠ 3) ∧ ((6 : Int) ≠ 2) ∧ ((6 : Int) ≠ 1) ∧ ((6 : Int) ≠ 0) ∧ Nx h h ∧ (∀ d, 3 ≤ d → Ev d 157 (0, ls, [], h, fl_tot) (some (iv 0), h, fl_tot))) ∨
  (∃ (trayOf6 kind8 opOf10 fault12 : Int) , (7 ≤ i ∧ i ≤ 7) ∧ (0 ≤ trayOf6 ∧ trayOf6 ≤ 5) ∧ (5 ≤ kind8 ∧ kind8 ≤ 5) ∧ (0 ≤ opOf10 ∧ opOf10 ≤ 4) ∧ (2 ≤ fault12 ∧ fault12 ≤ 2) ∧ (trayOf6 = rd 36 x h) ∧ (kind8 = rd 32 trayOf6 h) ∧ (opOf10 = rd 37 x h) ∧ (kind8 ≠ 3) ∧ (kind8 ≠ 4) ∧ (kind8 = 5) ∧ (fault12 = rd 34 trayOf6 h) ∧ (fault12 = 2) ∧ (i ≠ 6) ∧ (i = 7) ∧ Nx h h ∧ (∀ d, 3 ≤ d → Ev d 157 (0, ls, [], h, fl_tot) (some (iv 2), h, fl_tot))) ∨
  (∃ (trayOf6 kind8 opOf10 : Int) , (0 ≤ trayOf6 ∧ trayOf6 ≤ 5) ∧ (4 ≤ kind8 ∧ kind8 ≤ 4) ∧ (1 ≤ opOf10 ∧ opOf10 ≤ 1) ∧ (trayOf6 = rd 36 x h) ∧ (kind8 = rd 32 trayOf6 h) ∧ (opOf10 = rd 37 x h) ∧ (kind8 ≠ 3) ∧ (kind8 = 4) ∧ (opOf10 = 1) ∧ (i ≠ 0) ∧ Nx h h ∧ (∀ d, 3 ≤ d → Ev d 157 (0, ls, [], h, fl_tot) (some (iv 0), h, fl_tot))) ∨
  (∃ (trayOf6 kind8 opOf10 : Int) , (0 ≤ i ∧ i ≤ 0) ∧ (0 ≤ trayOf6 ∧ trayOf6 ≤ 5) ∧ (4 ≤ kind8 ∧ kind8 ≤ 4) ∧ (1 ≤ opOf10 ∧ opOf10 ≤ 1) ∧ (trayOf6 = rd 36 x h) ∧ (kind8 = rd 32 trayOf6 h) ∧ (opOf10 = rd 37 x h) ∧ (kind8 ≠ 3) ∧ (kind8 = 4) ∧ (opOf10 = 1) ∧ (i = 0) ∧ Nx h h ∧ (∀ d, 3 ≤ d → Ev d 157 (0, ls, [], h, fl_tot) (some (iv 1), h, fl_tot))) ∨
  (∃ (trayOf6 kind8 opOf10 : Int) , (0 ≤ trayOf6 ∧ trayOf6 ≤ 5) ∧ (4 ≤ kind8 ∧ kind8 ≤ 4) ∧ (0 ≤ opOf10 ∧ opOf10 ≤ 4) ∧ (trayOf6 = rd 36 x h) ∧ (kind8 = rd 32 trayOf6 h) ∧ (opOf10 = rd 37 x h) ∧ (kind8 ≠ 3) ∧ (kind8 = 4) ∧ (opOf10 ≠ 1) ∧ (opOf10 ≠ 3) ∧ (kind8 ≠ 5) ∧ (kind8 ≠ 0) ∧ (kind8 ≠ 1) ∧ (kind8 ≠ 3) ∧ Nx h h ∧ (∃ ls', LVs [some (rv 31), some (iv x), some (iv c), some (iv i), some (iv trayOf6), some (iv kind8), some (iv opOf10), some (iv 0), none] ls' ∧ ∀ d r, 3 ≤ d → Ev d 157 (253, ls', [], h, fl_tot) r → Ev d 157 (0, ls, [], h, fl_tot) r)) ∨
  (∃ (trayOf6 kind8 opOf10 : Int) , (0 ≤ trayOf6 ∧ trayOf6 ≤ 5) ∧ (4 ≤ kind8 ∧ kind8 ≤ 4) ∧ (3 ≤ opOf10 ∧ opOf10 ≤ 3) ∧ (trayOf6 = rd 36 x h) ∧ (kind8 = rd 32 trayOf6 h) ∧ (opOf10 = rd 37 x h) ∧ (kind8 ≠ 3) ∧ (kind8 = 4) ∧ (opOf10 ≠ 1) ∧ (opOf10 = 3) ∧ (i ≠ 0) ∧ Nx h h ∧ (∀ d, 3 ≤ d → Ev d 157 (0, ls, [], h, fl_tot) (some (iv 0), h, fl_tot))) ∨
  (∃ (trayOf6 kind8 opOf10 : Int) , (0 ≤ i ∧ i ≤ 0) ∧ (0 ≤ trayOf6 ∧ trayOf6 ≤ 5) ∧ (4 ≤ kind8 ∧ kind8 ≤ 4) ∧ (3 ≤ opOf10 ∧ opOf10 ≤ 3) ∧ (trayOf6 = rd 36 x h) ∧ (kind8 = rd 32 trayOf6 h) ∧ (opOf10 = rd 37 x h) ∧ (kind8 ≠ 3) ∧ (kind8 = 4) ∧ (opOf10 ≠ 1) ∧ (opOf10 = 3) ∧ (i = 0) ∧ Nx h h ∧ (∀ d, 3 ≤ d → Ev d 157 (0, ls, [], h, fl_tot) (some (iv 1), h, fl_tot))) ∨
  (∃ (trayOf6 kind8 opOf10 n11 : Int) , (0 ≤ trayOf6 ∧ trayOf6 ≤ 5) ∧ (3 ≤ kind8 ∧ kind8 ≤ 3) ∧ (0 ≤ opOf10 ∧ opOf10 ≤ 4) ∧ (0 ≤ n11 ∧ n11 ≤ 3) ∧ (trayOf6 = rd 36 x h) ∧ (kind8 = rd 32 trayOf6 h) ∧ (opOf10 = rd 37 x h) ∧ (kind8 = 3) ∧ (opOf10 ≠ 1) ∧ (kind8 ≠ 4) ∧ (kind8 ≠ 5) ∧ (kind8 ≠ 0) ∧ (kind8 ≠ 1) ∧ (kind8 = 3) ∧ (n11 = c % 4) ∧ Nx h h ∧ (∃ ls', LVs [some (rv 31), some (iv x), some (iv c), some (iv i), some (iv trayOf6), some (iv kind8), some (iv opOf10), some (iv n11), none] ls' ∧ ∀ d r, 3 ≤ d → Ev d 157 (253, ls', [], h, fl_tot) r → Ev d 157 (0, ls, [], h, fl_tot) r)) ∨
  (∃ (trayOf6 kind8 opOf10 : Int) , (9 ≤ i ∧ i ≤ 20) ∧ (0 ≤ trayOf6 ∧ trayOf6 ≤ 5) ∧ (3 ≤ kind8 ∧ kind8 ≤ 3) ∧ (1 ≤ opOf10 ∧ opOf10 ≤ 1) ∧ (trayOf6 = rd 36 x h) ∧ (kind8 = rd 32 trayOf6 h) ∧ (opOf10 = rd 37 x h) ∧ (kind8 = 3) ∧ (opOf10 = 1) ∧ (4 ≤ i) ∧ (i ≠ 4) ∧ (9 ≤ i) ∧ Nx h h ∧ (∀ d, 3 ≤ d → Ev d 157 (0, ls, [], h, fl_tot) (some (iv 0), h, fl_tot))) ∨
  (∃ (trayOf6 kind8 opOf10 : Int) , (5 ≤ i ∧ i ≤ 8) ∧ (0 ≤ trayOf6 ∧ trayOf6 ≤ 5) ∧ (3 ≤ kind8 ∧ kind8 ≤ 3) ∧ (1 ≤ opOf10 ∧ opOf10 ≤ 1) ∧ (trayOf6 = rd 36 x h) ∧ (kind8 = rd 32 trayOf6 h) ∧ (opOf10 = rd 37 x h) ∧ (kind8 = 3) ∧ (opOf10 = 1) ∧ (4 ≤ i) ∧ (i ≠ 4) ∧ (i < 9) ∧ Nx h h ∧ (∀ d, 3 ≤ d → Ev d 157 (0, ls, [], h, fl_tot) (some (iv (i + 195)), h, fl_tot))) ∨
  (∃ (trayOf6 kind8 opOf10 : Int) , (4 ≤ i ∧ i ≤ 4) ∧ (0 ≤ trayOf6 ∧ trayOf6 ≤ 5) ∧ (3 ≤ kind8 ∧ kind8 ≤ 3) ∧ (1 ≤ opOf10 ∧ opOf10 ≤ 1) ∧ (trayOf6 = rd 36 x h) ∧ (kind8 = rd 32 trayOf6 h) ∧ (opOf10 = rd 37 x h) ∧ (kind8 = 3) ∧ (opOf10 = 1) ∧ (4 ≤ i) ∧ (i = 4) ∧ Nx h h ∧ (∀ d, 3 ≤ d → Ev d 157 (0, ls, [], h, fl_tot) (some (iv 1), h, fl_tot))) ∨
  (∃ (trayOf6 kind8 opOf10 : Int) , (-1 ≤ i ∧ i ≤ 3) ∧ (0 ≤ trayOf6 ∧ trayOf6 ≤ 5) ∧ (3 ≤ kind8 ∧ kind8 ≤ 3) ∧ (1 ≤ opOf10 ∧ opOf10 ≤ 1) ∧ (trayOf6 = rd 36 x h) ∧ (kind8 = rd 32 trayOf6 h) ∧ (opOf10 = rd 37 x h) ∧ (kind8 = 3) ∧ (opOf10 = 1) ∧ (i < 4) ∧ Nx h h ∧ (∀ d, 3 ≤ d → Ev d 157 (0, ls, [], h, fl_tot) (some (iv (i + 100)), h, fl_tot))) := by
  have H := seg chk_s157 (zs := [x, c, i]) (szs := []) hT (show HB tys_s157 [x, c, i] from ⟨b_x, ⟨b_c, ⟨b_i, trivial⟩⟩⟩) (show HB stys_s157 [] from trivial) hl
  rcases H with ⟨tq, hE, hF, k1, ls', k2, k3⟩ | ⟨tq, hE, hF, k1, ls', k2, k3⟩ | ⟨tq, hE, hF, k1, ls', k2, k3⟩ | ⟨tq, hE, hF, k1⟩ | ⟨tq, hE, hF, k1⟩ | ⟨tq, hE, hF, k1, ls', k2, k3⟩ | ⟨tq, hE, hF, k1, k2⟩ | ⟨tq, hE, hF, k1, k2⟩ | ⟨tq, hE, hF, k1, k2⟩ | ⟨tq, hE, hF, k1, k2⟩ | ⟨tq, hE, hF, k1, k2⟩ | ⟨tq, hE, hF, k1, k2⟩ | ⟨tq, hE, hF, k1, k2⟩ | ⟨tq, hE, hF, k1, k2⟩ | ⟨tq, hE, hF, k1, k2⟩ | ⟨tq, hE, hF, k1, k2⟩ | ⟨tq, hE, hF, k1, k2⟩ | ⟨tq, hE, hF, k1, k2⟩ | ⟨tq, hE, hF, k1, k2⟩ | ⟨tq, hE, hF, k1, k2⟩ | ⟨tq, hE, hF, k1, k2⟩ | ⟨tq, hE, hF, k1, k2⟩ | ⟨tq, hE, hF, k1, k2⟩ | ⟨tq, hE, hF, k1, k2⟩ | ⟨tq, hE, hF, k1, k2⟩ | ⟨tq, hE, hF, k1, k2⟩ | ⟨tq, hE, hF, k1, k2⟩ | ⟨tq, hE, hF, k1, k2⟩ | ⟨tq, hE, hF, k1, k2⟩ | ⟨tq, hE, hF, k1, k2⟩ | ⟨tq, hE, hF, k1, ls', k2, k3⟩ | ⟨tq, hE, hF, k1, k2⟩ | ⟨tq, hE, hF, k1, k2⟩ | ⟨tq, hE, hF, k1, ls', k2, k3⟩ | ⟨tq, hE, hF, k1, k2⟩ | ⟨tq, hE, hF, k1, k2⟩ | ⟨tq, hE, hF, k1, k2⟩ | ⟨tq, hE, hF, k1, k2⟩
  · exact Or.inl ⟨pn (0 :: (hr tys_s157 [x, c, i] ++ (hr stys_s157 [] ++ tq))) 6, pn (0 :: (hr tys_s157 [x, c, i] ++ (hr stys_s157 [] ++ tq))) 8, pn (0 :: (hr tys_s157 [x, c, i] ++ (hr stys_s157 [] ++ tq))) 10, hE 6 (0, 5) rfl (by decide), hE 8 (2, 4) rfl (by decide), hE 10 (0, 4) rfl (by decide), hF.2.2.2.2.2.2.2.2.1, hF.2.2.2.2.2.2.2.1, hF.2.2.2.2.2.2.1, hF.2.2.2.2.2.1, hF.2.2.2.2.1, hF.2.2.2.1, hF.2.2.1, hF.2.1, hF.1, k1, ls', k2, k3⟩
  · exact Or.inr (Or.inl ⟨pn (0 :: (hr tys_s157 [x, c, i] ++ (hr stys_s157 [] ++ tq))) 6, pn (0 :: (hr tys_s157 [x, c, i] ++ (hr stys_s157 [] ++ tq))) 8, pn (0 :: (hr tys_s157 [x, c, i] ++ (hr stys_s157 [] ++ tq))) 10, pn (0 :: (hr tys_s157 [x, c, i] ++ (hr stys_s157 [] ++ tq))) 11, hE 6 (0, 5) rfl (by decide), hE 8 (3, 3) rfl (by decide), hE 10 (0, 4) rfl (by decide), hE 11 (0, 3) rfl (by decide), hF.2.2.2.2.2.2.2.2.2.1, hF.2.2.2.2.2.2.2.2.1, hF.2.2.2.2.2.2.2.1, hF.2.2.2.2.2.2.1, hF.2.2.2.2.2.1, hF.2.2.2.2.1, hF.2.2.2.1, hF.2.2.1, hF.2.1, hF.1, k1, ls', k2, k3⟩)
  · exact Or.inr (Or.inr (Or.inl ⟨pn (0 :: (hr tys_s157 [x, c, i] ++ (hr stys_s157 [] ++ tq))) 6, pn (0 :: (hr tys_s157 [x, c, i] ++ (hr stys_s157 [] ++ tq))) 8, pn (0 :: (hr tys_s157 [x, c, i] ++ (hr stys_s157 [] ++ tq))) 10, pn (0 :: (hr tys_s157 [x, c, i] ++ (hr stys_s157 [] ++ tq))) 11, hE 6 (0, 5) rfl (by decide), hE 8 (1, 1) rfl (by decide), hE 10 (0, 4) rfl (by decide), hE 11 (-3, 1) rfl (by decide), hF.2.2.2.2.2.2.2.2.1, hF.2.2.2.2.2.2.2.1, hF.2.2.2.2.2.2.1, hF.2.2.2.2.2.1, hF.2.2.2.2.1, hF.2.2.2.1, hF.2.2.1, hF.2.1, hF.1, k1, ls', k2, k3⟩))
  · exact Or.inr (Or.inr (Or.inr (Or.inl ⟨pn (0 :: (hr tys_s157 [x, c, i] ++ (hr stys_s157 [] ++ tq))) 6, pn (0 :: (hr tys_s157 [x, c, i] ++ (hr stys_s157 [] ++ tq))) 8, pn (0 :: (hr tys_s157 [x, c, i] ++ (hr stys_s157 [] ++ tq))) 10, pn (0 :: (hr tys_s157 [x, c, i] ++ (hr stys_s157 [] ++ tq))) 12, hE 6 (0, 5) rfl (by decide), hE 8 (0, 0) rfl (by decide), hE 10 (0, 4) rfl (by decide), hE 12 (-2147483648, 2147483647) rfl (by decide), hF.2.2.2.2.2.2.2.2.1, hF.2.2.2.2.2.2.2.1, hF.2.2.2.2.2.2.1, hF.2.2.2.2.2.1, hF.2.2.2.2.1, hF.2.2.2.1, hF.2.2.1, hF.2.1, hF.1⟩)))
  · exact Or.inr (Or.inr (Or.inr (Or.inr (Or.inl ⟨pn (0 :: (hr tys_s157 [x, c, i] ++ (hr stys_s157 [] ++ tq))) 6, pn (0 :: (hr tys_s157 [x, c, i] ++ (hr stys_s157 [] ++ tq))) 8, pn (0 :: (hr tys_s157 [x, c, i] ++ (hr stys_s157 [] ++ tq))) 10, pn (0 :: (hr tys_s157 [x, c, i] ++ (hr stys_s157 [] ++ tq))) 12, hE 6 (0, 5) rfl (by decide), hE 8 (0, 0) rfl (by decide), hE 10 (0, 4) rfl (by decide), hE 12 (-2147483648, 2147483647) rfl (by decide), hF.2.2.2.2.2.2.2.2.1, hF.2.2.2.2.2.2.2.1, hF.2.2.2.2.2.2.1, hF.2.2.2.2.2.1, hF.2.2.2.2.1, hF.2.2.2.1, hF.2.2.1, hF.2.1, hF.1⟩))))
  · exact Or.inr (Or.inr (Or.inr (Or.inr (Or.inr (Or.inl ⟨pn (0 :: (hr tys_s157 [x, c, i] ++ (hr stys_s157 [] ++ tq))) 6, pn (0 :: (hr tys_s157 [x, c, i] ++ (hr stys_s157 [] ++ tq))) 8, pn (0 :: (hr tys_s157 [x, c, i] ++ (hr stys_s157 [] ++ tq))) 10, pn (0 :: (hr tys_s157 [x, c, i] ++ (hr stys_s157 [] ++ tq))) 12, pn (0 :: (hr tys_s157 [x, c, i] ++ (hr stys_s157 [] ++ tq))) 13, hE 6 (0, 5) rfl (by decide), hE 8 (0, 0) rfl (by decide), hE 10 (0, 4) rfl (by decide), hE 12 (0, 31) rfl (by decide), hE 13 (0, 3) rfl (by decide), hF.2.2.2.2.2.2.2.2.1, hF.2.2.2.2.2.2.2.1, hF.2.2.2.2.2.2.1, hF.2.2.2.2.2.1, hF.2.2.2.2.1, hF.2.2.2.1, hF.2.2.1, hF.2.1, hF.1, k1, ls', k2, k3⟩)))))
  · exact Or.inr (Or.inr (Or.inr (Or.inr (Or.inr (Or.inr (Or.inl ⟨pn (0 :: (hr tys_s157 [x, c, i] ++ (hr stys_s157 [] ++ tq))) 6, pn (0 :: (hr tys_s157 [x, c, i] ++ (hr stys_s157 [] ++ tq))) 8, pn (0 :: (hr tys_s157 [x, c, i] ++ (hr stys_s157 [] ++ tq))) 10, pn (0 :: (hr tys_s157 [x, c, i] ++ (hr stys_s157 [] ++ tq))) 12, hE 6 (0, 5) rfl (by decide), hE 8 (5, 5) rfl (by decide), hE 10 (0, 4) rfl (by decide), hE 12 (0, 1) rfl (by decide), hF.2.2.2.2.2.2.2.2.2.2.2.2.2.2.2.1, hF.2.2.2.2.2.2.2.2.2.2.2.2.2.2.1, hF.2.2.2.2.2.2.2.2.2.2.2.2.2.1, hF.2.2.2.2.2.2.2.2.2.2.2.2.1, hF.2.2.2.2.2.2.2.2.2.2.2.1, hF.2.2.2.2.2.2.2.2.2.2.1, hF.2.2.2.2.2.2.2.2.2.1, hF.2.2.2.2.2.2.2.2.1, hF.2.2.2.2.2.2.2.1, hF.2.2.2.2.2.2.1, hF.2.2.2.2.2.1, hF.2.2.2.2.1, hF.2.2.2.1, hF.2.2.1, hF.2.1, hF.1, k1, k2⟩))))))
  · exact Or.inr (Or.inr (Or.inr (Or.inr (Or.inr (Or.inr (Or.inr (Or.inl ⟨pn (0 :: (hr tys_s157 [x, c, i] ++ (hr stys_s157 [] ++ tq))) 6, pn (0 :: (hr tys_s157 [x, c, i] ++ (hr stys_s157 [] ++ tq))) 8, pn (0 :: (hr tys_s157 [x, c, i] ++ (hr stys_s157 [] ++ tq))) 10, pn (0 :: (hr tys_s157 [x, c, i] ++ (hr stys_s157 [] ++ tq))) 12, hE 4 (0, 0) rfl (by decide), hE 6 (0, 5) rfl (by decide), hE 8 (5, 5) rfl (by decide), hE 10 (0, 4) rfl (by decide), hE 12 (0, 1) rfl (by decide), hF.2.2.2.2.2.2.2.1, hF.2.2.2.2.2.2.1, hF.2.2.2.2.2.1, hF.2.2.2.2.1, hF.2.2.2.1, hF.2.2.1, hF.2.1, hF.1, k1, k2⟩)))))))
  · exact Or.inr (Or.inr (Or.inr (Or.inr (Or.inr (Or.inr (Or.inr (Or.inr (Or.inl ⟨pn (0 :: (hr tys_s157 [x, c, i] ++ (hr stys_s157 [] ++ tq))) 6, pn (0 :: (hr tys_s157 [x, c, i] ++ (hr stys_s157 [] ++ tq))) 8, pn (0 :: (hr tys_s157 [x, c, i] ++ (hr stys_s157 [] ++ tq))) 10, pn (0 :: (hr tys_s157 [x, c, i] ++ (hr stys_s157 [] ++ tq))) 12, hE 4 (1, 1) rfl (by decide), hE 6 (0, 5) rfl (by decide), hE 8 (5, 5) rfl (by decide), hE 10 (0, 4) rfl (by decide), hE 12 (0, 1) rfl (by decide), hF.2.2.2.2.2.2.2.1, hF.2.2.2.2.2.2.1, hF.2.2.2.2.2.1, hF.2.2.2.2.1, hF.2.2.2.1, hF.2.2.1, hF.2.1, hF.1, k1, k2⟩))))))))
  · exact Or.inr (Or.inr (Or.inr (Or.inr (Or.inr (Or.inr (Or.inr (Or.inr (Or.inr (Or.inl ⟨pn (0 :: (hr tys_s157 [x, c, i] ++ (hr stys_s157 [] ++ tq))) 6, pn (0 :: (hr tys_s157 [x, c, i] ++ (hr stys_s157 [] ++ tq))) 8, pn (0 :: (hr tys_s157 [x, c, i] ++ (hr stys_s157 [] ++ tq))) 10, pn (0 :: (hr tys_s157 [x, c, i] ++ (hr stys_s157 [] ++ tq))) 12, hE 4 (2, 2) rfl (by decide), hE 6 (0, 5) rfl (by decide), hE 8 (5, 5) rfl (by decide), hE 10 (0, 4) rfl (by decide), hE 12 (0, 1) rfl (by decide), hF.2.2.2.2.2.2.2.1, hF.2.2.2.2.2.2.1, hF.2.2.2.2.2.1, hF.2.2.2.2.1, hF.2.2.2.1, hF.2.2.1, hF.2.1, hF.1, k1, k2⟩)))))))))
  · exact Or.inr (Or.inr (Or.inr (Or.inr (Or.inr (Or.inr (Or.inr (Or.inr (Or.inr (Or.inr (Or.inl ⟨pn (0 :: (hr tys_s157 [x, c, i] ++ (hr stys_s157 [] ++ tq))) 6, pn (0 :: (hr tys_s157 [x, c, i] ++ (hr stys_s157 [] ++ tq))) 8, pn (0 :: (hr tys_s157 [x, c, i] ++ (hr stys_s157 [] ++ tq))) 10, pn (0 :: (hr tys_s157 [x, c, i] ++ (hr stys_s157 [] ++ tq))) 12, hE 4 (3, 3) rfl (by decide), hE 6 (0, 5) rfl (by decide), hE 8 (5, 5) rfl (by decide), hE 10 (0, 4) rfl (by decide), hE 12 (0, 1) rfl (by decide), hF.2.2.2.2.2.2.2.1, hF.2.2.2.2.2.2.1, hF.2.2.2.2.2.1, hF.2.2.2.2.1, hF.2.2.2.1, hF.2.2.1, hF.2.1, hF.1, k1, k2⟩))))))))))
  · exact Or.inr (Or.inr (Or.inr (Or.inr (Or.inr (Or.inr (Or.inr (Or.inr (Or.inr (Or.inr (Or.inr (Or.inl ⟨pn (0 :: (hr tys_s157 [x, c, i] ++ (hr stys_s157 [] ++ tq))) 6, pn (0 :: (hr tys_s157 [x, c, i] ++ (hr stys_s157 [] ++ tq))) 8, pn (0 :: (hr tys_s157 [x, c, i] ++ (hr stys_s157 [] ++ tq))) 10, pn (0 :: (hr tys_s157 [x, c, i] ++ (hr stys_s157 [] ++ tq))) 12, hE 4 (4, 4) rfl (by decide), hE 6 (0, 5) rfl (by decide), hE 8 (5, 5) rfl (by decide), hE 10 (0, 4) rfl (by decide), hE 12 (0, 1) rfl (by decide), hF.2.2.2.2.2.2.2.1, hF.2.2.2.2.2.2.1, hF.2.2.2.2.2.1, hF.2.2.2.2.1, hF.2.2.2.1, hF.2.2.1, hF.2.1, hF.1, k1, k2⟩)))))))))))
  · exact Or.inr (Or.inr (Or.inr (Or.inr (Or.inr (Or.inr (Or.inr (Or.inr (Or.inr (Or.inr (Or.inr (Or.inr (Or.inl ⟨pn (0 :: (hr tys_s157 [x, c, i] ++ (hr stys_s157 [] ++ tq))) 6, pn (0 :: (hr tys_s157 [x, c, i] ++ (hr stys_s157 [] ++ tq))) 8, pn (0 :: (hr tys_s157 [x, c, i] ++ (hr stys_s157 [] ++ tq))) 10, pn (0 :: (hr tys_s157 [x, c, i] ++ (hr stys_s157 [] ++ tq))) 12, hE 4 (5, 5) rfl (by decide), hE 6 (0, 5) rfl (by decide), hE 8 (5, 5) rfl (by decide), hE 10 (0, 4) rfl (by decide), hE 12 (0, 1) rfl (by decide), hF.2.2.2.2.2.2.2.1, hF.2.2.2.2.2.2.1, hF.2.2.2.2.2.1, hF.2.2.2.2.1, hF.2.2.2.1, hF.2.2.1, hF.2.1, hF.1, k1, k2⟩))))))))))))
  · exact Or.inr (Or.inr (Or.inr (Or.inr (Or.inr (Or.inr (Or.inr (Or.inr (Or.inr (Or.inr (Or.inr (Or.inr (Or.inr (Or.inl ⟨pn (0 :: (hr tys_s157 [x, c, i] ++ (hr stys_s157 [] ++ tq))) 6, pn (0 :: (hr tys_s157 [x, c, i] ++ (hr stys_s157 [] ++ tq))) 8, pn (0 :: (hr tys_s157 [x, c, i] ++ (hr stys_s157 [] ++ tq))) 10, pn (0 :: (hr tys_s157 [x, c, i] ++ (hr stys_s157 [] ++ tq))) 12, hE 4 (6, 6) rfl (by decide), hE 6 (0, 5) rfl (by decide), hE 8 (5, 5) rfl (by decide), hE 10 (0, 4) rfl (by decide), hE 12 (0, 1) rfl (by decide), hF.2.2.2.2.2.2.2.1, hF.2.2.2.2.2.2.1, hF.2.2.2.2.2.1, hF.2.2.2.2.1, hF.2.2.2.1, hF.2.2.1, hF.2.1, hF.1, k1, k2⟩)))))))))))))
  · exact Or.inr (Or.inr (Or.inr (Or.inr (Or.inr (Or.inr (Or.inr (Or.inr (Or.inr (Or.inr (Or.inr (Or.inr (Or.inr (Or.inr (Or.inl ⟨pn (0 :: (hr tys_s157 [x, c, i] ++ (hr stys_s157 [] ++ tq))) 6, pn (0 :: (hr tys_s157 [x, c, i] ++ (hr stys_s157 [] ++ tq))) 8, pn (0 :: (hr tys_s157 [x, c, i] ++ (hr stys_s157 [] ++ tq))) 10, pn (0 :: (hr tys_s157 [x, c, i] ++ (hr stys_s157 [] ++ tq))) 12, hE 4 (7, 7) rfl (by decide), hE 6 (0, 5) rfl (by decide), hE 8 (5, 5) rfl (by decide), hE 10 (0, 4) rfl (by decide), hE 12 (0, 1) rfl (by decide), hF.2.2.2.2.2.2.2.1, hF.2.2.2.2.2.2.1, hF.2.2.2.2.2.1, hF.2.2.2.2.1, hF.2.2.2.1, hF.2.2.1, hF.2.1, hF.1, k1, k2⟩))))))))))))))
  · exact Or.inr (Or.inr (Or.inr (Or.inr (Or.inr (Or.inr (Or.inr (Or.inr (Or.inr (Or.inr (Or.inr (Or.inr (Or.inr (Or.inr (Or.inr (Or.inl ⟨pn (0 :: (hr tys_s157 [x, c, i] ++ (hr stys_s157 [] ++ tq))) 6, pn (0 :: (hr tys_s157 [x, c, i] ++ (hr stys_s157 [] ++ tq))) 8, pn (0 :: (hr tys_s157 [x, c, i] ++ (hr stys_s157 [] ++ tq))) 10, pn (0 :: (hr tys_s157 [x, c, i] ++ (hr stys_s157 [] ++ tq))) 12, hE 4 (6, 6) rfl (by decide), hE 6 (0, 5) rfl (by decide), hE 8 (5, 5) rfl (by decide), hE 10 (0, 4) rfl (by decide), hE 12 (2, 2) rfl (by decide), hF.2.2.2.2.2.2.2.2.2.2.2.2.2.2.2.2.1, hF.2.2.2.2.2.2.2.2.2.2.2.2.2.2.2.1, hF.2.2.2.2.2.2.2.2.2.2.2.2.2.2.1, hF.2.2.2.2.2.2.2.2.2.2.2.2.2.1, hF.2.2.2.2.2.2.2.2.2.2.2.2.1, hF.2.2.2.2.2.2.2.2.2.2.2.1, hF.2.2.2.2.2.2.2.2.2.2.1, hF.2.2.2.2.2.2.2.2.2.1, hF.2.2.2.2.2.2.2.2.1, hF.2.2.2.2.2.2.2.1, hF.2.2.2.2.2.2.1, hF.2.2.2.2.2.1, hF.2.2.2.2.1, hF.2.2.2.1, hF.2.2.1, hF.2.1, hF.1, k1, k2⟩)))))))))))))))
  · exact Or.inr (Or.inr (Or.inr (Or.inr (Or.inr (Or.inr (Or.inr (Or.inr (Or.inr (Or.inr (Or.inr (Or.inr (Or.inr (Or.inr (Or.inr (Or.inr (Or.inl ⟨pn (0 :: (hr tys_s157 [x, c, i] ++ (hr stys_s157 [] ++ tq))) 6, pn (0 :: (hr tys_s157 [x, c, i] ++ (hr stys_s157 [] ++ tq))) 8, pn (0 :: (hr tys_s157 [x, c, i] ++ (hr stys_s157 [] ++ tq))) 10, pn (0 :: (hr tys_s157 [x, c, i] ++ (hr stys_s157 [] ++ tq))) 12, hE 4 (6, 6) rfl (by decide), hE 6 (0, 5) rfl (by decide), hE 8 (5, 5) rfl (by decide), hE 10 (0, 4) rfl (by decide), hE 12 (2, 2) rfl (by decide), hF.2.2.2.2.2.2.2.2.1, hF.2.2.2.2.2.2.2.1, hF.2.2.2.2.2.2.1, hF.2.2.2.2.2.1, hF.2.2.2.2.1, hF.2.2.2.1, hF.2.2.1, hF.2.1, hF.1, k1, k2⟩))))))))))))))))
  · exact Or.inr (Or.inr (Or.inr (Or.inr (Or.inr (Or.inr (Or.inr (Or.inr (Or.inr (Or.inr (Or.inr (Or.inr (Or.inr (Or.inr (Or.inr (Or.inr (Or.inr (Or.inl ⟨pn (0 :: (hr tys_s157 [x, c, i] ++ (hr stys_s157 [] ++ tq))) 6, pn (0 :: (hr tys_s157 [x, c, i] ++ (hr stys_s157 [] ++ tq))) 8, pn (0 :: (hr tys_s157 [x, c, i] ++ (hr stys_s157 [] ++ tq))) 10, pn (0 :: (hr tys_s157 [x, c, i] ++ (hr stys_s157 [] ++ tq))) 12, hE 6 (0, 5) rfl (by decide), hE 8 (5, 5) rfl (by decide), hE 10 (0, 4) rfl (by decide), hE 12 (2, 2) rfl (by decide), hF.2.2.2.2.2.2.2.2.2.2.2.2.2.2.2.2.2.1, hF.2.2.2.2.2.2.2.2.2.2.2.2.2.2.2.2.1, hF.2.2.2.2.2.2.2.2.2.2.2.2.2.2.2.1, hF.2.2.2.2.2.2.2.2.2.2.2.2.2.2.1, hF.2.2.2.2.2.2.2.2.2.2.2.2.2.1, hF.2.2.2.2.2.2.2.2.2.2.2.2.1, hF.2.2.2.2.2.2.2.2.2.2.2.1, hF.2.2.2.2.2.2.2.2.2.2.1, hF.2.2.2.2.2.2.2.2.2.1, hF.2.2.2.2.2.2.2.2.1, hF.2.2.2.2.2.2.2.1, hF.2.2.2.2.2.2.1, hF.2.2.2.2.2.1, hF.2.2.2.2.1, hF.2.2.2.1, hF.2.2.1, hF.2.1, hF.1, k1, k2⟩)))))))))))))))))
  · exact Or.inr (Or.inr (Or.inr (Or.inr (Or.inr (Or.inr (Or.inr (Or.inr (Or.inr (Or.inr (Or.inr (Or.inr (Or.inr (Or.inr (Or.inr (Or.inr (Or.inr (Or.inr (Or.inl ⟨pn (0 :: (hr tys_s157 [x, c, i] ++ (hr stys_s157 [] ++ tq))) 6, pn (0 :: (hr tys_s157 [x, c, i] ++ (hr stys_s157 [] ++ tq))) 8, pn (0 :: (hr tys_s157 [x, c, i] ++ (hr stys_s157 [] ++ tq))) 10, pn (0 :: (hr tys_s157 [x, c, i] ++ (hr stys_s157 [] ++ tq))) 12, hE 4 (0, 0) rfl (by decide), hE 6 (0, 5) rfl (by decide), hE 8 (5, 5) rfl (by decide), hE 10 (0, 4) rfl (by decide), hE 12 (2, 2) rfl (by decide), hF.2.2.2.2.2.2.2.2.2.1, hF.2.2.2.2.2.2.2.2.1, hF.2.2.2.2.2.2.2.1, hF.2.2.2.2.2.2.1, hF.2.2.2.2.2.1, hF.2.2.2.2.1, hF.2.2.2.1, hF.2.2.1, hF.2.1, hF.1, k1, k2⟩))))))))))))))))))
  · exact Or.inr (Or.inr (Or.inr (Or.inr (Or.inr (Or.inr (Or.inr (Or.inr (Or.inr (Or.inr (Or.inr (Or.inr (Or.inr (Or.inr (Or.inr (Or.inr (Or.inr (Or.inr (Or.inr (Or.inl ⟨pn (0 :: (hr tys_s157 [x, c, i] ++ (hr stys_s157 [] ++ tq))) 6, pn (0 :: (hr tys_s157 [x, c, i] ++ (hr stys_s157 [] ++ tq))) 8, pn (0 :: (hr tys_s157 [x, c, i] ++ (hr stys_s157 [] ++ tq))) 10, pn (0 :: (hr tys_s157 [x, c, i] ++ (hr stys_s157 [] ++ tq))) 12, hE 4 (1, 1) rfl (by decide), hE 6 (0, 5) rfl (by decide), hE 8 (5, 5) rfl (by decide), hE 10 (0, 4) rfl (by decide), hE 12 (2, 2) rfl (by decide), hF.2.2.2.2.2.2.2.2.2.1, hF.2.2.2.2.2.2.2.2.1, hF.2.2.2.2.2.2.2.1, hF.2.2.2.2.2.2.1, hF.2.2.2.2.2.1, hF.2.2.2.2.1, hF.2.2.2.1, hF.2.2.1, hF.2.1, hF.1, k1, k2⟩)))))))))))))))))))
  · exact Or.inr (Or.inr (Or.inr (Or.inr (Or.inr (Or.inr (Or.inr (Or.inr (Or.inr (Or.inr (Or.inr (Or.inr (Or.inr (Or.inr (Or.inr (Or.inr (Or.inr (Or.inr (Or.inr (Or.inr (Or.inl ⟨pn (0 :: (hr tys_s157 [x, c, i] ++ (hr stys_s157 [] ++ tq))) 6, pn (0 :: (hr tys_s157 [x, c, i] ++ (hr stys_s157 [] ++ tq))) 8, pn (0 :: (hr tys_s157 [x, c, i] ++ (hr stys_s157 [] ++ tq))) 10, pn (0 :: (hr tys_s157 [x, c, i] ++ (hr stys_s157 [] ++ tq))) 12, hE 4 (2, 2) rfl (by decide), hE 6 (0, 5) rfl (by decide), hE 8 (5, 5) rfl (by decide), hE 10 (0, 4) rfl (by decide), hE 12 (2, 2) rfl (by decide), hF.2.2.2.2.2.2.2.2.2.1, hF.2.2.2.2.2.2.2.2.1, hF.2.2.2.2.2.2.2.1, hF.2.2.2.2.2.2.1, hF.2.2.2.2.2.1, hF.2.2.2.2.1, hF.2.2.2.1, hF.2.2.1, hF.2.1, hF.1, k1, k2⟩))))))))))))))))))))
  · exact Or.inr (Or.inr (Or.inr (Or.inr (Or.inr (Or.inr (Or.inr (Or.inr (Or.inr (Or.inr (Or.inr (Or.inr (Or.inr (Or.inr (Or.inr (Or.inr (Or.inr (Or.inr (Or.inr (Or.inr (Or.inr (Or.inl ⟨pn (0 :: (hr tys_s157 [x, c, i] ++ (hr stys_s157 [] ++ tq))) 6, pn (0 :: (hr tys_s157 [x, c, i] ++ (hr stys_s157 [] ++ tq))) 8, pn (0 :: (hr tys_s157 [x, c, i] ++ (hr stys_s157 [] ++ tq))) 10, pn (0 :: (hr tys_s157 [x, c, i] ++ (hr stys_s157 [] ++ tq))) 12, hE 4 (3, 3) rfl (by decide), hE 6 (0, 5) rfl (by decide), hE 8 (5, 5) rfl (by decide), hE 10 (0, 4) rfl (by decide), hE 12 (2, 2) rfl (by decide), hF.2.2.2.2.2.2.2.2.2.1, hF.2.2.2.2.2.2.2.2.1, hF.2.2.2.2.2.2.2.1, hF.2.2.2.2.2.2.1, hF.2.2.2.2.2.1, hF.2.2.2.2.1, hF.2.2.2.1, hF.2.2.1, hF.2.1, hF.1, k1, k2⟩)))))))))))))))))))))
  · exact Or.inr (Or.inr (Or.inr (Or.inr (Or.inr (Or.inr (Or.inr (Or.inr (Or.inr (Or.inr (Or.inr (Or.inr (Or.inr (Or.inr (Or.inr (Or.inr (Or.inr (Or.inr (Or.inr (Or.inr (Or.inr (Or.inr (Or.inl ⟨pn (0 :: (hr tys_s157 [x, c, i] ++ (hr stys_s157 [] ++ tq))) 6, pn (0 :: (hr tys_s157 [x, c, i] ++ (hr stys_s157 [] ++ tq))) 8, pn (0 :: (hr tys_s157 [x, c, i] ++ (hr stys_s157 [] ++ tq))) 10, pn (0 :: (hr tys_s157 [x, c, i] ++ (hr stys_s157 [] ++ tq))) 12, hE 4 (4, 4) rfl (by decide), hE 6 (0, 5) rfl (by decide), hE 8 (5, 5) rfl (by decide), hE 10 (0, 4) rfl (by decide), hE 12 (2, 2) rfl (by decide), hF.2.2.2.2.2.2.2.2.2.1, hF.2.2.2.2.2.2.2.2.1, hF.2.2.2.2.2.2.2.1, hF.2.2.2.2.2.2.1, hF.2.2.2.2.2.1, hF.2.2.2.2.1, hF.2.2.2.1, hF.2.2.1, hF.2.1, hF.1, k1, k2⟩))))))))))))))))))))))
  · exact Or.inr (Or.inr (Or.inr (Or.inr (Or.inr (Or.inr (Or.inr (Or.inr (Or.inr (Or.inr (Or.inr (Or.inr (Or.inr (Or.inr (Or.inr (Or.inr (Or.inr (Or.inr (Or.inr (Or.inr (Or.inr (Or.inr (Or.inr (Or.inl ⟨pn (0 :: (hr tys_s157 [x, c, i] ++ (hr stys_s157 [] ++ tq))) 6, pn (0 :: (hr tys_s157 [x, c, i] ++ (hr stys_s157 [] ++ tq))) 8, pn (0 :: (hr tys_s157 [x, c, i] ++ (hr stys_s157 [] ++ tq))) 10, pn (0 :: (hr tys_s157 [x, c, i] ++ (hr stys_s157 [] ++ tq))) 12, hE 4 (5, 5) rfl (by decide), hE 6 (0, 5) rfl (by decide), hE 8 (5, 5) rfl (by decide), hE 10 (0, 4) rfl (by decide), hE 12 (2, 2) rfl (by decide), hF.2.2.2.2.2.2.2.2.2.1, hF.2.2.2.2.2.2.2.2.1, hF.2.2.2.2.2.2.2.1, hF.2.2.2.2.2.2.1, hF.2.2.2.2.2.1, hF.2.2.2.2.1, hF.2.2.2.1, hF.2.2.1, hF.2.1, hF.1, k1, k2⟩)))))))))))))))))))))))
  · exact Or.inr (Or.inr (Or.inr (Or.inr (Or.inr (Or.inr (Or.inr (Or.inr (Or.inr (Or.inr (Or.inr (Or.inr (Or.inr (Or.inr (Or.inr (Or.inr (Or.inr (Or.inr (Or.inr (Or.inr (Or.inr (Or.inr (Or.inr (Or.inr (Or.inl ⟨pn (0 :: (hr tys_s157 [x, c, i] ++ (hr stys_s157 [] ++ tq))) 6, pn (0 :: (hr tys_s157 [x, c, i] ++ (hr stys_s157 [] ++ tq))) 8, pn (0 :: (hr tys_s157 [x, c, i] ++ (hr stys_s157 [] ++ tq))) 10, pn (0 :: (hr tys_s157 [x, c, i] ++ (hr stys_s157 [] ++ tq))) 12, hE 4 (6, 6) rfl (by decide), hE 6 (0, 5) rfl (by decide), hE 8 (5, 5) rfl (by decide), hE 10 (0, 4) rfl (by decide), hE 12 (2, 2) rfl (by decide), hF.2.2.2.2.2.2.2.2.2.1, hF.2.2.2.2.2.2.2.2.1, hF.2.2.2.2.2.2.2.1, hF.2.2.2.2.2.2.1, hF.2.2.2.2.2.1, hF.2.2.2.2.1, hF.2.2.2.1, hF.2.2.1, hF.2.1, hF.1, k1, k2⟩))))))))))))))))))))))))
  · exact Or.inr (Or.inr (Or.inr (Or.inr (Or.inr (Or.inr (Or.inr (Or.inr (Or.inr (Or.inr (Or.inr (Or.inr (Or.inr (Or.inr (Or.inr (Or.inr (Or.inr (Or.inr (Or.inr (Or.inr (Or.inr (Or.inr (Or.inr (Or.inr (Or.inr (Or.inl ⟨pn (0 :: (hr tys_s157 [x, c, i] ++ (hr stys_s157 [] ++ tq))) 6, pn (0 :: (hr tys_s157 [x, c, i] ++ (hr stys_s157 [] ++ tq))) 8, pn (0 :: (hr tys_s157 [x, c, i] ++ (hr stys_s157 [] ++ tq))) 10, pn (0 :: (hr tys_s157 [x, c, i] ++ (hr stys_s157 [] ++ tq))) 12, hE 4 (7, 7) rfl (by decide), hE 6 (0, 5) rfl (by decide), hE 8 (5, 5) rfl (by decide), hE 10 (0, 4) rfl (by decide), hE 12 (2, 2) rfl (by decide), hF.2.2.2.2.2.2.2.2.2.1, hF.2.2.2.2.2.2.2.2.1, hF.2.2.2.2.2.2.2.1, hF.2.2.2.2.2.2.1, hF.2.2.2.2.2.1, hF.2.2.2.2.1, hF.2.2.2.1, hF.2.2.1, hF.2.1, hF.1, k1, k2⟩)))))))))))))))))))))))))
  · exact Or.inr (Or.inr (Or.inr (Or.inr (Or.inr (Or.inr (Or.inr (Or.inr (Or.inr (Or.inr (Or.inr (Or.inr (Or.inr (Or.inr (Or.inr (Or.inr (Or.inr (Or.inr (Or.inr (Or.inr (Or.inr (Or.inr (Or.inr (Or.inr (Or.inr (Or.inr (Or.inl ⟨pn (0 :: (hr tys_s157 [x, c, i] ++ (hr stys_s157 [] ++ tq))) 6, pn (0 :: (hr tys_s157 [x, c, i] ++ (hr stys_s157 [] ++ tq))) 8, pn (0 :: (hr tys_s157 [x, c, i] ++ (hr stys_s157 [] ++ tq))) 10, pn (0 :: (hr tys_s157 [x, c, i] ++ (hr stys_s157 [] ++ tq))) 12, hE 4 (7, 7) rfl (by decide), hE 6 (0, 5) rfl (by decide), hE 8 (5, 5) rfl (by decide), hE 10 (0, 4) rfl (by decide), hE 12 (2, 2) rfl (by decide), hF.2.2.2.2.2.2.2.2.2.2.2.2.2.2.2.2.2.1, hF.2.2.2.2.2.2.2.2.2.2.2.2.2.2.2.2.1, hF.2.2.2.2.2.2.2.2.2.2.2.2.2.2.2.1, hF.2.2.2.2.2.2.2.2.2.2.2.2.2.2.1, hF.2.2.2.2.2.2.2.2.2.2.2.2.2.1, hF.2.2.2.2.2.2.2.2.2.2.2.2.1, hF.2.2.2.2.2.2.2.2.2.2.2.1, hF.2.2.2.2.2.2.2.2.2.2.1, hF.2.2.2.2.2.2.2.2.2.1, hF.2.2.2.2.2.2.2.2.1, hF.2.2.2.2.2.2.2.1, hF.2.2.2.2.2.2.1, hF.2.2.2.2.2.1, hF.2.2.2.2.1, hF.2.2.2.1, hF.2.2.1, hF.2.1, hF.1, k1, k2⟩))))))))))))))))))))))))))
  · exact Or.inr (Or.inr (Or.inr (Or.inr (Or.inr (Or.inr (Or.inr (Or.inr (Or.inr (Or.inr (Or.inr (Or.inr (Or.inr (Or.inr (Or.inr (Or.inr (Or.inr (Or.inr (Or.inr (Or.inr (Or.inr (Or.inr (Or.inr (Or.inr (Or.inr (Or.inr (Or.inr (Or.inl ⟨pn (0 :: (hr tys_s157 [x, c, i] ++ (hr stys_s157 [] ++ tq))) 6, pn (0 :: (hr tys_s157 [x, c, i] ++ (hr stys_s157 [] ++ tq))) 8, pn (0 :: (hr tys_s157 [x, c, i] ++ (hr stys_s157 [] ++ tq))) 10, pn (0 :: (hr tys_s157 [x, c, i] ++ (hr stys_s157 [] ++ tq))) 12, hE 4 (7, 7) rfl (by decide), hE 6 (0, 5) rfl (by decide), hE 8 (5, 5) rfl (by decide), hE 10 (0, 4) rfl (by decide), hE 12 (2, 2) rfl (by decide), hF.2.2.2.2.2.2.2.2.2.1, hF.2.2.2.2.2.2.2.2.1, hF.2.2.2.2.2.2.2.1, hF.2.2.2.2.2.2.1, hF.2.2.2.2.2.1, hF.2.2.2.2.1, hF.2.2.2.1, hF.2.2.1, hF.2.1, hF.1, k1, k2⟩)))))))))))))))))))))))))))
  · exact Or.inr (Or.inr (Or.inr (Or.inr (Or.inr (Or.inr (Or.inr (Or.inr (Or.inr (Or.inr (Or.inr (Or.inr (Or.inr (Or.inr (Or.inr (Or.inr (Or.inr (Or.inr (Or.inr (Or.inr (Or.inr (Or.inr (Or.inr (Or.inr (Or.inr (Or.inr (Or.inr (Or.inr (Or.inl ⟨pn (0 :: (hr tys_s157 [x, c, i] ++ (hr stys_s157 [] ++ tq))) 6, pn (0 :: (hr tys_s157 [x, c, i] ++ (hr stys_s157 [] ++ tq))) 8, pn (0 :: (hr tys_s157 [x, c, i] ++ (hr stys_s157 [] ++ tq))) 10, hE 6 (0, 5) rfl (by decide), hE 8 (4, 4) rfl (by decide), hE 10 (1, 1) rfl (by decide), hF.2.2.2.2.2.2.1, hF.2.2.2.2.2.1, hF.2.2.2.2.1, hF.2.2.2.1, hF.2.2.1, hF.2.1, hF.1, k1, k2⟩))))))))))))))))))))))))))))
  · exact Or.inr (Or.inr (Or.inr (Or.inr (Or.inr (Or.inr (Or.inr (Or.inr (Or.inr (Or.inr (Or.inr (Or.inr (Or.inr (Or.inr (Or.inr (Or.inr (Or.inr (Or.inr (Or.inr (Or.inr (Or.inr (Or.inr (Or.inr (Or.inr (Or.inr (Or.inr (Or.inr (Or.inr (Or.inr (Or.inl ⟨pn (0 :: (hr tys_s157 [x, c, i] ++ (hr stys_s157 [] ++ tq))) 6, pn (0 :: (hr tys_s157 [x, c, i] ++ (hr stys_s157 [] ++ tq))) 8, pn (0 :: (hr tys_s157 [x, c, i] ++ (hr stys_s157 [] ++ tq))) 10, hE 4 (0, 0) rfl (by decide), hE 6 (0, 5) rfl (by decide), hE 8 (4, 4) rfl (by decide), hE 10 (1, 1) rfl (by decide), hF.2.2.2.2.2.2.1, hF.2.2.2.2.2.1, hF.2.2.2.2.1, hF.2.2.2.1, hF.2.2.1, hF.2.1, hF.1, k1, k2⟩)))))))))))))))))))))))))))))
  · exact Or.inr (Or.inr (Or.inr (Or.inr (Or.inr (Or.inr (Or.inr (Or.inr (Or.inr (Or.inr (Or.inr (Or.inr (Or.inr (Or.inr (Or.inr (Or.inr (Or.inr (Or.inr (Or.inr (Or.inr (Or.inr (Or.inr (Or.inr (Or.inr (Or.inr (Or.inr (Or.inr (Or.inr (Or.inr (Or.inr (Or.inl ⟨pn (0 :: (hr tys_s157 [x, c, i] ++ (hr stys_s157 [] ++ tq))) 6, pn (0 :: (hr tys_s157 [x, c, i] ++ (hr stys_s157 [] ++ tq))) 8, pn (0 :: (hr tys_s157 [x, c, i] ++ (hr stys_s157 [] ++ tq))) 10, hE 6 (0, 5) rfl (by decide), hE 8 (4, 4) rfl (by decide), hE 10 (0, 4) rfl (by decide), hF.2.2.2.2.2.2.2.2.2.2.1, hF.2.2.2.2.2.2.2.2.2.1, hF.2.2.2.2.2.2.2.2.1, hF.2.2.2.2.2.2.2.1, hF.2.2.2.2.2.2.1, hF.2.2.2.2.2.1, hF.2.2.2.2.1, hF.2.2.2.1, hF.2.2.1, hF.2.1, hF.1, k1, ls', k2, k3⟩))))))))))))))))))))))))))))))
  · exact Or.inr (Or.inr (Or.inr (Or.inr (Or.inr (Or.inr (Or.inr (Or.inr (Or.inr (Or.inr (Or.inr (Or.inr (Or.inr (Or.inr (Or.inr (Or.inr (Or.inr (Or.inr (Or.inr (Or.inr (Or.inr (Or.inr (Or.inr (Or.inr (Or.inr (Or.inr (Or.inr (Or.inr (Or.inr (Or.inr (Or.inr (Or.inl ⟨pn (0 :: (hr tys_s157 [x, c, i] ++ (hr stys_s157 [] ++ tq))) 6, pn (0 :: (hr tys_s157 [x, c, i] ++ (hr stys_s157 [] ++ tq))) 8, pn (0 :: (hr tys_s157 [x, c, i] ++ (hr stys_s157 [] ++ tq))) 10, hE 6 (0, 5) rfl (by decide), hE 8 (4, 4) rfl (by decide), hE 10 (3, 3) rfl (by decide), hF.2.2.2.2.2.2.2.1, hF.2.2.2.2.2.2.1, hF.2.2.2.2.2.1, hF.2.2.2.2.1, hF.2.2.2.1, hF.2.2.1, hF.2.1, hF.1, k1, k2⟩)))))))))))))))))))))))))))))))
  · exact Or.inr (Or.inr (Or.inr (Or.inr (Or.inr (Or.inr (Or.inr (Or.inr (Or.inr (Or.inr (Or.inr (Or.inr (Or.inr (Or.inr (Or.inr (Or.inr (Or.inr (Or.inr (Or.inr (Or.inr (Or.inr (Or.inr (Or.inr (Or.inr (Or.inr (Or.inr (Or.inr (Or.inr (Or.inr (Or.inr (Or.inr (Or.inr (Or.inl ⟨pn (0 :: (hr tys_s157 [x, c, i] ++ (hr stys_s157 [] ++ tq))) 6, pn (0 :: (hr tys_s157 [x, c, i] ++ (hr stys_s157 [] ++ tq))) 8, pn (0 :: (hr tys_s157 [x, c, i] ++ (hr stys_s157 [] ++ tq))) 10, hE 4 (0, 0) rfl (by decide), hE 6 (0, 5) rfl (by decide), hE 8 (4, 4) rfl (by decide), hE 10 (3, 3) rfl (by decide), hF.2.2.2.2.2.2.2.1, hF.2.2.2.2.2.2.1, hF.2.2.2.2.2.1, hF.2.2.2.2.1, hF.2.2.2.1, hF.2.2.1, hF.2.1, hF.1, k1, k2⟩))))))))))))))))))))))))))))))))
  · exact Or.inr (Or.inr (Or.inr (Or.inr (Or.inr (Or.inr (Or.inr (Or.inr (Or.inr (Or.inr (Or.inr (Or.inr (Or.inr (Or.inr (Or.inr (Or.inr (Or.inr (Or.inr (Or.inr (Or.inr (Or.inr (Or.inr (Or.inr (Or.inr (Or.inr (Or.inr (Or.inr (Or.inr (Or.inr (Or.inr (Or.inr (Or.inr (Or.inr (Or.inl ⟨pn (0 :: (hr tys_s157 [x, c, i] ++ (hr stys_s157 [] ++ tq))) 6, pn (0 :: (hr tys_s157 [x, c, i] ++ (hr stys_s157 [] ++ tq))) 8, pn (0 :: (hr tys_s157 [x, c, i] ++ (hr stys_s157 [] ++ tq))) 10, pn (0 :: (hr tys_s157 [x, c, i] ++ (hr stys_s157 [] ++ tq))) 11, hE 6 (0, 5) rfl (by decide), hE 8 (3, 3) rfl (by decide), hE 10 (0, 4) rfl (by decide), hE 11 (0, 3) rfl (by decide), hF.2.2.2.2.2.2.2.2.2.2.1, hF.2.2.2.2.2.2.2.2.2.1, hF.2.2.2.2.2.2.2.2.1, hF.2.2.2.2.2.2.2.1, hF.2.2.2.2.2.2.1, hF.2.2.2.2.2.1, hF.2.2.2.2.1, hF.2.2.2.1, hF.2.2.1, hF.2.1, hF.1, k1, ls', k2, k3⟩)))))))))))))))))))))))))))))))))
  · exact Or.inr (Or.inr (Or.inr (Or.inr (Or.inr (Or.inr (Or.inr (Or.inr (Or.inr (Or.inr (Or.inr (Or.inr (Or.inr (Or.inr (Or.inr (Or.inr (Or.inr (Or.inr (Or.inr (Or.inr (Or.inr (Or.inr (Or.inr (Or.inr (Or.inr (Or.inr (Or.inr (Or.inr (Or.inr (Or.inr (Or.inr (Or.inr (Or.inr (Or.inr (Or.inl ⟨pn (0 :: (hr tys_s157 [x, c, i] ++ (hr stys_s157 [] ++ tq))) 6, pn (0 :: (hr tys_s157 [x, c, i] ++ (hr stys_s157 [] ++ tq))) 8, pn (0 :: (hr tys_s157 [x, c, i] ++ (hr stys_s157 [] ++ tq))) 10, hE 4 (9, 20) rfl (by decide), hE 6 (0, 5) rfl (by decide), hE 8 (3, 3) rfl (by decide), hE 10 (1, 1) rfl (by decide), hF.2.2.2.2.2.2.2.1, hF.2.2.2.2.2.2.1, hF.2.2.2.2.2.1, hF.2.2.2.2.1, hF.2.2.2.1, hF.2.2.1, hF.2.1, hF.1, k1, k2⟩))))))))))))))))))))))))))))))))))
  · exact Or.inr (Or.inr (Or.inr (Or.inr (Or.inr (Or.inr (Or.inr (Or.inr (Or.inr (Or.inr (Or.inr (Or.inr (Or.inr (Or.inr (Or.inr (Or.inr (Or.inr (Or.inr (Or.inr (Or.inr (Or.inr (Or.inr (Or.inr (Or.inr (Or.inr (Or.inr (Or.inr (Or.inr (Or.inr (Or.inr (Or.inr (Or.inr (Or.inr (Or.inr (Or.inr (Or.inl ⟨pn (0 :: (hr tys_s157 [x, c, i] ++ (hr stys_s157 [] ++ tq))) 6, pn (0 :: (hr tys_s157 [x, c, i] ++ (hr stys_s157 [] ++ tq))) 8, pn (0 :: (hr tys_s157 [x, c, i] ++ (hr stys_s157 [] ++ tq))) 10, hE 4 (5, 8) rfl (by decide), hE 6 (0, 5) rfl (by decide), hE 8 (3, 3) rfl (by decide), hE 10 (1, 1) rfl (by decide), hF.2.2.2.2.2.2.2.1, hF.2.2.2.2.2.2.1, hF.2.2.2.2.2.1, hF.2.2.2.2.1, hF.2.2.2.1, hF.2.2.1, hF.2.1, hF.1, k1, k2⟩)))))))))))))))))))))))))))))))))))
  · exact Or.inr (Or.inr (Or.inr (Or.inr (Or.inr (Or.inr (Or.inr (Or.inr (Or.inr (Or.inr (Or.inr (Or.inr (Or.inr (Or.inr (Or.inr (Or.inr (Or.inr (Or.inr (Or.inr (Or.inr (Or.inr (Or.inr (Or.inr (Or.inr (Or.inr (Or.inr (Or.inr (Or.inr (Or.inr (Or.inr (Or.inr (Or.inr (Or.inr (Or.inr (Or.inr (Or.inr (Or.inl ⟨pn (0 :: (hr tys_s157 [x, c, i] ++ (hr stys_s157 [] ++ tq))) 6, pn (0 :: (hr tys_s157 [x, c, i] ++ (hr stys_s157 [] ++ tq))) 8, pn (0 :: (hr tys_s157 [x, c, i] ++ (hr stys_s157 [] ++ tq))) 10, hE 4 (4, 4) rfl (by decide), hE 6 (0, 5) rfl (by decide), hE 8 (3, 3) rfl (by decide), hE 10 (1, 1) rfl (by decide), hF.2.2.2.2.2.2.1, hF.2.2.2.2.2.1, hF.2.2.2.2.1, hF.2.2.2.1, hF.2.2.1, hF.2.1, hF.1, k1, k2⟩))))))))))))))))))))))))))))))))))))
  · exact Or.inr (Or.inr (Or.inr (Or.inr (Or.inr (Or.inr (Or.inr (Or.inr (Or.inr (Or.inr (Or.inr (Or.inr (Or.inr (Or.inr (Or.inr (Or.inr (Or.inr (Or.inr (Or.inr (Or.inr (Or.inr (Or.inr (Or.inr (Or.inr (Or.inr (Or.inr (Or.inr (Or.inr (Or.inr (Or.inr (Or.inr (Or.inr (Or.inr (Or.inr (Or.inr (Or.inr (Or.inr ⟨pn (0 :: (hr tys_s157 [x, c, i] ++ (hr stys_s157 [] ++ tq))) 6, pn (0 :: (hr tys_s157 [x, c, i] ++ (hr stys_s157 [] ++ tq))) 8, pn (0 :: (hr tys_s157 [x, c, i] ++ (hr stys_s157 [] ++ tq))) 10, hE 4 (-1, 3) rfl (by decide), hE 6 (0, 5) rfl (by decide), hE 8 (3, 3) rfl (by decide), hE 10 (1, 1) rfl (by decide), hF.2.2.2.2.2.1, hF.2.2.2.2.1, hF.2.2.2.1, hF.2.2.1, hF.2.1, hF.1, k1, k2⟩))))))))))))))))))))))))))))))))))))
def tys_s157b : List TY := [(2, 31, 0), (1, 0, 39), (1, 0, 4), (1, -1, 20), (1, 0, 5), (1, 0, 5), (1, 0, 4), (1, -3, 4), (0, 0, 0)]
def stys_s157b : List TY := []
theorem chk_s157b : sg_check ([], [], []) 157 253 tys_s157b stys_s157b [(2, (0, 0, 0, 0), (([(2, 1, 31), (1, 2, 0), (1, 3, 0), (1, 4, 0), (1, 5, 0), (1, 6, 0), (1, 7, 0), (1, 8, 0), (1, 4, 0)], [(1, 0, 0)], [(0, 0), (1, 0), (0, 39), (0, 4), (-1, 20), (0, 5), (1, 5), (0, 4), (-3, 4), (1, 0), (0, 1)], [(1, 31, 3, (2, 9, 34))]), [(1, 0, (1, 4, 0), (1, 0, 3), 0), (1, 0, (1, 4, 0), (1, 0, 2), 0), (1, 0, (1, 4, 0), (1, 0, 1), 0), (1, 0, (1, 4, 0), (1, 0, 0), 0), (1, 0, (1, 10, 0), (1, 0, 2), 0), (9, 34, (1, 5, 0), (1, 10, 0), 0), (1, 0, (1, 6, 0), (1, 0, 0), 0)], [])),
 (2, (0, 0, 0, 0), (([(2, 1, 31), (1, 2, 0), (1, 3, 0), (1, 4, 0), (1, 5, 0), (1, 6, 0), (1, 7, 0), (1, 8, 0), (1, 4, 0)], [(1, 8, 200)], [(0, 0), (1, 0), (0, 39), (0, 4), (3, 3), (0, 5), (1, 5), (0, 4), (-3, 4), (1, 0), (0, 1)], [(1, 31, 3, (2, 9, 34))]), [(0, 0, (1, 4, 0), (1, 0, 3), 0), (1, 0, (1, 4, 0), (1, 0, 2), 0), (1, 0, (1, 4, 0), (1, 0, 1), 0), (1, 0, (1, 4, 0), (1, 0, 0), 0), (1, 0, (1, 10, 0), (1, 0, 2), 0), (9, 34, (1, 5, 0), (1, 10, 0), 0), (1, 0, (1, 6, 0), (1, 0, 0), 0)], [])),
 (2, (0, 0, 0, 0), (([(2, 1, 31), (1, 2, 0), (1, 3, 0), (1, 4, 0), (1, 5, 0), (1, 6, 0), (1, 7, 0), (1, 8, 0), (1, 4, 0)], [(1, 0, 2)], [(0, 0), (1, 0), (0, 39), (0, 4), (2, 2), (0, 5), (1, 5), (0, 4), (-3, 4), (1, 0), (0, 1)], [(1, 31, 3, (2, 9, 34))]), [(0, 0, (1, 4, 0), (1, 0, 2), 0), (1, 0, (1, 4, 0), (1, 0, 1), 0), (1, 0, (1, 4, 0), (1, 0, 0), 0), (1, 0, (1, 10, 0), (1, 0, 2), 0), (9, 34, (1, 5, 0), (1, 10, 0), 0), (1, 0, (1, 6, 0), (1, 0, 0), 0)], [])),
 (2, (0, 0, 0, 0), (([(2, 1, 31), (1, 2, 0), (1, 3, 0), (1, 4, 0), (1, 5, 0), (1, 6, 0), (1, 7, 0), (1, 8, 0), (1, 4, 0)], [(1, 0, 1)], [(0, 0), (1, 0), (0, 39), (0, 4), (1, 1), (0, 5), (1, 5), (0, 4), (-3, 4), (1, 0), (0, 1)], [(1, 31, 3, (2, 9, 34))]), [(1, 0, (1, 6, 0), (1, 0, 2), 0), (0, 0, (1, 4, 0), (1, 0, 1), 0), (1, 0, (1, 4, 0), (1, 0, 0), 0), (1, 0, (1, 10, 0), (1, 0, 2), 0), (9, 34, (1, 5, 0), (1, 10, 0), 0), (1, 0, (1, 6, 0), (1, 0, 0), 0)], [])),
 (2, (0, 0, 0, 0), (([(2, 1, 31), (1, 2, 0), (1, 3, 0), (1, 4, 0), (1, 5, 0), (1, 6, 0), (1, 7, 0), (1, 8, 0), (1, 4, 0)], [(1, 0, 3)], [(0, 0), (1, 0), (0, 39), (0, 4), (1, 1), (0, 5), (2, 2), (0, 4), (-3, 4), (1, 0), (0, 1)], [(1, 31, 3, (2, 9, 34))]), [(0, 0, (1, 6, 0), (1, 0, 2), 0), (0, 0, (1, 4, 0), (1, 0, 1), 0), (1, 0, (1, 4, 0), (1, 0, 0), 0), (1, 0, (1, 10, 0), (1, 0, 2), 0), (9, 34, (1, 5, 0), (1, 10, 0), 0), (1, 0, (1, 6, 0), (1, 0, 0), 0)], [])),
 (2, (0, 0, 0, 0), (([(2, 1, 31), (1, 2, 0), (1, 3, 0), (1, 4, 0), (1, 5, 0), (1, 6, 0), (1, 7, 0), (1, 8, 0), (1, 4, 0)], [(1, 8, 100)], [(0, 0), (1, 0), (0, 39), (0, 4), (0, 0), (0, 5), (1, 5), (0, 4), (-3, 4), (1, 0), (0, 1)], [(1, 31, 3, (2, 9, 34))]), [(0, 0, (1, 4, 0), (1, 0, 0), 0), (1, 0, (1, 10, 0), (1, 0, 2), 0), (9, 34, (1, 5, 0), (1, 10, 0), 0), (1, 0, (1, 6, 0), (1, 0, 0), 0)], [])),
 (2, (0, 0, 0, 0), (([(2, 1, 31), (1, 2, 0), (1, 3, 0), (1, 4, 0), (1, 5, 0), (1, 6, 0), (1, 7, 0), (1, 8, 0), (1, 0, 3)], [(1, 8, 200)], [(0, 0), (1, 0), (0, 39), (0, 4), (2, 2), (0, 5), (1, 5), (0, 4), (-3, 4), (1, 0), (2, 2)], [(1, 31, 3, (2, 9, 34))]), [(0, 0, (1, 0, 3), (1, 0, 3), 0), (1, 0, (1, 0, 3), (1, 0, 2), 0), (1, 0, (1, 0, 3), (1, 0, 1), 0), (1, 0, (1, 0, 3), (1, 0, 0), 0), (0, 0, (1, 4, 0), (1, 0, 2), 0), (0, 0, (1, 10, 0), (1, 0, 2), 0), (9, 34, (1, 5, 0), (1, 10, 0), 0), (1, 0, (1, 6, 0), (1, 0, 0), 0)], [])),
 (2, (0, 0, 0, 0), (([(2, 1, 31), (1, 2, 0), (1, 3, 0), (1, 4, 0), (1, 5, 0), (1, 6, 0), (1, 7, 0), (1, 8, 0), (1, 4, 0)], [(1, 0, 0)], [(0, 0), (1, 0), (0, 39), (0, 4), (-1, 20), (0, 5), (1, 5), (0, 4), (-3, 4), (1, 0), (2, 2)], [(1, 31, 3, (2, 9, 34))]), [(1, 0, (1, 4, 0), (1, 0, 3), 0), (1, 0, (1, 4, 0), (1, 0, 2), 0), (1, 0, (1, 4, 0), (1, 0, 1), 0), (1, 0, (1, 4, 0), (1, 0, 0), 0), (1, 0, (1, 4, 0), (1, 0, 3), 0), (1, 0, (1, 4, 0), (1, 0, 2), 0), (0, 0, (1, 10, 0), (1, 0, 2), 0), (9, 34, (1, 5, 0), (1, 10, 0), 0), (1, 0, (1, 6, 0), (1, 0, 0), 0)], [])),
 (2, (0, 0, 0, 0), (([(2, 1, 31), (1, 2, 0), (1, 3, 0), (1, 4, 0), (1, 5, 0), (1, 6, 0), (1, 7, 0), (1, 8, 0), (1, 4, 0)], [(1, 8, 200)], [(0, 0), (1, 0), (0, 39), (0, 4), (3, 3), (0, 5), (1, 5), (0, 4), (-3, 4), (1, 0), (2, 2)], [(1, 31, 3, (2, 9, 34))]), [(0, 0, (1, 4, 0), (1, 0, 3), 0), (1, 0, (1, 4, 0), (1, 0, 2), 0), (1, 0, (1, 4, 0), (1, 0, 1), 0), (1, 0, (1, 4, 0), (1, 0, 0), 0), (1, 0, (1, 4, 0), (1, 0, 3), 0), (1, 0, (1, 4, 0), (1, 0, 2), 0), (0, 0, (1, 10, 0), (1, 0, 2), 0), (9, 34, (1, 5, 0), (1, 10, 0), 0), (1, 0, (1, 6, 0), (1, 0, 0), 0)], [])),
 (2, (0, 0, 0, 0), (([(2, 1, 31), (1, 2, 0), (1, 3, 0), (1, 4, 0), (1, 5, 0), (1, 6, 0), (1, 7, 0), (1, 8, 0), (1, 4, 0)], [(1, 0, 2)], [(0, 0), (1, 0), (0, 39), (0, 4), (2, 2), (0, 5), (1, 5), (0, 4), (-3, 4), (1, 0), (2, 2)], [(1, 31, 3, (2, 9, 34))]), [(0, 0, (1, 4, 0), (1, 0, 2), 0), (1, 0, (1, 4, 0), (1, 0, 1), 0), (1, 0, (1, 4, 0), (1, 0, 0), 0), (1, 0, (1, 4, 0), (1, 0, 3), 0), (1, 0, (1, 4, 0), (1, 0, 2), 0), (0, 0, (1, 10, 0), (1, 0, 2), 0), (9, 34, (1, 5, 0), (1, 10, 0), 0), (1, 0, (1, 6, 0), (1, 0, 0), 0)], [])),
 (2, (0, 0, 0, 0), (([(2, 1, 31), (1, 2, 0), (1, 3, 0), (1, 4, 0), (1, 5, 0), (1, 6, 0), (1, 7, 0), (1, 8, 0), (1, 4, 0)], [(1, 0, 1)], [(0, 0), (1, 0), (0, 39), (0, 4), (1, 1), (0, 5), (1, 5), (0, 4), (-3, 4), (1, 0), (2, 2)], [(1, 31, 3, (2, 9, 34))]), [(1, 0, (1, 6, 0), (1, 0, 2), 0), (0, 0, (1, 4, 0), (1, 0, 1), 0), (1, 0, (1, 4, 0), (1, 0, 0), 0), (1, 0, (1, 4, 0), (1, 0, 3), 0), (1, 0, (1, 4, 0), (1, 0, 2), 0), (0, 0, (1, 10, 0), (1, 0, 2), 0), (9, 34, (1, 5, 0), (1, 10, 0), 0), (1, 0, (1, 6, 0), (1, 0, 0), 0)], [])),
 (2, (0, 0, 0, 0), (([(2, 1, 31), (1, 2, 0), (1, 3, 0), (1, 4, 0), (1, 5, 0), (1, 6, 0), (1, 7, 0), (1, 8, 0), (1, 4, 0)], [(1, 0, 3)], [(0, 0), (1, 0), (0, 39), (0, 4), (1, 1), (0, 5), (2, 2), (0, 4), (-3, 4), (1, 0), (2, 2)], [(1, 31, 3, (2, 9, 34))]), [(0, 0, (1, 6, 0), (1, 0, 2), 0), (0, 0, (1, 4, 0), (1, 0, 1), 0), (1, 0, (1, 4, 0), (1, 0, 0), 0), (1, 0, (1, 4, 0), (1, 0, 3), 0), (1, 0, (1, 4, 0), (1, 0, 2), 0), (0, 0, (1, 10, 0), (1, 0, 2), 0), (9, 34, (1, 5, 0), (1, 10, 0), 0), (1, 0, (1, 6, 0), (1, 0, 0), 0)], [])),
 (2, (0, 0, 0, 0), (([(2, 1, 31), (1, 2, 0), (1, 3, 0), (1, 4, 0), (1, 5, 0), (1, 6, 0), (1, 7, 0), (1, 8, 0), (1, 4, 0)], [(1, 8, 100)], [(0, 0), (1, 0), (0, 39), (0, 4), (0, 0), (0, 5), (1, 5), (0, 4), (-3, 4), (1, 0), (2, 2)], [(1, 31, 3, (2, 9, 34))]), [(0, 0, (1, 4, 0), (1, 0, 0), 0), (1, 0, (1, 4, 0), (1, 0, 3), 0), (1, 0, (1, 4, 0), (1, 0, 2), 0), (0, 0, (1, 10, 0), (1, 0, 2), 0), (9, 34, (1, 5, 0), (1, 10, 0), 0), (1, 0, (1, 6, 0), (1, 0, 0), 0)], [])),
 (2, (0, 0, 0, 0), (([(2, 1, 31), (1, 2, 0), (1, 3, 0), (1, 4, 0), (1, 5, 0), (1, 6, 0), (1, 7, 0), (1, 8, 0), (1, 0, 2)], [(1, 0, 2)], [(0, 0), (1, 0), (0, 39), (0, 4), (3, 3), (0, 5), (1, 5), (0, 4), (-3, 4), (1, 0), (2, 2)], [(1, 31, 3, (2, 9, 34))]), [(0, 0, (1, 0, 2), (1, 0, 2), 0), (1, 0, (1, 0, 2), (1, 0, 1), 0), (1, 0, (1, 0, 2), (1, 0, 0), 0), (0, 0, (1, 4, 0), (1, 0, 3), 0), (1, 0, (1, 4, 0), (1, 0, 2), 0), (0, 0, (1, 10, 0), (1, 0, 2), 0), (9, 34, (1, 5, 0), (1, 10, 0), 0), (1, 0, (1, 6, 0), (1, 0, 0), 0)], [])),
 (2, (0, 0, 0, 0), (([(2, 1, 31), (1, 2, 0), (1, 3, 0), (1, 4, 0), (1, 5, 0), (1, 6, 0), (1, 7, 0), (1, 8, 0), (1, 4, 0)], [(1, 0, 0)], [(0, 0), (1, 0), (0, 39), (0, 4), (-1, 20), (0, 5), (0, 0), (0, 4), (-3, 4), (1, 0), (0, 1)], [(1, 31, 3, (2, 9, 34))]), [(1, 0, (1, 4, 0), (1, 0, 3), 0), (1, 0, (1, 4, 0), (1, 0, 2), 0), (1, 0, (1, 4, 0), (1, 0, 1), 0), (1, 0, (1, 4, 0), (1, 0, 0), 0), (1, 0, (1, 10, 0), (1, 0, 2), 0), (9, 34, (1, 5, 0), (1, 10, 0), 0), (1, 0, (1, 7, 0), (1, 0, 1), 0), (0, 0, (1, 6, 0), (1, 0, 0), 0)], [])),
 (2, (0, 0, 0, 0), (([(2, 1, 31), (1, 2, 0), (1, 3, 0), (1, 4, 0), (1, 5, 0), (1, 6, 0), (1, 7, 0), (1, 8, 0), (1, 4, 0)], [(1, 8, 200)], [(0, 0), (1, 0), (0, 39), (0, 4), (3, 3), (0, 5), (0, 0), (0, 4), (-3, 4), (1, 0), (0, 1)], [(1, 31, 3, (2, 9, 34))]), [(0, 0, (1, 4, 0), (1, 0, 3), 0), (1, 0, (1, 4, 0), (1, 0, 2), 0), (1, 0, (1, 4, 0), (1, 0, 1), 0), (1, 0, (1, 4, 0), (1, 0, 0), 0), (1, 0, (1, 10, 0), (1, 0, 2), 0), (9, 34, (1, 5, 0), (1, 10, 0), 0), (1, 0, (1, 7, 0), (1, 0, 1), 0), (0, 0, (1, 6, 0), (1, 0, 0), 0)], [])),
 (2, (0, 0, 0, 0), (([(2, 1, 31), (1, 2, 0), (1, 3, 0), (1, 4, 0), (1, 5, 0), (1, 6, 0), (1, 7, 0), (1, 8, 0), (1, 4, 0)], [(1, 0, 2)], [(0, 0), (1, 0), (0, 39), (0, 4), (2, 2), (0, 5), (0, 0), (0, 4), (-3, 4), (1, 0), (0, 1)], [(1, 31, 3, (2, 9, 34))]), [(0, 0, (1, 4, 0), (1, 0, 2), 0), (1, 0, (1, 4, 0), (1, 0, 1), 0), (1, 0, (1, 4, 0), (1, 0, 0), 0), (1, 0, (1, 10, 0), (1, 0, 2), 0), (9, 34, (1, 5, 0), (1, 10, 0), 0), (1, 0, (1, 7, 0), (1, 0, 1), 0), (0, 0, (1, 6, 0), (1, 0, 0), 0)], [])),
 (2, (0, 0, 0, 0), (([(2, 1, 31), (1, 2, 0), (1, 3, 0), (1, 4, 0), (1, 5, 0), (1, 6, 0), (1, 7, 0), (1, 8, 0), (1, 4, 0)], [(1, 0, 1)], [(0, 0), (1, 0), (0, 39), (0, 4), (1, 1), (0, 5), (0, 0), (0, 4), (-3, 4), (1, 0), (0, 1)], [(1, 31, 3, (2, 9, 34))]), [(1, 0, (1, 6, 0), (1, 0, 2), 0), (0, 0, (1, 4, 0), (1, 0, 1), 0), (1, 0, (1, 4, 0), (1, 0, 0), 0), (1, 0, (1, 10, 0), (1, 0, 2), 0), (9, 34, (1, 5, 0), (1, 10, 0), 0), (1, 0, (1, 7, 0), (1, 0, 1), 0), (0, 0, (1, 6, 0), (1, 0, 0), 0)], [])),
 (2, (0, 0, 0, 0), (([(2, 1, 31), (1, 2, 0), (1, 3, 0), (1, 4, 0), (1, 5, 0), (1, 6, 0), (1, 7, 0), (1, 8, 0), (1, 4, 0)], [(1, 8, 100)], [(0, 0), (1, 0), (0, 39), (0, 4), (0, 0), (0, 5), (0, 0), (0, 4), (-3, 4), (1, 0), (0, 1)], [(1, 31, 3, (2, 9, 34))]), [(0, 0, (1, 4, 0), (1, 0, 0), 0), (1, 0, (1, 10, 0), (1, 0, 2), 0), (9, 34, (1, 5, 0), (1, 10, 0), 0), (1, 0, (1, 7, 0), (1, 0, 1), 0), (0, 0, (1, 6, 0), (1, 0, 0), 0)], [])),
 (2, (0, 0, 0, 0), (([(2, 1, 31), (1, 2, 0), (1, 3, 0), (1, 4, 0), (1, 5, 0), (1, 6, 0), (1, 7, 0), (1, 8, 0), (1, 0, 3)], [(1, 8, 200)], [(0, 0), (1, 0), (0, 39), (0, 4), (2, 2), (0, 5), (0, 0), (0, 4), (-3, 4), (1, 0), (2, 2)], [(1, 31, 3, (2, 9, 34))]), [(0, 0, (1, 0, 3), (1, 0, 3), 0), (1, 0, (1, 0, 3), (1, 0, 2), 0), (1, 0, (1, 0, 3), (1, 0, 1), 0), (1, 0, (1, 0, 3), (1, 0, 0), 0), (0, 0, (1, 4, 0), (1, 0, 2), 0), (0, 0, (1, 10, 0), (1, 0, 2), 0), (9, 34, (1, 5, 0), (1, 10, 0), 0), (1, 0, (1, 7, 0), (1, 0, 1), 0), (0, 0, (1, 6, 0), (1, 0, 0), 0)], [])),
 (2, (0, 0, 0, 0), (([(2, 1, 31), (1, 2, 0), (1, 3, 0), (1, 4, 0), (1, 5, 0), (1, 6, 0), (1, 7, 0), (1, 8, 0), (1, 4, 0)], [(1, 0, 0)], [(0, 0), (1, 0), (0, 39), (0, 4), (-1, 20), (0, 5), (0, 0), (0, 4), (-3, 4), (1, 0), (2, 2)], [(1, 31, 3, (2, 9, 34))]), [(1, 0, (1, 4, 0), (1, 0, 3), 0), (1, 0, (1, 4, 0), (1, 0, 2), 0), (1, 0, (1, 4, 0), (1, 0, 1), 0), (1, 0, (1, 4, 0), (1, 0, 0), 0), (1, 0, (1, 4, 0), (1, 0, 3), 0), (1, 0, (1, 4, 0), (1, 0, 2), 0), (0, 0, (1, 10, 0), (1, 0, 2), 0), (9, 34, (1, 5, 0), (1, 10, 0), 0), (1, 0, (1, 7, 0), (1, 0, 1), 0), (0, 0, (1, 6, 0), (1, 0, 0), 0)], [])),
 (2, (0, 0, 0, 0), (([(2, 1, 31), (1, 2, 0), (1, 3, 0), (1, 4, 0), (1, 5, 0), (1, 6, 0), (1, 7, 0), (1, 8, 0), (1, 4, 0)], [(1, 8, 200)], [(0, 0), (1, 0), (0, 39), (0, 4), (3, 3), (0, 5), (0, 0), (0, 4), (-3, 4), (1, 0), (2, 2)], [(1, 31, 3, (2, 9, 34))]), [(0, 0, (1, 4, 0), (1, 0, 3), 0), (1, 0, (1, 4, 0), (1, 0, 2), 0), (1, 0, (1, 4, 0), (1, 0, 1), 0), (1, 0, (1, 4, 0), (1, 0, 0), 0), (1, 0, (1, 4, 0), (1, 0, 3), 0), (1, 0, (1, 4, 0), (1, 0, 2), 0), (0, 0, (1, 10, 0), (1, 0, 2), 0), (9, 34, (1, 5, 0), (1, 10, 0), 0), (1, 0, (1, 7, 0), (1, 0, 1), 0), (0, 0, (1, 6, 0), (1, 0, 0), 0)], [])),
 (2, (0, 0, 0, 0), (([(2, 1, 31), (1, 2, 0), (1, 3, 0), (1, 4, 0), (1, 5, 0), (1, 6, 0), (1, 7, 0), (1, 8, 0), (1, 4, 0)], [(1, 0, 2)], [(0, 0), (1, 0), (0, 39), (0, 4), (2, 2), (0, 5), (0, 0), (0, 4), (-3, 4), (1, 0), (2, 2)], [(1, 31, 3, (2, 9, 34))]), [(0, 0, (1, 4, 0), (1, 0, 2), 0), (1, 0, (1, 4, 0), (1, 0, 1), 0), (1, 0, (1, 4, 0), (1, 0, 0), 0), (1, 0, (1, 4, 0), (1, 0, 3), 0), (1, 0, (1, 4, 0), (1, 0, 2), 0), (0, 0, (1, 10, 0), (1, 0, 2), 0), (9, 34, (1, 5, 0), (1, 10, 0), 0), (1, 0, (1, 7, 0), (1, 0, 1), 0), (0, 0, (1, 6, 0), (1, 0, 0), 0)], [])),
 (2, (0, 0, 0, 0), (([(2, 1, 31), (1, 2, 0), (1, 3, 0), (1, 4, 0), (1, 5, 0), (1, 6, 0), (1, 7, 0), (1, 8, 0), (1, 4, 0)], [(1, 0, 1)], [(0, 0), (1, 0), (0, 39), (0, 4), (1, 1), (0, 5), (0, 0), (0, 4), (-3, 4), (1, 0), (2, 2)], [(1, 31, 3, (2, 9, 34))]), [(1, 0, (1, 6, 0), (1, 0, 2), 0), (0, 0, (1, 4, 0), (1, 0, 1), 0), (1, 0, (1, 4, 0), (1, 0, 0), 0), (1, 0, (1, 4, 0), (1, 0, 3), 0), (1, 0, (1, 4, 0), (1, 0, 2), 0), (0, 0, (1, 10, 0), (1, 0, 2), 0), (9, 34, (1, 5, 0), (1, 10, 0), 0), (1, 0, (1, 7, 0), (1, 0, 1), 0), (0, 0, (1, 6, 0), (1, 0, 0), 0)], [])),
 (2, (0, 0, 0, 0), (([(2, 1, 31), (1, 2, 0), (1, 3, 0), (1, 4, 0), (1, 5, 0), (1, 6, 0), (1, 7, 0), (1, 8, 0), (1, 4, 0)], [(1, 8, 100)], [(0, 0), (1, 0), (0, 39), (0, 4), (0, 0), (0, 5), (0, 0), (0, 4), (-3, 4), (1, 0), (2, 2)], [(1, 31, 3, (2, 9, 34))]), [(0, 0, (1, 4, 0), (1, 0, 0), 0), (1, 0, (1, 4, 0), (1, 0, 3), 0), (1, 0, (1, 4, 0), (1, 0, 2), 0), (0, 0, (1, 10, 0), (1, 0, 2), 0), (9, 34, (1, 5, 0), (1, 10, 0), 0), (1, 0, (1, 7, 0), (1, 0, 1), 0), (0, 0, (1, 6, 0), (1, 0, 0), 0)], [])),
 (2, (0, 0, 0, 0), (([(2, 1, 31), (1, 2, 0), (1, 3, 0), (1, 4, 0), (1, 5, 0), (1, 6, 0), (1, 7, 0), (1, 8, 0), (1, 0, 2)], [(1, 0, 2)], [(0, 0), (1, 0), (0, 39), (0, 4), (3, 3), (0, 5), (0, 0), (0, 4), (-3, 4), (1, 0), (2, 2)], [(1, 31, 3, (2, 9, 34))]), [(0, 0, (1, 0, 2), (1, 0, 2), 0), (1, 0, (1, 0, 2), (1, 0, 1), 0), (1, 0, (1, 0, 2), (1, 0, 0), 0), (0, 0, (1, 4, 0), (1, 0, 3), 0), (1, 0, (1, 4, 0), (1, 0, 2), 0), (0, 0, (1, 10, 0), (1, 0, 2), 0), (9, 34, (1, 5, 0), (1, 10, 0), 0), (1, 0, (1, 7, 0), (1, 0, 1), 0), (0, 0, (1, 6, 0), (1, 0, 0), 0)], [])),
 (2, (0, 0, 0, 0), (([(2, 1, 31), (1, 2, 0), (1, 3, 0), (1, 4, 0), (1, 5, 0), (1, 6, 0), (1, 7, 0), (1, 8, 0), (0, 0, 0)], [(1, 0, 0)], [(0, 0), (1, 0), (0, 39), (0, 4), (-1, 20), (0, 5), (0, 0), (1, 1), (-3, 4)], []), [(1, 0, (1, 4, 0), (1, 0, 2), 0), (1, 0, (1, 4, 0), (1, 0, 1), 0), (1, 0, (1, 4, 0), (1, 0, 0), 0), (0, 0, (1, 7, 0), (1, 0, 1), 0), (0, 0, (1, 6, 0), (1, 0, 0), 0)], [])),
 (2, (0, 0, 0, 0), (([(2, 1, 31), (1, 2, 0), (1, 3, 0), (1, 4, 0), (1, 5, 0), (1, 6, 0), (1, 7, 0), (1, 8, 0), (0, 0, 0)], [(1, 8, 200)], [(0, 0), (1, 0), (0, 39), (0, 4), (2, 2), (0, 5), (0, 0), (1, 1), (-3, 4)], []), [(0, 0, (1, 4, 0), (1, 0, 2), 0), (1, 0, (1, 4, 0), (1, 0, 1), 0), (1, 0, (1, 4, 0), (1, 0, 0), 0), (0, 0, (1, 7, 0), (1, 0, 1), 0), (0, 0, (1, 6, 0), (1, 0, 0), 0)], [])),
 (2, (0, 0, 0, 0), (([(2, 1, 31), (1, 2, 0), (1, 3, 0), (1, 4, 0), (1, 5, 0), (1, 6, 0), (1, 7, 0), (1, 8, 0), (0, 0, 0)], [(1, 0, 1)], [(0, 0), (1, 0), (0, 39), (0, 4), (1, 1), (0, 5), (0, 0), (1, 1), (-3, 4)], []), [(0, 0, (1, 4, 0), (1, 0, 1), 0), (1, 0, (1, 4, 0), (1, 0, 0), 0), (0, 0, (1, 7, 0), (1, 0, 1), 0), (0, 0, (1, 6, 0), (1, 0, 0), 0)], [])),
 (2, (0, 0, 0, 0), (([(2, 1, 31), (1, 2, 0), (1, 3, 0), (1, 4, 0), (1, 5, 0), (1, 6, 0), (1, 7, 0), (1, 8, 0), (0, 0, 0)], [(1, 8, 100)], [(0, 0), (1, 0), (0, 39), (0, 4), (0, 0), (0, 5), (0, 0), (1, 1), (-3, 4)], []), [(0, 0, (1, 4, 0), (1, 0, 0), 0), (0, 0, (1, 7, 0), (1, 0, 1), 0), (0, 0, (1, 6, 0), (1, 0, 0), 0)], []))] = true := by decide +kernel
theorem s157b {h : Hp} (hT : TInv h) {ls : List (Option Value)} {x : Int} {c : Int} {i : Int} {t : Int} {k : Int} {op : Int} {m : Int} (b_x : 0 ≤ x ∧ x ≤ 39) (b_c : 0 ≤ c ∧ c ≤ 4) (b_i : -1 ≤ i ∧ i ≤ 20) (b_t : 0 ≤ t ∧ t ≤ 5) (b_k : 0 ≤ k ∧ k ≤ 5) (b_op : 0 ≤ op ∧ op ≤ 4) (b_m : -3 ≤ m ∧ m ≤ 4) (hl : LVs [some (rv 31), some (iv x), some (iv c), some (iv i), some (iv t), some (iv k), some (iv op), some (iv m), none] ls) :
  (∃ (fault10 : Int) , (1 ≤ k ∧ k ≤ 5) ∧ (0 ≤ fault10 ∧ fault10 ≤ 1) ∧ (k ≠ 0) ∧ (fault10 = rd 34 t h) ∧ (fault10 ≠ 2) ∧ (i ≠ 0) ∧ (i ≠ 1) ∧ (i ≠ 2) ∧ (i ≠ 3) ∧ Nx h h ∧ (∀ d, 3 ≤ d → Ev d 157 (253, ls, [], h, fl_tot) (some (iv 0), h, fl_tot))) ∨
  (∃ (fault10 : Int) , (3 ≤ i ∧ i ≤ 3) ∧ (1 ≤ k ∧ k ≤ 5) ∧ (0 ≤ fault10 ∧ fault10 ≤ 1) ∧ (k ≠ 0) ∧ (fault10 = rd 34 t h) ∧ (fault10 ≠ 2) ∧ (i ≠ 0) ∧ (i ≠ 1) ∧ (i ≠ 2) ∧ (i = 3) ∧ Nx h h ∧ (∀ d, 3 ≤ d → Ev d 157 (253, ls, [], h, fl_tot) (some (iv (m + 200)), h, fl_tot))) ∨
  (∃ (fault10 : Int) , (2 ≤ i ∧ i ≤ 2) ∧ (1 ≤ k ∧ k ≤ 5) ∧ (0 ≤ fault10 ∧ fault10 ≤ 1) ∧ (k ≠ 0) ∧ (fault10 = rd 34 t h) ∧ (fault10 ≠ 2) ∧ (i ≠ 0) ∧ (i ≠ 1) ∧ (i = 2) ∧ Nx h h ∧ (∀ d, 3 ≤ d → Ev d 157 (253, ls, [], h, fl_tot) (some (iv 2), h, fl_tot))) ∨
  (∃ (fault10 : Int) , (1 ≤ i ∧ i ≤ 1) ∧ (1 ≤ k ∧ k ≤ 5) ∧ (0 ≤ fault10 ∧ fault10 ≤ 1) ∧ (k ≠ 0) ∧ (fault10 = rd 34 t h) ∧ (fault10 ≠ 2) ∧ (i ≠ 0) ∧ (i = 1) ∧ (k ≠ 2) ∧ Nx h h ∧ (∀ d, 3 ≤ d → Ev d 157 (253, ls, [], h, fl_tot) (some (iv 1), h, fl_tot))) ∨
  (∃ (fault10 : Int) , (1 ≤ i ∧ i ≤ 1) ∧ (2 ≤ k ∧ k ≤ 2) ∧ (0 ≤ fault10 ∧ fault10 ≤ 1) ∧ (k ≠ 0) ∧ (fault10 = rd 34 t h) ∧ (fault10 ≠ 2) ∧ (i ≠ 0) ∧ (i = 1) ∧ (k = 2) ∧ Nx h h ∧ (∀ d, 3 ≤ d → Ev d 157 (253, ls, [], h, fl_tot) (some (iv 3), h, fl_tot))) ∨
  (∃ (fault10 : Int) , (0 ≤ i ∧ i ≤ 0) ∧ (1 ≤ k ∧ k ≤ 5) ∧ (0 ≤ fault10 ∧ fault10 ≤ 1) ∧ (k ≠ 0) ∧ (fault10 = rd 34 t h) ∧ (fault10 ≠ 2) ∧ (i = 0) ∧ Nx h h ∧ (∀ d, 3 ≤ d → Ev d 157 (253, ls, [], h, fl_tot) (some (iv (m + 100)), h, fl_tot))) ∨
  (∃ (fault10 : Int) , (2 ≤ i ∧ i ≤ 2) ∧ (1 ≤ k ∧ k ≤ 5) ∧ (2 ≤ fault10 ∧ fault10 ≤ 2) ∧ (k ≠ 0) ∧ (fault10 = rd 34 t h) ∧ (fault10 = 2) ∧ (i = 2) ∧ ((3 : Int) ≠ 0) ∧ ((3 : Int) ≠ 1) ∧ ((3 : Int) ≠ 2) ∧ ((3 : Int) = 3) ∧ Nx h h ∧ (∀ d, 3 ≤ d → Ev d 157 (253, ls, [], h, fl_tot) (some (iv (m + 200)), h, fl_tot))) ∨
  (∃ (fault10 : Int) , (1 ≤ k ∧ k ≤ 5) ∧ (2 ≤ fault10 ∧ fault10 ≤ 2) ∧ (k ≠ 0) ∧ (fault10 = rd 34 t h) ∧ (fault10 = 2) ∧ (i ≠ 2) ∧ (i ≠ 3) ∧ (i ≠ 0) ∧ (i ≠ 1) ∧ (i ≠ 2) ∧ (i ≠ 3) ∧ Nx h h ∧ (∀ d, 3 ≤ d → Ev d 157 (253, ls, [], h, fl_tot) (some (iv 0), h, fl_tot))) ∨
  (∃ (fault10 : Int) , (3 ≤ i ∧ i ≤ 3) ∧ (1 ≤ k ∧ k ≤ 5) ∧ (2 ≤ fault10 ∧ fault10 ≤ 2) ∧ (k ≠ 0) ∧ (fault10 = rd 34 t h) ∧ (fault10 = 2) ∧ (i ≠ 2) ∧ (i ≠ 3) ∧ (i ≠ 0) ∧ (i ≠ 1) ∧ (i ≠ 2) ∧ (i = 3) ∧ Nx h h ∧ (∀ d, 3 ≤ d → Ev d 157 (253, ls, [], h, fl_tot) (some (iv (m + 200)), h, fl_tot))) ∨
  (∃ (fault10 : Int) , (2 ≤ i ∧ i ≤ 2) ∧ (1 ≤ k ∧ k ≤ 5) ∧ (2 ≤ fault10 ∧ fault10 ≤ 2) ∧ (k ≠ 0) ∧ (fault10 = rd 34 t h) ∧ (fault10 = 2) ∧ (i ≠ 2) ∧ (i ≠ 3) ∧ (i ≠ 0) ∧ (i ≠ 1) ∧ (i = 2) ∧ Nx h h ∧ (∀ d, 3 ≤ d → Ev d 157 (253, ls, [], h, fl_tot) (some (iv 2), h, fl_tot))) ∨
  (∃ (fault10 : Int) , (1 ≤ i ∧ i ≤ 1) ∧ (1 ≤ k ∧ k ≤ 5) ∧ (2 ≤ fault10 ∧ fault10 ≤ 2) ∧ (k ≠ 0) ∧ (fault10 = rd 34 t h) ∧ (fault10 = 2) ∧ (i ≠ 2) ∧ (i ≠ 3) ∧ (i ≠ 0) ∧ (i = 1) ∧ (k ≠ 2) ∧ Nx h h ∧ (∀ d, 3 ≤ d → Ev d 157 (253, ls, [], h, fl_tot) (some (iv 1), h, fl_tot))) ∨
  (∃ (fault10 : Int) , (1 ≤ i ∧ i ≤ 1) ∧ (2 ≤ k ∧ k ≤ 2) ∧ (2 ≤ fault10 ∧ fault10 ≤ 2) ∧ (k ≠ 0) ∧ (fault10 = rd 34 t h) ∧ (fault10 = 2) ∧ (i ≠ 2) ∧ (i ≠ 3) ∧ (i ≠ 0) ∧ (i = 1) ∧ (k = 2) ∧ Nx h h ∧ (∀ d, 3 ≤ d → Ev d 157 (253, ls, [], h, fl_tot) (some (iv 3), h, fl_tot))) ∨
  (∃ (fault10 : Int) , (0 ≤ i ∧ i ≤ 0) ∧ (1 ≤ k ∧ k ≤ 5) ∧ (2 ≤ fault10 ∧ fault10 ≤ 2) ∧ (k ≠ 0) ∧ (fault10 = rd 34 t h) ∧ (fault10 = 2) ∧ (i ≠ 2) ∧ (i ≠ 3) ∧ (i = 0) ∧ Nx h h ∧ (∀ d, 3 ≤ d → Ev d 157 (253, ls, [], h, fl_tot) (some (iv (m + 100)), h, fl_tot))) ∨
  (∃ (fault10 : Int) , (3 ≤ i ∧ i ≤ 3) ∧ (1 ≤ k ∧ k ≤ 5) ∧ (2 ≤ fault10 ∧ fault10 ≤ 2) ∧ (k ≠ 0) ∧ (fault10 = rd 34 t h) ∧ (fault10 = 2) ∧ (i ≠ 2) ∧ (i = 3) ∧ ((2 : Int) ≠ 0) ∧ ((2 : Int) ≠ 1) ∧ ((2 : Int) = 2) ∧ Nx h h ∧ (∀ d, 3 ≤ d → Ev d 157 (253, ls, [], h, fl_tot) (some (iv 2), h, fl_tot))) ∨
  (∃ (fault10 : Int) , (0 ≤ k ∧ k ≤ 0) ∧ (0 ≤ fault10 ∧ fault10 ≤ 1) ∧ (k = 0) ∧ (op ≠ 1) ∧ (fault10 = rd 34 t h) ∧ (fault10 ≠ 2) ∧ (i ≠ 0) ∧ (i ≠ 1) ∧ (i ≠ 2) ∧ (i ≠ 3) ∧ Nx h h ∧ (∀ d, 3 ≤ d → Ev d 157 (253, ls, [], h, fl_tot) (some (iv 0), h, fl_tot))) ∨
  (∃ (fault10 : Int) , (3 ≤ i ∧ i ≤ 3) ∧ (0 ≤ k ∧ k ≤ 0) ∧ (0 ≤ fault10 ∧ fault10 ≤ 1) ∧ (k = 0) ∧ (op ≠ 1) ∧ (fault10 = rd 34 t h) ∧ (fault10 ≠ 2) ∧ (i ≠ 0) ∧ (i ≠ 1) ∧ (i ≠ 2) ∧ (i = 3) ∧ Nx h h ∧ (∀ d, 3 ≤ d → Ev d 157 (253, ls, [], h, fl_tot) (some (iv (m + 200)), h, fl_tot))) ∨
  (∃ (fault10 : Int) , (2 ≤ i ∧ i ≤ 2) ∧ (0 ≤ k ∧ k ≤ 0) ∧ (0 ≤ fault10 ∧ fault10 ≤ 1) ∧ (k = 0) ∧ (op ≠ 1) ∧ (fault10 = rd 34 t h) ∧ (fault10 ≠ 2) ∧ (i ≠ 0) ∧ (i ≠ 1) ∧ (i = 2) ∧ Nx h h ∧ (∀ d, 3 ≤ d → Ev d 157 (253, ls, [], h, fl_tot) (some (iv 2), h, fl_tot))) ∨
  (∃ (fault10 : Int) , (1 ≤ i ∧ i ≤ 1) ∧ (0 ≤ k ∧ k ≤ 0) ∧ (0 ≤ fault10 ∧ fault10 ≤ 1) ∧ (k = 0) ∧ (op ≠ 1) ∧ (fault10 = rd 34 t h) ∧ (fault10 ≠ 2) ∧ (i ≠ 0) ∧ (i = 1) ∧ (k ≠ 2) ∧ Nx h h ∧ (∀ d, 3 ≤ d → Ev d 157 (253, ls, [], h, fl_tot) (some (iv 1), h, fl_tot))) ∨
  (∃ (fault10 : Int) , (0 ≤ i ∧ i ≤ 0) ∧ (0 ≤ k ∧ k ≤ 0) ∧ (0 ≤ fault10 ∧ fault10 ≤ 1) ∧ (k = 0) ∧ (op ≠ 1) ∧ (fault10 = rd 34 t h) ∧ (fault10 ≠ 2) ∧ (i = 0) ∧ Nx h h ∧ (∀ d, 3 ≤ d → Ev d 157 (253, ls, [], h, fl_tot) (some (iv (m + 100)), h, fl_tot))) ∨
  (∃ (fault10 : Int) , (2 ≤ i ∧ i ≤ 2) ∧ (0 ≤ k ∧ k ≤ 0) ∧ (2 ≤ fault10 ∧ fault10 ≤ 2) ∧ (k = 0) ∧ (op ≠ 1) ∧ (fault10 = rd 34 t h) ∧ (fault10 = 2) ∧ (i = 2) ∧ ((3 : Int) ≠ 0) ∧ ((3 : Int) ≠ 1) ∧ ((3 : Int) ≠ 2) ∧ ((3 : Int) = 3) ∧ Nx h h ∧ (∀ d, 3 ≤ d → Ev d 157 (253, ls, [], h, fl_tot) (some (iv (m + 200)), h, fl_tot))) ∨
  (∃ (fault10 : Int) , (0 ≤ k ∧ k ≤ 0) ∧ (2 ≤ fault10 ∧ fault10 ≤ 2) ∧ (k = 0) ∧ (op ≠ 1) ∧ (fault10 = rd 34 t h) ∧ (fault10 = 2) ∧ (i ≠ 2) ∧ (i ≠ 3) ∧ (i ≠ 0) ∧ (i ≠ 1) ∧ (i ≠ 2) ∧ (i ≠ 3) ∧ Nx h h ∧ (∀ d, 3 ≤ d → Ev d 157 (253, ls, [], h, fl_tot) (some (iv 0), h, fl_tot))) ∨
  (∃ (fault10 : Int) , (3 ≤ i ∧ i ≤ 3) ∧ (0 ≤ k ∧ k ≤ 0) ∧ (2 ≤ fault10 ∧ fault10 ≤ 2) ∧ (k = 0) ∧ (op ≠ 1) ∧ (fault10 = rd 34 t h) ∧ (fault10 = 2) ∧ (i ≠ 2) ∧ (i ≠ 3) ∧ (i ≠ 0) ∧ (i ≠ 1) ∧ (i ≠ 2) ∧ (i = 3) ∧ Nx h h ∧ (∀ d, 3 ≤ d → Ev d 157 (253, ls, [], h, fl_tot) (some (iv (m + 200)), h, fl_tot))) ∨
  (∃ (fault10 : Int) , (2 ≤ i ∧ i ≤ 2) ∧ (0 ≤ k ∧ k ≤ 0) ∧ (2 ≤ fault10 ∧ fault10 ≤ 2) ∧ (k = 0) ∧ (op ≠ 1) ∧ (fault10 = rd 34 t h) ∧ (fault10 = 2) ∧ (i ≠ 2) ∧ (i ≠ 3) ∧ (i ≠ 0) ∧ (i ≠ 1) ∧ (i = 2) ∧ Nx h h ∧ (∀ d, 3 ≤ d → Ev d 157 (253, ls, [], h, fl_tot) (some (iv 2), h, fl_tot))) ∨
  (∃ (fault10 : Int) , (1 ≤ i ∧ i ≤ 1) ∧ (0 ≤ k ∧ k ≤ 0) ∧ (2 ≤ fault10 ∧ fault10 ≤ 2) ∧ (k = 0) ∧ (op ≠ 1) ∧ (fault10 = rd 34 t h) ∧ (fault10 = 2) ∧ (i ≠ 2) ∧ (i ≠ 3) ∧ (i ≠ 0) ∧ (i = 1) ∧ (k ≠ 2) ∧ Nx h h ∧ (∀ d, 3 ≤ d → Ev d 157 (253, ls, [], h, fl_tot) (some (iv 1), h, fl_tot))) ∨
  (∃ (fault10 : Int) , (0 ≤ i ∧ i ≤ 0) ∧ (0 ≤ k ∧ k ≤ 0) ∧ (2 ≤ fault10 ∧ fault10 ≤ 2) ∧ (k = 0) ∧ (op ≠ 1) ∧ (fault10 = rd 34 t h) ∧ (fault10 = 2) ∧ (i ≠ 2) ∧ (i ≠ 3) ∧ (i = 0) ∧ Nx h h ∧ (∀ d, 3 ≤ d → Ev d 157 (253, ls, [], h, fl_tot) (some (iv (m + 100)), h, fl_tot))) ∨
  (∃ (fault10 : Int) , (3 ≤ i ∧ i ≤ 3) ∧ (0 ≤ k ∧ k ≤ 0) ∧ (2 ≤ fault10 ∧ fault10 ≤ 2) ∧ (k = 0) ∧ (op ≠ 1) ∧ (fault10 = rd 34 t h) ∧ (fault10 = 2) ∧ (i ≠ 2) ∧ (i = 3) ∧ ((2 : Int) ≠ 0) ∧ ((2 : Int) ≠ 1) ∧ ((2 : Int) = 2) ∧ Nx h h ∧ (∀ d, 3 ≤ d → Ev d 157 (253, ls, [], h, fl_tot) (some (iv 2), h, fl_tot))) ∨
  ((0 ≤ k ∧ k ≤ 0) ∧ (1 ≤ op ∧ op ≤ 1) ∧ (k = 0) ∧ (op = 1) ∧ (i ≠ 0) ∧ (i ≠ 1) ∧ (i ≠ 2) ∧ Nx h h ∧ (∀ d, 3 ≤ d → Ev d 157 (253, ls, [], h, fl_tot) (some (iv 0), h, fl_tot))) ∨
  ((2 ≤ i ∧ i ≤ 2) ∧ (0 ≤ k ∧ k ≤ 0) ∧ (1 ≤ op ∧ op ≤ 1) ∧ (k = 0) ∧ (op = 1) ∧ (i ≠ 0) ∧ (i ≠ 1) ∧ (i = 2) ∧ Nx h h ∧ (∀ d, 3 ≤ d → Ev d 157 (253, ls, [], h, fl_tot) (some (iv (m + 200)), h, fl_tot))) ∨
  ((1 ≤ i ∧ i ≤ 1) ∧ (0 ≤ k ∧ k ≤ 0) ∧ (1 ≤ op ∧ op ≤ 1) ∧ (k = 0) ∧ (op = 1) ∧ (i ≠ 0) ∧ (i = 1) ∧ Nx h h ∧ (∀ d, 3 ≤ d → Ev d 157 (253, ls, [], h, fl_tot) (some (iv 1), h, fl_tot))) ∨
  ((0 ≤ i ∧ i ≤ 0) ∧ (0 ≤ k ∧ k ≤ 0) ∧ (1 ≤ op ∧ op ≤ 1) ∧ (k = 0) ∧ (op = 1) ∧ (i = 0) ∧ Nx h h ∧ (∀ d, 3 ≤ d → Ev d 157 (253, ls, [], h, fl_tot) (some (iv (m + 100)), h, fl_tot))) := by
  have H := seg chk_s157b (zs := [x, c, i, t, k, op, m]) (szs := []) hT (show HB tys_s157b [x, c, i, t, k, op, m] from ⟨b_x, ⟨b_c, ⟨b_i, ⟨b_t, ⟨b_k, ⟨b_op, ⟨b_m, trivial⟩⟩⟩⟩⟩⟩⟩) (show HB stys_s157b [] from trivial) hl
  rcases H with ⟨tq, hE, hF, k1, k2⟩ | ⟨tq, hE, hF, k1, k2⟩ | ⟨tq, hE, hF, k1, k2⟩ | ⟨tq, hE, hF, k1, k2⟩ | ⟨tq, hE, hF, k1, k2⟩ | ⟨tq, hE, hF, k1, k2⟩ | ⟨tq, hE, hF, k1, k2⟩ | ⟨tq, hE, hF, k1, k2⟩ | ⟨tq, hE, hF, k1, k2⟩ | ⟨tq, hE, hF, k1, k2⟩ | ⟨tq, hE, hF, k1, k2⟩ | ⟨tq, hE, hF, k1, k2⟩ | ⟨tq, hE, hF, k1, k2⟩ | ⟨tq, hE, hF, k1, k2⟩ | ⟨tq, hE, hF, k1, k2⟩ | ⟨tq, hE, hF, k1, k2⟩ | ⟨tq, hE, hF, k1, k2⟩ | ⟨tq, hE, hF, k1, k2⟩ | ⟨tq, hE, hF, k1, k2⟩ | ⟨tq, hE, hF, k1, k2⟩ | ⟨tq, hE, hF, k1, k2⟩ | ⟨tq, hE, hF, k1, k2⟩ | ⟨tq, hE, hF, k1, k2⟩ | ⟨tq, hE, hF, k1, k2⟩ | ⟨tq, hE, hF, k1, k2⟩ | ⟨tq, hE, hF, k1, k2⟩ | ⟨tq, hE, hF, k1, k2⟩ | ⟨tq, hE, hF, k1, k2⟩ | ⟨tq, hE, hF, k1, k2⟩ | ⟨tq, hE, hF, k1, k2⟩
  · exact Or.inl ⟨pn (0 :: (hr tys_s157b [x, c, i, t, k, op, m] ++ (hr stys_s157b [] ++ tq))) 10, hE 6 (1, 5) rfl (by decide), hE 10 (0, 1) rfl (by decide), hF.2.2.2.2.2.2.1, hF.2.2.2.2.2.1, hF.2.2.2.2.1, hF.2.2.2.1, hF.2.2.1, hF.2.1, hF.1, k1, k2⟩
  · exact Or.inr (Or.inl ⟨pn (0 :: (hr tys_s157b [x, c, i, t, k, op, m] ++ (hr stys_s157b [] ++ tq))) 10, hE 4 (3, 3) rfl (by decide), hE 6 (1, 5) rfl (by decide), hE 10 (0, 1) rfl (by decide), hF.2.2.2.2.2.2.1, hF.2.2.2.2.2.1, hF.2.2.2.2.1, hF.2.2.2.1, hF.2.2.1, hF.2.1, hF.1, k1, k2⟩)
  · exact Or.inr (Or.inr (Or.inl ⟨pn (0 :: (hr tys_s157b [x, c, i, t, k, op, m] ++ (hr stys_s157b [] ++ tq))) 10, hE 4 (2, 2) rfl (by decide), hE 6 (1, 5) rfl (by decide), hE 10 (0, 1) rfl (by decide), hF.2.2.2.2.2.1, hF.2.2.2.2.1, hF.2.2.2.1, hF.2.2.1, hF.2.1, hF.1, k1, k2⟩))
  · exact Or.inr (Or.inr (Or.inr (Or.inl ⟨pn (0 :: (hr tys_s157b [x, c, i, t, k, op, m] ++ (hr stys_s157b [] ++ tq))) 10, hE 4 (1, 1) rfl (by decide), hE 6 (1, 5) rfl (by decide), hE 10 (0, 1) rfl (by decide), hF.2.2.2.2.2.1, hF.2.2.2.2.1, hF.2.2.2.1, hF.2.2.1, hF.2.1, hF.1, k1, k2⟩)))
  · exact Or.inr (Or.inr (Or.inr (Or.inr (Or.inl ⟨pn (0 :: (hr tys_s157b [x, c, i, t, k, op, m] ++ (hr stys_s157b [] ++ tq))) 10, hE 4 (1, 1) rfl (by decide), hE 6 (2, 2) rfl (by decide), hE 10 (0, 1) rfl (by decide), hF.2.2.2.2.2.1, hF.2.2.2.2.1, hF.2.2.2.1, hF.2.2.1, hF.2.1, hF.1, k1, k2⟩))))
  · exact Or.inr (Or.inr (Or.inr (Or.inr (Or.inr (Or.inl ⟨pn (0 :: (hr tys_s157b [x, c, i, t, k, op, m] ++ (hr stys_s157b [] ++ tq))) 10, hE 4 (0, 0) rfl (by decide), hE 6 (1, 5) rfl (by decide), hE 10 (0, 1) rfl (by decide), hF.2.2.2.1, hF.2.2.1, hF.2.1, hF.1, k1, k2⟩)))))
  · exact Or.inr (Or.inr (Or.inr (Or.inr (Or.inr (Or.inr (Or.inl ⟨pn (0 :: (hr tys_s157b [x, c, i, t, k, op, m] ++ (hr stys_s157b [] ++ tq))) 10, hE 4 (2, 2) rfl (by decide), hE 6 (1, 5) rfl (by decide), hE 10 (2, 2) rfl (by decide), hF.2.2.2.2.2.2.2.1, hF.2.2.2.2.2.2.1, hF.2.2.2.2.2.1, hF.2.2.2.2.1, hF.2.2.2.1, hF.2.2.1, hF.2.1, hF.1, k1, k2⟩))))))
  · exact Or.inr (Or.inr (Or.inr (Or.inr (Or.inr (Or.inr (Or.inr (Or.inl ⟨pn (0 :: (hr tys_s157b [x, c, i, t, k, op, m] ++ (hr stys_s157b [] ++ tq))) 10, hE 6 (1, 5) rfl (by decide), hE 10 (2, 2) rfl (by decide), hF.2.2.2.2.2.2.2.2.1, hF.2.2.2.2.2.2.2.1, hF.2.2.2.2.2.2.1, hF.2.2.2.2.2.1, hF.2.2.2.2.1, hF.2.2.2.1, hF.2.2.1, hF.2.1, hF.1, k1, k2⟩)))))))
  · exact Or.inr (Or.inr (Or.inr (Or.inr (Or.inr (Or.inr (Or.inr (Or.inr (Or.inl ⟨pn (0 :: (hr tys_s157b [x, c, i, t, k, op, m] ++ (hr stys_s157b [] ++ tq))) 10, hE 4 (3, 3) rfl (by decide), hE 6 (1, 5) rfl (by decide), hE 10 (2, 2) rfl (by decide), hF.2.2.2.2.2.2.2.2.1, hF.2.2.2.2.2.2.2.1, hF.2.2.2.2.2.2.1, hF.2.2.2.2.2.1, hF.2.2.2.2.1, hF.2.2.2.1, hF.2.2.1, hF.2.1, hF.1, k1, k2⟩))))))))
  · exact Or.inr (Or.inr (Or.inr (Or.inr (Or.inr (Or.inr (Or.inr (Or.inr (Or.inr (Or.inl ⟨pn (0 :: (hr tys_s157b [x, c, i, t, k, op, m] ++ (hr stys_s157b [] ++ tq))) 10, hE 4 (2, 2) rfl (by decide), hE 6 (1, 5) rfl (by decide), hE 10 (2, 2) rfl (by decide), hF.2.2.2.2.2.2.2.1, hF.2.2.2.2.2.2.1, hF.2.2.2.2.2.1, hF.2.2.2.2.1, hF.2.2.2.1, hF.2.2.1, hF.2.1, hF.1, k1, k2⟩)))))))))
  · exact Or.inr (Or.inr (Or.inr (Or.inr (Or.inr (Or.inr (Or.inr (Or.inr (Or.inr (Or.inr (Or.inl ⟨pn (0 :: (hr tys_s157b [x, c, i, t, k, op, m] ++ (hr stys_s157b [] ++ tq))) 10, hE 4 (1, 1) rfl (by decide), hE 6 (1, 5) rfl (by decide), hE 10 (2, 2) rfl (by decide), hF.2.2.2.2.2.2.2.1, hF.2.2.2.2.2.2.1, hF.2.2.2.2.2.1, hF.2.2.2.2.1, hF.2.2.2.1, hF.2.2.1, hF.2.1, hF.1, k1, k2⟩))))))))))
  · exact Or.inr (Or.inr (Or.inr (Or.inr (Or.inr (Or.inr (Or.inr (Or.inr (Or.inr (Or.inr (Or.inr (Or.inl ⟨pn (0 :: (hr tys_s157b [x, c, i, t, k, op, m] ++ (hr stys_s157b [] ++ tq))) 10, hE 4 (1, 1) rfl (by decide), hE 6 (2, 2) rfl (by decide), hE 10 (2, 2) rfl (by decide), hF.2.2.2.2.2.2.2.1, hF.2.2.2.2.2.2.1, hF.2.2.2.2.2.1, hF.2.2.2.2.1, hF.2.2.2.1, hF.2.2.1, hF.2.1, hF.1, k1, k2⟩)))))))))))
  · exact Or.inr (Or.inr (Or.inr (Or.inr (Or.inr (Or.inr (Or.inr (Or.inr (Or.inr (Or.inr (Or.inr (Or.inr (Or.inl ⟨pn (0 :: (hr tys_s157b [x, c, i, t, k, op, m] ++ (hr stys_s157b [] ++ tq))) 10, hE 4 (0, 0) rfl (by decide), hE 6 (1, 5) rfl (by decide), hE 10 (2, 2) rfl (by decide), hF.2.2.2.2.2.1, hF.2.2.2.2.1, hF.2.2.2.1, hF.2.2.1, hF.2.1, hF.1, k1, k2⟩))))))))))))
  · exact Or.inr (Or.inr (Or.inr (Or.inr (Or.inr (Or.inr (Or.inr (Or.inr (Or.inr (Or.inr (Or.inr (Or.inr (Or.inr (Or.inl ⟨pn (0 :: (hr tys_s157b [x, c, i, t, k, op, m] ++ (hr stys_s157b [] ++ tq))) 10, hE 4 (3, 3) rfl (by decide), hE 6 (1, 5) rfl (by decide), hE 10 (2, 2) rfl (by decide), hF.2.2.2.2.2.2.2.1, hF.2.2.2.2.2.2.1, hF.2.2.2.2.2.1, hF.2.2.2.2.1, hF.2.2.2.1, hF.2.2.1, hF.2.1, hF.1, k1, k2⟩)))))))))))))
  · exact Or.inr (Or.inr (Or.inr (Or.inr (Or.inr (Or.inr (Or.inr (Or.inr (Or.inr (Or.inr (Or.inr (Or.inr (Or.inr (Or.inr (Or.inl ⟨pn (0 :: (hr tys_s157b [x, c, i, t, k, op, m] ++ (hr stys_s157b [] ++ tq))) 10, hE 6 (0, 0) rfl (by decide), hE 10 (0, 1) rfl (by decide), hF.2.2.2.2.2.2.2.1, hF.2.2.2.2.2.2.1, hF.2.2.2.2.2.1, hF.2.2.2.2.1, hF.2.2.2.1, hF.2.2.1, hF.2.1, hF.1, k1, k2⟩))))))))))))))
  · exact Or.inr (Or.inr (Or.inr (Or.inr (Or.inr (Or.inr (Or.inr (Or.inr (Or.inr (Or.inr (Or.inr (Or.inr (Or.inr (Or.inr (Or.inr (Or.inl ⟨pn (0 :: (hr tys_s157b [x, c, i, t, k, op, m] ++ (hr stys_s157b [] ++ tq))) 10, hE 4 (3, 3) rfl (by decide), hE 6 (0, 0) rfl (by decide), hE 10 (0, 1) rfl (by decide), hF.2.2.2.2.2.2.2.1, hF.2.2.2.2.2.2.1, hF.2.2.2.2.2.1, hF.2.2.2.2.1, hF.2.2.2.1, hF.2.2.1, hF.2.1, hF.1, k1, k2⟩)))))))))))))))
  · exact Or.inr (Or.inr (Or.inr (Or.inr (Or.inr (Or.inr (Or.inr (Or.inr (Or.inr (Or.inr (Or.inr (Or.inr (Or.inr (Or.inr (Or.inr (Or.inr (Or.inl ⟨pn (0 :: (hr tys_s157b [x, c, i, t, k, op, m] ++ (hr stys_s157b [] ++ tq))) 10, hE 4 (2, 2) rfl (by decide), hE 6 (0, 0) rfl (by decide), hE 10 (0, 1) rfl (by decide), hF.2.2.2.2.2.2.1, hF.2.2.2.2.2.1, hF.2.2.2.2.1, hF.2.2.2.1, hF.2.2.1, hF.2.1, hF.1, k1, k2⟩))))))))))))))))
  · exact Or.inr (Or.inr (Or.inr (Or.inr (Or.inr (Or.inr (Or.inr (Or.inr (Or.inr (Or.inr (Or.inr (Or.inr (Or.inr (Or.inr (Or.inr (Or.inr (Or.inr (Or.inl ⟨pn (0 :: (hr tys_s157b [x, c, i, t, k, op, m] ++ (hr stys_s157b [] ++ tq))) 10, hE 4 (1, 1) rfl (by decide), hE 6 (0, 0) rfl (by decide), hE 10 (0, 1) rfl (by decide), hF.2.2.2.2.2.2.1, hF.2.2.2.2.2.1, hF.2.2.2.2.1, hF.2.2.2.1, hF.2.2.1, hF.2.1, hF.1, k1, k2⟩)))))))))))))))))
  · exact Or.inr (Or.inr (Or.inr (Or.inr (Or.inr (Or.inr (Or.inr (Or.inr (Or.inr (Or.inr (Or.inr (Or.inr (Or.inr (Or.inr (Or.inr (Or.inr (Or.inr (Or.inr (Or.inl ⟨pn (0 :: (hr tys_s157b [x, c, i, t, k, op, m] ++ (hr stys_s157b [] ++ tq))) 10, hE 4 (0, 0) rfl (by decide), hE 6 (0, 0) rfl (by decide), hE 10 (0, 1) rfl (by decide), hF.2.2.2.2.1, hF.2.2.2.1, hF.2.2.1, hF.2.1, hF.1, k1, k2⟩))))))))))))))))))
  · exact Or.inr (Or.inr (Or.inr (Or.inr (Or.inr (Or.inr (Or.inr (Or.inr (Or.inr (Or.inr (Or.inr (Or.inr (Or.inr (Or.inr (Or.inr (Or.inr (Or.inr (Or.inr (Or.inr (Or.inl ⟨pn (0 :: (hr tys_s157b [x, c, i, t, k, op, m] ++ (hr stys_s157b [] ++ tq))) 10, hE 4 (2, 2) rfl (by decide), hE 6 (0, 0) rfl (by decide), hE 10 (2, 2) rfl (by decide), hF.2.2.2.2.2.2.2.2.1, hF.2.2.2.2.2.2.2.1, hF.2.2.2.2.2.2.1, hF.2.2.2.2.2.1, hF.2.2.2.2.1, hF.2.2.2.1, hF.2.2.1, hF.2.1, hF.1, k1, k2⟩)))))))))))))))))))
  · exact Or.inr (Or.inr (Or.inr (Or.inr (Or.inr (Or.inr (Or.inr (Or.inr (Or.inr (Or.inr (Or.inr (Or.inr (Or.inr (Or.inr (Or.inr (Or.inr (Or.inr (Or.inr (Or.inr (Or.inr (Or.inl ⟨pn (0 :: (hr tys_s157b [x, c, i, t, k, op, m] ++ (hr stys_s157b [] ++ tq))) 10, hE 6 (0, 0) rfl (by decide), hE 10 (2, 2) rfl (by decide), hF.2.2.2.2.2.2.2.2.2.1, hF.2.2.2.2.2.2.2.2.1, hF.2.2.2.2.2.2.2.1, hF.2.2.2.2.2.2.1, hF.2.2.2.2.2.1, hF.2.2.2.2.1, hF.2.2.2.1, hF.2.2.1, hF.2.1, hF.1, k1, k2⟩))))))))))))))))))))
  · exact Or.inr (Or.inr (Or.inr (Or.inr (Or.inr (Or.inr (Or.inr (Or.inr (Or.inr (Or.inr (Or.inr (Or.inr (Or.inr (Or.inr (Or.inr (Or.inr (Or.inr (Or.inr (Or.inr (Or.inr (Or.inr (Or.inl ⟨pn (0 :: (hr tys_s157b [x, c, i, t, k, op, m] ++ (hr stys_s157b [] ++ tq))) 10, hE 4 (3, 3) rfl (by decide), hE 6 (0, 0) rfl (by decide), hE 10 (2, 2) rfl (by decide), hF.2.2.2.2.2.2.2.2.2.1, hF.2.2.2.2.2.2.2.2.1, hF.2.2.2.2.2.2.2.1, hF.2.2.2.2.2.2.1, hF.2.2.2.2.2.1, hF.2.2.2.2.1, hF.2.2.2.1, hF.2.2.1, hF.2.1, hF.1, k1, k2⟩)))))))))))))))))))))
  · exact Or.inr (Or.inr (Or.inr (Or.inr (Or.inr (Or.inr (Or.inr (Or.inr (Or.inr (Or.inr (Or.inr (Or.inr (Or.inr (Or.inr (Or.inr (Or.inr (Or.inr (Or.inr (Or.inr (Or.inr (Or.inr (Or.inr (Or.inl ⟨pn (0 :: (hr tys_s157b [x, c, i, t, k, op, m] ++ (hr stys_s157b [] ++ tq))) 10, hE 4 (2, 2) rfl (by decide), hE 6 (0, 0) rfl (by decide), hE 10 (2, 2) rfl (by decide), hF.2.2.2.2.2.2.2.2.1, hF.2.2.2.2.2.2.2.1, hF.2.2.2.2.2.2.1, hF.2.2.2.2.2.1, hF.2.2.2.2.1, hF.2.2.2.1, hF.2.2.1, hF.2.1, hF.1, k1, k2⟩))))))))))))))))))))))
  · exact Or.inr (Or.inr (Or.inr (Or.inr (Or.inr (Or.inr (Or.inr (Or.inr (Or.inr (Or.inr (Or.inr (Or.inr (Or.inr (Or.inr (Or.inr (Or.inr (Or.inr (Or.inr (Or.inr (Or.inr (Or.inr (Or.inr (Or.inr (Or.inl ⟨pn (0 :: (hr tys_s157b [x, c, i, t, k, op, m] ++ (hr stys_s157b [] ++ tq))) 10, hE 4 (1, 1) rfl (by decide), hE 6 (0, 0) rfl (by decide), hE 10 (2, 2) rfl (by decide), hF.2.2.2.2.2.2.2.2.1, hF.2.2.2.2.2.2.2.1, hF.2.2.2.2.2.2.1, hF.2.2.2.2.2.1, hF.2.2.2.2.1, hF.2.2.2.1, hF.2.2.1, hF.2.1, hF.1, k1, k2⟩)))))))))))))))))))))))
  · exact Or.inr (Or.inr (Or.inr (Or.inr (Or.inr (Or.inr (Or.inr (Or.inr (Or.inr (Or.inr (Or.inr (Or.inr (Or.inr (Or.inr (Or.inr (Or.inr (Or.inr (Or.inr (Or.inr (Or.inr (Or.inr (Or.inr (Or.inr (Or.inr (Or.inl ⟨pn (0 :: (hr tys_s157b [x, c, i, t, k, op, m] ++ (hr stys_s157b [] ++ tq))) 10, hE 4 (0, 0) rfl (by decide), hE 6 (0, 0) rfl (by decide), hE 10 (2, 2) rfl (by decide), hF.2.2.2.2.2.2.1, hF.2.2.2.2.2.1, hF.2.2.2.2.1, hF.2.2.2.1, hF.2.2.1, hF.2.1, hF.1, k1, k2⟩))))))))))))))))))))))))
  · exact Or.inr (Or.inr (Or.inr (Or.inr (Or.inr (Or.inr (Or.inr (Or.inr (Or.inr (Or.inr (Or.inr (Or.inr (Or.inr (Or.inr (Or.inr (Or.inr (Or.inr (Or.inr (Or.inr (Or.inr (Or.inr (Or.inr (Or.inr (Or.inr (Or.inr (Or.inl ⟨pn (0 :: (hr tys_s157b [x, c, i, t, k, op, m] ++ (hr stys_s157b [] ++ tq))) 10, hE 4 (3, 3) rfl (by decide), hE 6 (0, 0) rfl (by decide), hE 10 (2, 2) rfl (by decide), hF.2.2.2.2.2.2.2.2.1, hF.2.2.2.2.2.2.2.1, hF.2.2.2.2.2.2.1, hF.2.2.2.2.2.1, hF.2.2.2.2.1, hF.2.2.2.1, hF.2.2.1, hF.2.1, hF.1, k1, k2⟩)))))))))))))))))))))))))
  · exact Or.inr (Or.inr (Or.inr (Or.inr (Or.inr (Or.inr (Or.inr (Or.inr (Or.inr (Or.inr (Or.inr (Or.inr (Or.inr (Or.inr (Or.inr (Or.inr (Or.inr (Or.inr (Or.inr (Or.inr (Or.inr (Or.inr (Or.inr (Or.inr (Or.inr (Or.inr (Or.inl ⟨hE 6 (0, 0) rfl (by decide), hE 7 (1, 1) rfl (by decide), hF.2.2.2.2.1, hF.2.2.2.1, hF.2.2.1, hF.2.1, hF.1, k1, k2⟩))))))))))))))))))))))))))
  · exact Or.inr (Or.inr (Or.inr (Or.inr (Or.inr (Or.inr (Or.inr (Or.inr (Or.inr (Or.inr (Or.inr (Or.inr (Or.inr (Or.inr (Or.inr (Or.inr (Or.inr (Or.inr (Or.inr (Or.inr (Or.inr (Or.inr (Or.inr (Or.inr (Or.inr (Or.inr (Or.inr (Or.inl ⟨hE 4 (2, 2) rfl (by decide), hE 6 (0, 0) rfl (by decide), hE 7 (1, 1) rfl (by decide), hF.2.2.2.2.1, hF.2.2.2.1, hF.2.2.1, hF.2.1, hF.1, k1, k2⟩)))))))))))))))))))))))))))
  · exact Or.inr (Or.inr (Or.inr (Or.inr (Or.inr (Or.inr (Or.inr (Or.inr (Or.inr (Or.inr (Or.inr (Or.inr (Or.inr (Or.inr (Or.inr (Or.inr (Or.inr (Or.inr (Or.inr (Or.inr (Or.inr (Or.inr (Or.inr (Or.inr (Or.inr (Or.inr (Or.inr (Or.inr (Or.inl ⟨hE 4 (1, 1) rfl (by decide), hE 6 (0, 0) rfl (by decide), hE 7 (1, 1) rfl (by decide), hF.2.2.2.1, hF.2.2.1, hF.2.1, hF.1, k1, k2⟩))))))))))))))))))))))))))))
  · exact Or.inr (Or.inr (Or.inr (Or.inr (Or.inr (Or.inr (Or.inr (Or.inr (Or.inr (Or.inr (Or.inr (Or.inr (Or.inr (Or.inr (Or.inr (Or.inr (Or.inr (Or.inr (Or.inr (Or.inr (Or.inr (Or.inr (Or.inr (Or.inr (Or.inr (Or.inr (Or.inr (Or.inr (Or.inr ⟨hE 4 (0, 0) rfl (by decide), hE 6 (0, 0) rfl (by decide), hE 7 (1, 1) rfl (by decide), hF.2.2.1, hF.2.1, hF.1, k1, k2⟩))))))))))))))))))))))))))))
end
section

/-! the steps of an act, as a function -/
def stO (f i : Int) : Int := if f = 2 ∧ (i = 6 ∨ i = 7) then 13 - i else i
def stA (f i : Int) : Int := if f = 2 ∧ (i = 2 ∨ i = 3) then 5 - i else i
def stF (k op a f c i : Int) : Int :=
  if k = 3 ∧ op = 1 then (if i < 4 then 100 + i else if i = 4 then 1 else if i < 9 then 200 + i - 5 else 0)
  else if k = 4 ∧ (op = 1 ∨ op = 3) then (if i = 0 then 1 else 0)
  else if k = 5 then (if stO f i = 0 ∨ stO f i = 5 then 100 else if stO f i = 1 then 3 else if stO f i = 2 then 4 else if stO f i = 3 ∨ stO f i = 7 then 200 else if stO f i = 4 then 5 else if stO f i = 6 then 2 else 0)
  else if k = 0 ∧ op = 1 then (if i = 0 then 100 + a % 4 else if i = 1 then 1 else if i = 2 then 200 + a % 4 else 0)
  else if stA f i = 0 then 100 + (if k = 0 then a % 4 else if k = 1 then 1 - op else if k = 3 then c % 4 else 0)
  else if stA f i = 1 then (if k = 2 then 3 else 1) else if stA f i = 2 then 2
  else if stA f i = 3 then 200 + (if k = 0 then a % 4 else if k = 1 then 1 - op else if k = 3 then c % 4 else 0) else 0
def stS (h : Hp) (x c i : Int) : Int := stF (rd 32 (rd 36 x h) h) (rd 37 x h) (rd 38 x h) (rd 34 (rd 36 x h) h) c i
theorem ret_eq {d m n : Nat} {c : Cfg} {z z' : Int} {h : Hp} (K : Ev d m c (some (iv z), h, n)) (e : z = z') : Ev d m c (some (iv z'), h, n) := by
  rw [← e]
  exact K
theorem c_stepOf_b {h : Hp} (hT : TInv h) {ls : List (Option Value)} {x c i t k op m : Int} (b_x : 0 ≤ x ∧ x ≤ 39) (b_c : 0 ≤ c ∧ c ≤ 4) (b_i : -1 ≤ i ∧ i ≤ 20) (b_t : 0 ≤ t ∧ t ≤ 5) (b_k : 0 ≤ k ∧ k ≤ 5) (b_op : 0 ≤ op ∧ op ≤ 4) (b_m : -3 ≤ m ∧ m ≤ 4) (a : Int)
    (hm : m = (if k = 0 then a % 4 else if k = 1 then 1 - op else if k = 3 then c % 4 else 0)) (h1 : k ≠ 5) (h2 : ¬ (k = 3 ∧ op = 1)) (h3 : ¬ (k = 4 ∧ (op = 1 ∨ op = 3)))
    (hl : LVs [some (rv 31), some (iv x), some (iv c), some (iv i), some (iv t), some (iv k), some (iv op), some (iv m), none] ls) : ∀ d, 3 ≤ d → Ev d 157 (253, ls, [], h, fl_tot) (some (iv (stF k op a (rd 34 t h) c i)), h, fl_tot) := by
  intro d hd
  unfold stF
  rw [if_neg h2, if_neg h3, if_neg h1, ← hm]
  have km : k = 0 → m = a % 4 := fun z => by rw [hm, if_pos z]
  rcases s157b hT b_x b_c b_i b_t b_k b_op b_m hl with ⟨fault10, f0, f1, f2, rfl, f4, f5, f6, f7, f8, T, K⟩ | ⟨fault10, f0, f1, f2, f3, rfl, f5, f6, f7, f8, f9, T, K⟩ | ⟨fault10, f0, f1, f2, f3, rfl, f5, f6, f7, f8, T, K⟩ | ⟨fault10, f0, f1, f2, f3, rfl, f5, f6, f7, f8, T, K⟩ | ⟨fault10, f0, f1, f2, f3, rfl, f5, f6, f7, f8, T, K⟩ | ⟨fault10, f0, f1, f2, f3, rfl, f5, f6, T, K⟩ | ⟨fault10, f0, f1, f2, f3, rfl, f5, f6, f7, f8, f9, f10, T, K⟩ | ⟨fault10, f0, f1, f2, rfl, f4, f5, f6, f7, f8, f9, f10, T, K⟩ | ⟨fault10, f0, f1, f2, f3, rfl, f5, f6, f7, f8, f9, f10, f11, T, K⟩ | ⟨fault10, f0, f1, f2, f3, rfl, f5, f6, f7, f8, f9, f10, T, K⟩ | ⟨fault10, f0, f1, f2, f3, rfl, f5, f6, f7, f8, f9, f10, T, K⟩ | ⟨fault10, f0, f1, f2, f3, rfl, f5, f6, f7, f8, f9, f10, T, K⟩ | ⟨fault10, f0, f1, f2, f3, rfl, f5, f6, f7, f8, T, K⟩ | ⟨fault10, f0, f1, f2, f3, rfl, f5, f6, f7, f8, f9, f10, T, K⟩ | ⟨fault10, f0, f1, f2, f3, rfl, f5, f6, f7, f8, f9, T, K⟩ | ⟨fault10, f0, f1, f2, f3, f4, rfl, f6, f7, f8, f9, f10, T, K⟩ | ⟨fault10, f0, f1, f2, f3, f4, rfl, f6, f7, f8, f9, T, K⟩ | ⟨fault10, f0, f1, f2, f3, f4, rfl, f6, f7, f8, f9, T, K⟩ | ⟨fault10, f0, f1, f2, f3, f4, rfl, f6, f7, T, K⟩ | ⟨fault10, f0, f1, f2, f3, f4, rfl, f6, f7, f8, f9, f10, f11, T, K⟩ | ⟨fault10, f0, f1, f2, f3, rfl, f5, f6, f7, f8, f9, f10, f11, T, K⟩ | ⟨fault10, f0, f1, f2, f3, f4, rfl, f6, f7, f8, f9, f10, f11, f12, T, K⟩ | ⟨fault10, f0, f1, f2, f3, f4, rfl, f6, f7, f8, f9, f10, f11, T, K⟩ | ⟨fault10, f0, f1, f2, f3, f4, rfl, f6, f7, f8, f9, f10, f11, T, K⟩ | ⟨fault10, f0, f1, f2, f3, f4, rfl, f6, f7, f8, f9, T, K⟩ | ⟨fault10, f0, f1, f2, f3, f4, rfl, f6, f7, f8, f9, f10, f11, T, K⟩ | ⟨f0, f1, f2, f3, f4, f5, f6, T, K⟩ | ⟨f0, f1, f2, f3, f4, f5, f6, f7, T, K⟩ | ⟨f0, f1, f2, f3, f4, f5, f6, T, K⟩ | ⟨f0, f1, f2, f3, f4, f5, T, K⟩ <;>
    first
      | (exfalso; omega)
      | (refine ret_eq (K d hd) ?_
         unfold stA
         repeat (first | rw [if_pos (by omega)] | rw [if_neg (by omega)])
         first | done | rfl | omega)
theorem c_stepOf {h : Hp} (hT : TInv h) {x c i : Int} (b_x : 0 ≤ x ∧ x ≤ 39) (b_c : 0 ≤ c ∧ c ≤ 4) (b_i : -1 ≤ i ∧ i ≤ 20) (ha : rd 32 (rd 36 x h) h = 0 → 0 ≤ rd 38 x h ∧ rd 38 x h ≤ 31) : ∀ d, 3 ≤ d → Ev d 157 (0, fl_enter 9 [rv 31, iv x, iv c, iv i], [], h, fl_tot) (some (iv (stS h x c i)), h, fl_tot) := by
  intro d hd
  unfold stS
  rcases s157 hT b_x b_c b_i (LVs.self (fl_enter 9 [rv 31, iv x, iv c, iv i])) with ⟨trayOf6, kind8, opOf10, f0, f1, f2, rfl, rfl, rfl, f6, f7, f8, f9, f10, f11, T, lv, Hl, K⟩ | ⟨trayOf6, kind8, opOf10, n11, f0, f1, f2, f3, rfl, rfl, rfl, f7, f8, f9, f10, f11, f12, rfl, T, lv, Hl, K⟩ | ⟨trayOf6, kind8, opOf10, n11, f0, f1, f2, f3, rfl, rfl, rfl, f7, f8, f9, f10, f11, rfl, T, lv, Hl, K⟩ | ⟨trayOf6, kind8, opOf10, aOf12, f0, f1, f2, f3, rfl, rfl, rfl, f7, f8, f9, f10, rfl, f12⟩ | ⟨trayOf6, kind8, opOf10, aOf12, f0, f1, f2, f3, rfl, rfl, rfl, f7, f8, f9, f10, rfl, f12⟩ | ⟨trayOf6, kind8, opOf10, aOf12, n13, f0, f1, f2, f3, f4, rfl, rfl, rfl, f8, f9, f10, f11, rfl, rfl, T, lv, Hl, K⟩ | ⟨trayOf6, kind8, opOf10, fault12, f0, f1, f2, f3, rfl, rfl, rfl, f7, f8, f9, rfl, f11, f12, f13, f14, f15, f16, f17, f18, f19, T, K⟩ | ⟨trayOf6, kind8, opOf10, fault12, f0, f1, f2, f3, f4, rfl, rfl, rfl, f8, f9, f10, rfl, f12, T, K⟩ | ⟨trayOf6, kind8, opOf10, fault12, f0, f1, f2, f3, f4, rfl, rfl, rfl, f8, f9, f10, rfl, f12, T, K⟩ | ⟨trayOf6, kind8, opOf10, fault12, f0, f1, f2, f3, f4, rfl, rfl, rfl, f8, f9, f10, rfl, f12, T, K⟩ | ⟨trayOf6, kind8, opOf10, fault12, f0, f1, f2, f3, f4, rfl, rfl, rfl, f8, f9, f10, rfl, f12, T, K⟩ | ⟨trayOf6, kind8, opOf10, fault12, f0, f1, f2, f3, f4, rfl, rfl, rfl, f8, f9, f10, rfl, f12, T, K⟩ | ⟨trayOf6, kind8, opOf10, fault12, f0, f1, f2, f3, f4, rfl, rfl, rfl, f8, f9, f10, rfl, f12, T, K⟩ | ⟨trayOf6, kind8, opOf10, fault12, f0, f1, f2, f3, f4, rfl, rfl, rfl, f8, f9, f10, rfl, f12, T, K⟩ | ⟨trayOf6, kind8, opOf10, fault12, f0, f1, f2, f3, f4, rfl, rfl, rfl, f8, f9, f10, rfl, f12, T, K⟩ | ⟨trayOf6, kind8, opOf10, fault12, f0, f1, f2, f3, f4, rfl, rfl, rfl, f8, f9, f10, rfl, f12, f13, f14, f15, f16, f17, f18, f19, f20, f21, T, K⟩ | ⟨trayOf6, kind8, opOf10, fault12, f0, f1, f2, f3, f4, rfl, rfl, rfl, f8, f9, f10, rfl, f12, f13, T, K⟩ | ⟨trayOf6, kind8, opOf10, fault12, f0, f1, f2, f3, rfl, rfl, rfl, f7, f8, f9, rfl, f11, f12, f13, f14, f15, f16, f17, f18, f19, f20, f21, T, K⟩ | ⟨trayOf6, kind8, opOf10, fault12, f0, f1, f2, f3, f4, rfl, rfl, rfl, f8, f9, f10, rfl, f12, f13, f14, T, K⟩ | ⟨trayOf6, kind8, opOf10, fault12, f0, f1, f2, f3, f4, rfl, rfl, rfl, f8, f9, f10, rfl, f12, f13, f14, T, K⟩ | ⟨trayOf6, kind8, opOf10, fault12, f0, f1, f2, f3, f4, rfl, rfl, rfl, f8, f9, f10, rfl, f12, f13, f14, T, K⟩ | ⟨trayOf6, kind8, opOf10, fault12, f0, f1, f2, f3, f4, rfl, rfl, rfl, f8, f9, f10, rfl, f12, f13, f14, T, K⟩ | ⟨trayOf6, kind8, opOf10, fault12, f0, f1, f2, f3, f4, rfl, rfl, rfl, f8, f9, f10, rfl, f12, f13, f14, T, K⟩ | ⟨trayOf6, kind8, opOf10, fault12, f0, f1, f2, f3, f4, rfl, rfl, rfl, f8, f9, f10, rfl, f12, f13, f14, T, K⟩ | ⟨trayOf6, kind8, opOf10, fault12, f0, f1, f2, f3, f4, rfl, rfl, rfl, f8, f9, f10, rfl, f12, f13, f14, T, K⟩ | ⟨trayOf6, kind8, opOf10, fault12, f0, f1, f2, f3, f4, rfl, rfl, rfl, f8, f9, f10, rfl, f12, f13, f14, T, K⟩ | ⟨trayOf6, kind8, opOf10, fault12, f0, f1, f2, f3, f4, rfl, rfl, rfl, f8, f9, f10, rfl, f12, f13, f14, f15, f16, f17, f18, f19, f20, f21, f22, T, K⟩ | ⟨trayOf6, kind8, opOf10, fault12, f0, f1, f2, f3, f4, rfl, rfl, rfl, f8, f9, f10, rfl, f12, f13, f14, T, K⟩ | ⟨trayOf6, kind8, opOf10, f0, f1, f2, rfl, rfl, rfl, f6, f7, f8, f9, T, K⟩ | ⟨trayOf6, kind8, opOf10, f0, f1, f2, f3, rfl, rfl, rfl, f7, f8, f9, f10, T, K⟩ | ⟨trayOf6, kind8, opOf10, f0, f1, f2, rfl, rfl, rfl, f6, f7, f8, f9, f10, f11, f12, f13, T, lv, Hl, K⟩ | ⟨trayOf6, kind8, opOf10, f0, f1, f2, rfl, rfl, rfl, f6, f7, f8, f9, f10, T, K⟩ | ⟨trayOf6, kind8, opOf10, f0, f1, f2, f3, rfl, rfl, rfl, f7, f8, f9, f10, f11, T, K⟩ | ⟨trayOf6, kind8, opOf10, n11, f0, f1, f2, f3, rfl, rfl, rfl, f7, f8, f9, f10, f11, f12, f13, rfl, T, lv, Hl, K⟩ | ⟨trayOf6, kind8, opOf10, f0, f1, f2, f3, rfl, rfl, rfl, f7, f8, f9, f10, f11, T, K⟩ | ⟨trayOf6, kind8, opOf10, f0, f1, f2, f3, rfl, rfl, rfl, f7, f8, f9, f10, f11, T, K⟩ | ⟨trayOf6, kind8, opOf10, f0, f1, f2, f3, rfl, rfl, rfl, f7, f8, f9, f10, T, K⟩ | ⟨trayOf6, kind8, opOf10, f0, f1, f2, f3, rfl, rfl, rfl, f7, f8, f9, T, K⟩ <;>
    first
      | (exfalso; omega)
      | (refine K d _ hd (c_stepOf_b T.1 b_x b_c b_i (by omega) (by omega) (by omega) (by omega) _ ?_ (by omega) (by omega) (by omega) Hl d hd)
         repeat (first | rw [if_pos (by omega)] | rw [if_neg (by omega)])
         done)
      | (refine ret_eq (K d hd) ?_
         unfold stF stO
         repeat (first | rw [if_pos (by omega)] | rw [if_neg (by omega)])
         first | done | rfl | omega)
end
section
/-! FORGETTING LOCALS, FRAMES BY KIND, SUMS OVER THE CLERKS -/
theorem LVs.fg {vs ls : List (Option Value)} (h : LVs vs ls) (i : Nat) {z : Int} (hv : vs[i]? = some (some (iv z))) : LVs (vs.set i none) ls := by
  refine ⟨by rw [List.length_set]; exact h.1, fun j => ?_⟩
  by_cases hj : j = i
  · subst hj
    have hlt := (List.getElem?_eq_some_iff.mp hv).1
    rw [List.getElem?_set_self hlt]
    refine ⟨fun _ v hl => ?_, fun v hl => (by cases hl)⟩
    have := (h.2 j).2 _ hv
    rw [this] at hl
    cases hl
    rfl
  · rw [List.getElem?_set_ne (Ne.symm hj)]
    exact h.2 j
/-- only given arrays and given slots of the object are written -/
def Fq (Ks : List Nat) (fs : List Int) (h h' : Hp) : Prop := (∀ K i, 32 ≤ K → K < 93 → K ∉ Ks → rd K i h' = rd K i h) ∧ (∀ k : Int, 0 ≤ k → k ∉ fs → rd 31 k h' = rd 31 k h)
theorem Fq.refl {Ks : List Nat} {fs : List Int} (h : Hp) : Fq Ks fs h h := ⟨fun _ _ _ _ _ => rfl, fun _ _ _ => rfl⟩
theorem Fq.trans {Ks : List Nat} {fs : List Int} {a b c : Hp} (x : Fq Ks fs a b) (y : Fq Ks fs b c) : Fq Ks fs a c := ⟨fun K i h1 h2 h3 => (y.1 K i h1 h2 h3).trans (x.1 K i h1 h2 h3), fun k h1 h2 => (y.2 k h1 h2).trans (x.2 k h1 h2)⟩
theorem Fq.wide {Ks Ks' : List Nat} {fs fs' : List Int} {a b : Hp} (h1 : (Ks.all fun K => Ks'.contains K) = true) (h2 : (fs.all fun k => fs'.contains k) = true) (x : Fq Ks fs a b) : Fq Ks' fs' a b := by
  refine ⟨fun K i l1 l2 l3 => x.1 K i l1 l2 fun z => l3 ?_, fun k l1 l2 => x.2 k l1 fun z => l2 ?_⟩
  · have := List.all_eq_true.mp h1 K z
    simpa using this
  · have := List.all_eq_true.mp h2 k z
    simpa using this
theorem Fq.put {Ks : List Nat} {fs : List Int} {a b : Hp} (x : Fq Ks fs a b) (K : Nat) (i v : Int) (h1 : (decide (32 ≤ K) && decide (K < 93) && Ks.contains K) = true) : Fq Ks fs a (wr K i v b) := by
  simp only [Bool.and_eq_true, decide_eq_true_eq, List.contains_iff_mem] at h1
  refine ⟨fun K' j l1 l2 l3 => ?_, fun k l1 l2 => ?_⟩
  · have hne : K' ≠ K := fun z => l3 (by rw [z]; exact h1.2)
    rw [rd_k (by simp only [kne, Bool.and_eq_true, decide_eq_true_eq]; omega)]
    exact x.1 K' j l1 l2 l3
  · rw [rd_k (by simp only [kne, Bool.and_eq_true, decide_eq_true_eq]; omega)]
    exact x.2 k l1 l2
theorem Fq.putf {Ks : List Nat} {fs : List Int} {a b : Hp} (x : Fq Ks fs a b) (i v : Int) (h1 : (decide (0 ≤ i) && fs.contains i) = true) : Fq Ks fs a (wr 31 i v b) := by
  simp only [Bool.and_eq_true, decide_eq_true_eq, List.contains_iff_mem] at h1
  refine ⟨fun K' j l1 l2 l3 => ?_, fun k l1 l2 => ?_⟩
  · rw [rd_k (by simp only [kne, Bool.and_eq_true, decide_eq_true_eq]; omega)]
    exact x.1 K' j l1 l2 l3
  · have hne : k ≠ i := fun z => l2 (by rw [z]; exact h1.2)
    rw [rd_ne l1 h1.1 hne]
    exact x.2 k l1 l2
theorem Fq.k {Ks : List Nat} {fs : List Int} {a b : Hp} (x : Fq Ks fs a b) (K : Nat) (i : Int) (h : (decide (32 ≤ K) && decide (K < 93) && !Ks.contains K) = true) : rd K i b = rd K i a := by
  simp only [Bool.and_eq_true, decide_eq_true_eq, Bool.not_eq_true', List.contains_eq_mem, decide_eq_false_iff_not] at h
  exact x.1 K i h.1.1 h.1.2 h.2
theorem Fq.f {Ks : List Nat} {fs : List Int} {a b : Hp} (x : Fq Ks fs a b) (k : Int) (h : (decide (0 ≤ k) && !fs.contains k) = true) : rd 31 k b = rd 31 k a := by
  simp only [Bool.and_eq_true, decide_eq_true_eq, Bool.not_eq_true', List.contains_eq_mem, decide_eq_false_iff_not] at h
  exact x.2 k h.1 h.2
def S5 (f : Int → Int) : Int := f 0 + f 1 + f 2 + f 3 + f 4
theorem S5_upd {f g : Int → Int} {c : Int} (hc : 0 ≤ c ∧ c ≤ 4) (h : ∀ i, i ≠ c → g i = f i) : S5 g = S5 f - f c + g c := by
  unfold S5
  have : c = 0 ∨ c = 1 ∨ c = 2 ∨ c = 3 ∨ c = 4 := by omega
  rcases this with rfl | rfl | rfl | rfl | rfl
  · rw [h 1 (by omega), h 2 (by omega), h 3 (by omega), h 4 (by omega)]; omega
  · rw [h 0 (by omega), h 2 (by omega), h 3 (by omega), h 4 (by omega)]; omega
  · rw [h 0 (by omega), h 1 (by omega), h 3 (by omega), h 4 (by omega)]; omega
  · rw [h 0 (by omega), h 1 (by omega), h 2 (by omega), h 4 (by omega)]; omega
  · rw [h 0 (by omega), h 1 (by omega), h 2 (by omega), h 3 (by omega)]; omega
theorem S5_le {f : Int → Int} {B : Int} (h : ∀ i, 0 ≤ i → i ≤ 4 → f i ≤ B) : S5 f ≤ 5 * B := by
  unfold S5
  have := h 0 (by omega) (by omega)
  have := h 1 (by omega) (by omega)
  have := h 2 (by omega) (by omega)
  have := h 3 (by omega) (by omega)
  have := h 4 (by omega) (by omega)
  omega
theorem S5_le1 {f : Int → Int} {B b c : Int} (hc : 0 ≤ c ∧ c ≤ 4) (h : ∀ i, 0 ≤ i → i ≤ 4 → f i ≤ B) (hb : f c ≤ b) : S5 f ≤ 4 * B + b := by
  unfold S5
  have h0 := h 0 (by omega) (by omega)
  have h1 := h 1 (by omega) (by omega)
  have h2 := h 2 (by omega) (by omega)
  have h3 := h 3 (by omega) (by omega)
  have h4 := h 4 (by omega) (by omega)
  have : c = 0 ∨ c = 1 ∨ c = 2 ∨ c = 3 ∨ c = 4 := by omega
  rcases this with rfl | rfl | rfl | rfl | rfl <;> omega
end
section
def tys_s165 : List TY := [(2, 31, 0), (1, 0, 5), (1, 0, 3), (1, 0, 1), (1, 0, 8), (1, -2147483648, 2147483647), (0, 0, 0), (0, 0, 0), (0, 0, 0), (0, 0, 0)]
def stys_s165 : List TY := []
theorem chk_s165 : sg_check ([(165, 6)], [], []) 165 0 tys_s165 stys_s165 [(0, (6, 0, 0, 0), (([(2, 1, 31), (1, 2, 0), (1, 3, 0), (1, 4, 0), (1, 5, 0), (1, 6, 0), (1, 0, -1), (1, 3, 0), (0, 0, 0), (0, 0, 0)], [], [(0, 0), (1, 0), (0, 5), (0, 3), (0, 1), (0, 8), (-2147483648, 2147483647)], []), [], []))] = true := by decide +kernel
theorem s165 {h : Hp} (hT : TInv h) {ls : List (Option Value)} {t : Int} {s : Int} {fr : Int} {r : Int} {bf : Int} (b_t : 0 ≤ t ∧ t ≤ 5) (b_s : 0 ≤ s ∧ s ≤ 3) (b_fr : 0 ≤ fr ∧ fr ≤ 1) (b_r : 0 ≤ r ∧ r ≤ 8) (b_bf : -2147483648 ≤ bf ∧ bf ≤ 2147483647) (hl : LVs [some (rv 31), some (iv t), some (iv s), some (iv fr), some (iv r), some (iv bf), none, none, none, none] ls) :
  (Nx h h ∧ (∃ ls', LVs [some (rv 31), some (iv t), some (iv s), some (iv fr), some (iv r), some (iv bf), some (iv (-1)), some (iv s), none, none] ls' ∧ ∀ dd rr, 3 ≤ dd → Ev dd 165 (6, ls', [], h, fl_tot) rr → Ev dd 165 (0, ls, [], h, fl_tot) rr)) := by
  have H := seg chk_s165 (zs := [t, s, fr, r, bf]) (szs := []) hT (show HB tys_s165 [t, s, fr, r, bf] from ⟨b_t, ⟨b_s, ⟨b_fr, ⟨b_r, ⟨b_bf, trivial⟩⟩⟩⟩⟩) (show HB stys_s165 [] from trivial) hl
  obtain ⟨tq, hE, hF, k1, ls', k2, k3⟩ := H
  exact ⟨k1, ls', k2, k3⟩
def tys_s165l : List TY := [(2, 31, 0), (1, 0, 5), (1, 0, 3), (1, 0, 1), (1, 0, 8), (1, -2147483648, 2147483647), (1, -1, 31), (1, 0, 35), (0, 0, 0), (0, 0, 0)]
def stys_s165l : List TY := []
theorem chk_s165l : sg_check ([(165, 6)], [], []) 165 6 tys_s165l stys_s165l [(2, (0, 0, 0, 0), (([(2, 1, 31), (1, 2, 0), (1, 3, 0), (1, 4, 0), (1, 5, 0), (1, 6, 0), (1, 7, 0), (1, 8, 0), (0, 0, 0), (0, 0, 0)], [(1, 7, 0)], [(0, 0), (1, 0), (0, 5), (0, 3), (0, 1), (0, 8), (-2147483648, 2147483647), (-1, 31), (32, 35)], []), [(3, 0, (1, 8, 0), (1, 0, 32), 0)], [])),
 (0, (6, 0, 0, 0), (([(2, 1, 31), (1, 2, 0), (1, 3, 0), (1, 4, 0), (1, 5, 0), (1, 6, 0), (1, 7, 0), (1, 8, 4), (1, 10, 0), (1, 0, 0)], [], [(0, 0), (1, 0), (0, 5), (0, 3), (0, 1), (0, 8), (-2147483648, 2147483647), (-1, 31), (0, 31), (0, 160), (0, 191), (1, 0), (0, 0)], [(1, 31, 37, (2, 11, 63))]), [(0, 0, (1, 0, 0), (1, 0, 0), 0), (0, 0, (1, 12, 0), (1, 0, 0), 0), (9, 63, (1, 10, 0), (1, 12, 0), 0), (20, 10, (1, 9, 0), (1, 8, 0), 0), (22, 9, (1, 0, 32), (1, 2, 0), 0), (2, 0, (1, 8, 0), (1, 0, 32), 0)], [])),
 (0, (6, 0, 0, 0), (([(2, 1, 31), (1, 2, 0), (1, 3, 0), (1, 4, 0), (1, 5, 0), (1, 6, 0), (1, 7, 0), (1, 8, 4), (1, 10, 0), (1, 0, 0)], [], [(0, 0), (1, 0), (0, 5), (0, 3), (0, 1), (0, 8), (-2147483648, 2147483647), (-1, 31), (0, 31), (0, 160), (0, 191), (1, 0), (1, 1), (1, 0), (0, 1)], [(1, 31, 40, (2, 13, 66)), (1, 31, 37, (2, 11, 63))]), [(0, 0, (1, 0, 0), (1, 0, 0), 0), (1, 0, (1, 14, 0), (1, 4, 0), 0), (9, 66, (1, 10, 0), (1, 14, 0), 0), (1, 0, (1, 12, 0), (1, 0, 0), 0), (9, 63, (1, 10, 0), (1, 12, 0), 0), (20, 10, (1, 9, 0), (1, 8, 0), 0), (22, 9, (1, 0, 32), (1, 2, 0), 0), (2, 0, (1, 8, 0), (1, 0, 32), 0)], [])),
 (0, (6, 0, 0, 0), (([(2, 1, 31), (1, 2, 0), (1, 3, 0), (1, 4, 0), (1, 5, 0), (1, 6, 0), (1, 7, 0), (1, 8, 4), (1, 10, 0), (1, 0, 0)], [], [(0, 0), (1, 0), (0, 5), (0, 3), (0, 1), (0, 8), (-2147483648, 2147483647), (-1, 31), (0, 31), (0, 160), (0, 191), (1, 0), (1, 1), (1, 0), (0, 1), (1, 0), (0, 7)], [(1, 31, 39, (2, 15, 65)), (1, 31, 40, (2, 13, 66)), (1, 31, 37, (2, 11, 63))]), [(0, 0, (1, 0, 0), (1, 0, 0), 0), (1, 0, (1, 16, 0), (1, 5, 0), 0), (9, 65, (1, 10, 0), (1, 16, 0), 0), (0, 0, (1, 14, 0), (1, 4, 0), 0), (9, 66, (1, 10, 0), (1, 14, 0), 0), (1, 0, (1, 12, 0), (1, 0, 0), 0), (9, 63, (1, 10, 0), (1, 12, 0), 0), (20, 10, (1, 9, 0), (1, 8, 0), 0), (22, 9, (1, 0, 32), (1, 2, 0), 0), (2, 0, (1, 8, 0), (1, 0, 32), 0)], [])),
 (0, (6, 0, 0, 0), (([(2, 1, 31), (1, 2, 0), (1, 3, 0), (1, 4, 0), (1, 5, 0), (1, 6, 0), (1, 7, 0), (1, 8, 4), (1, 10, 0), (1, 0, 0)], [], [(0, 0), (1, 0), (0, 5), (0, 3), (0, 1), (0, 7), (-2147483648, 2147483647), (-1, 31), (0, 31), (0, 160), (0, 191), (1, 0), (1, 1), (1, 0), (0, 1), (1, 0), (0, 7), (1, 0), (-2147483648, 2147483647)], [(1, 31, 41, (2, 17, 67)), (1, 31, 39, (2, 15, 65)), (1, 31, 40, (2, 13, 66)), (1, 31, 37, (2, 11, 63))]), [(0, 0, (1, 0, 0), (1, 0, 0), 0), (3, 0, (1, 18, 0), (1, 6, 0), 0), (9, 67, (1, 10, 0), (1, 18, 0), 0), (0, 0, (1, 16, 0), (1, 5, 0), 0), (9, 65, (1, 10, 0), (1, 16, 0), 0), (0, 0, (1, 14, 0), (1, 4, 0), 0), (9, 66, (1, 10, 0), (1, 14, 0), 0), (1, 0, (1, 12, 0), (1, 0, 0), 0), (9, 63, (1, 10, 0), (1, 12, 0), 0), (20, 10, (1, 9, 0), (1, 8, 0), 0), (22, 9, (1, 0, 32), (1, 2, 0), 0), (2, 0, (1, 8, 0), (1, 0, 32), 0)], [])),
 (0, (6, 0, 0, 0), (([(2, 1, 31), (1, 2, 0), (1, 3, 0), (1, 4, 0), (1, 5, 0), (1, 6, 0), (1, 8, 0), (1, 8, 4), (1, 10, 0), (1, 0, 1)], [], [(0, 0), (1, 0), (0, 5), (0, 3), (0, 1), (0, 7), (-2147483647, 2147483647), (-1, -1), (0, 31), (0, 160), (0, 191), (1, 0), (1, 1), (1, 0), (0, 1), (1, 0), (0, 7), (1, 0), (-2147483648, 2147483646)], [(1, 31, 41, (2, 17, 67)), (1, 31, 39, (2, 15, 65)), (1, 31, 40, (2, 13, 66)), (1, 31, 37, (2, 11, 63))]), [(0, 0, (1, 7, 0), (1, 0, -1), 0), (1, 0, (1, 0, 1), (1, 0, 0), 0), (2, 0, (1, 18, 0), (1, 6, 0), 0), (9, 67, (1, 10, 0), (1, 18, 0), 0), (0, 0, (1, 16, 0), (1, 5, 0), 0), (9, 65, (1, 10, 0), (1, 16, 0), 0), (0, 0, (1, 14, 0), (1, 4, 0), 0), (9, 66, (1, 10, 0), (1, 14, 0), 0), (1, 0, (1, 12, 0), (1, 0, 0), 0), (9, 63, (1, 10, 0), (1, 12, 0), 0), (20, 10, (1, 9, 0), (1, 8, 0), 0), (22, 9, (1, 0, 32), (1, 2, 0), 0), (2, 0, (1, 8, 0), (1, 0, 32), 0)], [])),
 (0, (6, 0, 0, 0), (([(2, 1, 31), (1, 2, 0), (1, 3, 0), (1, 4, 0), (1, 5, 0), (1, 6, 0), (1, 7, 0), (1, 8, 4), (1, 10, 0), (1, 0, 1)], [], [(0, 0), (1, 0), (0, 5), (0, 3), (0, 1), (0, 7), (-2147483647, 2147483647), (0, 31), (0, 31), (0, 160), (0, 191), (1, 0), (1, 1), (1, 0), (0, 1), (1, 0), (0, 7), (1, 0), (-2147483648, 2147483646), (-2147483648, 2147483647), (0, 160), (0, 191), (-2147483648, 2147483647)], [(1, 31, 41, (2, 17, 67)), (1, 31, 39, (2, 15, 65)), (1, 31, 40, (2, 13, 66)), (1, 31, 37, (2, 11, 63))]), [(5, 0, (1, 19, 0), (1, 22, 0), 0), (9, 67, (1, 21, 0), (1, 22, 0), 0), (20, 21, (1, 20, 0), (1, 7, 0), 0), (22, 20, (1, 0, 32), (1, 2, 0), 0), (9, 67, (1, 10, 0), (1, 19, 0), 0), (1, 0, (1, 7, 0), (1, 0, -1), 0), (1, 0, (1, 0, 1), (1, 0, 0), 0), (2, 0, (1, 18, 0), (1, 6, 0), 0), (9, 67, (1, 10, 0), (1, 18, 0), 0), (0, 0, (1, 16, 0), (1, 5, 0), 0), (9, 65, (1, 10, 0), (1, 16, 0), 0), (0, 0, (1, 14, 0), (1, 4, 0), 0), (9, 66, (1, 10, 0), (1, 14, 0), 0), (1, 0, (1, 12, 0), (1, 0, 0), 0), (9, 63, (1, 10, 0), (1, 12, 0), 0), (20, 10, (1, 9, 0), (1, 8, 0), 0), (22, 9, (1, 0, 32), (1, 2, 0), 0), (2, 0, (1, 8, 0), (1, 0, 32), 0)], [])),
 (0, (6, 0, 0, 0), (([(2, 1, 31), (1, 2, 0), (1, 3, 0), (1, 4, 0), (1, 5, 0), (1, 6, 0), (1, 8, 0), (1, 8, 4), (1, 10, 0), (1, 0, 1)], [], [(0, 0), (1, 0), (0, 5), (0, 3), (0, 1), (0, 7), (-2147483647, 2147483647), (0, 31), (0, 31), (0, 160), (0, 191), (1, 0), (1, 1), (1, 0), (0, 1), (1, 0), (0, 7), (1, 0), (-2147483648, 2147483646), (-2147483647, 2147483647), (0, 160), (0, 191), (-2147483648, 2147483646)], [(1, 31, 41, (2, 17, 67)), (1, 31, 39, (2, 15, 65)), (1, 31, 40, (2, 13, 66)), (1, 31, 37, (2, 11, 63))]), [(4, 0, (1, 19, 0), (1, 22, 0), 0), (9, 67, (1, 21, 0), (1, 22, 0), 0), (20, 21, (1, 20, 0), (1, 7, 0), 0), (22, 20, (1, 0, 32), (1, 2, 0), 0), (9, 67, (1, 10, 0), (1, 19, 0), 0), (1, 0, (1, 7, 0), (1, 0, -1), 0), (1, 0, (1, 0, 1), (1, 0, 0), 0), (2, 0, (1, 18, 0), (1, 6, 0), 0), (9, 67, (1, 10, 0), (1, 18, 0), 0), (0, 0, (1, 16, 0), (1, 5, 0), 0), (9, 65, (1, 10, 0), (1, 16, 0), 0), (0, 0, (1, 14, 0), (1, 4, 0), 0), (9, 66, (1, 10, 0), (1, 14, 0), 0), (1, 0, (1, 12, 0), (1, 0, 0), 0), (9, 63, (1, 10, 0), (1, 12, 0), 0), (20, 10, (1, 9, 0), (1, 8, 0), 0), (22, 9, (1, 0, 32), (1, 2, 0), 0), (2, 0, (1, 8, 0), (1, 0, 32), 0)], []))] = true := by decide +kernel
theorem s165l {h : Hp} (hT : TInv h) {ls : List (Option Value)} {t : Int} {s : Int} {fr : Int} {r : Int} {bf : Int} {fo : Int} {key : Int} (b_t : 0 ≤ t ∧ t ≤ 5) (b_s : 0 ≤ s ∧ s ≤ 3) (b_fr : 0 ≤ fr ∧ fr ≤ 1) (b_r : 0 ≤ r ∧ r ≤ 8) (b_bf : -2147483648 ≤ bf ∧ bf ≤ 2147483647) (b_fo : -1 ≤ fo ∧ fo ≤ 31) (b_key : 0 ≤ key ∧ key ≤ 35) (hl : LVs [some (rv 31), some (iv t), some (iv s), some (iv fr), some (iv r), some (iv bf), some (iv fo), some (iv key), none, none] ls) :
  ((32 ≤ key ∧ key ≤ 35) ∧ (32 ≤ key) ∧ Nx h h ∧ (∀ dd, 3 ≤ dd → Ev dd 165 (6, ls, [], h, fl_tot) (some (iv fo), h, fl_tot))) ∨
  (∃ (n9 n10 has12 : Int) , (0 ≤ key ∧ key ≤ 31) ∧ (0 ≤ n9 ∧ n9 ≤ 160) ∧ (0 ≤ n10 ∧ n10 ≤ 191) ∧ (0 ≤ has12 ∧ has12 ≤ 0) ∧ (key < 32) ∧ (n9 = 32 * t) ∧ (n10 = n9 + key) ∧ (has12 = rd 63 n10 h) ∧ (has12 = 0) ∧ ((0 : Int) = 0) ∧ Nx h h ∧ (∃ ls', LVs [some (rv 31), some (iv t), some (iv s), some (iv fr), some (iv r), some (iv bf), some (iv fo), some (iv (key + 4)), some (iv n10), some (iv 0)] ls' ∧ ∀ dd rr, 3 ≤ dd → Ev dd 165 (6, ls', [], h, fl_tot) rr → Ev dd 165 (6, ls, [], h, fl_tot) rr)) ∨
  (∃ (n9 n10 has12 isNew14 : Int) , (0 ≤ key ∧ key ≤ 31) ∧ (0 ≤ n9 ∧ n9 ≤ 160) ∧ (0 ≤ n10 ∧ n10 ≤ 191) ∧ (1 ≤ has12 ∧ has12 ≤ 1) ∧ (0 ≤ isNew14 ∧ isNew14 ≤ 1) ∧ (key < 32) ∧ (n9 = 32 * t) ∧ (n10 = n9 + key) ∧ (has12 = rd 63 n10 h) ∧ (has12 ≠ 0) ∧ (isNew14 = rd 66 n10 h) ∧ (isNew14 ≠ fr) ∧ ((0 : Int) = 0) ∧ Nx h h ∧ (∃ ls', LVs [some (rv 31), some (iv t), some (iv s), some (iv fr), some (iv r), some (iv bf), some (iv fo), some (iv (key + 4)), some (iv n10), some (iv 0)] ls' ∧ ∀ dd rr, 3 ≤ dd → Ev dd 165 (6, ls', [], h, fl_tot) rr → Ev dd 165 (6, ls, [], h, fl_tot) rr)) ∨
  (∃ (n9 n10 has12 isNew14 rowOf16 : Int) , (0 ≤ key ∧ key ≤ 31) ∧ (0 ≤ n9 ∧ n9 ≤ 160) ∧ (0 ≤ n10 ∧ n10 ≤ 191) ∧ (1 ≤ has12 ∧ has12 ≤ 1) ∧ (0 ≤ isNew14 ∧ isNew14 ≤ 1) ∧ (0 ≤ rowOf16 ∧ rowOf16 ≤ 7) ∧ (key < 32) ∧ (n9 = 32 * t) ∧ (n10 = n9 + key) ∧ (has12 = rd 63 n10 h) ∧ (has12 ≠ 0) ∧ (isNew14 = rd 66 n10 h) ∧ (isNew14 = fr) ∧ (rowOf16 = rd 65 n10 h) ∧ (rowOf16 ≠ r) ∧ ((0 : Int) = 0) ∧ Nx h h ∧ (∃ ls', LVs [some (rv 31), some (iv t), some (iv s), some (iv fr), some (iv r), some (iv bf), some (iv fo), some (iv (key + 4)), some (iv n10), some (iv 0)] ls' ∧ ∀ dd rr, 3 ≤ dd → Ev dd 165 (6, ls', [], h, fl_tot) rr → Ev dd 165 (6, ls, [], h, fl_tot) rr)) ∨
  (∃ (n9 n10 has12 isNew14 rowOf16 stamp18 : Int) , (0 ≤ r ∧ r ≤ 7) ∧ (0 ≤ key ∧ key ≤ 31) ∧ (0 ≤ n9 ∧ n9 ≤ 160) ∧ (0 ≤ n10 ∧ n10 ≤ 191) ∧ (1 ≤ has12 ∧ has12 ≤ 1) ∧ (0 ≤ isNew14 ∧ isNew14 ≤ 1) ∧ (0 ≤ rowOf16 ∧ rowOf16 ≤ 7) ∧ (-2147483648 ≤ stamp18 ∧ stamp18 ≤ 2147483647) ∧ (key < 32) ∧ (n9 = 32 * t) ∧ (n10 = n9 + key) ∧ (has12 = rd 63 n10 h) ∧ (has12 ≠ 0) ∧ (isNew14 = rd 66 n10 h) ∧ (isNew14 = fr) ∧ (rowOf16 = rd 65 n10 h) ∧ (rowOf16 = r) ∧ (stamp18 = rd 67 n10 h) ∧ (bf ≤ stamp18) ∧ ((0 : Int) = 0) ∧ Nx h h ∧ (∃ ls', LVs [some (rv 31), some (iv t), some (iv s), some (iv fr), some (iv r), some (iv bf), some (iv fo), some (iv (key + 4)), some (iv n10), some (iv 0)] ls' ∧ ∀ dd rr, 3 ≤ dd → Ev dd 165 (6, ls', [], h, fl_tot) rr → Ev dd 165 (6, ls, [], h, fl_tot) rr)) ∨
  (∃ (n9 n10 has12 isNew14 rowOf16 stamp18 : Int) , (0 ≤ r ∧ r ≤ 7) ∧ (-2147483647 ≤ bf ∧ bf ≤ 2147483647) ∧ (-1 ≤ fo ∧ fo ≤ -1) ∧ (0 ≤ key ∧ key ≤ 31) ∧ (0 ≤ n9 ∧ n9 ≤ 160) ∧ (0 ≤ n10 ∧ n10 ≤ 191) ∧ (1 ≤ has12 ∧ has12 ≤ 1) ∧ (0 ≤ isNew14 ∧ isNew14 ≤ 1) ∧ (0 ≤ rowOf16 ∧ rowOf16 ≤ 7) ∧ (-2147483648 ≤ stamp18 ∧ stamp18 ≤ 2147483646) ∧ (key < 32) ∧ (n9 = 32 * t) ∧ (n10 = n9 + key) ∧ (has12 = rd 63 n10 h) ∧ (has12 ≠ 0) ∧ (isNew14 = rd 66 n10 h) ∧ (isNew14 = fr) ∧ (rowOf16 = rd 65 n10 h) ∧ (rowOf16 = r) ∧ (stamp18 = rd 67 n10 h) ∧ (stamp18 < bf) ∧ ((1 : Int) ≠ 0) ∧ (fo = -1) ∧ Nx h h ∧ (∃ ls', LVs [some (rv 31), some (iv t), some (iv s), some (iv fr), some (iv r), some (iv bf), some (iv key), some (iv (key + 4)), some (iv n10), some (iv 1)] ls' ∧ ∀ dd rr, 3 ≤ dd → Ev dd 165 (6, ls', [], h, fl_tot) rr → Ev dd 165 (6, ls, [], h, fl_tot) rr)) ∨
  (∃ (n9 n10 has12 isNew14 rowOf16 stamp18 stamp19 n20 n21 stamp22 : Int) , (0 ≤ r ∧ r ≤ 7) ∧ (-2147483647 ≤ bf ∧ bf ≤ 2147483647) ∧ (0 ≤ fo ∧ fo ≤ 31) ∧ (0 ≤ key ∧ key ≤ 31) ∧ (0 ≤ n9 ∧ n9 ≤ 160) ∧ (0 ≤ n10 ∧ n10 ≤ 191) ∧ (1 ≤ has12 ∧ has12 ≤ 1) ∧ (0 ≤ isNew14 ∧ isNew14 ≤ 1) ∧ (0 ≤ rowOf16 ∧ rowOf16 ≤ 7) ∧ (-2147483648 ≤ stamp18 ∧ stamp18 ≤ 2147483646) ∧ (-2147483648 ≤ stamp19 ∧ stamp19 ≤ 2147483647) ∧ (0 ≤ n20 ∧ n20 ≤ 160) ∧ (0 ≤ n21 ∧ n21 ≤ 191) ∧ (-2147483648 ≤ stamp22 ∧ stamp22 ≤ 2147483647) ∧ (key < 32) ∧ (n9 = 32 * t) ∧ (n10 = n9 + key) ∧ (has12 = rd 63 n10 h) ∧ (has12 ≠ 0) ∧ (isNew14 = rd 66 n10 h) ∧ (isNew14 = fr) ∧ (rowOf16 = rd 65 n10 h) ∧ (rowOf16 = r) ∧ (stamp18 = rd 67 n10 h) ∧ (stamp18 < bf) ∧ ((1 : Int) ≠ 0) ∧ (fo ≠ -1) ∧ (stamp19 = rd 67 n10 h) ∧ (n20 = 32 * t) ∧ (n21 = n20 + fo) ∧ (stamp22 = rd 67 n21 h) ∧ (stamp19 ≤ stamp22) ∧ Nx h h ∧ (∃ ls', LVs [some (rv 31), some (iv t), some (iv s), some (iv fr), some (iv r), some (iv bf), some (iv fo), some (iv (key + 4)), some (iv n10), some (iv 1)] ls' ∧ ∀ dd rr, 3 ≤ dd → Ev dd 165 (6, ls', [], h, fl_tot) rr → Ev dd 165 (6, ls, [], h, fl_tot) rr)) ∨
  (∃ (n9 n10 has12 isNew14 rowOf16 stamp18 stamp19 n20 n21 stamp22 : Int) , (0 ≤ r ∧ r ≤ 7) ∧ (-2147483647 ≤ bf ∧ bf ≤ 2147483647) ∧ (0 ≤ fo ∧ fo ≤ 31) ∧ (0 ≤ key ∧ key ≤ 31) ∧ (0 ≤ n9 ∧ n9 ≤ 160) ∧ (0 ≤ n10 ∧ n10 ≤ 191) ∧ (1 ≤ has12 ∧ has12 ≤ 1) ∧ (0 ≤ isNew14 ∧ isNew14 ≤ 1) ∧ (0 ≤ rowOf16 ∧ rowOf16 ≤ 7) ∧ (-2147483648 ≤ stamp18 ∧ stamp18 ≤ 2147483646) ∧ (-2147483647 ≤ stamp19 ∧ stamp19 ≤ 2147483647) ∧ (0 ≤ n20 ∧ n20 ≤ 160) ∧ (0 ≤ n21 ∧ n21 ≤ 191) ∧ (-2147483648 ≤ stamp22 ∧ stamp22 ≤ 2147483646) ∧ (key < 32) ∧ (n9 = 32 * t) ∧ (n10 = n9 + key) ∧ (has12 = rd 63 n10 h) ∧ (has12 ≠ 0) ∧ (isNew14 = rd 66 n10 h) ∧ (isNew14 = fr) ∧ (rowOf16 = rd 65 n10 h) ∧ (rowOf16 = r) ∧ (stamp18 = rd 67 n10 h) ∧ (stamp18 < bf) ∧ ((1 : Int) ≠ 0) ∧ (fo ≠ -1) ∧ (stamp19 = rd 67 n10 h) ∧ (n20 = 32 * t) ∧ (n21 = n20 + fo) ∧ (stamp22 = rd 67 n21 h) ∧ (stamp22 < stamp19) ∧ Nx h h ∧ (∃ ls', LVs [some (rv 31), some (iv t), some (iv s), some (iv fr), some (iv r), some (iv bf), some (iv key), some (iv (key + 4)), some (iv n10), some (iv 1)] ls' ∧ ∀ dd rr, 3 ≤ dd → Ev dd 165 (6, ls', [], h, fl_tot) rr → Ev dd 165 (6, ls, [], h, fl_tot) rr)) := by
  have H := seg chk_s165l (zs := [t, s, fr, r, bf, fo, key]) (szs := []) hT (show HB tys_s165l [t, s, fr, r, bf, fo, key] from ⟨b_t, ⟨b_s, ⟨b_fr, ⟨b_r, ⟨b_bf, ⟨b_fo, ⟨b_key, trivial⟩⟩⟩⟩⟩⟩⟩) (show HB stys_s165l [] from trivial) hl
  rcases H with ⟨tq, hE, hF, k1, k2⟩ | ⟨tq, hE, hF, k1, ls', k2, k3⟩ | ⟨tq, hE, hF, k1, ls', k2, k3⟩ | ⟨tq, hE, hF, k1, ls', k2, k3⟩ | ⟨tq, hE, hF, k1, ls', k2, k3⟩ | ⟨tq, hE, hF, k1, ls', k2, k3⟩ | ⟨tq, hE, hF, k1, ls', k2, k3⟩ | ⟨tq, hE, hF, k1, ls', k2, k3⟩
  · exact Or.inl ⟨hE 8 (32, 35) rfl (by decide), hF.1, k1, k2⟩
  · exact Or.inr (Or.inl ⟨pn (0 :: (hr tys_s165l [t, s, fr, r, bf, fo, key] ++ (hr stys_s165l [] ++ tq))) 9, pn (0 :: (hr tys_s165l [t, s, fr, r, bf, fo, key] ++ (hr stys_s165l [] ++ tq))) 10, pn (0 :: (hr tys_s165l [t, s, fr, r, bf, fo, key] ++ (hr stys_s165l [] ++ tq))) 12, hE 8 (0, 31) rfl (by decide), hE 9 (0, 160) rfl (by decide), hE 10 (0, 191) rfl (by decide), hE 12 (0, 0) rfl (by decide), hF.2.2.2.2.2.1, hF.2.2.2.2.1, hF.2.2.2.1, hF.2.2.1, hF.2.1, hF.1, k1, ls', k2, k3⟩)
  · exact Or.inr (Or.inr (Or.inl ⟨pn (0 :: (hr tys_s165l [t, s, fr, r, bf, fo, key] ++ (hr stys_s165l [] ++ tq))) 9, pn (0 :: (hr tys_s165l [t, s, fr, r, bf, fo, key] ++ (hr stys_s165l [] ++ tq))) 10, pn (0 :: (hr tys_s165l [t, s, fr, r, bf, fo, key] ++ (hr stys_s165l [] ++ tq))) 12, pn (0 :: (hr tys_s165l [t, s, fr, r, bf, fo, key] ++ (hr stys_s165l [] ++ tq))) 14, hE 8 (0, 31) rfl (by decide), hE 9 (0, 160) rfl (by decide), hE 10 (0, 191) rfl (by decide), hE 12 (1, 1) rfl (by decide), hE 14 (0, 1) rfl (by decide), hF.2.2.2.2.2.2.2.1, hF.2.2.2.2.2.2.1, hF.2.2.2.2.2.1, hF.2.2.2.2.1, hF.2.2.2.1, hF.2.2.1, hF.2.1, hF.1, k1, ls', k2, k3⟩))
  · exact Or.inr (Or.inr (Or.inr (Or.inl ⟨pn (0 :: (hr tys_s165l [t, s, fr, r, bf, fo, key] ++ (hr stys_s165l [] ++ tq))) 9, pn (0 :: (hr tys_s165l [t, s, fr, r, bf, fo, key] ++ (hr stys_s165l [] ++ tq))) 10, pn (0 :: (hr tys_s165l [t, s, fr, r, bf, fo, key] ++ (hr stys_s165l [] ++ tq))) 12, pn (0 :: (hr tys_s165l [t, s, fr, r, bf, fo, key] ++ (hr stys_s165l [] ++ tq))) 14, pn (0 :: (hr tys_s165l [t, s, fr, r, bf, fo, key] ++ (hr stys_s165l [] ++ tq))) 16, hE 8 (0, 31) rfl (by decide), hE 9 (0, 160) rfl (by decide), hE 10 (0, 191) rfl (by decide), hE 12 (1, 1) rfl (by decide), hE 14 (0, 1) rfl (by decide), hE 16 (0, 7) rfl (by decide), hF.2.2.2.2.2.2.2.2.2.1, hF.2.2.2.2.2.2.2.2.1, hF.2.2.2.2.2.2.2.1, hF.2.2.2.2.2.2.1, hF.2.2.2.2.2.1, hF.2.2.2.2.1, hF.2.2.2.1, hF.2.2.1, hF.2.1, hF.1, k1, ls', k2, k3⟩)))
  · exact Or.inr (Or.inr (Or.inr (Or.inr (Or.inl ⟨pn (0 :: (hr tys_s165l [t, s, fr, r, bf, fo, key] ++ (hr stys_s165l [] ++ tq))) 9, pn (0 :: (hr tys_s165l [t, s, fr, r, bf, fo, key] ++ (hr stys_s165l [] ++ tq))) 10, pn (0 :: (hr tys_s165l [t, s, fr, r, bf, fo, key] ++ (hr stys_s165l [] ++ tq))) 12, pn (0 :: (hr tys_s165l [t, s, fr, r, bf, fo, key] ++ (hr stys_s165l [] ++ tq))) 14, pn (0 :: (hr tys_s165l [t, s, fr, r, bf, fo, key] ++ (hr stys_s165l [] ++ tq))) 16, pn (0 :: (hr tys_s165l [t, s, fr, r, bf, fo, key] ++ (hr stys_s165l [] ++ tq))) 18, hE 5 (0, 7) rfl (by decide), hE 8 (0, 31) rfl (by decide), hE 9 (0, 160) rfl (by decide), hE 10 (0, 191) rfl (by decide), hE 12 (1, 1) rfl (by decide), hE 14 (0, 1) rfl (by decide), hE 16 (0, 7) rfl (by decide), hE 18 (-2147483648, 2147483647) rfl (by decide), hF.2.2.2.2.2.2.2.2.2.2.2.1, hF.2.2.2.2.2.2.2.2.2.2.1, hF.2.2.2.2.2.2.2.2.2.1, hF.2.2.2.2.2.2.2.2.1, hF.2.2.2.2.2.2.2.1, hF.2.2.2.2.2.2.1, hF.2.2.2.2.2.1, hF.2.2.2.2.1, hF.2.2.2.1, hF.2.2.1, hF.2.1, hF.1, k1, ls', k2, k3⟩))))
  · exact Or.inr (Or.inr (Or.inr (Or.inr (Or.inr (Or.inl ⟨pn (0 :: (hr tys_s165l [t, s, fr, r, bf, fo, key] ++ (hr stys_s165l [] ++ tq))) 9, pn (0 :: (hr tys_s165l [t, s, fr, r, bf, fo, key] ++ (hr stys_s165l [] ++ tq))) 10, pn (0 :: (hr tys_s165l [t, s, fr, r, bf, fo, key] ++ (hr stys_s165l [] ++ tq))) 12, pn (0 :: (hr tys_s165l [t, s, fr, r, bf, fo, key] ++ (hr stys_s165l [] ++ tq))) 14, pn (0 :: (hr tys_s165l [t, s, fr, r, bf, fo, key] ++ (hr stys_s165l [] ++ tq))) 16, pn (0 :: (hr tys_s165l [t, s, fr, r, bf, fo, key] ++ (hr stys_s165l [] ++ tq))) 18, hE 5 (0, 7) rfl (by decide), hE 6 (-2147483647, 2147483647) rfl (by decide), hE 7 (-1, -1) rfl (by decide), hE 8 (0, 31) rfl (by decide), hE 9 (0, 160) rfl (by decide), hE 10 (0, 191) rfl (by decide), hE 12 (1, 1) rfl (by decide), hE 14 (0, 1) rfl (by decide), hE 16 (0, 7) rfl (by decide), hE 18 (-2147483648, 2147483646) rfl (by decide), hF.2.2.2.2.2.2.2.2.2.2.2.2.1, hF.2.2.2.2.2.2.2.2.2.2.2.1, hF.2.2.2.2.2.2.2.2.2.2.1, hF.2.2.2.2.2.2.2.2.2.1, hF.2.2.2.2.2.2.2.2.1, hF.2.2.2.2.2.2.2.1, hF.2.2.2.2.2.2.1, hF.2.2.2.2.2.1, hF.2.2.2.2.1, hF.2.2.2.1, hF.2.2.1, hF.2.1, hF.1, k1, ls', k2, k3⟩)))))
  · exact Or.inr (Or.inr (Or.inr (Or.inr (Or.inr (Or.inr (Or.inl ⟨pn (0 :: (hr tys_s165l [t, s, fr, r, bf, fo, key] ++ (hr stys_s165l [] ++ tq))) 9, pn (0 :: (hr tys_s165l [t, s, fr, r, bf, fo, key] ++ (hr stys_s165l [] ++ tq))) 10, pn (0 :: (hr tys_s165l [t, s, fr, r, bf, fo, key] ++ (hr stys_s165l [] ++ tq))) 12, pn (0 :: (hr tys_s165l [t, s, fr, r, bf, fo, key] ++ (hr stys_s165l [] ++ tq))) 14, pn (0 :: (hr tys_s165l [t, s, fr, r, bf, fo, key] ++ (hr stys_s165l [] ++ tq))) 16, pn (0 :: (hr tys_s165l [t, s, fr, r, bf, fo, key] ++ (hr stys_s165l [] ++ tq))) 18, pn (0 :: (hr tys_s165l [t, s, fr, r, bf, fo, key] ++ (hr stys_s165l [] ++ tq))) 19, pn (0 :: (hr tys_s165l [t, s, fr, r, bf, fo, key] ++ (hr stys_s165l [] ++ tq))) 20, pn (0 :: (hr tys_s165l [t, s, fr, r, bf, fo, key] ++ (hr stys_s165l [] ++ tq))) 21, pn (0 :: (hr tys_s165l [t, s, fr, r, bf, fo, key] ++ (hr stys_s165l [] ++ tq))) 22, hE 5 (0, 7) rfl (by decide), hE 6 (-2147483647, 2147483647) rfl (by decide), hE 7 (0, 31) rfl (by decide), hE 8 (0, 31) rfl (by decide), hE 9 (0, 160) rfl (by decide), hE 10 (0, 191) rfl (by decide), hE 12 (1, 1) rfl (by decide), hE 14 (0, 1) rfl (by decide), hE 16 (0, 7) rfl (by decide), hE 18 (-2147483648, 2147483646) rfl (by decide), hE 19 (-2147483648, 2147483647) rfl (by decide), hE 20 (0, 160) rfl (by decide), hE 21 (0, 191) rfl (by decide), hE 22 (-2147483648, 2147483647) rfl (by decide), hF.2.2.2.2.2.2.2.2.2.2.2.2.2.2.2.2.2.1, hF.2.2.2.2.2.2.2.2.2.2.2.2.2.2.2.2.1, hF.2.2.2.2.2.2.2.2.2.2.2.2.2.2.2.1, hF.2.2.2.2.2.2.2.2.2.2.2.2.2.2.1, hF.2.2.2.2.2.2.2.2.2.2.2.2.2.1, hF.2.2.2.2.2.2.2.2.2.2.2.2.1, hF.2.2.2.2.2.2.2.2.2.2.2.1, hF.2.2.2.2.2.2.2.2.2.2.1, hF.2.2.2.2.2.2.2.2.2.1, hF.2.2.2.2.2.2.2.2.1, hF.2.2.2.2.2.2.2.1, hF.2.2.2.2.2.2.1, hF.2.2.2.2.2.1, hF.2.2.2.2.1, hF.2.2.2.1, hF.2.2.1, hF.2.1, hF.1, k1, ls', k2, k3⟩))))))
  · exact Or.inr (Or.inr (Or.inr (Or.inr (Or.inr (Or.inr (Or.inr ⟨pn (0 :: (hr tys_s165l [t, s, fr, r, bf, fo, key] ++ (hr stys_s165l [] ++ tq))) 9, pn (0 :: (hr tys_s165l [t, s, fr, r, bf, fo, key] ++ (hr stys_s165l [] ++ tq))) 10, pn (0 :: (hr tys_s165l [t, s, fr, r, bf, fo, key] ++ (hr stys_s165l [] ++ tq))) 12, pn (0 :: (hr tys_s165l [t, s, fr, r, bf, fo, key] ++ (hr stys_s165l [] ++ tq))) 14, pn (0 :: (hr tys_s165l [t, s, fr, r, bf, fo, key] ++ (hr stys_s165l [] ++ tq))) 16, pn (0 :: (hr tys_s165l [t, s, fr, r, bf, fo, key] ++ (hr stys_s165l [] ++ tq))) 18, pn (0 :: (hr tys_s165l [t, s, fr, r, bf, fo, key] ++ (hr stys_s165l [] ++ tq))) 19, pn (0 :: (hr tys_s165l [t, s, fr, r, bf, fo, key] ++ (hr stys_s165l [] ++ tq))) 20, pn (0 :: (hr tys_s165l [t, s, fr, r, bf, fo, key] ++ (hr stys_s165l [] ++ tq))) 21, pn (0 :: (hr tys_s165l [t, s, fr, r, bf, fo, key] ++ (hr stys_s165l [] ++ tq))) 22, hE 5 (0, 7) rfl (by decide), hE 6 (-2147483647, 2147483647) rfl (by decide), hE 7 (0, 31) rfl (by decide), hE 8 (0, 31) rfl (by decide), hE 9 (0, 160) rfl (by decide), hE 10 (0, 191) rfl (by decide), hE 12 (1, 1) rfl (by decide), hE 14 (0, 1) rfl (by decide), hE 16 (0, 7) rfl (by decide), hE 18 (-2147483648, 2147483646) rfl (by decide), hE 19 (-2147483647, 2147483647) rfl (by decide), hE 20 (0, 160) rfl (by decide), hE 21 (0, 191) rfl (by decide), hE 22 (-2147483648, 2147483646) rfl (by decide), hF.2.2.2.2.2.2.2.2.2.2.2.2.2.2.2.2.2.1, hF.2.2.2.2.2.2.2.2.2.2.2.2.2.2.2.2.1, hF.2.2.2.2.2.2.2.2.2.2.2.2.2.2.2.1, hF.2.2.2.2.2.2.2.2.2.2.2.2.2.2.1, hF.2.2.2.2.2.2.2.2.2.2.2.2.2.1, hF.2.2.2.2.2.2.2.2.2.2.2.2.1, hF.2.2.2.2.2.2.2.2.2.2.2.1, hF.2.2.2.2.2.2.2.2.2.2.1, hF.2.2.2.2.2.2.2.2.2.1, hF.2.2.2.2.2.2.2.2.1, hF.2.2.2.2.2.2.2.1, hF.2.2.2.2.2.2.1, hF.2.2.2.2.2.1, hF.2.2.2.2.1, hF.2.2.2.1, hF.2.2.1, hF.2.1, hF.1, k1, ls', k2, k3⟩))))))
def tys_s164 : List TY := [(2, 31, 0), (1, 0, 5), (1, 0, 3), (1, 0, 1), (1, 0, 8)]
def stys_s164 : List TY := []
theorem chk_s164 : sg_check ([], [], [(164, 7, 0, 100000)]) 164 0 tys_s164 stys_s164 [(3, (7, 0, 0, 0), (([(2, 1, 31), (1, 2, 0), (1, 3, 0), (1, 4, 0), (1, 5, 0)], [(1, 6, 0), (1, 5, 0), (1, 4, 0), (1, 3, 0), (1, 2, 0), (2, 1, 31)], [(0, 0), (1, 0), (0, 5), (0, 3), (0, 1), (0, 8), (-2147483648, 2147483647)], [(1, 31, 42, (1, 6, 0))]), [(2, 0, (1, 6, 0), (1, 0, 0), 0), (9, 31, (1, 0, 42), (1, 6, 0), 0)], [])),
 (3, (7, 0, 0, 0), (([(2, 1, 31), (1, 2, 0), (1, 3, 0), (1, 4, 0), (1, 5, 0)], [(1, 6, 0), (1, 5, 0), (1, 4, 0), (1, 3, 0), (1, 2, 0), (2, 1, 31)], [(0, 0), (1, 0), (0, 5), (0, 3), (0, 1), (0, 8), (-2147483648, 2147483647)], [(1, 31, 42, (1, 6, 0))]), [(4, 0, (1, 6, 0), (1, 0, 100000), 0), (9, 31, (1, 0, 42), (1, 6, 0), 0)], [])),
 (1, (165, 10, 6, 15), (([(2, 1, 31), (1, 2, 0), (1, 3, 0), (1, 4, 0), (1, 5, 0)], [(1, 6, 1), (1, 5, 0), (1, 4, 0), (1, 3, 0), (1, 2, 0), (2, 1, 31)], [(0, 0), (1, 0), (0, 5), (0, 3), (0, 1), (0, 8), (0, 100000)], [(1, 31, 42, (1, 6, 0))]), [(9, 31, (1, 0, 42), (1, 6, 0), 0)], []))] = true := by decide +kernel
theorem s164 {h : Hp} (hT : TInv h) {ls : List (Option Value)} {t : Int} {s : Int} {fr : Int} {r : Int} (b_t : 0 ≤ t ∧ t ≤ 5) (b_s : 0 ≤ s ∧ s ≤ 3) (b_fr : 0 ≤ fr ∧ fr ≤ 1) (b_r : 0 ≤ r ∧ r ≤ 8) (hl : LVs [some (rv 31), some (iv t), some (iv s), some (iv fr), some (iv r)] ls) :
  (∃ (stamps6 : Int) , (-2147483648 ≤ stamps6 ∧ stamps6 ≤ 2147483647) ∧ (stamps6 = rd 31 42 h) ∧ (stamps6 < 0)) ∨
  (∃ (stamps6 : Int) , (-2147483648 ≤ stamps6 ∧ stamps6 ≤ 2147483647) ∧ (stamps6 = rd 31 42 h) ∧ (100000 < stamps6)) ∨
  (∃ (stamps6 : Int) , (0 ≤ stamps6 ∧ stamps6 ≤ 100000) ∧ (stamps6 = rd 31 42 h) ∧ Nx h h ∧ (∃ ls', LVs [some (rv 31), some (iv t), some (iv s), some (iv fr), some (iv r)] ls' ∧ ∀ dd vv hh rr, 2 ≤ dd → Ev dd 165 (0, fl_enter 10 [rv 31, iv t, iv s, iv fr, iv r, iv (stamps6 + 1)], [], h, fl_tot) (vv, hh, fl_tot) → Ev (dd + 1) 164 (15, ls', vv.toList ++ [], hh, fl_tot) rr → Ev (dd + 1) 164 (0, ls, [], h, fl_tot) rr)) := by
  have H := seg chk_s164 (zs := [t, s, fr, r]) (szs := []) hT (show HB tys_s164 [t, s, fr, r] from ⟨b_t, ⟨b_s, ⟨b_fr, ⟨b_r, trivial⟩⟩⟩⟩) (show HB stys_s164 [] from trivial) hl
  rcases H with ⟨tq, hE, hF, k1⟩ | ⟨tq, hE, hF, k1⟩ | ⟨tq, hE, hF, k1, ls', k2, k3⟩
  · exact Or.inl ⟨pn (0 :: (hr tys_s164 [t, s, fr, r] ++ (hr stys_s164 [] ++ tq))) 6, hE 6 (-2147483648, 2147483647) rfl (by decide), hF.2.1, hF.1⟩
  · exact Or.inr (Or.inl ⟨pn (0 :: (hr tys_s164 [t, s, fr, r] ++ (hr stys_s164 [] ++ tq))) 6, hE 6 (-2147483648, 2147483647) rfl (by decide), hF.2.1, hF.1⟩)
  · exact Or.inr (Or.inr ⟨pn (0 :: (hr tys_s164 [t, s, fr, r] ++ (hr stys_s164 [] ++ tq))) 6, hE 6 (0, 100000) rfl (by decide), hF.1, k1, ls', k2, k3⟩)
def tys_s164r : List TY := [(2, 31, 0), (1, 0, 5), (1, 0, 3), (1, 0, 1), (1, 0, 8)]
def stys_s164r : List TY := [(1, -2147483648, 2147483647)]
theorem chk_s164r : sg_check ([], [], []) 164 15 tys_s164r stys_s164r [(2, (0, 0, 0, 0), (([(2, 1, 31), (1, 2, 0), (1, 3, 0), (1, 4, 0), (1, 5, 0)], [(1, 6, 0)], [(0, 0), (1, 0), (0, 5), (0, 3), (0, 1), (0, 8), (-2147483648, 2147483647)], []), [], []))] = true := by decide +kernel
theorem s164r {h : Hp} (hT : TInv h) {ls : List (Option Value)} {t : Int} {s : Int} {fr : Int} {r : Int} {v : Int} (b_t : 0 ≤ t ∧ t ≤ 5) (b_s : 0 ≤ s ∧ s ≤ 3) (b_fr : 0 ≤ fr ∧ fr ≤ 1) (b_r : 0 ≤ r ∧ r ≤ 8) (b_v : -2147483648 ≤ v ∧ v ≤ 2147483647) (hl : LVs [some (rv 31), some (iv t), some (iv s), some (iv fr), some (iv r)] ls) :
  (Nx h h ∧ (∀ dd, 3 ≤ dd → Ev dd 164 (15, ls, [iv v], h, fl_tot) (some (iv v), h, fl_tot))) := by
  have H := seg chk_s164r (zs := [t, s, fr, r]) (szs := [v]) hT (show HB tys_s164r [t, s, fr, r] from ⟨b_t, ⟨b_s, ⟨b_fr, ⟨b_r, trivial⟩⟩⟩⟩) (show HB stys_s164r [v] from ⟨b_v, trivial⟩) hl
  obtain ⟨tq, hE, hF, k1, k2⟩ := H
  exact ⟨k1, k2⟩
def tys_s171 : List TY := [(2, 31, 0), (1, 0, 5), (1, 0, 3), (0, 0, 0), (0, 0, 0)]
def stys_s171 : List TY := []
theorem chk_s171 : sg_check ([(171, 5)], [], []) 171 0 tys_s171 stys_s171 [(0, (5, 0, 0, 0), (([(2, 1, 31), (1, 2, 0), (1, 3, 0), (1, 0, 0), (1, 3, 0)], [], [(0, 0), (1, 0), (0, 5), (0, 3)], []), [], []))] = true := by decide +kernel
theorem s171 {h : Hp} (hT : TInv h) {ls : List (Option Value)} {t : Int} {s : Int} (b_t : 0 ≤ t ∧ t ≤ 5) (b_s : 0 ≤ s ∧ s ≤ 3) (hl : LVs [some (rv 31), some (iv t), some (iv s), none, none] ls) :
  (Nx h h ∧ (∃ ls', LVs [some (rv 31), some (iv t), some (iv s), some (iv 0), some (iv s)] ls' ∧ ∀ dd rr, 3 ≤ dd → Ev dd 171 (5, ls', [], h, fl_tot) rr → Ev dd 171 (0, ls, [], h, fl_tot) rr)) := by
  have H := seg chk_s171 (zs := [t, s]) (szs := []) hT (show HB tys_s171 [t, s] from ⟨b_t, ⟨b_s, trivial⟩⟩) (show HB stys_s171 [] from trivial) hl
  obtain ⟨tq, hE, hF, k1, ls', k2, k3⟩ := H
  exact ⟨k1, ls', k2, k3⟩
def tys_s171l : List TY := [(2, 31, 0), (1, 0, 5), (1, 0, 3), (1, 0, 40), (1, 0, 35)]
def stys_s171l : List TY := []
theorem chk_s171l : sg_check ([(171, 5)], [], []) 171 5 tys_s171l stys_s171l [(2, (0, 0, 0, 0), (([(2, 1, 31), (1, 2, 0), (1, 3, 0), (1, 4, 0), (1, 5, 0)], [(1, 4, 0)], [(0, 0), (1, 0), (0, 5), (0, 3), (0, 40), (32, 35)], []), [(3, 0, (1, 5, 0), (1, 0, 32), 0)], [])),
 (0, (5, 0, 0, 0), (([(2, 1, 31), (1, 2, 0), (1, 3, 0), (1, 4, 0), (1, 5, 4)], [], [(0, 0), (1, 0), (0, 5), (0, 3), (0, 40), (0, 31), (1, 0), (0, 160), (0, 191), (0, 0)], [(1, 31, 37, (2, 6, 63))]), [(0, 0, (1, 9, 0), (1, 0, 0), 0), (9, 63, (1, 8, 0), (1, 9, 0), 0), (20, 8, (1, 7, 0), (1, 5, 0), 0), (22, 7, (1, 0, 32), (1, 2, 0), 0), (2, 0, (1, 5, 0), (1, 0, 32), 0)], [])),
 (0, (5, 0, 0, 0), (([(2, 1, 31), (1, 2, 0), (1, 3, 0), (1, 4, 1), (1, 5, 4)], [], [(0, 0), (1, 0), (0, 5), (0, 3), (0, 40), (0, 31), (1, 0), (0, 160), (0, 191), (1, 1)], [(1, 31, 37, (2, 6, 63))]), [(1, 0, (1, 9, 0), (1, 0, 0), 0), (9, 63, (1, 8, 0), (1, 9, 0), 0), (20, 8, (1, 7, 0), (1, 5, 0), 0), (22, 7, (1, 0, 32), (1, 2, 0), 0), (2, 0, (1, 5, 0), (1, 0, 32), 0)], []))] = true := by decide +kernel
theorem s171l {h : Hp} (hT : TInv h) {ls : List (Option Value)} {t : Int} {s : Int} {n : Int} {key : Int} (b_t : 0 ≤ t ∧ t ≤ 5) (b_s : 0 ≤ s ∧ s ≤ 3) (b_n : 0 ≤ n ∧ n ≤ 40) (b_key : 0 ≤ key ∧ key ≤ 35) (hl : LVs [some (rv 31), some (iv t), some (iv s), some (iv n), some (iv key)] ls) :
  ((32 ≤ key ∧ key ≤ 35) ∧ (32 ≤ key) ∧ Nx h h ∧ (∀ dd, 3 ≤ dd → Ev dd 171 (5, ls, [], h, fl_tot) (some (iv n), h, fl_tot))) ∨
  (∃ (n7 n8 has9 : Int) , (0 ≤ key ∧ key ≤ 31) ∧ (0 ≤ n7 ∧ n7 ≤ 160) ∧ (0 ≤ n8 ∧ n8 ≤ 191) ∧ (0 ≤ has9 ∧ has9 ≤ 0) ∧ (key < 32) ∧ (n7 = 32 * t) ∧ (n8 = n7 + key) ∧ (has9 = rd 63 n8 h) ∧ (has9 = 0) ∧ Nx h h ∧ (∃ ls', LVs [some (rv 31), some (iv t), some (iv s), some (iv n), some (iv (key + 4))] ls' ∧ ∀ dd rr, 3 ≤ dd → Ev dd 171 (5, ls', [], h, fl_tot) rr → Ev dd 171 (5, ls, [], h, fl_tot) rr)) ∨
  (∃ (n7 n8 has9 : Int) , (0 ≤ key ∧ key ≤ 31) ∧ (0 ≤ n7 ∧ n7 ≤ 160) ∧ (0 ≤ n8 ∧ n8 ≤ 191) ∧ (1 ≤ has9 ∧ has9 ≤ 1) ∧ (key < 32) ∧ (n7 = 32 * t) ∧ (n8 = n7 + key) ∧ (has9 = rd 63 n8 h) ∧ (has9 ≠ 0) ∧ Nx h h ∧ (∃ ls', LVs [some (rv 31), some (iv t), some (iv s), some (iv (n + 1)), some (iv (key + 4))] ls' ∧ ∀ dd rr, 3 ≤ dd → Ev dd 171 (5, ls', [], h, fl_tot) rr → Ev dd 171 (5, ls, [], h, fl_tot) rr)) := by
  have H := seg chk_s171l (zs := [t, s, n, key]) (szs := []) hT (show HB tys_s171l [t, s, n, key] from ⟨b_t, ⟨b_s, ⟨b_n, ⟨b_key, trivial⟩⟩⟩⟩) (show HB stys_s171l [] from trivial) hl
  rcases H with ⟨tq, hE, hF, k1, k2⟩ | ⟨tq, hE, hF, k1, ls', k2, k3⟩ | ⟨tq, hE, hF, k1, ls', k2, k3⟩
  · exact Or.inl ⟨hE 5 (32, 35) rfl (by decide), hF.1, k1, k2⟩
  · exact Or.inr (Or.inl ⟨pn (0 :: (hr tys_s171l [t, s, n, key] ++ (hr stys_s171l [] ++ tq))) 7, pn (0 :: (hr tys_s171l [t, s, n, key] ++ (hr stys_s171l [] ++ tq))) 8, pn (0 :: (hr tys_s171l [t, s, n, key] ++ (hr stys_s171l [] ++ tq))) 9, hE 5 (0, 31) rfl (by decide), hE 7 (0, 160) rfl (by decide), hE 8 (0, 191) rfl (by decide), hE 9 (0, 0) rfl (by decide), hF.2.2.2.2.1, hF.2.2.2.1, hF.2.2.1, hF.2.1, hF.1, k1, ls', k2, k3⟩)
  · exact Or.inr (Or.inr ⟨pn (0 :: (hr tys_s171l [t, s, n, key] ++ (hr stys_s171l [] ++ tq))) 7, pn (0 :: (hr tys_s171l [t, s, n, key] ++ (hr stys_s171l [] ++ tq))) 8, pn (0 :: (hr tys_s171l [t, s, n, key] ++ (hr stys_s171l [] ++ tq))) 9, hE 5 (0, 31) rfl (by decide), hE 7 (0, 160) rfl (by decide), hE 8 (0, 191) rfl (by decide), hE 9 (1, 1) rfl (by decide), hF.2.2.2.2.1, hF.2.2.2.1, hF.2.2.1, hF.2.1, hF.1, k1, ls', k2, k3⟩)
end
section

/-! THE NEXT CARD OF A ROW -/
def inRow (h : Hp) (t fr r bf k : Int) : Prop := rd 63 (32 * t + k) h = 1 ∧ rd 66 (32 * t + k) h = fr ∧ rd 65 (32 * t + k) h = r ∧ rd 67 (32 * t + k) h < bf
def nxP (h : Hp) (t s fr r bf key v : Int) : Prop := (v = -1 ∧ ∀ k, 0 ≤ k → k < key → k < 32 → k % 4 = s → ¬ inRow h t fr r bf k) ∨ (0 ≤ v ∧ v < 32 ∧ v % 4 = s ∧ inRow h t fr r bf v ∧ ∀ k, 0 ≤ k → k < key → k < 32 → k % 4 = s → inRow h t fr r bf k → rd 67 (32 * t + k) h ≤ rd 67 (32 * t + v) h)
theorem nxP.skip {h : Hp} {t s fr r bf key v : Int} (p : nxP h t s fr r bf key v) (hk : key % 4 = s) (hn : ¬ inRow h t fr r bf key) : nxP h t s fr r bf (key + 4) v := by
  have hx : ∀ k, 0 ≤ k → k < key + 4 → k % 4 = s → inRow h t fr r bf k → k < key := fun k h1 h2 h3 h4 => by
    by_cases e : k = key
    · subst e; exact absurd h4 hn
    · omega
  rcases p with ⟨p1, p2⟩ | ⟨p1, p2, p3, p4, p5⟩
  · exact Or.inl ⟨p1, fun k h1 h2 h3 h4 h5 => p2 k h1 (hx k h1 h2 h4 h5) h3 h4 h5⟩
  · exact Or.inr ⟨p1, p2, p3, p4, fun k h1 h2 h3 h4 h5 => p5 k h1 (hx k h1 h2 h4 h5) h3 h4 h5⟩
theorem nxP.keep {h : Hp} {t s fr r bf key v : Int} (p : nxP h t s fr r bf key v) (hv : v ≠ -1) (hk : key % 4 = s) (hn : rd 67 (32 * t + key) h ≤ rd 67 (32 * t + v) h) : nxP h t s fr r bf (key + 4) v := by
  rcases p with ⟨p1, p2⟩ | ⟨p1, p2, p3, p4, p5⟩
  · exact absurd p1 hv
  · refine Or.inr ⟨p1, p2, p3, p4, fun k h1 h2 h3 h4 h5 => ?_⟩
    by_cases e : k = key
    · subst e; exact hn
    · exact p5 k h1 (by omega) h3 h4 h5
theorem nxP.take {h : Hp} {t s fr r bf key v : Int} (p : nxP h t s fr r bf key v) (h0 : 0 ≤ key ∧ key < 32) (hk : key % 4 = s) (hi : inRow h t fr r bf key) (hn : v ≠ -1 → rd 67 (32 * t + v) h ≤ rd 67 (32 * t + key) h) : nxP h t s fr r bf (key + 4) key := by
  refine Or.inr ⟨h0.1, h0.2, hk, hi, fun k h1 h2 h3 h4 h5 => ?_⟩
  by_cases e : k = key
  · subst e; omega
  · rcases p with ⟨p1, p2⟩ | ⟨p1, p2, p3, p4, p5⟩
    · exact absurd h5 (p2 k h1 (by omega) h3 h4)
    · have := p5 k h1 (by omega) h3 h4 h5
      have := hn (by omega)
      omega
theorem c_nextOf_l {h : Hp} (hT : TInv h) {t s fr r bf : Int} (b_t : 0 ≤ t ∧ t ≤ 5) (b_s : 0 ≤ s ∧ s ≤ 3) (b_fr : 0 ≤ fr ∧ fr ≤ 1) (b_r : 0 ≤ r ∧ r ≤ 8) (b_bf : -2147483648 ≤ bf ∧ bf ≤ 2147483647) : ∀ (n : Nat) (key fo : Int) (ls : List (Option Value)), 35 - key < 4 * n → (0 ≤ key ∧ key ≤ 35) → key % 4 = s → (-1 ≤ fo ∧ fo ≤ 31) → nxP h t s fr r bf key fo →
    LVs [some (rv 31), some (iv t), some (iv s), some (iv fr), some (iv r), some (iv bf), some (iv fo), some (iv key), none, none] ls → ∃ v, nxP h t s fr r bf 32 v ∧ ∀ d, 3 ≤ d → Ev d 165 (6, ls, [], h, fl_tot) (some (iv v), h, fl_tot) := by
  intro n
  induction n with
  | zero => intro key fo ls h1 h2; omega
  | succ n ih =>
    intro key fo ls h1 b_key h3 b_fo p hl
    have hend : ∀ {v : Int}, 32 ≤ key → nxP h t s fr r bf key v → nxP h t s fr r bf 32 v := fun hk q => by
      rcases q with ⟨p1, p2⟩ | ⟨p1, p2, p3, p4, p5⟩
      · exact Or.inl ⟨p1, fun k h1 h2 h3 h4 h5 => p2 k h1 (by omega) h3 h4 h5⟩
      · exact Or.inr ⟨p1, p2, p3, p4, fun k h1 h2 h3 h4 h5 => p5 k h1 (by omega) h3 h4 h5⟩
    have go : ∀ {fo' a b : Int} {ls' : List (Option Value)}, (-1 ≤ fo' ∧ fo' ≤ 31) → key < 32 → nxP h t s fr r bf (key + 4) fo' → LVs [some (rv 31), some (iv t), some (iv s), some (iv fr), some (iv r), some (iv bf), some (iv fo'), some (iv (key + 4)), some (iv a), some (iv b)] ls' → (∀ d r', 3 ≤ d → Ev d 165 (6, ls', [], h, fl_tot) r' → Ev d 165 (6, ls, [], h, fl_tot) r') → ∃ v, nxP h t s fr r bf 32 v ∧ ∀ d, 3 ≤ d → Ev d 165 (6, ls, [], h, fl_tot) (some (iv v), h, fl_tot) := by
      intro fo' a b ls' q1 q2 q3 q4 q5
      obtain ⟨v, w1, w2⟩ := ih (key + 4) fo' ls' (by omega) (by omega) (by omega) q1 q3 ((q4.fg 8 rfl).fg 9 rfl)
      exact ⟨v, w1, fun d hd => q5 d _ hd (w2 d hd)⟩
    rcases s165l hT b_t b_s b_fr b_r b_bf b_fo b_key hl with ⟨f0, f1, T, K⟩ | ⟨n9, n10, has12, f0, f1, f2, f3, f4, rfl, rfl, rfl, f8, f9, T, lv, Hl, K⟩ | ⟨n9, n10, has12, isNew14, f0, f1, f2, f3, f4, f5, rfl, rfl, rfl, f9, rfl, f11, f12, T, lv, Hl, K⟩ | ⟨n9, n10, has12, isNew14, rowOf16, f0, f1, f2, f3, f4, f5, f6, rfl, rfl, rfl, f10, rfl, f12, rfl, f14, f15, T, lv, Hl, K⟩ | ⟨n9, n10, has12, isNew14, rowOf16, stamp18, f0, f1, f2, f3, f4, f5, f6, f7, f8, rfl, rfl, rfl, f12, rfl, f14, rfl, f16, rfl, f18, f19, T, lv, Hl, K⟩ | ⟨n9, n10, has12, isNew14, rowOf16, stamp18, f0, f1, f2, f3, f4, f5, f6, f7, f8, f9, f10, rfl, rfl, rfl, f14, rfl, f16, rfl, f18, rfl, f20, f21, f22, T, lv, Hl, K⟩ | ⟨n9, n10, has12, isNew14, rowOf16, stamp18, stamp19, n20, n21, stamp22, f0, f1, f2, f3, f4, f5, f6, f7, f8, f9, f10, f11, f12, f13, f14, rfl, rfl, rfl, f18, rfl, f20, rfl, f22, rfl, f24, f25, f26, rfl, rfl, rfl, rfl, f31, T, lv, Hl, K⟩ | ⟨n9, n10, has12, isNew14, rowOf16, stamp18, stamp19, n20, n21, stamp22, f0, f1, f2, f3, f4, f5, f6, f7, f8, f9, f10, f11, f12, f13, f14, rfl, rfl, rfl, f18, rfl, f20, rfl, f22, rfl, f24, f25, f26, rfl, rfl, rfl, rfl, f31, T, lv, Hl, K⟩
    · exact ⟨fo, hend (by omega) p, K⟩
    · exact go b_fo (by omega) (p.skip h3 fun z => by unfold inRow at z; omega) Hl K
    · exact go b_fo (by omega) (p.skip h3 fun z => by unfold inRow at z; omega) Hl K
    · exact go b_fo (by omega) (p.skip h3 fun z => by unfold inRow at z; omega) Hl K
    · exact go b_fo (by omega) (p.skip h3 fun z => by unfold inRow at z; omega) Hl K
    · exact go (by omega) (by omega) (p.take (by omega) h3 (by unfold inRow; omega) fun z => by omega) Hl K
    · exact go b_fo (by omega) (p.keep (by omega) h3 (by omega)) Hl K
    · exact go (by omega) (by omega) (p.take (by omega) h3 (by unfold inRow; omega) fun z => by omega) Hl K
theorem c_nextOf {h : Hp} (hT : TInv h) {t s fr r bf : Int} (b_t : 0 ≤ t ∧ t ≤ 5) (b_s : 0 ≤ s ∧ s ≤ 3) (b_fr : 0 ≤ fr ∧ fr ≤ 1) (b_r : 0 ≤ r ∧ r ≤ 8) (b_bf : -2147483648 ≤ bf ∧ bf ≤ 2147483647) : ∃ v, nxP h t s fr r bf 32 v ∧ ∀ d, 3 ≤ d → Ev d 165 (0, fl_enter 10 [rv 31, iv t, iv s, iv fr, iv r, iv bf], [], h, fl_tot) (some (iv v), h, fl_tot) := by
  obtain ⟨T, lv, Hl, K⟩ := s165 hT b_t b_s b_fr b_r b_bf (LVs.self (fl_enter 10 [rv 31, iv t, iv s, iv fr, iv r, iv bf]))
  obtain ⟨v, w1, w2⟩ := c_nextOf_l hT b_t b_s b_fr b_r b_bf 9 s (-1) lv (by omega) (by omega) (by omega) (by omega) (Or.inl ⟨rfl, fun k h1 h2 h3 h4 => by omega⟩) Hl
  exact ⟨v, w1, fun d hd => K d _ hd (w2 d hd)⟩
/-- how many of given cards a stripe has: no more than there are -/
theorem c_cardsIn_l {h : Hp} (hT : TInv h) {t s : Int} (b_t : 0 ≤ t ∧ t ≤ 5) (b_s : 0 ≤ s ∧ s ≤ 3) : ∀ (j : Nat) (key n : Int) (ls : List (Option Value)), 35 - key < 4 * j → (0 ≤ key ∧ key ≤ 35) → key % 4 = s → 0 ≤ n → 4 * n ≤ key - s →
    LVs [some (rv 31), some (iv t), some (iv s), some (iv n), some (iv key)] ls → ∃ v, (0 ≤ v ∧ v ≤ 8) ∧ ∀ d, 3 ≤ d → Ev d 171 (5, ls, [], h, fl_tot) (some (iv v), h, fl_tot) := by
  intro j
  induction j with
  | zero => intro key n ls h1 h2; omega
  | succ j ih =>
    intro key n ls h1 b_key h3 h4 h5 hl
    rcases s171l hT b_t b_s (n := n) (by omega) b_key hl with ⟨f0, f1, T, K⟩ | ⟨n7, n8, has9, f0, f1, f2, f3, f4, rfl, rfl, rfl, f8, T, lv, Hl, K⟩ | ⟨n7, n8, has9, f0, f1, f2, f3, f4, rfl, rfl, rfl, f8, T, lv, Hl, K⟩
    · exact ⟨n, by omega, K⟩
    · obtain ⟨v, w1, w2⟩ := ih (key + 4) n lv (by omega) (by omega) (by omega) (by omega) (by omega) Hl
      exact ⟨v, w1, fun d hd => K d _ hd (w2 d hd)⟩
    · obtain ⟨v, w1, w2⟩ := ih (key + 4) (n + 1) lv (by omega) (by omega) (by omega) (by omega) (by omega) Hl
      exact ⟨v, w1, fun d hd => K d _ hd (w2 d hd)⟩
theorem c_cardsIn {h : Hp} (hT : TInv h) {t s : Int} (b_t : 0 ≤ t ∧ t ≤ 5) (b_s : 0 ≤ s ∧ s ≤ 3) : ∃ v, (0 ≤ v ∧ v ≤ 8) ∧ ∀ d, 3 ≤ d → Ev d 171 (0, fl_enter 5 [rv 31, iv t, iv s], [], h, fl_tot) (some (iv v), h, fl_tot) := by
  obtain ⟨T, lv, Hl, K⟩ := s171 hT b_t b_s (LVs.self (fl_enter 5 [rv 31, iv t, iv s]))
  obtain ⟨v, w1, w2⟩ := c_cardsIn_l hT b_t b_s 9 s 0 lv (by omega) (by omega) (by omega) (by omega) (by omega) Hl
  exact ⟨v, w1, fun d hd => K d _ hd (w2 d hd)⟩
theorem c_headOf {h : Hp} (hT : TInv h) {t s fr r : Int} (b_t : 0 ≤ t ∧ t ≤ 5) (b_s : 0 ≤ s ∧ s ≤ 3) (b_fr : 0 ≤ fr ∧ fr ≤ 1) (b_r : 0 ≤ r ∧ r ≤ 8) (hs : 0 ≤ rd 31 42 h ∧ rd 31 42 h ≤ 100000) : ∃ v, nxP h t s fr r (rd 31 42 h + 1) 32 v ∧ ∀ d, 4 ≤ d → Ev d 164 (0, fl_enter 5 [rv 31, iv t, iv s, iv fr, iv r], [], h, fl_tot) (some (iv v), h, fl_tot) := by
  rcases s164 hT b_t b_s b_fr b_r (LVs.self (fl_enter 5 [rv 31, iv t, iv s, iv fr, iv r])) with ⟨stamps6, f0, rfl, f2⟩ | ⟨stamps6, f0, rfl, f2⟩ | ⟨stamps6, f0, rfl, T, lv, Hl, K⟩
  all_goals first | (exfalso; omega) | skip
  obtain ⟨v, w1, w2⟩ := c_nextOf hT b_t b_s b_fr b_r (bf := rd 31 42 h + 1) (by omega)
  refine ⟨v, w1, fun d hd => ?_⟩
  obtain ⟨d, rfl⟩ : ∃ d', d = d' + 1 := ⟨d - 1, by omega⟩
  exact K d _ _ _ (by omega) (w2 d (by omega)) (by
    obtain ⟨T, K⟩ := s164r T.1 b_t b_s b_fr b_r (v := v) (by rcases w1 with w | w <;> omega) Hl
    exact K (d + 1) (by omega))
end
