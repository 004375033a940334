section
-- ===== PART A: goes FIRST, ahead of the names: the tables' words, and 'selects' of the private methods out of them =====
/-- a private method of a class that the tables say can be made, by its rows of tables_1 -/
def lw_okq (q : MethodName × Nat) : Prop := (q.1.cls ≠ "java/lang/invoke/MethodHandle" ∧ q.1.cls ≠ "java/lang/invoke/VarHandle") ∧ Cond.instantiable q.1.cls q.2 ∈ tables_1 ∧ Cond.privateMethod q.1 ∈ tables_1 ∧ Cond.instanceMethod q.1 ∈ tables_1
theorem lw_p0 : lw_okq (⟨"TestimonyBook$Bench", "weigh", "(I)V"⟩, 8) := ⟨⟨by decide +kernel, by decide +kernel⟩, List.mem_of_getElem? (i := 346) (by decide +kernel), List.mem_of_getElem? (i := 471) (by decide +kernel), List.mem_of_getElem? (i := 472) (by decide +kernel)⟩
theorem lw_p1 : lw_okq (⟨"TestimonyBook$Orders", "holds", "(III)Z"⟩, 8) := ⟨⟨by decide +kernel, by decide +kernel⟩, List.mem_of_getElem? (i := 245) (by decide +kernel), List.mem_of_getElem? (i := 487) (by decide +kernel), List.mem_of_getElem? (i := 488) (by decide +kernel)⟩
theorem lw_p2 : lw_okq (⟨"TestimonyBook$Bench", "signByAnswer", "(II)I"⟩, 8) := ⟨⟨by decide +kernel, by decide +kernel⟩, List.mem_of_getElem? (i := 346) (by decide +kernel), List.mem_of_getElem? (i := 505) (by decide +kernel), List.mem_of_getElem? (i := 506) (by decide +kernel)⟩
theorem lw_p3 : lw_okq (⟨"TestimonyBook$Bench", "clash", "(II)Z"⟩, 8) := ⟨⟨by decide +kernel, by decide +kernel⟩, List.mem_of_getElem? (i := 346) (by decide +kernel), List.mem_of_getElem? (i := 510) (by decide +kernel), List.mem_of_getElem? (i := 511) (by decide +kernel)⟩
theorem lw_p4 : lw_okq (⟨"TestimonyBook", "demandOnTape", "(I)V"⟩, 14) := ⟨⟨by decide +kernel, by decide +kernel⟩, List.mem_of_getElem? (i := 28) (by decide +kernel), List.mem_of_getElem? (i := 539) (by decide +kernel), List.mem_of_getElem? (i := 540) (by decide +kernel)⟩
theorem lw_p5 : lw_okq (⟨"java/lang/Throwable", "fillInStackTrace", "(I)Ljava/lang/Throwable;"⟩, 6) := ⟨⟨by decide +kernel, by decide +kernel⟩, List.mem_of_getElem? (i := 580) (by decide +kernel), List.mem_of_getElem? (i := 578) (by decide +kernel), List.mem_of_getElem? (i := 579) (by decide +kernel)⟩
theorem lw_p6 : lw_okq (⟨"TestimonyBook", "endReading", "(I)V"⟩, 14) := ⟨⟨by decide +kernel, by decide +kernel⟩, List.mem_of_getElem? (i := 28) (by decide +kernel), List.mem_of_getElem? (i := 609) (by decide +kernel), List.mem_of_getElem? (i := 610) (by decide +kernel)⟩
theorem lw_p7 : lw_okq (⟨"TestimonyBook$Scribe", "begin", "(I)V"⟩, 13) := ⟨⟨by decide +kernel, by decide +kernel⟩, List.mem_of_getElem? (i := 299) (by decide +kernel), List.mem_of_getElem? (i := 621) (by decide +kernel), List.mem_of_getElem? (i := 622) (by decide +kernel)⟩
theorem lw_p8 : lw_okq (⟨"TestimonyBook$Scribe", "takeLine", "(I)Z"⟩, 13) := ⟨⟨by decide +kernel, by decide +kernel⟩, List.mem_of_getElem? (i := 299) (by decide +kernel), List.mem_of_getElem? (i := 647) (by decide +kernel), List.mem_of_getElem? (i := 648) (by decide +kernel)⟩
theorem lw_p9 : lw_okq (⟨"TestimonyBook$Scribe", "sign", "()I"⟩, 13) := ⟨⟨by decide +kernel, by decide +kernel⟩, List.mem_of_getElem? (i := 299) (by decide +kernel), List.mem_of_getElem? (i := 652) (by decide +kernel), List.mem_of_getElem? (i := 653) (by decide +kernel)⟩
theorem lw_p10 : lw_okq (⟨"TestimonyBook$Scribe", "takeHead", "(II)Z"⟩, 13) := ⟨⟨by decide +kernel, by decide +kernel⟩, List.mem_of_getElem? (i := 299) (by decide +kernel), List.mem_of_getElem? (i := 745) (by decide +kernel), List.mem_of_getElem? (i := 746) (by decide +kernel)⟩
theorem lw_p11 : lw_okq (⟨"TestimonyBook$Scribe", "refuse", "(II)Z"⟩, 13) := ⟨⟨by decide +kernel, by decide +kernel⟩, List.mem_of_getElem? (i := 299) (by decide +kernel), List.mem_of_getElem? (i := 749) (by decide +kernel), List.mem_of_getElem? (i := 750) (by decide +kernel)⟩
theorem lw_p12 : lw_okq (⟨"TestimonyBook$Scribe", "expect", "(I)Z"⟩, 13) := ⟨⟨by decide +kernel, by decide +kernel⟩, List.mem_of_getElem? (i := 299) (by decide +kernel), List.mem_of_getElem? (i := 760) (by decide +kernel), List.mem_of_getElem? (i := 761) (by decide +kernel)⟩
theorem lw_p13 : lw_okq (⟨"TestimonyBook$Scribe", "step", "()Z"⟩, 13) := ⟨⟨by decide +kernel, by decide +kernel⟩, List.mem_of_getElem? (i := 299) (by decide +kernel), List.mem_of_getElem? (i := 764) (by decide +kernel), List.mem_of_getElem? (i := 765) (by decide +kernel)⟩
theorem lw_p14 : lw_okq (⟨"TestimonyBook$Lines", "setPage", "(I)V"⟩, 9) := ⟨⟨by decide +kernel, by decide +kernel⟩, List.mem_of_getElem? (i := 103) (by decide +kernel), List.mem_of_getElem? (i := 772) (by decide +kernel), List.mem_of_getElem? (i := 773) (by decide +kernel)⟩
theorem lw_p15 : lw_okq (⟨"TestimonyBook$Lines", "setEntry", "(I)V"⟩, 9) := ⟨⟨by decide +kernel, by decide +kernel⟩, List.mem_of_getElem? (i := 103) (by decide +kernel), List.mem_of_getElem? (i := 776) (by decide +kernel), List.mem_of_getElem? (i := 777) (by decide +kernel)⟩
def lw_privs_1 : List (MethodName × Nat) := [(⟨"TestimonyBook$Bench", "weigh", "(I)V"⟩, 8), (⟨"TestimonyBook$Orders", "holds", "(III)Z"⟩, 8), (⟨"TestimonyBook$Bench", "signByAnswer", "(II)I"⟩, 8), (⟨"TestimonyBook$Bench", "clash", "(II)Z"⟩, 8), (⟨"TestimonyBook", "demandOnTape", "(I)V"⟩, 14), (⟨"java/lang/Throwable", "fillInStackTrace", "(I)Ljava/lang/Throwable;"⟩, 6), (⟨"TestimonyBook", "endReading", "(I)V"⟩, 14), (⟨"TestimonyBook$Scribe", "begin", "(I)V"⟩, 13), (⟨"TestimonyBook$Scribe", "takeLine", "(I)Z"⟩, 13), (⟨"TestimonyBook$Scribe", "sign", "()I"⟩, 13), (⟨"TestimonyBook$Scribe", "takeHead", "(II)Z"⟩, 13), (⟨"TestimonyBook$Scribe", "refuse", "(II)Z"⟩, 13), (⟨"TestimonyBook$Scribe", "expect", "(I)Z"⟩, 13), (⟨"TestimonyBook$Scribe", "step", "()Z"⟩, 13), (⟨"TestimonyBook$Lines", "setPage", "(I)V"⟩, 9), (⟨"TestimonyBook$Lines", "setEntry", "(I)V"⟩, 9)]
theorem lw_r1 : ∀ q ∈ lw_privs_1, lw_okq q := List.forall_mem_cons.mpr ⟨lw_p0, List.forall_mem_cons.mpr ⟨lw_p1, List.forall_mem_cons.mpr ⟨lw_p2, List.forall_mem_cons.mpr ⟨lw_p3, List.forall_mem_cons.mpr ⟨lw_p4, List.forall_mem_cons.mpr ⟨lw_p5, List.forall_mem_cons.mpr ⟨lw_p6, List.forall_mem_cons.mpr ⟨lw_p7, List.forall_mem_cons.mpr ⟨lw_p8, List.forall_mem_cons.mpr ⟨lw_p9, List.forall_mem_cons.mpr ⟨lw_p10, List.forall_mem_cons.mpr ⟨lw_p11, List.forall_mem_cons.mpr ⟨lw_p12, List.forall_mem_cons.mpr ⟨lw_p13, List.forall_mem_cons.mpr ⟨lw_p14, List.forall_mem_cons.mpr ⟨lw_p15, fun _ h => absurd h List.not_mem_nil⟩⟩⟩⟩⟩⟩⟩⟩⟩⟩⟩⟩⟩⟩⟩⟩
theorem lw_p16 : lw_okq (⟨"TestimonyBook$Lines", "entryBefore", "(I)I"⟩, 9) := ⟨⟨by decide +kernel, by decide +kernel⟩, List.mem_of_getElem? (i := 103) (by decide +kernel), List.mem_of_getElem? (i := 780) (by decide +kernel), List.mem_of_getElem? (i := 781) (by decide +kernel)⟩
theorem lw_p17 : lw_okq (⟨"TestimonyBook$Scribe", "takeNaming", "(I)Z"⟩, 13) := ⟨⟨by decide +kernel, by decide +kernel⟩, List.mem_of_getElem? (i := 299) (by decide +kernel), List.mem_of_getElem? (i := 784) (by decide +kernel), List.mem_of_getElem? (i := 785) (by decide +kernel)⟩
theorem lw_p18 : lw_okq (⟨"TestimonyBook$Scribe", "takeName", "()Z"⟩, 13) := ⟨⟨by decide +kernel, by decide +kernel⟩, List.mem_of_getElem? (i := 299) (by decide +kernel), List.mem_of_getElem? (i := 788) (by decide +kernel), List.mem_of_getElem? (i := 789) (by decide +kernel)⟩
theorem lw_p19 : lw_okq (⟨"TestimonyBook$Scribe", "takeNewName", "(II)Z"⟩, 13) := ⟨⟨by decide +kernel, by decide +kernel⟩, List.mem_of_getElem? (i := 299) (by decide +kernel), List.mem_of_getElem? (i := 799) (by decide +kernel), List.mem_of_getElem? (i := 800) (by decide +kernel)⟩
theorem lw_p20 : lw_okq (⟨"TestimonyBook$Scribe", "lineEnds", "()Z"⟩, 13) := ⟨⟨by decide +kernel, by decide +kernel⟩, List.mem_of_getElem? (i := 299) (by decide +kernel), List.mem_of_getElem? (i := 807) (by decide +kernel), List.mem_of_getElem? (i := 808) (by decide +kernel)⟩
theorem lw_p21 : lw_okq (⟨"TestimonyBook$Scribe", "takeRest", "(I)Z"⟩, 13) := ⟨⟨by decide +kernel, by decide +kernel⟩, List.mem_of_getElem? (i := 299) (by decide +kernel), List.mem_of_getElem? (i := 816) (by decide +kernel), List.mem_of_getElem? (i := 817) (by decide +kernel)⟩
theorem lw_p22 : lw_okq (⟨"TestimonyBook$Scribe", "takeFact", "(I)Z"⟩, 13) := ⟨⟨by decide +kernel, by decide +kernel⟩, List.mem_of_getElem? (i := 299) (by decide +kernel), List.mem_of_getElem? (i := 820) (by decide +kernel), List.mem_of_getElem? (i := 821) (by decide +kernel)⟩
theorem lw_p23 : lw_okq (⟨"TestimonyBook$Scribe", "takeNumber", "()Z"⟩, 13) := ⟨⟨by decide +kernel, by decide +kernel⟩, List.mem_of_getElem? (i := 299) (by decide +kernel), List.mem_of_getElem? (i := 831) (by decide +kernel), List.mem_of_getElem? (i := 832) (by decide +kernel)⟩
theorem lw_p24 : lw_okq (⟨"TestimonyBook$Scribe", "takeMention", "(I)Z"⟩, 13) := ⟨⟨by decide +kernel, by decide +kernel⟩, List.mem_of_getElem? (i := 299) (by decide +kernel), List.mem_of_getElem? (i := 839) (by decide +kernel), List.mem_of_getElem? (i := 840) (by decide +kernel)⟩
theorem lw_p25 : lw_okq (⟨"TestimonyBook$Rests", "add", "(IIILTestimonyBook$Bytes;II)V"⟩, 9) := ⟨⟨by decide +kernel, by decide +kernel⟩, List.mem_of_getElem? (i := 138) (by decide +kernel), List.mem_of_getElem? (i := 857) (by decide +kernel), List.mem_of_getElem? (i := 858) (by decide +kernel)⟩
theorem lw_p26 : lw_okq (⟨"TestimonyBook$Scribe", "finish", "(Z)I"⟩, 13) := ⟨⟨by decide +kernel, by decide +kernel⟩, List.mem_of_getElem? (i := 299) (by decide +kernel), List.mem_of_getElem? (i := 863) (by decide +kernel), List.mem_of_getElem? (i := 864) (by decide +kernel)⟩
theorem lw_p27 : lw_okq (⟨"TestimonyBook", "demandLines", "(II)V"⟩, 14) := ⟨⟨by decide +kernel, by decide +kernel⟩, List.mem_of_getElem? (i := 28) (by decide +kernel), List.mem_of_getElem? (i := 1004) (by decide +kernel), List.mem_of_getElem? (i := 1005) (by decide +kernel)⟩
theorem lw_p28 : lw_okq (⟨"TestimonyBook", "readBack", "(III)I"⟩, 14) := ⟨⟨by decide +kernel, by decide +kernel⟩, List.mem_of_getElem? (i := 28) (by decide +kernel), List.mem_of_getElem? (i := 1053) (by decide +kernel), List.mem_of_getElem? (i := 1054) (by decide +kernel)⟩
theorem lw_p29 : lw_okq (⟨"TestimonyBook$Bench", "shows", "(II)Z"⟩, 8) := ⟨⟨by decide +kernel, by decide +kernel⟩, List.mem_of_getElem? (i := 346) (by decide +kernel), List.mem_of_getElem? (i := 1134) (by decide +kernel), List.mem_of_getElem? (i := 1135) (by decide +kernel)⟩
theorem lw_p30 : lw_okq (⟨"TestimonyBook$Bench", "isDisputed", "(I)Z"⟩, 8) := ⟨⟨by decide +kernel, by decide +kernel⟩, List.mem_of_getElem? (i := 346) (by decide +kernel), List.mem_of_getElem? (i := 1138) (by decide +kernel), List.mem_of_getElem? (i := 1139) (by decide +kernel)⟩
theorem lw_p31 : lw_okq (⟨"TestimonyBookModel", "fail", "(I)I"⟩, 54) := ⟨⟨by decide +kernel, by decide +kernel⟩, List.mem_of_getElem? (i := 1150) (by decide +kernel), List.mem_of_getElem? (i := 1331) (by decide +kernel), List.mem_of_getElem? (i := 1332) (by decide +kernel)⟩
def lw_privs_2 : List (MethodName × Nat) := [(⟨"TestimonyBook$Lines", "entryBefore", "(I)I"⟩, 9), (⟨"TestimonyBook$Scribe", "takeNaming", "(I)Z"⟩, 13), (⟨"TestimonyBook$Scribe", "takeName", "()Z"⟩, 13), (⟨"TestimonyBook$Scribe", "takeNewName", "(II)Z"⟩, 13), (⟨"TestimonyBook$Scribe", "lineEnds", "()Z"⟩, 13), (⟨"TestimonyBook$Scribe", "takeRest", "(I)Z"⟩, 13), (⟨"TestimonyBook$Scribe", "takeFact", "(I)Z"⟩, 13), (⟨"TestimonyBook$Scribe", "takeNumber", "()Z"⟩, 13), (⟨"TestimonyBook$Scribe", "takeMention", "(I)Z"⟩, 13), (⟨"TestimonyBook$Rests", "add", "(IIILTestimonyBook$Bytes;II)V"⟩, 9), (⟨"TestimonyBook$Scribe", "finish", "(Z)I"⟩, 13), (⟨"TestimonyBook", "demandLines", "(II)V"⟩, 14), (⟨"TestimonyBook", "readBack", "(III)I"⟩, 14), (⟨"TestimonyBook$Bench", "shows", "(II)Z"⟩, 8), (⟨"TestimonyBook$Bench", "isDisputed", "(I)Z"⟩, 8), (⟨"TestimonyBookModel", "fail", "(I)I"⟩, 54)]
theorem lw_r2 : ∀ q ∈ lw_privs_2, lw_okq q := List.forall_mem_cons.mpr ⟨lw_p16, List.forall_mem_cons.mpr ⟨lw_p17, List.forall_mem_cons.mpr ⟨lw_p18, List.forall_mem_cons.mpr ⟨lw_p19, List.forall_mem_cons.mpr ⟨lw_p20, List.forall_mem_cons.mpr ⟨lw_p21, List.forall_mem_cons.mpr ⟨lw_p22, List.forall_mem_cons.mpr ⟨lw_p23, List.forall_mem_cons.mpr ⟨lw_p24, List.forall_mem_cons.mpr ⟨lw_p25, List.forall_mem_cons.mpr ⟨lw_p26, List.forall_mem_cons.mpr ⟨lw_p27, List.forall_mem_cons.mpr ⟨lw_p28, List.forall_mem_cons.mpr ⟨lw_p29, List.forall_mem_cons.mpr ⟨lw_p30, List.forall_mem_cons.mpr ⟨lw_p31, fun _ h => absurd h List.not_mem_nil⟩⟩⟩⟩⟩⟩⟩⟩⟩⟩⟩⟩⟩⟩⟩⟩
theorem lw_p32 : lw_okq (⟨"TestimonyBookModel", "readLine", "(I)V"⟩, 54) := ⟨⟨by decide +kernel, by decide +kernel⟩, List.mem_of_getElem? (i := 1150) (by decide +kernel), List.mem_of_getElem? (i := 1335) (by decide +kernel), List.mem_of_getElem? (i := 1336) (by decide +kernel)⟩
theorem lw_p33 : lw_okq (⟨"TestimonyBookModel", "now0", "()I"⟩, 54) := ⟨⟨by decide +kernel, by decide +kernel⟩, List.mem_of_getElem? (i := 1150) (by decide +kernel), List.mem_of_getElem? (i := 1339) (by decide +kernel), List.mem_of_getElem? (i := 1340) (by decide +kernel)⟩
theorem lw_p34 : lw_okq (⟨"TestimonyBookModel", "wrong", "(II)V"⟩, 54) := ⟨⟨by decide +kernel, by decide +kernel⟩, List.mem_of_getElem? (i := 1150) (by decide +kernel), List.mem_of_getElem? (i := 1346) (by decide +kernel), List.mem_of_getElem? (i := 1347) (by decide +kernel)⟩
theorem lw_p35 : lw_okq (⟨"TestimonyBookModel", "readExhibit", "()V"⟩, 54) := ⟨⟨by decide +kernel, by decide +kernel⟩, List.mem_of_getElem? (i := 1150) (by decide +kernel), List.mem_of_getElem? (i := 1350) (by decide +kernel), List.mem_of_getElem? (i := 1351) (by decide +kernel)⟩
theorem lw_p36 : lw_okq (⟨"TestimonyBookModel", "readName", "(I)I"⟩, 54) := ⟨⟨by decide +kernel, by decide +kernel⟩, List.mem_of_getElem? (i := 1150) (by decide +kernel), List.mem_of_getElem? (i := 1354) (by decide +kernel), List.mem_of_getElem? (i := 1355) (by decide +kernel)⟩
theorem lw_p37 : lw_okq (⟨"TestimonyBookModel", "take", "(I)V"⟩, 54) := ⟨⟨by decide +kernel, by decide +kernel⟩, List.mem_of_getElem? (i := 1150) (by decide +kernel), List.mem_of_getElem? (i := 1361) (by decide +kernel), List.mem_of_getElem? (i := 1362) (by decide +kernel)⟩
theorem lw_p38 : lw_okq (⟨"TestimonyBookModel", "named", "(JI)I"⟩, 54) := ⟨⟨by decide +kernel, by decide +kernel⟩, List.mem_of_getElem? (i := 1150) (by decide +kernel), List.mem_of_getElem? (i := 1365) (by decide +kernel), List.mem_of_getElem? (i := 1366) (by decide +kernel)⟩
theorem lw_p39 : lw_okq (⟨"TestimonyBookModel", "nameAt", "(II)J"⟩, 54) := ⟨⟨by decide +kernel, by decide +kernel⟩, List.mem_of_getElem? (i := 1150) (by decide +kernel), List.mem_of_getElem? (i := 1369) (by decide +kernel), List.mem_of_getElem? (i := 1370) (by decide +kernel)⟩
theorem lw_p40 : lw_okq (⟨"TestimonyBookModel", "name", "(IJ)V"⟩, 54) := ⟨⟨by decide +kernel, by decide +kernel⟩, List.mem_of_getElem? (i := 1150) (by decide +kernel), List.mem_of_getElem? (i := 1373) (by decide +kernel), List.mem_of_getElem? (i := 1374) (by decide +kernel)⟩
theorem lw_p41 : lw_okq (⟨"TestimonyBookModel", "readRest", "(II)V"⟩, 54) := ⟨⟨by decide +kernel, by decide +kernel⟩, List.mem_of_getElem? (i := 1150) (by decide +kernel), List.mem_of_getElem? (i := 1377) (by decide +kernel), List.mem_of_getElem? (i := 1378) (by decide +kernel)⟩
theorem lw_p42 : lw_okq (⟨"TestimonyBookModel", "readMention", "(I)V"⟩, 54) := ⟨⟨by decide +kernel, by decide +kernel⟩, List.mem_of_getElem? (i := 1150) (by decide +kernel), List.mem_of_getElem? (i := 1381) (by decide +kernel), List.mem_of_getElem? (i := 1382) (by decide +kernel)⟩
theorem lw_p43 : lw_okq (⟨"TestimonyBookModel", "need", "(II)V"⟩, 54) := ⟨⟨by decide +kernel, by decide +kernel⟩, List.mem_of_getElem? (i := 1150) (by decide +kernel), List.mem_of_getElem? (i := 1385) (by decide +kernel), List.mem_of_getElem? (i := 1386) (by decide +kernel)⟩
theorem lw_p44 : lw_okq (⟨"TestimonyBookModel", "readFact", "(II)V"⟩, 54) := ⟨⟨by decide +kernel, by decide +kernel⟩, List.mem_of_getElem? (i := 1150) (by decide +kernel), List.mem_of_getElem? (i := 1389) (by decide +kernel), List.mem_of_getElem? (i := 1390) (by decide +kernel)⟩
theorem lw_p45 : lw_okq (⟨"TestimonyBookModel", "readNumber", "(I)I"⟩, 54) := ⟨⟨by decide +kernel, by decide +kernel⟩, List.mem_of_getElem? (i := 1150) (by decide +kernel), List.mem_of_getElem? (i := 1393) (by decide +kernel), List.mem_of_getElem? (i := 1394) (by decide +kernel)⟩
theorem lw_p46 : lw_okq (⟨"TestimonyBookModel", "keepLine", "(I)V"⟩, 54) := ⟨⟨by decide +kernel, by decide +kernel⟩, List.mem_of_getElem? (i := 1150) (by decide +kernel), List.mem_of_getElem? (i := 1397) (by decide +kernel), List.mem_of_getElem? (i := 1398) (by decide +kernel)⟩
theorem lw_p47 : lw_okq (⟨"TestimonyBookModel", "isLine", "(I)Z"⟩, 54) := ⟨⟨by decide +kernel, by decide +kernel⟩, List.mem_of_getElem? (i := 1150) (by decide +kernel), List.mem_of_getElem? (i := 1410) (by decide +kernel), List.mem_of_getElem? (i := 1411) (by decide +kernel)⟩
def lw_privs_3 : List (MethodName × Nat) := [(⟨"TestimonyBookModel", "readLine", "(I)V"⟩, 54), (⟨"TestimonyBookModel", "now0", "()I"⟩, 54), (⟨"TestimonyBookModel", "wrong", "(II)V"⟩, 54), (⟨"TestimonyBookModel", "readExhibit", "()V"⟩, 54), (⟨"TestimonyBookModel", "readName", "(I)I"⟩, 54), (⟨"TestimonyBookModel", "take", "(I)V"⟩, 54), (⟨"TestimonyBookModel", "named", "(JI)I"⟩, 54), (⟨"TestimonyBookModel", "nameAt", "(II)J"⟩, 54), (⟨"TestimonyBookModel", "name", "(IJ)V"⟩, 54), (⟨"TestimonyBookModel", "readRest", "(II)V"⟩, 54), (⟨"TestimonyBookModel", "readMention", "(I)V"⟩, 54), (⟨"TestimonyBookModel", "need", "(II)V"⟩, 54), (⟨"TestimonyBookModel", "readFact", "(II)V"⟩, 54), (⟨"TestimonyBookModel", "readNumber", "(I)I"⟩, 54), (⟨"TestimonyBookModel", "keepLine", "(I)V"⟩, 54), (⟨"TestimonyBookModel", "isLine", "(I)Z"⟩, 54)]
theorem lw_r3 : ∀ q ∈ lw_privs_3, lw_okq q := List.forall_mem_cons.mpr ⟨lw_p32, List.forall_mem_cons.mpr ⟨lw_p33, List.forall_mem_cons.mpr ⟨lw_p34, List.forall_mem_cons.mpr ⟨lw_p35, List.forall_mem_cons.mpr ⟨lw_p36, List.forall_mem_cons.mpr ⟨lw_p37, List.forall_mem_cons.mpr ⟨lw_p38, List.forall_mem_cons.mpr ⟨lw_p39, List.forall_mem_cons.mpr ⟨lw_p40, List.forall_mem_cons.mpr ⟨lw_p41, List.forall_mem_cons.mpr ⟨lw_p42, List.forall_mem_cons.mpr ⟨lw_p43, List.forall_mem_cons.mpr ⟨lw_p44, List.forall_mem_cons.mpr ⟨lw_p45, List.forall_mem_cons.mpr ⟨lw_p46, List.forall_mem_cons.mpr ⟨lw_p47, fun _ h => absurd h List.not_mem_nil⟩⟩⟩⟩⟩⟩⟩⟩⟩⟩⟩⟩⟩⟩⟩⟩
theorem lw_p48 : lw_okq (⟨"TestimonyBookModel", "answered", "(I)I"⟩, 54) := ⟨⟨by decide +kernel, by decide +kernel⟩, List.mem_of_getElem? (i := 1150) (by decide +kernel), List.mem_of_getElem? (i := 1423) (by decide +kernel), List.mem_of_getElem? (i := 1424) (by decide +kernel)⟩
theorem lw_p49 : lw_okq (⟨"TestimonyBookModel", "isFact", "(I)Z"⟩, 54) := ⟨⟨by decide +kernel, by decide +kernel⟩, List.mem_of_getElem? (i := 1150) (by decide +kernel), List.mem_of_getElem? (i := 1435) (by decide +kernel), List.mem_of_getElem? (i := 1436) (by decide +kernel)⟩
theorem lw_p50 : lw_okq (⟨"TestimonyBookModel", "standsOn", "(II)I"⟩, 54) := ⟨⟨by decide +kernel, by decide +kernel⟩, List.mem_of_getElem? (i := 1150) (by decide +kernel), List.mem_of_getElem? (i := 1443) (by decide +kernel), List.mem_of_getElem? (i := 1444) (by decide +kernel)⟩
theorem lw_p51 : lw_okq (⟨"TestimonyBookModel", "restOn", "(II)I"⟩, 54) := ⟨⟨by decide +kernel, by decide +kernel⟩, List.mem_of_getElem? (i := 1150) (by decide +kernel), List.mem_of_getElem? (i := 1447) (by decide +kernel), List.mem_of_getElem? (i := 1448) (by decide +kernel)⟩
theorem lw_p52 : lw_okq (⟨"TestimonyBookModel", "isStruck", "(II)Z"⟩, 54) := ⟨⟨by decide +kernel, by decide +kernel⟩, List.mem_of_getElem? (i := 1150) (by decide +kernel), List.mem_of_getElem? (i := 1451) (by decide +kernel), List.mem_of_getElem? (i := 1452) (by decide +kernel)⟩
theorem lw_p53 : lw_okq (⟨"TestimonyBookModel", "isOn", "(III)Z"⟩, 54) := ⟨⟨by decide +kernel, by decide +kernel⟩, List.mem_of_getElem? (i := 1150) (by decide +kernel), List.mem_of_getElem? (i := 1455) (by decide +kernel), List.mem_of_getElem? (i := 1456) (by decide +kernel)⟩
theorem lw_p54 : lw_okq (⟨"TestimonyBookModel", "doQuarrel", "(III)Z"⟩, 54) := ⟨⟨by decide +kernel, by decide +kernel⟩, List.mem_of_getElem? (i := 1150) (by decide +kernel), List.mem_of_getElem? (i := 1463) (by decide +kernel), List.mem_of_getElem? (i := 1464) (by decide +kernel)⟩
theorem lw_p55 : lw_okq (⟨"TestimonyBookModel", "say", "(I)V"⟩, 54) := ⟨⟨by decide +kernel, by decide +kernel⟩, List.mem_of_getElem? (i := 1150) (by decide +kernel), List.mem_of_getElem? (i := 1480) (by decide +kernel), List.mem_of_getElem? (i := 1481) (by decide +kernel)⟩
theorem lw_p56 : lw_okq (⟨"TestimonyBookModel", "level", "(II)I"⟩, 54) := ⟨⟨by decide +kernel, by decide +kernel⟩, List.mem_of_getElem? (i := 1150) (by decide +kernel), List.mem_of_getElem? (i := 1496) (by decide +kernel), List.mem_of_getElem? (i := 1497) (by decide +kernel)⟩
theorem lw_p57 : lw_okq (⟨"TestimonyBookModel", "sayHidden", "(Z)V"⟩, 54) := ⟨⟨by decide +kernel, by decide +kernel⟩, List.mem_of_getElem? (i := 1150) (by decide +kernel), List.mem_of_getElem? (i := 1505) (by decide +kernel), List.mem_of_getElem? (i := 1506) (by decide +kernel)⟩
theorem lw_p58 : lw_okq (⟨"TestimonyBookModel", "bytes", "()I"⟩, 54) := ⟨⟨by decide +kernel, by decide +kernel⟩, List.mem_of_getElem? (i := 1150) (by decide +kernel), List.mem_of_getElem? (i := 1517) (by decide +kernel), List.mem_of_getElem? (i := 1518) (by decide +kernel)⟩
def lw_privs_4 : List (MethodName × Nat) := [(⟨"TestimonyBookModel", "answered", "(I)I"⟩, 54), (⟨"TestimonyBookModel", "isFact", "(I)Z"⟩, 54), (⟨"TestimonyBookModel", "standsOn", "(II)I"⟩, 54), (⟨"TestimonyBookModel", "restOn", "(II)I"⟩, 54), (⟨"TestimonyBookModel", "isStruck", "(II)Z"⟩, 54), (⟨"TestimonyBookModel", "isOn", "(III)Z"⟩, 54), (⟨"TestimonyBookModel", "doQuarrel", "(III)Z"⟩, 54), (⟨"TestimonyBookModel", "say", "(I)V"⟩, 54), (⟨"TestimonyBookModel", "level", "(II)I"⟩, 54), (⟨"TestimonyBookModel", "sayHidden", "(Z)V"⟩, 54), (⟨"TestimonyBookModel", "bytes", "()I"⟩, 54)]
theorem lw_r4 : ∀ q ∈ lw_privs_4, lw_okq q := List.forall_mem_cons.mpr ⟨lw_p48, List.forall_mem_cons.mpr ⟨lw_p49, List.forall_mem_cons.mpr ⟨lw_p50, List.forall_mem_cons.mpr ⟨lw_p51, List.forall_mem_cons.mpr ⟨lw_p52, List.forall_mem_cons.mpr ⟨lw_p53, List.forall_mem_cons.mpr ⟨lw_p54, List.forall_mem_cons.mpr ⟨lw_p55, List.forall_mem_cons.mpr ⟨lw_p56, List.forall_mem_cons.mpr ⟨lw_p57, List.forall_mem_cons.mpr ⟨lw_p58, fun _ h => absurd h List.not_mem_nil⟩⟩⟩⟩⟩⟩⟩⟩⟩⟩⟩
def lw_privs : List (MethodName × Nat) := lw_privs_1 ++ (lw_privs_2 ++ (lw_privs_3 ++ (lw_privs_4)))
def lw_tbl : List Cond := k2_sels lw_privs ++ tables_1
theorem lw_privs_ok : ∀ q ∈ lw_privs, lw_okq q := by
  show ∀ q ∈ lw_privs_1 ++ (lw_privs_2 ++ (lw_privs_3 ++ (lw_privs_4))), lw_okq q
  exact List.forall_mem_append.mpr ⟨lw_r1, List.forall_mem_append.mpr ⟨lw_r2, List.forall_mem_append.mpr ⟨lw_r3, lw_r4⟩⟩⟩
end
section
/-! ===== BEGIN words of one list among another's, by their places ===== -/
theorem goodIn_r {big : List Cond} (ws : List Cond) (ps : List Nat) (hp : ws = ps.filterMap (fun i => big[i]?)) (h : ws.all goodWord = true) : GoodIn big ws := by
  intro w hw
  have h1 := List.all_eq_true.mp h w hw
  rw [hp] at hw
  obtain ⟨i, -, hi⟩ := List.mem_filterMap.mp hw
  have hm : w ∈ big := by first | exact List.mem_of_getElem? hi | exact List.getElem?_mem hi
  exact ⟨hm, good_of_word h1⟩
theorem goodIn_app {big a b : List Cond} (ha : GoodIn big a) (hb : GoodIn big b) : GoodIn big (a ++ b) := fun w h => (List.mem_append.mp h).elim (ha w) (hb w)
theorem goodIn_ca {big a b : List Cond} {c : Cond} (ha : GoodIn big (c :: a)) (hb : GoodIn big b) : GoodIn big (c :: (a ++ b)) := fun w h => (List.mem_cons.mp h).elim (fun e => ha w (List.mem_cons.mpr (Or.inl e))) (fun h => (List.mem_append.mp h).elim (fun h => ha w (List.mem_cons.mpr (Or.inr h))) (hb w))
theorem goodIn_sub {big ws : List Cond} (hm : ∀ w ∈ ws, w ∈ big) (h : ws.all goodWord = true) : GoodIn big ws := fun w hw => ⟨hm w hw, good_of_word (List.all_eq_true.mp h w hw)⟩
/-! ===== END ===== -/

/-! ===== BEGIN exceptions that leave a method, and their catching by the caller (launches without stack traces) ===== -/
section VXA
/-! The laws vx_back, vx_callV, vx_callS, vx_callSW, vx_throw0, vx_throwS follow proofs of the library, with one case more: JvmDerived/Free/Laws.lean (Back.of_free), Shelf42/LK1.lean (callV, callS), Shelf/KitTraced.lean (throwNew0V, throwNewS). -/
/-- where a method has thrown q: the class by its name, the cell, what was written, the world -/
def vx_T (XC : String → State → State → Prop) (st : State) (q : Addr) (t : State) (mc ms : Nat) (free : Addr → Prop) : Prop :=
  ∃ (E : String) (ce : Cell) (L : List Loc), XC E st t ∧ t.heap[q]? = some ce ∧ ce.vm = .none ∧ st.vm.findClass E = some ce.cls ∧ st.WarmedH t.vm ∧ st.sameButNew ({ t with vm := st.vm } : State) L mc ms ∧ ∀ z ∈ L, free z.base
def vx_Q (Qc : Array Value → State → Outcome → State → Prop) (XC : String → State → State → Prop) (mc ms : Nat) (free : Addr → Prop) : Array Value → State → Outcome → State → Prop := fun a st o t =>
  (Qc a st o t ∧ ∃ L, FrameEnd st o t L mc ms ∧ ∀ q ∈ L, free q.base) ∨ ∃ q, o = .threw q ∧ vx_T XC st q t mc ms free
/-- a callee that returns or throws -/
def vx_Met (l : Launch) (y : MethodName) (ws : List Cond) (rm : Room) (Pc : Array Value → State → Prop) (Qc : Array Value → State → Outcome → State → Prop) (XC : String → State → State → Prop) (mc ms : Nat) (free : Addr → Prop) : Prop :=
  MetFree l y (headSpec ws rm) Pc (fun _ _ _ _ _ => True) (vx_Q Qc XC mc ms free)
def vx_Post (XC : String → State → State → Prop) (mc ms : Nat) (free : Addr → Prop) : Pt → Array Value → Addr → Pt → Prop := fun A a q B =>
  ∃ (g : JFrame) (mk : MethodId) (t : State) (L : List Loc) (E : String) (ce : Cell), B.U.heap = t.heap ∧ B.U.vm = t.vm ∧ XC E (A.U.calling g mk a) t ∧ t.heap[q]? = some ce ∧ ce.vm = .none ∧ A.U.vm.findClass E = some ce.cls ∧ B.locs = A.locs ++ L ∧ (∀ z ∈ L, free z.base) ∧ B.cells = A.cells + mc ∧ B.slots = A.slots + ms
def vx_Back (l : Launch) (R : Room) (p : Program) (e : Env) (below : List Frame) (s : State) (sargs : Array Value) (y : MethodName) (len W9 : Nat)
    (Pre : Pt → Array Value → Prop) (Post : Pt → Array Value → Option Value → Pt → Prop) (PostX : Pt → Array Value → Addr → Pt → Prop) : Prop :=
  ∀ (m : MethodId) (meth : Method) (c : Code) (A : Pt) (g : JFrame) (ig : Instr) (mk : MethodId) (a : Array Value),
    Stand p l e R s m sargs below meth c A.U A.locs A.cells A.slots → g.method = m → g.locals.size = c.maxLocals → decode c.code g.pc = .ok (ig, len) →
    2 * g.monitorRoom + (g.stack.map fun v => v.category).sum ≤ W9 → A.U.methodNamed? y = some mk → Pre A a →
    (∃ (v : Option Value) (B : Pt), Stand p l e R s m sargs below meth c B.U B.locs B.cells B.slots ∧ Post A a v B ∧
      Steps p.tables e below (doInvoke e (A.U.setTop g) [] mk a).1 (B.U.setTop { g with pc := g.pc + len, stack := v.toList ++ g.stack })) ∨
    (∃ (q : Addr) (B : Pt), Stand p l e R s m sargs below meth c B.U B.locs B.cells B.slots ∧ PostX A a q B ∧
      Steps p.tables e below (doInvoke e (A.U.setTop g) [] mk a).1 ((B.U.setTop g).pushFrame (.throwing q)))
section Payer
variable {l : Launch} {R : Room} {p : Program} {e : Env} {below : List Frame} {s : State} {sargs : Array Value} {y : MethodName} {len W9 : Nat}
theorem vx_back {ws : List Cond} {rm : Room} {Pc : Array Value → State → Prop} {Qc : Array Value → State → Outcome → State → Prop} {XC : String → State → State → Prop} {mc ms : Nat} {free : Addr → Prop} {bytes : ByteArray} {maxL : Nat} {ret : Option FieldType}
    (hM : vx_Met l y ws rm Pc Qc XC mc ms free) (hblind : FrameBlind Pc) (hrc : rm.cells = mc) (hrs : rm.slots = ms)
    (hframes : rm.frames + 1 ≤ R.frames) (hlocals : W9 + (maxL + 11) + rm.locals ≤ R.locals)
    (hws : ∀ w ∈ ws, ∀ a' U, s.WarmedH U.vm → w.before a' U = true) (hcode : Cond.code y bytes maxL ret ∈ ws) (hinit : ∀ a' U, s.WarmedH U.vm → (Cond.initialized y.cls).before a' U = true) :
    vx_Back l R p e below s sargs y len W9 (PreOf R mc ms Pc) (PostOf Qc mc ms free) (vx_Post XC mc ms free) := by
  intro m meth c A g ig mk a X hg hsize hdg hW hn hp
  have h1 : (headSpec ws rm).pre.before a A.U = true := atoms_intro fun w hw => hws w hw _ _ X.warmed
  have h2 : (Cond.code y bytes maxL ret).before a A.U = true := hws _ hcode _ _ X.warmed
  have h3 : (Cond.initialized y.cls).before a A.U = true := hinit _ _ X.warmed
  have h4 : A.cells + (headSpec ws rm).room.cells ≤ R.cells := by rw [show (headSpec ws rm).room.cells = mc from hrc]; exact hp.1
  have h5 : A.slots + (headSpec ws rm).room.slots ≤ R.slots := by rw [show (headSpec ws rm).room.slots = ms from hrs]; exact hp.2.1
  have hPc : Pc a (A.U.calling g mk a) := hblind _ _ _ _ hp.2.2
  obtain ⟨U, Ls, c0, s0⟩ := A
  dsimp only [Pt.U, Pt.locs, Pt.cells, Pt.slots] at h1 h2 h3 h4 h5 X hn hPc ⊢
  obtain ⟨methY, cY, hmY, hcY, -, hlY, -, -, -, -⟩ := Cond.code_spec hn h2
  obtain ⟨kY, hkY, -⟩ := className_of_methodNamed hn
  have hinitY : kY.init = .initialized := Cond.initialized_spec (findClass_of_methodNamed hn) hkY h3
  have h : At U g.method c below := by rw [hg]; exact X.here
  have hlocals9 : W9 + (maxL + 11) + (headSpec ws rm).room.locals ≤ R.locals := hlocals
  have happ : (headSpec ws rm).appliesLoose y e.platform (U.calling g mk a) = true :=
    Spec.appliesLoose_calling (g := g) h hdg hn hkY hinitY
      (X.room_calling (g := g) (R' := (headSpec ws rm).room) hsize hmY hcY hframes (by rw [hlY]; omega) h4 h5) h1
  obtain ⟨mid, hmid⟩ := h.above
  have hfr : (U.setTop g).frames = (.java g :: mid) ++ below := by rw [State.frames_setTop' g h.top, hmid]; rfl
  obtain ⟨o, s₂, hsteps, -, hend, hq⟩ := Steps.callFree hM p X.admits X.cas X.clock (acts := []) hfr happ hPc trivial
  have hq' : vx_Q Qc XC mc ms free a (U.calling g mk a) o s₂ := hq
  rw [State.frames_setTop' g h.top] at hend
  obtain ⟨g₀, hg0⟩ := Option.isSome_iff_exists.mp h.top
  obtain ⟨r, hr⟩ := State.topJava?_eq_some.mp hg0
  have hr' : (({ U with heap := s₂.heap, slotsUsed := s₂.slotsUsed } : State).setVm s₂.vm).frames = .java g₀ :: r := hr
  rcases hq' with ⟨hqc, L, hfe, hL⟩ | ⟨q, rfl, E, ce, L, hx, hce, hcv, hcl, hW₂, hsm, hL⟩
  · obtain ⟨⟨v, rfl⟩, hW₂, e2, q2, q3, q4, q5, q6⟩ := id hfe
    have e3 : s₂ = ({ (U.calling g mk a).setFrames s₂.frames with heap := s₂.heap, slotsUsed := s₂.slotsUsed } : State).setVm s₂.vm := by
      have : s₂ = ({ s₂ with vm := (U.calling g mk a).vm } : State).setVm s₂.vm := rfl
      rw [e2] at this
      exact this
    obtain ⟨c₂, i₂, len₂, hc₂, hd₂, hf₂⟩ := hend
    have hW' : U.WarmedH s₂.vm := hW₂
    have hcc : c₂ = c := by
      have h1 : s₂.code? g.method = U.code? g.method := by
        rw [State.code?_eq, State.code?_eq, hW'.alike.method?]
      exact Option.some.inj (hc₂.symm.trans (h1.trans h.code))
    subst hcc
    have hlen : len₂ = len := by rw [hdg] at hd₂; cases hd₂; rfl
    subst hlen
    have hs₂ : s₂ = (({ U with heap := s₂.heap, slotsUsed := s₂.slotsUsed } : State).setVm s₂.vm).setTop { g with pc := g.pc + len₂, stack := v.toList ++ g.stack } := by
      refine e3.trans ?_
      rw [hf₂, State.calling_eq h.top, State.setFrames_setFrames, State.setTop_of_frames _ hr', hr]
      rfl
    have hsame : U.sameButNew ({ U with heap := s₂.heap, slotsUsed := s₂.slotsUsed } : State) L mc ms := by
      refine ⟨?_, q2, q3, q4, q5, q6⟩
      obtain ⟨t, ht, -⟩ := State.frames_cons hr
      show ({ U with heap := s₂.heap, slotsUsed := s₂.slotsUsed } : State) = { U.setFrames U.frames with heap := s₂.heap, slotsUsed := s₂.slotsUsed }
      rw [State.setFrames_self ht]
    subst hg
    refine Or.inl ⟨v, ⟨(({ U with heap := s₂.heap, slotsUsed := s₂.slotsUsed } : State).setVm s₂.vm), Ls ++ L, c0 + mc, s0 + ms⟩,
      ⟨X.admits, X.cas, X.clock, X.frames, X.room, X.hears, X.method, X.code, (X.here.setHeapUsed s₂.heap s₂.slotsUsed).setVm hW'.alike, X.tail, State.WarmedH.trans X.warmed hW', X.limits, X.bytes, X.same.trans (hsame.setVm s.vm)⟩,
      ⟨g, mk, s₂, L, rfl, rfl, hqc, rfl, hL, rfl, rfl⟩, ?_⟩
    show Steps p.tables e below _ ((({ U with heap := s₂.heap, slotsUsed := s₂.slotsUsed } : State).setVm s₂.vm).setTop { g with pc := g.pc + len₂, stack := v.toList ++ g.stack })
    rw [← hs₂]
    exact hsteps
  · obtain ⟨e2, q2, q3, q4, q5, q6⟩ := id hsm
    have e3 : s₂ = ({ (U.calling g mk a).setFrames s₂.frames with heap := s₂.heap, slotsUsed := s₂.slotsUsed } : State).setVm s₂.vm := by
      have : s₂ = ({ s₂ with vm := (U.calling g mk a).vm } : State).setVm s₂.vm := rfl
      rw [e2] at this
      exact this
    have hf₂ : s₂.frames = .throwing q :: .java g :: U.frames.tail := hend
    have hW' : U.WarmedH s₂.vm := hW₂
    have hs₂ : s₂ = ((({ U with heap := s₂.heap, slotsUsed := s₂.slotsUsed } : State).setVm s₂.vm).setTop g).pushFrame (.throwing q) := by
      refine e3.trans ?_
      rw [hf₂, State.calling_eq h.top, State.setFrames_setFrames, State.pushFrame, State.frames_setTop _ hr', State.setTop_of_frames _ hr', State.setFrames_setFrames, hr]
      rfl
    have hsame : U.sameButNew ({ U with heap := s₂.heap, slotsUsed := s₂.slotsUsed } : State) L mc ms := by
      refine ⟨?_, q2, q3, q4, q5, q6⟩
      obtain ⟨t, ht, -⟩ := State.frames_cons hr
      show ({ U with heap := s₂.heap, slotsUsed := s₂.slotsUsed } : State) = { U.setFrames U.frames with heap := s₂.heap, slotsUsed := s₂.slotsUsed }
      rw [State.setFrames_self ht]
    subst hg
    refine Or.inr ⟨q, ⟨(({ U with heap := s₂.heap, slotsUsed := s₂.slotsUsed } : State).setVm s₂.vm), Ls ++ L, c0 + mc, s0 + ms⟩,
      ⟨X.admits, X.cas, X.clock, X.frames, X.room, X.hears, X.method, X.code, (X.here.setHeapUsed s₂.heap s₂.slotsUsed).setVm hW'.alike, X.tail, State.WarmedH.trans X.warmed hW', X.limits, X.bytes, X.same.trans (hsame.setVm s.vm)⟩,
      ⟨g, mk, s₂, L, E, ce, rfl, rfl, hx, hce, hcv, hcl, rfl, hL, rfl, rfl⟩, ?_⟩
    show Steps p.tables e below _ (((({ U with heap := s₂.heap, slotsUsed := s₂.slotsUsed } : State).setVm s₂.vm).setTop g).pushFrame (.throwing q))
    rw [← hs₂]
    exact hsteps
end Payer
section Calls
variable {p : Program} {l : Launch} {e : Env} {R : Room} {s : State} {m : MethodId} {args : Array Value} {below : List Frame} {meth : Method} {c : Code} {T : State} {locs : List Loc} {cells slots : Nat}
theorem vx_callV (X : Stand p l e R s m args below meth c T locs cells slots) (hexec : p.tables.exec = Jvm.exec) {own C : String} {index : Nat} {y : MethodName} {bytes : ByteArray} {maxL : Nat} {ret : Option FieldType}
    (hown : s.vm.findClass own = some m.cls) (hlink : (Cond.methodLink own index y).before args s = true) (hinst : (Cond.instanceMethod y).before args s = true) (hsel : (Cond.selects C y y).before args s = true)
    (hcode : (Cond.code y bytes maxL ret).before args s = true) (hy : y.cls ≠ "java/lang/invoke/MethodHandle" ∧ y.cls ≠ "java/lang/invoke/VarHandle")
    {W9 : Nat} {Pre : Pt → Array Value → Prop} {Post : Pt → Array Value → Option Value → Pt → Prop} {PostX : Pt → Array Value → Addr → Pt → Prop} (hK : vx_Back l R p e below s args y 3 W9 Pre Post PostX)
    {b : Addr} {cellB : Cell} (hcell : T.heap[b]? = some cellB) (hobj : cellB.vm.isStatics = false) (hcls : s.vm.findClass C = some cellB.cls)
    {g : JFrame} (hg : g.method = m) (hsize : g.locals.size = c.maxLocals) {argsL rest : List Value} (hlen : ∀ sig, parseMethodDescriptor y.desc = some sig → argsL.length = sig.parameters.length)
    (hstack : g.stack = argsL.reverse ++ .ref b :: rest) (hW : 2 * g.monitorRoom + (rest.map fun v => v.category).sum ≤ W9) (hdg : decode c.code g.pc = .ok (.invokevirtual index, 3))
    (hpre : ∀ vm₁, s.WarmedH vm₁ → Pre ⟨T.setVm vm₁, locs, cells, slots⟩ (Value.ref b :: argsL).toArray) :
    (∃ (v : Option Value) (vm₁ : Vm) (B : Pt), s.WarmedH vm₁ ∧ Stand p l e R s m args below meth c B.U B.locs B.cells B.slots ∧ Post ⟨T.setVm vm₁, locs, cells, slots⟩ (Value.ref b :: argsL).toArray v B ∧
      ∀ target, Steps p.tables e below (B.U.setTop { g with pc := g.pc + 3, stack := v.toList ++ rest }) target → Steps p.tables e below (T.setTop g) target) ∨
    (∃ (q : Addr) (vm₁ : Vm) (B : Pt), s.WarmedH vm₁ ∧ Stand p l e R s m args below meth c B.U B.locs B.cells B.slots ∧ PostX ⟨T.setVm vm₁, locs, cells, slots⟩ (Value.ref b :: argsL).toArray q B ∧
      Steps p.tables e below (T.setTop g) ((B.U.setTop { g with stack := rest }).pushFrame (.throwing q))) := by
  obtain ⟨mk, methM, hnamed, hmethM, hstM, habM⟩ := Cond.instanceMethod_spec hinst
  obtain ⟨methM', cM, hmethM', -, -, -, -, -, -, hsigM⟩ := Cond.code_spec hnamed hcode
  cases hmethM.symm.trans hmethM'
  obtain ⟨c2, r2, m2, q1, q2, q3, q4, kP, hkP, hkPi⟩ := Cond.selects_spec hsel
  cases hcls.symm.trans q1
  cases (State.methodFound?_of_named hnamed hy).symm.trans q2
  cases hnamed.symm.trans q3
  have hselP : selectMethod e.platform s.vm cellB.cls mk = .method mk := by rw [Launch.admits_selectMethod X.admits]; exact q4
  obtain ⟨vm₁, X₁, hstep₁⟩ := X.invokevirtual hexec hown hlink hnamed hmethM hstM hkP hkPi hy (a := b) (cell := cellB) hcell
    (fun z h => by rw [h] at hobj; cases hobj) hselP hmethM habM hkP hkPi (g := g) hg (argsL := argsL) (rest := rest) (hlen _ hsigM) hstack hdg
  rcases hK m meth c ⟨T.setVm vm₁, locs, cells, slots⟩ { g with stack := rest } (.invokevirtual index) mk (Value.ref b :: argsL).toArray X₁ hg hsize hdg hW (X₁.named hnamed) (hpre vm₁ X₁.warmed) with ⟨v, B, X', hpost, hsteps⟩ | ⟨q, B, X', hpost, hsteps⟩
  · exact Or.inl ⟨v, vm₁, B, X₁.warmed, X', hpost, fun target h => hstep₁ _ fun acts => by rw [doInvoke_state]; exact hsteps.trans h⟩
  · exact Or.inr ⟨q, vm₁, B, X₁.warmed, X', hpost, hstep₁ _ fun acts => by rw [doInvoke_state]; exact hsteps⟩
theorem vx_callS (X : Stand p l e R s m args below meth c T locs cells slots) (hexec : p.tables.exec = Jvm.exec) {own : String} {index : Nat} {y : MethodName} {bytes : ByteArray} {maxL : Nat} {ret : Option FieldType}
    (hown : s.vm.findClass own = some m.cls) (hlink : (Cond.methodLink own index y).before args s = true) (hstat : (Cond.static y).before args s = true) (hinit : (Cond.initialized y.cls).before args s = true)
    (hcode : (Cond.code y bytes maxL ret).before args s = true) (hy : y.cls ≠ "java/lang/invoke/MethodHandle" ∧ y.cls ≠ "java/lang/invoke/VarHandle")
    {W9 : Nat} {Pre : Pt → Array Value → Prop} {Post : Pt → Array Value → Option Value → Pt → Prop} {PostX : Pt → Array Value → Addr → Pt → Prop} (hK : vx_Back l R p e below s args y 3 W9 Pre Post PostX)
    {g : JFrame} (hg : g.method = m) (hsize : g.locals.size = c.maxLocals) {argsL rest : List Value} (hlen : ∀ sig, parseMethodDescriptor y.desc = some sig → argsL.length = sig.parameters.length)
    (hstack : g.stack = argsL.reverse ++ rest) (hW : 2 * g.monitorRoom + (rest.map fun v => v.category).sum ≤ W9) (hdg : decode c.code g.pc = .ok (.invokestatic index, 3))
    (hpre : ∀ vm₁, s.WarmedH vm₁ → Pre ⟨T.setVm vm₁, locs, cells, slots⟩ argsL.toArray) :
    (∃ (v : Option Value) (vm₁ : Vm) (B : Pt), s.WarmedH vm₁ ∧ Stand p l e R s m args below meth c B.U B.locs B.cells B.slots ∧ Post ⟨T.setVm vm₁, locs, cells, slots⟩ argsL.toArray v B ∧
      ∀ target, Steps p.tables e below (B.U.setTop { g with pc := g.pc + 3, stack := v.toList ++ rest }) target → Steps p.tables e below (T.setTop g) target) ∨
    (∃ (q : Addr) (vm₁ : Vm) (B : Pt), s.WarmedH vm₁ ∧ Stand p l e R s m args below meth c B.U B.locs B.cells B.slots ∧ PostX ⟨T.setVm vm₁, locs, cells, slots⟩ argsL.toArray q B ∧
      Steps p.tables e below (T.setTop g) ((B.U.setTop { g with stack := rest }).pushFrame (.throwing q))) := by
  obtain ⟨mk, hnamed⟩ := Cond.code_named hcode
  obtain ⟨methM, cM, hmethM, -, -, -, -, -, -, hsigM⟩ := Cond.code_spec hnamed hcode
  have hstatic : methM.isStatic = true := Cond.static_spec hnamed hmethM hstat
  obtain ⟨kP, hkP, -⟩ := className_of_methodNamed hnamed
  have hinitP : kP.init = .initialized := Cond.initialized_spec (findClass_of_methodNamed hnamed) hkP hinit
  obtain ⟨vm₁, X₁, hstep₁⟩ := X.invokestatic hexec hown hlink hnamed hmethM hstatic hkP hinitP hy (g := g) hg (argsL := argsL) (rest := rest) (hlen _ hsigM) hstack hdg
  rcases hK m meth c ⟨T.setVm vm₁, locs, cells, slots⟩ { g with stack := rest } (.invokestatic index) mk argsL.toArray X₁ hg hsize hdg hW (X₁.named hnamed) (hpre vm₁ X₁.warmed) with ⟨v, B, X', hpost, hsteps⟩ | ⟨q, B, X', hpost, hsteps⟩
  · exact Or.inl ⟨v, vm₁, B, X₁.warmed, X', hpost, fun target h => hstep₁ _ fun acts => by rw [doInvoke_state]; exact hsteps.trans h⟩
  · exact Or.inr ⟨q, vm₁, B, X₁.warmed, X', hpost, hstep₁ _ fun acts => by rw [doInvoke_state]; exact hsteps⟩
end Calls
theorem vx_cls {s : State} {T : State} {vm₁ : Vm} {E : String} {k : ClassId} (hW : s.WarmedH vm₁) (h : (T.setVm vm₁).vm.findClass E = some k) : s.vm.findClass E = some k := by
  have h1 : vm₁.findClass E = some k := h
  rw [hW.alike.findClass] at h1
  exact h1
/-- the method's frame g, with q thrown over it -/
def vx_W (p : Program) (l : Launch) (e : Env) (R : Room) (s : State) (m : MethodId) (args : Array Value) (below : List Frame) (meth : Method) (c : Code) (H : Heap) (locs : List Loc) (cells slots : Nat) (Q : State → Prop) (g : JFrame) (q : Addr) : Prop :=
  ∀ T : State, T.heap = H → Stand p l e R s m args below meth c T locs cells slots → ∃ t, Steps p.tables e below ((T.setTop g).pushFrame (.throwing q)) t ∧ Q t
def vx_Run (p : Program) (l : Launch) (e : Env) (R : Room) (s : State) (m : MethodId) (args : Array Value) (below : List Frame) (meth : Method) (c : Code) (H : Heap) (locs : List Loc) (cells slots mc ms : Nat) (g : JFrame) (rest : List Value) (Qa : State → Outcome → State → Prop) (XC : String → State → State → Prop) (free : Addr → Prop) : Prop :=
  ∀ T : State, T.heap = H → Stand p l e R s m args below meth c T locs cells slots →
    (∃ (v : Option Value) (st₀ t T' : State) (L : List Loc), st₀.heap = H ∧ Stand p l e R s m args below meth c T' (locs ++ L) (cells + mc) (slots + ms) ∧ (∀ q ∈ L, free q.base) ∧ T'.heap = t.heap ∧ T'.vm = t.vm ∧ Qa st₀ (.returned v) t ∧
      Goes p e below T g T' { g with pc := g.pc + 3, stack := v.toList ++ rest }) ∨
    (∃ (q : Addr) (st₀ t T' : State) (L : List Loc) (E : String) (ce : Cell), st₀.heap = H ∧ Stand p l e R s m args below meth c T' (locs ++ L) (cells + mc) (slots + ms) ∧ (∀ z ∈ L, free z.base) ∧ T'.heap = t.heap ∧ T'.vm = t.vm ∧ XC E st₀ t ∧ t.heap[q]? = some ce ∧ ce.vm = .none ∧ s.vm.findClass E = some ce.cls ∧
      Steps p.tables e below (T.setTop g) ((T'.setTop { g with stack := rest }).pushFrame (.throwing q)))
def vx_X {S : Type} (px : S → Prop) (B : String → S → State → Prop) (A : Nat → Prop) : String → State → State → Prop := fun E st t => ∃ u : S, px u ∧ B E u t ∧ va_F A st t
section Runs
variable {p : Program} {l : Launch} {e : Env} {R : Room} {s : State} {m : MethodId} {args : Array Value} {below : List Frame} {meth : Method} {c : Code} {H : Heap} {locs : List Loc} {cells slots : Nat}
variable {y : MethodName} {bytes cc : ByteArray} {maxL nL mc ms n index : Nat} {ret : Option FieldType} {ws : List Cond} {rm : Room} {Pc : Array Value → State → Prop} {Qc : Array Value → State → Outcome → State → Prop} {XC : String → State → State → Prop} {free : Addr → Prop} {Ts : List Cond} {own C : String} {b : Addr} {As rest : List Value} {g : JFrame}
theorem vx_callBack (cb : CallB R s args own index y bytes maxL ret ws rm mc ms n) (hM : vx_Met l y ws rm Pc Qc XC mc ms free) (hbl : FrameBlind Pc) : vx_Back l R p e below s args y 3 8 (PreOf R mc ms Pc) (PostOf Qc mc ms free) (vx_Post XC mc ms free) := by
  obtain ⟨hrc, hrs, hfr, hlo, hws, hcw, -, hini, -⟩ := cb
  exact vx_back (bytes := bytes) (maxL := maxL) (ret := ret) hM hbl hrc hrs hfr hlo hws hcw (fun a' U hW => word_at hW (Or.inl (by first | rfl | simp [Cond.onTables, Cond.keeps, Cond.steady])) hini)
theorem vx_runV (S : CallFix p m c cc nL s args Ts own) (hM : vx_Met l y ws rm Pc Qc XC mc ms free) (cw : CallW R s args own C index y bytes maxL ret ws rm mc ms n) (hp : PreV s H C b Pc As)
    (hg : g.method = m) (hn : As.length = n) (hsize : g.locals.size = nL) (hstack : g.stack = As.reverse ++ .ref b :: rest) (hW : 2 * g.monitorRoom + (rest.map fun v => v.category).sum ≤ 8) (hdg : decode cc g.pc = .ok (.invokevirtual index, 3)) (hf : cells + mc ≤ R.cells ∧ slots + ms ≤ R.slots) :
    vx_Run p l e R s m args below meth c H locs cells slots mc ms g rest (Qc (Value.ref b :: As).toArray) XC free := by
  have hK : vx_Back l R p e below s args y 3 8 (PreOf R mc ms Pc) (PostOf Qc mc ms free) (vx_Post XC mc ms free) := vx_callBack cw.1 hM hp.1
  obtain ⟨⟨-, -, -, -, -, -, hcode, -, hy, hlen, hl⟩, hin, hse⟩ := cw
  obtain ⟨hx, hb, hml, ho, -⟩ := S
  obtain ⟨-, ⟨cellB, hcB, hoB, hclB⟩, hPc⟩ := hp
  intro T hT X
  rcases vx_callV X hx (C := C) (bytes := bytes) (maxL := maxL) (ret := ret) ho hl hin hse hcode hy hK (by rw [hT]; exact hcB) hoB hclB hg (hsize.trans hml.symm) (argsL := As) (rest := rest) (fun sig h => hn.trans (hlen sig h)) hstack hW (by rw [hb]; exact hdg)
    (fun vm₁ hW₁ => ⟨hf.1, hf.2, hPc (T.setVm vm₁) hT hW₁⟩) with ⟨v, vm₁, ⟨U', l2, c2, s2⟩, hW₁, X', ⟨g', mk, t, L, e1, e2, hq, h1, hL, h2, h3⟩, st⟩ | ⟨q, vm₁, ⟨U', l2, c2, s2⟩, hW₁, X', ⟨g', mk, t, L, E, ce, e1, e2, hq, hce, hcv, hcl, h1, hL, h2, h3⟩, st⟩
  · dsimp only [Pt.U, Pt.locs, Pt.cells, Pt.slots] at X' e1 e2 h1 h2 h3 st
    subst h1; subst h2; subst h3
    exact Or.inl ⟨v, (T.setVm vm₁).calling g' mk (Value.ref b :: As).toArray, t, U', L, hT, X', hL, e1, e2, hq, st⟩
  · dsimp only [Pt.U, Pt.locs, Pt.cells, Pt.slots] at X' e1 e2 h1 h2 h3 st hcl
    subst h1; subst h2; subst h3
    exact Or.inr ⟨q, (T.setVm vm₁).calling g' mk (Value.ref b :: As).toArray, t, U', L, E, ce, hT, X', hL, e1, e2, hq, hce, hcv, vx_cls hW₁ hcl, st⟩
theorem vx_runS (S : CallFix p m c cc nL s args Ts own) (hM : vx_Met l y ws rm Pc Qc XC mc ms free) (cw : CallB R s args own index y bytes maxL ret ws rm mc ms n ∧ (Cond.static y).before args s = true) (hp : PreS s H Pc As)
    (hg : g.method = m) (hn : As.length = n) (hsize : g.locals.size = nL) (hstack : g.stack = As.reverse ++ rest) (hW : 2 * g.monitorRoom + (rest.map fun v => v.category).sum ≤ 8) (hdg : decode cc g.pc = .ok (.invokestatic index, 3)) (hf : cells + mc ≤ R.cells ∧ slots + ms ≤ R.slots) :
    vx_Run p l e R s m args below meth c H locs cells slots mc ms g rest (Qc As.toArray) XC free := by
  have hK : vx_Back l R p e below s args y 3 8 (PreOf R mc ms Pc) (PostOf Qc mc ms free) (vx_Post XC mc ms free) := vx_callBack cw.1 hM hp.1
  obtain ⟨⟨-, -, -, -, -, -, hcode, hini, hy, hlen, hl⟩, hstt⟩ := cw
  obtain ⟨hx, hb, hml, ho, -⟩ := S
  intro T hT X
  rcases vx_callS X hx (bytes := bytes) (maxL := maxL) (ret := ret) ho hl hstt hini hcode hy hK hg (hsize.trans hml.symm) (argsL := As) (rest := rest) (fun sig h => hn.trans (hlen sig h)) hstack hW (by rw [hb]; exact hdg)
    (fun vm₁ hW₁ => ⟨hf.1, hf.2, hp.2 (T.setVm vm₁) hT hW₁⟩) with ⟨v, vm₁, ⟨U', l2, c2, s2⟩, hW₁, X', ⟨g', mk, t, L, e1, e2, hq, h1, hL, h2, h3⟩, st⟩ | ⟨q, vm₁, ⟨U', l2, c2, s2⟩, hW₁, X', ⟨g', mk, t, L, E, ce, e1, e2, hq, hce, hcv, hcl, h1, hL, h2, h3⟩, st⟩
  · dsimp only [Pt.U, Pt.locs, Pt.cells, Pt.slots] at X' e1 e2 h1 h2 h3 st
    subst h1; subst h2; subst h3
    exact Or.inl ⟨v, (T.setVm vm₁).calling g' mk As.toArray, t, U', L, hT, X', hL, e1, e2, hq, st⟩
  · dsimp only [Pt.U, Pt.locs, Pt.cells, Pt.slots] at X' e1 e2 h1 h2 h3 st hcl
    subst h1; subst h2; subst h3
    exact Or.inr ⟨q, (T.setVm vm₁).calling g' mk As.toArray, t, U', L, E, ce, hT, X', hL, e1, e2, hq, hce, hcv, vx_cls hW₁ hcl, st⟩
end Runs
section Rows
variable {p : Program} {l : Launch} {e : Env} {R : Room} {s : State} {m : MethodId} {args : Array Value} {below : List Frame} {meth : Method} {c : Code} {H : Heap} {locs : List Loc} {cells slots : Nat} {Q : State → Prop}
variable {mc ms : Nat} {free : Addr → Prop} {A0 A1 : Nat → Prop} {H0 : Heap} {a : Array Value} {pc : Nat} {ls : Array Slot} {st0 rest : List Value}
theorem vx_keep {st₀ t T' : State} {L : List Loc} (h0 : st₀.heap = H) (e1 : T'.heap = t.heap) (hS : va_S A0 H0 H locs) (hA : ∀ q, q < H.size → A1 q → A0 q) (hf : ∀ q, free q → A0 q) (hL : ∀ q ∈ L, free q.base) (hF : va_F A1 st₀ t) :
    H.size ≤ T'.heap.size ∧ (∀ q : Nat, q < H.size → ¬ A1 q → T'.heap[q]? = H[q]?) ∧ va_S A0 H0 T'.heap (locs ++ L) := by
  obtain ⟨hz, hk⟩ := hF
  rw [h0] at hz hk
  exact ⟨by rw [e1]; exact hz, fun q h1 h2 => by rw [e1]; exact hk q h1 h2,
    ⟨Nat.le_trans hS.1 (by rw [e1]; exact hz), fun q h1 h2 => by rw [e1, hk q (Nat.lt_of_lt_of_le h1 hS.1) (fun z => h2 (hA q (Nat.lt_of_lt_of_le h1 hS.1) z))]; exact hS.2.1 q h1 h2, fun q hq => by
      rcases List.mem_append.mp hq with h | h
      · exact hS.2.2 q h
      · exact hf _ (hL q h)⟩⟩
theorem vx_calli {S SX : Type} {post : Int32 → S → Prop} {px : SX → Prop} {B : S → State → Prop} {BX : String → SX → State → Prop} {AX : Nat → Prop} (hr : vx_Run p l e R s m args below meth c H locs cells slots mc ms (F0 m pc ls st0) rest (va_Qi post B A1 a) (vx_X px BX AX) free) (hS : va_S A0 H0 H locs) (hA : ∀ q, q < H.size → A1 q → A0 q) (hf : ∀ q, free q → A0 q) (hAX : ∀ q, q < H.size → AX q → A0 q)
    (kx : ∀ (E : String) (ce : Cell) (q9 : Addr) (u : SX) (t : State) (H1 : Heap) (locs1 : List Loc), t.heap = H1 → s.vm.Alike t.vm → px u → BX E u t → H.size ≤ H1.size → (∀ q : Nat, q < H.size → ¬ AX q → H1[q]? = H[q]?) → va_S A0 H0 H1 locs1 → H1[q9]? = some ce → ce.vm = .none → s.vm.findClass E = some ce.cls → vx_W p l e R s m args below meth c H1 locs1 (cells + mc) (slots + ms) Q (F0 m pc ls rest) q9)
    (kk : ∀ (r : Int32) (u : S) (t : State) (H1 : Heap) (locs1 : List Loc), t.heap = H1 → s.vm.Alike t.vm → post r u → B u t → H.size ≤ H1.size → (∀ q : Nat, q < H.size → ¬ A1 q → H1[q]? = H[q]?) → va_S A0 H0 H1 locs1 → W p l e R s m args below meth c H1 locs1 (cells + mc) (slots + ms) Q (F0 m (pc + 3) ls (.int r :: rest))) : W p l e R s m args below meth c H locs cells slots Q (F0 m pc ls st0) := by
  intro T hT X
  rcases hr T hT X with ⟨v, st₀, t, T', L, h0, X', hL, e1, e2, ⟨⟨r, u, hv, hp, hb⟩, hF⟩, st⟩ | ⟨q, st₀, t, T', L, E, ce, h0, X', hL, e1, e2, ⟨u, hp, hb, hF⟩, hce, hcv, hcl, st⟩
  · cases hv
    obtain ⟨k1, k2, k3⟩ := vx_keep h0 e1 hS hA hf hL hF
    obtain ⟨t2, a1, b1⟩ := kk r u t T'.heap (locs ++ L) e1.symm (by rw [← e2]; exact X'.warmed.alike) hp hb k1 k2 k3 T' rfl X'
    exact ⟨t2, st t2 a1, b1⟩
  · obtain ⟨k1, k2, k3⟩ := vx_keep h0 e1 hS hAX hf hL hF
    obtain ⟨t2, a1, b1⟩ := kx E ce q u t T'.heap (locs ++ L) e1.symm (by rw [← e2]; exact X'.warmed.alike) hp hb k1 k2 k3 (by rw [e1]; exact hce) hcv hcl T' rfl X'
    exact ⟨t2, st.trans a1, b1⟩
theorem vx_calll {S SX : Type} {post : Int64 → S → Prop} {px : SX → Prop} {B : S → State → Prop} {BX : String → SX → State → Prop} {AX : Nat → Prop} (hr : vx_Run p l e R s m args below meth c H locs cells slots mc ms (F0 m pc ls st0) rest (va_Ql post B A1 a) (vx_X px BX AX) free) (hS : va_S A0 H0 H locs) (hA : ∀ q, q < H.size → A1 q → A0 q) (hf : ∀ q, free q → A0 q) (hAX : ∀ q, q < H.size → AX q → A0 q)
    (kx : ∀ (E : String) (ce : Cell) (q9 : Addr) (u : SX) (t : State) (H1 : Heap) (locs1 : List Loc), t.heap = H1 → s.vm.Alike t.vm → px u → BX E u t → H.size ≤ H1.size → (∀ q : Nat, q < H.size → ¬ AX q → H1[q]? = H[q]?) → va_S A0 H0 H1 locs1 → H1[q9]? = some ce → ce.vm = .none → s.vm.findClass E = some ce.cls → vx_W p l e R s m args below meth c H1 locs1 (cells + mc) (slots + ms) Q (F0 m pc ls rest) q9)
    (kk : ∀ (r : Int64) (u : S) (t : State) (H1 : Heap) (locs1 : List Loc), t.heap = H1 → s.vm.Alike t.vm → post r u → B u t → H.size ≤ H1.size → (∀ q : Nat, q < H.size → ¬ A1 q → H1[q]? = H[q]?) → va_S A0 H0 H1 locs1 → W p l e R s m args below meth c H1 locs1 (cells + mc) (slots + ms) Q (F0 m (pc + 3) ls (.long r :: rest))) : W p l e R s m args below meth c H locs cells slots Q (F0 m pc ls st0) := by
  intro T hT X
  rcases hr T hT X with ⟨v, st₀, t, T', L, h0, X', hL, e1, e2, ⟨⟨r, u, hv, hp, hb⟩, hF⟩, st⟩ | ⟨q, st₀, t, T', L, E, ce, h0, X', hL, e1, e2, ⟨u, hp, hb, hF⟩, hce, hcv, hcl, st⟩
  · cases hv
    obtain ⟨k1, k2, k3⟩ := vx_keep h0 e1 hS hA hf hL hF
    obtain ⟨t2, a1, b1⟩ := kk r u t T'.heap (locs ++ L) e1.symm (by rw [← e2]; exact X'.warmed.alike) hp hb k1 k2 k3 T' rfl X'
    exact ⟨t2, st t2 a1, b1⟩
  · obtain ⟨k1, k2, k3⟩ := vx_keep h0 e1 hS hAX hf hL hF
    obtain ⟨t2, a1, b1⟩ := kx E ce q u t T'.heap (locs ++ L) e1.symm (by rw [← e2]; exact X'.warmed.alike) hp hb k1 k2 k3 (by rw [e1]; exact hce) hcv hcl T' rfl X'
    exact ⟨t2, st.trans a1, b1⟩
theorem vx_callf {S SX : Type} {post : UInt32 → S → Prop} {px : SX → Prop} {B : S → State → Prop} {BX : String → SX → State → Prop} {AX : Nat → Prop} (hr : vx_Run p l e R s m args below meth c H locs cells slots mc ms (F0 m pc ls st0) rest (va_Qf post B A1 a) (vx_X px BX AX) free) (hS : va_S A0 H0 H locs) (hA : ∀ q, q < H.size → A1 q → A0 q) (hf : ∀ q, free q → A0 q) (hAX : ∀ q, q < H.size → AX q → A0 q)
    (kx : ∀ (E : String) (ce : Cell) (q9 : Addr) (u : SX) (t : State) (H1 : Heap) (locs1 : List Loc), t.heap = H1 → s.vm.Alike t.vm → px u → BX E u t → H.size ≤ H1.size → (∀ q : Nat, q < H.size → ¬ AX q → H1[q]? = H[q]?) → va_S A0 H0 H1 locs1 → H1[q9]? = some ce → ce.vm = .none → s.vm.findClass E = some ce.cls → vx_W p l e R s m args below meth c H1 locs1 (cells + mc) (slots + ms) Q (F0 m pc ls rest) q9)
    (kk : ∀ (r : UInt32) (u : S) (t : State) (H1 : Heap) (locs1 : List Loc), t.heap = H1 → s.vm.Alike t.vm → post r u → B u t → H.size ≤ H1.size → (∀ q : Nat, q < H.size → ¬ A1 q → H1[q]? = H[q]?) → va_S A0 H0 H1 locs1 → W p l e R s m args below meth c H1 locs1 (cells + mc) (slots + ms) Q (F0 m (pc + 3) ls (.float r :: rest))) : W p l e R s m args below meth c H locs cells slots Q (F0 m pc ls st0) := by
  intro T hT X
  rcases hr T hT X with ⟨v, st₀, t, T', L, h0, X', hL, e1, e2, ⟨⟨r, u, hv, hp, hb⟩, hF⟩, st⟩ | ⟨q, st₀, t, T', L, E, ce, h0, X', hL, e1, e2, ⟨u, hp, hb, hF⟩, hce, hcv, hcl, st⟩
  · cases hv
    obtain ⟨k1, k2, k3⟩ := vx_keep h0 e1 hS hA hf hL hF
    obtain ⟨t2, a1, b1⟩ := kk r u t T'.heap (locs ++ L) e1.symm (by rw [← e2]; exact X'.warmed.alike) hp hb k1 k2 k3 T' rfl X'
    exact ⟨t2, st t2 a1, b1⟩
  · obtain ⟨k1, k2, k3⟩ := vx_keep h0 e1 hS hAX hf hL hF
    obtain ⟨t2, a1, b1⟩ := kx E ce q u t T'.heap (locs ++ L) e1.symm (by rw [← e2]; exact X'.warmed.alike) hp hb k1 k2 k3 (by rw [e1]; exact hce) hcv hcl T' rfl X'
    exact ⟨t2, st.trans a1, b1⟩
theorem vx_calld {S SX : Type} {post : UInt64 → S → Prop} {px : SX → Prop} {B : S → State → Prop} {BX : String → SX → State → Prop} {AX : Nat → Prop} (hr : vx_Run p l e R s m args below meth c H locs cells slots mc ms (F0 m pc ls st0) rest (va_Qd post B A1 a) (vx_X px BX AX) free) (hS : va_S A0 H0 H locs) (hA : ∀ q, q < H.size → A1 q → A0 q) (hf : ∀ q, free q → A0 q) (hAX : ∀ q, q < H.size → AX q → A0 q)
    (kx : ∀ (E : String) (ce : Cell) (q9 : Addr) (u : SX) (t : State) (H1 : Heap) (locs1 : List Loc), t.heap = H1 → s.vm.Alike t.vm → px u → BX E u t → H.size ≤ H1.size → (∀ q : Nat, q < H.size → ¬ AX q → H1[q]? = H[q]?) → va_S A0 H0 H1 locs1 → H1[q9]? = some ce → ce.vm = .none → s.vm.findClass E = some ce.cls → vx_W p l e R s m args below meth c H1 locs1 (cells + mc) (slots + ms) Q (F0 m pc ls rest) q9)
    (kk : ∀ (r : UInt64) (u : S) (t : State) (H1 : Heap) (locs1 : List Loc), t.heap = H1 → s.vm.Alike t.vm → post r u → B u t → H.size ≤ H1.size → (∀ q : Nat, q < H.size → ¬ A1 q → H1[q]? = H[q]?) → va_S A0 H0 H1 locs1 → W p l e R s m args below meth c H1 locs1 (cells + mc) (slots + ms) Q (F0 m (pc + 3) ls (.double r :: rest))) : W p l e R s m args below meth c H locs cells slots Q (F0 m pc ls st0) := by
  intro T hT X
  rcases hr T hT X with ⟨v, st₀, t, T', L, h0, X', hL, e1, e2, ⟨⟨r, u, hv, hp, hb⟩, hF⟩, st⟩ | ⟨q, st₀, t, T', L, E, ce, h0, X', hL, e1, e2, ⟨u, hp, hb, hF⟩, hce, hcv, hcl, st⟩
  · cases hv
    obtain ⟨k1, k2, k3⟩ := vx_keep h0 e1 hS hA hf hL hF
    obtain ⟨t2, a1, b1⟩ := kk r u t T'.heap (locs ++ L) e1.symm (by rw [← e2]; exact X'.warmed.alike) hp hb k1 k2 k3 T' rfl X'
    exact ⟨t2, st t2 a1, b1⟩
  · obtain ⟨k1, k2, k3⟩ := vx_keep h0 e1 hS hAX hf hL hF
    obtain ⟨t2, a1, b1⟩ := kx E ce q u t T'.heap (locs ++ L) e1.symm (by rw [← e2]; exact X'.warmed.alike) hp hb k1 k2 k3 (by rw [e1]; exact hce) hcv hcl T' rfl X'
    exact ⟨t2, st.trans a1, b1⟩
theorem vx_callv {S SX : Type} {post : S → Prop} {px : SX → Prop} {B : S → State → Prop} {BX : String → SX → State → Prop} {AX : Nat → Prop} (hr : vx_Run p l e R s m args below meth c H locs cells slots mc ms (F0 m pc ls st0) rest (va_Qv post B A1 a) (vx_X px BX AX) free) (hS : va_S A0 H0 H locs) (hA : ∀ q, q < H.size → A1 q → A0 q) (hf : ∀ q, free q → A0 q) (hAX : ∀ q, q < H.size → AX q → A0 q)
    (kx : ∀ (E : String) (ce : Cell) (q9 : Addr) (u : SX) (t : State) (H1 : Heap) (locs1 : List Loc), t.heap = H1 → s.vm.Alike t.vm → px u → BX E u t → H.size ≤ H1.size → (∀ q : Nat, q < H.size → ¬ AX q → H1[q]? = H[q]?) → va_S A0 H0 H1 locs1 → H1[q9]? = some ce → ce.vm = .none → s.vm.findClass E = some ce.cls → vx_W p l e R s m args below meth c H1 locs1 (cells + mc) (slots + ms) Q (F0 m pc ls rest) q9)
    (kk : ∀ (u : S) (t : State) (H1 : Heap) (locs1 : List Loc), t.heap = H1 → s.vm.Alike t.vm → post u → B u t → H.size ≤ H1.size → (∀ q : Nat, q < H.size → ¬ A1 q → H1[q]? = H[q]?) → va_S A0 H0 H1 locs1 → W p l e R s m args below meth c H1 locs1 (cells + mc) (slots + ms) Q (F0 m (pc + 3) ls (rest))) : W p l e R s m args below meth c H locs cells slots Q (F0 m pc ls st0) := by
  intro T hT X
  rcases hr T hT X with ⟨v, st₀, t, T', L, h0, X', hL, e1, e2, ⟨⟨u, hv, hp, hb⟩, hF⟩, st⟩ | ⟨q, st₀, t, T', L, E, ce, h0, X', hL, e1, e2, ⟨u, hp, hb, hF⟩, hce, hcv, hcl, st⟩
  · cases hv
    obtain ⟨k1, k2, k3⟩ := vx_keep h0 e1 hS hA hf hL hF
    obtain ⟨t2, a1, b1⟩ := kk u t T'.heap (locs ++ L) e1.symm (by rw [← e2]; exact X'.warmed.alike) hp hb k1 k2 k3 T' rfl X'
    exact ⟨t2, st t2 a1, b1⟩
  · obtain ⟨k1, k2, k3⟩ := vx_keep h0 e1 hS hAX hf hL hF
    obtain ⟨t2, a1, b1⟩ := kx E ce q u t T'.heap (locs ++ L) e1.symm (by rw [← e2]; exact X'.warmed.alike) hp hb k1 k2 k3 (by rw [e1]; exact hce) hcv hcl T' rfl X'
    exact ⟨t2, st.trans a1, b1⟩
end Rows
section Ends
variable {p : Program} {l : Launch} {e : Env} {R : Room} {s : State} {m : MethodId} {args : Array Value} {below : List Frame} {meth : Method} {c : Code} {H : Heap} {locs : List Loc} {cells slots : Nat} {Q : State → Prop}
variable {mc ms : Nat} {free : Addr → Prop} {A0 A1 : Nat → Prop} {H0 : Heap} {a : Array Value} {ls : Array Slot} {st0 rest : List Value}
variable {Qc : Array Value → State → Outcome → State → Prop} {XC : String → State → State → Prop}
/-- what a body that may throw owes at its end -/
def vx_MQ (below : List Frame) (Qc : Array Value → State → Outcome → State → Prop) (XC : String → State → State → Prop) (a : Array Value) (s : State) (mc ms : Nat) (free : Addr → Prop) : State → Prop := fun t =>
  ∃ o, t.status = .running ∧ Ended t below o ∧ vx_Q Qc XC mc ms free a s o t
theorem vx_ret {g : JFrame} {mc ms : Nat} (k : W p l e R s m args below meth c H locs cells slots (MQ below Qc args s mc ms free) g) : W p l e R s m args below meth c H locs cells slots (vx_MQ below Qc XC args s mc ms free) g := by
  intro T hT X
  obtain ⟨t, a1, o, b1, b2, b3, b4⟩ := k T hT X
  exact ⟨t, a1, o, b1, b2, Or.inl ⟨b3, b4⟩⟩
/-- not caught here: it goes on to the caller -/
theorem vx_widen {g : JFrame} {q : Addr} {k n : Nat} (h1 : cells ≤ k) (h2 : slots ≤ n) (kk : vx_W p l e R s m args below meth c H locs k n Q g q) : vx_W p l e R s m args below meth c H locs cells slots Q g q := fun T hT X => kk T hT (stand_widen X h1 h2)
theorem vx_out {pc : Nat} {E : String} {ce : Cell} {q : Addr} {mc ms : Nat} (hout : ∀ x ∈ c.exceptionTable.toList, covers x pc = false) (hlocks : meth.locks = false) (hcell : H[q]? = some ce) (hv : ce.vm = .none) (hcl : s.vm.findClass E = some ce.cls)
    (hx : ∀ t : State, t.heap = H → s.vm.Alike t.vm → XC E s t) (hf : ∀ z ∈ locs, free z.base) (hc : cells ≤ mc) (hs : slots ≤ ms) :
    vx_W p l e R s m args below meth c H locs cells slots (vx_MQ below Qc XC args s mc ms free) (F0 m pc ls rest) q := by
  intro T hT X
  obtain ⟨st1, hrun, hend, hW, hsm⟩ := X.leaveThrown q (g := F0 m pc ls rest) rfl rfl rfl hout hlocks
  have hcell9 : (T.setFrames (.throwing q :: below)).heap[q]? = some ce := by
    show T.heap[q]? = some ce
    rw [hT]; exact hcell
  exact ⟨_, st1, .threw q, hrun, hend, Or.inr ⟨q, rfl, E, ce, locs, hx _ hT hW.alike, hcell9, hv, hcl, hW, hsm.mono hc hs, hf⟩⟩
theorem vx_frame {U : State} {k n : Nat} (h : s.sameButNew ({ U with vm := s.vm } : State) locs k n) : s.heap.size ≤ U.heap.size ∧ ∀ q : Nat, q < s.heap.size → (∀ z ∈ locs, z.base ≠ q) → U.heap[q]? = s.heap[q]? := by
  obtain ⟨-, h2, -, -, -, h6⟩ := h
  refine ⟨h2, fun q hq hz => ?_⟩
  obtain ⟨c9, e1, e2, e3, e4⟩ := h6 q _ (Array.getElem?_eq_getElem hq)
  have hs : c9.slots = (s.heap[q]).slots := Array.ext_getElem? fun i => e4 i fun hm => hz _ hm rfl
  have h9 : c9 = s.heap[q] := by
    rw [hs] at e2
    exact e2
  have e5 : U.heap[q]? = some c9 := e1
  rw [e5, h9, Array.getElem?_eq_getElem hq]
/-- the words of a throw but the four that speak of the heap -/
def vx_no (w : Cond) : Bool := decide (w ≠ .isRef (.static Bundle.tN "UNASSIGNED_STACK" Bundle.steD)) && decide (w ≠ .isRef (.static Bundle.tN "SUPPRESSED_SENTINEL" Bundle.listD)) && decide (w ≠ .laysStatic Bundle.tN "UNASSIGNED_STACK" Bundle.steD) && decide (w ≠ .laysStatic Bundle.tN "SUPPRESSED_SENTINEL" Bundle.listD)
def vx_at0 (own : String) (ic : Nat) (X : String) (names : List String) : List Cond := (Bundle.ownAtoms0 own ic X names).filter vx_no
def vx_atS (own : String) (ic : Nat) (X : String) (names : List String) : List Cond := (Bundle.ownAtoms own ic X names).filter vx_no
/-- a word that the tables alone decide, or a good one -/
def vx_ot (w : Cond) : Bool := w.onTables || goodWord w
theorem vx_ot_at {args a' : Array Value} {s U : State} {w : Cond} (hW : s.WarmedH U.vm) (hvm : s.vm = U.vm) (hg : vx_ot w = true) (h : w.before args s = true) : w.before a' U = true := by
  simp only [vx_ot, Bool.or_eq_true] at hg
  rcases hg with hg | hg
  · exact va_tabs hg hvm h
  · exact word_at hW (good_of_word hg) h
/-- a list's words: the good ones out of the method's own list, the others by premises of their own -/
theorem vx_hat {args : Array Value} {s : State} {L B : List Cond} (h1 : ∀ w ∈ L.filter goodWord, w.before args s = true) (h2 : ∀ w ∈ L.filter (fun w => !goodWord w), w ∈ B) (h3 : ∀ w ∈ B, w.before args s = true) : ∀ w ∈ L, w.before args s = true := by
  intro w hw
  by_cases g : goodWord w = true
  · exact h1 w (List.mem_filter.mpr ⟨hw, g⟩)
  · refine h3 w (h2 w (List.mem_filter.mpr ⟨hw, ?_⟩))
    show (!goodWord w) = true
    cases hgw : goodWord w
    · rfl
    · exact absurd hgw g
theorem vx_c {args : Array Value} {s : State} {w : Cond} {B : List Cond} (h : w.before args s = true) (t : ∀ w ∈ B, w.before args s = true) : ∀ w' ∈ w :: B, w'.before args s = true := fun w' h' => (List.mem_cons.mp h').elim (fun e => by rw [e]; exact h) (t w')
theorem vx_n {args : Array Value} {s : State} : ∀ w ∈ ([] : List Cond), w.before args s = true := fun _ h => nomatch h
theorem vx_own {args : Array Value} {s : State} {L : List Cond} (h1 : ∀ w ∈ L.filter vx_no, w.before args s = true)
    (hU : (Cond.isRef (.static Bundle.tN "UNASSIGNED_STACK" Bundle.steD)).before args s = true) (hN : (Cond.isRef (.static Bundle.tN "SUPPRESSED_SENTINEL" Bundle.listD)).before args s = true)
    (lU : (Cond.laysStatic Bundle.tN "UNASSIGNED_STACK" Bundle.steD).before args s = true) (lN : (Cond.laysStatic Bundle.tN "SUPPRESSED_SENTINEL" Bundle.listD).before args s = true) : ∀ w ∈ L, w.before args s = true := by
  intro w hw
  by_cases e1 : w = .isRef (.static Bundle.tN "UNASSIGNED_STACK" Bundle.steD)
  · rw [e1]; exact hU
  · by_cases e2 : w = .isRef (.static Bundle.tN "SUPPRESSED_SENTINEL" Bundle.listD)
    · rw [e2]; exact hN
    · by_cases e3 : w = .laysStatic Bundle.tN "UNASSIGNED_STACK" Bundle.steD
      · rw [e3]; exact lU
      · by_cases e4 : w = .laysStatic Bundle.tN "SUPPRESSED_SENTINEL" Bundle.listD
        · rw [e4]; exact lN
        · exact h1 w (List.mem_filter.mpr ⟨hw, by unfold vx_no; rw [decide_eq_true e1, decide_eq_true e2, decide_eq_true e3, decide_eq_true e4]; rfl⟩)
/-- where a static field lies, its class's statics cell in H -/
def vx_L (C n d : String) (A : Nat → Prop) (U : State) (H : Heap) : Prop := ∃ (c : ClassId) (k : Class) (i : Nat) (f : Field) (a : Nat) (cell : Cell), U.vm.findClass C = some c ∧ U.fieldFound? C n d = some (c, k, i, f) ∧ f.isStatic = true ∧ k.statics = some a ∧ H[a]? = some cell ∧ cell.vm.isStatics = true ∧ cell.cls = c ∧ f.slot < cell.slots.size ∧ k.staticTypes[f.slot]? = some f.type ∧ ¬ A a
theorem vx_L.moved {C n d : String} {A : Nat → Prop} {u U : State} {H : Heap} (hvm : u.vm.Alike U.vm) (h : vx_L C n d A u H) : vx_L C n d A U H := by
  obtain ⟨c, k, i, f, a, cell, h1, h2, h3, h4, h5, h6, h7, h8, h9, h10⟩ := h
  obtain ⟨k', hi', he⟩ := State.fieldFound?_setVm hvm h2
  exact ⟨c, k', i, f, a, cell, by rw [hvm.findClass]; exact h1, hi', h3, by rw [he]; exact h4, h5, h6, h7, h8, by rw [he]; exact h9, h10⟩
theorem vx_L.kept {C n d : String} {A : Nat → Prop} {U : State} {H H1 : Heap} (h : vx_L C n d A U H) (hq : ∀ a : Nat, a < H.size → ¬ A a → H1[a]? = H[a]?) : vx_L C n d A U H1 := by
  obtain ⟨c, k, i, f, a, cell, h1, h2, h3, h4, h5, h6, h7, h8, h9, h10⟩ := h
  exact ⟨c, k, i, f, a, cell, h1, h2, h3, h4, by rw [hq a (Array.getElem?_eq_some_iff.mp h5).1 h10]; exact h5, h6, h7, h8, h9, h10⟩
theorem vx_L.narrow {C n d : String} {A B : Nat → Prop} {U : State} {H : Heap} (h : vx_L C n d A U H) (hAB : ∀ q, B q → A q) : vx_L C n d B U H := by
  obtain ⟨c, k, i, f, a, cell, h1, h2, h3, h4, h5, h6, h7, h8, h9, h10⟩ := h
  exact ⟨c, k, i, f, a, cell, h1, h2, h3, h4, h5, h6, h7, h8, h9, fun z => h10 (hAB _ z)⟩
theorem vx_L.word {C n d : String} {A : Nat → Prop} {s : State} {args : Array Value} (h : vx_L C n d A s s.heap) : (Cond.laysStatic C n d).before args s = true := by
  obtain ⟨c, k, i, f, a, cell, h1, h2, h3, h4, h5, h6, h7, h8, h9, -⟩ := h
  show (Cond.laysStatic C n d).holds args s none s [] = true
  exact Cond.laysStatic_of h1 h2 h3 h4 h5 h6 h7 h8 h9
/-- .. and what it holds: null or some reference -/
def vx_Zq (C n d : String) (A : Nat → Prop) (U : State) (H : Heap) : Prop := va_Zq C n d A U H ∧ vx_L C n d A U H
theorem vx_Zq.moved {C n d : String} {A : Nat → Prop} {u U : State} {H : Heap} (hvm : u.vm.Alike U.vm) (h : vx_Zq C n d A u H) : vx_Zq C n d A U H := ⟨va_Zq.moved hvm h.1, vx_L.moved hvm h.2⟩
theorem vx_Zq.kept {C n d : String} {A : Nat → Prop} {U : State} {H H1 : Heap} (h : vx_Zq C n d A U H) (hq : ∀ a : Nat, a < H.size → ¬ A a → H1[a]? = H[a]?) : vx_Zq C n d A U H1 := ⟨va_Zq.kept h.1 hq, vx_L.kept h.2 hq⟩
theorem vx_Zq.narrow {C n d : String} {A B : Nat → Prop} {U : State} {H : Heap} (h : vx_Zq C n d A U H) (hAB : ∀ q, B q → A q) : vx_Zq C n d B U H := ⟨va_Zq.narrow h.1 hAB, vx_L.narrow h.2 hAB⟩
theorem vx_Zqof {args : Array Value} {s : State} {C n d : String} {A : Nat → Prop} (hl : (Cond.laysStatic C n d).before args s = true) (hini : (Cond.initialized C).before args s = true) (h : (Cond.isRef (.static C n d)).before args s = true) (hA : ∀ a : Nat, a < s.heap.size → ¬ A a) : vx_Zq C n d A s s.heap := by
  refine ⟨va_Zqof hl hini h hA, ?_⟩
  obtain ⟨c, k, i, f, a, cell, h1, h2, h3, h4, h5, h6, h7, h8, h9⟩ := Cond.laysStatic_spec hl
  exact ⟨c, k, i, f, a, cell, h1, h2, h3, h4, h5, h6, h7, h8, h9, hA a (Array.getElem?_eq_some_iff.mp h5).1⟩
theorem vx_isRef {C n d : String} {v : Value} {A : Nat → Prop} {s : State} {args : Array Value} (h : va_Z C n d v A s s.heap) (hv : v.isRef = true) : (Cond.isRef (.static C n d)).before args s = true := by
  obtain ⟨cf, kf, fi, f, a, cell, h1, h2, h3, h4, h5, h6, h7, -⟩ := h
  have he : (Term.static C n d).eval args s none [] s = some v := by
    simp [Term.eval, State.fieldNamed?, h1, h2, h4, h5, h6, h7]
  simp only [Cond.before, Cond.holds, Cond.value, he]
  cases v <;> simp_all [Value.isRef]
theorem vx_isRefq {C n d : String} {A : Nat → Prop} {s : State} {args : Array Value} (h : va_Zq C n d A s s.heap) : (Cond.isRef (.static C n d)).before args s = true := by
  rcases h with h | ⟨t, h⟩
  · exact vx_isRef h rfl
  · exact vx_isRef h rfl
/-- the same frame, seen from here: as if the method were called anew in this heap -/
theorem vx_rebase {T : State} (X : Stand p l e R s m args below meth c T locs cells slots) {R' : Room} (hf : R'.frames ≤ R.frames) (hl : R'.locals ≤ R.locals) (hc : cells + R'.cells ≤ R.cells) (hs : slots + R'.slots ≤ R.slots) :
    Stand p l e R' ((T.setVm s.vm).setFrames (.invoking m args :: below)) m args below meth c T [] 0 0 := by
  have htop : (T.setVm s.vm).topJava?.isSome := X.here.top
  have hF : ((T.setVm s.vm).setFrames (.invoking m args :: below)).frames = .invoking m args :: below := State.frames_setFrames _ (State.cur_lt_of_top htop)
  obtain ⟨g₀, hg0⟩ := Option.isSome_iff_exists.mp htop
  obtain ⟨r, hr⟩ := State.topJava?_eq_some.mp hg0
  have hl9 : e.platform.stackLimits (T.setVm s.vm).me = e.platform.stackLimits s.me := X.limits
  have hb9 : (T.setVm s.vm).me.stackBytes = s.me.stackBytes := X.bytes
  refine ⟨X.admits, X.cas, X.clock, hF, ?_, X.hears, X.method, X.code, X.here, X.tail, X.warmed, ?_, ?_, ?_⟩
  · have h := X.room
    have hU : ((T.setVm s.vm).setFrames (.invoking m args :: below)).localsInUse = s.localsInUse := by
      rw [State.localsInUse_invoking hF (meth := meth) (c := c) X.method X.code, State.localsInUse_invoking X.frames X.method X.code]
    simp only [State.hasRoom, Bool.and_eq_true, decide_eq_true_eq] at h ⊢
    obtain ⟨⟨⟨⟨h1, h2, h3, h4, h5, h6⟩, h7⟩, h8⟩, h9⟩ := h
    rw [X.frames, List.length_cons] at h2 h3
    have q1 := X.heapSize
    have q2 := X.used
    simp only [hF, hU, List.length_cons, State.stackLimits_setFrames, State.stackBytes_setFrames, hl9, hb9]
    refine ⟨⟨⟨⟨by omega, by omega, by omega, by omega, by omega, h6⟩, ?_⟩, ?_⟩, X.book⟩
    · show T.heap.size + R'.cells ≤ e.platform.maxCells
      omega
    · show T.slotsUsed + R'.slots ≤ e.platform.maxSlots
      omega
  · rw [State.stackLimits_setFrames]; rfl
  · rw [State.stackBytes_setFrames]; rfl
  · refine ⟨?_, Nat.le_refl _, Nat.le_refl _, ?_, ?_, fun a c9 h9 => ⟨c9, h9, rfl, rfl, fun _ _ => rfl⟩⟩
    · obtain ⟨t, ht, -⟩ := State.frames_cons hr
      show T.setVm s.vm = { ((T.setVm s.vm).setFrames (.invoking m args :: below)).setFrames (T.setVm s.vm).frames with heap := T.heap, slotsUsed := T.slotsUsed }
      rw [State.setFrames_setFrames, State.setFrames_self ht]
      rfl
    · show T.slotsUsed = T.slotsUsed + ((T.heap.toList.drop T.heap.size).map (·.slots.size)).sum
      rw [List.drop_eq_nil_of_le (Nat.le_of_eq Array.length_toList)]
      rfl
    · show ((T.heap.toList.drop T.heap.size).map (·.slots.size)).sum ≤ 0
      rw [List.drop_eq_nil_of_le (Nat.le_of_eq Array.length_toList)]
      exact Nat.le_refl _
/-- 'throw new E()': new; dup; invokespecial; athrow -/
theorem vx_throw0 {cc : ByteArray} {pc : Nat} (hexec : p.tables.exec = Jvm.exec) (hb : c.code = cc) (hl : l.stackTraces = false) {own cls : String} {names : List String} {ik ic mc ms : Nat} {A : Nat → Prop}
    (hown : s.vm.findClass own = some m.cls) (hcls : Bundle.fit cls = true) (hnames : ∀ n ∈ names, Bundle.fit n = true)
    (hk : (Cond.classLink own ik cls).before args s = true) (hini : (Cond.initialized cls).before args s = true) (hat : ∀ w ∈ vx_at0 own ic cls names, w.before args s = true)
    (hgood : ∀ w ∈ Cond.classLink own ik cls :: Cond.initialized cls :: vx_at0 own ic cls names, vx_ot w = true)
    (hU : vx_Zq Bundle.tN "UNASSIGNED_STACK" Bundle.steD A s s.heap) (hN : vx_Zq Bundle.tN "SUPPRESSED_SENTINEL" Bundle.listD A s s.heap) (hS : va_S A s.heap H locs) (hsize : ls.size = c.maxLocals)
    (d0 : decode cc pc = .ok (.new ik, 3)) (d3 : decode cc (pc + 3) = .ok (.dup, 1)) (d4 : decode cc (pc + 4) = .ok (.invokespecial ic, 3)) (d7 : decode cc (pc + 7) = .ok (.athrow, 1))
    (hout : ∀ x ∈ c.exceptionTable.toList, covers x (pc + 7) = false)
    (hRframes : names.length + 3 < R.frames) (hRlocals : (rest.map fun v => v.category).sum + (13 * (names.length + 1) + 42) ≤ R.locals) (hRcells : cells + 1 ≤ R.cells) (hRslots : slots + 6 ≤ R.slots) (hlocks : meth.locks = false)
    (hx : ∀ t : State, s.vm.Alike t.vm → H.size ≤ t.heap.size → (∀ q : Nat, q < H.size → t.heap[q]? = H[q]?) → XC cls s t)
    (hf : ∀ z ∈ locs, free z.base) (hc : cells + 1 ≤ mc) (hs : slots + 6 ≤ ms) :
    W p l e R s m args below meth c H locs cells slots (vx_MQ below Qc XC args s mc ms free) (F0 m pc ls rest) := by
  intro T hT X
  have htr : e.platform.stackTraces = false := (show e.platform.stackTraces = l.stackTraces by rw [X.admits.platform]).trans hl
  have Y := vx_rebase X (R' := { frames := R.frames, locals := R.locals, cells := 1, slots := 6 }) (Nat.le_refl _) (Nat.le_refl _) hRcells hRslots
  obtain ⟨s', hA⟩ : ∃ z, z = (T.setVm s.vm).setFrames (.invoking m args :: below) := ⟨_, rfl⟩
  rw [← hA] at Y
  have hvm : s'.vm = s.vm := by rw [hA]; rfl
  have hhp : s'.heap = H := by rw [hA]; exact hT
  have hW0 : s.WarmedH s'.vm := by rw [hvm]; exact State.WarmedH.refl s
  have hat' : ∀ w ∈ vx_at0 own ic cls names, w.before args s' = true := fun w hw => vx_ot_at hW0 hvm.symm (hgood w (List.mem_cons_of_mem _ (List.mem_cons_of_mem _ hw))) (hat w hw)
  have hk' : (Cond.classLink own ik cls).before args s' = true := vx_ot_at hW0 hvm.symm (hgood _ List.mem_cons_self) hk
  have hini' : (Cond.initialized cls).before args s' = true := vx_ot_at hW0 hvm.symm (hgood _ (List.mem_cons_of_mem _ List.mem_cons_self)) hini
  have hU' : vx_Zq Bundle.tN "UNASSIGNED_STACK" Bundle.steD A s' s'.heap := by rw [hhp]; exact vx_Zq.moved hW0.alike (hU.kept hS.2.1)
  have hN' : vx_Zq Bundle.tN "SUPPRESSED_SENTINEL" Bundle.listD A s' s'.heap := by rw [hhp]; exact vx_Zq.moved hW0.alike (hN.kept hS.2.1)
  have h : ∀ w ∈ Bundle.ownAtoms0 own ic cls names, w.before args s' = true := vx_own hat' (vx_isRefq hU'.1) (vx_isRefq hN'.1) hU'.2.word hN'.2.word
  have hown' : s'.vm.findClass own = some m.cls := by rw [hvm]; exact hown
  have hins : (Cond.instantiable cls 6).before args s' = true := h _ (by simp [Bundle.ownAtoms0])
  obtain ⟨vm₁, cX, kX, hfX, hkX, -, -, X₁, st1⟩ := Y.newCold hexec (own := own) (C := cls) (index := ik) (n := 6) hown' hk' hins hini'
    (g := F0 m pc ls rest) rfl (by rw [hb]; exact d0) (Nat.le_refl _) (Nat.le_refl _)
  generalize hT1 : (T.setVm vm₁).pushCell { cls := cX, slots := kX.instanceTypes.map defaultValue, vm := .none } = T1 at X₁ st1
  have hcat : (Value.ref T.heap.size).category = 1 := rfl
  have hcellA : T1.heap[T.heap.size]? = some (freshCell cX kX) := by rw [← hT1]; exact State.heap_pushCell_size _ _
  have d3' : decode c.code (pc + 3) = .ok (.dup, 1) := by rw [hb]; exact d3
  obtain ⟨U, hsteps, hrun, hend, hW, hsame, ce, hce, hO⟩ := X₁.ctorThrow0 hexec htr (own := own) (cls := cls) (names := names) (ic := ic) hown' hcls hnames h (fun x hx => nomatch hx) hfX hkX hcellA (by rw [hhp, hT]; exact Nat.le_refl _)
    (g := { method := m, pc := pc + 4, locals := ls, stack := .ref T.heap.size :: .ref T.heap.size :: rest, locked := none }) rfl hsize rfl rfl (rest := rest) rfl
    (by rw [hb]; exact d4) (by rw [hb]; exact d7) hout hRframes (by simp only [List.map_cons, List.sum_cons, hcat]; omega) hlocks
  obtain ⟨f1, f2⟩ := vx_frame hsame
  rw [hhp] at f1 f2
  have hWs : s.WarmedH U.vm := State.WarmedH.trans hW0 hW
  have hcl : s.vm.findClass cls = some ce.cls := by
    have h9 := hO.cls
    rw [hvm] at h9
    exact h9
  have hall : s.sameButNew ({ U with vm := s.vm } : State) locs mc ms := by
    subst hA
    obtain ⟨e1, e2⟩ := hsame
    rw [State.setFrames_setFrames] at e1
    have h2 : (T.setVm s.vm).sameButNew ({ U with vm := s.vm } : State) [] (0 + 1) (0 + 6) := ⟨e1, e2⟩
    have h3 := X.same.trans h2
    rw [List.append_nil] at h3
    exact h3.mono hc hs
  refine ⟨U, ?_, .threw T.heap.size, hrun, hend, Or.inr ⟨T.heap.size, rfl, cls, ce, locs, hx U hWs.alike f1 (fun q hq => f2 q hq (fun z hz => nomatch hz)), hce, hO.vm, hcl, hWs, hall, hf⟩⟩
  refine st1 _ ?_
  show Steps p.tables e below (T1.setTop { method := m, pc := pc + 3, locals := ls, stack := .ref T.heap.size :: rest, locked := none }) _
  jvm_step X₁.here [X₁.here.top, hexec, d3', Value.category]
  exact hsteps
/-- 'throw new E("text")': new; dup; ldc; invokespecial; athrow -/
theorem vx_throwS {cc : ByteArray} {pc : Nat} (hexec : p.tables.exec = Jvm.exec) (hb : c.code = cc) (hl : l.stackTraces = false) {own cls text : String} {names : List String} {ik is ic mc ms sa : Nat} {A : Nat → Prop}
    (hown : s.vm.findClass own = some m.cls) (hcls : Bundle.fit cls = true) (hnames : ∀ n ∈ names, Bundle.fit n = true)
    (hk : (Cond.classLink own ik cls).before args s = true) (hini : (Cond.initialized cls).before args s = true) (hstr : vk_R own is text sa s) (hat : ∀ w ∈ vx_atS own ic cls names, w.before args s = true)
    (hgood : ∀ w ∈ Cond.classLink own ik cls :: Cond.initialized cls :: vx_atS own ic cls names, vx_ot w = true)
    (hU : vx_Zq Bundle.tN "UNASSIGNED_STACK" Bundle.steD A s s.heap) (hN : vx_Zq Bundle.tN "SUPPRESSED_SENTINEL" Bundle.listD A s s.heap) (hS : va_S A s.heap H locs) (hsize : ls.size = c.maxLocals)
    (d0 : decode cc pc = .ok (.new ik, 3)) (d3 : decode cc (pc + 3) = .ok (.dup, 1)) (d4 : decode cc (pc + 4) = .ok (.ldc is, 2)) (d6 : decode cc (pc + 6) = .ok (.invokespecial ic, 3)) (d9 : decode cc (pc + 9) = .ok (.athrow, 1))
    (hout : ∀ x ∈ c.exceptionTable.toList, covers x (pc + 9) = false)
    (hRframes : names.length + 3 < R.frames) (hRlocals : (rest.map fun v => v.category).sum + (13 * (names.length + 1) + 43) ≤ R.locals) (hRcells : cells + 1 ≤ R.cells) (hRslots : slots + 6 ≤ R.slots) (hlocks : meth.locks = false)
    (hx : ∀ t : State, s.vm.Alike t.vm → H.size ≤ t.heap.size → (∀ q : Nat, q < H.size → t.heap[q]? = H[q]?) → XC cls s t)
    (hf : ∀ z ∈ locs, free z.base) (hc : cells + 1 ≤ mc) (hs : slots + 6 ≤ ms) :
    W p l e R s m args below meth c H locs cells slots (vx_MQ below Qc XC args s mc ms free) (F0 m pc ls rest) := by
  intro T hT X
  have htr : e.platform.stackTraces = false := (show e.platform.stackTraces = l.stackTraces by rw [X.admits.platform]).trans hl
  have Y := vx_rebase X (R' := { frames := R.frames, locals := R.locals, cells := 1, slots := 6 }) (Nat.le_refl _) (Nat.le_refl _) hRcells hRslots
  obtain ⟨s', hA⟩ : ∃ z, z = (T.setVm s.vm).setFrames (.invoking m args :: below) := ⟨_, rfl⟩
  rw [← hA] at Y
  have hvm : s'.vm = s.vm := by rw [hA]; rfl
  have hhp : s'.heap = H := by rw [hA]; exact hT
  have hW0 : s.WarmedH s'.vm := by rw [hvm]; exact State.WarmedH.refl s
  have hat' : ∀ w ∈ vx_atS own ic cls names, w.before args s' = true := fun w hw => vx_ot_at hW0 hvm.symm (hgood w (List.mem_cons_of_mem _ (List.mem_cons_of_mem _ hw))) (hat w hw)
  have hk' : (Cond.classLink own ik cls).before args s' = true := vx_ot_at hW0 hvm.symm (hgood _ List.mem_cons_self) hk
  have hini' : (Cond.initialized cls).before args s' = true := vx_ot_at hW0 hvm.symm (hgood _ (List.mem_cons_of_mem _ List.mem_cons_self)) hini
  have hU' : vx_Zq Bundle.tN "UNASSIGNED_STACK" Bundle.steD A s' s'.heap := by rw [hhp]; exact vx_Zq.moved hW0.alike (hU.kept hS.2.1)
  have hN' : vx_Zq Bundle.tN "SUPPRESSED_SENTINEL" Bundle.listD A s' s'.heap := by rw [hhp]; exact vx_Zq.moved hW0.alike (hN.kept hS.2.1)
  have h : ∀ w ∈ Bundle.ownAtoms own ic cls names, w.before args s' = true := vx_own hat' (vx_isRefq hU'.1) (vx_isRefq hN'.1) hU'.2.word hN'.2.word
  have hown' : s'.vm.findClass own = some m.cls := by rw [hvm]; exact hown
  have hins : (Cond.instantiable cls 6).before args s' = true := h _ (by simp [Bundle.ownAtoms])
  obtain ⟨vm₁, cX, kX, hfX, hkX, -, -, X₁, st1⟩ := Y.newCold hexec (own := own) (C := cls) (index := ik) (n := 6) hown' hk' hins hini'
    (g := F0 m pc ls rest) rfl (by rw [hb]; exact d0) (Nat.le_refl _) (Nat.le_refl _)
  generalize hT1 : (T.setVm vm₁).pushCell { cls := cX, slots := kX.instanceTypes.map defaultValue, vm := .none } = T1 at X₁ st1
  have hcat : (Value.ref T.heap.size).category = 1 := rfl
  have hcellA : T1.heap[T.heap.size]? = some (freshCell cX kX) := by rw [← hT1]; exact State.heap_pushCell_size _ _
  have d3' : decode c.code (pc + 3) = .ok (.dup, 1) := by rw [hb]; exact d3
  have d4' : decode c.code (pc + 4) = .ok (.ldc is, 2) := by rw [hb]; exact d4
  have hstr' : vk_R own is text sa s' := vk_R.warm hW0 hstr
  obtain ⟨U, hsteps, hrun, hend, hW, hsame, ce, hce, hO⟩ := X₁.ctorThrowS hexec htr (own := own) (cls := cls) (names := names) (ic := ic) hown' hcls hnames h (fun x hx => nomatch hx) hfX hkX hcellA (by rw [hhp, hT]; exact Nat.le_refl _) (msg := .ref sa) rfl
    (g := { method := m, pc := pc + 6, locals := ls, stack := .ref sa :: .ref T.heap.size :: .ref T.heap.size :: rest, locked := none }) rfl hsize rfl rfl (rest := rest) rfl
    (by rw [hb]; exact d6) (by rw [hb]; exact d9) hout hRframes (by simp only [List.map_cons, List.sum_cons, hcat]; omega) hlocks
  obtain ⟨f1, f2⟩ := vx_frame hsame
  rw [hhp] at f1 f2
  have hWs : s.WarmedH U.vm := State.WarmedH.trans hW0 hW
  have hcl : s.vm.findClass cls = some ce.cls := by
    have h9 := hO.cls
    rw [hvm] at h9
    exact h9
  have hall : s.sameButNew ({ U with vm := s.vm } : State) locs mc ms := by
    subst hA
    obtain ⟨e1, e2⟩ := hsame
    rw [State.setFrames_setFrames] at e1
    have h2 : (T.setVm s.vm).sameButNew ({ U with vm := s.vm } : State) [] (0 + 1) (0 + 6) := ⟨e1, e2⟩
    have h3 := X.same.trans h2
    rw [List.append_nil] at h3
    exact h3.mono hc hs
  refine ⟨U, ?_, .threw T.heap.size, hrun, hend, Or.inr ⟨T.heap.size, rfl, cls, ce, locs, hx U hWs.alike f1 (fun q hq => f2 q hq (fun z hz => nomatch hz)), hce, hO.vm, hcl, hWs, hall, hf⟩⟩
  refine st1 _ ?_
  show Steps p.tables e below (T1.setTop { method := m, pc := pc + 3, locals := ls, stack := .ref T.heap.size :: rest, locked := none }) _
  jvm_step X₁.here [X₁.here.top, hexec, d3', Value.category]
  exact X₁.ldcString hexec (own := own) (text := text) (index := is) (a := sa) hown' hstr'.1 hstr'.2
    (g := { method := m, pc := pc + 4, locals := ls, stack := .ref T.heap.size :: .ref T.heap.size :: rest, locked := none }) rfl d4' _ hsteps
/-- 'throw new E("text")', the text by a wide index -/
theorem vx_throwSW {cc : ByteArray} {pc : Nat} (hexec : p.tables.exec = Jvm.exec) (hb : c.code = cc) (hl : l.stackTraces = false) {own cls text : String} {names : List String} {ik is ic mc ms sa : Nat} {A : Nat → Prop}
    (hown : s.vm.findClass own = some m.cls) (hcls : Bundle.fit cls = true) (hnames : ∀ n ∈ names, Bundle.fit n = true)
    (hk : (Cond.classLink own ik cls).before args s = true) (hini : (Cond.initialized cls).before args s = true) (hstr : vk_R own is text sa s) (hat : ∀ w ∈ vx_atS own ic cls names, w.before args s = true)
    (hgood : ∀ w ∈ Cond.classLink own ik cls :: Cond.initialized cls :: vx_atS own ic cls names, vx_ot w = true)
    (hU : vx_Zq Bundle.tN "UNASSIGNED_STACK" Bundle.steD A s s.heap) (hN : vx_Zq Bundle.tN "SUPPRESSED_SENTINEL" Bundle.listD A s s.heap) (hS : va_S A s.heap H locs) (hsize : ls.size = c.maxLocals)
    (d0 : decode cc pc = .ok (.new ik, 3)) (d3 : decode cc (pc + 3) = .ok (.dup, 1)) (d4 : decode cc (pc + 4) = .ok (.ldc_w is, 3)) (d7 : decode cc (pc + 7) = .ok (.invokespecial ic, 3)) (d10 : decode cc (pc + 10) = .ok (.athrow, 1))
    (hout : ∀ x ∈ c.exceptionTable.toList, covers x (pc + 10) = false)
    (hRframes : names.length + 3 < R.frames) (hRlocals : (rest.map fun v => v.category).sum + (13 * (names.length + 1) + 43) ≤ R.locals) (hRcells : cells + 1 ≤ R.cells) (hRslots : slots + 6 ≤ R.slots) (hlocks : meth.locks = false)
    (hx : ∀ t : State, s.vm.Alike t.vm → H.size ≤ t.heap.size → (∀ q : Nat, q < H.size → t.heap[q]? = H[q]?) → XC cls s t)
    (hf : ∀ z ∈ locs, free z.base) (hc : cells + 1 ≤ mc) (hs : slots + 6 ≤ ms) :
    W p l e R s m args below meth c H locs cells slots (vx_MQ below Qc XC args s mc ms free) (F0 m pc ls rest) := by
  intro T hT X
  have htr : e.platform.stackTraces = false := (show e.platform.stackTraces = l.stackTraces by rw [X.admits.platform]).trans hl
  have Y := vx_rebase X (R' := { frames := R.frames, locals := R.locals, cells := 1, slots := 6 }) (Nat.le_refl _) (Nat.le_refl _) hRcells hRslots
  obtain ⟨s', hA⟩ : ∃ z, z = (T.setVm s.vm).setFrames (.invoking m args :: below) := ⟨_, rfl⟩
  rw [← hA] at Y
  have hvm : s'.vm = s.vm := by rw [hA]; rfl
  have hhp : s'.heap = H := by rw [hA]; exact hT
  have hW0 : s.WarmedH s'.vm := by rw [hvm]; exact State.WarmedH.refl s
  have hat' : ∀ w ∈ vx_atS own ic cls names, w.before args s' = true := fun w hw => vx_ot_at hW0 hvm.symm (hgood w (List.mem_cons_of_mem _ (List.mem_cons_of_mem _ hw))) (hat w hw)
  have hk' : (Cond.classLink own ik cls).before args s' = true := vx_ot_at hW0 hvm.symm (hgood _ List.mem_cons_self) hk
  have hini' : (Cond.initialized cls).before args s' = true := vx_ot_at hW0 hvm.symm (hgood _ (List.mem_cons_of_mem _ List.mem_cons_self)) hini
  have hU' : vx_Zq Bundle.tN "UNASSIGNED_STACK" Bundle.steD A s' s'.heap := by rw [hhp]; exact vx_Zq.moved hW0.alike (hU.kept hS.2.1)
  have hN' : vx_Zq Bundle.tN "SUPPRESSED_SENTINEL" Bundle.listD A s' s'.heap := by rw [hhp]; exact vx_Zq.moved hW0.alike (hN.kept hS.2.1)
  have h : ∀ w ∈ Bundle.ownAtoms own ic cls names, w.before args s' = true := vx_own hat' (vx_isRefq hU'.1) (vx_isRefq hN'.1) hU'.2.word hN'.2.word
  have hown' : s'.vm.findClass own = some m.cls := by rw [hvm]; exact hown
  have hins : (Cond.instantiable cls 6).before args s' = true := h _ (by simp [Bundle.ownAtoms])
  obtain ⟨vm₁, cX, kX, hfX, hkX, -, -, X₁, st1⟩ := Y.newCold hexec (own := own) (C := cls) (index := ik) (n := 6) hown' hk' hins hini'
    (g := F0 m pc ls rest) rfl (by rw [hb]; exact d0) (Nat.le_refl _) (Nat.le_refl _)
  generalize hT1 : (T.setVm vm₁).pushCell { cls := cX, slots := kX.instanceTypes.map defaultValue, vm := .none } = T1 at X₁ st1
  have hcat : (Value.ref T.heap.size).category = 1 := rfl
  have hcellA : T1.heap[T.heap.size]? = some (freshCell cX kX) := by rw [← hT1]; exact State.heap_pushCell_size _ _
  have d3' : decode c.code (pc + 3) = .ok (.dup, 1) := by rw [hb]; exact d3
  have d4' : decode c.code (pc + 4) = .ok (.ldc_w is, 3) := by rw [hb]; exact d4
  have hstr' : vk_R own is text sa s' := vk_R.warm hW0 hstr
  obtain ⟨U, hsteps, hrun, hend, hW, hsame, ce, hce, hO⟩ := X₁.ctorThrowS hexec htr (own := own) (cls := cls) (names := names) (ic := ic) hown' hcls hnames h (fun x hx => nomatch hx) hfX hkX hcellA (by rw [hhp, hT]; exact Nat.le_refl _) (msg := .ref sa) rfl
    (g := { method := m, pc := pc + 7, locals := ls, stack := .ref sa :: .ref T.heap.size :: .ref T.heap.size :: rest, locked := none }) rfl hsize rfl rfl (rest := rest) rfl
    (by rw [hb]; exact d7) (by rw [hb]; exact d10) hout hRframes (by simp only [List.map_cons, List.sum_cons, hcat]; omega) hlocks
  obtain ⟨f1, f2⟩ := vx_frame hsame
  rw [hhp] at f1 f2
  have hWs : s.WarmedH U.vm := State.WarmedH.trans hW0 hW
  have hcl : s.vm.findClass cls = some ce.cls := by
    have h9 := hO.cls
    rw [hvm] at h9
    exact h9
  have hall : s.sameButNew ({ U with vm := s.vm } : State) locs mc ms := by
    subst hA
    obtain ⟨e1, e2⟩ := hsame
    rw [State.setFrames_setFrames] at e1
    have h2 : (T.setVm s.vm).sameButNew ({ U with vm := s.vm } : State) [] (0 + 1) (0 + 6) := ⟨e1, e2⟩
    have h3 := X.same.trans h2
    rw [List.append_nil] at h3
    exact h3.mono hc hs
  refine ⟨U, ?_, .threw T.heap.size, hrun, hend, Or.inr ⟨T.heap.size, rfl, cls, ce, locs, hx U hWs.alike f1 (fun q hq => f2 q hq (fun z hz => nomatch hz)), hce, hO.vm, hcl, hWs, hall, hf⟩⟩
  refine st1 _ ?_
  show Steps p.tables e below (T1.setTop { method := m, pc := pc + 3, locals := ls, stack := .ref T.heap.size :: rest, locked := none }) _
  jvm_step X₁.here [X₁.here.top, hexec, d3', Value.category]
  exact X₁.ldcStringW hexec (own := own) (text := text) (index := is) (a := sa) hown' hstr'.1 hstr'.2
    (g := { method := m, pc := pc + 4, locals := ls, stack := .ref T.heap.size :: .ref T.heap.size :: rest, locked := none }) rfl d4' _ hsteps
end Ends
section Bodies
variable {l : Launch}
theorem vx_ofW {y : MethodName} {ws ws' : List Cond} {rm : Room} {Pc : Array Value → State → Prop} {Qc : Array Value → State → Outcome → State → Prop} {XC : String → State → State → Prop} {mc ms : Nat} {free : Addr → Prop} {cc : ByteArray} {maxL : Nat} {ret : Option FieldType}
    (hy : plainName y.cls = true) (hw : ws = Cond.code y cc maxL ret :: ws')
    (body : ∀ p e s m args below meth c s₁, BodyLoose p l y (headSpec ws rm) cc maxL ret e s m args below meth c s₁ → c.maxLocals = maxL → (∀ x ∈ c.exceptionTable.toList, False) → Pc args s →
      W p l e (headSpec ws rm).room s m args below meth c s.heap [] 0 0 (vx_MQ below Qc XC args s mc ms free) (entryFrame m args maxL)) : vx_Met l y ws rm Pc Qc XC mc ms free := by
  refine MetFree.of_bodyS (code := cc) (maxLocals := maxL) (ret := ret) hy ?_ ?_
  · intro args s m h hn
    obtain ⟨meth, c, h1, h2, h3, h4, h5, h6, -, -⟩ := Cond.code_spec hn (atoms_spec (ws := ws) h _ (by rw [hw]; exact List.mem_cons_self))
    exact ⟨meth, c, h1, h2, h3, h4, h5, h6⟩
  · intro p e s m args below meth c s₁ B hml hP _
    have hh0 : s₁.heap = s.heap := by rw [B.state]; rfl
    have ht : ∀ x ∈ c.exceptionTable.toList, False := by
      obtain ⟨meth9, c9, h1, h2, -, -, -, -, h7, -⟩ := Cond.code_spec B.named (atoms_spec (ws := ws) B.pre _ (by rw [hw]; exact List.mem_cons_self))
      cases Option.some.inj (h1.symm.trans B.method)
      cases Option.some.inj (h2.symm.trans (Stand.of_body B).code)
      intro x hx
      rw [Array.isEmpty_iff.mp h7] at hx
      cases hx
    obtain ⟨t, a1, o, b1, b2, b3⟩ := body p e s m args below meth c s₁ B hml ht hP s₁ hh0 (Stand.of_body B)
    exact ⟨t, o, a1, b1, b2, b3⟩
/-- the table of a body with handlers -/
theorem vx_table {p : Program} {x y : MethodName} {S : Spec} {cc bytes : ByteArray} {maxL maxL' : Nat} {ret ret' : Option FieldType} {e : Env} {s s₁ : State} {m : MethodId} {args : Array Value} {below : List Frame} {meth : Method} {c : Code} {hh : List (Nat × Nat × Nat × Nat)}
    (B : BodyLoose p l y S cc maxL ret e s m args below meth c s₁) (h : (Cond.codeWith y bytes maxL' ret' hh).before args s = true) : c.exceptionTable.toList = tableOf hh := by
  obtain ⟨m9, meth9, c9, hn9, h1, h2, -, -, h6, -⟩ := Cond.codeWith_spec h
  cases Option.some.inj (hn9.symm.trans B.named)
  cases Option.some.inj (h1.symm.trans B.method)
  cases Option.some.inj (h2.symm.trans (Stand.of_body B).code)
  rw [← h6, table_eq]
end Bodies
end VXA
/-! ===== END ===== -/
/-! ===== BEGIN a static call of a method with an exception table ===== -/
section VXS
variable {p : Program} {l : Launch} {e : Env} {R : Room} {s : State} {m : MethodId} {args : Array Value} {below : List Frame} {meth : Method} {c : Code} {T : State} {H : Heap} {locs : List Loc} {cells slots : Nat}
abbrev vx_CSW (R : Room) (s : State) (args : Array Value) (own : String) (index : Nat) (y : MethodName) (bytes : ByteArray) (maxL : Nat) (ret : Option FieldType) (hh : List (Nat × Nat × Nat × Nat)) (ws : List Cond) (rm : Room) (mc ms n : Nat) : Prop :=
  (rm.cells = mc ∧ rm.slots = ms ∧ rm.frames + 1 ≤ R.frames ∧ 8 + (maxL + 11) + rm.locals ≤ R.locals ∧ (∀ w ∈ ws, ∀ (a' : Array Value) (U : State), s.WarmedH U.vm → w.before a' U = true) ∧ Cond.codeWith y bytes maxL ret hh ∈ ws) ∧
  (Cond.codeWith y bytes maxL ret hh).before args s = true ∧ (Cond.initialized y.cls).before args s = true ∧ (y.cls ≠ "java/lang/invoke/MethodHandle" ∧ y.cls ≠ "java/lang/invoke/VarHandle") ∧
  (∀ sig, parseMethodDescriptor y.desc = some sig → n = sig.parameters.length) ∧ (Cond.methodLink own index y).before args s = true ∧ (Cond.static y).before args s = true
theorem vx_cwSW {own : String} {index maxL mc ms : Nat} {y : MethodName} {bytes : ByteArray} {ret : Option FieldType} {hh : List (Nat × Nat × Nat × Nat)} {Ts ws ws' : List Cond} {rm : Room} (n : Nat) (ht : ∀ w ∈ Ts, w.before args s = true) (hT : GoodIn Ts (va_wsS own index y ws)) (hw : ws = Cond.codeWith y bytes maxL ret hh :: ws') (hrc : rm.cells = mc) (hrs : rm.slots = ms)
    (hd : y.cls ≠ "java/lang/invoke/MethodHandle" ∧ y.cls ≠ "java/lang/invoke/VarHandle" ∧ (parseMethodDescriptor y.desc).map (fun d => d.parameters.length) = some n) (hR : rm.frames + 1 ≤ R.frames ∧ 8 + (maxL + 11) + rm.locals ≤ R.locals) :
    vx_CSW R s args own index y bytes maxL ret hh ws rm mc ms n := by
  have ok : ∀ w ∈ va_wsS own index y ws, w.before args s = true := fun w h => ht w (hT w h).1
  have hG : GoodIn Ts ws := fun w h => hT w (by unfold va_wsS; exact List.mem_append_right _ h)
  have hc : Cond.codeWith y bytes maxL ret hh ∈ ws := by rw [hw]; exact List.mem_cons_self
  refine ⟨⟨hrc, hrs, hR.1, hR.2, pay_in ht hG, hc⟩, ht _ (hG _ hc).1, ok _ (by simp [va_wsS]), ⟨hd.1, hd.2.1⟩, fun sig h => ?_, ok _ (by simp [va_wsS]), ok _ (by simp [va_wsS])⟩
  have h2 := hd.2.2
  rw [h] at h2
  exact (Option.some.inj h2).symm
theorem vx_callSW (X : Stand p l e R s m args below meth c T locs cells slots) (hexec : p.tables.exec = Jvm.exec) {own : String} {index : Nat} {y : MethodName} {bytes : ByteArray} {maxL : Nat} {ret : Option FieldType} {hh : List (Nat × Nat × Nat × Nat)}
    (hown : s.vm.findClass own = some m.cls) (hlink : (Cond.methodLink own index y).before args s = true) (hstat : (Cond.static y).before args s = true) (hinit : (Cond.initialized y.cls).before args s = true)
    (hcode : (Cond.codeWith y bytes maxL ret hh).before args s = true) (hy : y.cls ≠ "java/lang/invoke/MethodHandle" ∧ y.cls ≠ "java/lang/invoke/VarHandle")
    {W9 : Nat} {Pre : Pt → Array Value → Prop} {Post : Pt → Array Value → Option Value → Pt → Prop} (hK : Back l R p e below s args y 3 W9 Pre Post)
    {g : JFrame} (hg : g.method = m) (hsize : g.locals.size = c.maxLocals) {argsL rest : List Value} (hlen : ∀ sig, parseMethodDescriptor y.desc = some sig → argsL.length = sig.parameters.length)
    (hstack : g.stack = argsL.reverse ++ rest) (hW : 2 * g.monitorRoom + (rest.map fun v => v.category).sum ≤ W9) (hdg : decode c.code g.pc = .ok (.invokestatic index, 3))
    (hpre : ∀ vm₁, s.WarmedH vm₁ → Pre ⟨T.setVm vm₁, locs, cells, slots⟩ argsL.toArray) :
    ∃ (v : Option Value) (vm₁ : Vm) (B : Pt), s.WarmedH vm₁ ∧ Stand p l e R s m args below meth c B.U B.locs B.cells B.slots ∧ Post ⟨T.setVm vm₁, locs, cells, slots⟩ argsL.toArray v B ∧
      ∀ target, Steps p.tables e below (B.U.setTop { g with pc := g.pc + 3, stack := v.toList ++ rest }) target → Steps p.tables e below (T.setTop g) target := by
  obtain ⟨mk, methM, cM, hnamed, hmethM, -, -, -, -, -, -, hsigM⟩ := Cond.codeWith_spec hcode
  have hstatic : methM.isStatic = true := Cond.static_spec hnamed hmethM hstat
  obtain ⟨kP, hkP, -⟩ := className_of_methodNamed hnamed
  have hinitP : kP.init = .initialized := Cond.initialized_spec (findClass_of_methodNamed hnamed) hkP hinit
  obtain ⟨vm₁, X₁, hstep₁⟩ := X.invokestatic hexec hown hlink hnamed hmethM hstatic hkP hinitP hy (g := g) hg (argsL := argsL) (rest := rest) (hlen _ hsigM) hstack hdg
  obtain ⟨v, B, X', hpost, hsteps⟩ := hK m meth c ⟨T.setVm vm₁, locs, cells, slots⟩ { g with stack := rest } (.invokestatic index) mk argsL.toArray X₁ hg hsize hdg hW (X₁.named hnamed) (hpre vm₁ X₁.warmed)
  exact ⟨v, vm₁, B, X₁.warmed, X', hpost, fun target h => hstep₁ _ fun acts => by rw [doInvoke_state]; exact hsteps.trans h⟩
theorem vx_runSW {y : MethodName} {bytes cc : ByteArray} {maxL nL mc ms n index : Nat} {ret : Option FieldType} {hh : List (Nat × Nat × Nat × Nat)} {ws : List Cond} {rm : Room} {Pc : Array Value → State → Prop} {Qc : Array Value → State → Outcome → State → Prop} {free : Addr → Prop} {Ts : List Cond} {own : String} {As rest : List Value} {g : JFrame}
    (S : CallFix p m c cc nL s args Ts own) (hM : Met l y ws rm Pc Qc mc ms free) (cw : vx_CSW R s args own index y bytes maxL ret hh ws rm mc ms n) (hp : PreS s H Pc As)
    (hg : g.method = m) (hn : As.length = n) (hsize : g.locals.size = nL) (hstack : g.stack = As.reverse ++ rest) (hW : 2 * g.monitorRoom + (rest.map fun v => v.category).sum ≤ 8) (hdg : decode cc g.pc = .ok (.invokestatic index, 3)) (hf : cells + mc ≤ R.cells ∧ slots + ms ≤ R.slots) :
    va_Run p l e R s m args below meth c H locs cells slots mc ms g rest (Qc As.toArray) (free) := by
  obtain ⟨⟨hrc, hrs, hfr, hlo, hws, hcw⟩, hcode, hini, hy, hlen, hl, hstt⟩ := cw
  have hK : Back l R p e below s args y 3 8 (PreOf R mc ms Pc) (PostOf Qc mc ms free) := va_backW (hh := hh) (bytes := bytes) (maxL := maxL) (ret := ret) hM hp.1 hrc hrs hfr hlo hws hcw (fun a' U hW => word_at hW (Or.inl (by first | rfl | simp [Cond.onTables, Cond.keeps, Cond.steady])) hini)
  obtain ⟨hx, hb, hml, ho, -⟩ := S
  intro T hT X
  obtain ⟨v, vm₁, ⟨U', l2, c2, s2⟩, hW₁, X', ⟨g', mk, t, L, e1, e2, hq, h1, hL, h2, h3⟩, st⟩ := vx_callSW X hx (hh := hh) (bytes := bytes) (maxL := maxL) (ret := ret) ho hl hstt hini hcode hy hK hg (hsize.trans hml.symm) (argsL := As) (rest := rest) (fun sig h => hn.trans (hlen sig h)) hstack hW (by rw [hb]; exact hdg)
    (fun vm₁ hW₁ => ⟨hf.1, hf.2, hp.2 (T.setVm vm₁) hT hW₁⟩)
  dsimp only [Pt.U, Pt.locs, Pt.cells, Pt.slots] at X' e1 e2 h1 h2 h3 st
  subst h1; subst h2; subst h3
  exact ⟨v, (T.setVm vm₁).calling g' mk As.toArray, t, U', L, hT, X', hL, e1, e2, hq, st⟩
/-- a thing of a world lies in the heap -/
theorem vx_lt {D : va_G} {cl : List vw_C} {ws : va_W} {H1 : Heap} (h : va_P D cl ws H1) {k : Nat} {q : Nat × va_E} (hk : ws[k]? = some q) : q.1 < H1.size := (h k q hk).lt
end VXS
/-! ===== END ===== -/
/-! ===== BEGIN methods with a table of their own: called by a name, returning or throwing ===== -/
section VXH
/-! vx_backW, vx_callVX, vx_callSX, vx_callVW, vx_runVW, vx_runVX, vx_runSX, vx_ofWH follow the same proofs as their sisters above (Free/Laws.lean, Shelf42/LK1.lean); vx_outP calls Shelf42/NT130.lean (outThrough). -/
section
variable {l : Launch} {R : Room} {p : Program} {e : Env} {below : List Frame} {s : State} {sargs : Array Value} {y : MethodName} {len W9 : Nat}
theorem vx_backW {ws : List Cond} {rm : Room} {Pc : Array Value → State → Prop} {Qc : Array Value → State → Outcome → State → Prop} {XC : String → State → State → Prop} {mc ms : Nat} {free : Addr → Prop} {bytes : ByteArray} {maxL : Nat} {ret : Option FieldType} {hh : List (Nat × Nat × Nat × Nat)}
    (hM : vx_Met l y ws rm Pc Qc XC mc ms free) (hblind : FrameBlind Pc) (hrc : rm.cells = mc) (hrs : rm.slots = ms)
    (hframes : rm.frames + 1 ≤ R.frames) (hlocals : W9 + (maxL + 11) + rm.locals ≤ R.locals)
    (hws : ∀ w ∈ ws, ∀ a' U, s.WarmedH U.vm → w.before a' U = true) (hcode : Cond.codeWith y bytes maxL ret hh ∈ ws) (hinit : ∀ a' U, s.WarmedH U.vm → (Cond.initialized y.cls).before a' U = true) :
    vx_Back l R p e below s sargs y len W9 (PreOf R mc ms Pc) (PostOf Qc mc ms free) (vx_Post XC mc ms free) := by
  intro m meth c A g ig mk a X hg hsize hdg hW hn hp
  have h1 : (headSpec ws rm).pre.before a A.U = true := atoms_intro fun w hw => hws w hw _ _ X.warmed
  have h2 : (Cond.codeWith y bytes maxL ret hh).before a A.U = true := hws _ hcode _ _ X.warmed
  have h3 : (Cond.initialized y.cls).before a A.U = true := hinit _ _ X.warmed
  have h4 : A.cells + (headSpec ws rm).room.cells ≤ R.cells := by rw [show (headSpec ws rm).room.cells = mc from hrc]; exact hp.1
  have h5 : A.slots + (headSpec ws rm).room.slots ≤ R.slots := by rw [show (headSpec ws rm).room.slots = ms from hrs]; exact hp.2.1
  have hPc : Pc a (A.U.calling g mk a) := hblind _ _ _ _ hp.2.2
  obtain ⟨U, Ls, c0, s0⟩ := A
  dsimp only [Pt.U, Pt.locs, Pt.cells, Pt.slots] at h1 h2 h3 h4 h5 X hn hPc ⊢
  obtain ⟨m9, methY, cY, hn9, hmY, hcY, -, hlY, -⟩ := Cond.codeWith_spec h2
  cases Option.some.inj (hn9.symm.trans hn)
  obtain ⟨kY, hkY, -⟩ := className_of_methodNamed hn
  have hinitY : kY.init = .initialized := Cond.initialized_spec (findClass_of_methodNamed hn) hkY h3
  have h : At U g.method c below := by rw [hg]; exact X.here
  have hlocals9 : W9 + (maxL + 11) + (headSpec ws rm).room.locals ≤ R.locals := hlocals
  have happ : (headSpec ws rm).appliesLoose y e.platform (U.calling g mk a) = true :=
    Spec.appliesLoose_calling (g := g) h hdg hn hkY hinitY
      (X.room_calling (g := g) (R' := (headSpec ws rm).room) hsize hmY hcY hframes (by rw [hlY]; omega) h4 h5) h1
  obtain ⟨mid, hmid⟩ := h.above
  have hfr : (U.setTop g).frames = (.java g :: mid) ++ below := by rw [State.frames_setTop' g h.top, hmid]; rfl
  obtain ⟨o, s₂, hsteps, -, hend, hq⟩ := Steps.callFree hM p X.admits X.cas X.clock (acts := []) hfr happ hPc trivial
  have hq' : vx_Q Qc XC mc ms free a (U.calling g mk a) o s₂ := hq
  rw [State.frames_setTop' g h.top] at hend
  obtain ⟨g₀, hg0⟩ := Option.isSome_iff_exists.mp h.top
  obtain ⟨r, hr⟩ := State.topJava?_eq_some.mp hg0
  have hr' : (({ U with heap := s₂.heap, slotsUsed := s₂.slotsUsed } : State).setVm s₂.vm).frames = .java g₀ :: r := hr
  rcases hq' with ⟨hqc, L, hfe, hL⟩ | ⟨q, rfl, E, ce, L, hx, hce, hcv, hcl, hW₂, hsm, hL⟩
  · obtain ⟨⟨v, rfl⟩, hW₂, e2, q2, q3, q4, q5, q6⟩ := id hfe
    have e3 : s₂ = ({ (U.calling g mk a).setFrames s₂.frames with heap := s₂.heap, slotsUsed := s₂.slotsUsed } : State).setVm s₂.vm := by
      have : s₂ = ({ s₂ with vm := (U.calling g mk a).vm } : State).setVm s₂.vm := rfl
      rw [e2] at this
      exact this
    obtain ⟨c₂, i₂, len₂, hc₂, hd₂, hf₂⟩ := hend
    have hW' : U.WarmedH s₂.vm := hW₂
    have hcc : c₂ = c := by
      have h1 : s₂.code? g.method = U.code? g.method := by
        rw [State.code?_eq, State.code?_eq, hW'.alike.method?]
      exact Option.some.inj (hc₂.symm.trans (h1.trans h.code))
    subst hcc
    have hlen : len₂ = len := by rw [hdg] at hd₂; cases hd₂; rfl
    subst hlen
    have hs₂ : s₂ = (({ U with heap := s₂.heap, slotsUsed := s₂.slotsUsed } : State).setVm s₂.vm).setTop { g with pc := g.pc + len₂, stack := v.toList ++ g.stack } := by
      refine e3.trans ?_
      rw [hf₂, State.calling_eq h.top, State.setFrames_setFrames, State.setTop_of_frames _ hr', hr]
      rfl
    have hsame : U.sameButNew ({ U with heap := s₂.heap, slotsUsed := s₂.slotsUsed } : State) L mc ms := by
      refine ⟨?_, q2, q3, q4, q5, q6⟩
      obtain ⟨t, ht, -⟩ := State.frames_cons hr
      show ({ U with heap := s₂.heap, slotsUsed := s₂.slotsUsed } : State) = { U.setFrames U.frames with heap := s₂.heap, slotsUsed := s₂.slotsUsed }
      rw [State.setFrames_self ht]
    subst hg
    refine Or.inl ⟨v, ⟨(({ U with heap := s₂.heap, slotsUsed := s₂.slotsUsed } : State).setVm s₂.vm), Ls ++ L, c0 + mc, s0 + ms⟩,
      ⟨X.admits, X.cas, X.clock, X.frames, X.room, X.hears, X.method, X.code, (X.here.setHeapUsed s₂.heap s₂.slotsUsed).setVm hW'.alike, X.tail, State.WarmedH.trans X.warmed hW', X.limits, X.bytes, X.same.trans (hsame.setVm s.vm)⟩,
      ⟨g, mk, s₂, L, rfl, rfl, hqc, rfl, hL, rfl, rfl⟩, ?_⟩
    show Steps p.tables e below _ ((({ U with heap := s₂.heap, slotsUsed := s₂.slotsUsed } : State).setVm s₂.vm).setTop { g with pc := g.pc + len₂, stack := v.toList ++ g.stack })
    rw [← hs₂]
    exact hsteps
  · obtain ⟨e2, q2, q3, q4, q5, q6⟩ := id hsm
    have e3 : s₂ = ({ (U.calling g mk a).setFrames s₂.frames with heap := s₂.heap, slotsUsed := s₂.slotsUsed } : State).setVm s₂.vm := by
      have : s₂ = ({ s₂ with vm := (U.calling g mk a).vm } : State).setVm s₂.vm := rfl
      rw [e2] at this
      exact this
    have hf₂ : s₂.frames = .throwing q :: .java g :: U.frames.tail := hend
    have hW' : U.WarmedH s₂.vm := hW₂
    have hs₂ : s₂ = ((({ U with heap := s₂.heap, slotsUsed := s₂.slotsUsed } : State).setVm s₂.vm).setTop g).pushFrame (.throwing q) := by
      refine e3.trans ?_
      rw [hf₂, State.calling_eq h.top, State.setFrames_setFrames, State.pushFrame, State.frames_setTop _ hr', State.setTop_of_frames _ hr', State.setFrames_setFrames, hr]
      rfl
    have hsame : U.sameButNew ({ U with heap := s₂.heap, slotsUsed := s₂.slotsUsed } : State) L mc ms := by
      refine ⟨?_, q2, q3, q4, q5, q6⟩
      obtain ⟨t, ht, -⟩ := State.frames_cons hr
      show ({ U with heap := s₂.heap, slotsUsed := s₂.slotsUsed } : State) = { U.setFrames U.frames with heap := s₂.heap, slotsUsed := s₂.slotsUsed }
      rw [State.setFrames_self ht]
    subst hg
    refine Or.inr ⟨q, ⟨(({ U with heap := s₂.heap, slotsUsed := s₂.slotsUsed } : State).setVm s₂.vm), Ls ++ L, c0 + mc, s0 + ms⟩,
      ⟨X.admits, X.cas, X.clock, X.frames, X.room, X.hears, X.method, X.code, (X.here.setHeapUsed s₂.heap s₂.slotsUsed).setVm hW'.alike, X.tail, State.WarmedH.trans X.warmed hW', X.limits, X.bytes, X.same.trans (hsame.setVm s.vm)⟩,
      ⟨g, mk, s₂, L, E, ce, rfl, rfl, hx, hce, hcv, hcl, rfl, hL, rfl, rfl⟩, ?_⟩
    show Steps p.tables e below _ (((({ U with heap := s₂.heap, slotsUsed := s₂.slotsUsed } : State).setVm s₂.vm).setTop g).pushFrame (.throwing q))
    rw [← hs₂]
    exact hsteps
end
variable {p : Program} {l : Launch} {e : Env} {R : Room} {s : State} {m : MethodId} {args : Array Value} {below : List Frame} {meth : Method} {c : Code} {T : State} {H : Heap} {locs : List Loc} {cells slots : Nat}
theorem vx_callVX (X : Stand p l e R s m args below meth c T locs cells slots) (hexec : p.tables.exec = Jvm.exec) {own C : String} {index : Nat} {y : MethodName} {bytes : ByteArray} {maxL : Nat} {ret : Option FieldType} {hh : List (Nat × Nat × Nat × Nat)}
    (hown : s.vm.findClass own = some m.cls) (hlink : (Cond.methodLink own index y).before args s = true) (hinst : (Cond.instanceMethod y).before args s = true) (hsel : (Cond.selects C y y).before args s = true)
    (hcode : (Cond.codeWith y bytes maxL ret hh).before args s = true) (hy : y.cls ≠ "java/lang/invoke/MethodHandle" ∧ y.cls ≠ "java/lang/invoke/VarHandle")
    {W9 : Nat} {Pre : Pt → Array Value → Prop} {Post : Pt → Array Value → Option Value → Pt → Prop} {PostX : Pt → Array Value → Addr → Pt → Prop} (hK : vx_Back l R p e below s args y 3 W9 Pre Post PostX)
    {b : Addr} {cellB : Cell} (hcell : T.heap[b]? = some cellB) (hobj : cellB.vm.isStatics = false) (hcls : s.vm.findClass C = some cellB.cls)
    {g : JFrame} (hg : g.method = m) (hsize : g.locals.size = c.maxLocals) {argsL rest : List Value} (hlen : ∀ sig, parseMethodDescriptor y.desc = some sig → argsL.length = sig.parameters.length)
    (hstack : g.stack = argsL.reverse ++ .ref b :: rest) (hW : 2 * g.monitorRoom + (rest.map fun v => v.category).sum ≤ W9) (hdg : decode c.code g.pc = .ok (.invokevirtual index, 3))
    (hpre : ∀ vm₁, s.WarmedH vm₁ → Pre ⟨T.setVm vm₁, locs, cells, slots⟩ (Value.ref b :: argsL).toArray) :
    (∃ (v : Option Value) (vm₁ : Vm) (B : Pt), s.WarmedH vm₁ ∧ Stand p l e R s m args below meth c B.U B.locs B.cells B.slots ∧ Post ⟨T.setVm vm₁, locs, cells, slots⟩ (Value.ref b :: argsL).toArray v B ∧
      ∀ target, Steps p.tables e below (B.U.setTop { g with pc := g.pc + 3, stack := v.toList ++ rest }) target → Steps p.tables e below (T.setTop g) target) ∨
    (∃ (q : Addr) (vm₁ : Vm) (B : Pt), s.WarmedH vm₁ ∧ Stand p l e R s m args below meth c B.U B.locs B.cells B.slots ∧ PostX ⟨T.setVm vm₁, locs, cells, slots⟩ (Value.ref b :: argsL).toArray q B ∧
      Steps p.tables e below (T.setTop g) ((B.U.setTop { g with stack := rest }).pushFrame (.throwing q))) := by
  obtain ⟨mk, methM, hnamed, hmethM, hstM, habM⟩ := Cond.instanceMethod_spec hinst
  obtain ⟨m8, methM', cM, hn8, hmethM', -, -, -, -, -, -, hsigM⟩ := Cond.codeWith_spec hcode
  cases Option.some.inj (hn8.symm.trans hnamed)
  cases hmethM.symm.trans hmethM'
  obtain ⟨c2, r2, m2, q1, q2, q3, q4, kP, hkP, hkPi⟩ := Cond.selects_spec hsel
  cases hcls.symm.trans q1
  cases (State.methodFound?_of_named hnamed hy).symm.trans q2
  cases hnamed.symm.trans q3
  have hselP : selectMethod e.platform s.vm cellB.cls mk = .method mk := by rw [Launch.admits_selectMethod X.admits]; exact q4
  obtain ⟨vm₁, X₁, hstep₁⟩ := X.invokevirtual hexec hown hlink hnamed hmethM hstM hkP hkPi hy (a := b) (cell := cellB) hcell
    (fun z h => by rw [h] at hobj; cases hobj) hselP hmethM habM hkP hkPi (g := g) hg (argsL := argsL) (rest := rest) (hlen _ hsigM) hstack hdg
  rcases hK m meth c ⟨T.setVm vm₁, locs, cells, slots⟩ { g with stack := rest } (.invokevirtual index) mk (Value.ref b :: argsL).toArray X₁ hg hsize hdg hW (X₁.named hnamed) (hpre vm₁ X₁.warmed) with ⟨v, B, X', hpost, hsteps⟩ | ⟨q, B, X', hpost, hsteps⟩
  · exact Or.inl ⟨v, vm₁, B, X₁.warmed, X', hpost, fun target h => hstep₁ _ fun acts => by rw [doInvoke_state]; exact hsteps.trans h⟩
  · exact Or.inr ⟨q, vm₁, B, X₁.warmed, X', hpost, hstep₁ _ fun acts => by rw [doInvoke_state]; exact hsteps⟩
theorem vx_callSX (X : Stand p l e R s m args below meth c T locs cells slots) (hexec : p.tables.exec = Jvm.exec) {own : String} {index : Nat} {y : MethodName} {bytes : ByteArray} {maxL : Nat} {ret : Option FieldType} {hh : List (Nat × Nat × Nat × Nat)}
    (hown : s.vm.findClass own = some m.cls) (hlink : (Cond.methodLink own index y).before args s = true) (hstat : (Cond.static y).before args s = true) (hinit : (Cond.initialized y.cls).before args s = true)
    (hcode : (Cond.codeWith y bytes maxL ret hh).before args s = true) (hy : y.cls ≠ "java/lang/invoke/MethodHandle" ∧ y.cls ≠ "java/lang/invoke/VarHandle")
    {W9 : Nat} {Pre : Pt → Array Value → Prop} {Post : Pt → Array Value → Option Value → Pt → Prop} {PostX : Pt → Array Value → Addr → Pt → Prop} (hK : vx_Back l R p e below s args y 3 W9 Pre Post PostX)
    {g : JFrame} (hg : g.method = m) (hsize : g.locals.size = c.maxLocals) {argsL rest : List Value} (hlen : ∀ sig, parseMethodDescriptor y.desc = some sig → argsL.length = sig.parameters.length)
    (hstack : g.stack = argsL.reverse ++ rest) (hW : 2 * g.monitorRoom + (rest.map fun v => v.category).sum ≤ W9) (hdg : decode c.code g.pc = .ok (.invokestatic index, 3))
    (hpre : ∀ vm₁, s.WarmedH vm₁ → Pre ⟨T.setVm vm₁, locs, cells, slots⟩ argsL.toArray) :
    (∃ (v : Option Value) (vm₁ : Vm) (B : Pt), s.WarmedH vm₁ ∧ Stand p l e R s m args below meth c B.U B.locs B.cells B.slots ∧ Post ⟨T.setVm vm₁, locs, cells, slots⟩ argsL.toArray v B ∧
      ∀ target, Steps p.tables e below (B.U.setTop { g with pc := g.pc + 3, stack := v.toList ++ rest }) target → Steps p.tables e below (T.setTop g) target) ∨
    (∃ (q : Addr) (vm₁ : Vm) (B : Pt), s.WarmedH vm₁ ∧ Stand p l e R s m args below meth c B.U B.locs B.cells B.slots ∧ PostX ⟨T.setVm vm₁, locs, cells, slots⟩ argsL.toArray q B ∧
      Steps p.tables e below (T.setTop g) ((B.U.setTop { g with stack := rest }).pushFrame (.throwing q))) := by
  obtain ⟨mk, methM, cM, hnamed, hmethM, -, -, -, -, -, -, hsigM⟩ := Cond.codeWith_spec hcode
  have hstatic : methM.isStatic = true := Cond.static_spec hnamed hmethM hstat
  obtain ⟨kP, hkP, -⟩ := className_of_methodNamed hnamed
  have hinitP : kP.init = .initialized := Cond.initialized_spec (findClass_of_methodNamed hnamed) hkP hinit
  obtain ⟨vm₁, X₁, hstep₁⟩ := X.invokestatic hexec hown hlink hnamed hmethM hstatic hkP hinitP hy (g := g) hg (argsL := argsL) (rest := rest) (hlen _ hsigM) hstack hdg
  rcases hK m meth c ⟨T.setVm vm₁, locs, cells, slots⟩ { g with stack := rest } (.invokestatic index) mk argsL.toArray X₁ hg hsize hdg hW (X₁.named hnamed) (hpre vm₁ X₁.warmed) with ⟨v, B, X', hpost, hsteps⟩ | ⟨q, B, X', hpost, hsteps⟩
  · exact Or.inl ⟨v, vm₁, B, X₁.warmed, X', hpost, fun target h => hstep₁ _ fun acts => by rw [doInvoke_state]; exact hsteps.trans h⟩
  · exact Or.inr ⟨q, vm₁, B, X₁.warmed, X', hpost, hstep₁ _ fun acts => by rw [doInvoke_state]; exact hsteps⟩
theorem vx_callVW (X : Stand p l e R s m args below meth c T locs cells slots) (hexec : p.tables.exec = Jvm.exec) {own C : String} {index : Nat} {y : MethodName} {bytes : ByteArray} {maxL : Nat} {ret : Option FieldType} {hh : List (Nat × Nat × Nat × Nat)}
    (hown : s.vm.findClass own = some m.cls) (hlink : (Cond.methodLink own index y).before args s = true) (hinst : (Cond.instanceMethod y).before args s = true) (hsel : (Cond.selects C y y).before args s = true)
    (hcode : (Cond.codeWith y bytes maxL ret hh).before args s = true) (hy : y.cls ≠ "java/lang/invoke/MethodHandle" ∧ y.cls ≠ "java/lang/invoke/VarHandle")
    {W9 : Nat} {Pre : Pt → Array Value → Prop} {Post : Pt → Array Value → Option Value → Pt → Prop} (hK : Back l R p e below s args y 3 W9 Pre Post)
    {b : Addr} {cellB : Cell} (hcell : T.heap[b]? = some cellB) (hobj : cellB.vm.isStatics = false) (hcls : s.vm.findClass C = some cellB.cls)
    {g : JFrame} (hg : g.method = m) (hsize : g.locals.size = c.maxLocals) {argsL rest : List Value} (hlen : ∀ sig, parseMethodDescriptor y.desc = some sig → argsL.length = sig.parameters.length)
    (hstack : g.stack = argsL.reverse ++ .ref b :: rest) (hW : 2 * g.monitorRoom + (rest.map fun v => v.category).sum ≤ W9) (hdg : decode c.code g.pc = .ok (.invokevirtual index, 3))
    (hpre : ∀ vm₁, s.WarmedH vm₁ → Pre ⟨T.setVm vm₁, locs, cells, slots⟩ (Value.ref b :: argsL).toArray) :
    ∃ (v : Option Value) (vm₁ : Vm) (B : Pt), s.WarmedH vm₁ ∧ Stand p l e R s m args below meth c B.U B.locs B.cells B.slots ∧ Post ⟨T.setVm vm₁, locs, cells, slots⟩ (Value.ref b :: argsL).toArray v B ∧
      ∀ target, Steps p.tables e below (B.U.setTop { g with pc := g.pc + 3, stack := v.toList ++ rest }) target → Steps p.tables e below (T.setTop g) target := by
  obtain ⟨mk, methM, hnamed, hmethM, hstM, habM⟩ := Cond.instanceMethod_spec hinst
  obtain ⟨m8, methM', cM, hn8, hmethM', -, -, -, -, -, -, hsigM⟩ := Cond.codeWith_spec hcode
  cases Option.some.inj (hn8.symm.trans hnamed)
  cases hmethM.symm.trans hmethM'
  obtain ⟨c2, r2, m2, q1, q2, q3, q4, kP, hkP, hkPi⟩ := Cond.selects_spec hsel
  cases hcls.symm.trans q1
  cases (State.methodFound?_of_named hnamed hy).symm.trans q2
  cases hnamed.symm.trans q3
  have hselP : selectMethod e.platform s.vm cellB.cls mk = .method mk := by rw [Launch.admits_selectMethod X.admits]; exact q4
  obtain ⟨vm₁, X₁, hstep₁⟩ := X.invokevirtual hexec hown hlink hnamed hmethM hstM hkP hkPi hy (a := b) (cell := cellB) hcell
    (fun z h => by rw [h] at hobj; cases hobj) hselP hmethM habM hkP hkPi (g := g) hg (argsL := argsL) (rest := rest) (hlen _ hsigM) hstack hdg
  obtain ⟨v, B, X', hpost, hsteps⟩ := hK m meth c ⟨T.setVm vm₁, locs, cells, slots⟩ { g with stack := rest } (.invokevirtual index) mk (Value.ref b :: argsL).toArray X₁ hg hsize hdg hW (X₁.named hnamed) (hpre vm₁ X₁.warmed)
  exact ⟨v, vm₁, B, X₁.warmed, X', hpost, fun target h => hstep₁ _ fun acts => by rw [doInvoke_state]; exact hsteps.trans h⟩
abbrev vx_CVW (R : Room) (s : State) (args : Array Value) (own C : String) (index : Nat) (y : MethodName) (bytes : ByteArray) (maxL : Nat) (ret : Option FieldType) (hh : List (Nat × Nat × Nat × Nat)) (ws : List Cond) (rm : Room) (mc ms n : Nat) : Prop :=
  (rm.cells = mc ∧ rm.slots = ms ∧ rm.frames + 1 ≤ R.frames ∧ 8 + (maxL + 11) + rm.locals ≤ R.locals ∧ (∀ w ∈ ws, ∀ (a' : Array Value) (U : State), s.WarmedH U.vm → w.before a' U = true) ∧ Cond.codeWith y bytes maxL ret hh ∈ ws) ∧
  (Cond.codeWith y bytes maxL ret hh).before args s = true ∧ (Cond.initialized y.cls).before args s = true ∧ (y.cls ≠ "java/lang/invoke/MethodHandle" ∧ y.cls ≠ "java/lang/invoke/VarHandle") ∧
  (∀ sig, parseMethodDescriptor y.desc = some sig → n = sig.parameters.length) ∧ (Cond.methodLink own index y).before args s = true ∧ (Cond.instanceMethod y).before args s = true ∧ (Cond.selects C y y).before args s = true
theorem vx_cwVW {own C : String} {index maxL mc ms : Nat} {y : MethodName} {bytes : ByteArray} {ret : Option FieldType} {hh : List (Nat × Nat × Nat × Nat)} {Ts ws ws' : List Cond} {rm : Room} (n : Nat) (ht : ∀ w ∈ Ts, w.before args s = true) (hT : GoodIn Ts (wsV own index C y ws)) (hw : ws = Cond.codeWith y bytes maxL ret hh :: ws') (hrc : rm.cells = mc) (hrs : rm.slots = ms)
    (hd : y.cls = C ∧ y.cls ≠ "java/lang/invoke/MethodHandle" ∧ y.cls ≠ "java/lang/invoke/VarHandle" ∧ (parseMethodDescriptor y.desc).map (fun d => d.parameters.length) = some n) (hR : rm.frames + 1 ≤ R.frames ∧ 8 + (maxL + 11) + rm.locals ≤ R.locals) :
    vx_CVW R s args own C index y bytes maxL ret hh ws rm mc ms n := by
  obtain ⟨hC, hd⟩ := hd
  subst hC
  have ok : ∀ w ∈ wsV own index y.cls y ws, w.before args s = true := fun w h => ht w (hT w h).1
  have hG : GoodIn Ts ws := fun w h => hT w (by unfold wsV; exact List.mem_append_right _ h)
  have hc : Cond.codeWith y bytes maxL ret hh ∈ ws := by rw [hw]; exact List.mem_cons_self
  refine ⟨⟨hrc, hrs, hR.1, hR.2, pay_in ht hG, hc⟩, ht _ (hG _ hc).1, ok _ (by simp [wsV]), ⟨hd.1, hd.2.1⟩, fun sig h => ?_, ok _ (by simp [wsV]), ok _ (by simp [wsV]), ok _ (by simp [wsV])⟩
  have h2 := hd.2.2
  rw [h] at h2
  exact (Option.some.inj h2).symm
theorem vx_runVW {y : MethodName} {bytes cc : ByteArray} {maxL nL mc ms n index : Nat} {ret : Option FieldType} {hh : List (Nat × Nat × Nat × Nat)} {ws : List Cond} {rm : Room} {Pc : Array Value → State → Prop} {Qc : Array Value → State → Outcome → State → Prop} {free : Addr → Prop} {Ts : List Cond} {own C : String} {b : Addr} {As rest : List Value} {g : JFrame}
    (S : CallFix p m c cc nL s args Ts own) (hM : Met l y ws rm Pc Qc mc ms free) (cw : vx_CVW R s args own C index y bytes maxL ret hh ws rm mc ms n) (hp : PreV s H C b Pc As)
    (hg : g.method = m) (hn : As.length = n) (hsize : g.locals.size = nL) (hstack : g.stack = As.reverse ++ .ref b :: rest) (hW : 2 * g.monitorRoom + (rest.map fun v => v.category).sum ≤ 8) (hdg : decode cc g.pc = .ok (.invokevirtual index, 3)) (hf : cells + mc ≤ R.cells ∧ slots + ms ≤ R.slots) :
    va_Run p l e R s m args below meth c H locs cells slots mc ms g rest (Qc (Value.ref b :: As).toArray) free := by
  obtain ⟨⟨hrc, hrs, hfr, hlo, hws, hcw⟩, hcode, hini, hy, hlen, hl, hin, hse⟩ := cw
  have hK : Back l R p e below s args y 3 8 (PreOf R mc ms Pc) (PostOf Qc mc ms free) := va_backW (hh := hh) (bytes := bytes) (maxL := maxL) (ret := ret) hM hp.1 hrc hrs hfr hlo hws hcw (fun a' U hW => word_at hW (Or.inl (by first | rfl | simp [Cond.onTables, Cond.keeps, Cond.steady])) hini)
  obtain ⟨hx, hb, hml, ho, -⟩ := S
  obtain ⟨-, ⟨cellB, hcB, hoB, hclB⟩, hPc⟩ := hp
  intro T hT X
  obtain ⟨v, vm₁, ⟨U', l2, c2, s2⟩, hW₁, X', ⟨g', mk, t, L, e1, e2, hq, h1, hL, h2, h3⟩, st⟩ := vx_callVW X hx (C := C) (hh := hh) (bytes := bytes) (maxL := maxL) (ret := ret) ho hl hin hse hcode hy hK (by rw [hT]; exact hcB) hoB hclB hg (hsize.trans hml.symm) (argsL := As) (rest := rest) (fun sig h => hn.trans (hlen sig h)) hstack hW (by rw [hb]; exact hdg)
    (fun vm₁ hW₁ => ⟨hf.1, hf.2, hPc (T.setVm vm₁) hT hW₁⟩)
  dsimp only [Pt.U, Pt.locs, Pt.cells, Pt.slots] at X' e1 e2 h1 h2 h3 st
  subst h1; subst h2; subst h3
  exact ⟨v, (T.setVm vm₁).calling g' mk (Value.ref b :: As).toArray, t, U', L, hT, X', hL, e1, e2, hq, st⟩
section
variable {y : MethodName} {bytes cc : ByteArray} {maxL nL mc ms n index : Nat} {ret : Option FieldType} {ws : List Cond} {rm : Room} {Pc : Array Value → State → Prop} {Qc : Array Value → State → Outcome → State → Prop} {XC : String → State → State → Prop} {free : Addr → Prop} {Ts : List Cond} {own C : String} {b : Addr} {As rest : List Value} {g : JFrame}
theorem vx_runVX {hh : List (Nat × Nat × Nat × Nat)} (S : CallFix p m c cc nL s args Ts own) (hM : vx_Met l y ws rm Pc Qc XC mc ms free) (cw : vx_CVW R s args own C index y bytes maxL ret hh ws rm mc ms n) (hp : PreV s H C b Pc As)
    (hg : g.method = m) (hn : As.length = n) (hsize : g.locals.size = nL) (hstack : g.stack = As.reverse ++ .ref b :: rest) (hW : 2 * g.monitorRoom + (rest.map fun v => v.category).sum ≤ 8) (hdg : decode cc g.pc = .ok (.invokevirtual index, 3)) (hf : cells + mc ≤ R.cells ∧ slots + ms ≤ R.slots) :
    vx_Run p l e R s m args below meth c H locs cells slots mc ms g rest (Qc (Value.ref b :: As).toArray) XC free := by
  obtain ⟨⟨hrc, hrs, hfr, hlo, hws, hcw⟩, hcode, hini, hy, hlen, hl, hin, hse⟩ := cw
  have hK : vx_Back l R p e below s args y 3 8 (PreOf R mc ms Pc) (PostOf Qc mc ms free) (vx_Post XC mc ms free) := vx_backW (hh := hh) (bytes := bytes) (maxL := maxL) (ret := ret) hM hp.1 hrc hrs hfr hlo hws hcw (fun a' U hW => word_at hW (Or.inl (by first | rfl | simp [Cond.onTables, Cond.keeps, Cond.steady])) hini)
  obtain ⟨hx, hb, hml, ho, -⟩ := S
  obtain ⟨-, ⟨cellB, hcB, hoB, hclB⟩, hPc⟩ := hp
  intro T hT X
  rcases vx_callVX X hx (C := C) (hh := hh) (bytes := bytes) (maxL := maxL) (ret := ret) ho hl hin hse hcode hy hK (by rw [hT]; exact hcB) hoB hclB hg (hsize.trans hml.symm) (argsL := As) (rest := rest) (fun sig h => hn.trans (hlen sig h)) hstack hW (by rw [hb]; exact hdg)
    (fun vm₁ hW₁ => ⟨hf.1, hf.2, hPc (T.setVm vm₁) hT hW₁⟩) with ⟨v, vm₁, ⟨U', l2, c2, s2⟩, hW₁, X', ⟨g', mk, t, L, e1, e2, hq, h1, hL, h2, h3⟩, st⟩ | ⟨q, vm₁, ⟨U', l2, c2, s2⟩, hW₁, X', ⟨g', mk, t, L, E, ce, e1, e2, hq, hce, hcv, hcl, h1, hL, h2, h3⟩, st⟩
  · dsimp only [Pt.U, Pt.locs, Pt.cells, Pt.slots] at X' e1 e2 h1 h2 h3 st
    subst h1; subst h2; subst h3
    exact Or.inl ⟨v, (T.setVm vm₁).calling g' mk (Value.ref b :: As).toArray, t, U', L, hT, X', hL, e1, e2, hq, st⟩
  · dsimp only [Pt.U, Pt.locs, Pt.cells, Pt.slots] at X' e1 e2 h1 h2 h3 st hcl
    subst h1; subst h2; subst h3
    exact Or.inr ⟨q, (T.setVm vm₁).calling g' mk (Value.ref b :: As).toArray, t, U', L, E, ce, hT, X', hL, e1, e2, hq, hce, hcv, vx_cls hW₁ hcl, st⟩
theorem vx_runSX {hh : List (Nat × Nat × Nat × Nat)} (S : CallFix p m c cc nL s args Ts own) (hM : vx_Met l y ws rm Pc Qc XC mc ms free) (cw : vx_CSW R s args own index y bytes maxL ret hh ws rm mc ms n) (hp : PreS s H Pc As)
    (hg : g.method = m) (hn : As.length = n) (hsize : g.locals.size = nL) (hstack : g.stack = As.reverse ++ rest) (hW : 2 * g.monitorRoom + (rest.map fun v => v.category).sum ≤ 8) (hdg : decode cc g.pc = .ok (.invokestatic index, 3)) (hf : cells + mc ≤ R.cells ∧ slots + ms ≤ R.slots) :
    vx_Run p l e R s m args below meth c H locs cells slots mc ms g rest (Qc As.toArray) XC free := by
  obtain ⟨⟨hrc, hrs, hfr, hlo, hws, hcw⟩, hcode, hini, hy, hlen, hl, hstt⟩ := cw
  have hK : vx_Back l R p e below s args y 3 8 (PreOf R mc ms Pc) (PostOf Qc mc ms free) (vx_Post XC mc ms free) := vx_backW (hh := hh) (bytes := bytes) (maxL := maxL) (ret := ret) hM hp.1 hrc hrs hfr hlo hws hcw (fun a' U hW => word_at hW (Or.inl (by first | rfl | simp [Cond.onTables, Cond.keeps, Cond.steady])) hini)
  obtain ⟨hx, hb, hml, ho, -⟩ := S
  intro T hT X
  rcases vx_callSX X hx (hh := hh) (bytes := bytes) (maxL := maxL) (ret := ret) ho hl hstt hini hcode hy hK hg (hsize.trans hml.symm) (argsL := As) (rest := rest) (fun sig h => hn.trans (hlen sig h)) hstack hW (by rw [hb]; exact hdg)
    (fun vm₁ hW₁ => ⟨hf.1, hf.2, hp.2 (T.setVm vm₁) hT hW₁⟩) with ⟨v, vm₁, ⟨U', l2, c2, s2⟩, hW₁, X', ⟨g', mk, t, L, e1, e2, hq, h1, hL, h2, h3⟩, st⟩ | ⟨q, vm₁, ⟨U', l2, c2, s2⟩, hW₁, X', ⟨g', mk, t, L, E, ce, e1, e2, hq, hce, hcv, hcl, h1, hL, h2, h3⟩, st⟩
  · dsimp only [Pt.U, Pt.locs, Pt.cells, Pt.slots] at X' e1 e2 h1 h2 h3 st
    subst h1; subst h2; subst h3
    exact Or.inl ⟨v, (T.setVm vm₁).calling g' mk As.toArray, t, U', L, hT, X', hL, e1, e2, hq, st⟩
  · dsimp only [Pt.U, Pt.locs, Pt.cells, Pt.slots] at X' e1 e2 h1 h2 h3 st hcl
    subst h1; subst h2; subst h3
    exact Or.inr ⟨q, (T.setVm vm₁).calling g' mk As.toArray, t, U', L, E, ce, hT, X', hL, e1, e2, hq, hce, hcv, vx_cls hW₁ hcl, st⟩
end
end VXH
theorem vx_ofWH {l : Launch} {y : MethodName} {ws ws' : List Cond} {rm : Room} {Pc : Array Value → State → Prop} {Qc : Array Value → State → Outcome → State → Prop} {XC : String → State → State → Prop} {mc ms : Nat} {free : Addr → Prop} {cc : ByteArray} {maxL : Nat} {ret : Option FieldType} {hh : List (Nat × Nat × Nat × Nat)}
    (hy : plainName y.cls = true) (hw : ws = Cond.codeWith y cc maxL ret hh :: ws')
    (body : ∀ p e s m args below meth c s₁, BodyLoose p l y (headSpec ws rm) cc maxL ret e s m args below meth c s₁ → c.maxLocals = maxL → Pc args s →
      W p l e (headSpec ws rm).room s m args below meth c s.heap [] 0 0 (vx_MQ below Qc XC args s mc ms free) (entryFrame m args maxL)) : vx_Met l y ws rm Pc Qc XC mc ms free := by
  refine MetFree.of_bodyS (code := cc) (maxLocals := maxL) (ret := ret) hy ?_ ?_
  · intro args s m h hn
    obtain ⟨m9, meth, c, hn9, h1, h2, h3, h4, -, h5, h6, -⟩ := Cond.codeWith_spec (atoms_spec (ws := ws) h _ (by rw [hw]; exact List.mem_cons_self))
    cases hn.symm.trans hn9
    exact ⟨meth, c, h1, h2, h3, h4, h5, h6⟩
  · intro p e s m args below meth c s₁ B hml hP _
    have hh0 : s₁.heap = s.heap := by rw [B.state]; rfl
    obtain ⟨t, a1, o, b1, b2, b3⟩ := body p e s m args below meth c s₁ B hml hP s₁ hh0 (Stand.of_body B)
    exact ⟨t, o, a1, b1, b2, b3⟩
/-! ===== END ===== -/
end
section
def RX0 : String := "TestimonyBook$Bench"
def TX0 : u_T := fun k => match k with
  | 0 => ("TestimonyBook$Bench", "lines", "LTestimonyBook$Lines;", true)
  | 1 => ("TestimonyBook$Bench", "rests", "LTestimonyBook$Rests;", true)
  | 2 => ("TestimonyBook$Bench", "facts", "LTestimonyBook$Facts;", true)
  | 3 => ("TestimonyBook$Bench", "orders", "LTestimonyBook$Orders;", true)
  | 4 => ("TestimonyBook$Bench", "summary", "LTestimonyBook$Digest;", true)
  | 5 => ("TestimonyBook$Bench", "signs", "[I", true)
  | 6 => ("TestimonyBook$Bench", "lesser", "I", false)
  | _ => ("TestimonyBook$Bench", "greater", "I", false)
def tyX0 : Nat → FieldType := fun k => match k with
  | 0 => .object "TestimonyBook$Lines"
  | 1 => .object "TestimonyBook$Rests"
  | 2 => .object "TestimonyBook$Facts"
  | 3 => .object "TestimonyBook$Orders"
  | 4 => .object "TestimonyBook$Digest"
  | 5 => .array .int
  | 6 => .int
  | _ => .int
abbrev wsX00 : List Cond := u_ws RX0 TX0 8
theorem nmX0 : ∀ a, a < 8 → ∀ b, b < 8 → a ≠ b → (TX0 a).2.1 ≠ (TX0 b).2.1 := by decide +kernel
theorem tyX0_ok : ∀ k, k < 8 → parseFieldDescriptor (TX0 k).2.2.1 = some (tyX0 k) := by decide +kernel
abbrev cX0_init : ByteArray := prog_2_method_1_code
def yX0_init : MethodName := ⟨RX0, "<init>", "(LTestimonyBook$Lines;LTestimonyBook$Rests;LTestimonyBook$Facts;LTestimonyBook$Orders;LTestimonyBook$Digest;)V"⟩
abbrev cX0_signOf : ByteArray := prog_2_method_2_code
def yX0_signOf : MethodName := ⟨RX0, "signOf", "(II)I"⟩
abbrev cX0_signByAnswer : ByteArray := prog_2_method_3_code
def yX0_signByAnswer : MethodName := ⟨RX0, "signByAnswer", "(II)I"⟩
abbrev cX0_weigh : ByteArray := prog_2_method_4_code
def yX0_weigh : MethodName := ⟨RX0, "weigh", "(I)V"⟩
abbrev cX0_seekQuarrel : ByteArray := prog_2_method_5_code
def yX0_seekQuarrel : MethodName := ⟨RX0, "seekQuarrel", "(II)I"⟩
abbrev cX0_clash : ByteArray := prog_2_method_6_code
def yX0_clash : MethodName := ⟨RX0, "clash", "(II)Z"⟩
abbrev cX0_judge : ByteArray := prog_2_method_7_code
def yX0_judge : MethodName := ⟨RX0, "judge", "(II)I"⟩
abbrev cX0_shows : ByteArray := prog_2_method_8_code
def yX0_shows : MethodName := ⟨RX0, "shows", "(II)Z"⟩
abbrev cX0_isDisputed : ByteArray := prog_2_method_9_code
def yX0_isDisputed : MethodName := ⟨RX0, "isDisputed", "(I)Z"⟩
def RX1 : String := "TestimonyBook$Bytes"
def TX1 : u_T := fun k => match k with
  | 0 => ("TestimonyBook$Rows", "most", "I", true)
  | 1 => ("TestimonyBook$Rows", "size", "I", false)
  | 2 => ("TestimonyBook$Rows", "marked", "I", false)
  | _ => ("TestimonyBook$Bytes", "kept", "[B", false)
def tyX1 : Nat → FieldType := fun k => match k with
  | 0 => .int
  | 1 => .int
  | 2 => .int
  | _ => .array .byte
abbrev wsX10 : List Cond := u_ws RX1 TX1 4
theorem nmX1 : ∀ a, a < 4 → ∀ b, b < 4 → a ≠ b → (TX1 a).2.1 ≠ (TX1 b).2.1 := by decide +kernel
theorem tyX1_ok : ∀ k, k < 4 → parseFieldDescriptor (TX1 k).2.2.1 = some (tyX1 k) := by decide +kernel
abbrev cX1_init : ByteArray := prog_3_method_1_code
def yX1_init : MethodName := ⟨RX1, "<init>", "(I)V"⟩
abbrev cX1_clear : ByteArray := prog_3_method_2_code
def yX1_clear : MethodName := ⟨RX1, "clear", "()V"⟩
abbrev cX1_byteAt : ByteArray := prog_3_method_3_code
def yX1_byteAt : MethodName := ⟨RX1, "byteAt", "(I)I"⟩
abbrev cX1_add : ByteArray := prog_3_method_4_code
def yX1_add : MethodName := ⟨RX1, "add", "(I)V"⟩
abbrev cX1_addNumber : ByteArray := prog_3_method_5_code
def yX1_addNumber : MethodName := ⟨RX1, "addNumber", "(I)V"⟩
abbrev cX1_addName : ByteArray := prog_3_method_6_code
def yX1_addName : MethodName := ⟨RX1, "addName", "(J)V"⟩
abbrev cX1_addText : ByteArray := prog_3_method_7_code
def yX1_addText : MethodName := ⟨RX1, "addText", "(Ljava/lang/String;)I"⟩
def RX2 : String := "TestimonyBook$Digest"
def TX2 : u_T := fun k => match k with
  | 0 => ("TestimonyBook$Rows", "most", "I", true)
  | 1 => ("TestimonyBook$Rows", "size", "I", false)
  | 2 => ("TestimonyBook$Rows", "marked", "I", false)
  | 3 => ("TestimonyBook$Digest", "subject", "[I", true)
  | 4 => ("TestimonyBook$Digest", "day", "[I", true)
  | 5 => ("TestimonyBook$Digest", "value", "[I", true)
  | 6 => ("TestimonyBook$Digest", "cites", "[I", true)
  | _ => ("TestimonyBook$Digest", "facts", "[I", true)
def tyX2 : Nat → FieldType := fun k => match k with
  | 0 => .int
  | 1 => .int
  | 2 => .int
  | 3 => .array .int
  | 4 => .array .int
  | 5 => .array .int
  | 6 => .array .int
  | _ => .array .int
abbrev wsX20 : List Cond := u_ws RX2 TX2 8
theorem nmX2 : ∀ a, a < 8 → ∀ b, b < 8 → a ≠ b → (TX2 a).2.1 ≠ (TX2 b).2.1 := by decide +kernel
theorem tyX2_ok : ∀ k, k < 8 → parseFieldDescriptor (TX2 k).2.2.1 = some (tyX2 k) := by decide +kernel
abbrev cX2_init : ByteArray := prog_4_method_1_code
def yX2_init : MethodName := ⟨RX2, "<init>", "()V"⟩
abbrev cX2_add : ByteArray := prog_4_method_2_code
def yX2_add : MethodName := ⟨RX2, "add", "(III)I"⟩
abbrev cX2_citedBy : ByteArray := prog_4_method_3_code
def yX2_citedBy : MethodName := ⟨RX2, "citedBy", "(II)I"⟩
abbrev cX2_addCite : ByteArray := prog_4_method_4_code
def yX2_addCite : MethodName := ⟨RX2, "addCite", "(II)I"⟩
def RX3 : String := "TestimonyBook$Facts"
def TX3 : u_T := fun k => match k with
  | 0 => ("TestimonyBook$Rows", "most", "I", true)
  | 1 => ("TestimonyBook$Rows", "size", "I", false)
  | 2 => ("TestimonyBook$Rows", "marked", "I", false)
  | 3 => ("TestimonyBook$Facts", "line", "[I", true)
  | 4 => ("TestimonyBook$Facts", "rest", "[I", true)
  | 5 => ("TestimonyBook$Facts", "place", "[I", true)
  | 6 => ("TestimonyBook$Facts", "subject", "[I", true)
  | 7 => ("TestimonyBook$Facts", "day", "[I", true)
  | _ => ("TestimonyBook$Facts", "value", "[I", true)
def tyX3 : Nat → FieldType := fun k => match k with
  | 0 => .int
  | 1 => .int
  | 2 => .int
  | 3 => .array .int
  | 4 => .array .int
  | 5 => .array .int
  | 6 => .array .int
  | 7 => .array .int
  | _ => .array .int
abbrev wsX30 : List Cond := u_ws RX3 TX3 9
theorem nmX3 : ∀ a, a < 9 → ∀ b, b < 9 → a ≠ b → (TX3 a).2.1 ≠ (TX3 b).2.1 := by decide +kernel
theorem tyX3_ok : ∀ k, k < 9 → parseFieldDescriptor (TX3 k).2.2.1 = some (tyX3 k) := by decide +kernel
abbrev cX3_init : ByteArray := prog_5_method_1_code
def yX3_init : MethodName := ⟨RX3, "<init>", "()V"⟩
abbrev cX3_add : ByteArray := prog_5_method_2_code
def yX3_add : MethodName := ⟨RX3, "add", "(III)V"⟩
abbrev cX3_setNumbers : ByteArray := prog_5_method_3_code
def yX3_setNumbers : MethodName := ⟨RX3, "setNumbers", "(III)V"⟩
def RX4 : String := "TestimonyBook$Lines"
def TX4 : u_T := fun k => match k with
  | 0 => ("TestimonyBook$Rows", "most", "I", true)
  | 1 => ("TestimonyBook$Rows", "size", "I", false)
  | 2 => ("TestimonyBook$Rows", "marked", "I", false)
  | 3 => ("TestimonyBook$Lines", "kind", "[I", true)
  | 4 => ("TestimonyBook$Lines", "sitting", "[I", true)
  | 5 => ("TestimonyBook$Lines", "page", "[I", true)
  | 6 => ("TestimonyBook$Lines", "place", "[I", true)
  | 7 => ("TestimonyBook$Lines", "first", "[I", true)
  | _ => ("TestimonyBook$Lines", "answer", "[I", true)
def tyX4 : Nat → FieldType := fun k => match k with
  | 0 => .int
  | 1 => .int
  | 2 => .int
  | 3 => .array .int
  | 4 => .array .int
  | 5 => .array .int
  | 6 => .array .int
  | 7 => .array .int
  | _ => .array .int
abbrev wsX40 : List Cond := u_ws RX4 TX4 9
theorem nmX4 : ∀ a, a < 9 → ∀ b, b < 9 → a ≠ b → (TX4 a).2.1 ≠ (TX4 b).2.1 := by decide +kernel
theorem tyX4_ok : ∀ k, k < 9 → parseFieldDescriptor (TX4 k).2.2.1 = some (tyX4 k) := by decide +kernel
abbrev cX4_init : ByteArray := prog_6_method_1_code
def yX4_init : MethodName := ⟨RX4, "<init>", "()V"⟩
abbrev cX4_canGoOn : ByteArray := prog_6_method_2_code
def yX4_canGoOn : MethodName := ⟨RX4, "canGoOn", "(I)Z"⟩
abbrev cX4_add : ByteArray := prog_6_method_3_code
def yX4_add : MethodName := ⟨RX4, "add", "(II)V"⟩
abbrev cX4_setPage : ByteArray := prog_6_method_4_code
def yX4_setPage : MethodName := ⟨RX4, "setPage", "(I)V"⟩
abbrev cX4_setEntry : ByteArray := prog_6_method_5_code
def yX4_setEntry : MethodName := ⟨RX4, "setEntry", "(I)V"⟩
abbrev cX4_entryBefore : ByteArray := prog_6_method_6_code
def yX4_entryBefore : MethodName := ⟨RX4, "entryBefore", "(I)I"⟩
abbrev cX4_answerTo : ByteArray := prog_6_method_7_code
def yX4_answerTo : MethodName := ⟨RX4, "answerTo", "(I)I"⟩
abbrev cX4_kindOfEntry : ByteArray := prog_6_method_8_code
def yX4_kindOfEntry : MethodName := ⟨RX4, "kindOfEntry", "(I)I"⟩
abbrev cX4_standingAt : ByteArray := prog_6_method_9_code
def yX4_standingAt : MethodName := ⟨RX4, "standingAt", "(II)I"⟩
def RX5 : String := "TestimonyBook$Mentions"
def TX5 : u_T := fun k => match k with
  | 0 => ("TestimonyBook$Rows", "most", "I", true)
  | 1 => ("TestimonyBook$Rows", "size", "I", false)
  | 2 => ("TestimonyBook$Rows", "marked", "I", false)
  | 3 => ("TestimonyBook$Mentions", "line", "[I", true)
  | _ => ("TestimonyBook$Mentions", "exhibit", "[I", true)
def tyX5 : Nat → FieldType := fun k => match k with
  | 0 => .int
  | 1 => .int
  | 2 => .int
  | 3 => .array .int
  | _ => .array .int
abbrev wsX50 : List Cond := u_ws RX5 TX5 5
theorem nmX5 : ∀ a, a < 5 → ∀ b, b < 5 → a ≠ b → (TX5 a).2.1 ≠ (TX5 b).2.1 := by decide +kernel
theorem tyX5_ok : ∀ k, k < 5 → parseFieldDescriptor (TX5 k).2.2.1 = some (tyX5 k) := by decide +kernel
abbrev cX5_init : ByteArray := prog_7_method_1_code
def yX5_init : MethodName := ⟨RX5, "<init>", "()V"⟩
abbrev cX5_add : ByteArray := prog_7_method_2_code
def yX5_add : MethodName := ⟨RX5, "add", "(II)V"⟩
def RX6 : String := "TestimonyBook$Names"
def TX6 : u_T := fun k => match k with
  | 0 => ("TestimonyBook$Rows", "most", "I", true)
  | 1 => ("TestimonyBook$Rows", "size", "I", false)
  | 2 => ("TestimonyBook$Rows", "marked", "I", false)
  | 3 => ("TestimonyBook$Names", "line", "[I", true)
  | 4 => ("TestimonyBook$Names", "exhibit", "[I", true)
  | _ => ("TestimonyBook$Names", "name", "[J", true)
def tyX6 : Nat → FieldType := fun k => match k with
  | 0 => .int
  | 1 => .int
  | 2 => .int
  | 3 => .array .int
  | 4 => .array .int
  | _ => .array .long
abbrev wsX60 : List Cond := u_ws RX6 TX6 6
theorem nmX6 : ∀ a, a < 6 → ∀ b, b < 6 → a ≠ b → (TX6 a).2.1 ≠ (TX6 b).2.1 := by decide +kernel
theorem tyX6_ok : ∀ k, k < 6 → parseFieldDescriptor (TX6 k).2.2.1 = some (tyX6 k) := by decide +kernel
abbrev cX6_init : ByteArray := prog_8_method_1_code
def yX6_init : MethodName := ⟨RX6, "<init>", "()V"⟩
abbrev cX6_add : ByteArray := prog_8_method_2_code
def yX6_add : MethodName := ⟨RX6, "add", "(IIJ)V"⟩
abbrev cX6_exhibits : ByteArray := prog_8_method_3_code
def yX6_exhibits : MethodName := ⟨RX6, "exhibits", "()I"⟩
abbrev cX6_holder : ByteArray := prog_8_method_4_code
def yX6_holder : MethodName := ⟨RX6, "holder", "(JI)I"⟩
abbrev cX6_nameOf : ByteArray := prog_8_method_5_code
def yX6_nameOf : MethodName := ⟨RX6, "nameOf", "(II)J"⟩
def RX7 : String := "TestimonyBook$Orders"
def TX7 : u_T := fun k => match k with
  | 0 => ("TestimonyBook$Rows", "most", "I", true)
  | 1 => ("TestimonyBook$Rows", "size", "I", false)
  | 2 => ("TestimonyBook$Rows", "marked", "I", false)
  | 3 => ("TestimonyBook$Orders", "from", "[I", true)
  | 4 => ("TestimonyBook$Orders", "to", "[I", true)
  | 5 => ("TestimonyBook$Orders", "level", "[I", true)
  | 6 => ("TestimonyBook$Orders", "given", "[I", true)
  | _ => ("TestimonyBook$Orders", "lifted", "[I", true)
def tyX7 : Nat → FieldType := fun k => match k with
  | 0 => .int
  | 1 => .int
  | 2 => .int
  | 3 => .array .int
  | 4 => .array .int
  | 5 => .array .int
  | 6 => .array .int
  | _ => .array .int
abbrev wsX70 : List Cond := u_ws RX7 TX7 8
theorem nmX7 : ∀ a, a < 8 → ∀ b, b < 8 → a ≠ b → (TX7 a).2.1 ≠ (TX7 b).2.1 := by decide +kernel
theorem tyX7_ok : ∀ k, k < 8 → parseFieldDescriptor (TX7 k).2.2.1 = some (tyX7 k) := by decide +kernel
abbrev cX7_init : ByteArray := prog_9_method_1_code
def yX7_init : MethodName := ⟨RX7, "<init>", "()V"⟩
abbrev cX7_add : ByteArray := prog_9_method_2_code
def yX7_add : MethodName := ⟨RX7, "add", "(IIII)I"⟩
abbrev cX7_liftOn : ByteArray := prog_9_method_3_code
def yX7_liftOn : MethodName := ⟨RX7, "liftOn", "(II)Z"⟩
abbrev cX7_holds : ByteArray := prog_9_method_4_code
def yX7_holds : MethodName := ⟨RX7, "holds", "(III)Z"⟩
abbrev cX7_strike : ByteArray := prog_9_method_5_code
def yX7_strike : MethodName := ⟨RX7, "strike", "(II)Z"⟩
abbrev cX7_levelOf : ByteArray := prog_9_method_6_code
def yX7_levelOf : MethodName := ⟨RX7, "levelOf", "(II)I"⟩
def RX8 : String := "TestimonyBook$Rests"
def TX8 : u_T := fun k => match k with
  | 0 => ("TestimonyBook$Rows", "most", "I", true)
  | 1 => ("TestimonyBook$Rows", "size", "I", false)
  | 2 => ("TestimonyBook$Rows", "marked", "I", false)
  | 3 => ("TestimonyBook$Rests", "text", "LTestimonyBook$Bytes;", true)
  | 4 => ("TestimonyBook$Rests", "latest", "[I", true)
  | 5 => ("TestimonyBook$Rests", "before", "[I", true)
  | 6 => ("TestimonyBook$Rests", "day", "[I", true)
  | 7 => ("TestimonyBook$Rests", "from", "[I", true)
  | _ => ("TestimonyBook$Rests", "length", "[I", true)
def tyX8 : Nat → FieldType := fun k => match k with
  | 0 => .int
  | 1 => .int
  | 2 => .int
  | 3 => .object "TestimonyBook$Bytes"
  | 4 => .array .int
  | 5 => .array .int
  | 6 => .array .int
  | 7 => .array .int
  | _ => .array .int
abbrev wsX80 : List Cond := u_ws RX8 TX8 9
theorem nmX8 : ∀ a, a < 9 → ∀ b, b < 9 → a ≠ b → (TX8 a).2.1 ≠ (TX8 b).2.1 := by decide +kernel
theorem tyX8_ok : ∀ k, k < 9 → parseFieldDescriptor (TX8 k).2.2.1 = some (tyX8 k) := by decide +kernel
abbrev cX8_init : ByteArray := prog_10_method_1_code
def yX8_init : MethodName := ⟨RX8, "<init>", "()V"⟩
abbrev cX8_addFirst : ByteArray := prog_10_method_2_code
def yX8_addFirst : MethodName := ⟨RX8, "addFirst", "(ILTestimonyBook$Bytes;II)V"⟩
abbrev cX8_addRight : ByteArray := prog_10_method_3_code
def yX8_addRight : MethodName := ⟨RX8, "addRight", "(IILTestimonyBook$Bytes;II)V"⟩
abbrev cX8_add : ByteArray := prog_10_method_4_code
def yX8_add : MethodName := ⟨RX8, "add", "(IIILTestimonyBook$Bytes;II)V"⟩
abbrev cX8_heldOn : ByteArray := prog_10_method_5_code
def yX8_heldOn : MethodName := ⟨RX8, "heldOn", "(II)I"⟩
abbrev cX8_timesRighted : ByteArray := prog_10_method_6_code
def yX8_timesRighted : MethodName := ⟨RX8, "timesRighted", "(I)I"⟩
abbrev cX8_tell : ByteArray := prog_10_method_7_code
def yX8_tell : MethodName := ⟨RX8, "tell", "(ILTestimonyBook$Bytes;)I"⟩
def RX9 : String := "TestimonyBook$Rows"
def TX9 : u_T := fun k => match k with
  | _ => ("", "", "", false)
def tyX9 : Nat → FieldType := fun k => match k with
  | _ => .int
abbrev wsX90 : List Cond := u_ws RX9 TX9 0
theorem nmX9 : ∀ a, a < 0 → ∀ b, b < 0 → a ≠ b → (TX9 a).2.1 ≠ (TX9 b).2.1 := by decide +kernel
theorem tyX9_ok : ∀ k, k < 0 → parseFieldDescriptor (TX9 k).2.2.1 = some (tyX9 k) := by decide +kernel
abbrev cX9_init : ByteArray := prog_11_method_1_code
def yX9_init : MethodName := ⟨RX9, "<init>", "(I)V"⟩
abbrev cX9_has : ByteArray := prog_11_method_2_code
def yX9_has : MethodName := ⟨RX9, "has", "(I)Z"⟩
abbrev cX9_isFull : ByteArray := prog_11_method_3_code
def yX9_isFull : MethodName := ⟨RX9, "isFull", "()Z"⟩
abbrev cX9_mark : ByteArray := prog_11_method_4_code
def yX9_mark : MethodName := ⟨RX9, "mark", "()V"⟩
abbrev cX9_takeBack : ByteArray := prog_11_method_5_code
def yX9_takeBack : MethodName := ⟨RX9, "takeBack", "()V"⟩
def RX10 : String := "TestimonyBook$Scribe"
def TX10 : u_T := fun k => match k with
  | 0 => ("TestimonyBook$Scribe", "text", "LTestimonyBook$Bytes;", true)
  | 1 => ("TestimonyBook$Scribe", "lines", "LTestimonyBook$Lines;", true)
  | 2 => ("TestimonyBook$Scribe", "rests", "LTestimonyBook$Rests;", true)
  | 3 => ("TestimonyBook$Scribe", "facts", "LTestimonyBook$Facts;", true)
  | 4 => ("TestimonyBook$Scribe", "mentions", "LTestimonyBook$Mentions;", true)
  | 5 => ("TestimonyBook$Scribe", "names", "LTestimonyBook$Names;", true)
  | 6 => ("TestimonyBook$Scribe", "end", "I", false)
  | 7 => ("TestimonyBook$Scribe", "at", "I", false)
  | 8 => ("TestimonyBook$Scribe", "lineStart", "I", false)
  | 9 => ("TestimonyBook$Scribe", "number", "I", false)
  | 10 => ("TestimonyBook$Scribe", "name", "J", false)
  | 11 => ("TestimonyBook$Scribe", "fault", "I", false)
  | _ => ("TestimonyBook$Scribe", "place", "I", false)
def tyX10 : Nat → FieldType := fun k => match k with
  | 0 => .object "TestimonyBook$Bytes"
  | 1 => .object "TestimonyBook$Lines"
  | 2 => .object "TestimonyBook$Rests"
  | 3 => .object "TestimonyBook$Facts"
  | 4 => .object "TestimonyBook$Mentions"
  | 5 => .object "TestimonyBook$Names"
  | 6 => .int
  | 7 => .int
  | 8 => .int
  | 9 => .int
  | 10 => .long
  | 11 => .int
  | _ => .int
abbrev wsX100 : List Cond := u_ws RX10 TX10 13
theorem nmX10 : ∀ a, a < 13 → ∀ b, b < 13 → a ≠ b → (TX10 a).2.1 ≠ (TX10 b).2.1 := by decide +kernel
theorem tyX10_ok : ∀ k, k < 13 → parseFieldDescriptor (TX10 k).2.2.1 = some (tyX10 k) := by decide +kernel
abbrev cX10_init : ByteArray := prog_12_method_1_code
def yX10_init : MethodName := ⟨RX10, "<init>", "(LTestimonyBook$Bytes;LTestimonyBook$Lines;LTestimonyBook$Rests;LTestimonyBook$Facts;LTestimonyBook$Mentions;LTestimonyBook$Names;)V"⟩
abbrev cX10_takeSitting : ByteArray := prog_12_method_2_code
def yX10_takeSitting : MethodName := ⟨RX10, "takeSitting", "(II)I"⟩
abbrev cX10_takeRight : ByteArray := prog_12_method_3_code
def yX10_takeRight : MethodName := ⟨RX10, "takeRight", "(III)I"⟩
abbrev cX10_begin : ByteArray := prog_12_method_4_code
def yX10_begin : MethodName := ⟨RX10, "begin", "(I)V"⟩
abbrev cX10_finish : ByteArray := prog_12_method_5_code
def yX10_finish : MethodName := ⟨RX10, "finish", "(Z)I"⟩
abbrev cX10_refuse : ByteArray := prog_12_method_6_code
def yX10_refuse : MethodName := ⟨RX10, "refuse", "(II)Z"⟩
abbrev cX10_sign : ByteArray := prog_12_method_7_code
def yX10_sign : MethodName := ⟨RX10, "sign", "()I"⟩
abbrev cX10_lineEnds : ByteArray := prog_12_method_8_code
def yX10_lineEnds : MethodName := ⟨RX10, "lineEnds", "()Z"⟩
abbrev cX10_step : ByteArray := prog_12_method_9_code
def yX10_step : MethodName := ⟨RX10, "step", "()Z"⟩
abbrev cX10_expect : ByteArray := prog_12_method_10_code
def yX10_expect : MethodName := ⟨RX10, "expect", "(I)Z"⟩
abbrev cX10_takeLine : ByteArray := prog_12_method_11_code
def yX10_takeLine : MethodName := ⟨RX10, "takeLine", "(I)Z"⟩
abbrev cX10_takeHead : ByteArray := prog_12_method_12_code
def yX10_takeHead : MethodName := ⟨RX10, "takeHead", "(II)Z"⟩
abbrev cX10_takeRest : ByteArray := prog_12_method_13_code
def yX10_takeRest : MethodName := ⟨RX10, "takeRest", "(I)Z"⟩
abbrev cX10_isPlain : ByteArray := prog_12_method_14_code
def yX10_isPlain : MethodName := ⟨RX10, "isPlain", "(I)Z"⟩
abbrev cX10_takeFact : ByteArray := prog_12_method_15_code
def yX10_takeFact : MethodName := ⟨RX10, "takeFact", "(I)Z"⟩
abbrev cX10_takeNumber : ByteArray := prog_12_method_16_code
def yX10_takeNumber : MethodName := ⟨RX10, "takeNumber", "()Z"⟩
abbrev cX10_takeMention : ByteArray := prog_12_method_17_code
def yX10_takeMention : MethodName := ⟨RX10, "takeMention", "(I)Z"⟩
abbrev cX10_takeNaming : ByteArray := prog_12_method_18_code
def yX10_takeNaming : MethodName := ⟨RX10, "takeNaming", "(I)Z"⟩
abbrev cX10_takeNewName : ByteArray := prog_12_method_19_code
def yX10_takeNewName : MethodName := ⟨RX10, "takeNewName", "(II)Z"⟩
abbrev cX10_takeName : ByteArray := prog_12_method_20_code
def yX10_takeName : MethodName := ⟨RX10, "takeName", "()Z"⟩
abbrev cX10_isOfName : ByteArray := prog_12_method_21_code
def yX10_isOfName : MethodName := ⟨RX10, "isOfName", "(I)Z"⟩
def RX11 : String := "TestimonyBook"
def TX11 : u_T := fun k => match k with
  | 0 => ("TestimonyBook", "tape", "LTestimonyBook$Bytes;", true)
  | 1 => ("TestimonyBook", "out", "LTestimonyBook$Bytes;", true)
  | 2 => ("TestimonyBook", "lines", "LTestimonyBook$Lines;", true)
  | 3 => ("TestimonyBook", "rests", "LTestimonyBook$Rests;", true)
  | 4 => ("TestimonyBook", "facts", "LTestimonyBook$Facts;", true)
  | 5 => ("TestimonyBook", "mentions", "LTestimonyBook$Mentions;", true)
  | 6 => ("TestimonyBook", "names", "LTestimonyBook$Names;", true)
  | 7 => ("TestimonyBook", "orders", "LTestimonyBook$Orders;", true)
  | 8 => ("TestimonyBook", "summary", "LTestimonyBook$Digest;", true)
  | 9 => ("TestimonyBook", "scribe", "LTestimonyBook$Scribe;", true)
  | 10 => ("TestimonyBook", "bench", "LTestimonyBook$Bench;", true)
  | 11 => ("TestimonyBook", "sittings", "I", false)
  | 12 => ("TestimonyBook", "now", "I", false)
  | _ => ("TestimonyBook", "faultPlace", "I", false)
def tyX11 : Nat → FieldType := fun k => match k with
  | 0 => .object "TestimonyBook$Bytes"
  | 1 => .object "TestimonyBook$Bytes"
  | 2 => .object "TestimonyBook$Lines"
  | 3 => .object "TestimonyBook$Rests"
  | 4 => .object "TestimonyBook$Facts"
  | 5 => .object "TestimonyBook$Mentions"
  | 6 => .object "TestimonyBook$Names"
  | 7 => .object "TestimonyBook$Orders"
  | 8 => .object "TestimonyBook$Digest"
  | 9 => .object "TestimonyBook$Scribe"
  | 10 => .object "TestimonyBook$Bench"
  | 11 => .int
  | 12 => .int
  | _ => .int
abbrev wsX110 : List Cond := u_ws RX11 TX11 14
theorem nmX11 : ∀ a, a < 14 → ∀ b, b < 14 → a ≠ b → (TX11 a).2.1 ≠ (TX11 b).2.1 := by decide +kernel
theorem tyX11_ok : ∀ k, k < 14 → parseFieldDescriptor (TX11 k).2.2.1 = some (tyX11 k) := by decide +kernel
abbrev cX11_init : ByteArray := prog_1_method_1_code
def yX11_init : MethodName := ⟨RX11, "<init>", "()V"⟩
abbrev cX11_feed : ByteArray := prog_1_method_2_code
def yX11_feed : MethodName := ⟨RX11, "feed", "(IIIII)I"⟩
abbrev cX11_sitting : ByteArray := prog_1_method_3_code
def yX11_sitting : MethodName := ⟨RX11, "sitting", "(I)I"⟩
abbrev cX11_fault : ByteArray := prog_1_method_4_code
def yX11_fault : MethodName := ⟨RX11, "fault", "()I"⟩
abbrev cX11_right : ByteArray := prog_1_method_5_code
def yX11_right : MethodName := ⟨RX11, "right", "(II)I"⟩
abbrev cX11_days : ByteArray := prog_1_method_6_code
def yX11_days : MethodName := ⟨RX11, "days", "(I)I"⟩
abbrev cX11_about : ByteArray := prog_1_method_7_code
def yX11_about : MethodName := ⟨RX11, "about", "(II)I"⟩
abbrev cX11_cited : ByteArray := prog_1_method_8_code
def yX11_cited : MethodName := ⟨RX11, "cited", "(II)I"⟩
abbrev cX11_fact : ByteArray := prog_1_method_9_code
def yX11_fact : MethodName := ⟨RX11, "fact", "(II)I"⟩
abbrev cX11_stands : ByteArray := prog_1_method_10_code
def yX11_stands : MethodName := ⟨RX11, "stands", "(II)I"⟩
abbrev cX11_quarrels : ByteArray := prog_1_method_11_code
def yX11_quarrels : MethodName := ⟨RX11, "quarrels", "(I)I"⟩
abbrev cX11_quarrel : ByteArray := prog_1_method_12_code
def yX11_quarrel : MethodName := ⟨RX11, "quarrel", "(III)I"⟩
abbrev cX11_mention : ByteArray := prog_1_method_13_code
def yX11_mention : MethodName := ⟨RX11, "mention", "(II)I"⟩
abbrev cX11_name : ByteArray := prog_1_method_14_code
def yX11_name : MethodName := ⟨RX11, "name", "(II)I"⟩
abbrev cX11_order : ByteArray := prog_1_method_15_code
def yX11_order : MethodName := ⟨RX11, "order", "(III)I"⟩
abbrev cX11_lift : ByteArray := prog_1_method_16_code
def yX11_lift : MethodName := ⟨RX11, "lift", "(I)Z"⟩
abbrev cX11_status : ByteArray := prog_1_method_17_code
def yX11_status : MethodName := ⟨RX11, "status", "(III)I"⟩
abbrev cX11_read : ByteArray := prog_1_method_18_code
def yX11_read : MethodName := ⟨RX11, "read", "(IIII)I"⟩
abbrev cX11_told : ByteArray := prog_1_method_19_code
def yX11_told : MethodName := ⟨RX11, "told", "(I)I"⟩
abbrev cX11_digest : ByteArray := prog_1_method_20_code
def yX11_digest : MethodName := ⟨RX11, "digest", "(III)I"⟩
abbrev cX11_cite : ByteArray := prog_1_method_21_code
def yX11_cite : MethodName := ⟨RX11, "cite", "(II)I"⟩
abbrev cX11_shown : ByteArray := prog_1_method_22_code
def yX11_shown : MethodName := ⟨RX11, "shown", "(II)I"⟩
abbrev cX11_count : ByteArray := prog_1_method_23_code
def yX11_count : MethodName := ⟨RX11, "count", "(I)I"⟩
abbrev cX11_demand : ByteArray := prog_1_method_24_code
def yX11_demand : MethodName := ⟨RX11, "demand", "(Z)V"⟩
abbrev cX11_demandLines : ByteArray := prog_1_method_25_code
def yX11_demandLines : MethodName := ⟨RX11, "demandLines", "(II)V"⟩
abbrev cX11_demandOnTape : ByteArray := prog_1_method_26_code
def yX11_demandOnTape : MethodName := ⟨RX11, "demandOnTape", "(I)V"⟩
abbrev cX11_isLevel : ByteArray := prog_1_method_27_code
def yX11_isLevel : MethodName := ⟨RX11, "isLevel", "(I)Z"⟩
abbrev cX11_isNumber : ByteArray := prog_1_method_28_code
def yX11_isNumber : MethodName := ⟨RX11, "isNumber", "(I)Z"⟩
abbrev cX11_endReading : ByteArray := prog_1_method_29_code
def yX11_endReading : MethodName := ⟨RX11, "endReading", "(I)V"⟩
abbrev cX11_readBack : ByteArray := prog_1_method_30_code
def yX11_readBack : MethodName := ⟨RX11, "readBack", "(III)I"⟩
def RX12 : String := "TestimonyBookModel"
def TX12 : u_T := fun k => match k with
  | 0 => ("TestimonyBookModel", "code", "I", false)
  | 1 => ("TestimonyBookModel", "tape", "[I", true)
  | 2 => ("TestimonyBookModel", "out", "[I", true)
  | 3 => ("TestimonyBookModel", "taped", "I", false)
  | 4 => ("TestimonyBookModel", "outSize", "I", false)
  | 5 => ("TestimonyBookModel", "now", "I", false)
  | 6 => ("TestimonyBookModel", "sittings", "I", false)
  | 7 => ("TestimonyBookModel", "faultPlace", "I", false)
  | 8 => ("TestimonyBookModel", "lines", "I", false)
  | 9 => ("TestimonyBookModel", "kind", "[I", true)
  | 10 => ("TestimonyBookModel", "sitting", "[I", true)
  | 11 => ("TestimonyBookModel", "entry", "[I", true)
  | 12 => ("TestimonyBookModel", "page", "[I", true)
  | 13 => ("TestimonyBookModel", "place", "[I", true)
  | 14 => ("TestimonyBookModel", "righted", "[I", true)
  | 15 => ("TestimonyBookModel", "restLine", "[I", true)
  | 16 => ("TestimonyBookModel", "restDay", "[I", true)
  | 17 => ("TestimonyBookModel", "restSize", "[I", true)
  | 18 => ("TestimonyBookModel", "restBytes", "[I", true)
  | 19 => ("TestimonyBookModel", "rightMany", "I", false)
  | 20 => ("TestimonyBookModel", "facts", "I", false)
  | 21 => ("TestimonyBookModel", "mentions", "I", false)
  | 22 => ("TestimonyBookModel", "exhibits", "I", false)
  | 23 => ("TestimonyBookModel", "namings", "I", false)
  | 24 => ("TestimonyBookModel", "factRest", "[I", true)
  | 25 => ("TestimonyBookModel", "subject", "[I", true)
  | 26 => ("TestimonyBookModel", "factDay", "[I", true)
  | 27 => ("TestimonyBookModel", "value", "[I", true)
  | 28 => ("TestimonyBookModel", "factPlace", "[I", true)
  | 29 => ("TestimonyBookModel", "mentionLine", "[I", true)
  | 30 => ("TestimonyBookModel", "mentionOf", "[I", true)
  | 31 => ("TestimonyBookModel", "namedExhibit", "[I", true)
  | 32 => ("TestimonyBookModel", "namedLine", "[I", true)
  | 33 => ("TestimonyBookModel", "nameOf", "[J", true)
  | 34 => ("TestimonyBookModel", "orders", "I", false)
  | 35 => ("TestimonyBookModel", "digests", "I", false)
  | 36 => ("TestimonyBookModel", "orderFrom", "[I", true)
  | 37 => ("TestimonyBookModel", "orderTo", "[I", true)
  | 38 => ("TestimonyBookModel", "orderLevel", "[I", true)
  | 39 => ("TestimonyBookModel", "orderDay", "[I", true)
  | 40 => ("TestimonyBookModel", "lifted", "[I", true)
  | 41 => ("TestimonyBookModel", "digestSubject", "[I", true)
  | 42 => ("TestimonyBookModel", "digestDay", "[I", true)
  | 43 => ("TestimonyBookModel", "digestValue", "[I", true)
  | 44 => ("TestimonyBookModel", "citeMany", "[I", true)
  | 45 => ("TestimonyBookModel", "cites", "[I", true)
  | 46 => ("TestimonyBookModel", "at", "I", false)
  | 47 => ("TestimonyBookModel", "size", "I", false)
  | 48 => ("TestimonyBookModel", "lineBegin", "I", false)
  | 49 => ("TestimonyBookModel", "bad", "I", false)
  | 50 => ("TestimonyBookModel", "badPlace", "I", false)
  | 51 => ("TestimonyBookModel", "theLine", "I", false)
  | 52 => ("TestimonyBookModel", "theRest", "I", false)
  | _ => ("TestimonyBookModel", "word", "J", false)
def tyX12 : Nat → FieldType := fun k => match k with
  | 0 => .int
  | 1 => .array .int
  | 2 => .array .int
  | 3 => .int
  | 4 => .int
  | 5 => .int
  | 6 => .int
  | 7 => .int
  | 8 => .int
  | 9 => .array .int
  | 10 => .array .int
  | 11 => .array .int
  | 12 => .array .int
  | 13 => .array .int
  | 14 => .array .int
  | 15 => .array .int
  | 16 => .array .int
  | 17 => .array .int
  | 18 => .array .int
  | 19 => .int
  | 20 => .int
  | 21 => .int
  | 22 => .int
  | 23 => .int
  | 24 => .array .int
  | 25 => .array .int
  | 26 => .array .int
  | 27 => .array .int
  | 28 => .array .int
  | 29 => .array .int
  | 30 => .array .int
  | 31 => .array .int
  | 32 => .array .int
  | 33 => .array .long
  | 34 => .int
  | 35 => .int
  | 36 => .array .int
  | 37 => .array .int
  | 38 => .array .int
  | 39 => .array .int
  | 40 => .array .int
  | 41 => .array .int
  | 42 => .array .int
  | 43 => .array .int
  | 44 => .array .int
  | 45 => .array .int
  | 46 => .int
  | 47 => .int
  | 48 => .int
  | 49 => .int
  | 50 => .int
  | 51 => .int
  | 52 => .int
  | _ => .long
abbrev wsX120 : List Cond := u_ws RX12 TX12 54
theorem nmX12 : ∀ a, a < 54 → ∀ b, b < 54 → a ≠ b → (TX12 a).2.1 ≠ (TX12 b).2.1 := by decide +kernel
theorem tyX12_ok : ∀ k, k < 54 → parseFieldDescriptor (TX12 k).2.2.1 = some (tyX12 k) := by decide +kernel
abbrev cX12_init : ByteArray := prog_14_method_1_code
def yX12_init : MethodName := ⟨RX12, "<init>", "()V"⟩
abbrev cX12_thrown : ByteArray := prog_14_method_2_code
def yX12_thrown : MethodName := ⟨RX12, "thrown", "()I"⟩
abbrev cX12_fail : ByteArray := prog_14_method_3_code
def yX12_fail : MethodName := ⟨RX12, "fail", "(I)I"⟩
abbrev cX12_isLine : ByteArray := prog_14_method_4_code
def yX12_isLine : MethodName := ⟨RX12, "isLine", "(I)Z"⟩
abbrev cX12_feed : ByteArray := prog_14_method_5_code
def yX12_feed : MethodName := ⟨RX12, "feed", "(IIIII)I"⟩
abbrev cX12_named : ByteArray := prog_14_method_6_code
def yX12_named : MethodName := ⟨RX12, "named", "(JI)I"⟩
abbrev cX12_nameAt : ByteArray := prog_14_method_7_code
def yX12_nameAt : MethodName := ⟨RX12, "nameAt", "(II)J"⟩
abbrev cX12_name : ByteArray := prog_14_method_8_code
def yX12_name : MethodName := ⟨RX12, "name", "(IJ)V"⟩
abbrev cX12_now0 : ByteArray := prog_14_method_9_code
def yX12_now0 : MethodName := ⟨RX12, "now0", "()I"⟩
abbrev cX12_wrong : ByteArray := prog_14_method_10_code
def yX12_wrong : MethodName := ⟨RX12, "wrong", "(II)V"⟩
abbrev cX12_take : ByteArray := prog_14_method_11_code
def yX12_take : MethodName := ⟨RX12, "take", "(I)V"⟩
abbrev cX12_isNameSign : ByteArray := prog_14_method_12_code
def yX12_isNameSign : MethodName := ⟨RX12, "isNameSign", "(I)Z"⟩
abbrev cX12_readName : ByteArray := prog_14_method_13_code
def yX12_readName : MethodName := ⟨RX12, "readName", "(I)I"⟩
abbrev cX12_readNumber : ByteArray := prog_14_method_14_code
def yX12_readNumber : MethodName := ⟨RX12, "readNumber", "(I)I"⟩
abbrev cX12_need : ByteArray := prog_14_method_15_code
def yX12_need : MethodName := ⟨RX12, "need", "(II)V"⟩
abbrev cX12_readRest : ByteArray := prog_14_method_16_code
def yX12_readRest : MethodName := ⟨RX12, "readRest", "(II)V"⟩
abbrev cX12_readMention : ByteArray := prog_14_method_17_code
def yX12_readMention : MethodName := ⟨RX12, "readMention", "(I)V"⟩
abbrev cX12_readFact : ByteArray := prog_14_method_18_code
def yX12_readFact : MethodName := ⟨RX12, "readFact", "(II)V"⟩
abbrev cX12_readExhibit : ByteArray := prog_14_method_19_code
def yX12_readExhibit : MethodName := ⟨RX12, "readExhibit", "()V"⟩
abbrev cX12_kindOf : ByteArray := prog_14_method_20_code
def yX12_kindOf : MethodName := ⟨RX12, "kindOf", "(I)I"⟩
abbrev cX12_readLine : ByteArray := prog_14_method_21_code
def yX12_readLine : MethodName := ⟨RX12, "readLine", "(I)V"⟩
abbrev cX12_sitting : ByteArray := prog_14_method_22_code
def yX12_sitting : MethodName := ⟨RX12, "sitting", "(I)I"⟩
abbrev cX12_keepLine : ByteArray := prog_14_method_23_code
def yX12_keepLine : MethodName := ⟨RX12, "keepLine", "(I)V"⟩
abbrev cX12_fault : ByteArray := prog_14_method_24_code
def yX12_fault : MethodName := ⟨RX12, "fault", "()I"⟩
abbrev cX12_right : ByteArray := prog_14_method_25_code
def yX12_right : MethodName := ⟨RX12, "right", "(II)I"⟩
abbrev cX12_days : ByteArray := prog_14_method_26_code
def yX12_days : MethodName := ⟨RX12, "days", "(I)I"⟩
abbrev cX12_restOn : ByteArray := prog_14_method_27_code
def yX12_restOn : MethodName := ⟨RX12, "restOn", "(II)I"⟩
abbrev cX12_answered : ByteArray := prog_14_method_28_code
def yX12_answered : MethodName := ⟨RX12, "answered", "(I)I"⟩
abbrev cX12_about : ByteArray := prog_14_method_29_code
def yX12_about : MethodName := ⟨RX12, "about", "(II)I"⟩
abbrev cX12_cited : ByteArray := prog_14_method_30_code
def yX12_cited : MethodName := ⟨RX12, "cited", "(II)I"⟩
abbrev cX12_isFact : ByteArray := prog_14_method_31_code
def yX12_isFact : MethodName := ⟨RX12, "isFact", "(I)Z"⟩
abbrev cX12_fact : ByteArray := prog_14_method_32_code
def yX12_fact : MethodName := ⟨RX12, "fact", "(II)I"⟩
abbrev cX12_isStruck : ByteArray := prog_14_method_33_code
def yX12_isStruck : MethodName := ⟨RX12, "isStruck", "(II)Z"⟩
abbrev cX12_isOn : ByteArray := prog_14_method_34_code
def yX12_isOn : MethodName := ⟨RX12, "isOn", "(III)Z"⟩
abbrev cX12_level : ByteArray := prog_14_method_35_code
def yX12_level : MethodName := ⟨RX12, "level", "(II)I"⟩
abbrev cX12_standsOn : ByteArray := prog_14_method_36_code
def yX12_standsOn : MethodName := ⟨RX12, "standsOn", "(II)I"⟩
abbrev cX12_stands : ByteArray := prog_14_method_37_code
def yX12_stands : MethodName := ⟨RX12, "stands", "(II)I"⟩
abbrev cX12_doQuarrel : ByteArray := prog_14_method_38_code
def yX12_doQuarrel : MethodName := ⟨RX12, "doQuarrel", "(III)Z"⟩
abbrev cX12_quarrels : ByteArray := prog_14_method_39_code
def yX12_quarrels : MethodName := ⟨RX12, "quarrels", "(I)I"⟩
abbrev cX12_quarrel : ByteArray := prog_14_method_40_code
def yX12_quarrel : MethodName := ⟨RX12, "quarrel", "(III)I"⟩
abbrev cX12_mention : ByteArray := prog_14_method_41_code
def yX12_mention : MethodName := ⟨RX12, "mention", "(II)I"⟩
abbrev cX12_say : ByteArray := prog_14_method_42_code
def yX12_say : MethodName := ⟨RX12, "say", "(I)V"⟩
abbrev cX12_name_ : ByteArray := prog_14_method_43_code
def yX12_name_ : MethodName := ⟨RX12, "name", "(II)I"⟩
abbrev cX12_order : ByteArray := prog_14_method_44_code
def yX12_order : MethodName := ⟨RX12, "order", "(III)I"⟩
abbrev cX12_lift : ByteArray := prog_14_method_45_code
def yX12_lift : MethodName := ⟨RX12, "lift", "(I)Z"⟩
abbrev cX12_status : ByteArray := prog_14_method_46_code
def yX12_status : MethodName := ⟨RX12, "status", "(III)I"⟩
abbrev cX12_sayHidden : ByteArray := prog_14_method_47_code
def yX12_sayHidden : MethodName := ⟨RX12, "sayHidden", "(Z)V"⟩
abbrev cX12_read : ByteArray := prog_14_method_48_code
def yX12_read : MethodName := ⟨RX12, "read", "(IIII)I"⟩
abbrev cX12_bytes : ByteArray := prog_14_method_49_code
def yX12_bytes : MethodName := ⟨RX12, "bytes", "()I"⟩
abbrev cX12_told : ByteArray := prog_14_method_50_code
def yX12_told : MethodName := ⟨RX12, "told", "(I)I"⟩
abbrev cX12_digest : ByteArray := prog_14_method_51_code
def yX12_digest : MethodName := ⟨RX12, "digest", "(III)I"⟩
abbrev cX12_cite : ByteArray := prog_14_method_52_code
def yX12_cite : MethodName := ⟨RX12, "cite", "(II)I"⟩
abbrev cX12_shown : ByteArray := prog_14_method_53_code
def yX12_shown : MethodName := ⟨RX12, "shown", "(II)I"⟩
abbrev cX12_count : ByteArray := prog_14_method_54_code
def yX12_count : MethodName := ⟨RX12, "count", "(I)I"⟩
def RJ11 : String := "java/lang/Character"
def TJ11 : u_T := fun k => match k with
  | _ => ("", "", "", false)
def tyJ11 : Nat → FieldType := fun k => match k with
  | _ => .int
abbrev wsJ110 : List Cond := u_ws RJ11 TJ11 0
theorem nmJ11 : ∀ a, a < 0 → ∀ b, b < 0 → a ≠ b → (TJ11 a).2.1 ≠ (TJ11 b).2.1 := by decide +kernel
theorem tyJ11_ok : ∀ k, k < 0 → parseFieldDescriptor (TJ11 k).2.2.1 = some (tyJ11 k) := by decide +kernel
abbrev cJ11_isValidCodePoint_9a6ad : ByteArray := prog_15_method_11_code
def yJ11_isValidCodePoint_9a6ad : MethodName := ⟨RJ11, "isValidCodePoint", "(I)Z"⟩
abbrev cJ11_highSurrogate_5068e : ByteArray := prog_15_method_28_code
def yJ11_highSurrogate_5068e : MethodName := ⟨RJ11, "highSurrogate", "(I)C"⟩
abbrev cJ11_lowSurrogate_5068e : ByteArray := prog_15_method_29_code
def yJ11_lowSurrogate_5068e : MethodName := ⟨RJ11, "lowSurrogate", "(I)C"⟩
def RJx8e188 : String := "java/lang/Cloneable"
def TJx8e188 : u_T := fun k => match k with
  | _ => ("", "", "", false)
def tyJx8e188 : Nat → FieldType := fun k => match k with
  | _ => .int
abbrev wsJx8e1880 : List Cond := u_ws RJx8e188 TJx8e188 0
theorem nmJx8e188 : ∀ a, a < 0 → ∀ b, b < 0 → a ≠ b → (TJx8e188 a).2.1 ≠ (TJx8e188 b).2.1 := by decide +kernel
theorem tyJx8e188_ok : ∀ k, k < 0 → parseFieldDescriptor (TJx8e188 k).2.2.1 = some (tyJx8e188 k) := by decide +kernel
def RJ9 : String := "java/lang/Math"
def TJ9 : u_T := fun k => match k with
  | _ => ("", "", "", false)
def tyJ9 : Nat → FieldType := fun k => match k with
  | _ => .int
abbrev wsJ90 : List Cond := u_ws RJ9 TJ9 0
theorem nmJ9 : ∀ a, a < 0 → ∀ b, b < 0 → a ≠ b → (TJ9 a).2.1 ≠ (TJ9 b).2.1 := by decide +kernel
theorem tyJ9_ok : ∀ k, k < 0 → parseFieldDescriptor (TJ9 k).2.2.1 = some (tyJ9 k) := by decide +kernel
abbrev cJ9_max_7cf53 : ByteArray := prog_19_method_65_code
def yJ9_max_7cf53 : MethodName := ⟨RJ9, "max", "(II)I"⟩
abbrev cJ9_min_7cf53 : ByteArray := prog_19_method_69_code
def yJ9_min_7cf53 : MethodName := ⟨RJ9, "min", "(II)I"⟩
def RJ0 : String := "java/lang/String"
def TJ0 : u_T := fun k => match k with
  | _ => ("", "", "", false)
def tyJ0 : Nat → FieldType := fun k => match k with
  | _ => .int
abbrev wsJ00 : List Cond := u_ws RJ0 TJ0 0
theorem nmJ0 : ∀ a, a < 0 → ∀ b, b < 0 → a ≠ b → (TJ0 a).2.1 ≠ (TJ0 b).2.1 := by decide +kernel
theorem tyJ0_ok : ∀ k, k < 0 → parseFieldDescriptor (TJ0 k).2.2.1 = some (tyJ0 k) := by decide +kernel
abbrev cJ0_length_8abf5 : ByteArray := prog_21_method_54_code
def yJ0_length_8abf5 : MethodName := ⟨RJ0, "length", "()I"⟩
abbrev cJ0_charAt_5068e : ByteArray := prog_21_method_56_code
def yJ0_charAt_5068e : MethodName := ⟨RJ0, "charAt", "(I)C"⟩
abbrev cJ0_indexOf_0f7a4 : ByteArray := prog_21_method_79_code
def yJ0_indexOf_0f7a4 : MethodName := ⟨RJ0, "indexOf", "(I)I"⟩
abbrev cJ0_indexOf_7cf53 : ByteArray := prog_21_method_80_code
def yJ0_indexOf_7cf53 : MethodName := ⟨RJ0, "indexOf", "(II)I"⟩
abbrev cJ0_coder_7d493 : ByteArray := prog_21_method_152_code
def yJ0_coder_7d493 : MethodName := ⟨RJ0, "coder", "()B"⟩
abbrev cJ0_isLatin1_aae02 : ByteArray := prog_21_method_154_code
def yJ0_isLatin1_aae02 : MethodName := ⟨RJ0, "isLatin1", "()Z"⟩
abbrev cJ0_checkIndex_df160 : ByteArray := prog_21_method_155_code
def yJ0_checkIndex_df160 : MethodName := ⟨RJ0, "checkIndex", "(II)V"⟩
abbrev cJ0_checkBoundsBeginEnd_23922 : ByteArray := prog_21_method_158_code
def yJ0_checkBoundsBeginEnd_23922 : MethodName := ⟨RJ0, "checkBoundsBeginEnd", "(III)V"⟩
def RJ1 : String := "java/lang/StringLatin1"
def TJ1 : u_T := fun k => match k with
  | _ => ("", "", "", false)
def tyJ1 : Nat → FieldType := fun k => match k with
  | _ => .int
abbrev wsJ10 : List Cond := u_ws RJ1 TJ1 0
theorem nmJ1 : ∀ a, a < 0 → ∀ b, b < 0 → a ≠ b → (TJ1 a).2.1 ≠ (TJ1 b).2.1 := by decide +kernel
theorem tyJ1_ok : ∀ k, k < 0 → parseFieldDescriptor (TJ1 k).2.2.1 = some (tyJ1 k) := by decide +kernel
abbrev cJ1_charAt_3b067 : ByteArray := prog_22_method_2_code
def yJ1_charAt_3b067 : MethodName := ⟨RJ1, "charAt", "([BI)C"⟩
abbrev cJ1_canEncode_9a6ad : ByteArray := prog_22_method_4_code
def yJ1_canEncode_9a6ad : MethodName := ⟨RJ1, "canEncode", "(I)Z"⟩
abbrev cJ1_indexOf_4cfef : ByteArray := prog_22_method_22_code
def yJ1_indexOf_4cfef : MethodName := ⟨RJ1, "indexOf", "([BIII)I"⟩
abbrev cJ1_indexOfChar_4cfef : ByteArray := prog_22_method_23_code
def yJ1_indexOfChar_4cfef : MethodName := ⟨RJ1, "indexOfChar", "([BIII)I"⟩
def RJ2 : String := "java/lang/StringUTF16"
def TJ2 : u_T := fun k => match k with
  | _ => ("", "", "", false)
def tyJ2 : Nat → FieldType := fun k => match k with
  | _ => .int
abbrev wsJ20 : List Cond := u_ws RJ2 TJ2 0
theorem nmJ2 : ∀ a, a < 0 → ∀ b, b < 0 → a ≠ b → (TJ2 a).2.1 ≠ (TJ2 b).2.1 := by decide +kernel
theorem tyJ2_ok : ∀ k, k < 0 → parseFieldDescriptor (TJ2 k).2.2.1 = some (tyJ2 k) := by decide +kernel
abbrev cJ2_getChar_3b067 : ByteArray := prog_23_method_5_code
def yJ2_getChar_3b067 : MethodName := ⟨RJ2, "getChar", "([BI)C"⟩
abbrev cJ2_length_9d52b : ByteArray := prog_23_method_6_code
def yJ2_length_9d52b : MethodName := ⟨RJ2, "length", "([B)I"⟩
abbrev cJ2_indexOf_4cfef : ByteArray := prog_23_method_40_code
def yJ2_indexOf_4cfef : MethodName := ⟨RJ2, "indexOf", "([BIII)I"⟩
abbrev cJ2_indexOfChar_4cfef : ByteArray := prog_23_method_47_code
def yJ2_indexOfChar_4cfef : MethodName := ⟨RJ2, "indexOfChar", "([BIII)I"⟩
abbrev cJ2_indexOfCharUnsafe_4cfef : ByteArray := prog_23_method_48_code
def yJ2_indexOfCharUnsafe_4cfef : MethodName := ⟨RJ2, "indexOfCharUnsafe", "([BIII)I"⟩
abbrev cJ2_indexOfSupplementary_4cfef : ByteArray := prog_23_method_49_code
def yJ2_indexOfSupplementary_4cfef : MethodName := ⟨RJ2, "indexOfSupplementary", "([BIII)I"⟩
abbrev cJ2_charAt_3b067 : ByteArray := prog_23_method_83_code
def yJ2_charAt_3b067 : MethodName := ⟨RJ2, "charAt", "([BI)C"⟩
abbrev cJ2_checkIndex_2214a : ByteArray := prog_23_method_91_code
def yJ2_checkIndex_2214a : MethodName := ⟨RJ2, "checkIndex", "(I[B)V"⟩
abbrev cJ2_checkBoundsBeginEnd_d044e : ByteArray := prog_23_method_93_code
def yJ2_checkBoundsBeginEnd_d044e : MethodName := ⟨RJ2, "checkBoundsBeginEnd", "(II[B)V"⟩
def RJ10 : String := "java/lang/System"
def TJ10 : u_T := fun k => match k with
  | _ => ("", "", "", false)
def tyJ10 : Nat → FieldType := fun k => match k with
  | _ => .int
abbrev wsJ100 : List Cond := u_ws RJ10 TJ10 0
theorem nmJ10 : ∀ a, a < 0 → ∀ b, b < 0 → a ≠ b → (TJ10 a).2.1 ≠ (TJ10 b).2.1 := by decide +kernel
theorem tyJ10_ok : ∀ k, k < 0 → parseFieldDescriptor (TJ10 k).2.2.1 = some (tyJ10 k) := by decide +kernel
def RJ7 : String := "java/util/Arrays"
def TJ7 : u_T := fun k => match k with
  | _ => ("", "", "", false)
def tyJ7 : Nat → FieldType := fun k => match k with
  | _ => .int
abbrev wsJ70 : List Cond := u_ws RJ7 TJ7 0
theorem nmJ7 : ∀ a, a < 0 → ∀ b, b < 0 → a ≠ b → (TJ7 a).2.1 ≠ (TJ7 b).2.1 := by decide +kernel
theorem tyJ7_ok : ∀ k, k < 0 → parseFieldDescriptor (TJ7 k).2.2.1 = some (tyJ7 k) := by decide +kernel
abbrev cJ7_copyOf_9075b : ByteArray := prog_26_method_121_code
def yJ7_copyOf_9075b : MethodName := ⟨RJ7, "copyOf", "([BI)[B"⟩
def RJ3 : String := "jdk/internal/util/Preconditions"
def TJ3 : u_T := fun k => match k with
  | _ => ("", "", "", false)
def tyJ3 : Nat → FieldType := fun k => match k with
  | _ => .int
abbrev wsJ30 : List Cond := u_ws RJ3 TJ3 0
theorem nmJ3 : ∀ a, a < 0 → ∀ b, b < 0 → a ≠ b → (TJ3 a).2.1 ≠ (TJ3 b).2.1 := by decide +kernel
theorem tyJ3_ok : ∀ k, k < 0 → parseFieldDescriptor (TJ3 k).2.2.1 = some (tyJ3 k) := by decide +kernel
abbrev cJ3_checkIndex_8e157 : ByteArray := prog_28_method_11_code
def yJ3_checkIndex_8e157 : MethodName := ⟨RJ3, "checkIndex", "(IILjava/util/function/BiFunction;)I"⟩
abbrev cJ3_checkFromToIndex_8c36e : ByteArray := prog_28_method_12_code
def yJ3_checkFromToIndex_8c36e : MethodName := ⟨RJ3, "checkFromToIndex", "(IIILjava/util/function/BiFunction;)I"⟩
def RL : String := "TestimonyBookLaw"
abbrev cL_sitting : ByteArray := method_3_code
def yL_sitting : MethodName := ⟨RL, "sitting", "(LTestimonyBook;I[J)I"⟩
abbrev cL_right : ByteArray := method_4_code
def yL_right : MethodName := ⟨RL, "right", "(LTestimonyBook;II[J)I"⟩
abbrev cL_days : ByteArray := method_5_code
def yL_days : MethodName := ⟨RL, "days", "(LTestimonyBook;I[J)I"⟩
abbrev cL_about : ByteArray := method_6_code
def yL_about : MethodName := ⟨RL, "about", "(LTestimonyBook;II[J)I"⟩
abbrev cL_fact : ByteArray := method_7_code
def yL_fact : MethodName := ⟨RL, "fact", "(LTestimonyBook;II[J)I"⟩
abbrev cL_stands : ByteArray := method_8_code
def yL_stands : MethodName := ⟨RL, "stands", "(LTestimonyBook;II[J)I"⟩
abbrev cL_quarrel : ByteArray := method_9_code
def yL_quarrel : MethodName := ⟨RL, "quarrel", "(LTestimonyBook;III[J)I"⟩
abbrev cL_mention : ByteArray := method_10_code
def yL_mention : MethodName := ⟨RL, "mention", "(LTestimonyBook;II[J)I"⟩
abbrev cL_name : ByteArray := method_11_code
def yL_name : MethodName := ⟨RL, "name", "(LTestimonyBook;II[J)I"⟩
abbrev cL_order : ByteArray := method_12_code
def yL_order : MethodName := ⟨RL, "order", "(LTestimonyBook;III[J)I"⟩
abbrev cL_lift : ByteArray := method_13_code
def yL_lift : MethodName := ⟨RL, "lift", "(LTestimonyBook;I[J)I"⟩
abbrev cL_status : ByteArray := method_14_code
def yL_status : MethodName := ⟨RL, "status", "(LTestimonyBook;III[J)I"⟩
abbrev cL_read : ByteArray := method_15_code
def yL_read : MethodName := ⟨RL, "read", "(LTestimonyBook;IIII[J)I"⟩
abbrev cL_told : ByteArray := method_16_code
def yL_told : MethodName := ⟨RL, "told", "(LTestimonyBook;I[J)I"⟩
abbrev cL_cite : ByteArray := method_17_code
def yL_cite : MethodName := ⟨RL, "cite", "(LTestimonyBook;II[J)I"⟩
abbrev cL_shown : ByteArray := method_18_code
def yL_shown : MethodName := ⟨RL, "shown", "(LTestimonyBook;II[J)I"⟩
abbrev cL_count : ByteArray := method_19_code
def yL_count : MethodName := ⟨RL, "count", "(LTestimonyBook;I[J)I"⟩
abbrev cL_law : ByteArray := code
def yL_law : MethodName := ⟨RL, "law", "([I)Z"⟩abbrev vwCl : List vw_C := [(RX0, TX0, 8), (RX1, TX1, 4), (RX2, TX2, 8), (RX3, TX3, 9), (RX4, TX4, 9), (RX5, TX5, 5), (RX6, TX6, 6), (RX7, TX7, 8), (RX8, TX8, 9), (RX10, TX10, 13), (RX11, TX11, 14), (RX12, TX12, 54)]
end
section
/-! A SMALL MACHINE OVER THE MACHINE: mm_P g d M pc ls st h Post: a frame of the method M that stands at pc with locals ls and operands st over the small heap h comes to its end, and Post holds of its end and of the small heap then. The cells of the small heap are the cells made since the base, in their order; the reference k + 64 is the k-th of them, one below 64 lies outside. -/
def mm_okw : Cond → Bool
  | .castable .. => true
  | .declares .. => true
  | w => goodWord w
def mm_tb : List Cond := lw_tbl.filter mm_okw
theorem mm_word {args a' : Array Value} {s U : State} {w : Cond} (hW : s.WarmedH U.vm) (hw : mm_okw w = true) (h : w.before args s = true) : w.before a' U = true := by
  cases w with
  | castable C T => exact va_Nw.use rfl (va_Nw.warmC hW (va_Nw.of rfl h))
  | declares x => exact va_Nw.use rfl (va_Nw.warmD hW (va_Nw.of rfl h))
  | _ => exact word_at hW (good_of_word hw) h
theorem mm_words {args a' : Array Value} {s U : State} (hW : s.WarmedH U.vm) (h : ∀ w ∈ mm_tb, w.before args s = true) : ∀ w ∈ mm_tb, w.before a' U = true := fun w hw => mm_word hW (List.mem_filter.mp hw).2 (h w hw)
abbrev mm_Hp : Type := (Nat → va_E) × Nat × Nat
/-- a method: its name, bytes, locals, what it returns, its handlers -/
abbrev mm_Me : Type := MethodName × ByteArray × Nat × Option FieldType × List (Nat × Nat × Nat × Nat)
abbrev mm_Ou : Type := Option Value ⊕ String
/-- launch, base, class numbers and slots, array classes, foreign addresses, the script's length, the script, a static that is passed on unread -/
abbrev mm_G : Type := Launch × Nat × va_G × (Nat → ClassId) × (Nat → Nat) × Nat × (Nat → Int32) × Option Nat
abbrev mm_l (g : mm_G) : Launch := g.1
abbrev mm_B (g : mm_G) : Nat := g.2.1
abbrev mm_K (g : mm_G) : va_G := g.2.2.1
abbrev mm_tC (g : mm_G) : Nat → ClassId := g.2.2.2.1
abbrev mm_fa (g : mm_G) : Nat → Nat := g.2.2.2.2.1
abbrev mm_sL (g : mm_G) : Nat := g.2.2.2.2.2.1
abbrev mm_sX (g : mm_G) : Nat → Int32 := g.2.2.2.2.2.2.1
abbrev mm_fo (g : mm_G) : Option Nat := g.2.2.2.2.2.2.2
def mm_ad (g : mm_G) (k : Nat) : Nat := if k < 64 then mm_fa g k else mm_B g + (k - 64)
def mm_v (g : mm_G) (v : Value) : Value := match v with
  | .ref k => .ref (mm_ad g k)
  | .float _ => va_rf (mm_fo g)
  | v => v
theorem mm_v_cat (g : mm_G) (v : Value) : (mm_v g v).category = v.category := by
  cases v with
  | float x =>
    show (va_rf (mm_fo g)).category = 1
    cases mm_fo g <;> rfl
  | _ => rfl
def mm_c (g : mm_G) (x : va_E) : va_E := match x with
  | .inl a => .inl (mm_tC g a.1, a.2)
  | .inr o => .inr (o.1, o.2.map (mm_v g))
def mm_ws (g : mm_G) (w : Nat → va_E) (n : Nat) : va_W := (List.range n).map fun k => (mm_B g + k, mm_c g (w (k + 64)))
abbrev mm_A (g : mm_G) : Nat → Prop := fun q => mm_B g ≤ q
def mm_TE : u_T := fun _ => ("", "", "", false)
abbrev mm_cl : List vw_C := vwCl ++ [("java/util/NoSuchElementException", mm_TE, 0), ("java/lang/IllegalArgumentException", mm_TE, 0)]
abbrev mm_ty (g : mm_G) : List (ClassId × FieldType) := [(mm_tC g 0, .int), (mm_tC g 1, .byte), (mm_tC g 2, .long)]
theorem mm_ws_at {g : mm_G} {w : Nat → va_E} {n k : Nat} (hk : k < n) : (mm_ws g w n)[k]? = some (mm_B g + k, mm_c g (w (k + 64))) := by
  simp [mm_ws, hk]
theorem mm_ws_out {g : mm_G} {w : Nat → va_E} {n k : Nat} (hk : n ≤ k) : (mm_ws g w n)[k]? = none := by
  simp [mm_ws, hk]
theorem mm_ws_in {g : mm_G} {w : Nat → va_E} {n k : Nat} {q : Nat × va_E} (h : (mm_ws g w n)[k]? = some q) : k < n ∧ q = (mm_B g + k, mm_c g (w (k + 64))) := by
  rcases Nat.lt_or_ge k n with hk | hk
  · rw [mm_ws_at hk] at h
    exact ⟨hk, (Option.some.inj h).symm⟩
  · rw [mm_ws_out hk] at h
    cases h
theorem mm_ws_set {g : mm_G} {w : Nat → va_E} {n k : Nat} {x : va_E} (hk : k < n) : (mm_ws g w n).set k (mm_B g + k, mm_c g x) = mm_ws g (va_up w (k + 64) x) n := by
  apply List.ext_getElem?
  intro j
  rcases Nat.lt_or_ge j n with hj | hj
  · rw [mm_ws_at hj, List.getElem?_set]
    have hl : (mm_ws g w n).length = n := by simp [mm_ws]
    by_cases e : k = j
    · subst e
      simp [hl, hk, va_up]
    · rw [if_neg e, mm_ws_at hj, va_up, if_neg (by omega)]
  · rw [mm_ws_out hj, List.getElem?_set]
    have hl : (mm_ws g w n).length = n := by simp [mm_ws]
    by_cases e : k = j
    · omega
    · simp [e, mm_ws_out hj]
theorem mm_ws_push {g : mm_G} {w : Nat → va_E} {n : Nat} {x : va_E} : mm_ws g w n ++ [(mm_B g + n, mm_c g x)] = mm_ws g (va_up w (n + 64) x) (n + 1) := by
  apply List.ext_getElem?
  intro j
  have hl : (mm_ws g w n).length = n := by simp [mm_ws]
  rcases Nat.lt_trichotomy j n with hj | hj | hj
  · rw [List.getElem?_append_left (by omega), mm_ws_at hj, mm_ws_at (by omega)]
    rw [va_up, if_neg (by omega)]
  · subst hj
    rw [List.getElem?_append_right (by omega), mm_ws_at (by omega), hl]
    simp [va_up]
  · rw [List.getElem?_append_right (by omega), mm_ws_out (by omega), hl]
    have : j - n ≠ 0 := by omega
    cases hz : j - n with
    | zero => omega
    | succ z => simp
theorem mm_D (g : mm_G) (w : Nat → va_E) (n : Nat) : va_D (mm_A g) (mm_ws g w n) := by
  refine ⟨fun i j p q hi hj h => ?_, fun k q h => ?_⟩
  · obtain ⟨h1, rfl⟩ := mm_ws_in hi
    obtain ⟨h2, rfl⟩ := mm_ws_in hj
    simp only at h
    omega
  · obtain ⟨h1, rfl⟩ := mm_ws_in h
    exact Nat.le_add_right _ _
def mm_H (g : mm_G) (h : mm_Hp) (H : Heap) : Prop := H.size = mm_B g + h.2.1 ∧ va_P (mm_K g) mm_cl (mm_ws g h.1 h.2.1) H
def mm_L (g : mm_G) (LS : Array Slot) (ls : List (Option Value)) : Prop := LS.size = ls.length ∧ lv_wf LS ∧ ∀ (i : Nat) (v : Value), ls[i]? = some (some v) → LS[i]? = some (.val (mm_v g v))
/-- the String constants: the class and the entry that names one, its text, its foreign number -/
def mm_sts : List (String × Nat × String × Nat) := [("TestimonyBook", 138, "no such day", 4), ("TestimonyBook", 163, "no such what", 5), ("TestimonyBook", 244, "no such level", 6), ("TestimonyBook", 272, "there is none", 7), ("TestimonyBook", 274, "not so many bytes", 8), ("TestimonyBook", 276, "- struck", 2), ("TestimonyBook", 282, "- sealed", 3), ("TestimonyBook", 284, "QAYN !", 1), ("TestimonyBook$Scribe", 124, "QAYN !", 1), ("TestimonyBookModel", 277, "- struck", 2), ("TestimonyBookModel", 279, "- sealed", 3)]
/-- the bytes of the first three -/
def mm_sb (i : Nat) : List Int32 := match i with
  | 1 => [81, 65, 89, 78, 32, 33]
  | 2 => [45, 32, 115, 116, 114, 117, 99, 107]
  | _ => [45, 32, 115, 101, 97, 108, 101, 100]
/-- what lies outside of the small heap and is read: the script; the two statics of Throwable; the String constants -/
def mm_F (g : mm_G) (U : State) (H : Heap) : Prop :=
  va_X (mm_fa g 0) (mm_sL g) (mm_sX g) U H ∧ mm_fa g 0 < mm_B g ∧
  vx_Zq Bundle.tN "UNASSIGNED_STACK" Bundle.steD (mm_A g) U H ∧ vx_Zq Bundle.tN "SUPPRESSED_SENTINEL" Bundle.listD (mm_A g) U H ∧
  (∀ q ∈ mm_sts, vk_R q.1 q.2.1 q.2.2.1 (mm_fa g q.2.2.2) U) ∧ va_Nc "java/lang/IllegalArgumentException" "java/util/NoSuchElementException" U ∧
  (∀ i : Nat, 1 ≤ i → i ≤ 3 → va_O "java/lang/String" (mm_fa g i) (mm_A g) U H ∧ va_OF "java/lang/String" "coder" "B" (.int 0) (mm_fa g i) (mm_A g) U H ∧ va_OF "java/lang/String" "value" "[B" (.ref (mm_fa g (i + 8))) (mm_fa g i) (mm_A g) U H ∧ va_T .byte (mm_fa g (i + 8)) (mm_sb i).length (fun j => .int ((mm_sb i).getD j 0)) (mm_A g) U H) ∧
  va_Z "java/lang/String" "COMPACT_STRINGS" "Z" (.int 1) (mm_A g) U H ∧ va_Z "jdk/internal/util/Preconditions" "SIOOBE_FORMATTER" "Ljava/util/function/BiFunction;" (va_rf (mm_fo g)) (mm_A g) U H
theorem mm_F.moved {g : mm_G} {u U : State} {H : Heap} (hW : u.WarmedH U.vm) (h : mm_F g u H) : mm_F g U H := by
  obtain ⟨h1, h2, h3, h4, h5, h6, h7, h8, h9⟩ := h
  have hvm := hW.alike
  exact ⟨va_X.moved hvm h1, h2, vx_Zq.moved hvm h3, vx_Zq.moved hvm h4, fun q hq => vk_R.warm hW (h5 q hq), va_Nc.moved hvm h6, fun i i1 i2 => ⟨va_O.moved hvm (h7 i i1 i2).1, va_OF.moved hvm (h7 i i1 i2).2.1, va_OF.moved hvm (h7 i i1 i2).2.2.1, va_T.moved hvm (h7 i i1 i2).2.2.2⟩, va_Z.moved hvm h8, va_Z.moved hvm h9⟩
theorem mm_F.kept {g : mm_G} {U : State} {H H1 : Heap} (h : mm_F g U H) (hq : ∀ a : Nat, a < H.size → ¬ mm_A g a → H1[a]? = H[a]?) : mm_F g U H1 := by
  obtain ⟨h1, h2, h3, h4, h5, h6, h7, h8, h9⟩ := h
  refine ⟨?_, h2, h3.kept hq, h4.kept hq, h5, h6, fun i i1 i2 => ⟨(h7 i i1 i2).1.kept hq, (h7 i i1 i2).2.1.kept hq, (h7 i i1 i2).2.2.1.kept hq, (h7 i i1 i2).2.2.2.kept hq⟩, h8.kept hq, h9.kept hq⟩
  obtain ⟨scr, q1, q2⟩ := h1
  have hl : mm_fa g 0 < H.size := (Array.getElem?_eq_some_iff.mp q1).1
  exact ⟨scr, by rw [hq _ hl (fun z => absurd (show mm_B g ≤ mm_fa g 0 from z) (by omega))]; exact q1, q2⟩
def mm_C (g : mm_G) (M : mm_Me) (p : Program) (s : State) (m : MethodId) (args : Array Value) (meth : Method) (c : Code) : Prop :=
  p.tables.exec = Jvm.exec ∧ c.code = M.2.1 ∧ meth.sig.returnType = M.2.2.2.1 ∧ c.maxLocals = M.2.2.1 ∧ s.vm.findClass M.1.cls = some m.cls ∧ meth.locks = false ∧ meth.name = M.1.name ∧ (∀ w ∈ mm_tb, w.before args s = true) ∧
  va_K (mm_K g) mm_cl (mm_ty g) s ∧ mm_F g s s.heap ∧ (mm_l g).stackTraces = false ∧ c.exceptionTable.toList = tableOf M.2.2.2.2
def mm_X (g : mm_G) (d : Nat) (M : mm_Me) (h h' : mm_Hp) (ls : List (Option Value)) (p : Program) (R : Room) (s : State) (m : MethodId) (args : Array Value) (meth : Method) (c : Code) (H : Heap) (locs : List Loc) (cells slots : Nat) (LS : Array Slot) : Prop :=
  mm_C g M p s m args meth c ∧ (d ≤ R.frames ∧ 40 * d ≤ R.locals) ∧ (mm_B g ≤ s.heap.size ∧ s.heap.size + cells = mm_B g + h.2.1) ∧ (cells + (h'.2.1 - h.2.1) ≤ R.cells ∧ slots + (h'.2.2 - h.2.2) ≤ R.slots) ∧ mm_H g h H ∧ va_S (mm_A g) s.heap H locs ∧ mm_L g LS ls
def mm_Qc (g : mm_G) (o : mm_Ou) (h' : mm_Hp) : Array Value → State → Outcome → State → Prop := fun _ st oc t =>
  ∃ v, o = .inl v ∧ oc = .returned (v.map (mm_v g)) ∧ mm_H g h' t.heap ∧ ∀ q : Nat, q < mm_B g → t.heap[q]? = st.heap[q]?
def mm_Qx (g : mm_G) (o : mm_Ou) (h' : mm_Hp) : String → State → State → Prop := fun E st t => o = .inr E ∧ mm_H g h' t.heap ∧ ∀ q : Nat, q < mm_B g → t.heap[q]? = st.heap[q]?
def mm_Q (g : mm_G) (below : List Frame) (args : Array Value) (s : State) (o : mm_Ou) (h' : mm_Hp) (mc ms : Nat) : State → Prop := vx_MQ below (mm_Qc g o h') (mm_Qx g o h') args s mc ms (mm_A g)
def mm_E (g : mm_G) (d : Nat) (M : mm_Me) (pc : Nat) (ls : List (Option Value)) (st : List Value) (h : mm_Hp) (o : mm_Ou) (h' : mm_Hp) : Prop :=
  h.2.1 ≤ h'.2.1 ∧ h.2.2 ≤ h'.2.2 ∧ ∀ (p : Program) (e : Env) (R : Room) (s : State) (m : MethodId) (args : Array Value) (below : List Frame) (meth : Method) (c : Code) (H : Heap) (locs : List Loc) (cells slots : Nat) (LS : Array Slot),
    mm_X g d M h h' ls p R s m args meth c H locs cells slots LS → W p (mm_l g) e R s m args below meth c H locs cells slots (mm_Q g below args s o h' (cells + (h'.2.1 - h.2.1)) (slots + (h'.2.2 - h.2.2))) (F0 m pc LS (st.map (mm_v g)))
def mm_P (g : mm_G) (d : Nat) (M : mm_Me) (pc : Nat) (ls : List (Option Value)) (st : List Value) (h : mm_Hp) (Post : mm_Ou → mm_Hp → Prop) : Prop := ∃ o h', Post o h' ∧ mm_E g d M pc ls st h o h'
/-- a step that leaves the heap -/
theorem mm_same {g : mm_G} {d : Nat} {M : mm_Me} {pc pc' : Nat} {ls ls' : List (Option Value)} {st st' : List Value} {h : mm_Hp} {Post : mm_Ou → mm_Hp → Prop}
    (hk : ∀ (h' : mm_Hp) (p : Program) (e : Env) (R : Room) (s : State) (m : MethodId) (args : Array Value) (below : List Frame) (meth : Method) (c : Code) (H : Heap) (locs : List Loc) (cells slots : Nat) (LS : Array Slot) (Q : State → Prop),
      mm_X g d M h h' ls p R s m args meth c H locs cells slots LS → p.tables.exec = Jvm.exec → c.code = M.2.1 → mm_L g LS ls → (∀ LS', mm_L g LS' ls' → W p (mm_l g) e R s m args below meth c H locs cells slots Q (F0 m pc' LS' (st'.map (mm_v g)))) → W p (mm_l g) e R s m args below meth c H locs cells slots Q (F0 m pc LS (st.map (mm_v g))))
    (k : mm_P g d M pc' ls' st' h Post) : mm_P g d M pc ls st h Post := by
  obtain ⟨o, h', hp, k1, k2, k⟩ := k
  refine ⟨o, h', hp, k1, k2, fun p e R s m args below meth c H locs cells slots LS X => ?_⟩
  exact hk h' p e R s m args below meth c H locs cells slots LS _ X X.1.1 X.1.2.1 X.2.2.2.2.2.2 (fun LS' hL => k p e R s m args below meth c H locs cells slots LS' ⟨X.1, X.2.1, X.2.2.1, X.2.2.2.1, X.2.2.2.2.1, X.2.2.2.2.2.1, hL⟩)
theorem mm_cons {g : mm_G} {d : Nat} {M : mm_Me} {pc : Nat} {ls : List (Option Value)} {st : List Value} {h : mm_Hp} {Post Post' : mm_Ou → mm_Hp → Prop} (k : mm_P g d M pc ls st h Post) (hp : ∀ o h', Post o h' → Post' o h') : mm_P g d M pc ls st h Post' := by
  obtain ⟨o, h', h1, h2⟩ := k
  exact ⟨o, h', hp _ _ h1, h2⟩
theorem mm_deep {g : mm_G} {d d' : Nat} {M : mm_Me} {pc : Nat} {ls : List (Option Value)} {st : List Value} {h : mm_Hp} {Post : mm_Ou → mm_Hp → Prop} (k : mm_P g d M pc ls st h Post) (hd : d ≤ d') : mm_P g d' M pc ls st h Post := by
  obtain ⟨o, h', h1, h2, h3, h4⟩ := k
  refine ⟨o, h', h1, h2, h3, fun p e R s m args below meth c H locs cells slots LS X => ?_⟩
  exact h4 p e R s m args below meth c H locs cells slots LS ⟨X.1, ⟨Nat.le_trans hd X.2.1.1, Nat.le_trans (Nat.mul_le_mul_left 40 hd) X.2.1.2⟩, X.2.2⟩
end
section
def mm_kl (ls : List (Option Value)) (i : Nat) : List (Option Value) := match i with
  | 0 => ls
  | j + 1 => match ls[j]? with
    | some (some v) => if v.category = 2 then ls.set j none else ls
    | _ => ls
def mm_st1 (ls : List (Option Value)) (i : Nat) (v : Value) : List (Option Value) := (mm_kl ls i).set i (some v)
def mm_st2 (ls : List (Option Value)) (i : Nat) (v : Value) : List (Option Value) := ((mm_kl ls i).set i (some v)).set (i + 1) none
theorem mm_kl_len (ls : List (Option Value)) (i : Nat) : (mm_kl ls i).length = ls.length := by
  cases i with
  | zero => rfl
  | succ j =>
    simp only [mm_kl]
    split
    · split <;> simp
    · rfl
theorem mm_kl_at {ls : List (Option Value)} {i j : Nat} {v : Value} (h : (mm_kl ls i)[j]? = some (some v)) : ls[j]? = some (some v) ∧ ¬ (j + 1 = i ∧ v.category = 2) := by
  cases i with
  | zero => exact ⟨h, by omega⟩
  | succ k =>
    simp only [mm_kl] at h
    split at h
    · rename_i u hu
      split at h
      · rename_i hc
        rw [List.getElem?_set] at h
        by_cases e : k = j
        · subst e
          rw [if_pos rfl] at h
          split at h
          · cases h
          · cases h
        · rw [if_neg e] at h
          exact ⟨h, by omega⟩
      · rename_i hc
        refine ⟨h, fun z => ?_⟩
        have e : j = k := by omega
        subst e
        rw [hu] at h
        cases h
        exact hc z.2
    · rename_i hn
      refine ⟨h, fun z => ?_⟩
      have e : j = k := by omega
      subst e
      exact hn v h
def mm_al (g : mm_G) (ls : List (Option Value)) : List (Nat × Value) := (List.range ls.length).filterMap fun j => (ls[j]?).join.map fun u => (j, mm_v g u)
theorem mm_al_mem {g : mm_G} {ls : List (Option Value)} {q : Nat × Value} : q ∈ mm_al g ls ↔ ∃ u, ls[q.1]? = some (some u) ∧ q.2 = mm_v g u := by
  constructor
  · intro h
    obtain ⟨j, hj, hu⟩ := List.mem_filterMap.mp h
    cases hz : ls[j]? with
    | none => simp [hz] at hu
    | some z =>
      cases z with
      | none => simp [hz] at hu
      | some u =>
        simp [hz] at hu
        subst hu
        exact ⟨u, hz, rfl⟩
  · rintro ⟨u, h1, h2⟩
    refine List.mem_filterMap.mpr ⟨q.1, List.mem_range.mpr (List.getElem?_eq_some_iff.mp h1).1, ?_⟩
    obtain ⟨j, x⟩ := q
    simp only at h1 h2
    subst h2
    simp [h1]
theorem mm_L.has {g : mm_G} {LS : Array Slot} {ls : List (Option Value)} (hL : mm_L g LS ls) : lv_has LS ls.length (mm_al g ls) := by
  refine ⟨hL.1, hL.2.1, fun q hq => ?_⟩
  obtain ⟨u, h1, h2⟩ := mm_al_mem.mp hq
  rw [h2]
  exact hL.2.2 _ _ h1
theorem mm_L.st1 {g : mm_G} {LS : Array Slot} {ls : List (Option Value)} {i : Nat} {v v' : Value} (hv : mm_v g v = v') (hL : lv_has LS ls.length ((i, v') :: (mm_al g ls).filter (fun q => !(q.1 == i) && !(q.1 + 1 == i && q.2.category == 2)))) : mm_L g LS (mm_st1 ls i v) := by
  subst hv
  refine ⟨by rw [hL.1]; simp [mm_st1, mm_kl_len], hL.2.1, fun j u hj => ?_⟩
  simp only [mm_st1] at hj
  rw [List.getElem?_set] at hj
  by_cases e : i = j
  · subst e
    rw [if_pos rfl] at hj
    split at hj
    · cases hj
      exact hL.2.2 _ List.mem_cons_self
    · cases hj
  · rw [if_neg e] at hj
    obtain ⟨h1, h2⟩ := mm_kl_at hj
    refine hL.2.2 (j, mm_v g u) (List.mem_cons_of_mem _ (List.mem_filter.mpr ⟨mm_al_mem.mpr ⟨u, h1, rfl⟩, ?_⟩))
    have e' : ¬ j = i := fun z => e z.symm
    by_cases hc : j + 1 = i
    · have h3 : ¬ u.category = 2 := fun z => h2 ⟨hc, z⟩
      simp [e', hc, mm_v_cat, h3]
    · simp [e', hc]
theorem mm_L.st2 {g : mm_G} {LS : Array Slot} {ls : List (Option Value)} {i : Nat} {v v' : Value} (hv : mm_v g v = v') (hL : lv_has LS ls.length ((i, v') :: (mm_al g ls).filter (fun q => !(q.1 == i) && (!(q.1 == i + 1) && !(q.1 + 1 == i && q.2.category == 2))))) : mm_L g LS (mm_st2 ls i v) := by
  subst hv
  refine ⟨by rw [hL.1]; simp [mm_st2, mm_kl_len], hL.2.1, fun j u hj => ?_⟩
  simp only [mm_st2] at hj
  rw [List.getElem?_set] at hj
  by_cases e1 : i + 1 = j
  · subst e1
    rw [if_pos rfl] at hj
    split at hj
    · cases hj
    · cases hj
  · rw [if_neg e1, List.getElem?_set] at hj
    by_cases e : i = j
    · subst e
      rw [if_pos rfl] at hj
      split at hj
      · cases hj
        exact hL.2.2 _ List.mem_cons_self
      · cases hj
    · rw [if_neg e] at hj
      obtain ⟨h1, h2⟩ := mm_kl_at hj
      refine hL.2.2 (j, mm_v g u) (List.mem_cons_of_mem _ (List.mem_filter.mpr ⟨mm_al_mem.mpr ⟨u, h1, rfl⟩, ?_⟩))
      have e' : ¬ j = i := fun z => e z.symm
      have e1' : ¬ j = i + 1 := fun z => e1 z.symm
      by_cases hc : j + 1 = i
      · have h3 : ¬ u.category = 2 := fun z => h2 ⟨hc, z⟩
        simp [e', e1', hc, mm_v_cat, h3]
      · simp [e', e1', hc]
section MMR
variable {g : mm_G} {d : Nat} {M : mm_Me} {pc : Nat} {ls ls' : List (Option Value)} {st : List Value} {h : mm_Hp} {Post : mm_Ou → mm_Hp → Prop}
theorem mm_iconst {n : Int} {v : Int32} (hd : decode M.2.1 pc = .ok (.iconst n, 1)) (hv : Int32.ofInt n = v) (k : mm_P g d M (pc + 1) ls (.int v :: st) h Post) : mm_P g d M pc ls (st) h Post :=
  mm_same (fun h' p e R s m args below meth c H locs cells slots LS Q X hx hb hL kk => lv_iconst hx hb hd hv (kk LS hL)) k
theorem mm_bipush {n : Int} {v : Int32} (hd : decode M.2.1 pc = .ok (.bipush n, 2)) (hv : (Int8.ofInt n).toInt32 = v) (k : mm_P g d M (pc + 2) ls (.int v :: st) h Post) : mm_P g d M pc ls (st) h Post :=
  mm_same (fun h' p e R s m args below meth c H locs cells slots LS Q X hx hb hL kk => lv_bipush hx hb hd hv (kk LS hL)) k
theorem mm_sipush {n : Int} {v : Int32} (hd : decode M.2.1 pc = .ok (.sipush n, 3)) (hv : (Int16.ofInt n).toInt32 = v) (k : mm_P g d M (pc + 3) ls (.int v :: st) h Post) : mm_P g d M pc ls (st) h Post :=
  mm_same (fun h' p e R s m args below meth c H locs cells slots LS Q X hx hb hL kk => lv_sipush hx hb hd hv (kk LS hL)) k
theorem mm_lconst {n : Fin 2} {v : Int64} (hd : decode M.2.1 pc = .ok (.lconst n, 1)) (hv : Int64.ofNat (n : Nat) = v) (k : mm_P g d M (pc + 1) ls (.long v :: st) h Post) : mm_P g d M pc ls (st) h Post :=
  mm_same (fun h' p e R s m args below meth c H locs cells slots LS Q X hx hb hL kk => lv_lconst hx hb hd hv (kk LS hL)) k
theorem mm_ldc {i : Nat} {v : Int32} (hw : Cond.constant M.1.cls i v ∈ mm_tb) (hd : decode M.2.1 pc = .ok (.ldc i, 2)) (k : mm_P g d M (pc + 2) ls (.int v :: st) h Post) : mm_P g d M pc ls (st) h Post :=
  mm_same (fun h' p e R s m args below meth c H locs cells slots LS Q X hx hb hL kk => lv_ldc hx hb X.1.2.2.2.2.1 (X.1.2.2.2.2.2.2.2.1 _ hw) hd (kk LS hL)) k
theorem mm_ldcw {i : Nat} {v : Int32} (hw : Cond.constant M.1.cls i v ∈ mm_tb) (hd : decode M.2.1 pc = .ok (.ldc_w i, 3)) (k : mm_P g d M (pc + 3) ls (.int v :: st) h Post) : mm_P g d M pc ls (st) h Post :=
  mm_same (fun h' p e R s m args below meth c H locs cells slots LS Q X hx hb hL kk => lv_ldcw hx hb X.1.2.2.2.2.1 (X.1.2.2.2.2.2.2.2.1 _ hw) hd (kk LS hL)) k
theorem mm_ldc2 {i : Nat} {v : Int64} (hw : Cond.constantLong M.1.cls i v ∈ mm_tb) (hd : decode M.2.1 pc = .ok (.ldc2_w i, 3)) (k : mm_P g d M (pc + 3) ls (.long v :: st) h Post) : mm_P g d M pc ls (st) h Post :=
  mm_same (fun h' p e R s m args below meth c H locs cells slots LS Q X hx hb hL kk => lv_ldc2 hx hb X.1.2.2.2.2.1 (X.1.2.2.2.2.2.2.2.1 _ hw) hd (kk LS hL)) k
theorem mm_iload_n {k : Fin 4} {x : Int32} (hd : decode M.2.1 pc = .ok (.iload_n k, 1)) (hl : ls[(k : Nat)]? = some (some (.int x))) (k : mm_P g d M (pc + 1) ls (.int x :: st) h Post) : mm_P g d M pc ls (st) h Post :=
  mm_same (fun h' p e R s m args below meth c H locs cells slots LS Q X hx hb hL kk => lv_iload_n hx hb hd rfl (hL.2.2 _ _ hl) (kk LS hL)) k
theorem mm_iload {i : Nat} {x : Int32} (hd : decode M.2.1 pc = .ok (.iload i, 2)) (hl : ls[i]? = some (some (.int x))) (k : mm_P g d M (pc + 2) ls (.int x :: st) h Post) : mm_P g d M pc ls (st) h Post :=
  mm_same (fun h' p e R s m args below meth c H locs cells slots LS Q X hx hb hL kk => lv_iload hx hb hd (hL.2.2 _ _ hl) (kk LS hL)) k
theorem mm_istore_n {k : Fin 4} {x : Int32} (hd : decode M.2.1 pc = .ok (.istore_n k, 1)) (hi : (k : Nat) < ls.length) (hl : mm_st1 ls (k : Nat) (.int x) = ls') (k : mm_P g d M (pc + 1) ls' (st) h Post) : mm_P g d M pc ls (.int x :: st) h Post :=
  mm_same (fun h' p e R s m args below meth c H locs cells slots LS Q X hx hb hL kk => lv_istore_n hx hb hd rfl hL.has hi rfl (fun LS' hL' => kk LS' (by rw [← hl]; exact mm_L.st1 rfl hL'))) k
theorem mm_istore {i : Nat} {x : Int32} (hd : decode M.2.1 pc = .ok (.istore i, 2)) (hi : i < ls.length) (hl : mm_st1 ls i (.int x) = ls') (k : mm_P g d M (pc + 2) ls' (st) h Post) : mm_P g d M pc ls (.int x :: st) h Post :=
  mm_same (fun h' p e R s m args below meth c H locs cells slots LS Q X hx hb hL kk => lv_istore hx hb hd hL.has hi rfl (fun LS' hL' => kk LS' (by rw [← hl]; exact mm_L.st1 rfl hL'))) k
theorem mm_aload_n {k : Fin 4} {x : Nat} (hd : decode M.2.1 pc = .ok (.aload_n k, 1)) (hl : ls[(k : Nat)]? = some (some (.ref x))) (k : mm_P g d M (pc + 1) ls (.ref x :: st) h Post) : mm_P g d M pc ls (st) h Post :=
  mm_same (fun h' p e R s m args below meth c H locs cells slots LS Q X hx hb hL kk => lv_aload_n hx hb hd rfl (hL.2.2 _ _ hl) (kk LS hL)) k
theorem mm_aload {i : Nat} {x : Nat} (hd : decode M.2.1 pc = .ok (.aload i, 2)) (hl : ls[i]? = some (some (.ref x))) (k : mm_P g d M (pc + 2) ls (.ref x :: st) h Post) : mm_P g d M pc ls (st) h Post :=
  mm_same (fun h' p e R s m args below meth c H locs cells slots LS Q X hx hb hL kk => lv_aload hx hb hd (hL.2.2 _ _ hl) (kk LS hL)) k
theorem mm_astore_n {k : Fin 4} {x : Nat} (hd : decode M.2.1 pc = .ok (.astore_n k, 1)) (hi : (k : Nat) < ls.length) (hl : mm_st1 ls (k : Nat) (.ref x) = ls') (k : mm_P g d M (pc + 1) ls' (st) h Post) : mm_P g d M pc ls (.ref x :: st) h Post :=
  mm_same (fun h' p e R s m args below meth c H locs cells slots LS Q X hx hb hL kk => lv_astore_n hx hb hd rfl hL.has hi rfl (fun LS' hL' => kk LS' (by rw [← hl]; exact mm_L.st1 rfl hL'))) k
theorem mm_astore {i : Nat} {x : Nat} (hd : decode M.2.1 pc = .ok (.astore i, 2)) (hi : i < ls.length) (hl : mm_st1 ls i (.ref x) = ls') (k : mm_P g d M (pc + 2) ls' (st) h Post) : mm_P g d M pc ls (.ref x :: st) h Post :=
  mm_same (fun h' p e R s m args below meth c H locs cells slots LS Q X hx hb hL kk => lv_astore hx hb hd hL.has hi rfl (fun LS' hL' => kk LS' (by rw [← hl]; exact mm_L.st1 rfl hL'))) k
theorem mm_lload_n {k : Fin 4} {x : Int64} (hd : decode M.2.1 pc = .ok (.lload_n k, 1)) (hl : ls[(k : Nat)]? = some (some (.long x))) (k : mm_P g d M (pc + 1) ls (.long x :: st) h Post) : mm_P g d M pc ls (st) h Post :=
  mm_same (fun h' p e R s m args below meth c H locs cells slots LS Q X hx hb hL kk => lv_lload_n hx hb hd rfl (hL.2.2 _ _ hl) (kk LS hL)) k
theorem mm_lload {i : Nat} {x : Int64} (hd : decode M.2.1 pc = .ok (.lload i, 2)) (hl : ls[i]? = some (some (.long x))) (k : mm_P g d M (pc + 2) ls (.long x :: st) h Post) : mm_P g d M pc ls (st) h Post :=
  mm_same (fun h' p e R s m args below meth c H locs cells slots LS Q X hx hb hL kk => lv_lload hx hb hd (hL.2.2 _ _ hl) (kk LS hL)) k
theorem mm_lstore_n {k : Fin 4} {x : Int64} (hd : decode M.2.1 pc = .ok (.lstore_n k, 1)) (hi : (k : Nat) + 1 < ls.length) (hl : mm_st2 ls (k : Nat) (.long x) = ls') (k : mm_P g d M (pc + 1) ls' (st) h Post) : mm_P g d M pc ls (.long x :: st) h Post :=
  mm_same (fun h' p e R s m args below meth c H locs cells slots LS Q X hx hb hL kk => lv_lstore_n hx hb hd rfl hL.has hi rfl (fun LS' hL' => kk LS' (by rw [← hl]; exact mm_L.st2 rfl hL'))) k
theorem mm_lstore {i : Nat} {x : Int64} (hd : decode M.2.1 pc = .ok (.lstore i, 2)) (hi : i + 1 < ls.length) (hl : mm_st2 ls i (.long x) = ls') (k : mm_P g d M (pc + 2) ls' (st) h Post) : mm_P g d M pc ls (.long x :: st) h Post :=
  mm_same (fun h' p e R s m args below meth c H locs cells slots LS Q X hx hb hL kk => lv_lstore hx hb hd hL.has hi rfl (fun LS' hL' => kk LS' (by rw [← hl]; exact mm_L.st2 rfl hL'))) k
theorem mm_iinc {i : Nat} {n : Int} {x v : Int32} (hd : decode M.2.1 pc = .ok (.iinc i n, 3)) (hx0 : ls[i]? = some (some (.int x))) (hv : x + Int32.ofInt n = v) (hl : mm_st1 ls i (.int v) = ls') (k : mm_P g d M (pc + 3) ls' st h Post) : mm_P g d M pc ls st h Post := by
  refine mm_same (fun h' p e R s m args below meth c H locs cells slots LS Q X hx hb hL kk => ?_) k
  obtain ⟨j, hj⟩ := List.getElem?_of_mem (mm_al_mem (q := (i, .int x)).mpr ⟨.int x, hx0, rfl⟩)
  exact lv_iinc hx hb hd hL.has hj hv (List.getElem?_eq_some_iff.mp hx0).1 rfl (fun LS' hL' => kk LS' (by rw [← hl]; exact mm_L.st1 rfl hL'))
theorem mm_iadd {x y : Int32} (hd : decode M.2.1 pc = .ok (.iadd, 1)) (k : mm_P g d M (pc + 1) ls (.int (x + y) :: st) h Post) : mm_P g d M pc ls (.int y :: .int x :: st) h Post :=
  mm_same (fun h' p e R s m args below meth c H locs cells slots LS Q X hx hb hL kk => lv_iadd hx hb hd (kk LS hL)) k
theorem mm_isub {x y : Int32} (hd : decode M.2.1 pc = .ok (.isub, 1)) (k : mm_P g d M (pc + 1) ls (.int (x - y) :: st) h Post) : mm_P g d M pc ls (.int y :: .int x :: st) h Post :=
  mm_same (fun h' p e R s m args below meth c H locs cells slots LS Q X hx hb hL kk => lv_isub hx hb hd (kk LS hL)) k
theorem mm_imul {x y : Int32} (hd : decode M.2.1 pc = .ok (.imul, 1)) (k : mm_P g d M (pc + 1) ls (.int (x * y) :: st) h Post) : mm_P g d M pc ls (.int y :: .int x :: st) h Post :=
  mm_same (fun h' p e R s m args below meth c H locs cells slots LS Q X hx hb hL kk => lv_imul hx hb hd (kk LS hL)) k
theorem mm_iand {x y : Int32} (hd : decode M.2.1 pc = .ok (.iand, 1)) (k : mm_P g d M (pc + 1) ls (.int (x &&& y) :: st) h Post) : mm_P g d M pc ls (.int y :: .int x :: st) h Post :=
  mm_same (fun h' p e R s m args below meth c H locs cells slots LS Q X hx hb hL kk => lv_iand hx hb hd (kk LS hL)) k
theorem mm_ishr {x y : Int32} (hd : decode M.2.1 pc = .ok (.ishr, 1)) (k : mm_P g d M (pc + 1) ls (.int (x >>> (y &&& 31)) :: st) h Post) : mm_P g d M pc ls (.int y :: .int x :: st) h Post :=
  mm_same (fun h' p e R s m args below meth c H locs cells slots LS Q X hx hb hL kk => lv_ishr hx hb hd (kk LS hL)) k
theorem mm_idiv {x y : Int32} (hne : ¬ y = 0) (hd : decode M.2.1 pc = .ok (.idiv, 1)) (k : mm_P g d M (pc + 1) ls (.int (x / y) :: st) h Post) : mm_P g d M pc ls (.int y :: .int x :: st) h Post :=
  mm_same (fun h' p e R s m args below meth c H locs cells slots LS Q X hx hb hL kk => lv_idiv hx hb hd hne (kk LS hL)) k
theorem mm_irem {x y : Int32} (hne : ¬ y = 0) (hd : decode M.2.1 pc = .ok (.irem, 1)) (k : mm_P g d M (pc + 1) ls (.int (x - x / y * y) :: st) h Post) : mm_P g d M pc ls (.int y :: .int x :: st) h Post :=
  mm_same (fun h' p e R s m args below meth c H locs cells slots LS Q X hx hb hL kk => lv_irem hx hb hd hne (kk LS hL)) k
theorem mm_iushr {x y : Int32} (hd : decode M.2.1 pc = .ok (.iushr, 1)) (k : mm_P g d M (pc + 1) ls (.int ((x.toUInt32 >>> (y.toUInt32 &&& Int32.toUInt32 31)).toInt32) :: st) h Post) : mm_P g d M pc ls (.int y :: .int x :: st) h Post :=
  mm_same (fun h' p e R s m args below meth c H locs cells slots LS Q X hx hb hL kk => lv_iushr hx hb hd rfl (kk LS hL)) k
theorem mm_ladd {x y : Int64} (hd : decode M.2.1 pc = .ok (.ladd, 1)) (k : mm_P g d M (pc + 1) ls (.long (x + y) :: st) h Post) : mm_P g d M pc ls (.long y :: .long x :: st) h Post :=
  mm_same (fun h' p e R s m args below meth c H locs cells slots LS Q X hx hb hL kk => lv_ladd hx hb hd (kk LS hL)) k
theorem mm_land {x y : Int64} (hd : decode M.2.1 pc = .ok (.land, 1)) (k : mm_P g d M (pc + 1) ls (.long (x &&& y) :: st) h Post) : mm_P g d M pc ls (.long y :: .long x :: st) h Post :=
  mm_same (fun h' p e R s m args below meth c H locs cells slots LS Q X hx hb hL kk => lv_land hx hb hd (kk LS hL)) k
theorem mm_lor {x y : Int64} (hd : decode M.2.1 pc = .ok (.lor, 1)) (k : mm_P g d M (pc + 1) ls (.long (x ||| y) :: st) h Post) : mm_P g d M pc ls (.long y :: .long x :: st) h Post :=
  mm_same (fun h' p e R s m args below meth c H locs cells slots LS Q X hx hb hL kk => lv_lor hx hb hd (kk LS hL)) k
theorem mm_lushr {x : Int64} {y : Int32} (hd : decode M.2.1 pc = .ok (.lushr, 1)) (k : mm_P g d M (pc + 1) ls (.long ((x.toUInt64 >>> (y.toInt64.toUInt64 &&& Int64.toUInt64 63)).toInt64) :: st) h Post) : mm_P g d M pc ls (.int y :: .long x :: st) h Post :=
  mm_same (fun h' p e R s m args below meth c H locs cells slots LS Q X hx hb hL kk => lv_lushr hx hb hd rfl (kk LS hL)) k
theorem mm_lshl {x : Int64} {y : Int32} (hd : decode M.2.1 pc = .ok (.lshl, 1)) (k : mm_P g d M (pc + 1) ls (.long (x <<< (y.toInt64 &&& 63)) :: st) h Post) : mm_P g d M pc ls (.int y :: .long x :: st) h Post :=
  mm_same (fun h' p e R s m args below meth c H locs cells slots LS Q X hx hb hL kk => lv_lshl hx hb hd rfl (kk LS hL)) k
theorem mm_lshr {x : Int64} {y : Int32} (hd : decode M.2.1 pc = .ok (.lshr, 1)) (k : mm_P g d M (pc + 1) ls (.long (x >>> (y.toInt64 &&& 63)) :: st) h Post) : mm_P g d M pc ls (.int y :: .long x :: st) h Post :=
  mm_same (fun h' p e R s m args below meth c H locs cells slots LS Q X hx hb hL kk => lv_lshr hx hb hd rfl (kk LS hL)) k
theorem mm_lcmp {x y : Int64} (hd : decode M.2.1 pc = .ok (.lcmp, 1)) (k : mm_P g d M (pc + 1) ls (.int (lg_cmp x y) :: st) h Post) : mm_P g d M pc ls (.long y :: .long x :: st) h Post :=
  mm_same (fun h' p e R s m args below meth c H locs cells slots LS Q X hx hb hL kk => W.lcmp hx hb hd (kk LS hL)) k
theorem mm_i2l {x : Int32} (hd : decode M.2.1 pc = .ok (.i2l, 1)) (k : mm_P g d M (pc + 1) ls (.long x.toInt64 :: st) h Post) : mm_P g d M pc ls (.int x :: st) h Post :=
  mm_same (fun h' p e R s m args below meth c H locs cells slots LS Q X hx hb hL kk => lv_i2l hx hb hd rfl (kk LS hL)) k
theorem mm_l2i {x : Int64} (hd : decode M.2.1 pc = .ok (.l2i, 1)) (k : mm_P g d M (pc + 1) ls (.int x.toInt32 :: st) h Post) : mm_P g d M pc ls (.long x :: st) h Post :=
  mm_same (fun h' p e R s m args below meth c H locs cells slots LS Q X hx hb hL kk => lv_l2i hx hb hd rfl (kk LS hL)) k
theorem mm_i2b {x : Int32} (hd : decode M.2.1 pc = .ok (.i2b, 1)) (k : mm_P g d M (pc + 1) ls (.int x.toInt8.toInt32 :: st) h Post) : mm_P g d M pc ls (.int x :: st) h Post :=
  mm_same (fun h' p e R s m args below meth c H locs cells slots LS Q X hx hb hL kk => lv_i2b hx hb hd rfl (kk LS hL)) k
theorem mm_i2c {x : Int32} (hd : decode M.2.1 pc = .ok (.i2c, 1)) (k : mm_P g d M (pc + 1) ls (.int (x.toUInt32 % 65536).toInt32 :: st) h Post) : mm_P g d M pc ls (.int x :: st) h Post :=
  mm_same (fun h' p e R s m args below meth c H locs cells slots LS Q X hx hb hL kk => lv_i2c hx hb hd rfl (kk LS hL)) k
theorem mm_dup {v : Value} (hc : v.category = 1) (hd : decode M.2.1 pc = .ok (.dup, 1)) (k : mm_P g d M (pc + 1) ls (v :: v :: st) h Post) : mm_P g d M pc ls (v :: st) h Post :=
  mm_same (fun h' p e R s m args below meth c H locs cells slots LS Q X hx hb hL kk => lv_dup hx hb hd ((mm_v_cat g v).trans hc) (kk LS hL)) k
theorem mm_dup2 {v u : Value} (hc : v.category = 1) (hc2 : u.category = 1) (hd : decode M.2.1 pc = .ok (.dup2, 1)) (k : mm_P g d M (pc + 1) ls (v :: u :: v :: u :: st) h Post) : mm_P g d M pc ls (v :: u :: st) h Post :=
  mm_same (fun h' p e R s m args below meth c H locs cells slots LS Q X hx hb hL kk => lv_dup2_11 hx hb hd ((mm_v_cat g v).trans hc) ((mm_v_cat g u).trans hc2) (kk LS hL)) k
theorem mm_pop {v : Value} (hc : v.category = 1) (hd : decode M.2.1 pc = .ok (.pop, 1)) (k : mm_P g d M (pc + 1) ls (st) h Post) : mm_P g d M pc ls (v :: st) h Post :=
  mm_same (fun h' p e R s m args below meth c H locs cells slots LS Q X hx hb hL kk => lv_pop hx hb hd ((mm_v_cat g v).trans hc) (kk LS hL)) k
theorem mm_if_eq {x : Int32} {off : Int} (tgt : Nat) (hd : decode M.2.1 pc = .ok (.ifCond .eq off, 3)) (ht : (pc : Int) + off = (tgt : Int)) (kt : x = 0 → mm_P g d M tgt ls st h Post) (kf : ¬ x = 0 → mm_P g d M (pc + 3) ls st h Post) : mm_P g d M pc ls (.int x :: st) h Post := by
  by_cases hc : x = 0
  · exact mm_same (fun h' p e R s m args below meth c H locs cells slots LS Q X hx hb hL kk => lv_if_eq hx hb hd ht (fun _ => kk LS hL) (fun q => absurd hc q)) (kt hc)
  · exact mm_same (fun h' p e R s m args below meth c H locs cells slots LS Q X hx hb hL kk => lv_if_eq hx hb hd ht (fun q => absurd q hc) (fun _ => kk LS hL)) (kf hc)
theorem mm_icmp_eq {x y : Int32} {off : Int} (tgt : Nat) (hd : decode M.2.1 pc = .ok (.if_icmp .eq off, 3)) (ht : (pc : Int) + off = (tgt : Int)) (kt : x = y → mm_P g d M tgt ls st h Post) (kf : ¬ x = y → mm_P g d M (pc + 3) ls st h Post) : mm_P g d M pc ls (.int y :: .int x :: st) h Post := by
  by_cases hc : x = y
  · exact mm_same (fun h' p e R s m args below meth c H locs cells slots LS Q X hx hb hL kk => lv_icmp_eq hx hb hd ht (fun _ => kk LS hL) (fun q => absurd hc q)) (kt hc)
  · exact mm_same (fun h' p e R s m args below meth c H locs cells slots LS Q X hx hb hL kk => lv_icmp_eq hx hb hd ht (fun q => absurd q hc) (fun _ => kk LS hL)) (kf hc)
theorem mm_if_ne {x : Int32} {off : Int} (tgt : Nat) (hd : decode M.2.1 pc = .ok (.ifCond .ne off, 3)) (ht : (pc : Int) + off = (tgt : Int)) (kt : ¬ x = 0 → mm_P g d M tgt ls st h Post) (kf : x = 0 → mm_P g d M (pc + 3) ls st h Post) : mm_P g d M pc ls (.int x :: st) h Post := by
  by_cases hc : ¬ x = 0
  · exact mm_same (fun h' p e R s m args below meth c H locs cells slots LS Q X hx hb hL kk => lv_if_ne hx hb hd ht (fun _ => kk LS hL) (fun q => absurd q hc)) (kt hc)
  · exact mm_same (fun h' p e R s m args below meth c H locs cells slots LS Q X hx hb hL kk => lv_if_ne hx hb hd ht (fun q => absurd q hc) (fun _ => kk LS hL)) (kf (Decidable.not_not.mp hc))
theorem mm_icmp_ne {x y : Int32} {off : Int} (tgt : Nat) (hd : decode M.2.1 pc = .ok (.if_icmp .ne off, 3)) (ht : (pc : Int) + off = (tgt : Int)) (kt : ¬ x = y → mm_P g d M tgt ls st h Post) (kf : x = y → mm_P g d M (pc + 3) ls st h Post) : mm_P g d M pc ls (.int y :: .int x :: st) h Post := by
  by_cases hc : ¬ x = y
  · exact mm_same (fun h' p e R s m args below meth c H locs cells slots LS Q X hx hb hL kk => lv_icmp_ne hx hb hd ht (fun _ => kk LS hL) (fun q => absurd q hc)) (kt hc)
  · exact mm_same (fun h' p e R s m args below meth c H locs cells slots LS Q X hx hb hL kk => lv_icmp_ne hx hb hd ht (fun q => absurd q hc) (fun _ => kk LS hL)) (kf (Decidable.not_not.mp hc))
theorem mm_if_lt {x : Int32} {off : Int} (tgt : Nat) (hd : decode M.2.1 pc = .ok (.ifCond .lt off, 3)) (ht : (pc : Int) + off = (tgt : Int)) (kt : x < 0 → mm_P g d M tgt ls st h Post) (kf : ¬ x < 0 → mm_P g d M (pc + 3) ls st h Post) : mm_P g d M pc ls (.int x :: st) h Post := by
  by_cases hc : x < 0
  · exact mm_same (fun h' p e R s m args below meth c H locs cells slots LS Q X hx hb hL kk => lv_if_lt hx hb hd ht (fun _ => kk LS hL) (fun q => absurd hc q)) (kt hc)
  · exact mm_same (fun h' p e R s m args below meth c H locs cells slots LS Q X hx hb hL kk => lv_if_lt hx hb hd ht (fun q => absurd q hc) (fun _ => kk LS hL)) (kf hc)
theorem mm_icmp_lt {x y : Int32} {off : Int} (tgt : Nat) (hd : decode M.2.1 pc = .ok (.if_icmp .lt off, 3)) (ht : (pc : Int) + off = (tgt : Int)) (kt : x < y → mm_P g d M tgt ls st h Post) (kf : ¬ x < y → mm_P g d M (pc + 3) ls st h Post) : mm_P g d M pc ls (.int y :: .int x :: st) h Post := by
  by_cases hc : x < y
  · exact mm_same (fun h' p e R s m args below meth c H locs cells slots LS Q X hx hb hL kk => lv_icmp_lt hx hb hd ht (fun _ => kk LS hL) (fun q => absurd hc q)) (kt hc)
  · exact mm_same (fun h' p e R s m args below meth c H locs cells slots LS Q X hx hb hL kk => lv_icmp_lt hx hb hd ht (fun q => absurd q hc) (fun _ => kk LS hL)) (kf hc)
theorem mm_if_ge {x : Int32} {off : Int} (tgt : Nat) (hd : decode M.2.1 pc = .ok (.ifCond .ge off, 3)) (ht : (pc : Int) + off = (tgt : Int)) (kt : 0 ≤ x → mm_P g d M tgt ls st h Post) (kf : ¬ 0 ≤ x → mm_P g d M (pc + 3) ls st h Post) : mm_P g d M pc ls (.int x :: st) h Post := by
  by_cases hc : 0 ≤ x
  · exact mm_same (fun h' p e R s m args below meth c H locs cells slots LS Q X hx hb hL kk => lv_if_ge hx hb hd ht (fun _ => kk LS hL) (fun q => absurd hc q)) (kt hc)
  · exact mm_same (fun h' p e R s m args below meth c H locs cells slots LS Q X hx hb hL kk => lv_if_ge hx hb hd ht (fun q => absurd q hc) (fun _ => kk LS hL)) (kf hc)
theorem mm_icmp_ge {x y : Int32} {off : Int} (tgt : Nat) (hd : decode M.2.1 pc = .ok (.if_icmp .ge off, 3)) (ht : (pc : Int) + off = (tgt : Int)) (kt : y ≤ x → mm_P g d M tgt ls st h Post) (kf : ¬ y ≤ x → mm_P g d M (pc + 3) ls st h Post) : mm_P g d M pc ls (.int y :: .int x :: st) h Post := by
  by_cases hc : y ≤ x
  · exact mm_same (fun h' p e R s m args below meth c H locs cells slots LS Q X hx hb hL kk => lv_icmp_ge hx hb hd ht (fun _ => kk LS hL) (fun q => absurd hc q)) (kt hc)
  · exact mm_same (fun h' p e R s m args below meth c H locs cells slots LS Q X hx hb hL kk => lv_icmp_ge hx hb hd ht (fun q => absurd q hc) (fun _ => kk LS hL)) (kf hc)
theorem mm_if_gt {x : Int32} {off : Int} (tgt : Nat) (hd : decode M.2.1 pc = .ok (.ifCond .gt off, 3)) (ht : (pc : Int) + off = (tgt : Int)) (kt : 0 < x → mm_P g d M tgt ls st h Post) (kf : ¬ 0 < x → mm_P g d M (pc + 3) ls st h Post) : mm_P g d M pc ls (.int x :: st) h Post := by
  by_cases hc : 0 < x
  · exact mm_same (fun h' p e R s m args below meth c H locs cells slots LS Q X hx hb hL kk => lv_if_gt hx hb hd ht (fun _ => kk LS hL) (fun q => absurd hc q)) (kt hc)
  · exact mm_same (fun h' p e R s m args below meth c H locs cells slots LS Q X hx hb hL kk => lv_if_gt hx hb hd ht (fun q => absurd q hc) (fun _ => kk LS hL)) (kf hc)
theorem mm_icmp_gt {x y : Int32} {off : Int} (tgt : Nat) (hd : decode M.2.1 pc = .ok (.if_icmp .gt off, 3)) (ht : (pc : Int) + off = (tgt : Int)) (kt : y < x → mm_P g d M tgt ls st h Post) (kf : ¬ y < x → mm_P g d M (pc + 3) ls st h Post) : mm_P g d M pc ls (.int y :: .int x :: st) h Post := by
  by_cases hc : y < x
  · exact mm_same (fun h' p e R s m args below meth c H locs cells slots LS Q X hx hb hL kk => lv_icmp_gt hx hb hd ht (fun _ => kk LS hL) (fun q => absurd hc q)) (kt hc)
  · exact mm_same (fun h' p e R s m args below meth c H locs cells slots LS Q X hx hb hL kk => lv_icmp_gt hx hb hd ht (fun q => absurd q hc) (fun _ => kk LS hL)) (kf hc)
theorem mm_if_le {x : Int32} {off : Int} (tgt : Nat) (hd : decode M.2.1 pc = .ok (.ifCond .le off, 3)) (ht : (pc : Int) + off = (tgt : Int)) (kt : x ≤ 0 → mm_P g d M tgt ls st h Post) (kf : ¬ x ≤ 0 → mm_P g d M (pc + 3) ls st h Post) : mm_P g d M pc ls (.int x :: st) h Post := by
  by_cases hc : x ≤ 0
  · exact mm_same (fun h' p e R s m args below meth c H locs cells slots LS Q X hx hb hL kk => lv_if_le hx hb hd ht (fun _ => kk LS hL) (fun q => absurd hc q)) (kt hc)
  · exact mm_same (fun h' p e R s m args below meth c H locs cells slots LS Q X hx hb hL kk => lv_if_le hx hb hd ht (fun q => absurd q hc) (fun _ => kk LS hL)) (kf hc)
theorem mm_icmp_le {x y : Int32} {off : Int} (tgt : Nat) (hd : decode M.2.1 pc = .ok (.if_icmp .le off, 3)) (ht : (pc : Int) + off = (tgt : Int)) (kt : x ≤ y → mm_P g d M tgt ls st h Post) (kf : ¬ x ≤ y → mm_P g d M (pc + 3) ls st h Post) : mm_P g d M pc ls (.int y :: .int x :: st) h Post := by
  by_cases hc : x ≤ y
  · exact mm_same (fun h' p e R s m args below meth c H locs cells slots LS Q X hx hb hL kk => lv_icmp_le hx hb hd ht (fun _ => kk LS hL) (fun q => absurd hc q)) (kt hc)
  · exact mm_same (fun h' p e R s m args below meth c H locs cells slots LS Q X hx hb hL kk => lv_icmp_le hx hb hd ht (fun q => absurd q hc) (fun _ => kk LS hL)) (kf hc)
theorem mm_goto {off : Int} (tgt : Nat) (hd : decode M.2.1 pc = .ok (.goto off, 3)) (ht : (pc : Int) + off = (tgt : Int)) (k : mm_P g d M tgt ls st h Post) : mm_P g d M pc ls st h Post :=
  mm_same (fun h' p e R s m args below meth c H locs cells slots LS Q X hx hb hL kk => lv_goto hx hb hd ht (kk LS hL)) k
theorem mm_tabIn {dflt lo hi : Int} {offs : Array Int} {len : Nat} {x : Int32} {off : Int} (tgt : Nat) (hd : decode M.2.1 pc = .ok (.tableswitch dflt lo hi offs, len)) (h1 : ¬ x.toInt < lo) (h2 : ¬ hi < x.toInt) (ho : offs[(x.toInt - lo).toNat]? = some off) (ht : (pc : Int) + off = (tgt : Int)) (k : mm_P g d M tgt ls st h Post) : mm_P g d M pc ls (.int x :: st) h Post :=
  mm_same (fun h' p e R s m args below meth c H locs cells slots LS Q X hx hb hL kk => lv_tableIn hx hb hd h1 h2 ho ht (kk LS hL)) k
theorem mm_tabOut {dflt lo hi : Int} {offs : Array Int} {len : Nat} {x : Int32} (tgt : Nat) (hd : decode M.2.1 pc = .ok (.tableswitch dflt lo hi offs, len)) (h1 : x.toInt < lo ∨ hi < x.toInt) (ht : (pc : Int) + dflt = (tgt : Int)) (k : mm_P g d M tgt ls st h Post) : mm_P g d M pc ls (.int x :: st) h Post :=
  mm_same (fun h' p e R s m args below meth c H locs cells slots LS Q X hx hb hL kk => lv_tableOut hx hb hd h1 ht (kk LS hL)) k
/-- what a method's end owes -/
theorem mm_end {R : Room} {p : Program} {e : Env} {s : State} {m : MethodId} {args : Array Value} {below : List Frame} {meth : Method} {c : Code} {H : Heap} {locs : List Loc} {cells slots : Nat} {LS : Array Slot} {v : Option Value} {fr : JFrame}
    (X : mm_X g d M h h ls p R s m args meth c H locs cells slots LS)
    (k : (∀ t : State, t.heap = H → s.WarmedH t.vm → mm_Qc g (.inl v) h args s (.returned (v.map (mm_v g))) t) → (∀ q ∈ locs, mm_A g q.base) → W p (mm_l g) e R s m args below meth c H locs cells slots (MQ below (mm_Qc g (.inl v) h) args s cells slots (mm_A g)) fr) :
    W p (mm_l g) e R s m args below meth c H locs cells slots (mm_Q g below args s (.inl v) h (cells + (h.2.1 - h.2.1)) (slots + (h.2.2 - h.2.2))) fr := by
  rw [Nat.sub_self, Nat.sub_self, Nat.add_zero, Nat.add_zero]
  refine vx_ret (k (fun t ht hW => ⟨v, rfl, rfl, by rw [ht]; exact X.2.2.2.2.1, fun q hq => ?_⟩) X.2.2.2.2.2.1.2.2)
  rw [ht]
  exact X.2.2.2.2.2.1.2.1 q (Nat.lt_of_lt_of_le hq X.2.2.1.1) (Nat.not_le.mpr hq)
theorem mm_iret {v : Int32} {ty : FieldType} (hr : M.2.2.2.1 = some ty) (hn : narrow ty (.int v) = .int v) (hd : decode M.2.1 pc = .ok (.ireturn, 1)) (hp : Post (.inl (some (.int v))) h) : mm_P g d M pc ls [.int v] h Post :=
  ⟨_, _, hp, Nat.le_refl _, Nat.le_refl _, fun p e R s m args below meth c H locs cells slots LS X => mm_end X (fun hq hf => W.zret X.1.1 X.1.2.1 (X.1.2.2.1.trans hr) hn hq hf hd X.1.2.2.2.2.2.1)⟩
theorem mm_lret {v : Int64} (hr : M.2.2.2.1 = some .long) (hd : decode M.2.1 pc = .ok (.lreturn, 1)) (hp : Post (.inl (some (.long v))) h) : mm_P g d M pc ls [.long v] h Post :=
  ⟨_, _, hp, Nat.le_refl _, Nat.le_refl _, fun p e R s m args below meth c H locs cells slots LS X => mm_end X (fun hq hf => W.lret X.1.1 X.1.2.1 (X.1.2.2.1.trans hr) hq hf hd X.1.2.2.2.2.2.1)⟩
theorem mm_vret (hr : M.2.2.2.1 = none) (hd : decode M.2.1 pc = .ok (.return_, 1)) (hp : Post (.inl none) h) : mm_P g d M pc ls [] h Post :=
  ⟨_, _, hp, Nat.le_refl _, Nat.le_refl _, fun p e R s m args below meth c H locs cells slots LS X => mm_end X (fun hq hf => W.vret X.1.1 X.1.2.1 (X.1.2.2.1.trans hr) hq hf hd X.1.2.2.2.2.2.1)⟩
theorem mm_aret {a : Nat} {rt : FieldType} (hr : M.2.2.2.1 = some rt) (hrt : (∃ n, rt = .object n) ∨ ∃ t, rt = .array t) (hd : decode M.2.1 pc = .ok (.areturn, 1)) (hp : Post (.inl (some (.ref a))) h) : mm_P g d M pc ls [.ref a] h Post :=
  ⟨_, _, hp, Nat.le_refl _, Nat.le_refl _, fun p e R s m args below meth c H locs cells slots LS X => mm_end X (fun hq hf => W.aret X.1.1 X.1.2.1 (X.1.2.2.1.trans hr) hrt (Or.inr ⟨_, rfl⟩) hq hf hd X.1.2.2.2.2.2.1)⟩
end MMR
end
section
/-! the rows of the small machine that read or change cells -/
def mm_at (h : mm_Hp) (r : Nat) (x : va_E) : Prop := 64 ≤ r ∧ r < h.2.1 + 64 ∧ h.1 r = x
abbrev mm_up (h : mm_Hp) (r : Nat) (x : va_E) : mm_Hp := (va_up h.1 r x, h.2)
abbrev mm_add (h : mm_Hp) (x : va_E) (N : Nat) : mm_Hp := (va_up h.1 (h.2.1 + 64) x, h.2.1 + 1, h.2.2 + N)
theorem mm_at.up {h : mm_Hp} {r : Nat} {x y : va_E} (a : mm_at h r x) : mm_at (mm_up h r y) r y := ⟨a.1, a.2.1, by simp [va_up]⟩
theorem mm_at.ne {h : mm_Hp} {r q : Nat} {x y : va_E} (a : mm_at h r x) (n : r ≠ q) : mm_at (mm_up h q y) r x := ⟨a.1, a.2.1, by simp [va_up, n, a.2.2]⟩
theorem mm_at.add {h : mm_Hp} {r N : Nat} {x y : va_E} (a : mm_at h r x) : mm_at (mm_add h y N) r x := ⟨a.1, by show r < h.2.1 + 1 + 64; have := a.2.1; omega, by have := a.2.1; simp [va_up, show ¬ r = h.2.1 + 64 by omega, a.2.2]⟩
theorem mm_at.new {h : mm_Hp} {N : Nat} {y : va_E} : mm_at (mm_add h y N) (h.2.1 + 64) y := ⟨by omega, by show h.2.1 + 64 < h.2.1 + 1 + 64; omega, by simp [va_up]⟩
theorem mm_at.inj {h : mm_Hp} {r : Nat} {x y : va_E} (a : mm_at h r x) (b : mm_at h r y) : x = y := a.2.2.symm.trans b.2.2
section MMH
variable {g : mm_G} {d : Nat} {M : mm_Me} {pc : Nat} {ls : List (Option Value)} {st : List Value} {h : mm_Hp} {Post : mm_Ou → mm_Hp → Prop}
theorem mm_at.ad {r : Nat} {x : va_E} (a : mm_at h r x) : ∃ k, r = k + 64 ∧ k < h.2.1 ∧ mm_ad g r = mm_B g + k := by
  obtain ⟨a1, a2, -⟩ := a
  exact ⟨r - 64, by omega, by omega, by simp [mm_ad, show ¬ r < 64 by omega]⟩
theorem mm_at.ws {r : Nat} {x : va_E} (a : mm_at h r x) : ∃ k, r = k + 64 ∧ k < h.2.1 ∧ (mm_ws g h.1 h.2.1)[k]? = some (mm_ad g r, mm_c g x) := by
  obtain ⟨k, h1, h2, h3⟩ := mm_at.ad (g := g) a
  refine ⟨k, h1, h2, ?_⟩
  rw [mm_ws_at h2, h3, ← h1, a.2.2]
theorem mm_set {r k : Nat} {y : va_E} (hr : r = k + 64) (hk : k < h.2.1) {n : Nat} (hn : h.2.1 = n) : (mm_ws g h.1 n).set k (mm_ad g r, mm_c g y) = mm_ws g (va_up h.1 r y) n := by
  subst hn
  subst hr
  have : mm_ad g (k + 64) = mm_B g + k := by simp [mm_ad, show ¬ k + 64 < 64 by omega]
  rw [this, mm_ws_set hk]
/-- the heap's size is told by what lies in it and by what was made -/
theorem mm_sz {p : Program} {l : Launch} {e : Env} {R : Room} {s : State} {m : MethodId} {args : Array Value} {below : List Frame} {meth : Method} {c : Code} {H : Heap} {locs : List Loc} {cells slots n : Nat} {Q : State → Prop} {fr : JFrame} {w : Nat → va_E}
    (hB : mm_B g ≤ s.heap.size) (hc : s.heap.size + cells = mm_B g + n) (hP : va_P (mm_K g) mm_cl (mm_ws g w n) H) (hS : va_S (mm_A g) s.heap H locs)
    (k : H.size = mm_B g + n → W p l e R s m args below meth c H locs cells slots Q fr) : W p l e R s m args below meth c H locs cells slots Q fr := by
  intro T hT X
  have h1 := X.heapSize
  rw [hT] at h1
  refine k ?_ T hT X
  have h2 := hS.1
  cases n with
  | zero => omega
  | succ j =>
    have h3 := (hP j _ (mm_ws_at (by omega))).lt
    simp only at h3
    omega
theorem mm_heap {w1 : Nat → va_E} {pc' : Nat} {st' : List Value}
    (hk : ∀ (h' : mm_Hp) (p : Program) (e : Env) (R : Room) (s : State) (m : MethodId) (args : Array Value) (below : List Frame) (meth : Method) (c : Code) (H : Heap) (locs : List Loc) (cells slots : Nat) (LS : Array Slot) (Q : State → Prop),
      mm_X g d M h h' ls p R s m args meth c H locs cells slots LS → (∀ (H1 : Heap) (locs1 : List Loc), va_P (mm_K g) mm_cl (mm_ws g w1 h.2.1) H1 → va_S (mm_A g) s.heap H1 locs1 → W p (mm_l g) e R s m args below meth c H1 locs1 cells slots Q (F0 m pc' LS (st'.map (mm_v g)))) → W p (mm_l g) e R s m args below meth c H locs cells slots Q (F0 m pc LS (st.map (mm_v g))))
    (k : mm_P g d M pc' ls st' (w1, h.2) Post) : mm_P g d M pc ls st h Post := by
  obtain ⟨o, h', hp, k1, k2, k⟩ := k
  refine ⟨o, h', hp, k1, k2, fun p e R s m args below meth c H locs cells slots LS X => ?_⟩
  refine hk h' p e R s m args below meth c H locs cells slots LS _ X (fun H1 locs1 hP1 hS1 => ?_)
  refine mm_sz X.2.2.1.1 X.2.2.1.2 hP1 hS1 (fun hz => ?_)
  exact k p e R s m args below meth c H1 locs1 cells slots LS ⟨X.1, X.2.1, X.2.2.1, X.2.2.2.1, ⟨hz, hP1⟩, hS1, X.2.2.2.2.2.2⟩
def mm_kc (ci : Nat) (C : String) (T : u_T) (N : Nat) (ty : Nat → FieldType) : Prop :=
  mm_cl[ci]? = some (C, T, N) ∧ (∀ w ∈ u_ws C T N, w ∈ mm_tb) ∧ (∀ k, k < N → parseFieldDescriptor (T k).2.2.1 = some (ty k)) ∧ ∀ a, a < N → ∀ b, b < N → a ≠ b → (T a).2.1 ≠ (T b).2.1
def mm_lk (own : String) (index ci k : Nat) (C : String) (T : u_T) (N : Nat) (ty : Nat → FieldType) : Prop :=
  mm_kc ci C T N ty ∧ k < N ∧ ∃ ref, Cond.fieldLink own index ref (T k).2.1 (T k).2.2.1 ∈ mm_tb ∧ (ref = (T k).1 ∨ Cond.sameField ref (T k).1 (T k).2.1 (T k).2.2.1 ∈ mm_tb)
theorem mm_lk.same {own : String} {index ci k : Nat} {C : String} {T : u_T} {N : Nat} {ty : Nat → FieldType} {s : State} {args : Array Value} (hts : ∀ w ∈ mm_tb, w.before args s = true) {ref : String}
    (h : ref = (T k).1 ∨ Cond.sameField ref (T k).1 (T k).2.1 (T k).2.2.1 ∈ mm_tb) : ∀ x, s.fieldFound? (T k).1 (T k).2.1 (T k).2.2.1 = some x → s.fieldFound? ref (T k).2.1 (T k).2.2.1 = some x := by
  rcases h with h | h
  · rw [h]; exact fun _ q => q
  · exact fun x hx => u_same (hts _ h) x hx
theorem mm_get {r index ci k : Nat} {C : String} {T : u_T} {N : Nat} {ty : Nat → FieldType} {fs : List Value} {v : Value} (hl : mm_lk M.1.cls index ci k C T N ty) (hd : decode M.2.1 pc = .ok (.getfield index, 3)) (a : mm_at h r (.inr (ci, fs))) (hv : fs[k]? = some v)
    (kk : mm_P g d M (pc + 3) ls (v :: st) h Post) : mm_P g d M pc ls (.ref r :: st) h Post := by
  refine mm_same (fun h' p e R s m args below meth c H locs cells slots LS Q X hx hb hL kk => ?_) kk
  obtain ⟨q, h1, h2, h3⟩ := a.ws (g := g)
  obtain ⟨⟨c1, c2, c3, c4⟩, hkN, ref, l1, l2⟩ := hl
  have hts := X.1.2.2.2.2.2.2.2.1
  exact va_get (D := mm_K g) (ci := ci) (v := mm_v g v) (C := C) (T := T) (N := N) hx hb hts c2 X.1.2.2.2.2.1 X.1.2.2.2.2.2.2.2.2.1 X.2.2.2.2.1.2 q h3 c1 k hkN (hts _ l1) (mm_lk.same (own := M.1.cls) (index := index) (ci := ci) (C := C) (N := N) (ty := ty) hts l2) (by simp [hv]) hd (kk LS hL)
theorem mm_put {r index ci k : Nat} {C : String} {T : u_T} {N : Nat} {ty : Nat → FieldType} {fs : List Value} {v : Value} (hl : mm_lk M.1.cls index ci k C T N ty) (hfin : (T k).2.2.2 = false) (hd : decode M.2.1 pc = .ok (.putfield index, 3)) (a : mm_at h r (.inr (ci, fs))) (hn : ∀ v', v' = mm_v g v → narrow (ty k) v' = v') (hfit : ∀ v', v' = mm_v g v → fits (ty k) v' = true) (hlen : k < fs.length)
    (kk : mm_P g d M (pc + 3) ls st (mm_up h r (.inr (ci, fs.set k v))) Post) : mm_P g d M pc ls (v :: .ref r :: st) h Post := by
  refine mm_heap (fun h' p e R s m args below meth c H locs cells slots LS Q X kk => ?_) kk
  obtain ⟨q, h1, h2, h3⟩ := a.ws (g := g)
  obtain ⟨⟨c1, c2, c3, c4⟩, hkN, ref, l1, l2⟩ := hl
  have hts := X.1.2.2.2.2.2.2.2.1
  refine va_put (D := mm_K g) (ci := ci) (v := mm_v g v) (ty := ty k) (C := C) (T := T) (N := N) X.1.1 X.1.2.1 hts c2 ty c3 c4 X.1.2.2.2.2.1 X.1.2.2.2.2.2.2.2.2.1 X.2.2.2.2.1.2 (mm_D g h.1 h.2.1) X.2.2.2.2.2.1 q h3 c1 k hkN (hts _ l1) (mm_lk.same (own := M.1.cls) (index := index) (ci := ci) (C := C) (N := N) (ty := ty) hts l2) hfin (c3 k hkN) (hn _ rfl) (hfit _ rfl) (by simpa using hlen) hd (fun H1 locs1 hP1 hD1 hS1 => kk H1 locs1 ?_ hS1)
  have hs := mm_set (g := g) (y := .inr (ci, fs.set k v)) h1 h2 rfl
  rw [← hs]
  simpa [mm_c, List.map_set] using hP1
theorem mm_putF {r index ci k : Nat} {C : String} {T : u_T} {N : Nat} {ty : Nat → FieldType} {fs : List Value} {v : Value} (hl : mm_lk M.1.cls index ci k C T N ty) (hfin : (T k).2.2.2 = true) (hin : M.1.name = "<init>") (hown : (T k).1 = M.1.cls) (hd : decode M.2.1 pc = .ok (.putfield index, 3)) (a : mm_at h r (.inr (ci, fs))) (hn : ∀ v', v' = mm_v g v → narrow (ty k) v' = v') (hfit : ∀ v', v' = mm_v g v → fits (ty k) v' = true) (hlen : k < fs.length)
    (kk : mm_P g d M (pc + 3) ls st (mm_up h r (.inr (ci, fs.set k v))) Post) : mm_P g d M pc ls (v :: .ref r :: st) h Post := by
  refine mm_heap (fun h' p e R s m args below meth c H locs cells slots LS Q X kk => ?_) kk
  obtain ⟨q, h1, h2, h3⟩ := a.ws (g := g)
  obtain ⟨⟨c1, c2, c3, c4⟩, hkN, ref, l1, l2⟩ := hl
  have hts := X.1.2.2.2.2.2.2.2.1
  refine va_putF (D := mm_K g) (ci := ci) (v := mm_v g v) (ty := ty k) (C := C) (T := T) (N := N) X.1.1 X.1.2.1 hts c2 ty c3 c4 X.1.2.2.2.2.1 X.1.2.2.2.2.2.2.2.2.1 X.2.2.2.2.1.2 (mm_D g h.1 h.2.1) X.2.2.2.2.2.1 q h3 c1 k hkN (hts _ l1) (mm_lk.same (own := M.1.cls) (index := index) (ci := ci) (C := C) (N := N) (ty := ty) hts l2) hfin (X.1.2.2.2.2.2.2.1.trans hin) hown (c3 k hkN) (hn _ rfl) (hfit _ rfl) (by simpa using hlen) hd (fun H1 locs1 hP1 hD1 hS1 => kk H1 locs1 ?_ hS1)
  have hs := mm_set (g := g) (y := .inr (ci, fs.set k v)) h1 h2 rfl
  rw [← hs]
  simpa [mm_c, List.map_set] using hP1
theorem mm_iald {r n : Nat} {f : Nat → Int32} {i : Int32} (hd : decode M.2.1 pc = .ok (.iaload, 1)) (a : mm_at h r (.inl (0, n, .inl f))) (hi : vp_in i n) (kk : mm_P g d M (pc + 1) ls (.int (f i.toNatClampNeg) :: st) h Post) : mm_P g d M pc ls (.int i :: .ref r :: st) h Post := by
  refine mm_same (fun h' p e R s m args below meth c H locs cells slots LS Q X hx hb hL kk => ?_) kk
  obtain ⟨q, h1, h2, h3⟩ := a.ws (g := g)
  exact va_iald hx hb X.1.2.2.2.2.2.2.2.2.1 X.2.2.2.2.1.2 q 0 h3 rfl hi hd (kk LS hL)
theorem mm_bald {r n : Nat} {f : Nat → Int32} {i : Int32} (hd : decode M.2.1 pc = .ok (.baload, 1)) (a : mm_at h r (.inl (1, n, .inl f))) (hi : vp_in i n) (kk : mm_P g d M (pc + 1) ls (.int (f i.toNatClampNeg) :: st) h Post) : mm_P g d M pc ls (.int i :: .ref r :: st) h Post := by
  refine mm_same (fun h' p e R s m args below meth c H locs cells slots LS Q X hx hb hL kk => ?_) kk
  obtain ⟨q, h1, h2, h3⟩ := a.ws (g := g)
  exact va_bald hx hb X.1.2.2.2.2.2.2.2.2.1 X.2.2.2.2.1.2 q 1 h3 rfl hi hd (kk LS hL)
theorem mm_lald {r n : Nat} {f : Nat → Int64} {i : Int32} (hd : decode M.2.1 pc = .ok (.laload, 1)) (a : mm_at h r (.inl (2, n, .inr (.inl f)))) (hi : vp_in i n) (kk : mm_P g d M (pc + 1) ls (.long (f i.toNatClampNeg) :: st) h Post) : mm_P g d M pc ls (.int i :: .ref r :: st) h Post := by
  refine mm_same (fun h' p e R s m args below meth c H locs cells slots LS Q X hx hb hL kk => ?_) kk
  obtain ⟨q, h1, h2, h3⟩ := a.ws (g := g)
  exact va_lald hx hb X.1.2.2.2.2.2.2.2.2.1 X.2.2.2.2.1.2 q 2 h3 rfl hi hd (kk LS hL)
theorem mm_iast {r n : Nat} {f : Nat → Int32} {i x : Int32} (hd : decode M.2.1 pc = .ok (.iastore, 1)) (a : mm_at h r (.inl (0, n, .inl f))) (hi : vp_in i n) (kk : mm_P g d M (pc + 1) ls st (mm_up h r (.inl (0, n, .inl (upd f i.toNatClampNeg x)))) Post) : mm_P g d M pc ls (.int x :: .int i :: .ref r :: st) h Post := by
  refine mm_heap (fun h' p e R s m args below meth c H locs cells slots LS Q X kk => ?_) kk
  obtain ⟨q, h1, h2, h3⟩ := a.ws (g := g)
  refine va_iast X.1.1 X.1.2.1 X.1.2.2.2.2.2.2.2.2.1 X.2.2.2.2.1.2 (mm_D g h.1 h.2.1) X.2.2.2.2.2.1 q 0 h3 rfl hi hd (fun H1 locs1 hP1 hD1 hS1 => kk H1 locs1 ?_ hS1)
  rw [← mm_set (g := g) h1 h2 rfl]
  exact hP1
theorem mm_bast {r n : Nat} {f : Nat → Int32} {i x : Int32} (hd : decode M.2.1 pc = .ok (.bastore, 1)) (a : mm_at h r (.inl (1, n, .inl f))) (hi : vp_in i n) (kk : mm_P g d M (pc + 1) ls st (mm_up h r (.inl (1, n, .inl (upd f i.toNatClampNeg (vp_nar .byte x))))) Post) : mm_P g d M pc ls (.int x :: .int i :: .ref r :: st) h Post := by
  refine mm_heap (fun h' p e R s m args below meth c H locs cells slots LS Q X kk => ?_) kk
  obtain ⟨q, h1, h2, h3⟩ := a.ws (g := g)
  refine va_bast X.1.1 X.1.2.1 X.1.2.2.2.2.2.2.2.2.1 X.2.2.2.2.1.2 (mm_D g h.1 h.2.1) X.2.2.2.2.2.1 q 1 h3 rfl hi hd (fun H1 locs1 hP1 hD1 hS1 => kk H1 locs1 ?_ hS1)
  rw [← mm_set (g := g) h1 h2 rfl]
  exact hP1
theorem mm_last {r n : Nat} {f : Nat → Int64} {i : Int32} {x : Int64} (hd : decode M.2.1 pc = .ok (.lastore, 1)) (a : mm_at h r (.inl (2, n, .inr (.inl f)))) (hi : vp_in i n) (kk : mm_P g d M (pc + 1) ls st (mm_up h r (.inl (2, n, .inr (.inl (vp_updL f i.toNatClampNeg x))))) Post) : mm_P g d M pc ls (.long x :: .int i :: .ref r :: st) h Post := by
  refine mm_heap (fun h' p e R s m args below meth c H locs cells slots LS Q X kk => ?_) kk
  obtain ⟨q, h1, h2, h3⟩ := a.ws (g := g)
  refine va_last X.1.1 X.1.2.1 X.1.2.2.2.2.2.2.2.2.1 X.2.2.2.2.1.2 (mm_D g h.1 h.2.1) X.2.2.2.2.2.1 q 2 h3 rfl hi hd (fun H1 locs1 hP1 hD1 hS1 => kk H1 locs1 ?_ hS1)
  rw [← mm_set (g := g) h1 h2 rfl]
  exact hP1
theorem mm_alen {r t : Nat} {x : vp_A} (ht : t < 3) (hd : decode M.2.1 pc = .ok (.arraylength, 1)) (a : mm_at h r (.inl (t, x))) (kk : mm_P g d M (pc + 1) ls (.int (Int32.ofNat x.1) :: st) h Post) : mm_P g d M pc ls (.ref r :: st) h Post := by
  refine mm_same (fun h' p e R s m args below meth c H locs cells slots LS Q X hx hb hL kk => ?_) kk
  obtain ⟨q, h1, h2, h3⟩ := a.ws (g := g)
  match t, ht, h3 with
  | 0, _, h3 => exact va_alen hx hb X.1.2.2.2.2.2.2.2.2.1 X.2.2.2.2.1.2 q 0 (ty := .int) h3 rfl rfl hd (kk LS hL)
  | 1, _, h3 => exact va_alen hx hb X.1.2.2.2.2.2.2.2.2.1 X.2.2.2.2.1.2 q 1 (ty := .byte) h3 rfl rfl hd (kk LS hL)
  | 2, _, h3 => exact va_alen hx hb X.1.2.2.2.2.2.2.2.2.1 X.2.2.2.2.1.2 q 2 (ty := .long) h3 rfl rfl hd (kk LS hL)
end MMH
end
section
/-! the rows of the small machine that make cells, and those that read the script -/
section MMN
variable {g : mm_G} {d : Nat} {M : mm_Me} {pc : Nat} {ls : List (Option Value)} {st : List Value} {h : mm_Hp} {Post : mm_Ou → mm_Hp → Prop}
theorem mm_new_q {w : Nat → va_E} {n q : Nat} {x : va_E} {H1 : Heap} (hP1 : va_P (mm_K g) mm_cl (mm_ws g w n ++ [(q, x)]) H1) (hD1 : va_D (mm_A g) (mm_ws g w n ++ [(q, x)])) (hz : H1.size ≤ mm_B g + n + 1) : q = mm_B g + n ∧ H1.size = mm_B g + n + 1 := by
  have hl : (mm_ws g w n).length = n := by simp [mm_ws]
  have hq : (mm_ws g w n ++ [(q, x)])[n]? = some (q, x) := by
    rw [List.getElem?_append_right (by omega), hl]
    simp
  have h1 : q < H1.size := (hP1 n _ hq).lt
  have h2 : mm_B g ≤ q := hD1.2 n _ hq
  have h3 : ¬ q < mm_B g + n := by
    intro h4
    have h5 : (mm_ws g w n ++ [(q, x)])[q - mm_B g]? = some (mm_B g + (q - mm_B g), mm_c g (w (q - mm_B g + 64))) := by
      rw [List.getElem?_append_left (by omega), mm_ws_at (by omega)]
    have h6 := hD1.1 (q - mm_B g) n _ _ h5 hq (by simp only; omega)
    omega
  omega
theorem mm_grow {x : va_E} {N pc' : Nat} {st' : List Value}
    (hk : ∀ (h' : mm_Hp) (p : Program) (e : Env) (R : Room) (s : State) (m : MethodId) (args : Array Value) (below : List Frame) (meth : Method) (c : Code) (H : Heap) (locs : List Loc) (cells slots : Nat) (LS : Array Slot) (Q : State → Prop),
      mm_X g d M h h' ls p R s m args meth c H locs cells slots LS → cells + 1 ≤ R.cells → slots + N ≤ R.slots → (∀ (q : Nat) (H1 : Heap), va_P (mm_K g) mm_cl (mm_ws g h.1 h.2.1 ++ [(q, mm_c g x)]) H1 → va_D (mm_A g) (mm_ws g h.1 h.2.1 ++ [(q, mm_c g x)]) → va_S (mm_A g) s.heap H1 locs → W p (mm_l g) e R s m args below meth c H1 locs (cells + 1) (slots + N) Q (F0 m pc' LS (.ref q :: st'.map (mm_v g)))) → W p (mm_l g) e R s m args below meth c H locs cells slots Q (F0 m pc LS (st.map (mm_v g))))
    (k : mm_P g d M pc' ls (.ref (h.2.1 + 64) :: st') (mm_add h x N) Post) : mm_P g d M pc ls st h Post := by
  obtain ⟨o, h', hp, k1, k2, k⟩ := k
  have k1 : h.2.1 + 1 ≤ h'.2.1 := k1
  have k2 : h.2.2 + N ≤ h'.2.2 := k2
  refine ⟨o, h', hp, by omega, by omega, fun p e R s m args below meth c H locs cells slots LS X => ?_⟩
  obtain ⟨X1, X2, X3, X4, X5, X6, X7⟩ := id X
  refine hk h' p e R s m args below meth c H locs cells slots LS _ X (by omega) (by omega) (fun q H1 hP1 hD1 hS1 => ?_)
  intro T hT Y
  have h1 := Y.heapSize
  rw [hT] at h1
  obtain ⟨rfl, hz⟩ := mm_new_q hP1 hD1 (by omega)
  rw [mm_ws_push] at hP1
  have hk2 := k p e R s m args below meth c H1 locs (cells + 1) (slots + N) LS ⟨X1, X2, ⟨X3.1, by show s.heap.size + (cells + 1) = mm_B g + (h.2.1 + 1); omega⟩, ⟨by show cells + 1 + (h'.2.1 - (h.2.1 + 1)) ≤ R.cells; omega, by show slots + N + (h'.2.2 - (h.2.2 + N)) ≤ R.slots; omega⟩, ⟨by show H1.size = mm_B g + (h.2.1 + 1); omega, hP1⟩, hS1, X7⟩
  have e1 : cells + 1 + (h'.2.1 - (h.2.1 + 1)) = cells + (h'.2.1 - h.2.1) := by omega
  have e2 : slots + N + (h'.2.2 - (h.2.2 + N)) = slots + (h'.2.2 - h.2.2) := by omega
  have e3 : mm_v g (.ref (h.2.1 + 64)) = .ref (mm_B g + h.2.1) := by simp [mm_v, mm_ad, show ¬ h.2.1 + 64 < 64 by omega]
  simp only [List.map_cons, e3] at hk2
  simp only [e1, e2] at hk2
  exact hk2 T hT Y
theorem mm_new {index ci : Nat} {C : String} {T : u_T} {N : Nat} {ty : Nat → FieldType} {fs : List Value} (hk : mm_kc ci C T N ty) (hcl : Cond.classLink M.1.cls index C ∈ mm_tb) (hin : Cond.instantiable C N ∈ mm_tb) (hini : Cond.initialized C ∈ mm_tb) (hfs : ∀ j, j < N → defaultValue (ty j) = vp_V fs j) (hm : fs.map (mm_v g) = fs) (hd : decode M.2.1 pc = .ok (.new index, 3))
    (kk : mm_P g d M (pc + 3) ls (.ref (h.2.1 + 64) :: st) (mm_add h (.inr (ci, fs)) N) Post) : mm_P g d M pc ls st h Post := by
  refine mm_grow (fun h' p e R s m args below meth c H locs cells slots LS Q X hc hs kk => ?_) kk
  obtain ⟨c1, c2, c3, c4⟩ := hk
  have hts := X.1.2.2.2.2.2.2.2.1
  have e : mm_c g (.inr (ci, fs)) = .inr (ci, fs) := by
    show (Sum.inr (ci, fs.map (mm_v g)) : va_E) = _
    rw [hm]
  rw [e] at kk
  exact va_new (ci := ci) (fs := fs) (C := C) (T := T) (N := N) X.1.1 X.1.2.1 hts c2 ty c3 X.1.2.2.2.2.1 (hts _ hcl) (hts _ hin) (hts _ hini) X.1.2.2.2.2.2.2.2.2.1 X.2.2.2.2.1.2 (mm_D g h.1 h.2.1) X.2.2.2.2.2.1 (fun q hq => Nat.le_trans X.2.2.1.1 hq) c1 hfs hc hs hd (fun q H1 hP1 hD1 hS1 => kk q H1 hP1 hD1 hS1)
theorem mm_newa {t : Nat} {atype : ArrayType} {ty : FieldType} {n : Int32} {N : Nat} {a0 : vp_A} (hty : newarray.typeOf atype = ty) (ht : (mm_ty g)[t]? = some (mm_tC g t, ty)) (hw : Cond.arrayClass (newarray.typeOf atype) ∈ mm_tb) (hra : ∀ U cA, va_RA U cA ty → U.vm.findClass ("[" ++ ty.toString) = some cA)
    (ha : ∀ cA : ClassId, vp_cell cA a0 = arrV cA N (fun _ => defaultValue ty)) (hn : ¬ n < 0) (hN : n.toNatClampNeg = N) (hby : N * componentBytes ty ≤ 536870912) (hd : decode M.2.1 pc = .ok (.newarray atype, 2))
    (kk : mm_P g d M (pc + 2) ls (.ref (h.2.1 + 64) :: st) (mm_add h (.inl (t, a0)) N) Post) : mm_P g d M pc ls (.int n :: st) h Post := by
  refine mm_grow (fun h' p e R s m args below meth c H locs cells slots LS Q X hc hs kk => ?_) kk
  have hts := X.1.2.2.2.2.2.2.2.1
  have hK := X.1.2.2.2.2.2.2.2.2.1
  refine va_newa (ty := ty) (a0 := a0) (N' := N) X.1.1 X.1.2.1 (hts _ hw) hty hK X.2.2.2.2.1.2 (mm_D g h.1 h.2.1) X.2.2.2.2.2.1 (fun q hq => Nat.le_trans X.2.2.1.1 hq) ha hn hN hby hc hs hd (fun q cA H1 hK1 hP1 hD1 hS1 => ?_)
  have h1 := hra _ _ (hK.2 t _ ht).2
  have h2 := hra _ _ (hK1.2 3 (cA, ty) rfl).2
  have h3 : cA = mm_tC g t := Option.some.inj (h2.symm.trans h1)
  subst h3
  exact kk q H1 hP1 hD1 hS1
theorem mm_newai {n : Int32} {N : Nat} (hw : Cond.arrayClass .int ∈ mm_tb) (hn : ¬ n < 0) (hN : n.toNatClampNeg = N) (hby : N * 4 ≤ 536870912) (hd : decode M.2.1 pc = .ok (.newarray .int, 2))
    (kk : mm_P g d M (pc + 2) ls (.ref (h.2.1 + 64) :: st) (mm_add h (.inl (0, N, .inl fun _ => 0)) N) Post) : mm_P g d M pc ls (.int n :: st) h Post :=
  mm_newa (t := 0) (atype := .int) (ty := .int) rfl rfl hw (fun _ _ h => h) (fun _ => rfl) hn hN hby hd kk
theorem mm_newab {n : Int32} {N : Nat} (hw : Cond.arrayClass .byte ∈ mm_tb) (hn : ¬ n < 0) (hN : n.toNatClampNeg = N) (hby : N * 1 ≤ 536870912) (hd : decode M.2.1 pc = .ok (.newarray .byte, 2))
    (kk : mm_P g d M (pc + 2) ls (.ref (h.2.1 + 64) :: st) (mm_add h (.inl (1, N, .inl fun _ => 0)) N) Post) : mm_P g d M pc ls (.int n :: st) h Post :=
  mm_newa (t := 1) (atype := .byte) (ty := .byte) rfl rfl hw (fun _ _ h => h) (fun _ => rfl) hn hN hby hd kk
theorem mm_newal {n : Int32} {N : Nat} (hw : Cond.arrayClass .long ∈ mm_tb) (hn : ¬ n < 0) (hN : n.toNatClampNeg = N) (hby : N * 8 ≤ 536870912) (hd : decode M.2.1 pc = .ok (.newarray .long, 2))
    (kk : mm_P g d M (pc + 2) ls (.ref (h.2.1 + 64) :: st) (mm_add h (.inl (2, N, .inr (.inl fun _ => 0))) N) Post) : mm_P g d M pc ls (.int n :: st) h Post :=
  mm_newa (t := 2) (atype := .long) (ty := .long) rfl rfl hw (fun _ _ h => h) (fun _ => rfl) hn hN hby hd kk
theorem mm_sld {i : Int32} (hd : decode M.2.1 pc = .ok (.iaload, 1)) (hi : vp_in i (mm_sL g)) (kk : mm_P g d M (pc + 1) ls (.int (mm_sX g i.toNatClampNeg) :: st) h Post) : mm_P g d M pc ls (.int i :: .ref 0 :: st) h Post := by
  refine mm_same (fun h' p e R s m args below meth c H locs cells slots LS Q X hx hb hL kk => ?_) kk
  obtain ⟨f1, f2, -⟩ := X.1.2.2.2.2.2.2.2.2.2.1
  exact va_sld (b := mm_fa g 0) hx hb f1 (Nat.lt_of_lt_of_le f2 X.2.2.1.1) (Nat.not_le.mpr f2) X.2.2.2.2.2.1 hi hd (kk LS hL)
theorem mm_slen (hd : decode M.2.1 pc = .ok (.arraylength, 1)) (kk : mm_P g d M (pc + 1) ls (.int (Int32.ofNat (mm_sL g)) :: st) h Post) : mm_P g d M pc ls (.ref 0 :: st) h Post := by
  refine mm_same (fun h' p e R s m args below meth c H locs cells slots LS Q X hx hb hL kk => ?_) kk
  obtain ⟨f1, f2, -⟩ := X.1.2.2.2.2.2.2.2.2.2.1
  exact va_slen (b := mm_fa g 0) hx hb f1 (Nat.lt_of_lt_of_le f2 X.2.2.1.1) (Nat.not_le.mpr f2) X.2.2.2.2.2.1 hd (kk LS hL)
end MMN
end
section
/-! calls over the small machine: a callee that has been walked (mm_P from its entry) is a callee of the machine -/
def mm_en : List Value → List (Option Value)
  | [] => []
  | v :: r => if v.category = 2 then some v :: none :: mm_en r else some v :: mm_en r
def mm_in (ml : Nat) (as : List Value) : List (Option Value) := mm_en as ++ List.replicate (ml - (mm_en as).length) none
theorem mm_en_len (g : mm_G) (as : List Value) : (mm_en as).length = (lg_sl (as.map (mm_v g))).length := by
  induction as with
  | nil => rfl
  | cons v r ih =>
    simp only [mm_en, List.map_cons, lg_sl, List.flatMap_cons, mm_v_cat]
    by_cases hc : v.category = 2
    · simp only [hc, if_true, List.length_cons, List.length_append]
      have : (mm_en r).length = (List.flatMap (fun v => if v.category = 2 then [Slot.val v, .second] else [.val v]) (List.map (mm_v g) r)).length := ih
      simp only [this, List.length_nil]
      omega
    · simp only [hc, if_false, List.length_cons, List.length_append]
      have : (mm_en r).length = (List.flatMap (fun v => if v.category = 2 then [Slot.val v, .second] else [.val v]) (List.map (mm_v g) r)).length := ih
      simp only [this, List.length_nil]
      omega
theorem mm_en_at (g : mm_G) (as : List Value) : ∀ (k i : Nat) (v : Value), (mm_en as)[i]? = some (some v) → (k + i, mm_v g v) ∈ lv_args k (as.map (mm_v g)) := by
  induction as with
  | nil => intro k i v hi; simp [mm_en] at hi
  | cons u r ih =>
    intro k i v hi
    simp only [mm_en] at hi
    simp only [List.map_cons, lv_args, mm_v_cat]
    by_cases hc : u.category = 2
    · rw [if_pos hc] at hi
      rw [if_pos hc]
      match i, hi with
      | 0, hi =>
        simp at hi
        subst hi
        exact List.mem_cons_self
      | 1, hi => simp at hi
      | i + 2, hi =>
        have hi' : (mm_en r)[i]? = some (some v) := by simpa using hi
        have := ih (k + 2) i v hi'
        rw [show k + 2 + i = k + (i + 2) by omega] at this
        exact List.mem_cons_of_mem _ this
    · rw [if_neg hc] at hi
      rw [if_neg hc]
      match i, hi with
      | 0, hi =>
        simp at hi
        subst hi
        exact List.mem_cons_self
      | i + 1, hi =>
        have hi' : (mm_en r)[i]? = some (some v) := by simpa using hi
        have := ih (k + 1) i v hi'
        rw [show k + 1 + i = k + (i + 1) by omega] at this
        exact List.mem_cons_of_mem _ this
theorem mm_L.entry (g : mm_G) (as : List Value) {ml : Nat} (hl : (mm_en as).length ≤ ml) : mm_L g ((lg_sl (as.map (mm_v g)) ++ List.replicate (ml - (lg_sl (as.map (mm_v g))).length) Slot.unset).toArray) (mm_in ml as) := by
  have h := lv_entry (as.map (mm_v g)) (n := ml) (by rw [← mm_en_len g as]; exact hl)
  refine ⟨by rw [h.1]; simp [mm_in]; omega, h.2.1, fun i v hi => ?_⟩
  have h0 : (mm_en as)[i]? = some (some v) := by
    simp only [mm_in] at hi
    rcases Nat.lt_or_ge i (mm_en as).length with q | q
    · rw [List.getElem?_append_left q] at hi
      exact hi
    · rw [List.getElem?_append_right q, List.getElem?_replicate] at hi
      split at hi <;> cases hi
  have h1 := mm_en_at g as 0 i v h0
  rw [Nat.zero_add] at h1
  exact h.2.2 _ h1
def mm_Pc (g : mm_G) (as : List Value) (h : mm_Hp) : Array Value → State → Prop := fun a U => a = (as.map (mm_v g)).toArray ∧ mm_H g h U.heap ∧ va_K (mm_K g) mm_cl (mm_ty g) U ∧ mm_F g U U.heap
theorem mm_blind (g : mm_G) (as : List Value) (h : mm_Hp) : FrameBlind (mm_Pc g as h) := fun a U gg mk q => ⟨q.1, q.2.1, va_K.moved (u := U) (U := U.calling gg mk a) (Vm.Alike.refl U.vm) q.2.2.1, mm_F.moved (u := U) (U := U.calling gg mk a) (State.WarmedH.refl U) q.2.2.2⟩
abbrev mm_rm (d : Nat) (h h' : mm_Hp) : Room := { frames := d, cells := h'.2.1 - h.2.1, slots := h'.2.2 - h.2.2, locals := 40 * d }
/-- the walk of a method without handlers is its contract -/
theorem mm_met {g : mm_G} {d : Nat} {M : mm_Me} {as : List Value} {h h' : mm_Hp} {o : mm_Ou} (hst : (mm_l g).stackTraces = false) (hy : plainName M.1.cls = true) (hh : M.2.2.2.2 = []) (hl : (mm_en as).length ≤ M.2.2.1) (k : mm_E g d M 0 (mm_in M.2.2.1 as) [] h o h') :
    vx_Met (mm_l g) M.1 (Cond.code M.1 M.2.1 M.2.2.1 M.2.2.2.1 :: mm_tb) (mm_rm d h h') (mm_Pc g as h) (mm_Qc g o h') (mm_Qx g o h') (h'.2.1 - h.2.1) (h'.2.2 - h.2.2) (mm_A g) := by
  refine vx_ofW (cc := M.2.1) (maxL := M.2.2.1) (ret := M.2.2.2.1) hy rfl ?_
  intro p e s m args below meth c s₁ B hml hnh hv
  obtain ⟨rfl, hH, hK, hF⟩ := hv
  have hts := atoms_spec (ws := Cond.code M.1 M.2.1 M.2.2.1 M.2.2.2.1 :: mm_tb) B.pre
  rw [lg_entry_eq]
  have ht : c.exceptionTable.toList = tableOf M.2.2.2.2 := by
    rw [hh]
    cases hz : c.exceptionTable.toList with
    | nil => rfl
    | cons x r => exact (hnh x (by rw [hz]; exact List.mem_cons_self)).elim
  have hk := k.2.2 p e (headSpec (Cond.code M.1 M.2.1 M.2.2.1 M.2.2.2.1 :: mm_tb) (mm_rm d h h')).room s m (as.map (mm_v g)).toArray below meth c s.heap [] 0 0 _
    ⟨⟨B.exec, B.bytes, B.returns, hml, findClass_of_methodNamed B.named, B.notSynchronized, (name_of_methodNamed B.named B.method).1, fun w hw => hts w (List.mem_cons_of_mem _ hw), hK, hF, hst, ht⟩, ⟨Nat.le_refl _, Nat.le_refl _⟩, ⟨by rw [hH.1]; exact Nat.le_add_right _ _, by rw [hH.1]; rfl⟩, ⟨by rw [Nat.zero_add]; exact Nat.le_refl _, by rw [Nat.zero_add]; exact Nat.le_refl _⟩, hH, va_S.rf, mm_L.entry g as hl⟩
  rw [Nat.zero_add, Nat.zero_add] at hk
  exact hk
/-- one that returns -/
theorem mm_metR {l : Launch} {y : MethodName} {ws : List Cond} {rm : Room} {Pc : Array Value → State → Prop} {g : mm_G} {v : Option Value} {h' : mm_Hp} {mc ms : Nat} {free : Addr → Prop} (hM : vx_Met l y ws rm Pc (mm_Qc g (.inl v) h') (mm_Qx g (.inl v) h') mc ms free) : Met l y ws rm Pc (mm_Qc g (.inl v) h') mc ms free := by
  intro p e ha hc hk s m args below hf happ hP hK
  obtain ⟨n, o, h1, h2, h3, h4⟩ := hM p e ha hc hk s m args below hf happ hP hK
  refine ⟨n, o, h1, h2, h3, ?_⟩
  rcases h4 with h4 | ⟨q, -, E, ce, L, h4, -⟩
  · exact h4
  · cases h4.1
/-- what is told of a thrown thing: mm_T stands where the callee has thrown -/
def mm_ET (g : mm_G) (d : Nat) (M : mm_Me) (pc : Nat) (ls : List (Option Value)) (st : List Value) (h : mm_Hp) (E : String) (o : mm_Ou) (h' : mm_Hp) : Prop :=
  h.2.1 ≤ h'.2.1 ∧ h.2.2 ≤ h'.2.2 ∧ ∀ (p : Program) (e : Env) (R : Room) (s : State) (m : MethodId) (args : Array Value) (below : List Frame) (meth : Method) (c : Code) (H : Heap) (locs : List Loc) (cells slots : Nat) (LS : Array Slot) (q : Addr) (ce : Cell),
    mm_X g d M h h' ls p R s m args meth c H locs cells slots LS → H[q]? = some ce → ce.vm = .none → s.vm.findClass E = some ce.cls → vx_W p (mm_l g) e R s m args below meth c H locs cells slots (mm_Q g below args s o h' (cells + (h'.2.1 - h.2.1)) (slots + (h'.2.2 - h.2.2))) (F0 m pc LS (st.map (mm_v g))) q
def mm_T (g : mm_G) (d : Nat) (M : mm_Me) (pc : Nat) (ls : List (Option Value)) (st : List Value) (h : mm_Hp) (E : String) (Post : mm_Ou → mm_Hp → Prop) : Prop := ∃ o h', Post o h' ∧ mm_ET g d M pc ls st h E o h'
def mm_then (g : mm_G) (d : Nat) (M : mm_Me) (pc : Nat) (ls : List (Option Value)) (st : List Value) (Post : mm_Ou → mm_Hp → Prop) (o : mm_Ou) (h1 : mm_Hp) : Prop := match o with
  | .inl v => mm_P g d M (pc + 3) ls (v.toList ++ st) h1 Post
  | .inr E => mm_T g d M pc ls st h1 E Post
section MMC
variable {g : mm_G} {d : Nat} {M : mm_Me} {pc : Nat} {ls : List (Option Value)} {st stk : List Value} {h : mm_Hp} {Post PostC : mm_Ou → mm_Hp → Prop}
/-- behind a call -/
theorem mm_after {p : Program} {e : Env} {R : Room} {s : State} {m : MethodId} {args : Array Value} {below : List Frame} {meth : Method} {c : Code} {H : Heap} {locs : List Loc} {cells slots : Nat} {LS : Array Slot} {h1 h' : mm_Hp} {oC : mm_Ou} {a : Array Value} {Q : State → Prop} {stk' : List Value}
    (X : mm_X g d M h h' ls p R s m args meth c H locs cells slots LS) (n1 : h.2.1 ≤ h1.2.1) (n2 : h1.2.1 ≤ h'.2.1) (s1 : h.2.2 ≤ h1.2.2) (s2 : h1.2.2 ≤ h'.2.2)
    (hr : vx_Run p (mm_l g) e R s m args below meth c H locs cells slots (h1.2.1 - h.2.1) (h1.2.2 - h.2.2) (F0 m pc LS stk') (st.map (mm_v g)) (mm_Qc g oC h1 a) (mm_Qx g oC h1) (mm_A g))
    (kr : ∀ v, oC = .inl v → ∀ (H1 : Heap) (locs1 : List Loc), mm_X g d M h1 h' ls p R s m args meth c H1 locs1 (cells + (h1.2.1 - h.2.1)) (slots + (h1.2.2 - h.2.2)) LS → W p (mm_l g) e R s m args below meth c H1 locs1 (cells + (h1.2.1 - h.2.1)) (slots + (h1.2.2 - h.2.2)) Q (F0 m (pc + 3) LS ((v.toList ++ st).map (mm_v g))))
    (kt : ∀ E, oC = .inr E → ∀ (H1 : Heap) (locs1 : List Loc) (q : Addr) (ce : Cell), mm_X g d M h1 h' ls p R s m args meth c H1 locs1 (cells + (h1.2.1 - h.2.1)) (slots + (h1.2.2 - h.2.2)) LS → H1[q]? = some ce → ce.vm = .none → s.vm.findClass E = some ce.cls → vx_W p (mm_l g) e R s m args below meth c H1 locs1 (cells + (h1.2.1 - h.2.1)) (slots + (h1.2.2 - h.2.2)) Q (F0 m pc LS (st.map (mm_v g))) q) :
    W p (mm_l g) e R s m args below meth c H locs cells slots Q (F0 m pc LS stk') := by
  obtain ⟨X1, X2, X3, X4, X5, X6, X7⟩ := X
  have new : ∀ (H1 : Heap) (L : List Loc), mm_H g h1 H1 → (∀ q : Nat, q < mm_B g → H1[q]? = H[q]?) → (∀ q ∈ L, mm_A g q.base) → mm_X g d M h1 h' ls p R s m args meth c H1 (locs ++ L) (cells + (h1.2.1 - h.2.1)) (slots + (h1.2.2 - h.2.2)) LS := by
    intro H1 L hH hq hL
    refine ⟨X1, X2, ⟨X3.1, by have := X3.2; omega⟩, ⟨by have := X4.1; omega, by have := X4.2; omega⟩, hH, ⟨?_, fun q q1 q2 => ?_, fun q hq' => ?_⟩, X7⟩
    · have e1 := X6.1
      have e2 := X5.1
      have e3 := hH.1
      omega
    · rw [hq q (Nat.not_le.mp q2)]
      exact X6.2.1 q q1 q2
    · rcases List.mem_append.mp hq' with z | z
      · exact X6.2.2 q z
      · exact hL q z
  intro T hT Y
  rcases hr T hT Y with ⟨v, st₀, t, T', L, h0, Y', hL, e1, e2, ⟨v0, hv, hoc, hH, hlow⟩, stp⟩ | ⟨q, st₀, t, T', L, E, ce, h0, Y', hL, e1, e2, ⟨hv, hH, hlow⟩, hce, hcv, hcl, stp⟩
  · have hoc : v = v0.map (mm_v g) := Outcome.returned.inj hoc
    obtain ⟨t2, a1, b1⟩ := kr v0 hv T'.heap (locs ++ L) (new T'.heap L (by rw [e1]; exact hH) (fun q hq => by rw [e1, hlow q hq, h0]) hL) T' rfl Y'
    refine ⟨t2, stp t2 ?_, b1⟩
    have e5 : v.toList ++ st.map (mm_v g) = (v0.toList ++ st).map (mm_v g) := by
      subst hoc
      cases v0 <;> simp
    show Steps p.tables e below (T'.setTop (F0 m (pc + 3) LS (v.toList ++ st.map (mm_v g)))) t2
    rw [e5]
    exact a1
  · obtain ⟨t2, a1, b1⟩ := kt E hv T'.heap (locs ++ L) q ce (new T'.heap L (by rw [e1]; exact hH) (fun q hq => by rw [e1, hlow q hq, h0]) hL) (by rw [e1]; exact hce) hcv hcl T' rfl Y'
    exact ⟨t2, stp.trans a1, b1⟩
/-- a call of any kind, out of its run -/
theorem mm_call {d' : Nat} {M' : mm_Me} {as : List Value} {h : mm_Hp}
    (kc : mm_P g d' M' 0 (mm_in M'.2.2.1 as) [] h PostC) (kk : ∀ o h1, PostC o h1 → mm_then g d M pc ls st Post o h1)
    (hk : ∀ (o : mm_Ou) (h1 h' : mm_Hp) (p : Program) (e : Env) (R : Room) (s : State) (m : MethodId) (args : Array Value) (below : List Frame) (meth : Method) (c : Code) (H : Heap) (locs : List Loc) (cells slots : Nat) (LS : Array Slot), PostC o h1 → mm_E g d' M' 0 (mm_in M'.2.2.1 as) [] h o h1 →
      mm_X g d M h h' ls p R s m args meth c H locs cells slots LS → cells + (h1.2.1 - h.2.1) ≤ R.cells ∧ slots + (h1.2.2 - h.2.2) ≤ R.slots → ∃ a, vx_Run p (mm_l g) e R s m args below meth c H locs cells slots (h1.2.1 - h.2.1) (h1.2.2 - h.2.2) (F0 m pc LS (stk.map (mm_v g))) (st.map (mm_v g)) (mm_Qc g o h1 a) (mm_Qx g o h1) (mm_A g)) :
    mm_P g d M pc ls stk h Post := by
  obtain ⟨o, h1, hp, kE⟩ := kc
  have n1 := kE.1
  have s1 := kE.2.1
  have key : ∀ (o' : mm_Ou) (h' : mm_Hp), h1.2.1 ≤ h'.2.1 → h1.2.2 ≤ h'.2.2 → ∀ (p : Program) (e : Env) (R : Room) (s : State) (m : MethodId) (args : Array Value) (below : List Frame) (meth : Method) (c : Code) (H : Heap) (locs : List Loc) (cells slots : Nat) (LS : Array Slot),
      mm_X g d M h h' ls p R s m args meth c H locs cells slots LS → ∃ a, vx_Run p (mm_l g) e R s m args below meth c H locs cells slots (h1.2.1 - h.2.1) (h1.2.2 - h.2.2) (F0 m pc LS (stk.map (mm_v g))) (st.map (mm_v g)) (mm_Qc g o h1 a) (mm_Qx g o h1) (mm_A g) := by
    intro o' h' n2 s2 p e R s m args below meth c H locs cells slots LS X
    exact hk o h1 h' p e R s m args below meth c H locs cells slots LS hp kE X ⟨by have := X.2.2.2.1.1; omega, by have := X.2.2.2.1.2; omega⟩
  have k := kk o h1 hp
  cases o with
  | inl v =>
    obtain ⟨o', h', hp', n2, s2, k⟩ := k
    refine ⟨o', h', hp', by omega, by omega, fun p e R s m args below meth c H locs cells slots LS X => ?_⟩
    obtain ⟨a, hr⟩ := key o' h' n2 s2 p e R s m args below meth c H locs cells slots LS X
    refine mm_after X n1 n2 s1 s2 hr (fun v' hv H1 locs1 X1 => ?_) (fun E hE => by cases hE)
    cases hv
    have q := k p e R s m args below meth c H1 locs1 _ _ LS X1
    rw [show cells + (h1.2.1 - h.2.1) + (h'.2.1 - h1.2.1) = cells + (h'.2.1 - h.2.1) by omega, show slots + (h1.2.2 - h.2.2) + (h'.2.2 - h1.2.2) = slots + (h'.2.2 - h.2.2) by omega] at q
    exact q
  | inr E =>
    obtain ⟨o', h', hp', n2, s2, k⟩ := k
    refine ⟨o', h', hp', by omega, by omega, fun p e R s m args below meth c H locs cells slots LS X => ?_⟩
    obtain ⟨a, hr⟩ := key o' h' n2 s2 p e R s m args below meth c H locs cells slots LS X
    refine mm_after X n1 n2 s1 s2 hr (fun v' hv => by cases hv) (fun E' hE H1 locs1 q ce X1 hq hv hcl => ?_)
    cases hE
    have z := k p e R s m args below meth c H1 locs1 _ _ LS q ce X1 hq hv hcl
    rw [show cells + (h1.2.1 - h.2.1) + (h'.2.1 - h1.2.1) = cells + (h'.2.1 - h.2.1) by omega, show slots + (h1.2.2 - h.2.2) + (h'.2.2 - h1.2.2) = slots + (h'.2.2 - h.2.2) by omega] at z
    exact z
/-- what the tables say of a callee without handlers -/
def mm_cm (M' : mm_Me) (np : Nat) : Prop :=
  Cond.code M'.1 M'.2.1 M'.2.2.1 M'.2.2.2.1 ∈ mm_tb ∧ Cond.initialized M'.1.cls ∈ mm_tb ∧ plainName M'.1.cls = true ∧ (M'.1.cls ≠ "java/lang/invoke/MethodHandle" ∧ M'.1.cls ≠ "java/lang/invoke/VarHandle") ∧ (parseMethodDescriptor M'.1.desc).map (fun d => d.parameters.length) = some np ∧ M'.2.2.1 ≤ 21 ∧ M'.2.2.2.2 = []
theorem mm_cb {d' np : Nat} {M' : mm_Me} {index : Nat} {h1 h' : mm_Hp} {p : Program} {R : Room} {s : State} {m : MethodId} {args : Array Value} {meth : Method} {c : Code} {H : Heap} {locs : List Loc} {cells slots : Nat} {LS : Array Slot}
    (hd : d' + 1 ≤ d) (hc : mm_cm M' np) (hl : Cond.methodLink M.1.cls index M'.1 ∈ mm_tb) (X : mm_X g d M h h' ls p R s m args meth c H locs cells slots LS) :
    CallB R s args M.1.cls index M'.1 M'.2.1 M'.2.2.1 M'.2.2.2.1 (Cond.code M'.1 M'.2.1 M'.2.2.1 M'.2.2.2.1 :: mm_tb) (mm_rm d' h h1) (h1.2.1 - h.2.1) (h1.2.2 - h.2.2) np := by
  have hts := X.1.2.2.2.2.2.2.2.1
  obtain ⟨c1, c2, c3, c4, c5, c6, c7⟩ := hc
  refine ⟨rfl, rfl, by have := X.2.1.1; show d' + 1 ≤ R.frames; omega, by have := X.2.1.2; show 8 + (M'.2.2.1 + 11) + 40 * d' ≤ R.locals; omega, fun w hw a' U hW => ?_, List.mem_cons_self, hts _ c1, hts _ c2, c4, fun sig hs => ?_, hts _ hl⟩
  · rcases List.mem_cons.mp hw with rfl | hw
    · exact mm_words hW hts _ c1
    · exact mm_words hW hts w hw
  · rw [hs] at c5
    exact (Option.some.inj c5).symm
theorem mm_pc {h' : mm_Hp} {p : Program} {R : Room} {s : State} {m : MethodId} {args : Array Value} {meth : Method} {c : Code} {H : Heap} {locs : List Loc} {cells slots : Nat} {LS : Array Slot} (as : List Value) (X : mm_X g d M h h' ls p R s m args meth c H locs cells slots LS) :
    ∀ U : State, U.heap = H → s.WarmedH U.vm → mm_Pc g as h (as.map (mm_v g)).toArray U := by
  intro U hU hW
  refine ⟨rfl, by rw [hU]; exact X.2.2.2.2.1, va_K.moved hW.alike X.1.2.2.2.2.2.2.2.2.1, ?_⟩
  rw [hU]
  exact mm_F.moved hW (X.1.2.2.2.2.2.2.2.2.2.1.kept X.2.2.2.2.2.1.2.1)
theorem mm_rest (g : mm_G) {m : MethodId} {LS : Array Slot} {xs : List Value} (h8 : (st.map fun v => v.category).sum ≤ 8) : 2 * (F0 m pc LS xs).monitorRoom + ((st.map (mm_v g)).map fun v => v.category).sum ≤ 8 := by
  have e : ((st.map (mm_v g)).map fun v => v.category) = st.map fun v => v.category := by
    rw [List.map_map]
    exact List.map_congr_left (fun v _ => mm_v_cat g v)
  rw [e]
  show 2 * 0 + _ ≤ 8
  omega
theorem mm_callV {d' np ci r index : Nat} {M' : mm_Me} {as : List Value} {fs : List Value} {C : String} {T : u_T} {N : Nat} (hd : d' + 1 ≤ d) (hc : mm_cm M' np) (hl : Cond.methodLink M.1.cls index M'.1 ∈ mm_tb) (hi : Cond.instanceMethod M'.1 ∈ mm_tb) (hs : Cond.selects C M'.1 M'.1 ∈ mm_tb) (hci : mm_cl[ci]? = some (C, T, N)) (hdg : decode M.2.1 pc = .ok (.invokevirtual index, 3))
    (a : mm_at h r (.inr (ci, fs))) (hn : as.length = np) (h8 : (st.map fun v => v.category).sum ≤ 8) (hen : (mm_en (.ref r :: as)).length ≤ M'.2.2.1) (hlen : ls.length = M.2.2.1) (hstk : stk = as.reverse ++ .ref r :: st)
    (kc : mm_P g d' M' 0 (mm_in M'.2.2.1 (.ref r :: as)) [] h PostC) (kk : ∀ o h1, PostC o h1 → mm_then g d M pc ls st Post o h1) : mm_P g d M pc ls stk h Post := by
  subst hstk
  refine mm_call (st := st) (as := .ref r :: as) kc kk (fun o h1 h' p e R s m args below meth c H locs cells slots LS _ kE X hf => ⟨(Value.ref (mm_ad g r) :: as.map (mm_v g)).toArray, ?_⟩)
  have hts := X.1.2.2.2.2.2.2.2.1
  obtain ⟨q, -, -, h3⟩ := a.ws (g := g)
  exact vx_runV (As := as.map (mm_v g)) (b := mm_ad g r) (C := C) (n := np) ⟨X.1.1, X.1.2.1, X.1.2.2.2.1, X.1.2.2.2.2.1, hts⟩ (mm_met X.1.2.2.2.2.2.2.2.2.2.2.1 hc.2.2.1 hc.2.2.2.2.2.2 hen kE) ⟨mm_cb hd hc hl X, hts _ hi, hts _ hs⟩
    ⟨mm_blind g _ h, va_recv X.1.2.2.2.2.2.2.2.2.1 X.2.2.2.2.1.2 hci h3, mm_pc (.ref r :: as) X⟩ rfl (by simpa using hn) (X.2.2.2.2.2.2.1.trans hlen) (by simp [mm_v]) (mm_rest g h8) hdg hf
theorem mm_callS {d' np index : Nat} {M' : mm_Me} {as : List Value} (hd : d' + 1 ≤ d) (hc : mm_cm M' np) (hl : Cond.methodLink M.1.cls index M'.1 ∈ mm_tb) (hi : Cond.static M'.1 ∈ mm_tb) (hdg : decode M.2.1 pc = .ok (.invokestatic index, 3))
    (hn : as.length = np) (h8 : (st.map fun v => v.category).sum ≤ 8) (hen : (mm_en as).length ≤ M'.2.2.1) (hlen : ls.length = M.2.2.1) (hstk : stk = as.reverse ++ st)
    (kc : mm_P g d' M' 0 (mm_in M'.2.2.1 as) [] h PostC) (kk : ∀ o h1, PostC o h1 → mm_then g d M pc ls st Post o h1) : mm_P g d M pc ls stk h Post := by
  subst hstk
  refine mm_call (st := st) (as := as) kc kk (fun o h1 h' p e R s m args below meth c H locs cells slots LS _ kE X hf => ⟨(as.map (mm_v g)).toArray, ?_⟩)
  have hts := X.1.2.2.2.2.2.2.2.1
  exact vx_runS (As := as.map (mm_v g)) (n := np) ⟨X.1.1, X.1.2.1, X.1.2.2.2.1, X.1.2.2.2.2.1, hts⟩ (mm_met X.1.2.2.2.2.2.2.2.2.2.2.1 hc.2.2.1 hc.2.2.2.2.2.2 hen kE) ⟨mm_cb hd hc hl X, hts _ hi⟩
    ⟨mm_blind g _ h, mm_pc as X⟩ rfl (by simpa using hn) (X.2.2.2.2.2.2.1.trans hlen) (by simp) (mm_rest g h8) hdg hf
/-- a constructor's call: it returns -/
theorem mm_callI {d' np r index : Nat} {M' : mm_Me} {as : List Value} (hd : d' + 1 ≤ d) (hc : mm_cm M' np) (hl : Cond.methodLink M.1.cls index M'.1 ∈ mm_tb) (hi : Cond.instanceMethod M'.1 ∈ mm_tb) (hy : M'.1.name = "<init>") (hret : M'.2.2.2.1 = none) (hdg : decode M.2.1 pc = .ok (.invokespecial index, 3))
    (hn : as.length = np) (h8 : (st.map fun v => v.category).sum ≤ 8) (hen : (mm_en (.ref r :: as)).length ≤ M'.2.2.1) (hlen : ls.length = M.2.2.1) (hstk : stk = as.reverse ++ .ref r :: st)
    (kc : mm_P g d' M' 0 (mm_in M'.2.2.1 (.ref r :: as)) [] h PostC) (hno : ∀ E h1, ¬ PostC (.inr E) h1) (kk : ∀ v h1, PostC (.inl v) h1 → mm_P g d M (pc + 3) ls (v.toList ++ st) h1 Post) : mm_P g d M pc ls stk h Post := by
  subst hstk
  refine mm_call (st := st) (as := .ref r :: as) kc (fun o h1 hp => ?_) (fun o h1 h' p e R s m args below meth c H locs cells slots LS hp kE X hf => ⟨(Value.ref (mm_ad g r) :: as.map (mm_v g)).toArray, ?_⟩)
  · cases o with
    | inl v => exact kk v h1 hp
    | inr E => exact (hno E h1 hp).elim
  · cases o with
    | inr E => exact (hno E h1 hp).elim
    | inl v =>
      have hts := X.1.2.2.2.2.2.2.2.1
      have hM := mm_metR (mm_met X.1.2.2.2.2.2.2.2.2.2.2.1 hc.2.2.1 hc.2.2.2.2.2.2 hen kE)
      have hcb := mm_cb (h1 := h1) hd hc hl X
      rw [hret] at hM hcb
      intro T hT Y
      exact Or.inl (va_runI (As := as.map (mm_v g)) (b := mm_ad g r) (n := np) ⟨X.1.1, X.1.2.1, X.1.2.2.2.1, X.1.2.2.2.2.1, hts⟩ hM ⟨hcb, hy, hts _ hi⟩
        ⟨mm_blind g _ h, mm_pc (.ref r :: as) X⟩ rfl (by simpa using hn) (X.2.2.2.2.2.2.1.trans hlen) (by simp [mm_v]) (mm_rest g h8) hdg hf T hT Y)
/-- a method that the receiver's class inherits: it returns -/
theorem mm_callU {d' np ci r index : Nat} {M' : mm_Me} {x : MethodName} {owner : String} {as : List Value} {fs : List Value} {C : String} {T : u_T} {N : Nat} (hd : d' + 1 ≤ d) (hc : mm_cm M' np) (hy : M'.1 = ⟨owner, x.name, x.desc⟩) (hl : Cond.methodLink M.1.cls index x ∈ mm_tb) (hsm : Cond.sameMethod x.cls owner x.name x.desc ∈ mm_tb) (hi : Cond.instanceMethod M'.1 ∈ mm_tb) (hs : Cond.selects C x M'.1 ∈ mm_tb) (hci : mm_cl[ci]? = some (C, T, N)) (hdg : decode M.2.1 pc = .ok (.invokevirtual index, 3))
    (a : mm_at h r (.inr (ci, fs))) (hn : as.length = np) (h8 : (st.map fun v => v.category).sum ≤ 8) (hen : (mm_en (.ref r :: as)).length ≤ M'.2.2.1) (hlen : ls.length = M.2.2.1) (hstk : stk = as.reverse ++ .ref r :: st)
    (kc : mm_P g d' M' 0 (mm_in M'.2.2.1 (.ref r :: as)) [] h PostC) (hno : ∀ E h1, ¬ PostC (.inr E) h1) (kk : ∀ v h1, PostC (.inl v) h1 → mm_P g d M (pc + 3) ls (v.toList ++ st) h1 Post) : mm_P g d M pc ls stk h Post := by
  subst hstk
  refine mm_call (st := st) (as := .ref r :: as) kc (fun o h1 hp => ?_) (fun o h1 h' p e R s m args below meth c H locs cells slots LS hp kE X hf => ⟨(Value.ref (mm_ad g r) :: as.map (mm_v g)).toArray, ?_⟩)
  · cases o with
    | inl v => exact kk v h1 hp
    | inr E => exact (hno E h1 hp).elim
  · cases o with
    | inr E => exact (hno E h1 hp).elim
    | inl v =>
      have hts := X.1.2.2.2.2.2.2.2.1
      have hM := mm_metR (mm_met X.1.2.2.2.2.2.2.2.2.2.2.1 hc.2.2.1 hc.2.2.2.2.2.2 hen kE)
      obtain ⟨c1, c2, c3, c4, c5, c6, c7⟩ := id hc
      have hcy : M'.1.cls = owner := by rw [hy]
      have hdy : M'.1.desc = x.desc := by rw [hy]
      have hws : ∀ w ∈ (Cond.code M'.1 M'.2.1 M'.2.2.1 M'.2.2.2.1 :: mm_tb), ∀ (a' : Array Value) (U : State), s.WarmedH U.vm → w.before a' U = true := by
        intro w hw a' U hW
        rcases List.mem_cons.mp hw with rfl | hw
        · exact mm_words hW hts _ c1
        · exact mm_words hW hts w hw
      have hcu : va_CU R s args M.1.cls C owner index x M'.1 M'.2.1 M'.2.2.1 M'.2.2.2.1 (Cond.code M'.1 M'.2.1 M'.2.2.1 M'.2.2.2.1 :: mm_tb) (mm_rm d' h h1) (h1.2.1 - h.2.1) (h1.2.2 - h.2.2) np := by
        refine ⟨⟨rfl, rfl, by have := X.2.1.1; show d' + 1 ≤ R.frames; omega, by have := X.2.1.2; show 8 + (M'.2.2.1 + 11) + 40 * d' ≤ R.locals; omega, hws, List.mem_cons_self⟩, hts _ c1, hts _ c2, by rw [← hcy]; exact c4, fun sig hs => ?_, hts _ hl, hts _ hsm, ?_, hts _ hs, hts _ hi⟩
        · rw [hdy, hs] at c5
          exact (Option.some.inj c5).symm
        · rw [← hy]
          exact va_Decl.of (hts _ hi) (hts _ c1)
      obtain ⟨q, -, -, h3⟩ := a.ws (g := g)
      intro T hT Y
      exact Or.inl (va_runU (x := x) (y := M'.1) (owner := owner) (As := as.map (mm_v g)) (b := mm_ad g r) (C := C) (n := np) ⟨X.1.1, X.1.2.1, X.1.2.2.2.1, X.1.2.2.2.2.1, hts⟩ hM hcu
        ⟨mm_blind g _ h, va_recv X.1.2.2.2.2.2.2.2.2.1 X.2.2.2.2.1.2 hci h3, mm_pc (.ref r :: as) X⟩ rfl (by simpa using hn) (X.2.2.2.2.2.2.1.trans hlen) (by simp [mm_v]) (mm_rest g h8) hdg hf T hT Y)
end MMC
end
section
section MMT0
variable {p : Program} {l : Launch} {e : Env} {R : Room} {s : State} {m : MethodId} {args : Array Value} {below : List Frame} {meth : Method} {c : Code} {H : Heap} {locs : List Loc} {cells slots : Nat} {Q : State → Prop}
variable {mc ms : Nat} {free : Addr → Prop} {A0 A1 : Nat → Prop} {H0 : Heap} {a : Array Value} {ls : Array Slot} {st0 rest : List Value}
variable {Qc : Array Value → State → Outcome → State → Prop} {XC : String → State → State → Prop}
theorem mm_thrS {cc : ByteArray} {pc : Nat} (hexec : p.tables.exec = Jvm.exec) (hb : c.code = cc) (hl : l.stackTraces = false) {own cls text : String} {names : List String} {ik is ic mc ms sa : Nat} {A : Nat → Prop}
    (hown : s.vm.findClass own = some m.cls) (hcls : Bundle.fit cls = true) (hnames : ∀ n ∈ names, Bundle.fit n = true)
    (hk : (Cond.classLink own ik cls).before args s = true) (hini : (Cond.initialized cls).before args s = true) (hstr : vk_R own is text sa s) (hat : ∀ w ∈ vx_atS own ic cls names, w.before args s = true)
    (hgood : ∀ w ∈ Cond.classLink own ik cls :: Cond.initialized cls :: vx_atS own ic cls names, vx_ot w = true)
    (hU : vx_Zq Bundle.tN "UNASSIGNED_STACK" Bundle.steD A s s.heap) (hN : vx_Zq Bundle.tN "SUPPRESSED_SENTINEL" Bundle.listD A s s.heap) (hS : va_S A s.heap H locs) (hsize : ls.size = c.maxLocals)
    (d0 : decode cc pc = .ok (.new ik, 3)) (d3 : decode cc (pc + 3) = .ok (.dup, 1)) (d4 : decode cc (pc + 4) = .ok (.ldc is, 2)) (d6 : decode cc (pc + 6) = .ok (.invokespecial ic, 3)) (d9 : decode cc (pc + 9) = .ok (.athrow, 1))
    (hout : ∀ x ∈ c.exceptionTable.toList, covers x (pc + 9) = false)
    (hRframes : names.length + 3 < R.frames) (hRlocals : (rest.map fun v => v.category).sum + (13 * (names.length + 1) + 43) ≤ R.locals) (hRcells : cells + 1 ≤ R.cells) (hRslots : slots + 6 ≤ R.slots) (hlocks : meth.locks = false)
    (hx : ∀ (t : State) (ce : Cell), s.vm.Alike t.vm → t.heap.size = H.size + 1 → (∀ q : Nat, q < H.size → t.heap[q]? = H[q]?) → t.heap[H.size]? = some ce → ce.vm = .none → s.vm.findClass cls = some ce.cls → XC cls s t)
    (hf : ∀ z ∈ locs, free z.base) (hc : cells + 1 ≤ mc) (hs : slots + 6 ≤ ms) :
    W p l e R s m args below meth c H locs cells slots (vx_MQ below Qc XC args s mc ms free) (F0 m pc ls rest) := by
  intro T hT X
  have htr : e.platform.stackTraces = false := (show e.platform.stackTraces = l.stackTraces by rw [X.admits.platform]).trans hl
  have Y := vx_rebase X (R' := { frames := R.frames, locals := R.locals, cells := 1, slots := 6 }) (Nat.le_refl _) (Nat.le_refl _) hRcells hRslots
  obtain ⟨s', hA⟩ : ∃ z, z = (T.setVm s.vm).setFrames (.invoking m args :: below) := ⟨_, rfl⟩
  rw [← hA] at Y
  have hvm : s'.vm = s.vm := by rw [hA]; rfl
  have hhp : s'.heap = H := by rw [hA]; exact hT
  have hW0 : s.WarmedH s'.vm := by rw [hvm]; exact State.WarmedH.refl s
  have hat' : ∀ w ∈ vx_atS own ic cls names, w.before args s' = true := fun w hw => vx_ot_at hW0 hvm.symm (hgood w (List.mem_cons_of_mem _ (List.mem_cons_of_mem _ hw))) (hat w hw)
  have hk' : (Cond.classLink own ik cls).before args s' = true := vx_ot_at hW0 hvm.symm (hgood _ List.mem_cons_self) hk
  have hini' : (Cond.initialized cls).before args s' = true := vx_ot_at hW0 hvm.symm (hgood _ (List.mem_cons_of_mem _ List.mem_cons_self)) hini
  have hU' : vx_Zq Bundle.tN "UNASSIGNED_STACK" Bundle.steD A s' s'.heap := by rw [hhp]; exact vx_Zq.moved hW0.alike (hU.kept hS.2.1)
  have hN' : vx_Zq Bundle.tN "SUPPRESSED_SENTINEL" Bundle.listD A s' s'.heap := by rw [hhp]; exact vx_Zq.moved hW0.alike (hN.kept hS.2.1)
  have h : ∀ w ∈ Bundle.ownAtoms own ic cls names, w.before args s' = true := vx_own hat' (vx_isRefq hU'.1) (vx_isRefq hN'.1) hU'.2.word hN'.2.word
  have hown' : s'.vm.findClass own = some m.cls := by rw [hvm]; exact hown
  have hins : (Cond.instantiable cls 6).before args s' = true := h _ (by simp [Bundle.ownAtoms])
  obtain ⟨vm₁, cX, kX, hfX, hkX, -, -, X₁, st1⟩ := Y.newCold hexec (own := own) (C := cls) (index := ik) (n := 6) hown' hk' hins hini'
    (g := F0 m pc ls rest) rfl (by rw [hb]; exact d0) (Nat.le_refl _) (Nat.le_refl _)
  generalize hT1 : (T.setVm vm₁).pushCell { cls := cX, slots := kX.instanceTypes.map defaultValue, vm := .none } = T1 at X₁ st1
  have hcat : (Value.ref T.heap.size).category = 1 := rfl
  have hcellA : T1.heap[T.heap.size]? = some (freshCell cX kX) := by rw [← hT1]; exact State.heap_pushCell_size _ _
  have d3' : decode c.code (pc + 3) = .ok (.dup, 1) := by rw [hb]; exact d3
  have d4' : decode c.code (pc + 4) = .ok (.ldc is, 2) := by rw [hb]; exact d4
  have hstr' : vk_R own is text sa s' := vk_R.warm hW0 hstr
  obtain ⟨U, hsteps, hrun, hend, hW, hsame, ce, hce, hO⟩ := X₁.ctorThrowS hexec htr (own := own) (cls := cls) (names := names) (ic := ic) hown' hcls hnames h (fun x hx => nomatch hx) hfX hkX hcellA (by rw [hhp, hT]; exact Nat.le_refl _) (msg := .ref sa) rfl
    (g := { method := m, pc := pc + 6, locals := ls, stack := .ref sa :: .ref T.heap.size :: .ref T.heap.size :: rest, locked := none }) rfl hsize rfl rfl (rest := rest) rfl
    (by rw [hb]; exact d6) (by rw [hb]; exact d9) hout hRframes (by simp only [List.map_cons, List.sum_cons, hcat]; omega) hlocks
  have hsame' := hsame
  obtain ⟨f1, f2⟩ := vx_frame hsame
  rw [hhp] at f1 f2
  have hWs : s.WarmedH U.vm := State.WarmedH.trans hW0 hW
  have hcl : s.vm.findClass cls = some ce.cls := by
    have h9 := hO.cls
    rw [hvm] at h9
    exact h9
  have hall : s.sameButNew ({ U with vm := s.vm } : State) locs mc ms := by
    subst hA
    obtain ⟨e1, e2⟩ := hsame
    rw [State.setFrames_setFrames] at e1
    have h2 : (T.setVm s.vm).sameButNew ({ U with vm := s.vm } : State) [] (0 + 1) (0 + 6) := ⟨e1, e2⟩
    have h3 := X.same.trans h2
    rw [List.append_nil] at h3
    exact h3.mono hc hs
  have hz9 : U.heap.size = H.size + 1 := by
    have z1 : U.heap.size ≤ s'.heap.size + (0 + 1) := hsame'.2.2.1
    have z2 : T.heap.size < U.heap.size := (Array.getElem?_eq_some_iff.mp hce).1
    rw [hhp] at z1
    rw [hT] at z2
    omega
  refine ⟨U, ?_, .threw T.heap.size, hrun, hend, Or.inr ⟨T.heap.size, rfl, cls, ce, locs, hx U ce hWs.alike hz9 (fun q hq => f2 q hq (fun z hz => nomatch hz)) (by rw [← hT]; exact hce) hO.vm hcl, hce, hO.vm, hcl, hWs, hall, hf⟩⟩
  refine st1 _ ?_
  show Steps p.tables e below (T1.setTop { method := m, pc := pc + 3, locals := ls, stack := .ref T.heap.size :: rest, locked := none }) _
  jvm_step X₁.here [X₁.here.top, hexec, d3', Value.category]
  exact X₁.ldcString hexec (own := own) (text := text) (index := is) (a := sa) hown' hstr'.1 hstr'.2
    (g := { method := m, pc := pc + 4, locals := ls, stack := .ref T.heap.size :: .ref T.heap.size :: rest, locked := none }) rfl d4' _ hsteps
theorem mm_thrSW {cc : ByteArray} {pc : Nat} (hexec : p.tables.exec = Jvm.exec) (hb : c.code = cc) (hl : l.stackTraces = false) {own cls text : String} {names : List String} {ik is ic mc ms sa : Nat} {A : Nat → Prop}
    (hown : s.vm.findClass own = some m.cls) (hcls : Bundle.fit cls = true) (hnames : ∀ n ∈ names, Bundle.fit n = true)
    (hk : (Cond.classLink own ik cls).before args s = true) (hini : (Cond.initialized cls).before args s = true) (hstr : vk_R own is text sa s) (hat : ∀ w ∈ vx_atS own ic cls names, w.before args s = true)
    (hgood : ∀ w ∈ Cond.classLink own ik cls :: Cond.initialized cls :: vx_atS own ic cls names, vx_ot w = true)
    (hU : vx_Zq Bundle.tN "UNASSIGNED_STACK" Bundle.steD A s s.heap) (hN : vx_Zq Bundle.tN "SUPPRESSED_SENTINEL" Bundle.listD A s s.heap) (hS : va_S A s.heap H locs) (hsize : ls.size = c.maxLocals)
    (d0 : decode cc pc = .ok (.new ik, 3)) (d3 : decode cc (pc + 3) = .ok (.dup, 1)) (d4 : decode cc (pc + 4) = .ok (.ldc_w is, 3)) (d7 : decode cc (pc + 7) = .ok (.invokespecial ic, 3)) (d10 : decode cc (pc + 10) = .ok (.athrow, 1))
    (hout : ∀ x ∈ c.exceptionTable.toList, covers x (pc + 10) = false)
    (hRframes : names.length + 3 < R.frames) (hRlocals : (rest.map fun v => v.category).sum + (13 * (names.length + 1) + 43) ≤ R.locals) (hRcells : cells + 1 ≤ R.cells) (hRslots : slots + 6 ≤ R.slots) (hlocks : meth.locks = false)
    (hx : ∀ (t : State) (ce : Cell), s.vm.Alike t.vm → t.heap.size = H.size + 1 → (∀ q : Nat, q < H.size → t.heap[q]? = H[q]?) → t.heap[H.size]? = some ce → ce.vm = .none → s.vm.findClass cls = some ce.cls → XC cls s t)
    (hf : ∀ z ∈ locs, free z.base) (hc : cells + 1 ≤ mc) (hs : slots + 6 ≤ ms) :
    W p l e R s m args below meth c H locs cells slots (vx_MQ below Qc XC args s mc ms free) (F0 m pc ls rest) := by
  intro T hT X
  have htr : e.platform.stackTraces = false := (show e.platform.stackTraces = l.stackTraces by rw [X.admits.platform]).trans hl
  have Y := vx_rebase X (R' := { frames := R.frames, locals := R.locals, cells := 1, slots := 6 }) (Nat.le_refl _) (Nat.le_refl _) hRcells hRslots
  obtain ⟨s', hA⟩ : ∃ z, z = (T.setVm s.vm).setFrames (.invoking m args :: below) := ⟨_, rfl⟩
  rw [← hA] at Y
  have hvm : s'.vm = s.vm := by rw [hA]; rfl
  have hhp : s'.heap = H := by rw [hA]; exact hT
  have hW0 : s.WarmedH s'.vm := by rw [hvm]; exact State.WarmedH.refl s
  have hat' : ∀ w ∈ vx_atS own ic cls names, w.before args s' = true := fun w hw => vx_ot_at hW0 hvm.symm (hgood w (List.mem_cons_of_mem _ (List.mem_cons_of_mem _ hw))) (hat w hw)
  have hk' : (Cond.classLink own ik cls).before args s' = true := vx_ot_at hW0 hvm.symm (hgood _ List.mem_cons_self) hk
  have hini' : (Cond.initialized cls).before args s' = true := vx_ot_at hW0 hvm.symm (hgood _ (List.mem_cons_of_mem _ List.mem_cons_self)) hini
  have hU' : vx_Zq Bundle.tN "UNASSIGNED_STACK" Bundle.steD A s' s'.heap := by rw [hhp]; exact vx_Zq.moved hW0.alike (hU.kept hS.2.1)
  have hN' : vx_Zq Bundle.tN "SUPPRESSED_SENTINEL" Bundle.listD A s' s'.heap := by rw [hhp]; exact vx_Zq.moved hW0.alike (hN.kept hS.2.1)
  have h : ∀ w ∈ Bundle.ownAtoms own ic cls names, w.before args s' = true := vx_own hat' (vx_isRefq hU'.1) (vx_isRefq hN'.1) hU'.2.word hN'.2.word
  have hown' : s'.vm.findClass own = some m.cls := by rw [hvm]; exact hown
  have hins : (Cond.instantiable cls 6).before args s' = true := h _ (by simp [Bundle.ownAtoms])
  obtain ⟨vm₁, cX, kX, hfX, hkX, -, -, X₁, st1⟩ := Y.newCold hexec (own := own) (C := cls) (index := ik) (n := 6) hown' hk' hins hini'
    (g := F0 m pc ls rest) rfl (by rw [hb]; exact d0) (Nat.le_refl _) (Nat.le_refl _)
  generalize hT1 : (T.setVm vm₁).pushCell { cls := cX, slots := kX.instanceTypes.map defaultValue, vm := .none } = T1 at X₁ st1
  have hcat : (Value.ref T.heap.size).category = 1 := rfl
  have hcellA : T1.heap[T.heap.size]? = some (freshCell cX kX) := by rw [← hT1]; exact State.heap_pushCell_size _ _
  have d3' : decode c.code (pc + 3) = .ok (.dup, 1) := by rw [hb]; exact d3
  have d4' : decode c.code (pc + 4) = .ok (.ldc_w is, 3) := by rw [hb]; exact d4
  have hstr' : vk_R own is text sa s' := vk_R.warm hW0 hstr
  obtain ⟨U, hsteps, hrun, hend, hW, hsame, ce, hce, hO⟩ := X₁.ctorThrowS hexec htr (own := own) (cls := cls) (names := names) (ic := ic) hown' hcls hnames h (fun x hx => nomatch hx) hfX hkX hcellA (by rw [hhp, hT]; exact Nat.le_refl _) (msg := .ref sa) rfl
    (g := { method := m, pc := pc + 7, locals := ls, stack := .ref sa :: .ref T.heap.size :: .ref T.heap.size :: rest, locked := none }) rfl hsize rfl rfl (rest := rest) rfl
    (by rw [hb]; exact d7) (by rw [hb]; exact d10) hout hRframes (by simp only [List.map_cons, List.sum_cons, hcat]; omega) hlocks
  have hsame' := hsame
  obtain ⟨f1, f2⟩ := vx_frame hsame
  rw [hhp] at f1 f2
  have hWs : s.WarmedH U.vm := State.WarmedH.trans hW0 hW
  have hcl : s.vm.findClass cls = some ce.cls := by
    have h9 := hO.cls
    rw [hvm] at h9
    exact h9
  have hall : s.sameButNew ({ U with vm := s.vm } : State) locs mc ms := by
    subst hA
    obtain ⟨e1, e2⟩ := hsame
    rw [State.setFrames_setFrames] at e1
    have h2 : (T.setVm s.vm).sameButNew ({ U with vm := s.vm } : State) [] (0 + 1) (0 + 6) := ⟨e1, e2⟩
    have h3 := X.same.trans h2
    rw [List.append_nil] at h3
    exact h3.mono hc hs
  have hz9 : U.heap.size = H.size + 1 := by
    have z1 : U.heap.size ≤ s'.heap.size + (0 + 1) := hsame'.2.2.1
    have z2 : T.heap.size < U.heap.size := (Array.getElem?_eq_some_iff.mp hce).1
    rw [hhp] at z1
    rw [hT] at z2
    omega
  refine ⟨U, ?_, .threw T.heap.size, hrun, hend, Or.inr ⟨T.heap.size, rfl, cls, ce, locs, hx U ce hWs.alike hz9 (fun q hq => f2 q hq (fun z hz => nomatch hz)) (by rw [← hT]; exact hce) hO.vm hcl, hce, hO.vm, hcl, hWs, hall, hf⟩⟩
  refine st1 _ ?_
  show Steps p.tables e below (T1.setTop { method := m, pc := pc + 3, locals := ls, stack := .ref T.heap.size :: rest, locked := none }) _
  jvm_step X₁.here [X₁.here.top, hexec, d3', Value.category]
  exact X₁.ldcStringW hexec (own := own) (text := text) (index := is) (a := sa) hown' hstr'.1 hstr'.2
    (g := { method := m, pc := pc + 4, locals := ls, stack := .ref T.heap.size :: .ref T.heap.size :: rest, locked := none }) rfl d4' _ hsteps
end MMT0
section MMT
variable {g : mm_G} {d : Nat} {M : mm_Me} {pc : Nat} {ls : List (Option Value)} {st : List Value} {h : mm_Hp} {Post : mm_Ou → mm_Hp → Prop}
theorem mm_objInit {r idx : Nat} (hl : Cond.methodLink M.1.cls idx objectInit ∈ mm_tb) (hi : Cond.instanceMethod objectInit ∈ mm_tb) (hcd : Cond.code objectInit ⟨#[0xb1]⟩ 1 none ∈ mm_tb) (hd1 : 1 ≤ d) (hlen : ls.length = M.2.2.1) (h8 : (st.map fun v => v.category).sum ≤ 8) (hd : decode M.2.1 pc = .ok (.invokespecial idx, 3))
    (k : mm_P g d M (pc + 3) ls st h Post) : mm_P g d M pc ls (.ref r :: st) h Post := by
  refine mm_same (fun h' p e R s m args below meth c H locs cells slots LS Q X hx hb hL kk => ?_) k
  have hts := X.1.2.2.2.2.2.2.2.1
  have r1 := X.2.1.1
  have r2 := X.2.1.2
  have h9 := mm_rest (pc := pc) g (m := m) (LS := LS) (xs := []) h8
  refine W.objInit hx hb X.1.2.2.2.2.1 (hts _ hl) (hts _ hi) (hts _ hcd) rfl (by rw [X.1.2.2.2.1]; exact hL.1.trans hlen) rfl hd (by omega) ?_ (kk LS hL)
  have h10 : 2 * (F0 m pc LS (List.map (mm_v g) (Value.ref r :: st))).monitorRoom + ((st.map (mm_v g)).map fun v => v.category).sum ≤ 8 := h9
  have h11 : 2 * (F0 m pc LS (List.map (mm_v g) (Value.ref r :: st))).monitorRoom + ((st.map (mm_v g)).map fun v => v.category).sum + 12 ≤ R.locals := by omega
  exact h11
theorem mm_cat (g : mm_G) (st : List Value) : ((st.map (mm_v g)).map fun v => v.category) = st.map fun v => v.category := by
  rw [List.map_map]
  exact List.map_congr_left (fun v _ => mm_v_cat g v)
theorem mm_max {x y : Int32} {idx : Nat} (hl : Cond.methodLink M.1.cls idx Lib.Math.max.name ∈ mm_tb) (hs : Cond.static Lib.Math.max.name ∈ mm_tb) (hi : Cond.initialized "java/lang/Math" ∈ mm_tb) (hcd : Cond.code Lib.Math.max.name Lib.Math.max.code 2 (some .int) ∈ mm_tb) (hd1 : 1 ≤ d) (hlen : ls.length = M.2.2.1) (h8 : (st.map fun v => v.category).sum ≤ 8) (hd : decode M.2.1 pc = .ok (.invokestatic idx, 3))
    (k : mm_P g d M (pc + 3) ls (.int (if x < y then y else x) :: st) h Post) : mm_P g d M pc ls (.int y :: .int x :: st) h Post := by
  refine mm_same (fun h' p e R s m args below meth c H locs cells slots LS Q X hx hb hL kk => ?_) k
  have hts := X.1.2.2.2.2.2.2.2.1
  have r1 := X.2.1.1
  have r2 := X.2.1.2
  have r3 := X.2.2.2.1
  exact va_mmax hx hb (X.1.2.2.2.1.trans (hL.1.trans hlen).symm) X.1.2.2.2.2.1 (hts _ hl) (hts _ hs) (hts _ hi) (hts _ hcd) (by omega) (by rw [mm_cat]; omega) (by omega) (by omega) hd (kk LS hL)
theorem mm_min {x y : Int32} {idx : Nat} (hl : Cond.methodLink M.1.cls idx Lib.Math.min.name ∈ mm_tb) (hs : Cond.static Lib.Math.min.name ∈ mm_tb) (hi : Cond.initialized "java/lang/Math" ∈ mm_tb) (hcd : Cond.code Lib.Math.min.name Lib.Math.min.code 2 (some .int) ∈ mm_tb) (hd1 : 1 ≤ d) (hlen : ls.length = M.2.2.1) (h8 : (st.map fun v => v.category).sum ≤ 8) (hd : decode M.2.1 pc = .ok (.invokestatic idx, 3))
    (k : mm_P g d M (pc + 3) ls (.int (if y < x then y else x) :: st) h Post) : mm_P g d M pc ls (.int y :: .int x :: st) h Post := by
  refine mm_same (fun h' p e R s m args below meth c H locs cells slots LS Q X hx hb hL kk => ?_) k
  have hts := X.1.2.2.2.2.2.2.2.1
  have r1 := X.2.1.1
  have r2 := X.2.1.2
  have r3 := X.2.2.2.1
  exact va_mmin hx hb (X.1.2.2.2.1.trans (hL.1.trans hlen).symm) X.1.2.2.2.2.1 (hts _ hl) (hts _ hs) (hts _ hi) (hts _ hcd) (by omega) (by rw [mm_cat]; omega) (by omega) (by omega) hd (kk LS hL)
/-- a String constant -/
theorem mm_ldcS {i no : Nat} {tx : String} (hs : (M.1.cls, i, tx, no) ∈ mm_sts) (hn : no < 64) (hd : decode M.2.1 pc = .ok (.ldc i, 2)) (k : mm_P g d M (pc + 2) ls (.ref no :: st) h Post) : mm_P g d M pc ls st h Post := by
  refine mm_same (fun h' p e R s m args below meth c H locs cells slots LS Q X hx hb hL kk => ?_) k
  have hF := X.1.2.2.2.2.2.2.2.2.2.1.2.2.2.2.1 _ hs
  have kk2 := kk LS hL
  have e3 : mm_v g (.ref no) = .ref (mm_fa g no) := by simp [mm_v, mm_ad, hn]
  rw [List.map_cons, e3] at kk2
  exact va_ldcS hx hb X.1.2.2.2.2.1 hF hd kk2
theorem mm_out {E : String} (hh : M.2.2.2.2 = []) (hp : Post (.inr E) h) : mm_T g d M pc ls st h E Post := by
  refine ⟨_, _, hp, Nat.le_refl _, Nat.le_refl _, fun p e R s m args below meth c H locs cells slots LS q ce X hq hv hcl => ?_⟩
  refine vx_out (E := E) (ce := ce) ?_ X.1.2.2.2.2.2.1 hq hv hcl (fun t ht _ => ⟨rfl, by rw [ht]; exact X.2.2.2.2.1, fun q hq => ?_⟩) X.2.2.2.2.2.1.2.2 (by omega) (by omega)
  · rw [X.1.2.2.2.2.2.2.2.2.2.2.2, hh]
    intro x hx
    cases hx
  · rw [ht]
    exact X.2.2.2.2.2.1.2.1 q (Nat.lt_of_lt_of_le hq X.2.2.1.1) (Nat.not_le.mpr hq)
theorem mm_thrH {ciE : Nat} {cls : String} {h' : mm_Hp} {p : Program} {R : Room} {s : State} {m : MethodId} {args : Array Value} {meth : Method} {c : Code} {H : Heap} {locs : List Loc} {cells slots : Nat} {LS : Array Slot} (hci : mm_cl[ciE]? = some (cls, mm_TE, 0)) (X : mm_X g d M h h' ls p R s m args meth c H locs cells slots LS)
    (t : State) (ce : Cell) (hz : t.heap.size = H.size + 1) (ho : ∀ q : Nat, q < H.size → t.heap[q]? = H[q]?) (hce : t.heap[H.size]? = some ce) (hv : ce.vm = .none) (hcl : s.vm.findClass cls = some ce.cls) : mm_Qx g (.inr cls) (mm_add h (.inr (ciE, [])) 6) cls s t := by
  obtain ⟨X1, X2, X3, X4, X5, X6, X7⟩ := X
  refine ⟨rfl, ⟨by rw [hz, X5.1]; rfl, ?_⟩, fun q hq => ?_⟩
  · show va_P (mm_K g) mm_cl (mm_ws g (va_up h.1 (h.2.1 + 64) (.inr (ciE, []))) (h.2.1 + 1)) t.heap
    rw [← mm_ws_push]
    intro k q hk
    have hl : (mm_ws g h.1 h.2.1).length = h.2.1 := by simp [mm_ws]
    rcases Nat.lt_or_ge k h.2.1 with hk1 | hk1
    · rw [List.getElem?_append_left (by omega)] at hk
      have h9 := X5.2 k q hk
      exact h9.kept (ho q.1 h9.lt)
    · rw [List.getElem?_append_right (by omega), hl] at hk
      have e0 : k - h.2.1 = 0 := by
        cases hz : k - h.2.1 with
        | zero => rfl
        | succ z => rw [hz] at hk; simp at hk
      rw [e0] at hk
      simp at hk
      subst hk
      refine ⟨_, hci, ce, ?_, ?_, hv, fun k hk => absurd hk (Nat.not_lt_zero k)⟩
      · show t.heap[mm_B g + h.2.1]? = some ce
        rw [← X5.1]
        exact hce
      · have h9 := (X1.2.2.2.2.2.2.2.2.1.1 ciE _ hci).2.1
        exact Option.some.inj (hcl.symm.trans h9)
  · rw [ho q (by have := X5.1; omega)]
    exact X6.2.1 q (Nat.lt_of_lt_of_le hq X3.1) (Nat.not_le.mpr hq)
theorem mm_thr {cls text : String} {names : List String} {ik is ic ciE no : Nat} (hcls : Bundle.fit cls = true) (hnames : ∀ n ∈ names, Bundle.fit n = true) (hk : Cond.classLink M.1.cls ik cls ∈ mm_tb) (hini : Cond.initialized cls ∈ mm_tb) (hat : ∀ w ∈ vx_atS M.1.cls ic cls names, w ∈ mm_tb) (hgood : ∀ w ∈ Cond.classLink M.1.cls ik cls :: Cond.initialized cls :: vx_atS M.1.cls ic cls names, vx_ot w = true)
    (hs : (M.1.cls, is, text, no) ∈ mm_sts) (hci : mm_cl[ciE]? = some (cls, mm_TE, 0)) (hh : M.2.2.2.2 = []) (hlen : ls.length = M.2.2.1) (hd : names.length + 4 ≤ d) (h8 : (st.map fun v => v.category).sum ≤ 8)
    (d0 : decode M.2.1 pc = .ok (.new ik, 3)) (d3 : decode M.2.1 (pc + 3) = .ok (.dup, 1)) (d4 : decode M.2.1 (pc + 4) = .ok (.ldc is, 2)) (d6 : decode M.2.1 (pc + 6) = .ok (.invokespecial ic, 3)) (d9 : decode M.2.1 (pc + 9) = .ok (.athrow, 1))
    (hp : Post (.inr cls) (mm_add h (.inr (ciE, [])) 6)) : mm_P g d M pc ls st h Post := by
  refine ⟨_, _, hp, Nat.le_add_right _ _, Nat.le_add_right _ _, fun p e R s m args below meth c H locs cells slots LS X => ?_⟩
  obtain ⟨X1, X2, X3, X4, X5, X6, X7⟩ := id X
  have hts := X1.2.2.2.2.2.2.2.1
  have hF := X1.2.2.2.2.2.2.2.2.2.1
  have e1 : (mm_add h (.inr (ciE, [])) 6).2.1 - h.2.1 = 1 := by show h.2.1 + 1 - h.2.1 = 1; omega
  have e2 : (mm_add h (.inr (ciE, [])) 6).2.2 - h.2.2 = 6 := by show h.2.2 + 6 - h.2.2 = 6; omega
  rw [e1, e2] at X4
  rw [e1, e2]
  refine mm_thrS (A := mm_A g) X1.1 X1.2.1 X1.2.2.2.2.2.2.2.2.2.2.1 X1.2.2.2.2.1 hcls hnames (hts _ hk) (hts _ hini) (hF.2.2.2.2.1 _ hs) (fun w hw => hts w (hat w hw)) hgood hF.2.2.1 hF.2.2.2.1 X6 (by rw [X1.2.2.2.1]; exact X7.1.trans hlen) d0 d3 d4 d6 d9 ?_ (by omega) (by rw [mm_cat]; omega) (by omega) (by omega) X1.2.2.2.2.2.1
    (fun t ce _ hz ho hce hv hcl => mm_thrH hci X t ce hz ho hce hv hcl) X6.2.2 (by omega) (by omega)
  rw [X1.2.2.2.2.2.2.2.2.2.2.2, hh]
  intro x hx
  cases hx
theorem mm_thrw {cls text : String} {names : List String} {ik is ic ciE no : Nat} (hcls : Bundle.fit cls = true) (hnames : ∀ n ∈ names, Bundle.fit n = true) (hk : Cond.classLink M.1.cls ik cls ∈ mm_tb) (hini : Cond.initialized cls ∈ mm_tb) (hat : ∀ w ∈ vx_atS M.1.cls ic cls names, w ∈ mm_tb) (hgood : ∀ w ∈ Cond.classLink M.1.cls ik cls :: Cond.initialized cls :: vx_atS M.1.cls ic cls names, vx_ot w = true)
    (hs : (M.1.cls, is, text, no) ∈ mm_sts) (hci : mm_cl[ciE]? = some (cls, mm_TE, 0)) (hh : M.2.2.2.2 = []) (hlen : ls.length = M.2.2.1) (hd : names.length + 4 ≤ d) (h8 : (st.map fun v => v.category).sum ≤ 8)
    (d0 : decode M.2.1 pc = .ok (.new ik, 3)) (d3 : decode M.2.1 (pc + 3) = .ok (.dup, 1)) (d4 : decode M.2.1 (pc + 4) = .ok (.ldc_w is, 3)) (d6 : decode M.2.1 (pc + 7) = .ok (.invokespecial ic, 3)) (d9 : decode M.2.1 (pc + 10) = .ok (.athrow, 1))
    (hp : Post (.inr cls) (mm_add h (.inr (ciE, [])) 6)) : mm_P g d M pc ls st h Post := by
  refine ⟨_, _, hp, Nat.le_add_right _ _, Nat.le_add_right _ _, fun p e R s m args below meth c H locs cells slots LS X => ?_⟩
  obtain ⟨X1, X2, X3, X4, X5, X6, X7⟩ := id X
  have hts := X1.2.2.2.2.2.2.2.1
  have hF := X1.2.2.2.2.2.2.2.2.2.1
  have e1 : (mm_add h (.inr (ciE, [])) 6).2.1 - h.2.1 = 1 := by show h.2.1 + 1 - h.2.1 = 1; omega
  have e2 : (mm_add h (.inr (ciE, [])) 6).2.2 - h.2.2 = 6 := by show h.2.2 + 6 - h.2.2 = 6; omega
  rw [e1, e2] at X4
  rw [e1, e2]
  refine mm_thrSW (A := mm_A g) X1.1 X1.2.1 X1.2.2.2.2.2.2.2.2.2.2.1 X1.2.2.2.2.1 hcls hnames (hts _ hk) (hts _ hini) (hF.2.2.2.2.1 _ hs) (fun w hw => hts w (hat w hw)) hgood hF.2.2.1 hF.2.2.2.1 X6 (by rw [X1.2.2.2.1]; exact X7.1.trans hlen) d0 d3 d4 d6 d9 ?_ (by omega) (by rw [mm_cat]; omega) (by omega) (by omega) X1.2.2.2.2.2.1
    (fun t ce _ hz ho hce hv hcl => mm_thrH hci X t ce hz ho hce hv hcl) X6.2.2 (by omega) (by omega)
  rw [X1.2.2.2.2.2.2.2.2.2.2.2, hh]
  intro x hx
  cases hx
end MMT
end
section
/-! what a handler catches, where its class is linked at the catch -/
section MMK0
variable {e : Env} {s₀ : State} {f : JFrame} {q : Addr} {ce : Cell}
/-- a row of the table that covers the place: the class is linked, and takes the thing or not -/
theorem mm_row {S : State} {y : ExceptionTableEntry} {t : List ExceptionTableEntry} {ct : ClassId} {Q : Handler → Pre} {E : CtlPost} {d : Bool} {acts : List Action} (hy : covers y f.pc = true) (h0 : y.catchType ≠ 0) (hl : S.vm.ClassLinks e.platform f.method.cls y.catchType ct) (hcell : S.heap[q]? = some ce) (hv : ce.vm = .none) (hk : ∃ k, S.vm.classes[ce.cls]? = some k) :
    wp (findHandler.go f q (y :: t)) Q E e d acts S ↔ if S.vm.assignable ce.cls ct = true then Q (.found y.handlerPc) d acts (S.setVm (S.vm.noted f.method.cls y.catchType (.cls ct))) else wp (findHandler.go f q t) Q E e d acts (S.setVm (S.vm.noted f.method.cls y.catchType (.cls ct))) := by
  have hobj : ∀ k, ce.vm ≠ .statics k := fun k => by rw [hv]; exact fun z => by cases z
  obtain ⟨dk, _, _, kt, hd, _, _, _, _, hkt, _, hopen⟩ := hl.here
  have hal : S.vm.Alike (S.vm.noted f.method.cls y.catchType (.cls ct)) := (Vm.Alike.refl S.vm).noted _ _ _
  obtain ⟨k1, hk1⟩ := hk
  obtain ⟨k1', hk1', -⟩ := hal.2.2 _ _ hk1
  obtain ⟨k2', hk2', -⟩ := hal.2.2 _ _ hkt
  simp only [covers] at hy
  obtain ⟨ha, ht⟩ := (resolveClass_links e.toSetting hl).op (op := VmOp.resolveClass f.method.cls y.catchType) rfl
  have has : (S.vm.noted f.method.cls y.catchType (.cls ct)).assignable ce.cls ct = S.vm.assignable ce.cls ct := hal.assignable _ _
  cases hfit : S.vm.assignable ce.cls ct <;> simp [findHandler.go, hy, h0, ha, ht, hcell, hobj, hk1', hk2', has, hfit, VmOp.dirties, VmOp.acts]
theorem mm_hgo (hv : ce.vm = .none) (hk0 : ∃ k, s₀.vm.classes[ce.cls]? = some k) (x : ExceptionTableEntry) (suf : List ExceptionTableEntry) (hx : covers x f.pc = true) (h0 : x.catchType ≠ 0) {ct : ClassId} (hl : s₀.vm.ClassLinks e.platform f.method.cls x.catchType ct) (hfit : s₀.vm.assignable ce.cls ct = true) :
    ∀ (pre : List ExceptionTableEntry) (S : State), s₀.WarmedH S.vm → S.heap[q]? = some ce → (∀ y ∈ pre, covers y f.pc = false ∨ (y.catchType ≠ 0 ∧ ∃ c', s₀.vm.ClassLinks e.platform f.method.cls y.catchType c' ∧ s₀.vm.assignable ce.cls c' = false)) →
      ∃ vm', s₀.WarmedH vm' ∧ ∀ (Q : Handler → Pre) (E : CtlPost) (d : Bool) (acts : List Action), wp (findHandler.go f q (pre ++ x :: suf)) Q E e d acts S ↔ Q (.found x.handlerPc) d acts (S.setVm vm') := by
  intro pre
  induction pre with
  | nil =>
    intro S hW hcell _
    obtain ⟨k0, hk0⟩ := hk0
    obtain ⟨k0', hk0', -⟩ := hW.alike.2.2 _ _ hk0
    obtain ⟨dk, _, _, kt, hd, _, _, _, _, hkt, _, hopen⟩ := hl.here
    refine ⟨_, hW.noted hd hopen (State.rightAt_cls hl), fun Q E d acts => ?_⟩
    rw [List.nil_append, mm_row hx h0 (hW.classLinks hl) hcell hv ⟨k0', hk0'⟩, if_pos (by rw [hW.alike.assignable]; exact hfit)]
  | cons y ys ih =>
    intro S hW hcell hp
    have hr : ∀ z ∈ ys, covers z f.pc = false ∨ (z.catchType ≠ 0 ∧ ∃ c', s₀.vm.ClassLinks e.platform f.method.cls z.catchType c' ∧ s₀.vm.assignable ce.cls c' = false) := fun z hz => hp z (List.mem_cons_of_mem _ hz)
    cases hcov : covers y f.pc with
    | false =>
      obtain ⟨vm', h1, h2⟩ := ih S hW hcell hr
      exact ⟨vm', h1, fun Q E d acts => by rw [List.cons_append, W.findHandler_go_skip hcov]; exact h2 Q E d acts⟩
    | true =>
      rcases hp y List.mem_cons_self with h9 | ⟨hy0, c', hl', hno⟩
      · rw [h9] at hcov; cases hcov
      · obtain ⟨k0, hk0⟩ := hk0
        obtain ⟨k0', hk0', -⟩ := hW.alike.2.2 _ _ hk0
        obtain ⟨dk, _, _, kt, hd, _, _, _, _, hkt, _, hopen⟩ := hl'.here
        obtain ⟨vm', h1, h2⟩ := ih (S.setVm (S.vm.noted f.method.cls y.catchType (.cls c'))) (hW.noted hd hopen (State.rightAt_cls hl')) hcell hr
        refine ⟨vm', h1, fun Q E d acts => ?_⟩
        rw [List.cons_append, mm_row hcov hy0 (hW.classLinks hl') hcell hv ⟨k0', hk0'⟩, if_neg (by rw [hW.alike.assignable, hno]; decide)]
        exact h2 Q E d acts
end MMK0
section MMK1
variable {p : Program} {l : Launch} {e : Env} {R : Room} {s : State} {m : MethodId} {args : Array Value} {below : List Frame} {meth : Method} {c : Code} {H : Heap} {locs : List Loc} {cells slots : Nat} {Q : State → Prop} {pc : Nat} {LS : Array Slot} {rest : List Value}
theorem mm_catchW {own name : String} {E : String} {ce : Cell} {q : Addr} (hown : s.vm.findClass own = some m.cls) (pre : List ExceptionTableEntry) (x : ExceptionTableEntry) (suf : List ExceptionTableEntry) (hsplit : c.exceptionTable.toList = pre ++ x :: suf)
    (hpass : ∀ z ∈ pre, covers z pc = false ∨ (z.catchType ≠ 0 ∧ ∃ nm : String, (Cond.classLink own z.catchType nm).before args s = true ∧ va_Nc E nm s)) (hx : covers x pc = true) (h0 : x.catchType ≠ 0)
    (hlink : (Cond.classLink own x.catchType name).before args s = true) (hcast : (Cond.castable E name).before args s = true) (hcell : H[q]? = some ce) (hv : ce.vm = .none) (hcl : s.vm.findClass E = some ce.cls)
    (kk : W p l e R s m args below meth c H locs cells slots Q (F0 m x.handlerPc LS [.ref q])) : vx_W p l e R s m args below meth c H locs cells slots Q (F0 m pc LS rest) q := by
  intro T hT X
  have hpl : e.platform.magicAccessors = ({} : Platform).magicAccessors := by rw [X.admits.platform]
  obtain ⟨c3, c4, hc3, hc4, hasg⟩ := Cond.castable_spec hcast
  cases Option.some.inj (hc3.symm.trans hcl)
  obtain ⟨c5, hc5, hcl5⟩ := Cond.classLink_spec hown hlink e.platform hpl
  cases Option.some.inj (hc4.symm.trans hc5)
  have hcT : ((T.setTop (F0 m pc LS rest)).pushFrame (.throwing q)).heap[q]? = some ce := by
    show T.heap[q]? = some ce
    rw [hT]
    exact hcell
  obtain ⟨vm', hW', hgo⟩ := mm_hgo (e := e) (s₀ := s) (f := F0 m pc LS rest) (q := q) hv (by obtain ⟨k9, h9, -⟩ := Vm.findClass_spec hcl; exact ⟨k9, h9⟩) x suf hx h0 hcl5 hasg pre ((T.setTop (F0 m pc LS rest)).pushFrame (.throwing q)) X.warmed hcT
    (fun z hz => by
      rcases hpass z hz with h | ⟨hz0, nm, hl1, hn1⟩
      · exact Or.inl h
      · obtain ⟨c6, hc6, hcl6⟩ := Cond.classLink_spec hown hl1 e.platform hpl
        obtain ⟨a8, b8, h1, h2, h3⟩ := hn1
        cases Option.some.inj (h1.symm.trans hcl)
        cases Option.some.inj (h2.symm.trans hc6)
        exact Or.inr ⟨hz0, _, hcl6, h3⟩)
  obtain ⟨t, a1, b1⟩ := kk (T.setVm vm') hT (X.noted hW')
  refine ⟨t, ?_, b1⟩
  have h : At T (F0 m pc LS rest).method c below := X.here
  obtain ⟨hg1, hg2⟩ := h.throwing q
  refine Steps.head hg1 hg2 ?_
  have hfind : ∀ (Q : Handler → Pre) (E : CtlPost) (d : Bool) (acts : List Action), wp (findHandler (F0 m pc LS rest) q) Q E e d acts ((T.setTop (F0 m pc LS rest)).pushFrame (.throwing q)) ↔ Q (.found x.handlerPc) d acts (((T.setTop (F0 m pc LS rest)).pushFrame (.throwing q)).setVm vm') := by
    intro Q E d acts
    rw [W.findHandler_eq (s := (T.setTop (F0 m pc LS rest)).pushFrame (.throwing q)) (f := F0 m pc LS rest) (meth := meth) (code := c) X.method' X.code, hsplit]
    exact hgo Q E d acts
  have hstep : (stepThrowing e ((T.setTop (F0 m pc LS rest)).pushFrame (.throwing q)) q (.java (F0 m pc LS rest) :: T.frames.tail)).Is ((((T.setTop (F0 m pc LS rest)).pushFrame (.throwing q)).setVm vm').setFrames (.java { F0 m pc LS rest with pc := x.handlerPc, stack := [.ref q] } :: T.frames.tail)) [] := by
    simp only [stepThrowing, searchFrame, vmDo]
    generalize hr : Sem.go _ e false [] ((T.setTop (F0 m pc LS rest)).pushFrame (.throwing q)) = res
    obtain ⟨as, rfl, ha⟩ := Sem.eq_ok_of hr (a := Handler.found x.handlerPc) (s' := ((T.setTop (F0 m pc LS rest)).pushFrame (.throwing q)).setVm vm') (acts' := []) (by simp [hfind _ _ _ _])
    exact ⟨rfl, ha⟩
  rw [stepThread_throwing (frames_entered h.top _), hstep.1]
  obtain ⟨g₀, hg⟩ := Option.isSome_iff_exists.mp h.top
  obtain ⟨r, hr⟩ := State.topJava?_eq_some.mp hg
  have hr' : (T.setVm vm').frames = .java g₀ :: r := hr
  have e9 : (((T.setTop (F0 m pc LS rest)).pushFrame (.throwing q)).setVm vm').setFrames (.java { F0 m pc LS rest with pc := x.handlerPc, stack := [.ref q] } :: T.frames.tail) = (T.setVm vm').setTop (F0 m x.handlerPc LS [.ref q]) := by
    rw [State.setTop_of_frames _ hr', hr, List.tail_cons, State.pushFrame, State.setTop_of_frames _ hr]
    show (((T.setVm vm').setFrames _).setFrames _).setFrames _ = _
    rw [State.setFrames_setFrames, State.setFrames_setFrames]
  rw [e9]
  exact a1
end MMK1
section MMK
variable {g : mm_G} {d : Nat} {M : mm_Me} {pc : Nat} {ls ls' : List (Option Value)} {st : List Value} {h : mm_Hp} {Post : mm_Ou → mm_Hp → Prop}
/-- a thing is caught, and its handler lays it into a local, where it is forgotten -/
theorem mm_catch {E name : String} {k : Fin 4} (pre : List (Nat × Nat × Nat × Nat)) (x : Nat × Nat × Nat × Nat) (suf : List (Nat × Nat × Nat × Nat)) (hsplit : M.2.2.2.2 = pre ++ x :: suf)
    (hpass : ∀ z ∈ pre, z.2.2.2 ≠ 0 ∧ Cond.classLink M.1.cls z.2.2.2 "java/util/NoSuchElementException" ∈ mm_tb ∧ E = "java/lang/IllegalArgumentException") (hx : x.1 ≤ pc ∧ pc < x.2.1) (h0 : x.2.2.2 ≠ 0) (hlink : Cond.classLink M.1.cls x.2.2.2 name ∈ mm_tb) (hcast : Cond.castable E name ∈ mm_tb)
    (hd : decode M.2.1 x.2.2.1 = .ok (.astore_n k, 1)) (hk : (k : Nat) < ls.length) (hl : (mm_kl ls (k : Nat)).set (k : Nat) none = ls') (kk : mm_P g d M (x.2.2.1 + 1) ls' [] h Post) : mm_T g d M pc ls st h E Post := by
  obtain ⟨o, h', hp, k1, k2, kk⟩ := kk
  refine ⟨o, h', hp, k1, k2, fun p e R s m args below meth c H locs cells slots LS q ce X hq hv hcl => ?_⟩
  have hts := X.1.2.2.2.2.2.2.2.1
  have hF := X.1.2.2.2.2.2.2.2.2.2.1
  refine mm_catchW (E := E) (name := name) X.1.2.2.2.2.1 (tableOf pre) ⟨x.1, x.2.1, x.2.2.1, x.2.2.2⟩ (tableOf suf) (by rw [X.1.2.2.2.2.2.2.2.2.2.2.2, hsplit]; simp [tableOf]) (fun z hz => ?_) (by simp [covers]; exact hx) h0 (hts _ hlink) (hts _ hcast) hq hv hcl ?_
  · obtain ⟨z0, h1, rfl⟩ := List.mem_map.mp hz
    obtain ⟨h2, h3, h4⟩ := hpass z0 h1
    exact Or.inr ⟨h2, _, hts _ h3, by rw [h4]; exact hF.2.2.2.2.2.1⟩
  · have hL := X.2.2.2.2.2.2
    refine lv_astore_n X.1.1 X.1.2.1 hd rfl hL.has hk rfl (fun LS' hL' => ?_)
    refine kk p e R s m args below meth c H locs cells slots LS' ⟨X.1, X.2.1, X.2.2.1, X.2.2.2.1, X.2.2.2.2.1, X.2.2.2.2.2.1, ?_⟩
    subst hl
    refine ⟨by rw [hL'.1]; simp [mm_kl_len], hL'.2.1, fun j u hj => ?_⟩
    rw [List.getElem?_set] at hj
    by_cases e1 : (k : Nat) = j
    · rw [if_pos e1] at hj
      split at hj <;> cases hj
    · rw [if_neg e1] at hj
      obtain ⟨h1, h2⟩ := mm_kl_at hj
      refine hL'.2.2 (j, mm_v g u) (List.mem_cons_of_mem _ (List.mem_filter.mpr ⟨mm_al_mem.mpr ⟨u, h1, rfl⟩, ?_⟩))
      have e' : ¬ j = (k : Nat) := fun z => e1 z.symm
      by_cases hc : j + 1 = (k : Nat)
      · have h3 : ¬ u.category = 2 := fun z => h2 ⟨hc, z⟩
        simp [e', hc, mm_v_cat, h3]
      · simp [e', hc]
end MMK
end
section
/-! the rows of the small machine for what lies outside: texts, their bytes, two statics; System.arraycopy; methods with handlers -/
section MMF
variable {g : mm_G} {d : Nat} {M : mm_Me} {pc : Nat} {ls : List (Option Value)} {st stk : List Value} {h : mm_Hp} {Post PostC : mm_Ou → mm_Hp → Prop}
theorem mm_ad_f {i : Nat} (hi : i < 64) : mm_ad g i = mm_fa g i := by simp [mm_ad, hi]
theorem mm_gval {i : Nat} (h1 : 1 ≤ i) (h3 : i ≤ 3) (hc : M.1.cls = "java/lang/String") (hl : Cond.fieldLink "java/lang/String" 9 "java/lang/String" "value" "[B" ∈ mm_tb) (hd : decode M.2.1 pc = .ok (.getfield 9, 3)) (k : mm_P g d M (pc + 3) ls (.ref (i + 8) :: st) h Post) : mm_P g d M pc ls (.ref i :: st) h Post := by
  refine mm_same (fun h' p e R s m args below meth c H locs cells slots LS Q X hx hb hL kk => ?_) k
  have hF := X.1.2.2.2.2.2.2.2.2.2.1
  have kk2 := kk LS hL
  have e1 : mm_v g (.ref i) = .ref (mm_fa g i) := by rw [← mm_ad_f (show i < 64 by omega)]; rfl
  have e2 : mm_v g (.ref (i + 8)) = .ref (mm_fa g (i + 8)) := by rw [← mm_ad_f (show i + 8 < 64 by omega)]; rfl
  rw [List.map_cons, e2] at kk2
  rw [List.map_cons, e1]
  exact vk_getf hx hb (hF.2.2.2.2.2.2.1 i h1 h3).2.2.1 X.2.2.2.2.2.1 X.1.2.2.2.2.1 (by rw [hc]; exact X.1.2.2.2.2.2.2.2.1 _ hl) (fun _ z => z) hd kk2
theorem mm_gcod {i : Nat} (h1 : 1 ≤ i) (h3 : i ≤ 3) (hc : M.1.cls = "java/lang/String") (hl : Cond.fieldLink "java/lang/String" 15 "java/lang/String" "coder" "B" ∈ mm_tb) (hd : decode M.2.1 pc = .ok (.getfield 15, 3)) (k : mm_P g d M (pc + 3) ls (.int 0 :: st) h Post) : mm_P g d M pc ls (.ref i :: st) h Post := by
  refine mm_same (fun h' p e R s m args below meth c H locs cells slots LS Q X hx hb hL kk => ?_) k
  have hF := X.1.2.2.2.2.2.2.2.2.2.1
  have e1 : mm_v g (.ref i) = .ref (mm_fa g i) := by rw [← mm_ad_f (show i < 64 by omega)]; rfl
  rw [List.map_cons, e1]
  exact vk_getf hx hb (hF.2.2.2.2.2.2.1 i h1 h3).2.1 X.2.2.2.2.2.1 X.1.2.2.2.2.1 (by rw [hc]; exact X.1.2.2.2.2.2.2.2.1 _ hl) (fun _ z => z) hd (kk LS hL)
theorem mm_gcs (hc : M.1.cls = "java/lang/String") (hl : Cond.fieldLink "java/lang/String" 38 "java/lang/String" "COMPACT_STRINGS" "Z" ∈ mm_tb) (hd : decode M.2.1 pc = .ok (.getstatic 38, 3)) (k : mm_P g d M (pc + 3) ls (.int 1 :: st) h Post) : mm_P g d M pc ls st h Post := by
  refine mm_same (fun h' p e R s m args below meth c H locs cells slots LS Q X hx hb hL kk => ?_) k
  have hF := X.1.2.2.2.2.2.2.2.2.2.1
  exact va_gets hx hb hF.2.2.2.2.2.2.2.1 X.2.2.2.2.2.1 X.1.2.2.2.2.1 (by rw [hc]; exact X.1.2.2.2.2.2.2.2.1 _ hl) (fun _ z => z) hd (kk LS hL)
theorem mm_gsio (hc : M.1.cls = "java/lang/String") (hl : Cond.fieldLink "java/lang/String" 1053 "jdk/internal/util/Preconditions" "SIOOBE_FORMATTER" "Ljava/util/function/BiFunction;" ∈ mm_tb) (hd : decode M.2.1 pc = .ok (.getstatic 1053, 3)) (k : mm_P g d M (pc + 3) ls (.float 0 :: st) h Post) : mm_P g d M pc ls st h Post := by
  refine mm_same (fun h' p e R s m args below meth c H locs cells slots LS Q X hx hb hL kk => ?_) k
  have hF := X.1.2.2.2.2.2.2.2.2.2.1
  exact va_gets hx hb hF.2.2.2.2.2.2.2.2 X.2.2.2.2.2.1 X.1.2.2.2.2.1 (by rw [hc]; exact X.1.2.2.2.2.2.2.2.1 _ hl) (fun _ z => z) hd (kk LS hL)
theorem mm_glen {i : Nat} (h1 : 1 ≤ i) (h3 : i ≤ 3) (hd : decode M.2.1 pc = .ok (.arraylength, 1)) (k : mm_P g d M (pc + 1) ls (.int (Int32.ofNat (mm_sb i).length) :: st) h Post) : mm_P g d M pc ls (.ref (i + 8) :: st) h Post := by
  refine mm_same (fun h' p e R s m args below meth c H locs cells slots LS Q X hx hb hL kk => ?_) k
  have hF := X.1.2.2.2.2.2.2.2.2.2.1
  have e2 : mm_v g (.ref (i + 8)) = .ref (mm_fa g (i + 8)) := by rw [← mm_ad_f (show i + 8 < 64 by omega)]; rfl
  rw [List.map_cons, e2]
  exact va_tlen hx hb (hF.2.2.2.2.2.2.1 i h1 h3).2.2.2 X.2.2.2.2.2.1 rfl hd (kk LS hL)
theorem mm_gbal {i : Nat} {j : Int32} (h1 : 1 ≤ i) (h3 : i ≤ 3) (hj : vp_in j (mm_sb i).length) (hd : decode M.2.1 pc = .ok (.baload, 1)) (k : mm_P g d M (pc + 1) ls (.int ((mm_sb i).getD j.toNatClampNeg 0) :: st) h Post) : mm_P g d M pc ls (.int j :: .ref (i + 8) :: st) h Post := by
  refine mm_same (fun h' p e R s m args below meth c H locs cells slots LS Q X hx hb hL kk => ?_) k
  have hF := X.1.2.2.2.2.2.2.2.2.2.1
  have e2 : mm_v g (.ref (i + 8)) = .ref (mm_fa g (i + 8)) := by rw [← mm_ad_f (show i + 8 < 64 by omega)]; rfl
  rw [List.map_cons, List.map_cons, e2]
  exact va_tb hx hb (hF.2.2.2.2.2.2.1 i h1 h3).2.2.2 X.2.2.2.2.2.1 hj rfl hd (kk LS hL)
/-- a call on a text -/
theorem mm_callF {d' np i index : Nat} {M' : mm_Me} {as : List Value} (h1 : 1 ≤ i) (h3 : i ≤ 3) (hd : d' + 1 ≤ d) (hc : mm_cm M' np) (hl : Cond.methodLink M.1.cls index M'.1 ∈ mm_tb) (hi : Cond.instanceMethod M'.1 ∈ mm_tb) (hs : Cond.selects "java/lang/String" M'.1 M'.1 ∈ mm_tb) (hdg : decode M.2.1 pc = .ok (.invokevirtual index, 3))
    (hn : as.length = np) (h8 : (st.map fun v => v.category).sum ≤ 8) (hen : (mm_en (.ref i :: as)).length ≤ M'.2.2.1) (hlen : ls.length = M.2.2.1) (hstk : stk = as.reverse ++ .ref i :: st)
    (kc : mm_P g d' M' 0 (mm_in M'.2.2.1 (.ref i :: as)) [] h PostC) (kk : ∀ o h1, PostC o h1 → mm_then g d M pc ls st Post o h1) : mm_P g d M pc ls stk h Post := by
  subst hstk
  refine mm_call (st := st) (as := .ref i :: as) kc kk (fun o h2 h' p e R s m args below meth c H locs cells slots LS _ kE X hf => ⟨(Value.ref (mm_ad g i) :: as.map (mm_v g)).toArray, ?_⟩)
  have hts := X.1.2.2.2.2.2.2.2.1
  have hF := X.1.2.2.2.2.2.2.2.2.2.1
  have hrec : ∃ cell : Cell, H[mm_ad g i]? = some cell ∧ cell.vm.isStatics = false ∧ s.vm.findClass "java/lang/String" = some cell.cls := by
    obtain ⟨cell, q1, q2, q3, -⟩ := ((hF.2.2.2.2.2.2.1 i h1 h3).1.kept X.2.2.2.2.2.1.2.1)
    exact ⟨cell, by rw [mm_ad_f (show i < 64 by omega)]; exact q1, q2, q3⟩
  exact vx_runV (As := as.map (mm_v g)) (b := mm_ad g i) (C := "java/lang/String") (n := np) ⟨X.1.1, X.1.2.1, X.1.2.2.2.1, X.1.2.2.2.2.1, hts⟩ (mm_met X.1.2.2.2.2.2.2.2.2.2.2.1 hc.2.2.1 hc.2.2.2.2.2.2 hen kE) ⟨mm_cb hd hc hl X, hts _ hi, hts _ hs⟩
    ⟨mm_blind g _ h, hrec, mm_pc (.ref i :: as) X⟩ rfl (by simpa using hn) (X.2.2.2.2.2.2.1.trans hlen) (by simp [mm_v]) (mm_rest g h8) hdg hf
theorem mm_copy {r a n0 n1 index : Nat} {f f1 : Nat → Int32} {sp dp n : Int32} (hl : Cond.methodLink M.1.cls index arraycopyName ∈ mm_tb) (hna : Cond.native arraycopyName ∈ mm_tb) (hst : Cond.static arraycopyName ∈ mm_tb) (hin : Cond.initialized "java/lang/System" ∈ mm_tb) (hw : nativeFrameWords "java/lang/System" "arraycopy" 5 + 11 ≤ 32) (hd1 : 1 ≤ d) (hlen : ls.length = M.2.2.1) (h8 : (st.map fun v => v.category).sum ≤ 8)
    (a0 : mm_at h r (.inl (1, n0, .inl f))) (a1 : mm_at h a (.inl (1, n1, .inl f1))) (b1 : ¬ sp < 0) (b2 : ¬ dp < 0) (b3 : ¬ n < 0) (b4 : sp.toNatClampNeg + n.toNatClampNeg ≤ n0) (b5 : dp.toNatClampNeg + n.toNatClampNeg ≤ n1) (hfit : ∀ i, i < n.toNatClampNeg → fits .byte (.int (f (sp.toNatClampNeg + i))) = true) (hd : decode M.2.1 pc = .ok (.invokestatic index, 3))
    (kk : mm_P g d M (pc + 3) ls st (mm_up h a (.inl (1, n1, .inl (va_cpy f f1 sp.toNatClampNeg dp.toNatClampNeg n.toNatClampNeg)))) Post) : mm_P g d M pc ls (.int n :: .int dp :: .ref a :: .int sp :: .ref r :: st) h Post := by
  refine mm_heap (fun h' p e R s m args below meth c H locs cells slots LS Q X kk => ?_) kk
  have hts := X.1.2.2.2.2.2.2.2.1
  obtain ⟨q, h1, h2, h3⟩ := a0.ws (g := g)
  obtain ⟨q1, g1, g2, g3⟩ := a1.ws (g := g)
  have r1 := X.2.1.1
  have r2 := X.2.1.2
  refine va_copyi (ty := .byte) X.1.1 X.1.2.1 (X.1.2.2.2.1.trans (X.2.2.2.2.2.2.1.trans hlen).symm) X.1.2.2.2.2.1 (hts _ hl) (hts _ hna) (hts _ hst) (hts _ hin) X.1.2.2.2.2.2.2.2.2.1 X.2.2.2.2.1.2 (mm_D g h.1 h.2.1) X.2.2.2.2.2.1 q q1 1 1 h3 g3 rfl rfl rfl b1 b2 b3 b4 b5 hfit (by omega) (by rw [mm_cat]; omega) hd (fun H1 locs1 hP1 hD1 hS1 => kk H1 locs1 ?_ hS1)
  rw [← mm_set (g := g) g1 g2 rfl]
  exact hP1
/-- the walk of a method with handlers -/
theorem mm_metH {M' : mm_Me} {as : List Value} {h' : mm_Hp} {o : mm_Ou} (hst : (mm_l g).stackTraces = false) (hy : plainName M'.1.cls = true) (hl : (mm_en as).length ≤ M'.2.2.1) (k : mm_E g d M' 0 (mm_in M'.2.2.1 as) [] h o h') :
    vx_Met (mm_l g) M'.1 (Cond.codeWith M'.1 M'.2.1 M'.2.2.1 M'.2.2.2.1 M'.2.2.2.2 :: mm_tb) (mm_rm d h h') (mm_Pc g as h) (mm_Qc g o h') (mm_Qx g o h') (h'.2.1 - h.2.1) (h'.2.2 - h.2.2) (mm_A g) := by
  refine vx_ofWH (cc := M'.2.1) (maxL := M'.2.2.1) (ret := M'.2.2.2.1) (hh := M'.2.2.2.2) hy rfl ?_
  intro p e s m args below meth c s₁ B hml hv
  obtain ⟨rfl, hH, hK, hF⟩ := hv
  have hts := atoms_spec (ws := Cond.codeWith M'.1 M'.2.1 M'.2.2.1 M'.2.2.2.1 M'.2.2.2.2 :: mm_tb) B.pre
  have ht : c.exceptionTable.toList = tableOf M'.2.2.2.2 := vx_table (x := M'.1) B (hts _ List.mem_cons_self)
  rw [lg_entry_eq]
  have hk := k.2.2 p e (headSpec (Cond.codeWith M'.1 M'.2.1 M'.2.2.1 M'.2.2.2.1 M'.2.2.2.2 :: mm_tb) (mm_rm d h h')).room s m (as.map (mm_v g)).toArray below meth c s.heap [] 0 0 _
    ⟨⟨B.exec, B.bytes, B.returns, hml, findClass_of_methodNamed B.named, B.notSynchronized, (name_of_methodNamed B.named B.method).1, fun w hw => hts w (List.mem_cons_of_mem _ hw), hK, hF, hst, ht⟩, ⟨Nat.le_refl _, Nat.le_refl _⟩, ⟨by rw [hH.1]; exact Nat.le_add_right _ _, by rw [hH.1]; rfl⟩, ⟨by rw [Nat.zero_add]; exact Nat.le_refl _, by rw [Nat.zero_add]; exact Nat.le_refl _⟩, hH, va_S.rf, mm_L.entry g as hl⟩
  rw [Nat.zero_add, Nat.zero_add] at hk
  exact hk
def mm_cmH (M' : mm_Me) (np : Nat) : Prop :=
  Cond.codeWith M'.1 M'.2.1 M'.2.2.1 M'.2.2.2.1 M'.2.2.2.2 ∈ mm_tb ∧ Cond.initialized M'.1.cls ∈ mm_tb ∧ plainName M'.1.cls = true ∧ (M'.1.cls ≠ "java/lang/invoke/MethodHandle" ∧ M'.1.cls ≠ "java/lang/invoke/VarHandle") ∧ (parseMethodDescriptor M'.1.desc).map (fun d => d.parameters.length) = some np ∧ M'.2.2.1 ≤ 21
theorem mm_callSW {d' np index : Nat} {M' : mm_Me} {as : List Value} (hd : d' + 1 ≤ d) (hc : mm_cmH M' np) (hl : Cond.methodLink M.1.cls index M'.1 ∈ mm_tb) (hi : Cond.static M'.1 ∈ mm_tb) (hdg : decode M.2.1 pc = .ok (.invokestatic index, 3))
    (hn : as.length = np) (h8 : (st.map fun v => v.category).sum ≤ 8) (hen : (mm_en as).length ≤ M'.2.2.1) (hlen : ls.length = M.2.2.1) (hstk : stk = as.reverse ++ st)
    (kc : mm_P g d' M' 0 (mm_in M'.2.2.1 as) [] h PostC) (hno : ∀ E h1, ¬ PostC (.inr E) h1) (kk : ∀ v h1, PostC (.inl v) h1 → mm_P g d M (pc + 3) ls (v.toList ++ st) h1 Post) : mm_P g d M pc ls stk h Post := by
  subst hstk
  refine mm_call (st := st) (as := as) kc (fun o h1 hp => ?_) (fun o h1 h' p e R s m args below meth c H locs cells slots LS hp kE X hf => ⟨(as.map (mm_v g)).toArray, ?_⟩)
  · cases o with
    | inl v => exact kk v h1 hp
    | inr E => exact (hno E h1 hp).elim
  · cases o with
    | inr E => exact (hno E h1 hp).elim
    | inl v =>
      have hts := X.1.2.2.2.2.2.2.2.1
      have hM := mm_metR (mm_metH X.1.2.2.2.2.2.2.2.2.2.2.1 hc.2.2.1 hen kE)
      obtain ⟨c1, c2, c3, c4, c5, c6⟩ := id hc
      have hws : ∀ w ∈ (Cond.codeWith M'.1 M'.2.1 M'.2.2.1 M'.2.2.2.1 M'.2.2.2.2 :: mm_tb), ∀ (a' : Array Value) (U : State), s.WarmedH U.vm → w.before a' U = true := by
        intro w hw a' U hW
        rcases List.mem_cons.mp hw with rfl | hw
        · exact mm_words hW hts _ c1
        · exact mm_words hW hts w hw
      have hcs : vx_CSW R s args M.1.cls index M'.1 M'.2.1 M'.2.2.1 M'.2.2.2.1 M'.2.2.2.2 (Cond.codeWith M'.1 M'.2.1 M'.2.2.1 M'.2.2.2.1 M'.2.2.2.2 :: mm_tb) (mm_rm d' h h1) (h1.2.1 - h.2.1) (h1.2.2 - h.2.2) np := by
        refine ⟨⟨rfl, rfl, by have := X.2.1.1; show d' + 1 ≤ R.frames; omega, by have := X.2.1.2; show 8 + (M'.2.2.1 + 11) + 40 * d' ≤ R.locals; omega, hws, List.mem_cons_self⟩, hts _ c1, hts _ c2, c4, fun sig hs => ?_, hts _ hl, hts _ hi⟩
        rw [hs] at c5
        exact (Option.some.inj c5).symm
      intro T hT Y
      exact Or.inl (vx_runSW (As := as.map (mm_v g)) (n := np) ⟨X.1.1, X.1.2.1, X.1.2.2.2.1, X.1.2.2.2.2.1, hts⟩ hM hcs ⟨mm_blind g _ h, mm_pc as X⟩ rfl (by simpa using hn) (X.2.2.2.2.2.2.1.trans hlen) (by simp) (mm_rest g h8) hdg hf T hT Y)
theorem mm_ldcSw {i no : Nat} {tx : String} (hs : (M.1.cls, i, tx, no) ∈ mm_sts) (hn : no < 64) (hd : decode M.2.1 pc = .ok (.ldc_w i, 3)) (k : mm_P g d M (pc + 3) ls (.ref no :: st) h Post) : mm_P g d M pc ls st h Post := by
  refine mm_same (fun h' p e R s m args below meth c H locs cells slots LS Q X hx hb hL kk => ?_) k
  have hF := X.1.2.2.2.2.2.2.2.2.2.1.2.2.2.2.1 _ hs
  have kk2 := kk LS hL
  have e3 : mm_v g (.ref no) = .ref (mm_fa g no) := by simp [mm_v, mm_ad, hn]
  rw [List.map_cons, e3] at kk2
  intro T hT Y
  obtain ⟨t, a1, b1⟩ := kk2 T hT Y
  exact ⟨t, Y.ldcStringW hx (own := M.1.cls) (text := tx) (index := i) (a := mm_fa g no) X.1.2.2.2.2.1 hF.1 hF.2 (g := F0 m pc LS (st.map (mm_v g))) rfl (by rw [hb]; exact hd) t a1, b1⟩
end MMF
end
