section
-- ===== PART A: goes FIRST, ahead of the names: the tables' words, and 'selects' of the private methods out of them =====
/-- a private method of a class that the tables say can be made, by its rows of tables_1 -/
def lw_okq (q : MethodName × Nat) : Prop := (q.1.cls ≠ "java/lang/invoke/MethodHandle" ∧ q.1.cls ≠ "java/lang/invoke/VarHandle") ∧ Cond.instantiable q.1.cls q.2 ∈ tables_1 ∧ Cond.privateMethod q.1 ∈ tables_1 ∧ Cond.instanceMethod q.1 ∈ tables_1
theorem lw_p0 : lw_okq (⟨"OnceVolume$Reader", "forgetAll", "()V"⟩, 14) := ⟨⟨by decide +kernel, by decide +kernel⟩, List.mem_of_getElem? (i := 32) (by decide +kernel), List.mem_of_getElem? (i := 319) (by decide +kernel), List.mem_of_getElem? (i := 320) (by decide +kernel)⟩
theorem lw_p1 : lw_okq (⟨"OnceVolume$Tokens", "endOfRow", "(II)I"⟩, 7) := ⟨⟨by decide +kernel, by decide +kernel⟩, List.mem_of_getElem? (i := 38) (by decide +kernel), List.mem_of_getElem? (i := 334) (by decide +kernel), List.mem_of_getElem? (i := 335) (by decide +kernel)⟩
theorem lw_p2 : lw_okq (⟨"OnceVolume$Tokens", "takeValue", "()V"⟩, 7) := ⟨⟨by decide +kernel, by decide +kernel⟩, List.mem_of_getElem? (i := 38) (by decide +kernel), List.mem_of_getElem? (i := 338) (by decide +kernel), List.mem_of_getElem? (i := 339) (by decide +kernel)⟩
theorem lw_p3 : lw_okq (⟨"OnceVolume$Reader", "readClause", "()V"⟩, 14) := ⟨⟨by decide +kernel, by decide +kernel⟩, List.mem_of_getElem? (i := 32) (by decide +kernel), List.mem_of_getElem? (i := 342) (by decide +kernel), List.mem_of_getElem? (i := 343) (by decide +kernel)⟩
theorem lw_p4 : lw_okq (⟨"OnceVolume$Reader", "readDisc", "()V"⟩, 14) := ⟨⟨by decide +kernel, by decide +kernel⟩, List.mem_of_getElem? (i := 32) (by decide +kernel), List.mem_of_getElem? (i := 399) (by decide +kernel), List.mem_of_getElem? (i := 400) (by decide +kernel)⟩
theorem lw_p5 : lw_okq (⟨"OnceVolume$Reader", "fail", "(I)V"⟩, 14) := ⟨⟨by decide +kernel, by decide +kernel⟩, List.mem_of_getElem? (i := 32) (by decide +kernel), List.mem_of_getElem? (i := 403) (by decide +kernel), List.mem_of_getElem? (i := 404) (by decide +kernel)⟩
theorem lw_p6 : lw_okq (⟨"OnceVolume$Reader", "readNumber", "(II)I"⟩, 14) := ⟨⟨by decide +kernel, by decide +kernel⟩, List.mem_of_getElem? (i := 32) (by decide +kernel), List.mem_of_getElem? (i := 408) (by decide +kernel), List.mem_of_getElem? (i := 409) (by decide +kernel)⟩
theorem lw_p7 : lw_okq (⟨"OnceVolume$Reader", "isFit", "(II)Z"⟩, 14) := ⟨⟨by decide +kernel, by decide +kernel⟩, List.mem_of_getElem? (i := 32) (by decide +kernel), List.mem_of_getElem? (i := 412) (by decide +kernel), List.mem_of_getElem? (i := 413) (by decide +kernel)⟩
theorem lw_p8 : lw_okq (⟨"OnceVolume$Reader", "readBad", "()V"⟩, 14) := ⟨⟨by decide +kernel, by decide +kernel⟩, List.mem_of_getElem? (i := 32) (by decide +kernel), List.mem_of_getElem? (i := 417) (by decide +kernel), List.mem_of_getElem? (i := 418) (by decide +kernel)⟩
theorem lw_p9 : lw_okq (⟨"OnceVolume$Reader", "readBadBlock", "()V"⟩, 14) := ⟨⟨by decide +kernel, by decide +kernel⟩, List.mem_of_getElem? (i := 32) (by decide +kernel), List.mem_of_getElem? (i := 421) (by decide +kernel), List.mem_of_getElem? (i := 422) (by decide +kernel)⟩
theorem lw_p10 : lw_okq (⟨"OnceVolume$Reader", "readFile", "()V"⟩, 14) := ⟨⟨by decide +kernel, by decide +kernel⟩, List.mem_of_getElem? (i := 32) (by decide +kernel), List.mem_of_getElem? (i := 426) (by decide +kernel), List.mem_of_getElem? (i := 427) (by decide +kernel)⟩
theorem lw_p11 : lw_okq (⟨"OnceVolume$Reader", "isTold", "(I)Z"⟩, 14) := ⟨⟨by decide +kernel, by decide +kernel⟩, List.mem_of_getElem? (i := 32) (by decide +kernel), List.mem_of_getElem? (i := 430) (by decide +kernel), List.mem_of_getElem? (i := 431) (by decide +kernel)⟩
theorem lw_p12 : lw_okq (⟨"OnceVolume$Reader", "readCell", "()V"⟩, 14) := ⟨⟨by decide +kernel, by decide +kernel⟩, List.mem_of_getElem? (i := 32) (by decide +kernel), List.mem_of_getElem? (i := 434) (by decide +kernel), List.mem_of_getElem? (i := 435) (by decide +kernel)⟩
theorem lw_p13 : lw_okq (⟨"OnceVolume$Reader", "readSemicolon", "()V"⟩, 14) := ⟨⟨by decide +kernel, by decide +kernel⟩, List.mem_of_getElem? (i := 32) (by decide +kernel), List.mem_of_getElem? (i := 438) (by decide +kernel), List.mem_of_getElem? (i := 439) (by decide +kernel)⟩
theorem lw_p14 : lw_okq (⟨"OnceVolume", "beginAnew", "()V"⟩, 14) := ⟨⟨by decide +kernel, by decide +kernel⟩, List.mem_of_getElem? (i := 24) (by decide +kernel), List.mem_of_getElem? (i := 442) (by decide +kernel), List.mem_of_getElem? (i := 443) (by decide +kernel)⟩
theorem lw_p15 : lw_okq (⟨"OnceVolume$State", "settleChanges", "()V"⟩, 11) := ⟨⟨by decide +kernel, by decide +kernel⟩, List.mem_of_getElem? (i := 173) (by decide +kernel), List.mem_of_getElem? (i := 461) (by decide +kernel), List.mem_of_getElem? (i := 462) (by decide +kernel)⟩
def lw_privs_1 : List (MethodName × Nat) := [(⟨"OnceVolume$Reader", "forgetAll", "()V"⟩, 14), (⟨"OnceVolume$Tokens", "endOfRow", "(II)I"⟩, 7), (⟨"OnceVolume$Tokens", "takeValue", "()V"⟩, 7), (⟨"OnceVolume$Reader", "readClause", "()V"⟩, 14), (⟨"OnceVolume$Reader", "readDisc", "()V"⟩, 14), (⟨"OnceVolume$Reader", "fail", "(I)V"⟩, 14), (⟨"OnceVolume$Reader", "readNumber", "(II)I"⟩, 14), (⟨"OnceVolume$Reader", "isFit", "(II)Z"⟩, 14), (⟨"OnceVolume$Reader", "readBad", "()V"⟩, 14), (⟨"OnceVolume$Reader", "readBadBlock", "()V"⟩, 14), (⟨"OnceVolume$Reader", "readFile", "()V"⟩, 14), (⟨"OnceVolume$Reader", "isTold", "(I)Z"⟩, 14), (⟨"OnceVolume$Reader", "readCell", "()V"⟩, 14), (⟨"OnceVolume$Reader", "readSemicolon", "()V"⟩, 14), (⟨"OnceVolume", "beginAnew", "()V"⟩, 14), (⟨"OnceVolume$State", "settleChanges", "()V"⟩, 11)]
theorem lw_r1 : ∀ q ∈ lw_privs_1, lw_okq q := List.forall_mem_cons.mpr ⟨lw_p0, List.forall_mem_cons.mpr ⟨lw_p1, List.forall_mem_cons.mpr ⟨lw_p2, List.forall_mem_cons.mpr ⟨lw_p3, List.forall_mem_cons.mpr ⟨lw_p4, List.forall_mem_cons.mpr ⟨lw_p5, List.forall_mem_cons.mpr ⟨lw_p6, List.forall_mem_cons.mpr ⟨lw_p7, List.forall_mem_cons.mpr ⟨lw_p8, List.forall_mem_cons.mpr ⟨lw_p9, List.forall_mem_cons.mpr ⟨lw_p10, List.forall_mem_cons.mpr ⟨lw_p11, List.forall_mem_cons.mpr ⟨lw_p12, List.forall_mem_cons.mpr ⟨lw_p13, List.forall_mem_cons.mpr ⟨lw_p14, List.forall_mem_cons.mpr ⟨lw_p15, fun _ h => absurd h List.not_mem_nil⟩⟩⟩⟩⟩⟩⟩⟩⟩⟩⟩⟩⟩⟩⟩⟩
theorem lw_p16 : lw_okq (⟨"OnceVolume$State", "putCell", "(IIII)V"⟩, 11) := ⟨⟨by decide +kernel, by decide +kernel⟩, List.mem_of_getElem? (i := 173) (by decide +kernel), List.mem_of_getElem? (i := 465) (by decide +kernel), List.mem_of_getElem? (i := 466) (by decide +kernel)⟩
theorem lw_p17 : lw_okq (⟨"OnceVolume", "feedNumber", "(I)V"⟩, 14) := ⟨⟨by decide +kernel, by decide +kernel⟩, List.mem_of_getElem? (i := 24) (by decide +kernel), List.mem_of_getElem? (i := 521) (by decide +kernel), List.mem_of_getElem? (i := 522) (by decide +kernel)⟩
theorem lw_p18 : lw_okq (⟨"OnceVolume", "refuse", "()I"⟩, 14) := ⟨⟨by decide +kernel, by decide +kernel⟩, List.mem_of_getElem? (i := 24) (by decide +kernel), List.mem_of_getElem? (i := 540) (by decide +kernel), List.mem_of_getElem? (i := 541) (by decide +kernel)⟩
theorem lw_p19 : lw_okq (⟨"OnceVolume$State", "beginFile", "(I)V"⟩, 11) := ⟨⟨by decide +kernel, by decide +kernel⟩, List.mem_of_getElem? (i := 173) (by decide +kernel), List.mem_of_getElem? (i := 564) (by decide +kernel), List.mem_of_getElem? (i := 565) (by decide +kernel)⟩
theorem lw_p20 : lw_okq (⟨"OnceVolume$State", "freeVirtual", "()I"⟩, 11) := ⟨⟨by decide +kernel, by decide +kernel⟩, List.mem_of_getElem? (i := 173) (by decide +kernel), List.mem_of_getElem? (i := 568) (by decide +kernel), List.mem_of_getElem? (i := 569) (by decide +kernel)⟩
theorem lw_p21 : lw_okq (⟨"OnceVolume$State", "forget", "(I)V"⟩, 11) := ⟨⟨by decide +kernel, by decide +kernel⟩, List.mem_of_getElem? (i := 173) (by decide +kernel), List.mem_of_getElem? (i := 592) (by decide +kernel), List.mem_of_getElem? (i := 593) (by decide +kernel)⟩
theorem lw_p22 : lw_okq (⟨"OnceVolume$State", "copyCells", "(II)V"⟩, 11) := ⟨⟨by decide +kernel, by decide +kernel⟩, List.mem_of_getElem? (i := 173) (by decide +kernel), List.mem_of_getElem? (i := 608) (by decide +kernel), List.mem_of_getElem? (i := 609) (by decide +kernel)⟩
theorem lw_p23 : lw_okq (⟨"OnceVolume", "canBegin", "()Z"⟩, 14) := ⟨⟨by decide +kernel, by decide +kernel⟩, List.mem_of_getElem? (i := 24) (by decide +kernel), List.mem_of_getElem? (i := 658) (by decide +kernel), List.mem_of_getElem? (i := 659) (by decide +kernel)⟩
theorem lw_p24 : lw_okq (⟨"OnceVolume", "packetsNow", "()I"⟩, 14) := ⟨⟨by decide +kernel, by decide +kernel⟩, List.mem_of_getElem? (i := 24) (by decide +kernel), List.mem_of_getElem? (i := 662) (by decide +kernel), List.mem_of_getElem? (i := 663) (by decide +kernel)⟩
theorem lw_p25 : lw_okq (⟨"OnceVolume", "writeAll", "()Z"⟩, 14) := ⟨⟨by decide +kernel, by decide +kernel⟩, List.mem_of_getElem? (i := 24) (by decide +kernel), List.mem_of_getElem? (i := 681) (by decide +kernel), List.mem_of_getElem? (i := 682) (by decide +kernel)⟩
theorem lw_p26 : lw_okq (⟨"OnceVolume$Contents", "addFile", "(LOnceVolume$State;I)V"⟩, 4) := ⟨⟨by decide +kernel, by decide +kernel⟩, List.mem_of_getElem? (i := 231) (by decide +kernel), List.mem_of_getElem? (i := 690) (by decide +kernel), List.mem_of_getElem? (i := 691) (by decide +kernel)⟩
theorem lw_p27 : lw_okq (⟨"OnceVolume$Contents", "add", "(III)V"⟩, 4) := ⟨⟨by decide +kernel, by decide +kernel⟩, List.mem_of_getElem? (i := 231) (by decide +kernel), List.mem_of_getElem? (i := 695) (by decide +kernel), List.mem_of_getElem? (i := 696) (by decide +kernel)⟩
theorem lw_p28 : lw_okq (⟨"OnceVolume$Disc", "hasFaulty", "(II)Z"⟩, 11) := ⟨⟨by decide +kernel, by decide +kernel⟩, List.mem_of_getElem? (i := 126) (by decide +kernel), List.mem_of_getElem? (i := 712) (by decide +kernel), List.mem_of_getElem? (i := 713) (by decide +kernel)⟩
theorem lw_p29 : lw_okq (⟨"OnceVolume$Contents", "placePacket", "(LOnceVolume$State;III)V"⟩, 4) := ⟨⟨by decide +kernel, by decide +kernel⟩, List.mem_of_getElem? (i := 231) (by decide +kernel), List.mem_of_getElem? (i := 717) (by decide +kernel), List.mem_of_getElem? (i := 718) (by decide +kernel)⟩
theorem lw_p30 : lw_okq (⟨"OnceVolume$Contents", "writeBlock", "(LOnceVolume$State;LOnceVolume$Disc;I)V"⟩, 4) := ⟨⟨by decide +kernel, by decide +kernel⟩, List.mem_of_getElem? (i := 231) (by decide +kernel), List.mem_of_getElem? (i := 721) (by decide +kernel), List.mem_of_getElem? (i := 722) (by decide +kernel)⟩
theorem lw_p31 : lw_okq (⟨"OnceVolume", "mountLast", "()V"⟩, 14) := ⟨⟨by decide +kernel, by decide +kernel⟩, List.mem_of_getElem? (i := 24) (by decide +kernel), List.mem_of_getElem? (i := 747) (by decide +kernel), List.mem_of_getElem? (i := 748) (by decide +kernel)⟩
def lw_privs_2 : List (MethodName × Nat) := [(⟨"OnceVolume$State", "putCell", "(IIII)V"⟩, 11), (⟨"OnceVolume", "feedNumber", "(I)V"⟩, 14), (⟨"OnceVolume", "refuse", "()I"⟩, 14), (⟨"OnceVolume$State", "beginFile", "(I)V"⟩, 11), (⟨"OnceVolume$State", "freeVirtual", "()I"⟩, 11), (⟨"OnceVolume$State", "forget", "(I)V"⟩, 11), (⟨"OnceVolume$State", "copyCells", "(II)V"⟩, 11), (⟨"OnceVolume", "canBegin", "()Z"⟩, 14), (⟨"OnceVolume", "packetsNow", "()I"⟩, 14), (⟨"OnceVolume", "writeAll", "()Z"⟩, 14), (⟨"OnceVolume$Contents", "addFile", "(LOnceVolume$State;I)V"⟩, 4), (⟨"OnceVolume$Contents", "add", "(III)V"⟩, 4), (⟨"OnceVolume$Disc", "hasFaulty", "(II)Z"⟩, 11), (⟨"OnceVolume$Contents", "placePacket", "(LOnceVolume$State;III)V"⟩, 4), (⟨"OnceVolume$Contents", "writeBlock", "(LOnceVolume$State;LOnceVolume$Disc;I)V"⟩, 4), (⟨"OnceVolume", "mountLast", "()V"⟩, 14)]
theorem lw_r2 : ∀ q ∈ lw_privs_2, lw_okq q := List.forall_mem_cons.mpr ⟨lw_p16, List.forall_mem_cons.mpr ⟨lw_p17, List.forall_mem_cons.mpr ⟨lw_p18, List.forall_mem_cons.mpr ⟨lw_p19, List.forall_mem_cons.mpr ⟨lw_p20, List.forall_mem_cons.mpr ⟨lw_p21, List.forall_mem_cons.mpr ⟨lw_p22, List.forall_mem_cons.mpr ⟨lw_p23, List.forall_mem_cons.mpr ⟨lw_p24, List.forall_mem_cons.mpr ⟨lw_p25, List.forall_mem_cons.mpr ⟨lw_p26, List.forall_mem_cons.mpr ⟨lw_p27, List.forall_mem_cons.mpr ⟨lw_p28, List.forall_mem_cons.mpr ⟨lw_p29, List.forall_mem_cons.mpr ⟨lw_p30, List.forall_mem_cons.mpr ⟨lw_p31, fun _ h => absurd h List.not_mem_nil⟩⟩⟩⟩⟩⟩⟩⟩⟩⟩⟩⟩⟩⟩⟩⟩
theorem lw_p32 : lw_okq (⟨"OnceVolume$Disc", "isGoodMap", "(I)Z"⟩, 11) := ⟨⟨by decide +kernel, by decide +kernel⟩, List.mem_of_getElem? (i := 126) (by decide +kernel), List.mem_of_getElem? (i := 756) (by decide +kernel), List.mem_of_getElem? (i := 757) (by decide +kernel)⟩
theorem lw_p33 : lw_okq (⟨"OnceVolume", "canTear", "(I)Z"⟩, 14) := ⟨⟨by decide +kernel, by decide +kernel⟩, List.mem_of_getElem? (i := 24) (by decide +kernel), List.mem_of_getElem? (i := 770) (by decide +kernel), List.mem_of_getElem? (i := 771) (by decide +kernel)⟩
theorem lw_p34 : lw_okq (⟨"OnceVolume", "writeTorn", "(I)V"⟩, 14) := ⟨⟨by decide +kernel, by decide +kernel⟩, List.mem_of_getElem? (i := 24) (by decide +kernel), List.mem_of_getElem? (i := 780) (by decide +kernel), List.mem_of_getElem? (i := 781) (by decide +kernel)⟩
theorem lw_p35 : lw_okq (⟨"OnceVolume", "canClose", "()Z"⟩, 14) := ⟨⟨by decide +kernel, by decide +kernel⟩, List.mem_of_getElem? (i := 24) (by decide +kernel), List.mem_of_getElem? (i := 788) (by decide +kernel), List.mem_of_getElem? (i := 789) (by decide +kernel)⟩
theorem lw_p36 : lw_okq (⟨"OnceVolume", "closeSession", "(Z)V"⟩, 14) := ⟨⟨by decide +kernel, by decide +kernel⟩, List.mem_of_getElem? (i := 24) (by decide +kernel), List.mem_of_getElem? (i := 800) (by decide +kernel), List.mem_of_getElem? (i := 801) (by decide +kernel)⟩
theorem lw_p37 : lw_okq (⟨"OnceVolume", "endWith", "(II)I"⟩, 14) := ⟨⟨by decide +kernel, by decide +kernel⟩, List.mem_of_getElem? (i := 24) (by decide +kernel), List.mem_of_getElem? (i := 841) (by decide +kernel), List.mem_of_getElem? (i := 842) (by decide +kernel)⟩
theorem lw_p38 : lw_okq (⟨"java/lang/Throwable", "fillInStackTrace", "(I)Ljava/lang/Throwable;"⟩, 6) := ⟨⟨by decide +kernel, by decide +kernel⟩, List.mem_of_getElem? (i := 908) (by decide +kernel), List.mem_of_getElem? (i := 906) (by decide +kernel), List.mem_of_getElem? (i := 907) (by decide +kernel)⟩
theorem lw_p39 : lw_okq (⟨"OnceVolume$Disc", "reach", "(I)V"⟩, 11) := ⟨⟨by decide +kernel, by decide +kernel⟩, List.mem_of_getElem? (i := 126) (by decide +kernel), List.mem_of_getElem? (i := 962) (by decide +kernel), List.mem_of_getElem? (i := 963) (by decide +kernel)⟩
theorem lw_p40 : lw_okq (⟨"OnceVolume$Disc", "reachBlock", "(I)V"⟩, 11) := ⟨⟨by decide +kernel, by decide +kernel⟩, List.mem_of_getElem? (i := 126) (by decide +kernel), List.mem_of_getElem? (i := 966) (by decide +kernel), List.mem_of_getElem? (i := 967) (by decide +kernel)⟩
theorem lw_p41 : lw_okq (⟨"OnceVolume", "checkBlock", "(I)V"⟩, 14) := ⟨⟨by decide +kernel, by decide +kernel⟩, List.mem_of_getElem? (i := 24) (by decide +kernel), List.mem_of_getElem? (i := 1003) (by decide +kernel), List.mem_of_getElem? (i := 1004) (by decide +kernel)⟩
theorem lw_p42 : lw_okq (⟨"OnceVolume", "checkFile", "(I)V"⟩, 14) := ⟨⟨by decide +kernel, by decide +kernel⟩, List.mem_of_getElem? (i := 24) (by decide +kernel), List.mem_of_getElem? (i := 1037) (by decide +kernel), List.mem_of_getElem? (i := 1038) (by decide +kernel)⟩
theorem lw_p43 : lw_okq (⟨"OnceVolume", "mapOrThrow", "(I)I"⟩, 14) := ⟨⟨by decide +kernel, by decide +kernel⟩, List.mem_of_getElem? (i := 24) (by decide +kernel), List.mem_of_getElem? (i := 1080) (by decide +kernel), List.mem_of_getElem? (i := 1081) (by decide +kernel)⟩
theorem lw_p44 : lw_okq (⟨"OnceVolume", "isLikeOneOf", "(II)Z"⟩, 14) := ⟨⟨by decide +kernel, by decide +kernel⟩, List.mem_of_getElem? (i := 24) (by decide +kernel), List.mem_of_getElem? (i := 1104) (by decide +kernel), List.mem_of_getElem? (i := 1105) (by decide +kernel)⟩
theorem lw_p45 : lw_okq (⟨"OnceVolume", "blocksBy", "(II)I"⟩, 14) := ⟨⟨by decide +kernel, by decide +kernel⟩, List.mem_of_getElem? (i := 24) (by decide +kernel), List.mem_of_getElem? (i := 1155) (by decide +kernel), List.mem_of_getElem? (i := 1156) (by decide +kernel)⟩
theorem lw_p46 : lw_okq (⟨"OnceVolume", "liveYear", "()V"⟩, 14) := ⟨⟨by decide +kernel, by decide +kernel⟩, List.mem_of_getElem? (i := 24) (by decide +kernel), List.mem_of_getElem? (i := 1191) (by decide +kernel), List.mem_of_getElem? (i := 1192) (by decide +kernel)⟩
theorem lw_p47 : lw_okq (⟨"OnceVolume", "setDrawn", "()V"⟩, 14) := ⟨⟨by decide +kernel, by decide +kernel⟩, List.mem_of_getElem? (i := 24) (by decide +kernel), List.mem_of_getElem? (i := 1200) (by decide +kernel), List.mem_of_getElem? (i := 1201) (by decide +kernel)⟩
def lw_privs_3 : List (MethodName × Nat) := [(⟨"OnceVolume$Disc", "isGoodMap", "(I)Z"⟩, 11), (⟨"OnceVolume", "canTear", "(I)Z"⟩, 14), (⟨"OnceVolume", "writeTorn", "(I)V"⟩, 14), (⟨"OnceVolume", "canClose", "()Z"⟩, 14), (⟨"OnceVolume", "closeSession", "(Z)V"⟩, 14), (⟨"OnceVolume", "endWith", "(II)I"⟩, 14), (⟨"java/lang/Throwable", "fillInStackTrace", "(I)Ljava/lang/Throwable;"⟩, 6), (⟨"OnceVolume$Disc", "reach", "(I)V"⟩, 11), (⟨"OnceVolume$Disc", "reachBlock", "(I)V"⟩, 11), (⟨"OnceVolume", "checkBlock", "(I)V"⟩, 14), (⟨"OnceVolume", "checkFile", "(I)V"⟩, 14), (⟨"OnceVolume", "mapOrThrow", "(I)I"⟩, 14), (⟨"OnceVolume", "isLikeOneOf", "(II)Z"⟩, 14), (⟨"OnceVolume", "blocksBy", "(II)I"⟩, 14), (⟨"OnceVolume", "liveYear", "()V"⟩, 14), (⟨"OnceVolume", "setDrawn", "()V"⟩, 14)]
theorem lw_r3 : ∀ q ∈ lw_privs_3, lw_okq q := List.forall_mem_cons.mpr ⟨lw_p32, List.forall_mem_cons.mpr ⟨lw_p33, List.forall_mem_cons.mpr ⟨lw_p34, List.forall_mem_cons.mpr ⟨lw_p35, List.forall_mem_cons.mpr ⟨lw_p36, List.forall_mem_cons.mpr ⟨lw_p37, List.forall_mem_cons.mpr ⟨lw_p38, List.forall_mem_cons.mpr ⟨lw_p39, List.forall_mem_cons.mpr ⟨lw_p40, List.forall_mem_cons.mpr ⟨lw_p41, List.forall_mem_cons.mpr ⟨lw_p42, List.forall_mem_cons.mpr ⟨lw_p43, List.forall_mem_cons.mpr ⟨lw_p44, List.forall_mem_cons.mpr ⟨lw_p45, List.forall_mem_cons.mpr ⟨lw_p46, List.forall_mem_cons.mpr ⟨lw_p47, fun _ h => absurd h List.not_mem_nil⟩⟩⟩⟩⟩⟩⟩⟩⟩⟩⟩⟩⟩⟩⟩⟩
theorem lw_p48 : lw_okq (⟨"OnceVolumeModel", "fail", "(I)I"⟩, 40) := ⟨⟨by decide +kernel, by decide +kernel⟩, List.mem_of_getElem? (i := 1204) (by decide +kernel), List.mem_of_getElem? (i := 1349) (by decide +kernel), List.mem_of_getElem? (i := 1350) (by decide +kernel)⟩
theorem lw_p49 : lw_okq (⟨"OnceVolumeModel", "stepOn", "()V"⟩, 40) := ⟨⟨by decide +kernel, by decide +kernel⟩, List.mem_of_getElem? (i := 1204) (by decide +kernel), List.mem_of_getElem? (i := 1353) (by decide +kernel), List.mem_of_getElem? (i := 1354) (by decide +kernel)⟩
theorem lw_p50 : lw_okq (⟨"OnceVolumeModel", "byteAt", "(I)I"⟩, 40) := ⟨⟨by decide +kernel, by decide +kernel⟩, List.mem_of_getElem? (i := 1204) (by decide +kernel), List.mem_of_getElem? (i := 1357) (by decide +kernel), List.mem_of_getElem? (i := 1358) (by decide +kernel)⟩
theorem lw_p51 : lw_okq (⟨"OnceVolumeModel", "readClause", "()V"⟩, 40) := ⟨⟨by decide +kernel, by decide +kernel⟩, List.mem_of_getElem? (i := 1204) (by decide +kernel), List.mem_of_getElem? (i := 1369) (by decide +kernel), List.mem_of_getElem? (i := 1370) (by decide +kernel)⟩
theorem lw_p52 : lw_okq (⟨"OnceVolumeModel", "is", "(Ljava/lang/String;)Z"⟩, 40) := ⟨⟨by decide +kernel, by decide +kernel⟩, List.mem_of_getElem? (i := 1204) (by decide +kernel), List.mem_of_getElem? (i := 1374) (by decide +kernel), List.mem_of_getElem? (i := 1375) (by decide +kernel)⟩
theorem lw_p53 : lw_okq (⟨"OnceVolumeModel", "readDisc", "()V"⟩, 40) := ⟨⟨by decide +kernel, by decide +kernel⟩, List.mem_of_getElem? (i := 1204) (by decide +kernel), List.mem_of_getElem? (i := 1380) (by decide +kernel), List.mem_of_getElem? (i := 1381) (by decide +kernel)⟩
theorem lw_p54 : lw_okq (⟨"OnceVolumeModel", "wrong", "(I)V"⟩, 40) := ⟨⟨by decide +kernel, by decide +kernel⟩, List.mem_of_getElem? (i := 1204) (by decide +kernel), List.mem_of_getElem? (i := 1384) (by decide +kernel), List.mem_of_getElem? (i := 1385) (by decide +kernel)⟩
theorem lw_p55 : lw_okq (⟨"OnceVolumeModel", "readNumber", "(II)I"⟩, 40) := ⟨⟨by decide +kernel, by decide +kernel⟩, List.mem_of_getElem? (i := 1204) (by decide +kernel), List.mem_of_getElem? (i := 1388) (by decide +kernel), List.mem_of_getElem? (i := 1389) (by decide +kernel)⟩
theorem lw_p56 : lw_okq (⟨"OnceVolumeModel", "numberNow", "(II)I"⟩, 40) := ⟨⟨by decide +kernel, by decide +kernel⟩, List.mem_of_getElem? (i := 1204) (by decide +kernel), List.mem_of_getElem? (i := 1392) (by decide +kernel), List.mem_of_getElem? (i := 1393) (by decide +kernel)⟩
theorem lw_p57 : lw_okq (⟨"OnceVolumeModel", "readBad", "()V"⟩, 40) := ⟨⟨by decide +kernel, by decide +kernel⟩, List.mem_of_getElem? (i := 1204) (by decide +kernel), List.mem_of_getElem? (i := 1397) (by decide +kernel), List.mem_of_getElem? (i := 1398) (by decide +kernel)⟩
theorem lw_p58 : lw_okq (⟨"OnceVolumeModel", "isNumberNext", "()Z"⟩, 40) := ⟨⟨by decide +kernel, by decide +kernel⟩, List.mem_of_getElem? (i := 1204) (by decide +kernel), List.mem_of_getElem? (i := 1401) (by decide +kernel), List.mem_of_getElem? (i := 1402) (by decide +kernel)⟩
theorem lw_p59 : lw_okq (⟨"OnceVolumeModel", "readFile", "()V"⟩, 40) := ⟨⟨by decide +kernel, by decide +kernel⟩, List.mem_of_getElem? (i := 1204) (by decide +kernel), List.mem_of_getElem? (i := 1406) (by decide +kernel), List.mem_of_getElem? (i := 1407) (by decide +kernel)⟩
theorem lw_p60 : lw_okq (⟨"OnceVolumeModel", "filesNow", "()I"⟩, 40) := ⟨⟨by decide +kernel, by decide +kernel⟩, List.mem_of_getElem? (i := 1204) (by decide +kernel), List.mem_of_getElem? (i := 1421) (by decide +kernel), List.mem_of_getElem? (i := 1422) (by decide +kernel)⟩
theorem lw_p61 : lw_okq (⟨"OnceVolumeModel", "changedFiles", "()I"⟩, 40) := ⟨⟨by decide +kernel, by decide +kernel⟩, List.mem_of_getElem? (i := 1204) (by decide +kernel), List.mem_of_getElem? (i := 1425) (by decide +kernel), List.mem_of_getElem? (i := 1426) (by decide +kernel)⟩
theorem lw_p62 : lw_okq (⟨"OnceVolumeModel", "newAll", "()I"⟩, 40) := ⟨⟨by decide +kernel, by decide +kernel⟩, List.mem_of_getElem? (i := 1204) (by decide +kernel), List.mem_of_getElem? (i := 1429) (by decide +kernel), List.mem_of_getElem? (i := 1430) (by decide +kernel)⟩
theorem lw_p63 : lw_okq (⟨"OnceVolumeModel", "newCells", "(I)I"⟩, 40) := ⟨⟨by decide +kernel, by decide +kernel⟩, List.mem_of_getElem? (i := 1204) (by decide +kernel), List.mem_of_getElem? (i := 1433) (by decide +kernel), List.mem_of_getElem? (i := 1434) (by decide +kernel)⟩
def lw_privs_4 : List (MethodName × Nat) := [(⟨"OnceVolumeModel", "fail", "(I)I"⟩, 40), (⟨"OnceVolumeModel", "stepOn", "()V"⟩, 40), (⟨"OnceVolumeModel", "byteAt", "(I)I"⟩, 40), (⟨"OnceVolumeModel", "readClause", "()V"⟩, 40), (⟨"OnceVolumeModel", "is", "(Ljava/lang/String;)Z"⟩, 40), (⟨"OnceVolumeModel", "readDisc", "()V"⟩, 40), (⟨"OnceVolumeModel", "wrong", "(I)V"⟩, 40), (⟨"OnceVolumeModel", "readNumber", "(II)I"⟩, 40), (⟨"OnceVolumeModel", "numberNow", "(II)I"⟩, 40), (⟨"OnceVolumeModel", "readBad", "()V"⟩, 40), (⟨"OnceVolumeModel", "isNumberNext", "()Z"⟩, 40), (⟨"OnceVolumeModel", "readFile", "()V"⟩, 40), (⟨"OnceVolumeModel", "filesNow", "()I"⟩, 40), (⟨"OnceVolumeModel", "changedFiles", "()I"⟩, 40), (⟨"OnceVolumeModel", "newAll", "()I"⟩, 40), (⟨"OnceVolumeModel", "newCells", "(I)I"⟩, 40)]
theorem lw_r4 : ∀ q ∈ lw_privs_4, lw_okq q := List.forall_mem_cons.mpr ⟨lw_p48, List.forall_mem_cons.mpr ⟨lw_p49, List.forall_mem_cons.mpr ⟨lw_p50, List.forall_mem_cons.mpr ⟨lw_p51, List.forall_mem_cons.mpr ⟨lw_p52, List.forall_mem_cons.mpr ⟨lw_p53, List.forall_mem_cons.mpr ⟨lw_p54, List.forall_mem_cons.mpr ⟨lw_p55, List.forall_mem_cons.mpr ⟨lw_p56, List.forall_mem_cons.mpr ⟨lw_p57, List.forall_mem_cons.mpr ⟨lw_p58, List.forall_mem_cons.mpr ⟨lw_p59, List.forall_mem_cons.mpr ⟨lw_p60, List.forall_mem_cons.mpr ⟨lw_p61, List.forall_mem_cons.mpr ⟨lw_p62, List.forall_mem_cons.mpr ⟨lw_p63, fun _ h => absurd h List.not_mem_nil⟩⟩⟩⟩⟩⟩⟩⟩⟩⟩⟩⟩⟩⟩⟩⟩
theorem lw_p64 : lw_okq (⟨"OnceVolumeModel", "goodMaps", "()I"⟩, 40) := ⟨⟨by decide +kernel, by decide +kernel⟩, List.mem_of_getElem? (i := 1204) (by decide +kernel), List.mem_of_getElem? (i := 1437) (by decide +kernel), List.mem_of_getElem? (i := 1438) (by decide +kernel)⟩
theorem lw_p65 : lw_okq (⟨"OnceVolumeModel", "isGood", "(I)Z"⟩, 40) := ⟨⟨by decide +kernel, by decide +kernel⟩, List.mem_of_getElem? (i := 1204) (by decide +kernel), List.mem_of_getElem? (i := 1441) (by decide +kernel), List.mem_of_getElem? (i := 1442) (by decide +kernel)⟩
theorem lw_p66 : lw_okq (⟨"OnceVolumeModel", "kindOf", "(I)I"⟩, 40) := ⟨⟨by decide +kernel, by decide +kernel⟩, List.mem_of_getElem? (i := 1204) (by decide +kernel), List.mem_of_getElem? (i := 1445) (by decide +kernel), List.mem_of_getElem? (i := 1446) (by decide +kernel)⟩
theorem lw_p67 : lw_okq (⟨"OnceVolumeModel", "chain", "()I"⟩, 40) := ⟨⟨by decide +kernel, by decide +kernel⟩, List.mem_of_getElem? (i := 1204) (by decide +kernel), List.mem_of_getElem? (i := 1449) (by decide +kernel), List.mem_of_getElem? (i := 1450) (by decide +kernel)⟩
theorem lw_p68 : lw_okq (⟨"OnceVolumeModel", "tellsAt", "(II)I"⟩, 40) := ⟨⟨by decide +kernel, by decide +kernel⟩, List.mem_of_getElem? (i := 1204) (by decide +kernel), List.mem_of_getElem? (i := 1453) (by decide +kernel), List.mem_of_getElem? (i := 1454) (by decide +kernel)⟩
theorem lw_p69 : lw_okq (⟨"OnceVolumeModel", "dead", "()I"⟩, 40) := ⟨⟨by decide +kernel, by decide +kernel⟩, List.mem_of_getElem? (i := 1204) (by decide +kernel), List.mem_of_getElem? (i := 1457) (by decide +kernel), List.mem_of_getElem? (i := 1458) (by decide +kernel)⟩
theorem lw_p70 : lw_okq (⟨"OnceVolumeModel", "meet", "(I)V"⟩, 40) := ⟨⟨by decide +kernel, by decide +kernel⟩, List.mem_of_getElem? (i := 1204) (by decide +kernel), List.mem_of_getElem? (i := 1461) (by decide +kernel), List.mem_of_getElem? (i := 1462) (by decide +kernel)⟩
theorem lw_p71 : lw_okq (⟨"OnceVolumeModel", "entryBy", "(II)I"⟩, 40) := ⟨⟨by decide +kernel, by decide +kernel⟩, List.mem_of_getElem? (i := 1204) (by decide +kernel), List.mem_of_getElem? (i := 1465) (by decide +kernel), List.mem_of_getElem? (i := 1466) (by decide +kernel)⟩
theorem lw_p72 : lw_okq (⟨"OnceVolumeModel", "manyBy", "(I)I"⟩, 40) := ⟨⟨by decide +kernel, by decide +kernel⟩, List.mem_of_getElem? (i := 1204) (by decide +kernel), List.mem_of_getElem? (i := 1469) (by decide +kernel), List.mem_of_getElem? (i := 1470) (by decide +kernel)⟩
theorem lw_p73 : lw_okq (⟨"OnceVolumeModel", "badMany", "()I"⟩, 40) := ⟨⟨by decide +kernel, by decide +kernel⟩, List.mem_of_getElem? (i := 1204) (by decide +kernel), List.mem_of_getElem? (i := 1476) (by decide +kernel), List.mem_of_getElem? (i := 1477) (by decide +kernel)⟩
theorem lw_p74 : lw_okq (⟨"OnceVolumeModel", "isBlock", "(I)Z"⟩, 40) := ⟨⟨by decide +kernel, by decide +kernel⟩, List.mem_of_getElem? (i := 1204) (by decide +kernel), List.mem_of_getElem? (i := 1484) (by decide +kernel), List.mem_of_getElem? (i := 1485) (by decide +kernel)⟩
theorem lw_p75 : lw_okq (⟨"OnceVolumeModel", "isFile", "(I)Z"⟩, 40) := ⟨⟨by decide +kernel, by decide +kernel⟩, List.mem_of_getElem? (i := 1204) (by decide +kernel), List.mem_of_getElem? (i := 1496) (by decide +kernel), List.mem_of_getElem? (i := 1497) (by decide +kernel)⟩
theorem lw_p76 : lw_okq (⟨"OnceVolumeModel", "isName", "(I)Z"⟩, 40) := ⟨⟨by decide +kernel, by decide +kernel⟩, List.mem_of_getElem? (i := 1204) (by decide +kernel), List.mem_of_getElem? (i := 1500) (by decide +kernel), List.mem_of_getElem? (i := 1501) (by decide +kernel)⟩
theorem lw_p77 : lw_okq (⟨"OnceVolumeModel", "whereOf", "(II)I"⟩, 40) := ⟨⟨by decide +kernel, by decide +kernel⟩, List.mem_of_getElem? (i := 1204) (by decide +kernel), List.mem_of_getElem? (i := 1512) (by decide +kernel), List.mem_of_getElem? (i := 1513) (by decide +kernel)⟩
theorem lw_p78 : lw_okq (⟨"OnceVolumeModel", "mapBack", "(I)I"⟩, 40) := ⟨⟨by decide +kernel, by decide +kernel⟩, List.mem_of_getElem? (i := 1204) (by decide +kernel), List.mem_of_getElem? (i := 1522) (by decide +kernel), List.mem_of_getElem? (i := 1523) (by decide +kernel)⟩
theorem lw_p79 : lw_okq (⟨"OnceVolumeModel", "along", "(II)I"⟩, 40) := ⟨⟨by decide +kernel, by decide +kernel⟩, List.mem_of_getElem? (i := 1204) (by decide +kernel), List.mem_of_getElem? (i := 1526) (by decide +kernel), List.mem_of_getElem? (i := 1527) (by decide +kernel)⟩
def lw_privs_5 : List (MethodName × Nat) := [(⟨"OnceVolumeModel", "goodMaps", "()I"⟩, 40), (⟨"OnceVolumeModel", "isGood", "(I)Z"⟩, 40), (⟨"OnceVolumeModel", "kindOf", "(I)I"⟩, 40), (⟨"OnceVolumeModel", "chain", "()I"⟩, 40), (⟨"OnceVolumeModel", "tellsAt", "(II)I"⟩, 40), (⟨"OnceVolumeModel", "dead", "()I"⟩, 40), (⟨"OnceVolumeModel", "meet", "(I)V"⟩, 40), (⟨"OnceVolumeModel", "entryBy", "(II)I"⟩, 40), (⟨"OnceVolumeModel", "manyBy", "(I)I"⟩, 40), (⟨"OnceVolumeModel", "badMany", "()I"⟩, 40), (⟨"OnceVolumeModel", "isBlock", "(I)Z"⟩, 40), (⟨"OnceVolumeModel", "isFile", "(I)Z"⟩, 40), (⟨"OnceVolumeModel", "isName", "(I)Z"⟩, 40), (⟨"OnceVolumeModel", "whereOf", "(II)I"⟩, 40), (⟨"OnceVolumeModel", "mapBack", "(I)I"⟩, 40), (⟨"OnceVolumeModel", "along", "(II)I"⟩, 40)]
theorem lw_r5 : ∀ q ∈ lw_privs_5, lw_okq q := List.forall_mem_cons.mpr ⟨lw_p64, List.forall_mem_cons.mpr ⟨lw_p65, List.forall_mem_cons.mpr ⟨lw_p66, List.forall_mem_cons.mpr ⟨lw_p67, List.forall_mem_cons.mpr ⟨lw_p68, List.forall_mem_cons.mpr ⟨lw_p69, List.forall_mem_cons.mpr ⟨lw_p70, List.forall_mem_cons.mpr ⟨lw_p71, List.forall_mem_cons.mpr ⟨lw_p72, List.forall_mem_cons.mpr ⟨lw_p73, List.forall_mem_cons.mpr ⟨lw_p74, List.forall_mem_cons.mpr ⟨lw_p75, List.forall_mem_cons.mpr ⟨lw_p76, List.forall_mem_cons.mpr ⟨lw_p77, List.forall_mem_cons.mpr ⟨lw_p78, List.forall_mem_cons.mpr ⟨lw_p79, fun _ h => absurd h List.not_mem_nil⟩⟩⟩⟩⟩⟩⟩⟩⟩⟩⟩⟩⟩⟩⟩⟩
theorem lw_p80 : lw_okq (⟨"OnceVolumeModel", "cellBy", "(II)I"⟩, 40) := ⟨⟨by decide +kernel, by decide +kernel⟩, List.mem_of_getElem? (i := 1204) (by decide +kernel), List.mem_of_getElem? (i := 1530) (by decide +kernel), List.mem_of_getElem? (i := 1531) (by decide +kernel)⟩
theorem lw_p81 : lw_okq (⟨"OnceVolumeModel", "areAlike", "(II)Z"⟩, 40) := ⟨⟨by decide +kernel, by decide +kernel⟩, List.mem_of_getElem? (i := 1204) (by decide +kernel), List.mem_of_getElem? (i := 1538) (by decide +kernel), List.mem_of_getElem? (i := 1539) (by decide +kernel)⟩
theorem lw_p82 : lw_okq (⟨"OnceVolumeModel", "isAsInMind", "(II)Z"⟩, 40) := ⟨⟨by decide +kernel, by decide +kernel⟩, List.mem_of_getElem? (i := 1204) (by decide +kernel), List.mem_of_getElem? (i := 1550) (by decide +kernel), List.mem_of_getElem? (i := 1551) (by decide +kernel)⟩
theorem lw_p83 : lw_okq (⟨"OnceVolumeModel", "canSet", "(III)Z"⟩, 40) := ⟨⟨by decide +kernel, by decide +kernel⟩, List.mem_of_getElem? (i := 1204) (by decide +kernel), List.mem_of_getElem? (i := 1558) (by decide +kernel), List.mem_of_getElem? (i := 1559) (by decide +kernel)⟩
theorem lw_p84 : lw_okq (⟨"OnceVolumeModel", "refuse", "()I"⟩, 40) := ⟨⟨by decide +kernel, by decide +kernel⟩, List.mem_of_getElem? (i := 1204) (by decide +kernel), List.mem_of_getElem? (i := 1562) (by decide +kernel), List.mem_of_getElem? (i := 1563) (by decide +kernel)⟩
theorem lw_p85 : lw_okq (⟨"OnceVolumeModel", "keep", "()V"⟩, 40) := ⟨⟨by decide +kernel, by decide +kernel⟩, List.mem_of_getElem? (i := 1204) (by decide +kernel), List.mem_of_getElem? (i := 1566) (by decide +kernel), List.mem_of_getElem? (i := 1567) (by decide +kernel)⟩
theorem lw_p86 : lw_okq (⟨"OnceVolumeModel", "setNow", "(III)V"⟩, 40) := ⟨⟨by decide +kernel, by decide +kernel⟩, List.mem_of_getElem? (i := 1204) (by decide +kernel), List.mem_of_getElem? (i := 1570) (by decide +kernel), List.mem_of_getElem? (i := 1571) (by decide +kernel)⟩
theorem lw_p87 : lw_okq (⟨"OnceVolumeModel", "beginFile", "(I)V"⟩, 40) := ⟨⟨by decide +kernel, by decide +kernel⟩, List.mem_of_getElem? (i := 1204) (by decide +kernel), List.mem_of_getElem? (i := 1574) (by decide +kernel), List.mem_of_getElem? (i := 1575) (by decide +kernel)⟩
theorem lw_p88 : lw_okq (⟨"OnceVolumeModel", "freeVirtual", "()I"⟩, 40) := ⟨⟨by decide +kernel, by decide +kernel⟩, List.mem_of_getElem? (i := 1204) (by decide +kernel), List.mem_of_getElem? (i := 1578) (by decide +kernel), List.mem_of_getElem? (i := 1579) (by decide +kernel)⟩
theorem lw_p89 : lw_okq (⟨"OnceVolumeModel", "nameOf", "(I)I"⟩, 40) := ⟨⟨by decide +kernel, by decide +kernel⟩, List.mem_of_getElem? (i := 1204) (by decide +kernel), List.mem_of_getElem? (i := 1582) (by decide +kernel), List.mem_of_getElem? (i := 1583) (by decide +kernel)⟩
theorem lw_p90 : lw_okq (⟨"OnceVolumeModel", "eraseNow", "(I)V"⟩, 40) := ⟨⟨by decide +kernel, by decide +kernel⟩, List.mem_of_getElem? (i := 1204) (by decide +kernel), List.mem_of_getElem? (i := 1594) (by decide +kernel), List.mem_of_getElem? (i := 1595) (by decide +kernel)⟩
theorem lw_p91 : lw_okq (⟨"OnceVolumeModel", "canName", "(II)Z"⟩, 40) := ⟨⟨by decide +kernel, by decide +kernel⟩, List.mem_of_getElem? (i := 1204) (by decide +kernel), List.mem_of_getElem? (i := 1602) (by decide +kernel), List.mem_of_getElem? (i := 1603) (by decide +kernel)⟩
theorem lw_p92 : lw_okq (⟨"OnceVolumeModel", "likeCells", "(II)V"⟩, 40) := ⟨⟨by decide +kernel, by decide +kernel⟩, List.mem_of_getElem? (i := 1204) (by decide +kernel), List.mem_of_getElem? (i := 1606) (by decide +kernel), List.mem_of_getElem? (i := 1607) (by decide +kernel)⟩
theorem lw_p93 : lw_okq (⟨"OnceVolumeModel", "takeCells", "(II)V"⟩, 40) := ⟨⟨by decide +kernel, by decide +kernel⟩, List.mem_of_getElem? (i := 1204) (by decide +kernel), List.mem_of_getElem? (i := 1618) (by decide +kernel), List.mem_of_getElem? (i := 1619) (by decide +kernel)⟩
theorem lw_p94 : lw_okq (⟨"OnceVolumeModel", "canBegin", "()Z"⟩, 40) := ⟨⟨by decide +kernel, by decide +kernel⟩, List.mem_of_getElem? (i := 1204) (by decide +kernel), List.mem_of_getElem? (i := 1626) (by decide +kernel), List.mem_of_getElem? (i := 1627) (by decide +kernel)⟩
theorem lw_p95 : lw_okq (⟨"OnceVolumeModel", "layContents", "()V"⟩, 40) := ⟨⟨by decide +kernel, by decide +kernel⟩, List.mem_of_getElem? (i := 1204) (by decide +kernel), List.mem_of_getElem? (i := 1630) (by decide +kernel), List.mem_of_getElem? (i := 1631) (by decide +kernel)⟩
def lw_privs_6 : List (MethodName × Nat) := [(⟨"OnceVolumeModel", "cellBy", "(II)I"⟩, 40), (⟨"OnceVolumeModel", "areAlike", "(II)Z"⟩, 40), (⟨"OnceVolumeModel", "isAsInMind", "(II)Z"⟩, 40), (⟨"OnceVolumeModel", "canSet", "(III)Z"⟩, 40), (⟨"OnceVolumeModel", "refuse", "()I"⟩, 40), (⟨"OnceVolumeModel", "keep", "()V"⟩, 40), (⟨"OnceVolumeModel", "setNow", "(III)V"⟩, 40), (⟨"OnceVolumeModel", "beginFile", "(I)V"⟩, 40), (⟨"OnceVolumeModel", "freeVirtual", "()I"⟩, 40), (⟨"OnceVolumeModel", "nameOf", "(I)I"⟩, 40), (⟨"OnceVolumeModel", "eraseNow", "(I)V"⟩, 40), (⟨"OnceVolumeModel", "canName", "(II)Z"⟩, 40), (⟨"OnceVolumeModel", "likeCells", "(II)V"⟩, 40), (⟨"OnceVolumeModel", "takeCells", "(II)V"⟩, 40), (⟨"OnceVolumeModel", "canBegin", "()Z"⟩, 40), (⟨"OnceVolumeModel", "layContents", "()V"⟩, 40)]
theorem lw_r6 : ∀ q ∈ lw_privs_6, lw_okq q := List.forall_mem_cons.mpr ⟨lw_p80, List.forall_mem_cons.mpr ⟨lw_p81, List.forall_mem_cons.mpr ⟨lw_p82, List.forall_mem_cons.mpr ⟨lw_p83, List.forall_mem_cons.mpr ⟨lw_p84, List.forall_mem_cons.mpr ⟨lw_p85, List.forall_mem_cons.mpr ⟨lw_p86, List.forall_mem_cons.mpr ⟨lw_p87, List.forall_mem_cons.mpr ⟨lw_p88, List.forall_mem_cons.mpr ⟨lw_p89, List.forall_mem_cons.mpr ⟨lw_p90, List.forall_mem_cons.mpr ⟨lw_p91, List.forall_mem_cons.mpr ⟨lw_p92, List.forall_mem_cons.mpr ⟨lw_p93, List.forall_mem_cons.mpr ⟨lw_p94, List.forall_mem_cons.mpr ⟨lw_p95, fun _ h => absurd h List.not_mem_nil⟩⟩⟩⟩⟩⟩⟩⟩⟩⟩⟩⟩⟩⟩⟩⟩
theorem lw_p96 : lw_okq (⟨"OnceVolumeModel", "content", "(II)V"⟩, 40) := ⟨⟨by decide +kernel, by decide +kernel⟩, List.mem_of_getElem? (i := 1204) (by decide +kernel), List.mem_of_getElem? (i := 1634) (by decide +kernel), List.mem_of_getElem? (i := 1635) (by decide +kernel)⟩
theorem lw_p97 : lw_okq (⟨"OnceVolumeModel", "hasChanged", "()Z"⟩, 40) := ⟨⟨by decide +kernel, by decide +kernel⟩, List.mem_of_getElem? (i := 1204) (by decide +kernel), List.mem_of_getElem? (i := 1641) (by decide +kernel), List.mem_of_getElem? (i := 1642) (by decide +kernel)⟩
theorem lw_p98 : lw_okq (⟨"OnceVolumeModel", "syncNow", "()I"⟩, 40) := ⟨⟨by decide +kernel, by decide +kernel⟩, List.mem_of_getElem? (i := 1204) (by decide +kernel), List.mem_of_getElem? (i := 1645) (by decide +kernel), List.mem_of_getElem? (i := 1646) (by decide +kernel)⟩
theorem lw_p99 : lw_okq (⟨"OnceVolumeModel", "writeAll", "(I)I"⟩, 40) := ⟨⟨by decide +kernel, by decide +kernel⟩, List.mem_of_getElem? (i := 1204) (by decide +kernel), List.mem_of_getElem? (i := 1650) (by decide +kernel), List.mem_of_getElem? (i := 1651) (by decide +kernel)⟩
theorem lw_p100 : lw_okq (⟨"OnceVolumeModel", "isTorn", "(I)Z"⟩, 40) := ⟨⟨by decide +kernel, by decide +kernel⟩, List.mem_of_getElem? (i := 1204) (by decide +kernel), List.mem_of_getElem? (i := 1654) (by decide +kernel), List.mem_of_getElem? (i := 1655) (by decide +kernel)⟩
theorem lw_p101 : lw_okq (⟨"OnceVolumeModel", "writePacket", "(II)Z"⟩, 40) := ⟨⟨by decide +kernel, by decide +kernel⟩, List.mem_of_getElem? (i := 1204) (by decide +kernel), List.mem_of_getElem? (i := 1658) (by decide +kernel), List.mem_of_getElem? (i := 1659) (by decide +kernel)⟩
theorem lw_p102 : lw_okq (⟨"OnceVolumeModel", "putBlock", "(I)V"⟩, 40) := ⟨⟨by decide +kernel, by decide +kernel⟩, List.mem_of_getElem? (i := 1204) (by decide +kernel), List.mem_of_getElem? (i := 1662) (by decide +kernel), List.mem_of_getElem? (i := 1663) (by decide +kernel)⟩
theorem lw_p103 : lw_okq (⟨"OnceVolumeModel", "isFaulty", "(I)Z"⟩, 40) := ⟨⟨by decide +kernel, by decide +kernel⟩, List.mem_of_getElem? (i := 1204) (by decide +kernel), List.mem_of_getElem? (i := 1666) (by decide +kernel), List.mem_of_getElem? (i := 1667) (by decide +kernel)⟩
theorem lw_p104 : lw_okq (⟨"OnceVolumeModel", "putBody", "(II)V"⟩, 40) := ⟨⟨by decide +kernel, by decide +kernel⟩, List.mem_of_getElem? (i := 1204) (by decide +kernel), List.mem_of_getElem? (i := 1670) (by decide +kernel), List.mem_of_getElem? (i := 1671) (by decide +kernel)⟩
theorem lw_p105 : lw_okq (⟨"OnceVolumeModel", "placeOf", "(III)I"⟩, 40) := ⟨⟨by decide +kernel, by decide +kernel⟩, List.mem_of_getElem? (i := 1204) (by decide +kernel), List.mem_of_getElem? (i := 1674) (by decide +kernel), List.mem_of_getElem? (i := 1675) (by decide +kernel)⟩
theorem lw_p106 : lw_okq (⟨"OnceVolumeModel", "commit", "()V"⟩, 40) := ⟨⟨by decide +kernel, by decide +kernel⟩, List.mem_of_getElem? (i := 1204) (by decide +kernel), List.mem_of_getElem? (i := 1678) (by decide +kernel), List.mem_of_getElem? (i := 1679) (by decide +kernel)⟩
theorem lw_p107 : lw_okq (⟨"OnceVolumeModel", "lastGood", "(I)I"⟩, 40) := ⟨⟨by decide +kernel, by decide +kernel⟩, List.mem_of_getElem? (i := 1204) (by decide +kernel), List.mem_of_getElem? (i := 1682) (by decide +kernel), List.mem_of_getElem? (i := 1683) (by decide +kernel)⟩
theorem lw_p108 : lw_okq (⟨"OnceVolumeModel", "mountMap", "(I)V"⟩, 40) := ⟨⟨by decide +kernel, by decide +kernel⟩, List.mem_of_getElem? (i := 1204) (by decide +kernel), List.mem_of_getElem? (i := 1686) (by decide +kernel), List.mem_of_getElem? (i := 1687) (by decide +kernel)⟩
theorem lw_p109 : lw_okq (⟨"OnceVolumeModel", "wouldWrite", "()I"⟩, 40) := ⟨⟨by decide +kernel, by decide +kernel⟩, List.mem_of_getElem? (i := 1204) (by decide +kernel), List.mem_of_getElem? (i := 1694) (by decide +kernel), List.mem_of_getElem? (i := 1695) (by decide +kernel)⟩
theorem lw_p110 : lw_okq (⟨"OnceVolumeModel", "tearNow", "(I)V"⟩, 40) := ⟨⟨by decide +kernel, by decide +kernel⟩, List.mem_of_getElem? (i := 1204) (by decide +kernel), List.mem_of_getElem? (i := 1698) (by decide +kernel), List.mem_of_getElem? (i := 1699) (by decide +kernel)⟩
theorem lw_p111 : lw_okq (⟨"OnceVolumeModel", "canClose", "()Z"⟩, 40) := ⟨⟨by decide +kernel, by decide +kernel⟩, List.mem_of_getElem? (i := 1204) (by decide +kernel), List.mem_of_getElem? (i := 1706) (by decide +kernel), List.mem_of_getElem? (i := 1707) (by decide +kernel)⟩
def lw_privs_7 : List (MethodName × Nat) := [(⟨"OnceVolumeModel", "content", "(II)V"⟩, 40), (⟨"OnceVolumeModel", "hasChanged", "()Z"⟩, 40), (⟨"OnceVolumeModel", "syncNow", "()I"⟩, 40), (⟨"OnceVolumeModel", "writeAll", "(I)I"⟩, 40), (⟨"OnceVolumeModel", "isTorn", "(I)Z"⟩, 40), (⟨"OnceVolumeModel", "writePacket", "(II)Z"⟩, 40), (⟨"OnceVolumeModel", "putBlock", "(I)V"⟩, 40), (⟨"OnceVolumeModel", "isFaulty", "(I)Z"⟩, 40), (⟨"OnceVolumeModel", "putBody", "(II)V"⟩, 40), (⟨"OnceVolumeModel", "placeOf", "(III)I"⟩, 40), (⟨"OnceVolumeModel", "commit", "()V"⟩, 40), (⟨"OnceVolumeModel", "lastGood", "(I)I"⟩, 40), (⟨"OnceVolumeModel", "mountMap", "(I)V"⟩, 40), (⟨"OnceVolumeModel", "wouldWrite", "()I"⟩, 40), (⟨"OnceVolumeModel", "tearNow", "(I)V"⟩, 40), (⟨"OnceVolumeModel", "canClose", "()Z"⟩, 40)]
theorem lw_r7 : ∀ q ∈ lw_privs_7, lw_okq q := List.forall_mem_cons.mpr ⟨lw_p96, List.forall_mem_cons.mpr ⟨lw_p97, List.forall_mem_cons.mpr ⟨lw_p98, List.forall_mem_cons.mpr ⟨lw_p99, List.forall_mem_cons.mpr ⟨lw_p100, List.forall_mem_cons.mpr ⟨lw_p101, List.forall_mem_cons.mpr ⟨lw_p102, List.forall_mem_cons.mpr ⟨lw_p103, List.forall_mem_cons.mpr ⟨lw_p104, List.forall_mem_cons.mpr ⟨lw_p105, List.forall_mem_cons.mpr ⟨lw_p106, List.forall_mem_cons.mpr ⟨lw_p107, List.forall_mem_cons.mpr ⟨lw_p108, List.forall_mem_cons.mpr ⟨lw_p109, List.forall_mem_cons.mpr ⟨lw_p110, List.forall_mem_cons.mpr ⟨lw_p111, fun _ h => absurd h List.not_mem_nil⟩⟩⟩⟩⟩⟩⟩⟩⟩⟩⟩⟩⟩⟩⟩⟩
theorem lw_p112 : lw_okq (⟨"OnceVolumeModel", "closeNow", "(Z)V"⟩, 40) := ⟨⟨by decide +kernel, by decide +kernel⟩, List.mem_of_getElem? (i := 1204) (by decide +kernel), List.mem_of_getElem? (i := 1710) (by decide +kernel), List.mem_of_getElem? (i := 1711) (by decide +kernel)⟩
theorem lw_p113 : lw_okq (⟨"OnceVolumeModel", "things", "()I"⟩, 40) := ⟨⟨by decide +kernel, by decide +kernel⟩, List.mem_of_getElem? (i := 1204) (by decide +kernel), List.mem_of_getElem? (i := 1726) (by decide +kernel), List.mem_of_getElem? (i := 1727) (by decide +kernel)⟩
theorem lw_p114 : lw_okq (⟨"OnceVolumeModel", "costOf", "(II)I"⟩, 40) := ⟨⟨by decide +kernel, by decide +kernel⟩, List.mem_of_getElem? (i := 1204) (by decide +kernel), List.mem_of_getElem? (i := 1730) (by decide +kernel), List.mem_of_getElem? (i := 1731) (by decide +kernel)⟩
theorem lw_p115 : lw_okq (⟨"OnceVolumeModel", "endsNow", "()I"⟩, 40) := ⟨⟨by decide +kernel, by decide +kernel⟩, List.mem_of_getElem? (i := 1204) (by decide +kernel), List.mem_of_getElem? (i := 1750) (by decide +kernel), List.mem_of_getElem? (i := 1751) (by decide +kernel)⟩
theorem lw_p116 : lw_okq (⟨"OnceVolumeModel", "happen", "()V"⟩, 40) := ⟨⟨by decide +kernel, by decide +kernel⟩, List.mem_of_getElem? (i := 1204) (by decide +kernel), List.mem_of_getElem? (i := 1774) (by decide +kernel), List.mem_of_getElem? (i := 1775) (by decide +kernel)⟩
theorem lw_p117 : lw_okq (⟨"OnceVolumeModel", "draw", "(I)I"⟩, 40) := ⟨⟨by decide +kernel, by decide +kernel⟩, List.mem_of_getElem? (i := 1204) (by decide +kernel), List.mem_of_getElem? (i := 1778) (by decide +kernel), List.mem_of_getElem? (i := 1779) (by decide +kernel)⟩
def lw_privs_8 : List (MethodName × Nat) := [(⟨"OnceVolumeModel", "closeNow", "(Z)V"⟩, 40), (⟨"OnceVolumeModel", "things", "()I"⟩, 40), (⟨"OnceVolumeModel", "costOf", "(II)I"⟩, 40), (⟨"OnceVolumeModel", "endsNow", "()I"⟩, 40), (⟨"OnceVolumeModel", "happen", "()V"⟩, 40), (⟨"OnceVolumeModel", "draw", "(I)I"⟩, 40)]
theorem lw_r8 : ∀ q ∈ lw_privs_8, lw_okq q := List.forall_mem_cons.mpr ⟨lw_p112, List.forall_mem_cons.mpr ⟨lw_p113, List.forall_mem_cons.mpr ⟨lw_p114, List.forall_mem_cons.mpr ⟨lw_p115, List.forall_mem_cons.mpr ⟨lw_p116, List.forall_mem_cons.mpr ⟨lw_p117, fun _ h => absurd h List.not_mem_nil⟩⟩⟩⟩⟩⟩
def lw_privs : List (MethodName × Nat) := lw_privs_1 ++ (lw_privs_2 ++ (lw_privs_3 ++ (lw_privs_4 ++ (lw_privs_5 ++ (lw_privs_6 ++ (lw_privs_7 ++ (lw_privs_8)))))))
def lw_tbl : List Cond := k2_sels lw_privs ++ tables_1
theorem lw_privs_ok : ∀ q ∈ lw_privs, lw_okq q := by
  show ∀ q ∈ lw_privs_1 ++ (lw_privs_2 ++ (lw_privs_3 ++ (lw_privs_4 ++ (lw_privs_5 ++ (lw_privs_6 ++ (lw_privs_7 ++ (lw_privs_8))))))), lw_okq q
  exact List.forall_mem_append.mpr ⟨lw_r1, List.forall_mem_append.mpr ⟨lw_r2, List.forall_mem_append.mpr ⟨lw_r3, List.forall_mem_append.mpr ⟨lw_r4, List.forall_mem_append.mpr ⟨lw_r5, List.forall_mem_append.mpr ⟨lw_r6, List.forall_mem_append.mpr ⟨lw_r7, lw_r8⟩⟩⟩⟩⟩⟩⟩
end
section
/-! ===== BEGIN words of one list among another's, by their places ===== -/
theorem goodIn_r {big : List Cond} (ws : List Cond) (ps : List Nat) (hp : ws = ps.filterMap (fun i => big[i]?)) (h : ws.all goodWord = true) : GoodIn big ws := by
  intro w hw
  have h1 := List.all_eq_true.mp h w hw
  rw [hp] at hw
  obtain ⟨i, -, hi⟩ := List.mem_filterMap.mp hw
  have hm : w ∈ big := by first | exact List.mem_of_getElem? hi | exact List.getElem?_mem hi
  exact ⟨hm, good_of_word h1⟩
theorem goodIn_app {big a b : List Cond} (ha : GoodIn big a) (hb : GoodIn big b) : GoodIn big (a ++ b) := fun w h => (List.mem_append.mp h).elim (ha w) (hb w)
theorem goodIn_ca {big a b : List Cond} {c : Cond} (ha : GoodIn big (c :: a)) (hb : GoodIn big b) : GoodIn big (c :: (a ++ b)) := fun w h => (List.mem_cons.mp h).elim (fun e => ha w (List.mem_cons.mpr (Or.inl e))) (fun h => (List.mem_append.mp h).elim (fun h => ha w (List.mem_cons.mpr (Or.inr h))) (hb w))
theorem goodIn_sub {big ws : List Cond} (hm : ∀ w ∈ ws, w ∈ big) (h : ws.all goodWord = true) : GoodIn big ws := fun w hw => ⟨hm w hw, good_of_word (List.all_eq_true.mp h w hw)⟩
/-! ===== END ===== -/

/-! ===== BEGIN exceptions that leave a method, and their catching by the caller (launches without stack traces) ===== -/
section VXA
/-! The laws vx_back, vx_callV, vx_callS, vx_callSW, vx_throw0, vx_throwS follow proofs of the library, with one case more: JvmDerived/Free/Laws.lean (Back.of_free), Shelf42/LK1.lean (callV, callS), Shelf/KitTraced.lean (throwNew0V, throwNewS). -/
/-- where a method has thrown q: the class by its name, the cell, what was written, the world -/
def vx_T (XC : String → State → State → Prop) (st : State) (q : Addr) (t : State) (mc ms : Nat) (free : Addr → Prop) : Prop :=
  ∃ (E : String) (ce : Cell) (L : List Loc), XC E st t ∧ t.heap[q]? = some ce ∧ ce.vm = .none ∧ st.vm.findClass E = some ce.cls ∧ st.WarmedH t.vm ∧ st.sameButNew ({ t with vm := st.vm } : State) L mc ms ∧ ∀ z ∈ L, free z.base
def vx_Q (Qc : Array Value → State → Outcome → State → Prop) (XC : String → State → State → Prop) (mc ms : Nat) (free : Addr → Prop) : Array Value → State → Outcome → State → Prop := fun a st o t =>
  (Qc a st o t ∧ ∃ L, FrameEnd st o t L mc ms ∧ ∀ q ∈ L, free q.base) ∨ ∃ q, o = .threw q ∧ vx_T XC st q t mc ms free
/-- a callee that returns or throws -/
def vx_Met (l : Launch) (y : MethodName) (ws : List Cond) (rm : Room) (Pc : Array Value → State → Prop) (Qc : Array Value → State → Outcome → State → Prop) (XC : String → State → State → Prop) (mc ms : Nat) (free : Addr → Prop) : Prop :=
  MetFree l y (headSpec ws rm) Pc (fun _ _ _ _ _ => True) (vx_Q Qc XC mc ms free)
def vx_Post (XC : String → State → State → Prop) (mc ms : Nat) (free : Addr → Prop) : Pt → Array Value → Addr → Pt → Prop := fun A a q B =>
  ∃ (g : JFrame) (mk : MethodId) (t : State) (L : List Loc) (E : String) (ce : Cell), B.U.heap = t.heap ∧ B.U.vm = t.vm ∧ XC E (A.U.calling g mk a) t ∧ t.heap[q]? = some ce ∧ ce.vm = .none ∧ A.U.vm.findClass E = some ce.cls ∧ B.locs = A.locs ++ L ∧ (∀ z ∈ L, free z.base) ∧ B.cells = A.cells + mc ∧ B.slots = A.slots + ms
def vx_Back (l : Launch) (R : Room) (p : Program) (e : Env) (below : List Frame) (s : State) (sargs : Array Value) (y : MethodName) (len W9 : Nat)
    (Pre : Pt → Array Value → Prop) (Post : Pt → Array Value → Option Value → Pt → Prop) (PostX : Pt → Array Value → Addr → Pt → Prop) : Prop :=
  ∀ (m : MethodId) (meth : Method) (c : Code) (A : Pt) (g : JFrame) (ig : Instr) (mk : MethodId) (a : Array Value),
    Stand p l e R s m sargs below meth c A.U A.locs A.cells A.slots → g.method = m → g.locals.size = c.maxLocals → decode c.code g.pc = .ok (ig, len) →
    2 * g.monitorRoom + (g.stack.map fun v => v.category).sum ≤ W9 → A.U.methodNamed? y = some mk → Pre A a →
    (∃ (v : Option Value) (B : Pt), Stand p l e R s m sargs below meth c B.U B.locs B.cells B.slots ∧ Post A a v B ∧
      Steps p.tables e below (doInvoke e (A.U.setTop g) [] mk a).1 (B.U.setTop { g with pc := g.pc + len, stack := v.toList ++ g.stack })) ∨
    (∃ (q : Addr) (B : Pt), Stand p l e R s m sargs below meth c B.U B.locs B.cells B.slots ∧ PostX A a q B ∧
      Steps p.tables e below (doInvoke e (A.U.setTop g) [] mk a).1 ((B.U.setTop g).pushFrame (.throwing q)))
section Payer
variable {l : Launch} {R : Room} {p : Program} {e : Env} {below : List Frame} {s : State} {sargs : Array Value} {y : MethodName} {len W9 : Nat}
theorem vx_back {ws : List Cond} {rm : Room} {Pc : Array Value → State → Prop} {Qc : Array Value → State → Outcome → State → Prop} {XC : String → State → State → Prop} {mc ms : Nat} {free : Addr → Prop} {bytes : ByteArray} {maxL : Nat} {ret : Option FieldType}
    (hM : vx_Met l y ws rm Pc Qc XC mc ms free) (hblind : FrameBlind Pc) (hrc : rm.cells = mc) (hrs : rm.slots = ms)
    (hframes : rm.frames + 1 ≤ R.frames) (hlocals : W9 + (maxL + 11) + rm.locals ≤ R.locals)
    (hws : ∀ w ∈ ws, ∀ a' U, s.WarmedH U.vm → w.before a' U = true) (hcode : Cond.code y bytes maxL ret ∈ ws) (hinit : ∀ a' U, s.WarmedH U.vm → (Cond.initialized y.cls).before a' U = true) :
    vx_Back l R p e below s sargs y len W9 (PreOf R mc ms Pc) (PostOf Qc mc ms free) (vx_Post XC mc ms free) := by
  intro m meth c A g ig mk a X hg hsize hdg hW hn hp
  have h1 : (headSpec ws rm).pre.before a A.U = true := atoms_intro fun w hw => hws w hw _ _ X.warmed
  have h2 : (Cond.code y bytes maxL ret).before a A.U = true := hws _ hcode _ _ X.warmed
  have h3 : (Cond.initialized y.cls).before a A.U = true := hinit _ _ X.warmed
  have h4 : A.cells + (headSpec ws rm).room.cells ≤ R.cells := by rw [show (headSpec ws rm).room.cells = mc from hrc]; exact hp.1
  have h5 : A.slots + (headSpec ws rm).room.slots ≤ R.slots := by rw [show (headSpec ws rm).room.slots = ms from hrs]; exact hp.2.1
  have hPc : Pc a (A.U.calling g mk a) := hblind _ _ _ _ hp.2.2
  obtain ⟨U, Ls, c0, s0⟩ := A
  dsimp only [Pt.U, Pt.locs, Pt.cells, Pt.slots] at h1 h2 h3 h4 h5 X hn hPc ⊢
  obtain ⟨methY, cY, hmY, hcY, -, hlY, -, -, -, -⟩ := Cond.code_spec hn h2
  obtain ⟨kY, hkY, -⟩ := className_of_methodNamed hn
  have hinitY : kY.init = .initialized := Cond.initialized_spec (findClass_of_methodNamed hn) hkY h3
  have h : At U g.method c below := by rw [hg]; exact X.here
  have hlocals9 : W9 + (maxL + 11) + (headSpec ws rm).room.locals ≤ R.locals := hlocals
  have happ : (headSpec ws rm).appliesLoose y e.platform (U.calling g mk a) = true :=
    Spec.appliesLoose_calling (g := g) h hdg hn hkY hinitY
      (X.room_calling (g := g) (R' := (headSpec ws rm).room) hsize hmY hcY hframes (by rw [hlY]; omega) h4 h5) h1
  obtain ⟨mid, hmid⟩ := h.above
  have hfr : (U.setTop g).frames = (.java g :: mid) ++ below := by rw [State.frames_setTop' g h.top, hmid]; rfl
  obtain ⟨o, s₂, hsteps, -, hend, hq⟩ := Steps.callFree hM p X.admits X.cas X.clock (acts := []) hfr happ hPc trivial
  have hq' : vx_Q Qc XC mc ms free a (U.calling g mk a) o s₂ := hq
  rw [State.frames_setTop' g h.top] at hend
  obtain ⟨g₀, hg0⟩ := Option.isSome_iff_exists.mp h.top
  obtain ⟨r, hr⟩ := State.topJava?_eq_some.mp hg0
  have hr' : (({ U with heap := s₂.heap, slotsUsed := s₂.slotsUsed } : State).setVm s₂.vm).frames = .java g₀ :: r := hr
  rcases hq' with ⟨hqc, L, hfe, hL⟩ | ⟨q, rfl, E, ce, L, hx, hce, hcv, hcl, hW₂, hsm, hL⟩
  · obtain ⟨⟨v, rfl⟩, hW₂, e2, q2, q3, q4, q5, q6⟩ := id hfe
    have e3 : s₂ = ({ (U.calling g mk a).setFrames s₂.frames with heap := s₂.heap, slotsUsed := s₂.slotsUsed } : State).setVm s₂.vm := by
      have : s₂ = ({ s₂ with vm := (U.calling g mk a).vm } : State).setVm s₂.vm := rfl
      rw [e2] at this
      exact this
    obtain ⟨c₂, i₂, len₂, hc₂, hd₂, hf₂⟩ := hend
    have hW' : U.WarmedH s₂.vm := hW₂
    have hcc : c₂ = c := by
      have h1 : s₂.code? g.method = U.code? g.method := by
        rw [State.code?_eq, State.code?_eq, hW'.alike.method?]
      exact Option.some.inj (hc₂.symm.trans (h1.trans h.code))
    subst hcc
    have hlen : len₂ = len := by rw [hdg] at hd₂; cases hd₂; rfl
    subst hlen
    have hs₂ : s₂ = (({ U with heap := s₂.heap, slotsUsed := s₂.slotsUsed } : State).setVm s₂.vm).setTop { g with pc := g.pc + len₂, stack := v.toList ++ g.stack } := by
      refine e3.trans ?_
      rw [hf₂, State.calling_eq h.top, State.setFrames_setFrames, State.setTop_of_frames _ hr', hr]
      rfl
    have hsame : U.sameButNew ({ U with heap := s₂.heap, slotsUsed := s₂.slotsUsed } : State) L mc ms := by
      refine ⟨?_, q2, q3, q4, q5, q6⟩
      obtain ⟨t, ht, -⟩ := State.frames_cons hr
      show ({ U with heap := s₂.heap, slotsUsed := s₂.slotsUsed } : State) = { U.setFrames U.frames with heap := s₂.heap, slotsUsed := s₂.slotsUsed }
      rw [State.setFrames_self ht]
    subst hg
    refine Or.inl ⟨v, ⟨(({ U with heap := s₂.heap, slotsUsed := s₂.slotsUsed } : State).setVm s₂.vm), Ls ++ L, c0 + mc, s0 + ms⟩,
      ⟨X.admits, X.cas, X.clock, X.frames, X.room, X.hears, X.method, X.code, (X.here.setHeapUsed s₂.heap s₂.slotsUsed).setVm hW'.alike, X.tail, State.WarmedH.trans X.warmed hW', X.limits, X.bytes, X.same.trans (hsame.setVm s.vm)⟩,
      ⟨g, mk, s₂, L, rfl, rfl, hqc, rfl, hL, rfl, rfl⟩, ?_⟩
    show Steps p.tables e below _ ((({ U with heap := s₂.heap, slotsUsed := s₂.slotsUsed } : State).setVm s₂.vm).setTop { g with pc := g.pc + len₂, stack := v.toList ++ g.stack })
    rw [← hs₂]
    exact hsteps
  · obtain ⟨e2, q2, q3, q4, q5, q6⟩ := id hsm
    have e3 : s₂ = ({ (U.calling g mk a).setFrames s₂.frames with heap := s₂.heap, slotsUsed := s₂.slotsUsed } : State).setVm s₂.vm := by
      have : s₂ = ({ s₂ with vm := (U.calling g mk a).vm } : State).setVm s₂.vm := rfl
      rw [e2] at this
      exact this
    have hf₂ : s₂.frames = .throwing q :: .java g :: U.frames.tail := hend
    have hW' : U.WarmedH s₂.vm := hW₂
    have hs₂ : s₂ = ((({ U with heap := s₂.heap, slotsUsed := s₂.slotsUsed } : State).setVm s₂.vm).setTop g).pushFrame (.throwing q) := by
      refine e3.trans ?_
      rw [hf₂, State.calling_eq h.top, State.setFrames_setFrames, State.pushFrame, State.frames_setTop _ hr', State.setTop_of_frames _ hr', State.setFrames_setFrames, hr]
      rfl
    have hsame : U.sameButNew ({ U with heap := s₂.heap, slotsUsed := s₂.slotsUsed } : State) L mc ms := by
      refine ⟨?_, q2, q3, q4, q5, q6⟩
      obtain ⟨t, ht, -⟩ := State.frames_cons hr
      show ({ U with heap := s₂.heap, slotsUsed := s₂.slotsUsed } : State) = { U.setFrames U.frames with heap := s₂.heap, slotsUsed := s₂.slotsUsed }
      rw [State.setFrames_self ht]
    subst hg
    refine Or.inr ⟨q, ⟨(({ U with heap := s₂.heap, slotsUsed := s₂.slotsUsed } : State).setVm s₂.vm), Ls ++ L, c0 + mc, s0 + ms⟩,
      ⟨X.admits, X.cas, X.clock, X.frames, X.room, X.hears, X.method, X.code, (X.here.setHeapUsed s₂.heap s₂.slotsUsed).setVm hW'.alike, X.tail, State.WarmedH.trans X.warmed hW', X.limits, X.bytes, X.same.trans (hsame.setVm s.vm)⟩,
      ⟨g, mk, s₂, L, E, ce, rfl, rfl, hx, hce, hcv, hcl, rfl, hL, rfl, rfl⟩, ?_⟩
    show Steps p.tables e below _ (((({ U with heap := s₂.heap, slotsUsed := s₂.slotsUsed } : State).setVm s₂.vm).setTop g).pushFrame (.throwing q))
    rw [← hs₂]
    exact hsteps
end Payer
section Calls
variable {p : Program} {l : Launch} {e : Env} {R : Room} {s : State} {m : MethodId} {args : Array Value} {below : List Frame} {meth : Method} {c : Code} {T : State} {locs : List Loc} {cells slots : Nat}
theorem vx_callV (X : Stand p l e R s m args below meth c T locs cells slots) (hexec : p.tables.exec = Jvm.exec) {own C : String} {index : Nat} {y : MethodName} {bytes : ByteArray} {maxL : Nat} {ret : Option FieldType}
    (hown : s.vm.findClass own = some m.cls) (hlink : (Cond.methodLink own index y).before args s = true) (hinst : (Cond.instanceMethod y).before args s = true) (hsel : (Cond.selects C y y).before args s = true)
    (hcode : (Cond.code y bytes maxL ret).before args s = true) (hy : y.cls ≠ "java/lang/invoke/MethodHandle" ∧ y.cls ≠ "java/lang/invoke/VarHandle")
    {W9 : Nat} {Pre : Pt → Array Value → Prop} {Post : Pt → Array Value → Option Value → Pt → Prop} {PostX : Pt → Array Value → Addr → Pt → Prop} (hK : vx_Back l R p e below s args y 3 W9 Pre Post PostX)
    {b : Addr} {cellB : Cell} (hcell : T.heap[b]? = some cellB) (hobj : cellB.vm.isStatics = false) (hcls : s.vm.findClass C = some cellB.cls)
    {g : JFrame} (hg : g.method = m) (hsize : g.locals.size = c.maxLocals) {argsL rest : List Value} (hlen : ∀ sig, parseMethodDescriptor y.desc = some sig → argsL.length = sig.parameters.length)
    (hstack : g.stack = argsL.reverse ++ .ref b :: rest) (hW : 2 * g.monitorRoom + (rest.map fun v => v.category).sum ≤ W9) (hdg : decode c.code g.pc = .ok (.invokevirtual index, 3))
    (hpre : ∀ vm₁, s.WarmedH vm₁ → Pre ⟨T.setVm vm₁, locs, cells, slots⟩ (Value.ref b :: argsL).toArray) :
    (∃ (v : Option Value) (vm₁ : Vm) (B : Pt), s.WarmedH vm₁ ∧ Stand p l e R s m args below meth c B.U B.locs B.cells B.slots ∧ Post ⟨T.setVm vm₁, locs, cells, slots⟩ (Value.ref b :: argsL).toArray v B ∧
      ∀ target, Steps p.tables e below (B.U.setTop { g with pc := g.pc + 3, stack := v.toList ++ rest }) target → Steps p.tables e below (T.setTop g) target) ∨
    (∃ (q : Addr) (vm₁ : Vm) (B : Pt), s.WarmedH vm₁ ∧ Stand p l e R s m args below meth c B.U B.locs B.cells B.slots ∧ PostX ⟨T.setVm vm₁, locs, cells, slots⟩ (Value.ref b :: argsL).toArray q B ∧
      Steps p.tables e below (T.setTop g) ((B.U.setTop { g with stack := rest }).pushFrame (.throwing q))) := by
  obtain ⟨mk, methM, hnamed, hmethM, hstM, habM⟩ := Cond.instanceMethod_spec hinst
  obtain ⟨methM', cM, hmethM', -, -, -, -, -, -, hsigM⟩ := Cond.code_spec hnamed hcode
  cases hmethM.symm.trans hmethM'
  obtain ⟨c2, r2, m2, q1, q2, q3, q4, kP, hkP, hkPi⟩ := Cond.selects_spec hsel
  cases hcls.symm.trans q1
  cases (State.methodFound?_of_named hnamed hy).symm.trans q2
  cases hnamed.symm.trans q3
  have hselP : selectMethod e.platform s.vm cellB.cls mk = .method mk := by rw [Launch.admits_selectMethod X.admits]; exact q4
  obtain ⟨vm₁, X₁, hstep₁⟩ := X.invokevirtual hexec hown hlink hnamed hmethM hstM hkP hkPi hy (a := b) (cell := cellB) hcell
    (fun z h => by rw [h] at hobj; cases hobj) hselP hmethM habM hkP hkPi (g := g) hg (argsL := argsL) (rest := rest) (hlen _ hsigM) hstack hdg
  rcases hK m meth c ⟨T.setVm vm₁, locs, cells, slots⟩ { g with stack := rest } (.invokevirtual index) mk (Value.ref b :: argsL).toArray X₁ hg hsize hdg hW (X₁.named hnamed) (hpre vm₁ X₁.warmed) with ⟨v, B, X', hpost, hsteps⟩ | ⟨q, B, X', hpost, hsteps⟩
  · exact Or.inl ⟨v, vm₁, B, X₁.warmed, X', hpost, fun target h => hstep₁ _ fun acts => by rw [doInvoke_state]; exact hsteps.trans h⟩
  · exact Or.inr ⟨q, vm₁, B, X₁.warmed, X', hpost, hstep₁ _ fun acts => by rw [doInvoke_state]; exact hsteps⟩
theorem vx_callS (X : Stand p l e R s m args below meth c T locs cells slots) (hexec : p.tables.exec = Jvm.exec) {own : String} {index : Nat} {y : MethodName} {bytes : ByteArray} {maxL : Nat} {ret : Option FieldType}
    (hown : s.vm.findClass own = some m.cls) (hlink : (Cond.methodLink own index y).before args s = true) (hstat : (Cond.static y).before args s = true) (hinit : (Cond.initialized y.cls).before args s = true)
    (hcode : (Cond.code y bytes maxL ret).before args s = true) (hy : y.cls ≠ "java/lang/invoke/MethodHandle" ∧ y.cls ≠ "java/lang/invoke/VarHandle")
    {W9 : Nat} {Pre : Pt → Array Value → Prop} {Post : Pt → Array Value → Option Value → Pt → Prop} {PostX : Pt → Array Value → Addr → Pt → Prop} (hK : vx_Back l R p e below s args y 3 W9 Pre Post PostX)
    {g : JFrame} (hg : g.method = m) (hsize : g.locals.size = c.maxLocals) {argsL rest : List Value} (hlen : ∀ sig, parseMethodDescriptor y.desc = some sig → argsL.length = sig.parameters.length)
    (hstack : g.stack = argsL.reverse ++ rest) (hW : 2 * g.monitorRoom + (rest.map fun v => v.category).sum ≤ W9) (hdg : decode c.code g.pc = .ok (.invokestatic index, 3))
    (hpre : ∀ vm₁, s.WarmedH vm₁ → Pre ⟨T.setVm vm₁, locs, cells, slots⟩ argsL.toArray) :
    (∃ (v : Option Value) (vm₁ : Vm) (B : Pt), s.WarmedH vm₁ ∧ Stand p l e R s m args below meth c B.U B.locs B.cells B.slots ∧ Post ⟨T.setVm vm₁, locs, cells, slots⟩ argsL.toArray v B ∧
      ∀ target, Steps p.tables e below (B.U.setTop { g with pc := g.pc + 3, stack := v.toList ++ rest }) target → Steps p.tables e below (T.setTop g) target) ∨
    (∃ (q : Addr) (vm₁ : Vm) (B : Pt), s.WarmedH vm₁ ∧ Stand p l e R s m args below meth c B.U B.locs B.cells B.slots ∧ PostX ⟨T.setVm vm₁, locs, cells, slots⟩ argsL.toArray q B ∧
      Steps p.tables e below (T.setTop g) ((B.U.setTop { g with stack := rest }).pushFrame (.throwing q))) := by
  obtain ⟨mk, hnamed⟩ := Cond.code_named hcode
  obtain ⟨methM, cM, hmethM, -, -, -, -, -, -, hsigM⟩ := Cond.code_spec hnamed hcode
  have hstatic : methM.isStatic = true := Cond.static_spec hnamed hmethM hstat
  obtain ⟨kP, hkP, -⟩ := className_of_methodNamed hnamed
  have hinitP : kP.init = .initialized := Cond.initialized_spec (findClass_of_methodNamed hnamed) hkP hinit
  obtain ⟨vm₁, X₁, hstep₁⟩ := X.invokestatic hexec hown hlink hnamed hmethM hstatic hkP hinitP hy (g := g) hg (argsL := argsL) (rest := rest) (hlen _ hsigM) hstack hdg
  rcases hK m meth c ⟨T.setVm vm₁, locs, cells, slots⟩ { g with stack := rest } (.invokestatic index) mk argsL.toArray X₁ hg hsize hdg hW (X₁.named hnamed) (hpre vm₁ X₁.warmed) with ⟨v, B, X', hpost, hsteps⟩ | ⟨q, B, X', hpost, hsteps⟩
  · exact Or.inl ⟨v, vm₁, B, X₁.warmed, X', hpost, fun target h => hstep₁ _ fun acts => by rw [doInvoke_state]; exact hsteps.trans h⟩
  · exact Or.inr ⟨q, vm₁, B, X₁.warmed, X', hpost, hstep₁ _ fun acts => by rw [doInvoke_state]; exact hsteps⟩
end Calls
theorem vx_cls {s : State} {T : State} {vm₁ : Vm} {E : String} {k : ClassId} (hW : s.WarmedH vm₁) (h : (T.setVm vm₁).vm.findClass E = some k) : s.vm.findClass E = some k := by
  have h1 : vm₁.findClass E = some k := h
  rw [hW.alike.findClass] at h1
  exact h1
/-- the method's frame g, with q thrown over it -/
def vx_W (p : Program) (l : Launch) (e : Env) (R : Room) (s : State) (m : MethodId) (args : Array Value) (below : List Frame) (meth : Method) (c : Code) (H : Heap) (locs : List Loc) (cells slots : Nat) (Q : State → Prop) (g : JFrame) (q : Addr) : Prop :=
  ∀ T : State, T.heap = H → Stand p l e R s m args below meth c T locs cells slots → ∃ t, Steps p.tables e below ((T.setTop g).pushFrame (.throwing q)) t ∧ Q t
def vx_Run (p : Program) (l : Launch) (e : Env) (R : Room) (s : State) (m : MethodId) (args : Array Value) (below : List Frame) (meth : Method) (c : Code) (H : Heap) (locs : List Loc) (cells slots mc ms : Nat) (g : JFrame) (rest : List Value) (Qa : State → Outcome → State → Prop) (XC : String → State → State → Prop) (free : Addr → Prop) : Prop :=
  ∀ T : State, T.heap = H → Stand p l e R s m args below meth c T locs cells slots →
    (∃ (v : Option Value) (st₀ t T' : State) (L : List Loc), st₀.heap = H ∧ Stand p l e R s m args below meth c T' (locs ++ L) (cells + mc) (slots + ms) ∧ (∀ q ∈ L, free q.base) ∧ T'.heap = t.heap ∧ T'.vm = t.vm ∧ Qa st₀ (.returned v) t ∧
      Goes p e below T g T' { g with pc := g.pc + 3, stack := v.toList ++ rest }) ∨
    (∃ (q : Addr) (st₀ t T' : State) (L : List Loc) (E : String) (ce : Cell), st₀.heap = H ∧ Stand p l e R s m args below meth c T' (locs ++ L) (cells + mc) (slots + ms) ∧ (∀ z ∈ L, free z.base) ∧ T'.heap = t.heap ∧ T'.vm = t.vm ∧ XC E st₀ t ∧ t.heap[q]? = some ce ∧ ce.vm = .none ∧ s.vm.findClass E = some ce.cls ∧
      Steps p.tables e below (T.setTop g) ((T'.setTop { g with stack := rest }).pushFrame (.throwing q)))
def vx_X {S : Type} (px : S → Prop) (B : String → S → State → Prop) (A : Nat → Prop) : String → State → State → Prop := fun E st t => ∃ u : S, px u ∧ B E u t ∧ va_F A st t
section Runs
variable {p : Program} {l : Launch} {e : Env} {R : Room} {s : State} {m : MethodId} {args : Array Value} {below : List Frame} {meth : Method} {c : Code} {H : Heap} {locs : List Loc} {cells slots : Nat}
variable {y : MethodName} {bytes cc : ByteArray} {maxL nL mc ms n index : Nat} {ret : Option FieldType} {ws : List Cond} {rm : Room} {Pc : Array Value → State → Prop} {Qc : Array Value → State → Outcome → State → Prop} {XC : String → State → State → Prop} {free : Addr → Prop} {Ts : List Cond} {own C : String} {b : Addr} {As rest : List Value} {g : JFrame}
theorem vx_callBack (cb : CallB R s args own index y bytes maxL ret ws rm mc ms n) (hM : vx_Met l y ws rm Pc Qc XC mc ms free) (hbl : FrameBlind Pc) : vx_Back l R p e below s args y 3 8 (PreOf R mc ms Pc) (PostOf Qc mc ms free) (vx_Post XC mc ms free) := by
  obtain ⟨hrc, hrs, hfr, hlo, hws, hcw, -, hini, -⟩ := cb
  exact vx_back (bytes := bytes) (maxL := maxL) (ret := ret) hM hbl hrc hrs hfr hlo hws hcw (fun a' U hW => word_at hW (Or.inl (by first | rfl | simp [Cond.onTables, Cond.keeps, Cond.steady])) hini)
theorem vx_runV (S : CallFix p m c cc nL s args Ts own) (hM : vx_Met l y ws rm Pc Qc XC mc ms free) (cw : CallW R s args own C index y bytes maxL ret ws rm mc ms n) (hp : PreV s H C b Pc As)
    (hg : g.method = m) (hn : As.length = n) (hsize : g.locals.size = nL) (hstack : g.stack = As.reverse ++ .ref b :: rest) (hW : 2 * g.monitorRoom + (rest.map fun v => v.category).sum ≤ 8) (hdg : decode cc g.pc = .ok (.invokevirtual index, 3)) (hf : cells + mc ≤ R.cells ∧ slots + ms ≤ R.slots) :
    vx_Run p l e R s m args below meth c H locs cells slots mc ms g rest (Qc (Value.ref b :: As).toArray) XC free := by
  have hK : vx_Back l R p e below s args y 3 8 (PreOf R mc ms Pc) (PostOf Qc mc ms free) (vx_Post XC mc ms free) := vx_callBack cw.1 hM hp.1
  obtain ⟨⟨-, -, -, -, -, -, hcode, -, hy, hlen, hl⟩, hin, hse⟩ := cw
  obtain ⟨hx, hb, hml, ho, -⟩ := S
  obtain ⟨-, ⟨cellB, hcB, hoB, hclB⟩, hPc⟩ := hp
  intro T hT X
  rcases vx_callV X hx (C := C) (bytes := bytes) (maxL := maxL) (ret := ret) ho hl hin hse hcode hy hK (by rw [hT]; exact hcB) hoB hclB hg (hsize.trans hml.symm) (argsL := As) (rest := rest) (fun sig h => hn.trans (hlen sig h)) hstack hW (by rw [hb]; exact hdg)
    (fun vm₁ hW₁ => ⟨hf.1, hf.2, hPc (T.setVm vm₁) hT hW₁⟩) with ⟨v, vm₁, ⟨U', l2, c2, s2⟩, hW₁, X', ⟨g', mk, t, L, e1, e2, hq, h1, hL, h2, h3⟩, st⟩ | ⟨q, vm₁, ⟨U', l2, c2, s2⟩, hW₁, X', ⟨g', mk, t, L, E, ce, e1, e2, hq, hce, hcv, hcl, h1, hL, h2, h3⟩, st⟩
  · dsimp only [Pt.U, Pt.locs, Pt.cells, Pt.slots] at X' e1 e2 h1 h2 h3 st
    subst h1; subst h2; subst h3
    exact Or.inl ⟨v, (T.setVm vm₁).calling g' mk (Value.ref b :: As).toArray, t, U', L, hT, X', hL, e1, e2, hq, st⟩
  · dsimp only [Pt.U, Pt.locs, Pt.cells, Pt.slots] at X' e1 e2 h1 h2 h3 st hcl
    subst h1; subst h2; subst h3
    exact Or.inr ⟨q, (T.setVm vm₁).calling g' mk (Value.ref b :: As).toArray, t, U', L, E, ce, hT, X', hL, e1, e2, hq, hce, hcv, vx_cls hW₁ hcl, st⟩
theorem vx_runS (S : CallFix p m c cc nL s args Ts own) (hM : vx_Met l y ws rm Pc Qc XC mc ms free) (cw : CallB R s args own index y bytes maxL ret ws rm mc ms n ∧ (Cond.static y).before args s = true) (hp : PreS s H Pc As)
    (hg : g.method = m) (hn : As.length = n) (hsize : g.locals.size = nL) (hstack : g.stack = As.reverse ++ rest) (hW : 2 * g.monitorRoom + (rest.map fun v => v.category).sum ≤ 8) (hdg : decode cc g.pc = .ok (.invokestatic index, 3)) (hf : cells + mc ≤ R.cells ∧ slots + ms ≤ R.slots) :
    vx_Run p l e R s m args below meth c H locs cells slots mc ms g rest (Qc As.toArray) XC free := by
  have hK : vx_Back l R p e below s args y 3 8 (PreOf R mc ms Pc) (PostOf Qc mc ms free) (vx_Post XC mc ms free) := vx_callBack cw.1 hM hp.1
  obtain ⟨⟨-, -, -, -, -, -, hcode, hini, hy, hlen, hl⟩, hstt⟩ := cw
  obtain ⟨hx, hb, hml, ho, -⟩ := S
  intro T hT X
  rcases vx_callS X hx (bytes := bytes) (maxL := maxL) (ret := ret) ho hl hstt hini hcode hy hK hg (hsize.trans hml.symm) (argsL := As) (rest := rest) (fun sig h => hn.trans (hlen sig h)) hstack hW (by rw [hb]; exact hdg)
    (fun vm₁ hW₁ => ⟨hf.1, hf.2, hp.2 (T.setVm vm₁) hT hW₁⟩) with ⟨v, vm₁, ⟨U', l2, c2, s2⟩, hW₁, X', ⟨g', mk, t, L, e1, e2, hq, h1, hL, h2, h3⟩, st⟩ | ⟨q, vm₁, ⟨U', l2, c2, s2⟩, hW₁, X', ⟨g', mk, t, L, E, ce, e1, e2, hq, hce, hcv, hcl, h1, hL, h2, h3⟩, st⟩
  · dsimp only [Pt.U, Pt.locs, Pt.cells, Pt.slots] at X' e1 e2 h1 h2 h3 st
    subst h1; subst h2; subst h3
    exact Or.inl ⟨v, (T.setVm vm₁).calling g' mk As.toArray, t, U', L, hT, X', hL, e1, e2, hq, st⟩
  · dsimp only [Pt.U, Pt.locs, Pt.cells, Pt.slots] at X' e1 e2 h1 h2 h3 st hcl
    subst h1; subst h2; subst h3
    exact Or.inr ⟨q, (T.setVm vm₁).calling g' mk As.toArray, t, U', L, E, ce, hT, X', hL, e1, e2, hq, hce, hcv, vx_cls hW₁ hcl, st⟩
end Runs
section Rows
variable {p : Program} {l : Launch} {e : Env} {R : Room} {s : State} {m : MethodId} {args : Array Value} {below : List Frame} {meth : Method} {c : Code} {H : Heap} {locs : List Loc} {cells slots : Nat} {Q : State → Prop}
variable {mc ms : Nat} {free : Addr → Prop} {A0 A1 : Nat → Prop} {H0 : Heap} {a : Array Value} {pc : Nat} {ls : Array Slot} {st0 rest : List Value}
theorem vx_keep {st₀ t T' : State} {L : List Loc} (h0 : st₀.heap = H) (e1 : T'.heap = t.heap) (hS : va_S A0 H0 H locs) (hA : ∀ q, q < H.size → A1 q → A0 q) (hf : ∀ q, free q → A0 q) (hL : ∀ q ∈ L, free q.base) (hF : va_F A1 st₀ t) :
    H.size ≤ T'.heap.size ∧ (∀ q : Nat, q < H.size → ¬ A1 q → T'.heap[q]? = H[q]?) ∧ va_S A0 H0 T'.heap (locs ++ L) := by
  obtain ⟨hz, hk⟩ := hF
  rw [h0] at hz hk
  exact ⟨by rw [e1]; exact hz, fun q h1 h2 => by rw [e1]; exact hk q h1 h2,
    ⟨Nat.le_trans hS.1 (by rw [e1]; exact hz), fun q h1 h2 => by rw [e1, hk q (Nat.lt_of_lt_of_le h1 hS.1) (fun z => h2 (hA q (Nat.lt_of_lt_of_le h1 hS.1) z))]; exact hS.2.1 q h1 h2, fun q hq => by
      rcases List.mem_append.mp hq with h | h
      · exact hS.2.2 q h
      · exact hf _ (hL q h)⟩⟩
theorem vx_calli {S SX : Type} {post : Int32 → S → Prop} {px : SX → Prop} {B : S → State → Prop} {BX : String → SX → State → Prop} {AX : Nat → Prop} (hr : vx_Run p l e R s m args below meth c H locs cells slots mc ms (F0 m pc ls st0) rest (va_Qi post B A1 a) (vx_X px BX AX) free) (hS : va_S A0 H0 H locs) (hA : ∀ q, q < H.size → A1 q → A0 q) (hf : ∀ q, free q → A0 q) (hAX : ∀ q, q < H.size → AX q → A0 q)
    (kx : ∀ (E : String) (ce : Cell) (q9 : Addr) (u : SX) (t : State) (H1 : Heap) (locs1 : List Loc), t.heap = H1 → s.vm.Alike t.vm → px u → BX E u t → H.size ≤ H1.size → (∀ q : Nat, q < H.size → ¬ AX q → H1[q]? = H[q]?) → va_S A0 H0 H1 locs1 → H1[q9]? = some ce → ce.vm = .none → s.vm.findClass E = some ce.cls → vx_W p l e R s m args below meth c H1 locs1 (cells + mc) (slots + ms) Q (F0 m pc ls rest) q9)
    (kk : ∀ (r : Int32) (u : S) (t : State) (H1 : Heap) (locs1 : List Loc), t.heap = H1 → s.vm.Alike t.vm → post r u → B u t → H.size ≤ H1.size → (∀ q : Nat, q < H.size → ¬ A1 q → H1[q]? = H[q]?) → va_S A0 H0 H1 locs1 → W p l e R s m args below meth c H1 locs1 (cells + mc) (slots + ms) Q (F0 m (pc + 3) ls (.int r :: rest))) : W p l e R s m args below meth c H locs cells slots Q (F0 m pc ls st0) := by
  intro T hT X
  rcases hr T hT X with ⟨v, st₀, t, T', L, h0, X', hL, e1, e2, ⟨⟨r, u, hv, hp, hb⟩, hF⟩, st⟩ | ⟨q, st₀, t, T', L, E, ce, h0, X', hL, e1, e2, ⟨u, hp, hb, hF⟩, hce, hcv, hcl, st⟩
  · cases hv
    obtain ⟨k1, k2, k3⟩ := vx_keep h0 e1 hS hA hf hL hF
    obtain ⟨t2, a1, b1⟩ := kk r u t T'.heap (locs ++ L) e1.symm (by rw [← e2]; exact X'.warmed.alike) hp hb k1 k2 k3 T' rfl X'
    exact ⟨t2, st t2 a1, b1⟩
  · obtain ⟨k1, k2, k3⟩ := vx_keep h0 e1 hS hAX hf hL hF
    obtain ⟨t2, a1, b1⟩ := kx E ce q u t T'.heap (locs ++ L) e1.symm (by rw [← e2]; exact X'.warmed.alike) hp hb k1 k2 k3 (by rw [e1]; exact hce) hcv hcl T' rfl X'
    exact ⟨t2, st.trans a1, b1⟩
theorem vx_calll {S SX : Type} {post : Int64 → S → Prop} {px : SX → Prop} {B : S → State → Prop} {BX : String → SX → State → Prop} {AX : Nat → Prop} (hr : vx_Run p l e R s m args below meth c H locs cells slots mc ms (F0 m pc ls st0) rest (va_Ql post B A1 a) (vx_X px BX AX) free) (hS : va_S A0 H0 H locs) (hA : ∀ q, q < H.size → A1 q → A0 q) (hf : ∀ q, free q → A0 q) (hAX : ∀ q, q < H.size → AX q → A0 q)
    (kx : ∀ (E : String) (ce : Cell) (q9 : Addr) (u : SX) (t : State) (H1 : Heap) (locs1 : List Loc), t.heap = H1 → s.vm.Alike t.vm → px u → BX E u t → H.size ≤ H1.size → (∀ q : Nat, q < H.size → ¬ AX q → H1[q]? = H[q]?) → va_S A0 H0 H1 locs1 → H1[q9]? = some ce → ce.vm = .none → s.vm.findClass E = some ce.cls → vx_W p l e R s m args below meth c H1 locs1 (cells + mc) (slots + ms) Q (F0 m pc ls rest) q9)
    (kk : ∀ (r : Int64) (u : S) (t : State) (H1 : Heap) (locs1 : List Loc), t.heap = H1 → s.vm.Alike t.vm → post r u → B u t → H.size ≤ H1.size → (∀ q : Nat, q < H.size → ¬ A1 q → H1[q]? = H[q]?) → va_S A0 H0 H1 locs1 → W p l e R s m args below meth c H1 locs1 (cells + mc) (slots + ms) Q (F0 m (pc + 3) ls (.long r :: rest))) : W p l e R s m args below meth c H locs cells slots Q (F0 m pc ls st0) := by
  intro T hT X
  rcases hr T hT X with ⟨v, st₀, t, T', L, h0, X', hL, e1, e2, ⟨⟨r, u, hv, hp, hb⟩, hF⟩, st⟩ | ⟨q, st₀, t, T', L, E, ce, h0, X', hL, e1, e2, ⟨u, hp, hb, hF⟩, hce, hcv, hcl, st⟩
  · cases hv
    obtain ⟨k1, k2, k3⟩ := vx_keep h0 e1 hS hA hf hL hF
    obtain ⟨t2, a1, b1⟩ := kk r u t T'.heap (locs ++ L) e1.symm (by rw [← e2]; exact X'.warmed.alike) hp hb k1 k2 k3 T' rfl X'
    exact ⟨t2, st t2 a1, b1⟩
  · obtain ⟨k1, k2, k3⟩ := vx_keep h0 e1 hS hAX hf hL hF
    obtain ⟨t2, a1, b1⟩ := kx E ce q u t T'.heap (locs ++ L) e1.symm (by rw [← e2]; exact X'.warmed.alike) hp hb k1 k2 k3 (by rw [e1]; exact hce) hcv hcl T' rfl X'
    exact ⟨t2, st.trans a1, b1⟩
theorem vx_callf {S SX : Type} {post : UInt32 → S → Prop} {px : SX → Prop} {B : S → State → Prop} {BX : String → SX → State → Prop} {AX : Nat → Prop} (hr : vx_Run p l e R s m args below meth c H locs cells slots mc ms (F0 m pc ls st0) rest (va_Qf post B A1 a) (vx_X px BX AX) free) (hS : va_S A0 H0 H locs) (hA : ∀ q, q < H.size → A1 q → A0 q) (hf : ∀ q, free q → A0 q) (hAX : ∀ q, q < H.size → AX q → A0 q)
    (kx : ∀ (E : String) (ce : Cell) (q9 : Addr) (u : SX) (t : State) (H1 : Heap) (locs1 : List Loc), t.heap = H1 → s.vm.Alike t.vm → px u → BX E u t → H.size ≤ H1.size → (∀ q : Nat, q < H.size → ¬ AX q → H1[q]? = H[q]?) → va_S A0 H0 H1 locs1 → H1[q9]? = some ce → ce.vm = .none → s.vm.findClass E = some ce.cls → vx_W p l e R s m args below meth c H1 locs1 (cells + mc) (slots + ms) Q (F0 m pc ls rest) q9)
    (kk : ∀ (r : UInt32) (u : S) (t : State) (H1 : Heap) (locs1 : List Loc), t.heap = H1 → s.vm.Alike t.vm → post r u → B u t → H.size ≤ H1.size → (∀ q : Nat, q < H.size → ¬ A1 q → H1[q]? = H[q]?) → va_S A0 H0 H1 locs1 → W p l e R s m args below meth c H1 locs1 (cells + mc) (slots + ms) Q (F0 m (pc + 3) ls (.float r :: rest))) : W p l e R s m args below meth c H locs cells slots Q (F0 m pc ls st0) := by
  intro T hT X
  rcases hr T hT X with ⟨v, st₀, t, T', L, h0, X', hL, e1, e2, ⟨⟨r, u, hv, hp, hb⟩, hF⟩, st⟩ | ⟨q, st₀, t, T', L, E, ce, h0, X', hL, e1, e2, ⟨u, hp, hb, hF⟩, hce, hcv, hcl, st⟩
  · cases hv
    obtain ⟨k1, k2, k3⟩ := vx_keep h0 e1 hS hA hf hL hF
    obtain ⟨t2, a1, b1⟩ := kk r u t T'.heap (locs ++ L) e1.symm (by rw [← e2]; exact X'.warmed.alike) hp hb k1 k2 k3 T' rfl X'
    exact ⟨t2, st t2 a1, b1⟩
  · obtain ⟨k1, k2, k3⟩ := vx_keep h0 e1 hS hAX hf hL hF
    obtain ⟨t2, a1, b1⟩ := kx E ce q u t T'.heap (locs ++ L) e1.symm (by rw [← e2]; exact X'.warmed.alike) hp hb k1 k2 k3 (by rw [e1]; exact hce) hcv hcl T' rfl X'
    exact ⟨t2, st.trans a1, b1⟩
theorem vx_calld {S SX : Type} {post : UInt64 → S → Prop} {px : SX → Prop} {B : S → State → Prop} {BX : String → SX → State → Prop} {AX : Nat → Prop} (hr : vx_Run p l e R s m args below meth c H locs cells slots mc ms (F0 m pc ls st0) rest (va_Qd post B A1 a) (vx_X px BX AX) free) (hS : va_S A0 H0 H locs) (hA : ∀ q, q < H.size → A1 q → A0 q) (hf : ∀ q, free q → A0 q) (hAX : ∀ q, q < H.size → AX q → A0 q)
    (kx : ∀ (E : String) (ce : Cell) (q9 : Addr) (u : SX) (t : State) (H1 : Heap) (locs1 : List Loc), t.heap = H1 → s.vm.Alike t.vm → px u → BX E u t → H.size ≤ H1.size → (∀ q : Nat, q < H.size → ¬ AX q → H1[q]? = H[q]?) → va_S A0 H0 H1 locs1 → H1[q9]? = some ce → ce.vm = .none → s.vm.findClass E = some ce.cls → vx_W p l e R s m args below meth c H1 locs1 (cells + mc) (slots + ms) Q (F0 m pc ls rest) q9)
    (kk : ∀ (r : UInt64) (u : S) (t : State) (H1 : Heap) (locs1 : List Loc), t.heap = H1 → s.vm.Alike t.vm → post r u → B u t → H.size ≤ H1.size → (∀ q : Nat, q < H.size → ¬ A1 q → H1[q]? = H[q]?) → va_S A0 H0 H1 locs1 → W p l e R s m args below meth c H1 locs1 (cells + mc) (slots + ms) Q (F0 m (pc + 3) ls (.double r :: rest))) : W p l e R s m args below meth c H locs cells slots Q (F0 m pc ls st0) := by
  intro T hT X
  rcases hr T hT X with ⟨v, st₀, t, T', L, h0, X', hL, e1, e2, ⟨⟨r, u, hv, hp, hb⟩, hF⟩, st⟩ | ⟨q, st₀, t, T', L, E, ce, h0, X', hL, e1, e2, ⟨u, hp, hb, hF⟩, hce, hcv, hcl, st⟩
  · cases hv
    obtain ⟨k1, k2, k3⟩ := vx_keep h0 e1 hS hA hf hL hF
    obtain ⟨t2, a1, b1⟩ := kk r u t T'.heap (locs ++ L) e1.symm (by rw [← e2]; exact X'.warmed.alike) hp hb k1 k2 k3 T' rfl X'
    exact ⟨t2, st t2 a1, b1⟩
  · obtain ⟨k1, k2, k3⟩ := vx_keep h0 e1 hS hAX hf hL hF
    obtain ⟨t2, a1, b1⟩ := kx E ce q u t T'.heap (locs ++ L) e1.symm (by rw [← e2]; exact X'.warmed.alike) hp hb k1 k2 k3 (by rw [e1]; exact hce) hcv hcl T' rfl X'
    exact ⟨t2, st.trans a1, b1⟩
theorem vx_callv {S SX : Type} {post : S → Prop} {px : SX → Prop} {B : S → State → Prop} {BX : String → SX → State → Prop} {AX : Nat → Prop} (hr : vx_Run p l e R s m args below meth c H locs cells slots mc ms (F0 m pc ls st0) rest (va_Qv post B A1 a) (vx_X px BX AX) free) (hS : va_S A0 H0 H locs) (hA : ∀ q, q < H.size → A1 q → A0 q) (hf : ∀ q, free q → A0 q) (hAX : ∀ q, q < H.size → AX q → A0 q)
    (kx : ∀ (E : String) (ce : Cell) (q9 : Addr) (u : SX) (t : State) (H1 : Heap) (locs1 : List Loc), t.heap = H1 → s.vm.Alike t.vm → px u → BX E u t → H.size ≤ H1.size → (∀ q : Nat, q < H.size → ¬ AX q → H1[q]? = H[q]?) → va_S A0 H0 H1 locs1 → H1[q9]? = some ce → ce.vm = .none → s.vm.findClass E = some ce.cls → vx_W p l e R s m args below meth c H1 locs1 (cells + mc) (slots + ms) Q (F0 m pc ls rest) q9)
    (kk : ∀ (u : S) (t : State) (H1 : Heap) (locs1 : List Loc), t.heap = H1 → s.vm.Alike t.vm → post u → B u t → H.size ≤ H1.size → (∀ q : Nat, q < H.size → ¬ A1 q → H1[q]? = H[q]?) → va_S A0 H0 H1 locs1 → W p l e R s m args below meth c H1 locs1 (cells + mc) (slots + ms) Q (F0 m (pc + 3) ls (rest))) : W p l e R s m args below meth c H locs cells slots Q (F0 m pc ls st0) := by
  intro T hT X
  rcases hr T hT X with ⟨v, st₀, t, T', L, h0, X', hL, e1, e2, ⟨⟨u, hv, hp, hb⟩, hF⟩, st⟩ | ⟨q, st₀, t, T', L, E, ce, h0, X', hL, e1, e2, ⟨u, hp, hb, hF⟩, hce, hcv, hcl, st⟩
  · cases hv
    obtain ⟨k1, k2, k3⟩ := vx_keep h0 e1 hS hA hf hL hF
    obtain ⟨t2, a1, b1⟩ := kk u t T'.heap (locs ++ L) e1.symm (by rw [← e2]; exact X'.warmed.alike) hp hb k1 k2 k3 T' rfl X'
    exact ⟨t2, st t2 a1, b1⟩
  · obtain ⟨k1, k2, k3⟩ := vx_keep h0 e1 hS hAX hf hL hF
    obtain ⟨t2, a1, b1⟩ := kx E ce q u t T'.heap (locs ++ L) e1.symm (by rw [← e2]; exact X'.warmed.alike) hp hb k1 k2 k3 (by rw [e1]; exact hce) hcv hcl T' rfl X'
    exact ⟨t2, st.trans a1, b1⟩
/-- caught by the row x of this method's table; the rows ahead don't take it -/
theorem vx_catch {own name : String} {E : String} {ce : Cell} {q : Addr} (hown : s.vm.findClass own = some m.cls) (pre : List ExceptionTableEntry) (x : ExceptionTableEntry) (suf : List ExceptionTableEntry) (hsplit : c.exceptionTable.toList = pre ++ x :: suf)
    (hpass : ∀ z ∈ pre, covers z pc = false ∨ (z.catchType ≠ 0 ∧ ∃ nm : String, (Cond.classLink own z.catchType nm).before args s = true ∧ va_Nc E nm s)) (hx : covers x pc = true) (h0 : x.catchType ≠ 0)
    (hlink : (Cond.classLink own x.catchType name).before args s = true) (hcast : (Cond.castable E name).before args s = true) (hcell : H[q]? = some ce) (hv : ce.vm = .none) (hcl : s.vm.findClass E = some ce.cls)
    (kk : W p l e R s m args below meth c H locs cells slots Q (F0 m x.handlerPc ls [.ref q])) : vx_W p l e R s m args below meth c H locs cells slots Q (F0 m pc ls rest) q := by
  intro T hT X
  have hpl : e.platform.magicAccessors = ({} : Platform).magicAccessors := by rw [X.admits.platform]
  obtain ⟨c3, c4, hc3, hc4, hasg⟩ := Cond.castable_spec hcast
  cases Option.some.inj (hc3.symm.trans hcl)
  obtain ⟨c5, hc5, hcl5⟩ := Cond.classLink_spec hown hlink e.platform hpl
  cases Option.some.inj (hc4.symm.trans hc5)
  obtain ⟨vm', X', st⟩ := X.thenCaughtThrough q (g := F0 m pc ls rest) rfl (Steps.refl _) (by rw [hT]; exact hcell) (by rw [hv]; rfl) (by obtain ⟨k9, h9, -⟩ := Vm.findClass_spec hcl; exact ⟨k9, h9⟩) pre x suf hsplit
    (fun z hz => by
      rcases hpass z hz with h | ⟨hz0, nm, hl1, hn1⟩
      · exact Or.inl h
      · obtain ⟨c6, hc6, hcl6⟩ := Cond.classLink_spec hown hl1 e.platform hpl
        obtain ⟨a8, b8, h1, h2, h3⟩ := hn1
        cases Option.some.inj (h1.symm.trans hcl)
        cases Option.some.inj (h2.symm.trans hc6)
        exact Or.inr ⟨hz0, _, hcl6, h3⟩) hx (Or.inr ⟨h0, c4, hcl5, hasg⟩)
  obtain ⟨t, a1, b1⟩ := kk (T.setVm vm') hT X'
  exact ⟨t, st.trans a1, b1⟩
end Rows
section Ends
variable {p : Program} {l : Launch} {e : Env} {R : Room} {s : State} {m : MethodId} {args : Array Value} {below : List Frame} {meth : Method} {c : Code} {H : Heap} {locs : List Loc} {cells slots : Nat} {Q : State → Prop}
variable {mc ms : Nat} {free : Addr → Prop} {A0 A1 : Nat → Prop} {H0 : Heap} {a : Array Value} {ls : Array Slot} {st0 rest : List Value}
variable {Qc : Array Value → State → Outcome → State → Prop} {XC : String → State → State → Prop}
/-- what a body that may throw owes at its end -/
def vx_MQ (below : List Frame) (Qc : Array Value → State → Outcome → State → Prop) (XC : String → State → State → Prop) (a : Array Value) (s : State) (mc ms : Nat) (free : Addr → Prop) : State → Prop := fun t =>
  ∃ o, t.status = .running ∧ Ended t below o ∧ vx_Q Qc XC mc ms free a s o t
theorem vx_ret {g : JFrame} {mc ms : Nat} (k : W p l e R s m args below meth c H locs cells slots (MQ below Qc args s mc ms free) g) : W p l e R s m args below meth c H locs cells slots (vx_MQ below Qc XC args s mc ms free) g := by
  intro T hT X
  obtain ⟨t, a1, o, b1, b2, b3, b4⟩ := k T hT X
  exact ⟨t, a1, o, b1, b2, Or.inl ⟨b3, b4⟩⟩
/-- not caught here: it goes on to the caller -/
theorem vx_widen {g : JFrame} {q : Addr} {k n : Nat} (h1 : cells ≤ k) (h2 : slots ≤ n) (kk : vx_W p l e R s m args below meth c H locs k n Q g q) : vx_W p l e R s m args below meth c H locs cells slots Q g q := fun T hT X => kk T hT (stand_widen X h1 h2)
theorem vx_out {pc : Nat} {E : String} {ce : Cell} {q : Addr} {mc ms : Nat} (hout : ∀ x ∈ c.exceptionTable.toList, covers x pc = false) (hlocks : meth.locks = false) (hcell : H[q]? = some ce) (hv : ce.vm = .none) (hcl : s.vm.findClass E = some ce.cls)
    (hx : ∀ t : State, t.heap = H → s.vm.Alike t.vm → XC E s t) (hf : ∀ z ∈ locs, free z.base) (hc : cells ≤ mc) (hs : slots ≤ ms) :
    vx_W p l e R s m args below meth c H locs cells slots (vx_MQ below Qc XC args s mc ms free) (F0 m pc ls rest) q := by
  intro T hT X
  obtain ⟨st1, hrun, hend, hW, hsm⟩ := X.leaveThrown q (g := F0 m pc ls rest) rfl rfl rfl hout hlocks
  have hcell9 : (T.setFrames (.throwing q :: below)).heap[q]? = some ce := by
    show T.heap[q]? = some ce
    rw [hT]; exact hcell
  exact ⟨_, st1, .threw q, hrun, hend, Or.inr ⟨q, rfl, E, ce, locs, hx _ hT hW.alike, hcell9, hv, hcl, hW, hsm.mono hc hs, hf⟩⟩
theorem vx_frame {U : State} {k n : Nat} (h : s.sameButNew ({ U with vm := s.vm } : State) locs k n) : s.heap.size ≤ U.heap.size ∧ ∀ q : Nat, q < s.heap.size → (∀ z ∈ locs, z.base ≠ q) → U.heap[q]? = s.heap[q]? := by
  obtain ⟨-, h2, -, -, -, h6⟩ := h
  refine ⟨h2, fun q hq hz => ?_⟩
  obtain ⟨c9, e1, e2, e3, e4⟩ := h6 q _ (Array.getElem?_eq_getElem hq)
  have hs : c9.slots = (s.heap[q]).slots := Array.ext_getElem? fun i => e4 i fun hm => hz _ hm rfl
  have h9 : c9 = s.heap[q] := by
    rw [hs] at e2
    exact e2
  have e5 : U.heap[q]? = some c9 := e1
  rw [e5, h9, Array.getElem?_eq_getElem hq]
/-- the words of a throw but the four that speak of the heap -/
def vx_no (w : Cond) : Bool := decide (w ≠ .isRef (.static Bundle.tN "UNASSIGNED_STACK" Bundle.steD)) && decide (w ≠ .isRef (.static Bundle.tN "SUPPRESSED_SENTINEL" Bundle.listD)) && decide (w ≠ .laysStatic Bundle.tN "UNASSIGNED_STACK" Bundle.steD) && decide (w ≠ .laysStatic Bundle.tN "SUPPRESSED_SENTINEL" Bundle.listD)
def vx_at0 (own : String) (ic : Nat) (X : String) (names : List String) : List Cond := (Bundle.ownAtoms0 own ic X names).filter vx_no
def vx_atS (own : String) (ic : Nat) (X : String) (names : List String) : List Cond := (Bundle.ownAtoms own ic X names).filter vx_no
/-- a word that the tables alone decide, or a good one -/
def vx_ot (w : Cond) : Bool := w.onTables || goodWord w
theorem vx_ot_at {args a' : Array Value} {s U : State} {w : Cond} (hW : s.WarmedH U.vm) (hvm : s.vm = U.vm) (hg : vx_ot w = true) (h : w.before args s = true) : w.before a' U = true := by
  simp only [vx_ot, Bool.or_eq_true] at hg
  rcases hg with hg | hg
  · exact va_tabs hg hvm h
  · exact word_at hW (good_of_word hg) h
/-- a list's words: the good ones out of the method's own list, the others by premises of their own -/
theorem vx_hat {args : Array Value} {s : State} {L B : List Cond} (h1 : ∀ w ∈ L.filter goodWord, w.before args s = true) (h2 : ∀ w ∈ L.filter (fun w => !goodWord w), w ∈ B) (h3 : ∀ w ∈ B, w.before args s = true) : ∀ w ∈ L, w.before args s = true := by
  intro w hw
  by_cases g : goodWord w = true
  · exact h1 w (List.mem_filter.mpr ⟨hw, g⟩)
  · refine h3 w (h2 w (List.mem_filter.mpr ⟨hw, ?_⟩))
    show (!goodWord w) = true
    cases hgw : goodWord w
    · rfl
    · exact absurd hgw g
theorem vx_c {args : Array Value} {s : State} {w : Cond} {B : List Cond} (h : w.before args s = true) (t : ∀ w ∈ B, w.before args s = true) : ∀ w' ∈ w :: B, w'.before args s = true := fun w' h' => (List.mem_cons.mp h').elim (fun e => by rw [e]; exact h) (t w')
theorem vx_n {args : Array Value} {s : State} : ∀ w ∈ ([] : List Cond), w.before args s = true := fun _ h => nomatch h
theorem vx_own {args : Array Value} {s : State} {L : List Cond} (h1 : ∀ w ∈ L.filter vx_no, w.before args s = true)
    (hU : (Cond.isRef (.static Bundle.tN "UNASSIGNED_STACK" Bundle.steD)).before args s = true) (hN : (Cond.isRef (.static Bundle.tN "SUPPRESSED_SENTINEL" Bundle.listD)).before args s = true)
    (lU : (Cond.laysStatic Bundle.tN "UNASSIGNED_STACK" Bundle.steD).before args s = true) (lN : (Cond.laysStatic Bundle.tN "SUPPRESSED_SENTINEL" Bundle.listD).before args s = true) : ∀ w ∈ L, w.before args s = true := by
  intro w hw
  by_cases e1 : w = .isRef (.static Bundle.tN "UNASSIGNED_STACK" Bundle.steD)
  · rw [e1]; exact hU
  · by_cases e2 : w = .isRef (.static Bundle.tN "SUPPRESSED_SENTINEL" Bundle.listD)
    · rw [e2]; exact hN
    · by_cases e3 : w = .laysStatic Bundle.tN "UNASSIGNED_STACK" Bundle.steD
      · rw [e3]; exact lU
      · by_cases e4 : w = .laysStatic Bundle.tN "SUPPRESSED_SENTINEL" Bundle.listD
        · rw [e4]; exact lN
        · exact h1 w (List.mem_filter.mpr ⟨hw, by unfold vx_no; rw [decide_eq_true e1, decide_eq_true e2, decide_eq_true e3, decide_eq_true e4]; rfl⟩)
/-- where a static field lies, its class's statics cell in H -/
def vx_L (C n d : String) (A : Nat → Prop) (U : State) (H : Heap) : Prop := ∃ (c : ClassId) (k : Class) (i : Nat) (f : Field) (a : Nat) (cell : Cell), U.vm.findClass C = some c ∧ U.fieldFound? C n d = some (c, k, i, f) ∧ f.isStatic = true ∧ k.statics = some a ∧ H[a]? = some cell ∧ cell.vm.isStatics = true ∧ cell.cls = c ∧ f.slot < cell.slots.size ∧ k.staticTypes[f.slot]? = some f.type ∧ ¬ A a
theorem vx_L.moved {C n d : String} {A : Nat → Prop} {u U : State} {H : Heap} (hvm : u.vm.Alike U.vm) (h : vx_L C n d A u H) : vx_L C n d A U H := by
  obtain ⟨c, k, i, f, a, cell, h1, h2, h3, h4, h5, h6, h7, h8, h9, h10⟩ := h
  obtain ⟨k', hi', he⟩ := State.fieldFound?_setVm hvm h2
  exact ⟨c, k', i, f, a, cell, by rw [hvm.findClass]; exact h1, hi', h3, by rw [he]; exact h4, h5, h6, h7, h8, by rw [he]; exact h9, h10⟩
theorem vx_L.kept {C n d : String} {A : Nat → Prop} {U : State} {H H1 : Heap} (h : vx_L C n d A U H) (hq : ∀ a : Nat, a < H.size → ¬ A a → H1[a]? = H[a]?) : vx_L C n d A U H1 := by
  obtain ⟨c, k, i, f, a, cell, h1, h2, h3, h4, h5, h6, h7, h8, h9, h10⟩ := h
  exact ⟨c, k, i, f, a, cell, h1, h2, h3, h4, by rw [hq a (Array.getElem?_eq_some_iff.mp h5).1 h10]; exact h5, h6, h7, h8, h9, h10⟩
theorem vx_L.narrow {C n d : String} {A B : Nat → Prop} {U : State} {H : Heap} (h : vx_L C n d A U H) (hAB : ∀ q, B q → A q) : vx_L C n d B U H := by
  obtain ⟨c, k, i, f, a, cell, h1, h2, h3, h4, h5, h6, h7, h8, h9, h10⟩ := h
  exact ⟨c, k, i, f, a, cell, h1, h2, h3, h4, h5, h6, h7, h8, h9, fun z => h10 (hAB _ z)⟩
theorem vx_L.word {C n d : String} {A : Nat → Prop} {s : State} {args : Array Value} (h : vx_L C n d A s s.heap) : (Cond.laysStatic C n d).before args s = true := by
  obtain ⟨c, k, i, f, a, cell, h1, h2, h3, h4, h5, h6, h7, h8, h9, -⟩ := h
  show (Cond.laysStatic C n d).holds args s none s [] = true
  exact Cond.laysStatic_of h1 h2 h3 h4 h5 h6 h7 h8 h9
/-- .. and what it holds: null or some reference -/
def vx_Zq (C n d : String) (A : Nat → Prop) (U : State) (H : Heap) : Prop := va_Zq C n d A U H ∧ vx_L C n d A U H
theorem vx_Zq.moved {C n d : String} {A : Nat → Prop} {u U : State} {H : Heap} (hvm : u.vm.Alike U.vm) (h : vx_Zq C n d A u H) : vx_Zq C n d A U H := ⟨va_Zq.moved hvm h.1, vx_L.moved hvm h.2⟩
theorem vx_Zq.kept {C n d : String} {A : Nat → Prop} {U : State} {H H1 : Heap} (h : vx_Zq C n d A U H) (hq : ∀ a : Nat, a < H.size → ¬ A a → H1[a]? = H[a]?) : vx_Zq C n d A U H1 := ⟨va_Zq.kept h.1 hq, vx_L.kept h.2 hq⟩
theorem vx_Zq.narrow {C n d : String} {A B : Nat → Prop} {U : State} {H : Heap} (h : vx_Zq C n d A U H) (hAB : ∀ q, B q → A q) : vx_Zq C n d B U H := ⟨va_Zq.narrow h.1 hAB, vx_L.narrow h.2 hAB⟩
theorem vx_Zqof {args : Array Value} {s : State} {C n d : String} {A : Nat → Prop} (hl : (Cond.laysStatic C n d).before args s = true) (hini : (Cond.initialized C).before args s = true) (h : (Cond.isRef (.static C n d)).before args s = true) (hA : ∀ a : Nat, a < s.heap.size → ¬ A a) : vx_Zq C n d A s s.heap := by
  refine ⟨va_Zqof hl hini h hA, ?_⟩
  obtain ⟨c, k, i, f, a, cell, h1, h2, h3, h4, h5, h6, h7, h8, h9⟩ := Cond.laysStatic_spec hl
  exact ⟨c, k, i, f, a, cell, h1, h2, h3, h4, h5, h6, h7, h8, h9, hA a (Array.getElem?_eq_some_iff.mp h5).1⟩
theorem vx_isRef {C n d : String} {v : Value} {A : Nat → Prop} {s : State} {args : Array Value} (h : va_Z C n d v A s s.heap) (hv : v.isRef = true) : (Cond.isRef (.static C n d)).before args s = true := by
  obtain ⟨cf, kf, fi, f, a, cell, h1, h2, h3, h4, h5, h6, h7, -⟩ := h
  have he : (Term.static C n d).eval args s none [] s = some v := by
    simp [Term.eval, State.fieldNamed?, h1, h2, h4, h5, h6, h7]
  simp only [Cond.before, Cond.holds, Cond.value, he]
  cases v <;> simp_all [Value.isRef]
theorem vx_isRefq {C n d : String} {A : Nat → Prop} {s : State} {args : Array Value} (h : va_Zq C n d A s s.heap) : (Cond.isRef (.static C n d)).before args s = true := by
  rcases h with h | ⟨t, h⟩
  · exact vx_isRef h rfl
  · exact vx_isRef h rfl
/-- the same frame, seen from here: as if the method were called anew in this heap -/
theorem vx_rebase {T : State} (X : Stand p l e R s m args below meth c T locs cells slots) {R' : Room} (hf : R'.frames ≤ R.frames) (hl : R'.locals ≤ R.locals) (hc : cells + R'.cells ≤ R.cells) (hs : slots + R'.slots ≤ R.slots) :
    Stand p l e R' ((T.setVm s.vm).setFrames (.invoking m args :: below)) m args below meth c T [] 0 0 := by
  have htop : (T.setVm s.vm).topJava?.isSome := X.here.top
  have hF : ((T.setVm s.vm).setFrames (.invoking m args :: below)).frames = .invoking m args :: below := State.frames_setFrames _ (State.cur_lt_of_top htop)
  obtain ⟨g₀, hg0⟩ := Option.isSome_iff_exists.mp htop
  obtain ⟨r, hr⟩ := State.topJava?_eq_some.mp hg0
  have hl9 : e.platform.stackLimits (T.setVm s.vm).me = e.platform.stackLimits s.me := X.limits
  have hb9 : (T.setVm s.vm).me.stackBytes = s.me.stackBytes := X.bytes
  refine ⟨X.admits, X.cas, X.clock, hF, ?_, X.hears, X.method, X.code, X.here, X.tail, X.warmed, ?_, ?_, ?_⟩
  · have h := X.room
    have hU : ((T.setVm s.vm).setFrames (.invoking m args :: below)).localsInUse = s.localsInUse := by
      rw [State.localsInUse_invoking hF (meth := meth) (c := c) X.method X.code, State.localsInUse_invoking X.frames X.method X.code]
    simp only [State.hasRoom, Bool.and_eq_true, decide_eq_true_eq] at h ⊢
    obtain ⟨⟨⟨⟨h1, h2, h3, h4, h5, h6⟩, h7⟩, h8⟩, h9⟩ := h
    rw [X.frames, List.length_cons] at h2 h3
    have q1 := X.heapSize
    have q2 := X.used
    simp only [hF, hU, List.length_cons, State.stackLimits_setFrames, State.stackBytes_setFrames, hl9, hb9]
    refine ⟨⟨⟨⟨by omega, by omega, by omega, by omega, by omega, h6⟩, ?_⟩, ?_⟩, X.book⟩
    · show T.heap.size + R'.cells ≤ e.platform.maxCells
      omega
    · show T.slotsUsed + R'.slots ≤ e.platform.maxSlots
      omega
  · rw [State.stackLimits_setFrames]; rfl
  · rw [State.stackBytes_setFrames]; rfl
  · refine ⟨?_, Nat.le_refl _, Nat.le_refl _, ?_, ?_, fun a c9 h9 => ⟨c9, h9, rfl, rfl, fun _ _ => rfl⟩⟩
    · obtain ⟨t, ht, -⟩ := State.frames_cons hr
      show T.setVm s.vm = { ((T.setVm s.vm).setFrames (.invoking m args :: below)).setFrames (T.setVm s.vm).frames with heap := T.heap, slotsUsed := T.slotsUsed }
      rw [State.setFrames_setFrames, State.setFrames_self ht]
      rfl
    · show T.slotsUsed = T.slotsUsed + ((T.heap.toList.drop T.heap.size).map (·.slots.size)).sum
      rw [List.drop_eq_nil_of_le (Nat.le_of_eq Array.length_toList)]
      rfl
    · show ((T.heap.toList.drop T.heap.size).map (·.slots.size)).sum ≤ 0
      rw [List.drop_eq_nil_of_le (Nat.le_of_eq Array.length_toList)]
      exact Nat.le_refl _
/-- 'throw new E()': new; dup; invokespecial; athrow -/
theorem vx_throw0 {cc : ByteArray} {pc : Nat} (hexec : p.tables.exec = Jvm.exec) (hb : c.code = cc) (hl : l.stackTraces = false) {own cls : String} {names : List String} {ik ic mc ms : Nat} {A : Nat → Prop}
    (hown : s.vm.findClass own = some m.cls) (hcls : Bundle.fit cls = true) (hnames : ∀ n ∈ names, Bundle.fit n = true)
    (hk : (Cond.classLink own ik cls).before args s = true) (hini : (Cond.initialized cls).before args s = true) (hat : ∀ w ∈ vx_at0 own ic cls names, w.before args s = true)
    (hgood : ∀ w ∈ Cond.classLink own ik cls :: Cond.initialized cls :: vx_at0 own ic cls names, vx_ot w = true)
    (hU : vx_Zq Bundle.tN "UNASSIGNED_STACK" Bundle.steD A s s.heap) (hN : vx_Zq Bundle.tN "SUPPRESSED_SENTINEL" Bundle.listD A s s.heap) (hS : va_S A s.heap H locs) (hsize : ls.size = c.maxLocals)
    (d0 : decode cc pc = .ok (.new ik, 3)) (d3 : decode cc (pc + 3) = .ok (.dup, 1)) (d4 : decode cc (pc + 4) = .ok (.invokespecial ic, 3)) (d7 : decode cc (pc + 7) = .ok (.athrow, 1))
    (hout : ∀ x ∈ c.exceptionTable.toList, covers x (pc + 7) = false)
    (hRframes : names.length + 3 < R.frames) (hRlocals : (rest.map fun v => v.category).sum + (13 * (names.length + 1) + 42) ≤ R.locals) (hRcells : cells + 1 ≤ R.cells) (hRslots : slots + 6 ≤ R.slots) (hlocks : meth.locks = false)
    (hx : ∀ t : State, s.vm.Alike t.vm → H.size ≤ t.heap.size → (∀ q : Nat, q < H.size → t.heap[q]? = H[q]?) → XC cls s t)
    (hf : ∀ z ∈ locs, free z.base) (hc : cells + 1 ≤ mc) (hs : slots + 6 ≤ ms) :
    W p l e R s m args below meth c H locs cells slots (vx_MQ below Qc XC args s mc ms free) (F0 m pc ls rest) := by
  intro T hT X
  have htr : e.platform.stackTraces = false := (show e.platform.stackTraces = l.stackTraces by rw [X.admits.platform]).trans hl
  have Y := vx_rebase X (R' := { frames := R.frames, locals := R.locals, cells := 1, slots := 6 }) (Nat.le_refl _) (Nat.le_refl _) hRcells hRslots
  obtain ⟨s', hA⟩ : ∃ z, z = (T.setVm s.vm).setFrames (.invoking m args :: below) := ⟨_, rfl⟩
  rw [← hA] at Y
  have hvm : s'.vm = s.vm := by rw [hA]; rfl
  have hhp : s'.heap = H := by rw [hA]; exact hT
  have hW0 : s.WarmedH s'.vm := by rw [hvm]; exact State.WarmedH.refl s
  have hat' : ∀ w ∈ vx_at0 own ic cls names, w.before args s' = true := fun w hw => vx_ot_at hW0 hvm.symm (hgood w (List.mem_cons_of_mem _ (List.mem_cons_of_mem _ hw))) (hat w hw)
  have hk' : (Cond.classLink own ik cls).before args s' = true := vx_ot_at hW0 hvm.symm (hgood _ List.mem_cons_self) hk
  have hini' : (Cond.initialized cls).before args s' = true := vx_ot_at hW0 hvm.symm (hgood _ (List.mem_cons_of_mem _ List.mem_cons_self)) hini
  have hU' : vx_Zq Bundle.tN "UNASSIGNED_STACK" Bundle.steD A s' s'.heap := by rw [hhp]; exact vx_Zq.moved hW0.alike (hU.kept hS.2.1)
  have hN' : vx_Zq Bundle.tN "SUPPRESSED_SENTINEL" Bundle.listD A s' s'.heap := by rw [hhp]; exact vx_Zq.moved hW0.alike (hN.kept hS.2.1)
  have h : ∀ w ∈ Bundle.ownAtoms0 own ic cls names, w.before args s' = true := vx_own hat' (vx_isRefq hU'.1) (vx_isRefq hN'.1) hU'.2.word hN'.2.word
  have hown' : s'.vm.findClass own = some m.cls := by rw [hvm]; exact hown
  have hins : (Cond.instantiable cls 6).before args s' = true := h _ (by simp [Bundle.ownAtoms0])
  obtain ⟨vm₁, cX, kX, hfX, hkX, -, -, X₁, st1⟩ := Y.newCold hexec (own := own) (C := cls) (index := ik) (n := 6) hown' hk' hins hini'
    (g := F0 m pc ls rest) rfl (by rw [hb]; exact d0) (Nat.le_refl _) (Nat.le_refl _)
  generalize hT1 : (T.setVm vm₁).pushCell { cls := cX, slots := kX.instanceTypes.map defaultValue, vm := .none } = T1 at X₁ st1
  have hcat : (Value.ref T.heap.size).category = 1 := rfl
  have hcellA : T1.heap[T.heap.size]? = some (freshCell cX kX) := by rw [← hT1]; exact State.heap_pushCell_size _ _
  have d3' : decode c.code (pc + 3) = .ok (.dup, 1) := by rw [hb]; exact d3
  obtain ⟨U, hsteps, hrun, hend, hW, hsame, ce, hce, hO⟩ := X₁.ctorThrow0 hexec htr (own := own) (cls := cls) (names := names) (ic := ic) hown' hcls hnames h (fun x hx => nomatch hx) hfX hkX hcellA (by rw [hhp, hT]; exact Nat.le_refl _)
    (g := { method := m, pc := pc + 4, locals := ls, stack := .ref T.heap.size :: .ref T.heap.size :: rest, locked := none }) rfl hsize rfl rfl (rest := rest) rfl
    (by rw [hb]; exact d4) (by rw [hb]; exact d7) hout hRframes (by simp only [List.map_cons, List.sum_cons, hcat]; omega) hlocks
  obtain ⟨f1, f2⟩ := vx_frame hsame
  rw [hhp] at f1 f2
  have hWs : s.WarmedH U.vm := State.WarmedH.trans hW0 hW
  have hcl : s.vm.findClass cls = some ce.cls := by
    have h9 := hO.cls
    rw [hvm] at h9
    exact h9
  have hall : s.sameButNew ({ U with vm := s.vm } : State) locs mc ms := by
    subst hA
    obtain ⟨e1, e2⟩ := hsame
    rw [State.setFrames_setFrames] at e1
    have h2 : (T.setVm s.vm).sameButNew ({ U with vm := s.vm } : State) [] (0 + 1) (0 + 6) := ⟨e1, e2⟩
    have h3 := X.same.trans h2
    rw [List.append_nil] at h3
    exact h3.mono hc hs
  refine ⟨U, ?_, .threw T.heap.size, hrun, hend, Or.inr ⟨T.heap.size, rfl, cls, ce, locs, hx U hWs.alike f1 (fun q hq => f2 q hq (fun z hz => nomatch hz)), hce, hO.vm, hcl, hWs, hall, hf⟩⟩
  refine st1 _ ?_
  show Steps p.tables e below (T1.setTop { method := m, pc := pc + 3, locals := ls, stack := .ref T.heap.size :: rest, locked := none }) _
  jvm_step X₁.here [X₁.here.top, hexec, d3', Value.category]
  exact hsteps
/-- 'throw new E("text")': new; dup; ldc; invokespecial; athrow -/
theorem vx_throwS {cc : ByteArray} {pc : Nat} (hexec : p.tables.exec = Jvm.exec) (hb : c.code = cc) (hl : l.stackTraces = false) {own cls text : String} {names : List String} {ik is ic mc ms sa : Nat} {A : Nat → Prop}
    (hown : s.vm.findClass own = some m.cls) (hcls : Bundle.fit cls = true) (hnames : ∀ n ∈ names, Bundle.fit n = true)
    (hk : (Cond.classLink own ik cls).before args s = true) (hini : (Cond.initialized cls).before args s = true) (hstr : vk_R own is text sa s) (hat : ∀ w ∈ vx_atS own ic cls names, w.before args s = true)
    (hgood : ∀ w ∈ Cond.classLink own ik cls :: Cond.initialized cls :: vx_atS own ic cls names, vx_ot w = true)
    (hU : vx_Zq Bundle.tN "UNASSIGNED_STACK" Bundle.steD A s s.heap) (hN : vx_Zq Bundle.tN "SUPPRESSED_SENTINEL" Bundle.listD A s s.heap) (hS : va_S A s.heap H locs) (hsize : ls.size = c.maxLocals)
    (d0 : decode cc pc = .ok (.new ik, 3)) (d3 : decode cc (pc + 3) = .ok (.dup, 1)) (d4 : decode cc (pc + 4) = .ok (.ldc is, 2)) (d6 : decode cc (pc + 6) = .ok (.invokespecial ic, 3)) (d9 : decode cc (pc + 9) = .ok (.athrow, 1))
    (hout : ∀ x ∈ c.exceptionTable.toList, covers x (pc + 9) = false)
    (hRframes : names.length + 3 < R.frames) (hRlocals : (rest.map fun v => v.category).sum + (13 * (names.length + 1) + 43) ≤ R.locals) (hRcells : cells + 1 ≤ R.cells) (hRslots : slots + 6 ≤ R.slots) (hlocks : meth.locks = false)
    (hx : ∀ t : State, s.vm.Alike t.vm → H.size ≤ t.heap.size → (∀ q : Nat, q < H.size → t.heap[q]? = H[q]?) → XC cls s t)
    (hf : ∀ z ∈ locs, free z.base) (hc : cells + 1 ≤ mc) (hs : slots + 6 ≤ ms) :
    W p l e R s m args below meth c H locs cells slots (vx_MQ below Qc XC args s mc ms free) (F0 m pc ls rest) := by
  intro T hT X
  have htr : e.platform.stackTraces = false := (show e.platform.stackTraces = l.stackTraces by rw [X.admits.platform]).trans hl
  have Y := vx_rebase X (R' := { frames := R.frames, locals := R.locals, cells := 1, slots := 6 }) (Nat.le_refl _) (Nat.le_refl _) hRcells hRslots
  obtain ⟨s', hA⟩ : ∃ z, z = (T.setVm s.vm).setFrames (.invoking m args :: below) := ⟨_, rfl⟩
  rw [← hA] at Y
  have hvm : s'.vm = s.vm := by rw [hA]; rfl
  have hhp : s'.heap = H := by rw [hA]; exact hT
  have hW0 : s.WarmedH s'.vm := by rw [hvm]; exact State.WarmedH.refl s
  have hat' : ∀ w ∈ vx_atS own ic cls names, w.before args s' = true := fun w hw => vx_ot_at hW0 hvm.symm (hgood w (List.mem_cons_of_mem _ (List.mem_cons_of_mem _ hw))) (hat w hw)
  have hk' : (Cond.classLink own ik cls).before args s' = true := vx_ot_at hW0 hvm.symm (hgood _ List.mem_cons_self) hk
  have hini' : (Cond.initialized cls).before args s' = true := vx_ot_at hW0 hvm.symm (hgood _ (List.mem_cons_of_mem _ List.mem_cons_self)) hini
  have hU' : vx_Zq Bundle.tN "UNASSIGNED_STACK" Bundle.steD A s' s'.heap := by rw [hhp]; exact vx_Zq.moved hW0.alike (hU.kept hS.2.1)
  have hN' : vx_Zq Bundle.tN "SUPPRESSED_SENTINEL" Bundle.listD A s' s'.heap := by rw [hhp]; exact vx_Zq.moved hW0.alike (hN.kept hS.2.1)
  have h : ∀ w ∈ Bundle.ownAtoms own ic cls names, w.before args s' = true := vx_own hat' (vx_isRefq hU'.1) (vx_isRefq hN'.1) hU'.2.word hN'.2.word
  have hown' : s'.vm.findClass own = some m.cls := by rw [hvm]; exact hown
  have hins : (Cond.instantiable cls 6).before args s' = true := h _ (by simp [Bundle.ownAtoms])
  obtain ⟨vm₁, cX, kX, hfX, hkX, -, -, X₁, st1⟩ := Y.newCold hexec (own := own) (C := cls) (index := ik) (n := 6) hown' hk' hins hini'
    (g := F0 m pc ls rest) rfl (by rw [hb]; exact d0) (Nat.le_refl _) (Nat.le_refl _)
  generalize hT1 : (T.setVm vm₁).pushCell { cls := cX, slots := kX.instanceTypes.map defaultValue, vm := .none } = T1 at X₁ st1
  have hcat : (Value.ref T.heap.size).category = 1 := rfl
  have hcellA : T1.heap[T.heap.size]? = some (freshCell cX kX) := by rw [← hT1]; exact State.heap_pushCell_size _ _
  have d3' : decode c.code (pc + 3) = .ok (.dup, 1) := by rw [hb]; exact d3
  have d4' : decode c.code (pc + 4) = .ok (.ldc is, 2) := by rw [hb]; exact d4
  have hstr' : vk_R own is text sa s' := vk_R.warm hW0 hstr
  obtain ⟨U, hsteps, hrun, hend, hW, hsame, ce, hce, hO⟩ := X₁.ctorThrowS hexec htr (own := own) (cls := cls) (names := names) (ic := ic) hown' hcls hnames h (fun x hx => nomatch hx) hfX hkX hcellA (by rw [hhp, hT]; exact Nat.le_refl _) (msg := .ref sa) rfl
    (g := { method := m, pc := pc + 6, locals := ls, stack := .ref sa :: .ref T.heap.size :: .ref T.heap.size :: rest, locked := none }) rfl hsize rfl rfl (rest := rest) rfl
    (by rw [hb]; exact d6) (by rw [hb]; exact d9) hout hRframes (by simp only [List.map_cons, List.sum_cons, hcat]; omega) hlocks
  obtain ⟨f1, f2⟩ := vx_frame hsame
  rw [hhp] at f1 f2
  have hWs : s.WarmedH U.vm := State.WarmedH.trans hW0 hW
  have hcl : s.vm.findClass cls = some ce.cls := by
    have h9 := hO.cls
    rw [hvm] at h9
    exact h9
  have hall : s.sameButNew ({ U with vm := s.vm } : State) locs mc ms := by
    subst hA
    obtain ⟨e1, e2⟩ := hsame
    rw [State.setFrames_setFrames] at e1
    have h2 : (T.setVm s.vm).sameButNew ({ U with vm := s.vm } : State) [] (0 + 1) (0 + 6) := ⟨e1, e2⟩
    have h3 := X.same.trans h2
    rw [List.append_nil] at h3
    exact h3.mono hc hs
  refine ⟨U, ?_, .threw T.heap.size, hrun, hend, Or.inr ⟨T.heap.size, rfl, cls, ce, locs, hx U hWs.alike f1 (fun q hq => f2 q hq (fun z hz => nomatch hz)), hce, hO.vm, hcl, hWs, hall, hf⟩⟩
  refine st1 _ ?_
  show Steps p.tables e below (T1.setTop { method := m, pc := pc + 3, locals := ls, stack := .ref T.heap.size :: rest, locked := none }) _
  jvm_step X₁.here [X₁.here.top, hexec, d3', Value.category]
  exact X₁.ldcString hexec (own := own) (text := text) (index := is) (a := sa) hown' hstr'.1 hstr'.2
    (g := { method := m, pc := pc + 4, locals := ls, stack := .ref T.heap.size :: .ref T.heap.size :: rest, locked := none }) rfl d4' _ hsteps
/-- 'throw new E("text")', the text by a wide index -/
theorem vx_throwSW {cc : ByteArray} {pc : Nat} (hexec : p.tables.exec = Jvm.exec) (hb : c.code = cc) (hl : l.stackTraces = false) {own cls text : String} {names : List String} {ik is ic mc ms sa : Nat} {A : Nat → Prop}
    (hown : s.vm.findClass own = some m.cls) (hcls : Bundle.fit cls = true) (hnames : ∀ n ∈ names, Bundle.fit n = true)
    (hk : (Cond.classLink own ik cls).before args s = true) (hini : (Cond.initialized cls).before args s = true) (hstr : vk_R own is text sa s) (hat : ∀ w ∈ vx_atS own ic cls names, w.before args s = true)
    (hgood : ∀ w ∈ Cond.classLink own ik cls :: Cond.initialized cls :: vx_atS own ic cls names, vx_ot w = true)
    (hU : vx_Zq Bundle.tN "UNASSIGNED_STACK" Bundle.steD A s s.heap) (hN : vx_Zq Bundle.tN "SUPPRESSED_SENTINEL" Bundle.listD A s s.heap) (hS : va_S A s.heap H locs) (hsize : ls.size = c.maxLocals)
    (d0 : decode cc pc = .ok (.new ik, 3)) (d3 : decode cc (pc + 3) = .ok (.dup, 1)) (d4 : decode cc (pc + 4) = .ok (.ldc_w is, 3)) (d7 : decode cc (pc + 7) = .ok (.invokespecial ic, 3)) (d10 : decode cc (pc + 10) = .ok (.athrow, 1))
    (hout : ∀ x ∈ c.exceptionTable.toList, covers x (pc + 10) = false)
    (hRframes : names.length + 3 < R.frames) (hRlocals : (rest.map fun v => v.category).sum + (13 * (names.length + 1) + 43) ≤ R.locals) (hRcells : cells + 1 ≤ R.cells) (hRslots : slots + 6 ≤ R.slots) (hlocks : meth.locks = false)
    (hx : ∀ t : State, s.vm.Alike t.vm → H.size ≤ t.heap.size → (∀ q : Nat, q < H.size → t.heap[q]? = H[q]?) → XC cls s t)
    (hf : ∀ z ∈ locs, free z.base) (hc : cells + 1 ≤ mc) (hs : slots + 6 ≤ ms) :
    W p l e R s m args below meth c H locs cells slots (vx_MQ below Qc XC args s mc ms free) (F0 m pc ls rest) := by
  intro T hT X
  have htr : e.platform.stackTraces = false := (show e.platform.stackTraces = l.stackTraces by rw [X.admits.platform]).trans hl
  have Y := vx_rebase X (R' := { frames := R.frames, locals := R.locals, cells := 1, slots := 6 }) (Nat.le_refl _) (Nat.le_refl _) hRcells hRslots
  obtain ⟨s', hA⟩ : ∃ z, z = (T.setVm s.vm).setFrames (.invoking m args :: below) := ⟨_, rfl⟩
  rw [← hA] at Y
  have hvm : s'.vm = s.vm := by rw [hA]; rfl
  have hhp : s'.heap = H := by rw [hA]; exact hT
  have hW0 : s.WarmedH s'.vm := by rw [hvm]; exact State.WarmedH.refl s
  have hat' : ∀ w ∈ vx_atS own ic cls names, w.before args s' = true := fun w hw => vx_ot_at hW0 hvm.symm (hgood w (List.mem_cons_of_mem _ (List.mem_cons_of_mem _ hw))) (hat w hw)
  have hk' : (Cond.classLink own ik cls).before args s' = true := vx_ot_at hW0 hvm.symm (hgood _ List.mem_cons_self) hk
  have hini' : (Cond.initialized cls).before args s' = true := vx_ot_at hW0 hvm.symm (hgood _ (List.mem_cons_of_mem _ List.mem_cons_self)) hini
  have hU' : vx_Zq Bundle.tN "UNASSIGNED_STACK" Bundle.steD A s' s'.heap := by rw [hhp]; exact vx_Zq.moved hW0.alike (hU.kept hS.2.1)
  have hN' : vx_Zq Bundle.tN "SUPPRESSED_SENTINEL" Bundle.listD A s' s'.heap := by rw [hhp]; exact vx_Zq.moved hW0.alike (hN.kept hS.2.1)
  have h : ∀ w ∈ Bundle.ownAtoms own ic cls names, w.before args s' = true := vx_own hat' (vx_isRefq hU'.1) (vx_isRefq hN'.1) hU'.2.word hN'.2.word
  have hown' : s'.vm.findClass own = some m.cls := by rw [hvm]; exact hown
  have hins : (Cond.instantiable cls 6).before args s' = true := h _ (by simp [Bundle.ownAtoms])
  obtain ⟨vm₁, cX, kX, hfX, hkX, -, -, X₁, st1⟩ := Y.newCold hexec (own := own) (C := cls) (index := ik) (n := 6) hown' hk' hins hini'
    (g := F0 m pc ls rest) rfl (by rw [hb]; exact d0) (Nat.le_refl _) (Nat.le_refl _)
  generalize hT1 : (T.setVm vm₁).pushCell { cls := cX, slots := kX.instanceTypes.map defaultValue, vm := .none } = T1 at X₁ st1
  have hcat : (Value.ref T.heap.size).category = 1 := rfl
  have hcellA : T1.heap[T.heap.size]? = some (freshCell cX kX) := by rw [← hT1]; exact State.heap_pushCell_size _ _
  have d3' : decode c.code (pc + 3) = .ok (.dup, 1) := by rw [hb]; exact d3
  have d4' : decode c.code (pc + 4) = .ok (.ldc_w is, 3) := by rw [hb]; exact d4
  have hstr' : vk_R own is text sa s' := vk_R.warm hW0 hstr
  obtain ⟨U, hsteps, hrun, hend, hW, hsame, ce, hce, hO⟩ := X₁.ctorThrowS hexec htr (own := own) (cls := cls) (names := names) (ic := ic) hown' hcls hnames h (fun x hx => nomatch hx) hfX hkX hcellA (by rw [hhp, hT]; exact Nat.le_refl _) (msg := .ref sa) rfl
    (g := { method := m, pc := pc + 7, locals := ls, stack := .ref sa :: .ref T.heap.size :: .ref T.heap.size :: rest, locked := none }) rfl hsize rfl rfl (rest := rest) rfl
    (by rw [hb]; exact d7) (by rw [hb]; exact d10) hout hRframes (by simp only [List.map_cons, List.sum_cons, hcat]; omega) hlocks
  obtain ⟨f1, f2⟩ := vx_frame hsame
  rw [hhp] at f1 f2
  have hWs : s.WarmedH U.vm := State.WarmedH.trans hW0 hW
  have hcl : s.vm.findClass cls = some ce.cls := by
    have h9 := hO.cls
    rw [hvm] at h9
    exact h9
  have hall : s.sameButNew ({ U with vm := s.vm } : State) locs mc ms := by
    subst hA
    obtain ⟨e1, e2⟩ := hsame
    rw [State.setFrames_setFrames] at e1
    have h2 : (T.setVm s.vm).sameButNew ({ U with vm := s.vm } : State) [] (0 + 1) (0 + 6) := ⟨e1, e2⟩
    have h3 := X.same.trans h2
    rw [List.append_nil] at h3
    exact h3.mono hc hs
  refine ⟨U, ?_, .threw T.heap.size, hrun, hend, Or.inr ⟨T.heap.size, rfl, cls, ce, locs, hx U hWs.alike f1 (fun q hq => f2 q hq (fun z hz => nomatch hz)), hce, hO.vm, hcl, hWs, hall, hf⟩⟩
  refine st1 _ ?_
  show Steps p.tables e below (T1.setTop { method := m, pc := pc + 3, locals := ls, stack := .ref T.heap.size :: rest, locked := none }) _
  jvm_step X₁.here [X₁.here.top, hexec, d3', Value.category]
  exact X₁.ldcStringW hexec (own := own) (text := text) (index := is) (a := sa) hown' hstr'.1 hstr'.2
    (g := { method := m, pc := pc + 4, locals := ls, stack := .ref T.heap.size :: .ref T.heap.size :: rest, locked := none }) rfl d4' _ hsteps
end Ends
section Bodies
variable {l : Launch}
theorem vx_ofW {y : MethodName} {ws ws' : List Cond} {rm : Room} {Pc : Array Value → State → Prop} {Qc : Array Value → State → Outcome → State → Prop} {XC : String → State → State → Prop} {mc ms : Nat} {free : Addr → Prop} {cc : ByteArray} {maxL : Nat} {ret : Option FieldType}
    (hy : plainName y.cls = true) (hw : ws = Cond.code y cc maxL ret :: ws')
    (body : ∀ p e s m args below meth c s₁, BodyLoose p l y (headSpec ws rm) cc maxL ret e s m args below meth c s₁ → c.maxLocals = maxL → (∀ x ∈ c.exceptionTable.toList, False) → Pc args s →
      W p l e (headSpec ws rm).room s m args below meth c s.heap [] 0 0 (vx_MQ below Qc XC args s mc ms free) (entryFrame m args maxL)) : vx_Met l y ws rm Pc Qc XC mc ms free := by
  refine MetFree.of_bodyS (code := cc) (maxLocals := maxL) (ret := ret) hy ?_ ?_
  · intro args s m h hn
    obtain ⟨meth, c, h1, h2, h3, h4, h5, h6, -, -⟩ := Cond.code_spec hn (atoms_spec (ws := ws) h _ (by rw [hw]; exact List.mem_cons_self))
    exact ⟨meth, c, h1, h2, h3, h4, h5, h6⟩
  · intro p e s m args below meth c s₁ B hml hP _
    have hh0 : s₁.heap = s.heap := by rw [B.state]; rfl
    have ht : ∀ x ∈ c.exceptionTable.toList, False := by
      obtain ⟨meth9, c9, h1, h2, -, -, -, -, h7, -⟩ := Cond.code_spec B.named (atoms_spec (ws := ws) B.pre _ (by rw [hw]; exact List.mem_cons_self))
      cases Option.some.inj (h1.symm.trans B.method)
      cases Option.some.inj (h2.symm.trans (Stand.of_body B).code)
      intro x hx
      rw [Array.isEmpty_iff.mp h7] at hx
      cases hx
    obtain ⟨t, a1, o, b1, b2, b3⟩ := body p e s m args below meth c s₁ B hml ht hP s₁ hh0 (Stand.of_body B)
    exact ⟨t, o, a1, b1, b2, b3⟩
/-- the table of a body with handlers -/
theorem vx_table {p : Program} {x y : MethodName} {S : Spec} {cc bytes : ByteArray} {maxL maxL' : Nat} {ret ret' : Option FieldType} {e : Env} {s s₁ : State} {m : MethodId} {args : Array Value} {below : List Frame} {meth : Method} {c : Code} {hh : List (Nat × Nat × Nat × Nat)}
    (B : BodyLoose p l y S cc maxL ret e s m args below meth c s₁) (h : (Cond.codeWith y bytes maxL' ret' hh).before args s = true) : c.exceptionTable.toList = tableOf hh := by
  obtain ⟨m9, meth9, c9, hn9, h1, h2, -, -, h6, -⟩ := Cond.codeWith_spec h
  cases Option.some.inj (hn9.symm.trans B.named)
  cases Option.some.inj (h1.symm.trans B.method)
  cases Option.some.inj (h2.symm.trans (Stand.of_body B).code)
  rw [← h6, table_eq]
end Bodies
end VXA
/-! ===== END ===== -/
/-! ===== BEGIN a static call of a method with an exception table ===== -/
section VXS
variable {p : Program} {l : Launch} {e : Env} {R : Room} {s : State} {m : MethodId} {args : Array Value} {below : List Frame} {meth : Method} {c : Code} {T : State} {H : Heap} {locs : List Loc} {cells slots : Nat}
abbrev vx_CSW (R : Room) (s : State) (args : Array Value) (own : String) (index : Nat) (y : MethodName) (bytes : ByteArray) (maxL : Nat) (ret : Option FieldType) (hh : List (Nat × Nat × Nat × Nat)) (ws : List Cond) (rm : Room) (mc ms n : Nat) : Prop :=
  (rm.cells = mc ∧ rm.slots = ms ∧ rm.frames + 1 ≤ R.frames ∧ 8 + (maxL + 11) + rm.locals ≤ R.locals ∧ (∀ w ∈ ws, ∀ (a' : Array Value) (U : State), s.WarmedH U.vm → w.before a' U = true) ∧ Cond.codeWith y bytes maxL ret hh ∈ ws) ∧
  (Cond.codeWith y bytes maxL ret hh).before args s = true ∧ (Cond.initialized y.cls).before args s = true ∧ (y.cls ≠ "java/lang/invoke/MethodHandle" ∧ y.cls ≠ "java/lang/invoke/VarHandle") ∧
  (∀ sig, parseMethodDescriptor y.desc = some sig → n = sig.parameters.length) ∧ (Cond.methodLink own index y).before args s = true ∧ (Cond.static y).before args s = true
theorem vx_cwSW {own : String} {index maxL mc ms : Nat} {y : MethodName} {bytes : ByteArray} {ret : Option FieldType} {hh : List (Nat × Nat × Nat × Nat)} {Ts ws ws' : List Cond} {rm : Room} (n : Nat) (ht : ∀ w ∈ Ts, w.before args s = true) (hT : GoodIn Ts (va_wsS own index y ws)) (hw : ws = Cond.codeWith y bytes maxL ret hh :: ws') (hrc : rm.cells = mc) (hrs : rm.slots = ms)
    (hd : y.cls ≠ "java/lang/invoke/MethodHandle" ∧ y.cls ≠ "java/lang/invoke/VarHandle" ∧ (parseMethodDescriptor y.desc).map (fun d => d.parameters.length) = some n) (hR : rm.frames + 1 ≤ R.frames ∧ 8 + (maxL + 11) + rm.locals ≤ R.locals) :
    vx_CSW R s args own index y bytes maxL ret hh ws rm mc ms n := by
  have ok : ∀ w ∈ va_wsS own index y ws, w.before args s = true := fun w h => ht w (hT w h).1
  have hG : GoodIn Ts ws := fun w h => hT w (by unfold va_wsS; exact List.mem_append_right _ h)
  have hc : Cond.codeWith y bytes maxL ret hh ∈ ws := by rw [hw]; exact List.mem_cons_self
  refine ⟨⟨hrc, hrs, hR.1, hR.2, pay_in ht hG, hc⟩, ht _ (hG _ hc).1, ok _ (by simp [va_wsS]), ⟨hd.1, hd.2.1⟩, fun sig h => ?_, ok _ (by simp [va_wsS]), ok _ (by simp [va_wsS])⟩
  have h2 := hd.2.2
  rw [h] at h2
  exact (Option.some.inj h2).symm
theorem vx_callSW (X : Stand p l e R s m args below meth c T locs cells slots) (hexec : p.tables.exec = Jvm.exec) {own : String} {index : Nat} {y : MethodName} {bytes : ByteArray} {maxL : Nat} {ret : Option FieldType} {hh : List (Nat × Nat × Nat × Nat)}
    (hown : s.vm.findClass own = some m.cls) (hlink : (Cond.methodLink own index y).before args s = true) (hstat : (Cond.static y).before args s = true) (hinit : (Cond.initialized y.cls).before args s = true)
    (hcode : (Cond.codeWith y bytes maxL ret hh).before args s = true) (hy : y.cls ≠ "java/lang/invoke/MethodHandle" ∧ y.cls ≠ "java/lang/invoke/VarHandle")
    {W9 : Nat} {Pre : Pt → Array Value → Prop} {Post : Pt → Array Value → Option Value → Pt → Prop} (hK : Back l R p e below s args y 3 W9 Pre Post)
    {g : JFrame} (hg : g.method = m) (hsize : g.locals.size = c.maxLocals) {argsL rest : List Value} (hlen : ∀ sig, parseMethodDescriptor y.desc = some sig → argsL.length = sig.parameters.length)
    (hstack : g.stack = argsL.reverse ++ rest) (hW : 2 * g.monitorRoom + (rest.map fun v => v.category).sum ≤ W9) (hdg : decode c.code g.pc = .ok (.invokestatic index, 3))
    (hpre : ∀ vm₁, s.WarmedH vm₁ → Pre ⟨T.setVm vm₁, locs, cells, slots⟩ argsL.toArray) :
    ∃ (v : Option Value) (vm₁ : Vm) (B : Pt), s.WarmedH vm₁ ∧ Stand p l e R s m args below meth c B.U B.locs B.cells B.slots ∧ Post ⟨T.setVm vm₁, locs, cells, slots⟩ argsL.toArray v B ∧
      ∀ target, Steps p.tables e below (B.U.setTop { g with pc := g.pc + 3, stack := v.toList ++ rest }) target → Steps p.tables e below (T.setTop g) target := by
  obtain ⟨mk, methM, cM, hnamed, hmethM, -, -, -, -, -, -, hsigM⟩ := Cond.codeWith_spec hcode
  have hstatic : methM.isStatic = true := Cond.static_spec hnamed hmethM hstat
  obtain ⟨kP, hkP, -⟩ := className_of_methodNamed hnamed
  have hinitP : kP.init = .initialized := Cond.initialized_spec (findClass_of_methodNamed hnamed) hkP hinit
  obtain ⟨vm₁, X₁, hstep₁⟩ := X.invokestatic hexec hown hlink hnamed hmethM hstatic hkP hinitP hy (g := g) hg (argsL := argsL) (rest := rest) (hlen _ hsigM) hstack hdg
  obtain ⟨v, B, X', hpost, hsteps⟩ := hK m meth c ⟨T.setVm vm₁, locs, cells, slots⟩ { g with stack := rest } (.invokestatic index) mk argsL.toArray X₁ hg hsize hdg hW (X₁.named hnamed) (hpre vm₁ X₁.warmed)
  exact ⟨v, vm₁, B, X₁.warmed, X', hpost, fun target h => hstep₁ _ fun acts => by rw [doInvoke_state]; exact hsteps.trans h⟩
theorem vx_runSW {y : MethodName} {bytes cc : ByteArray} {maxL nL mc ms n index : Nat} {ret : Option FieldType} {hh : List (Nat × Nat × Nat × Nat)} {ws : List Cond} {rm : Room} {Pc : Array Value → State → Prop} {Qc : Array Value → State → Outcome → State → Prop} {free : Addr → Prop} {Ts : List Cond} {own : String} {As rest : List Value} {g : JFrame}
    (S : CallFix p m c cc nL s args Ts own) (hM : Met l y ws rm Pc Qc mc ms free) (cw : vx_CSW R s args own index y bytes maxL ret hh ws rm mc ms n) (hp : PreS s H Pc As)
    (hg : g.method = m) (hn : As.length = n) (hsize : g.locals.size = nL) (hstack : g.stack = As.reverse ++ rest) (hW : 2 * g.monitorRoom + (rest.map fun v => v.category).sum ≤ 8) (hdg : decode cc g.pc = .ok (.invokestatic index, 3)) (hf : cells + mc ≤ R.cells ∧ slots + ms ≤ R.slots) :
    va_Run p l e R s m args below meth c H locs cells slots mc ms g rest (Qc As.toArray) (free) := by
  obtain ⟨⟨hrc, hrs, hfr, hlo, hws, hcw⟩, hcode, hini, hy, hlen, hl, hstt⟩ := cw
  have hK : Back l R p e below s args y 3 8 (PreOf R mc ms Pc) (PostOf Qc mc ms free) := va_backW (hh := hh) (bytes := bytes) (maxL := maxL) (ret := ret) hM hp.1 hrc hrs hfr hlo hws hcw (fun a' U hW => word_at hW (Or.inl (by first | rfl | simp [Cond.onTables, Cond.keeps, Cond.steady])) hini)
  obtain ⟨hx, hb, hml, ho, -⟩ := S
  intro T hT X
  obtain ⟨v, vm₁, ⟨U', l2, c2, s2⟩, hW₁, X', ⟨g', mk, t, L, e1, e2, hq, h1, hL, h2, h3⟩, st⟩ := vx_callSW X hx (hh := hh) (bytes := bytes) (maxL := maxL) (ret := ret) ho hl hstt hini hcode hy hK hg (hsize.trans hml.symm) (argsL := As) (rest := rest) (fun sig h => hn.trans (hlen sig h)) hstack hW (by rw [hb]; exact hdg)
    (fun vm₁ hW₁ => ⟨hf.1, hf.2, hp.2 (T.setVm vm₁) hT hW₁⟩)
  dsimp only [Pt.U, Pt.locs, Pt.cells, Pt.slots] at X' e1 e2 h1 h2 h3 st
  subst h1; subst h2; subst h3
  exact ⟨v, (T.setVm vm₁).calling g' mk As.toArray, t, U', L, hT, X', hL, e1, e2, hq, st⟩
/-- not caught here, past rows that name other classes: it goes on to the caller -/
theorem vx_outP {p : Program} {l : Launch} {e : Env} {R : Room} {s : State} {m : MethodId} {args : Array Value} {below : List Frame} {meth : Method} {c : Code} {H : Heap} {locs : List Loc} {cells slots : Nat} {free : Addr → Prop} {ls : Array Slot} {rest : List Value} {Qc : Array Value → State → Outcome → State → Prop} {XC : String → State → State → Prop}
    {pc : Nat} {own E : String} {ce : Cell} {q : Addr} {mc ms : Nat} (hown : s.vm.findClass own = some m.cls) (hlocks : meth.locks = false)
    (hpass : ∀ z ∈ c.exceptionTable.toList, covers z pc = false ∨ (z.catchType ≠ 0 ∧ ∃ nm : String, (Cond.classLink own z.catchType nm).before args s = true ∧ va_Nc E nm s)) (hcell : H[q]? = some ce) (hv : ce.vm = .none) (hcl : s.vm.findClass E = some ce.cls)
    (hx : ∀ t : State, t.heap = H → s.vm.Alike t.vm → XC E s t) (hf : ∀ z ∈ locs, free z.base) (hc : cells ≤ mc) (hs : slots ≤ ms) :
    vx_W p l e R s m args below meth c H locs cells slots (vx_MQ below Qc XC args s mc ms free) (F0 m pc ls rest) q := by
  intro T hT X
  have hpl : e.platform.magicAccessors = ({} : Platform).magicAccessors := by rw [X.admits.platform]
  obtain ⟨vm', hW', X', st⟩ := X.outThrough hlocks q (g := F0 m pc ls rest) rfl rfl rfl (cell := ce) (by rw [hT]; exact hcell) (by rw [hv]; rfl)
    (by obtain ⟨k9, h9, -⟩ := Vm.findClass_spec hcl; exact ⟨k9, h9⟩) (fun z hz => by
      rcases hpass z hz with h | ⟨hz0, nm, hl1, hn1⟩
      · exact Or.inl h
      · obtain ⟨c6, hc6, hcl6⟩ := Cond.classLink_spec hown hl1 e.platform hpl
        obtain ⟨a8, b8, h1, h2, h3⟩ := hn1
        cases Option.some.inj (h1.symm.trans hcl)
        cases Option.some.inj (h2.symm.trans hc6)
        exact Or.inr ⟨hz0, _, hcl6, h3⟩)
  obtain ⟨g₀, hfr⟩ := X'.frames_eq
  have hcell9 : ((T.setVm vm').setFrames (.throwing q :: below)).heap[q]? = some ce := by
    show T.heap[q]? = some ce
    rw [hT]; exact hcell
  have hend : Ended ((T.setVm vm').setFrames (.throwing q :: below)) below (.threw q) := State.frames_setFrames _ (State.cur_lt_of_frames hfr)
  refine ⟨(T.setVm vm').setFrames (.throwing q :: below), ?_, .threw q, X'.here.running, hend, Or.inr ⟨q, rfl, E, ce, locs, hx _ hT (X'.ends _).1.alike, hcell9, hv, hcl, (X'.ends _).1, (X'.ends _).2.mono hc hs, hf⟩⟩
  rw [X.pushThrowing_eq]
  exact st
/-- a thing of a world lies in the heap -/
theorem vx_lt {D : va_G} {cl : List vw_C} {ws : va_W} {H1 : Heap} (h : va_P D cl ws H1) {k : Nat} {q : Nat × va_E} (hk : ws[k]? = some q) : q.1 < H1.size := (h k q hk).lt
end VXS
/-! ===== END ===== -/
/-! ===== BEGIN methods with a table of their own: called by a name, returning or throwing ===== -/
section VXH
/-! vx_backW, vx_callVX, vx_callSX, vx_callVW, vx_runVW, vx_runVX, vx_runSX, vx_ofWH follow the same proofs as their sisters above (Free/Laws.lean, Shelf42/LK1.lean); vx_outP calls Shelf42/NT130.lean (outThrough). -/
section
variable {l : Launch} {R : Room} {p : Program} {e : Env} {below : List Frame} {s : State} {sargs : Array Value} {y : MethodName} {len W9 : Nat}
theorem vx_backW {ws : List Cond} {rm : Room} {Pc : Array Value → State → Prop} {Qc : Array Value → State → Outcome → State → Prop} {XC : String → State → State → Prop} {mc ms : Nat} {free : Addr → Prop} {bytes : ByteArray} {maxL : Nat} {ret : Option FieldType} {hh : List (Nat × Nat × Nat × Nat)}
    (hM : vx_Met l y ws rm Pc Qc XC mc ms free) (hblind : FrameBlind Pc) (hrc : rm.cells = mc) (hrs : rm.slots = ms)
    (hframes : rm.frames + 1 ≤ R.frames) (hlocals : W9 + (maxL + 11) + rm.locals ≤ R.locals)
    (hws : ∀ w ∈ ws, ∀ a' U, s.WarmedH U.vm → w.before a' U = true) (hcode : Cond.codeWith y bytes maxL ret hh ∈ ws) (hinit : ∀ a' U, s.WarmedH U.vm → (Cond.initialized y.cls).before a' U = true) :
    vx_Back l R p e below s sargs y len W9 (PreOf R mc ms Pc) (PostOf Qc mc ms free) (vx_Post XC mc ms free) := by
  intro m meth c A g ig mk a X hg hsize hdg hW hn hp
  have h1 : (headSpec ws rm).pre.before a A.U = true := atoms_intro fun w hw => hws w hw _ _ X.warmed
  have h2 : (Cond.codeWith y bytes maxL ret hh).before a A.U = true := hws _ hcode _ _ X.warmed
  have h3 : (Cond.initialized y.cls).before a A.U = true := hinit _ _ X.warmed
  have h4 : A.cells + (headSpec ws rm).room.cells ≤ R.cells := by rw [show (headSpec ws rm).room.cells = mc from hrc]; exact hp.1
  have h5 : A.slots + (headSpec ws rm).room.slots ≤ R.slots := by rw [show (headSpec ws rm).room.slots = ms from hrs]; exact hp.2.1
  have hPc : Pc a (A.U.calling g mk a) := hblind _ _ _ _ hp.2.2
  obtain ⟨U, Ls, c0, s0⟩ := A
  dsimp only [Pt.U, Pt.locs, Pt.cells, Pt.slots] at h1 h2 h3 h4 h5 X hn hPc ⊢
  obtain ⟨m9, methY, cY, hn9, hmY, hcY, -, hlY, -⟩ := Cond.codeWith_spec h2
  cases Option.some.inj (hn9.symm.trans hn)
  obtain ⟨kY, hkY, -⟩ := className_of_methodNamed hn
  have hinitY : kY.init = .initialized := Cond.initialized_spec (findClass_of_methodNamed hn) hkY h3
  have h : At U g.method c below := by rw [hg]; exact X.here
  have hlocals9 : W9 + (maxL + 11) + (headSpec ws rm).room.locals ≤ R.locals := hlocals
  have happ : (headSpec ws rm).appliesLoose y e.platform (U.calling g mk a) = true :=
    Spec.appliesLoose_calling (g := g) h hdg hn hkY hinitY
      (X.room_calling (g := g) (R' := (headSpec ws rm).room) hsize hmY hcY hframes (by rw [hlY]; omega) h4 h5) h1
  obtain ⟨mid, hmid⟩ := h.above
  have hfr : (U.setTop g).frames = (.java g :: mid) ++ below := by rw [State.frames_setTop' g h.top, hmid]; rfl
  obtain ⟨o, s₂, hsteps, -, hend, hq⟩ := Steps.callFree hM p X.admits X.cas X.clock (acts := []) hfr happ hPc trivial
  have hq' : vx_Q Qc XC mc ms free a (U.calling g mk a) o s₂ := hq
  rw [State.frames_setTop' g h.top] at hend
  obtain ⟨g₀, hg0⟩ := Option.isSome_iff_exists.mp h.top
  obtain ⟨r, hr⟩ := State.topJava?_eq_some.mp hg0
  have hr' : (({ U with heap := s₂.heap, slotsUsed := s₂.slotsUsed } : State).setVm s₂.vm).frames = .java g₀ :: r := hr
  rcases hq' with ⟨hqc, L, hfe, hL⟩ | ⟨q, rfl, E, ce, L, hx, hce, hcv, hcl, hW₂, hsm, hL⟩
  · obtain ⟨⟨v, rfl⟩, hW₂, e2, q2, q3, q4, q5, q6⟩ := id hfe
    have e3 : s₂ = ({ (U.calling g mk a).setFrames s₂.frames with heap := s₂.heap, slotsUsed := s₂.slotsUsed } : State).setVm s₂.vm := by
      have : s₂ = ({ s₂ with vm := (U.calling g mk a).vm } : State).setVm s₂.vm := rfl
      rw [e2] at this
      exact this
    obtain ⟨c₂, i₂, len₂, hc₂, hd₂, hf₂⟩ := hend
    have hW' : U.WarmedH s₂.vm := hW₂
    have hcc : c₂ = c := by
      have h1 : s₂.code? g.method = U.code? g.method := by
        rw [State.code?_eq, State.code?_eq, hW'.alike.method?]
      exact Option.some.inj (hc₂.symm.trans (h1.trans h.code))
    subst hcc
    have hlen : len₂ = len := by rw [hdg] at hd₂; cases hd₂; rfl
    subst hlen
    have hs₂ : s₂ = (({ U with heap := s₂.heap, slotsUsed := s₂.slotsUsed } : State).setVm s₂.vm).setTop { g with pc := g.pc + len₂, stack := v.toList ++ g.stack } := by
      refine e3.trans ?_
      rw [hf₂, State.calling_eq h.top, State.setFrames_setFrames, State.setTop_of_frames _ hr', hr]
      rfl
    have hsame : U.sameButNew ({ U with heap := s₂.heap, slotsUsed := s₂.slotsUsed } : State) L mc ms := by
      refine ⟨?_, q2, q3, q4, q5, q6⟩
      obtain ⟨t, ht, -⟩ := State.frames_cons hr
      show ({ U with heap := s₂.heap, slotsUsed := s₂.slotsUsed } : State) = { U.setFrames U.frames with heap := s₂.heap, slotsUsed := s₂.slotsUsed }
      rw [State.setFrames_self ht]
    subst hg
    refine Or.inl ⟨v, ⟨(({ U with heap := s₂.heap, slotsUsed := s₂.slotsUsed } : State).setVm s₂.vm), Ls ++ L, c0 + mc, s0 + ms⟩,
      ⟨X.admits, X.cas, X.clock, X.frames, X.room, X.hears, X.method, X.code, (X.here.setHeapUsed s₂.heap s₂.slotsUsed).setVm hW'.alike, X.tail, State.WarmedH.trans X.warmed hW', X.limits, X.bytes, X.same.trans (hsame.setVm s.vm)⟩,
      ⟨g, mk, s₂, L, rfl, rfl, hqc, rfl, hL, rfl, rfl⟩, ?_⟩
    show Steps p.tables e below _ ((({ U with heap := s₂.heap, slotsUsed := s₂.slotsUsed } : State).setVm s₂.vm).setTop { g with pc := g.pc + len₂, stack := v.toList ++ g.stack })
    rw [← hs₂]
    exact hsteps
  · obtain ⟨e2, q2, q3, q4, q5, q6⟩ := id hsm
    have e3 : s₂ = ({ (U.calling g mk a).setFrames s₂.frames with heap := s₂.heap, slotsUsed := s₂.slotsUsed } : State).setVm s₂.vm := by
      have : s₂ = ({ s₂ with vm := (U.calling g mk a).vm } : State).setVm s₂.vm := rfl
      rw [e2] at this
      exact this
    have hf₂ : s₂.frames = .throwing q :: .java g :: U.frames.tail := hend
    have hW' : U.WarmedH s₂.vm := hW₂
    have hs₂ : s₂ = ((({ U with heap := s₂.heap, slotsUsed := s₂.slotsUsed } : State).setVm s₂.vm).setTop g).pushFrame (.throwing q) := by
      refine e3.trans ?_
      rw [hf₂, State.calling_eq h.top, State.setFrames_setFrames, State.pushFrame, State.frames_setTop _ hr', State.setTop_of_frames _ hr', State.setFrames_setFrames, hr]
      rfl
    have hsame : U.sameButNew ({ U with heap := s₂.heap, slotsUsed := s₂.slotsUsed } : State) L mc ms := by
      refine ⟨?_, q2, q3, q4, q5, q6⟩
      obtain ⟨t, ht, -⟩ := State.frames_cons hr
      show ({ U with heap := s₂.heap, slotsUsed := s₂.slotsUsed } : State) = { U.setFrames U.frames with heap := s₂.heap, slotsUsed := s₂.slotsUsed }
      rw [State.setFrames_self ht]
    subst hg
    refine Or.inr ⟨q, ⟨(({ U with heap := s₂.heap, slotsUsed := s₂.slotsUsed } : State).setVm s₂.vm), Ls ++ L, c0 + mc, s0 + ms⟩,
      ⟨X.admits, X.cas, X.clock, X.frames, X.room, X.hears, X.method, X.code, (X.here.setHeapUsed s₂.heap s₂.slotsUsed).setVm hW'.alike, X.tail, State.WarmedH.trans X.warmed hW', X.limits, X.bytes, X.same.trans (hsame.setVm s.vm)⟩,
      ⟨g, mk, s₂, L, E, ce, rfl, rfl, hx, hce, hcv, hcl, rfl, hL, rfl, rfl⟩, ?_⟩
    show Steps p.tables e below _ (((({ U with heap := s₂.heap, slotsUsed := s₂.slotsUsed } : State).setVm s₂.vm).setTop g).pushFrame (.throwing q))
    rw [← hs₂]
    exact hsteps
end
variable {p : Program} {l : Launch} {e : Env} {R : Room} {s : State} {m : MethodId} {args : Array Value} {below : List Frame} {meth : Method} {c : Code} {T : State} {H : Heap} {locs : List Loc} {cells slots : Nat}
theorem vx_callVX (X : Stand p l e R s m args below meth c T locs cells slots) (hexec : p.tables.exec = Jvm.exec) {own C : String} {index : Nat} {y : MethodName} {bytes : ByteArray} {maxL : Nat} {ret : Option FieldType} {hh : List (Nat × Nat × Nat × Nat)}
    (hown : s.vm.findClass own = some m.cls) (hlink : (Cond.methodLink own index y).before args s = true) (hinst : (Cond.instanceMethod y).before args s = true) (hsel : (Cond.selects C y y).before args s = true)
    (hcode : (Cond.codeWith y bytes maxL ret hh).before args s = true) (hy : y.cls ≠ "java/lang/invoke/MethodHandle" ∧ y.cls ≠ "java/lang/invoke/VarHandle")
    {W9 : Nat} {Pre : Pt → Array Value → Prop} {Post : Pt → Array Value → Option Value → Pt → Prop} {PostX : Pt → Array Value → Addr → Pt → Prop} (hK : vx_Back l R p e below s args y 3 W9 Pre Post PostX)
    {b : Addr} {cellB : Cell} (hcell : T.heap[b]? = some cellB) (hobj : cellB.vm.isStatics = false) (hcls : s.vm.findClass C = some cellB.cls)
    {g : JFrame} (hg : g.method = m) (hsize : g.locals.size = c.maxLocals) {argsL rest : List Value} (hlen : ∀ sig, parseMethodDescriptor y.desc = some sig → argsL.length = sig.parameters.length)
    (hstack : g.stack = argsL.reverse ++ .ref b :: rest) (hW : 2 * g.monitorRoom + (rest.map fun v => v.category).sum ≤ W9) (hdg : decode c.code g.pc = .ok (.invokevirtual index, 3))
    (hpre : ∀ vm₁, s.WarmedH vm₁ → Pre ⟨T.setVm vm₁, locs, cells, slots⟩ (Value.ref b :: argsL).toArray) :
    (∃ (v : Option Value) (vm₁ : Vm) (B : Pt), s.WarmedH vm₁ ∧ Stand p l e R s m args below meth c B.U B.locs B.cells B.slots ∧ Post ⟨T.setVm vm₁, locs, cells, slots⟩ (Value.ref b :: argsL).toArray v B ∧
      ∀ target, Steps p.tables e below (B.U.setTop { g with pc := g.pc + 3, stack := v.toList ++ rest }) target → Steps p.tables e below (T.setTop g) target) ∨
    (∃ (q : Addr) (vm₁ : Vm) (B : Pt), s.WarmedH vm₁ ∧ Stand p l e R s m args below meth c B.U B.locs B.cells B.slots ∧ PostX ⟨T.setVm vm₁, locs, cells, slots⟩ (Value.ref b :: argsL).toArray q B ∧
      Steps p.tables e below (T.setTop g) ((B.U.setTop { g with stack := rest }).pushFrame (.throwing q))) := by
  obtain ⟨mk, methM, hnamed, hmethM, hstM, habM⟩ := Cond.instanceMethod_spec hinst
  obtain ⟨m8, methM', cM, hn8, hmethM', -, -, -, -, -, -, hsigM⟩ := Cond.codeWith_spec hcode
  cases Option.some.inj (hn8.symm.trans hnamed)
  cases hmethM.symm.trans hmethM'
  obtain ⟨c2, r2, m2, q1, q2, q3, q4, kP, hkP, hkPi⟩ := Cond.selects_spec hsel
  cases hcls.symm.trans q1
  cases (State.methodFound?_of_named hnamed hy).symm.trans q2
  cases hnamed.symm.trans q3
  have hselP : selectMethod e.platform s.vm cellB.cls mk = .method mk := by rw [Launch.admits_selectMethod X.admits]; exact q4
  obtain ⟨vm₁, X₁, hstep₁⟩ := X.invokevirtual hexec hown hlink hnamed hmethM hstM hkP hkPi hy (a := b) (cell := cellB) hcell
    (fun z h => by rw [h] at hobj; cases hobj) hselP hmethM habM hkP hkPi (g := g) hg (argsL := argsL) (rest := rest) (hlen _ hsigM) hstack hdg
  rcases hK m meth c ⟨T.setVm vm₁, locs, cells, slots⟩ { g with stack := rest } (.invokevirtual index) mk (Value.ref b :: argsL).toArray X₁ hg hsize hdg hW (X₁.named hnamed) (hpre vm₁ X₁.warmed) with ⟨v, B, X', hpost, hsteps⟩ | ⟨q, B, X', hpost, hsteps⟩
  · exact Or.inl ⟨v, vm₁, B, X₁.warmed, X', hpost, fun target h => hstep₁ _ fun acts => by rw [doInvoke_state]; exact hsteps.trans h⟩
  · exact Or.inr ⟨q, vm₁, B, X₁.warmed, X', hpost, hstep₁ _ fun acts => by rw [doInvoke_state]; exact hsteps⟩
theorem vx_callSX (X : Stand p l e R s m args below meth c T locs cells slots) (hexec : p.tables.exec = Jvm.exec) {own : String} {index : Nat} {y : MethodName} {bytes : ByteArray} {maxL : Nat} {ret : Option FieldType} {hh : List (Nat × Nat × Nat × Nat)}
    (hown : s.vm.findClass own = some m.cls) (hlink : (Cond.methodLink own index y).before args s = true) (hstat : (Cond.static y).before args s = true) (hinit : (Cond.initialized y.cls).before args s = true)
    (hcode : (Cond.codeWith y bytes maxL ret hh).before args s = true) (hy : y.cls ≠ "java/lang/invoke/MethodHandle" ∧ y.cls ≠ "java/lang/invoke/VarHandle")
    {W9 : Nat} {Pre : Pt → Array Value → Prop} {Post : Pt → Array Value → Option Value → Pt → Prop} {PostX : Pt → Array Value → Addr → Pt → Prop} (hK : vx_Back l R p e below s args y 3 W9 Pre Post PostX)
    {g : JFrame} (hg : g.method = m) (hsize : g.locals.size = c.maxLocals) {argsL rest : List Value} (hlen : ∀ sig, parseMethodDescriptor y.desc = some sig → argsL.length = sig.parameters.length)
    (hstack : g.stack = argsL.reverse ++ rest) (hW : 2 * g.monitorRoom + (rest.map fun v => v.category).sum ≤ W9) (hdg : decode c.code g.pc = .ok (.invokestatic index, 3))
    (hpre : ∀ vm₁, s.WarmedH vm₁ → Pre ⟨T.setVm vm₁, locs, cells, slots⟩ argsL.toArray) :
    (∃ (v : Option Value) (vm₁ : Vm) (B : Pt), s.WarmedH vm₁ ∧ Stand p l e R s m args below meth c B.U B.locs B.cells B.slots ∧ Post ⟨T.setVm vm₁, locs, cells, slots⟩ argsL.toArray v B ∧
      ∀ target, Steps p.tables e below (B.U.setTop { g with pc := g.pc + 3, stack := v.toList ++ rest }) target → Steps p.tables e below (T.setTop g) target) ∨
    (∃ (q : Addr) (vm₁ : Vm) (B : Pt), s.WarmedH vm₁ ∧ Stand p l e R s m args below meth c B.U B.locs B.cells B.slots ∧ PostX ⟨T.setVm vm₁, locs, cells, slots⟩ argsL.toArray q B ∧
      Steps p.tables e below (T.setTop g) ((B.U.setTop { g with stack := rest }).pushFrame (.throwing q))) := by
  obtain ⟨mk, methM, cM, hnamed, hmethM, -, -, -, -, -, -, hsigM⟩ := Cond.codeWith_spec hcode
  have hstatic : methM.isStatic = true := Cond.static_spec hnamed hmethM hstat
  obtain ⟨kP, hkP, -⟩ := className_of_methodNamed hnamed
  have hinitP : kP.init = .initialized := Cond.initialized_spec (findClass_of_methodNamed hnamed) hkP hinit
  obtain ⟨vm₁, X₁, hstep₁⟩ := X.invokestatic hexec hown hlink hnamed hmethM hstatic hkP hinitP hy (g := g) hg (argsL := argsL) (rest := rest) (hlen _ hsigM) hstack hdg
  rcases hK m meth c ⟨T.setVm vm₁, locs, cells, slots⟩ { g with stack := rest } (.invokestatic index) mk argsL.toArray X₁ hg hsize hdg hW (X₁.named hnamed) (hpre vm₁ X₁.warmed) with ⟨v, B, X', hpost, hsteps⟩ | ⟨q, B, X', hpost, hsteps⟩
  · exact Or.inl ⟨v, vm₁, B, X₁.warmed, X', hpost, fun target h => hstep₁ _ fun acts => by rw [doInvoke_state]; exact hsteps.trans h⟩
  · exact Or.inr ⟨q, vm₁, B, X₁.warmed, X', hpost, hstep₁ _ fun acts => by rw [doInvoke_state]; exact hsteps⟩
theorem vx_callVW (X : Stand p l e R s m args below meth c T locs cells slots) (hexec : p.tables.exec = Jvm.exec) {own C : String} {index : Nat} {y : MethodName} {bytes : ByteArray} {maxL : Nat} {ret : Option FieldType} {hh : List (Nat × Nat × Nat × Nat)}
    (hown : s.vm.findClass own = some m.cls) (hlink : (Cond.methodLink own index y).before args s = true) (hinst : (Cond.instanceMethod y).before args s = true) (hsel : (Cond.selects C y y).before args s = true)
    (hcode : (Cond.codeWith y bytes maxL ret hh).before args s = true) (hy : y.cls ≠ "java/lang/invoke/MethodHandle" ∧ y.cls ≠ "java/lang/invoke/VarHandle")
    {W9 : Nat} {Pre : Pt → Array Value → Prop} {Post : Pt → Array Value → Option Value → Pt → Prop} (hK : Back l R p e below s args y 3 W9 Pre Post)
    {b : Addr} {cellB : Cell} (hcell : T.heap[b]? = some cellB) (hobj : cellB.vm.isStatics = false) (hcls : s.vm.findClass C = some cellB.cls)
    {g : JFrame} (hg : g.method = m) (hsize : g.locals.size = c.maxLocals) {argsL rest : List Value} (hlen : ∀ sig, parseMethodDescriptor y.desc = some sig → argsL.length = sig.parameters.length)
    (hstack : g.stack = argsL.reverse ++ .ref b :: rest) (hW : 2 * g.monitorRoom + (rest.map fun v => v.category).sum ≤ W9) (hdg : decode c.code g.pc = .ok (.invokevirtual index, 3))
    (hpre : ∀ vm₁, s.WarmedH vm₁ → Pre ⟨T.setVm vm₁, locs, cells, slots⟩ (Value.ref b :: argsL).toArray) :
    ∃ (v : Option Value) (vm₁ : Vm) (B : Pt), s.WarmedH vm₁ ∧ Stand p l e R s m args below meth c B.U B.locs B.cells B.slots ∧ Post ⟨T.setVm vm₁, locs, cells, slots⟩ (Value.ref b :: argsL).toArray v B ∧
      ∀ target, Steps p.tables e below (B.U.setTop { g with pc := g.pc + 3, stack := v.toList ++ rest }) target → Steps p.tables e below (T.setTop g) target := by
  obtain ⟨mk, methM, hnamed, hmethM, hstM, habM⟩ := Cond.instanceMethod_spec hinst
  obtain ⟨m8, methM', cM, hn8, hmethM', -, -, -, -, -, -, hsigM⟩ := Cond.codeWith_spec hcode
  cases Option.some.inj (hn8.symm.trans hnamed)
  cases hmethM.symm.trans hmethM'
  obtain ⟨c2, r2, m2, q1, q2, q3, q4, kP, hkP, hkPi⟩ := Cond.selects_spec hsel
  cases hcls.symm.trans q1
  cases (State.methodFound?_of_named hnamed hy).symm.trans q2
  cases hnamed.symm.trans q3
  have hselP : selectMethod e.platform s.vm cellB.cls mk = .method mk := by rw [Launch.admits_selectMethod X.admits]; exact q4
  obtain ⟨vm₁, X₁, hstep₁⟩ := X.invokevirtual hexec hown hlink hnamed hmethM hstM hkP hkPi hy (a := b) (cell := cellB) hcell
    (fun z h => by rw [h] at hobj; cases hobj) hselP hmethM habM hkP hkPi (g := g) hg (argsL := argsL) (rest := rest) (hlen _ hsigM) hstack hdg
  obtain ⟨v, B, X', hpost, hsteps⟩ := hK m meth c ⟨T.setVm vm₁, locs, cells, slots⟩ { g with stack := rest } (.invokevirtual index) mk (Value.ref b :: argsL).toArray X₁ hg hsize hdg hW (X₁.named hnamed) (hpre vm₁ X₁.warmed)
  exact ⟨v, vm₁, B, X₁.warmed, X', hpost, fun target h => hstep₁ _ fun acts => by rw [doInvoke_state]; exact hsteps.trans h⟩
abbrev vx_CVW (R : Room) (s : State) (args : Array Value) (own C : String) (index : Nat) (y : MethodName) (bytes : ByteArray) (maxL : Nat) (ret : Option FieldType) (hh : List (Nat × Nat × Nat × Nat)) (ws : List Cond) (rm : Room) (mc ms n : Nat) : Prop :=
  (rm.cells = mc ∧ rm.slots = ms ∧ rm.frames + 1 ≤ R.frames ∧ 8 + (maxL + 11) + rm.locals ≤ R.locals ∧ (∀ w ∈ ws, ∀ (a' : Array Value) (U : State), s.WarmedH U.vm → w.before a' U = true) ∧ Cond.codeWith y bytes maxL ret hh ∈ ws) ∧
  (Cond.codeWith y bytes maxL ret hh).before args s = true ∧ (Cond.initialized y.cls).before args s = true ∧ (y.cls ≠ "java/lang/invoke/MethodHandle" ∧ y.cls ≠ "java/lang/invoke/VarHandle") ∧
  (∀ sig, parseMethodDescriptor y.desc = some sig → n = sig.parameters.length) ∧ (Cond.methodLink own index y).before args s = true ∧ (Cond.instanceMethod y).before args s = true ∧ (Cond.selects C y y).before args s = true
theorem vx_cwVW {own C : String} {index maxL mc ms : Nat} {y : MethodName} {bytes : ByteArray} {ret : Option FieldType} {hh : List (Nat × Nat × Nat × Nat)} {Ts ws ws' : List Cond} {rm : Room} (n : Nat) (ht : ∀ w ∈ Ts, w.before args s = true) (hT : GoodIn Ts (wsV own index C y ws)) (hw : ws = Cond.codeWith y bytes maxL ret hh :: ws') (hrc : rm.cells = mc) (hrs : rm.slots = ms)
    (hd : y.cls = C ∧ y.cls ≠ "java/lang/invoke/MethodHandle" ∧ y.cls ≠ "java/lang/invoke/VarHandle" ∧ (parseMethodDescriptor y.desc).map (fun d => d.parameters.length) = some n) (hR : rm.frames + 1 ≤ R.frames ∧ 8 + (maxL + 11) + rm.locals ≤ R.locals) :
    vx_CVW R s args own C index y bytes maxL ret hh ws rm mc ms n := by
  obtain ⟨hC, hd⟩ := hd
  subst hC
  have ok : ∀ w ∈ wsV own index y.cls y ws, w.before args s = true := fun w h => ht w (hT w h).1
  have hG : GoodIn Ts ws := fun w h => hT w (by unfold wsV; exact List.mem_append_right _ h)
  have hc : Cond.codeWith y bytes maxL ret hh ∈ ws := by rw [hw]; exact List.mem_cons_self
  refine ⟨⟨hrc, hrs, hR.1, hR.2, pay_in ht hG, hc⟩, ht _ (hG _ hc).1, ok _ (by simp [wsV]), ⟨hd.1, hd.2.1⟩, fun sig h => ?_, ok _ (by simp [wsV]), ok _ (by simp [wsV]), ok _ (by simp [wsV])⟩
  have h2 := hd.2.2
  rw [h] at h2
  exact (Option.some.inj h2).symm
theorem vx_runVW {y : MethodName} {bytes cc : ByteArray} {maxL nL mc ms n index : Nat} {ret : Option FieldType} {hh : List (Nat × Nat × Nat × Nat)} {ws : List Cond} {rm : Room} {Pc : Array Value → State → Prop} {Qc : Array Value → State → Outcome → State → Prop} {free : Addr → Prop} {Ts : List Cond} {own C : String} {b : Addr} {As rest : List Value} {g : JFrame}
    (S : CallFix p m c cc nL s args Ts own) (hM : Met l y ws rm Pc Qc mc ms free) (cw : vx_CVW R s args own C index y bytes maxL ret hh ws rm mc ms n) (hp : PreV s H C b Pc As)
    (hg : g.method = m) (hn : As.length = n) (hsize : g.locals.size = nL) (hstack : g.stack = As.reverse ++ .ref b :: rest) (hW : 2 * g.monitorRoom + (rest.map fun v => v.category).sum ≤ 8) (hdg : decode cc g.pc = .ok (.invokevirtual index, 3)) (hf : cells + mc ≤ R.cells ∧ slots + ms ≤ R.slots) :
    va_Run p l e R s m args below meth c H locs cells slots mc ms g rest (Qc (Value.ref b :: As).toArray) free := by
  obtain ⟨⟨hrc, hrs, hfr, hlo, hws, hcw⟩, hcode, hini, hy, hlen, hl, hin, hse⟩ := cw
  have hK : Back l R p e below s args y 3 8 (PreOf R mc ms Pc) (PostOf Qc mc ms free) := va_backW (hh := hh) (bytes := bytes) (maxL := maxL) (ret := ret) hM hp.1 hrc hrs hfr hlo hws hcw (fun a' U hW => word_at hW (Or.inl (by first | rfl | simp [Cond.onTables, Cond.keeps, Cond.steady])) hini)
  obtain ⟨hx, hb, hml, ho, -⟩ := S
  obtain ⟨-, ⟨cellB, hcB, hoB, hclB⟩, hPc⟩ := hp
  intro T hT X
  obtain ⟨v, vm₁, ⟨U', l2, c2, s2⟩, hW₁, X', ⟨g', mk, t, L, e1, e2, hq, h1, hL, h2, h3⟩, st⟩ := vx_callVW X hx (C := C) (hh := hh) (bytes := bytes) (maxL := maxL) (ret := ret) ho hl hin hse hcode hy hK (by rw [hT]; exact hcB) hoB hclB hg (hsize.trans hml.symm) (argsL := As) (rest := rest) (fun sig h => hn.trans (hlen sig h)) hstack hW (by rw [hb]; exact hdg)
    (fun vm₁ hW₁ => ⟨hf.1, hf.2, hPc (T.setVm vm₁) hT hW₁⟩)
  dsimp only [Pt.U, Pt.locs, Pt.cells, Pt.slots] at X' e1 e2 h1 h2 h3 st
  subst h1; subst h2; subst h3
  exact ⟨v, (T.setVm vm₁).calling g' mk (Value.ref b :: As).toArray, t, U', L, hT, X', hL, e1, e2, hq, st⟩
section
variable {y : MethodName} {bytes cc : ByteArray} {maxL nL mc ms n index : Nat} {ret : Option FieldType} {ws : List Cond} {rm : Room} {Pc : Array Value → State → Prop} {Qc : Array Value → State → Outcome → State → Prop} {XC : String → State → State → Prop} {free : Addr → Prop} {Ts : List Cond} {own C : String} {b : Addr} {As rest : List Value} {g : JFrame}
theorem vx_runVX {hh : List (Nat × Nat × Nat × Nat)} (S : CallFix p m c cc nL s args Ts own) (hM : vx_Met l y ws rm Pc Qc XC mc ms free) (cw : vx_CVW R s args own C index y bytes maxL ret hh ws rm mc ms n) (hp : PreV s H C b Pc As)
    (hg : g.method = m) (hn : As.length = n) (hsize : g.locals.size = nL) (hstack : g.stack = As.reverse ++ .ref b :: rest) (hW : 2 * g.monitorRoom + (rest.map fun v => v.category).sum ≤ 8) (hdg : decode cc g.pc = .ok (.invokevirtual index, 3)) (hf : cells + mc ≤ R.cells ∧ slots + ms ≤ R.slots) :
    vx_Run p l e R s m args below meth c H locs cells slots mc ms g rest (Qc (Value.ref b :: As).toArray) XC free := by
  obtain ⟨⟨hrc, hrs, hfr, hlo, hws, hcw⟩, hcode, hini, hy, hlen, hl, hin, hse⟩ := cw
  have hK : vx_Back l R p e below s args y 3 8 (PreOf R mc ms Pc) (PostOf Qc mc ms free) (vx_Post XC mc ms free) := vx_backW (hh := hh) (bytes := bytes) (maxL := maxL) (ret := ret) hM hp.1 hrc hrs hfr hlo hws hcw (fun a' U hW => word_at hW (Or.inl (by first | rfl | simp [Cond.onTables, Cond.keeps, Cond.steady])) hini)
  obtain ⟨hx, hb, hml, ho, -⟩ := S
  obtain ⟨-, ⟨cellB, hcB, hoB, hclB⟩, hPc⟩ := hp
  intro T hT X
  rcases vx_callVX X hx (C := C) (hh := hh) (bytes := bytes) (maxL := maxL) (ret := ret) ho hl hin hse hcode hy hK (by rw [hT]; exact hcB) hoB hclB hg (hsize.trans hml.symm) (argsL := As) (rest := rest) (fun sig h => hn.trans (hlen sig h)) hstack hW (by rw [hb]; exact hdg)
    (fun vm₁ hW₁ => ⟨hf.1, hf.2, hPc (T.setVm vm₁) hT hW₁⟩) with ⟨v, vm₁, ⟨U', l2, c2, s2⟩, hW₁, X', ⟨g', mk, t, L, e1, e2, hq, h1, hL, h2, h3⟩, st⟩ | ⟨q, vm₁, ⟨U', l2, c2, s2⟩, hW₁, X', ⟨g', mk, t, L, E, ce, e1, e2, hq, hce, hcv, hcl, h1, hL, h2, h3⟩, st⟩
  · dsimp only [Pt.U, Pt.locs, Pt.cells, Pt.slots] at X' e1 e2 h1 h2 h3 st
    subst h1; subst h2; subst h3
    exact Or.inl ⟨v, (T.setVm vm₁).calling g' mk (Value.ref b :: As).toArray, t, U', L, hT, X', hL, e1, e2, hq, st⟩
  · dsimp only [Pt.U, Pt.locs, Pt.cells, Pt.slots] at X' e1 e2 h1 h2 h3 st hcl
    subst h1; subst h2; subst h3
    exact Or.inr ⟨q, (T.setVm vm₁).calling g' mk (Value.ref b :: As).toArray, t, U', L, E, ce, hT, X', hL, e1, e2, hq, hce, hcv, vx_cls hW₁ hcl, st⟩
theorem vx_runSX {hh : List (Nat × Nat × Nat × Nat)} (S : CallFix p m c cc nL s args Ts own) (hM : vx_Met l y ws rm Pc Qc XC mc ms free) (cw : vx_CSW R s args own index y bytes maxL ret hh ws rm mc ms n) (hp : PreS s H Pc As)
    (hg : g.method = m) (hn : As.length = n) (hsize : g.locals.size = nL) (hstack : g.stack = As.reverse ++ rest) (hW : 2 * g.monitorRoom + (rest.map fun v => v.category).sum ≤ 8) (hdg : decode cc g.pc = .ok (.invokestatic index, 3)) (hf : cells + mc ≤ R.cells ∧ slots + ms ≤ R.slots) :
    vx_Run p l e R s m args below meth c H locs cells slots mc ms g rest (Qc As.toArray) XC free := by
  obtain ⟨⟨hrc, hrs, hfr, hlo, hws, hcw⟩, hcode, hini, hy, hlen, hl, hstt⟩ := cw
  have hK : vx_Back l R p e below s args y 3 8 (PreOf R mc ms Pc) (PostOf Qc mc ms free) (vx_Post XC mc ms free) := vx_backW (hh := hh) (bytes := bytes) (maxL := maxL) (ret := ret) hM hp.1 hrc hrs hfr hlo hws hcw (fun a' U hW => word_at hW (Or.inl (by first | rfl | simp [Cond.onTables, Cond.keeps, Cond.steady])) hini)
  obtain ⟨hx, hb, hml, ho, -⟩ := S
  intro T hT X
  rcases vx_callSX X hx (hh := hh) (bytes := bytes) (maxL := maxL) (ret := ret) ho hl hstt hini hcode hy hK hg (hsize.trans hml.symm) (argsL := As) (rest := rest) (fun sig h => hn.trans (hlen sig h)) hstack hW (by rw [hb]; exact hdg)
    (fun vm₁ hW₁ => ⟨hf.1, hf.2, hp.2 (T.setVm vm₁) hT hW₁⟩) with ⟨v, vm₁, ⟨U', l2, c2, s2⟩, hW₁, X', ⟨g', mk, t, L, e1, e2, hq, h1, hL, h2, h3⟩, st⟩ | ⟨q, vm₁, ⟨U', l2, c2, s2⟩, hW₁, X', ⟨g', mk, t, L, E, ce, e1, e2, hq, hce, hcv, hcl, h1, hL, h2, h3⟩, st⟩
  · dsimp only [Pt.U, Pt.locs, Pt.cells, Pt.slots] at X' e1 e2 h1 h2 h3 st
    subst h1; subst h2; subst h3
    exact Or.inl ⟨v, (T.setVm vm₁).calling g' mk As.toArray, t, U', L, hT, X', hL, e1, e2, hq, st⟩
  · dsimp only [Pt.U, Pt.locs, Pt.cells, Pt.slots] at X' e1 e2 h1 h2 h3 st hcl
    subst h1; subst h2; subst h3
    exact Or.inr ⟨q, (T.setVm vm₁).calling g' mk As.toArray, t, U', L, E, ce, hT, X', hL, e1, e2, hq, hce, hcv, vx_cls hW₁ hcl, st⟩
end
end VXH
theorem vx_ofWH {l : Launch} {y : MethodName} {ws ws' : List Cond} {rm : Room} {Pc : Array Value → State → Prop} {Qc : Array Value → State → Outcome → State → Prop} {XC : String → State → State → Prop} {mc ms : Nat} {free : Addr → Prop} {cc : ByteArray} {maxL : Nat} {ret : Option FieldType} {hh : List (Nat × Nat × Nat × Nat)}
    (hy : plainName y.cls = true) (hw : ws = Cond.codeWith y cc maxL ret hh :: ws')
    (body : ∀ p e s m args below meth c s₁, BodyLoose p l y (headSpec ws rm) cc maxL ret e s m args below meth c s₁ → c.maxLocals = maxL → Pc args s →
      W p l e (headSpec ws rm).room s m args below meth c s.heap [] 0 0 (vx_MQ below Qc XC args s mc ms free) (entryFrame m args maxL)) : vx_Met l y ws rm Pc Qc XC mc ms free := by
  refine MetFree.of_bodyS (code := cc) (maxLocals := maxL) (ret := ret) hy ?_ ?_
  · intro args s m h hn
    obtain ⟨m9, meth, c, hn9, h1, h2, h3, h4, -, h5, h6, -⟩ := Cond.codeWith_spec (atoms_spec (ws := ws) h _ (by rw [hw]; exact List.mem_cons_self))
    cases hn.symm.trans hn9
    exact ⟨meth, c, h1, h2, h3, h4, h5, h6⟩
  · intro p e s m args below meth c s₁ B hml hP _
    have hh0 : s₁.heap = s.heap := by rw [B.state]; rfl
    obtain ⟨t, a1, o, b1, b2, b3⟩ := body p e s m args below meth c s₁ B hml hP s₁ hh0 (Stand.of_body B)
    exact ⟨t, o, a1, b1, b2, b3⟩
/-! ===== END ===== -/
end
section
/-! ===== BEGIN printed: names, fields, word lists, decode rows ===== -/
def RX0 : String := "OnceVolume$Acts"
def TX0 : u_T := fun k => match k with
  | 0 => ("OnceVolume$Acts", "ahead", "[LOnceVolume$State;", true)
  | 1 => ("OnceVolume$Acts", "next", "I", false)
  | _ => ("OnceVolume$Acts", "count", "I", false)
def tyX0 : Nat → FieldType := fun k => match k with
  | 0 => .array (.object "OnceVolume$State")
  | 1 => .int
  | _ => .int
abbrev wsX00 : List Cond := u_ws RX0 TX0 3
theorem nmX0 : ∀ a, a < 3 → ∀ b, b < 3 → a ≠ b → (TX0 a).2.1 ≠ (TX0 b).2.1 := by decide +kernel
theorem tyX0_ok : ∀ k, k < 3 → parseFieldDescriptor (TX0 k).2.2.1 = some (tyX0 k) := by decide +kernel
abbrev cX0_init : ByteArray := prog_2_method_1_code
def yX0_init : MethodName := ⟨RX0, "<init>", "()V"⟩
abbrev cX0_forget : ByteArray := prog_2_method_2_code
def yX0_forget : MethodName := ⟨RX0, "forget", "()V"⟩
abbrev cX0_keep : ByteArray := prog_2_method_3_code
def yX0_keep : MethodName := ⟨RX0, "keep", "(LOnceVolume$State;)V"⟩
abbrev cX0_takeBack : ByteArray := prog_2_method_4_code
def yX0_takeBack : MethodName := ⟨RX0, "takeBack", "(LOnceVolume$State;)V"⟩
abbrev cX0_takeFrom : ByteArray := prog_2_method_5_code
def yX0_takeFrom : MethodName := ⟨RX0, "takeFrom", "(LOnceVolume$Acts;)V"⟩
def RX1 : String := "OnceVolume$Contents"
def TX1 : u_T := fun k => match k with
  | 0 => ("OnceVolume$Contents", "kinds", "[I", true)
  | 1 => ("OnceVolume$Contents", "names", "[I", true)
  | 2 => ("OnceVolume$Contents", "cells", "[I", true)
  | _ => ("OnceVolume$Contents", "count", "I", false)
def tyX1 : Nat → FieldType := fun k => match k with
  | 0 => .array .int
  | 1 => .array .int
  | 2 => .array .int
  | _ => .int
abbrev wsX10 : List Cond := u_ws RX1 TX1 4
theorem nmX1 : ∀ a, a < 4 → ∀ b, b < 4 → a ≠ b → (TX1 a).2.1 ≠ (TX1 b).2.1 := by decide +kernel
theorem tyX1_ok : ∀ k, k < 4 → parseFieldDescriptor (TX1 k).2.2.1 = some (tyX1 k) := by decide +kernel
abbrev cX1_init : ByteArray := prog_3_method_1_code
def yX1_init : MethodName := ⟨RX1, "<init>", "()V"⟩
abbrev cX1_plan : ByteArray := prog_3_method_2_code
def yX1_plan : MethodName := ⟨RX1, "plan", "(LOnceVolume$State;I)V"⟩
abbrev cX1_addFile : ByteArray := prog_3_method_3_code
def yX1_addFile : MethodName := ⟨RX1, "addFile", "(LOnceVolume$State;I)V"⟩
abbrev cX1_add : ByteArray := prog_3_method_4_code
def yX1_add : MethodName := ⟨RX1, "add", "(III)V"⟩
abbrev cX1_lay : ByteArray := prog_3_method_5_code
def yX1_lay : MethodName := ⟨RX1, "lay", "(LOnceVolume$State;LOnceVolume$Disc;I)Z"⟩
abbrev cX1_placePacket : ByteArray := prog_3_method_6_code
def yX1_placePacket : MethodName := ⟨RX1, "placePacket", "(LOnceVolume$State;III)V"⟩
abbrev cX1_writeBlock : ByteArray := prog_3_method_7_code
def yX1_writeBlock : MethodName := ⟨RX1, "writeBlock", "(LOnceVolume$State;LOnceVolume$Disc;I)V"⟩
abbrev cX1_writeEntry : ByteArray := prog_3_method_8_code
def yX1_writeEntry : MethodName := ⟨RX1, "writeEntry", "(LOnceVolume$State;LOnceVolume$Disc;I)V"⟩
abbrev cX1_writeDirectory : ByteArray := prog_3_method_9_code
def yX1_writeDirectory : MethodName := ⟨RX1, "writeDirectory", "(LOnceVolume$State;LOnceVolume$Disc;)V"⟩
abbrev cX1_writeMap : ByteArray := prog_3_method_10_code
def yX1_writeMap : MethodName := ⟨RX1, "writeMap", "(LOnceVolume$State;LOnceVolume$Disc;)V"⟩
def RX2 : String := "OnceVolume$Disc"
def TX2 : u_T := fun k => match k with
  | 0 => ("OnceVolume$Disc", "size", "I", false)
  | 1 => ("OnceVolume$Disc", "packet", "I", false)
  | 2 => ("OnceVolume$Disc", "run", "I", false)
  | 3 => ("OnceVolume$Disc", "out", "I", false)
  | 4 => ("OnceVolume$Disc", "foreseenBroken", "Z", false)
  | 5 => ("OnceVolume$Disc", "faultyAhead", "[I", true)
  | 6 => ("OnceVolume$Disc", "kinds", "[I", true)
  | 7 => ("OnceVolume$Disc", "lengths", "[I", true)
  | 8 => ("OnceVolume$Disc", "told", "[I", true)
  | 9 => ("OnceVolume$Disc", "reached", "[I", true)
  | _ => ("OnceVolume$Disc", "look", "I", false)
def tyX2 : Nat → FieldType := fun k => match k with
  | 0 => .int
  | 1 => .int
  | 2 => .int
  | 3 => .int
  | 4 => .boolean
  | 5 => .array .int
  | 6 => .array .int
  | 7 => .array .int
  | 8 => .array .int
  | 9 => .array .int
  | _ => .int
abbrev wsX20 : List Cond := u_ws RX2 TX2 11
theorem nmX2 : ∀ a, a < 11 → ∀ b, b < 11 → a ≠ b → (TX2 a).2.1 ≠ (TX2 b).2.1 := by decide +kernel
theorem tyX2_ok : ∀ k, k < 11 → parseFieldDescriptor (TX2 k).2.2.1 = some (tyX2 k) := by decide +kernel
abbrev cX2_init : ByteArray := prog_4_method_1_code
def yX2_init : MethodName := ⟨RX2, "<init>", "()V"⟩
abbrev cX2_takeOver : ByteArray := prog_4_method_2_code
def yX2_takeOver : MethodName := ⟨RX2, "takeOver", "(LOnceVolume$Reader;)V"⟩
abbrev cX2_takeBlocks : ByteArray := prog_4_method_3_code
def yX2_takeBlocks : MethodName := ⟨RX2, "takeBlocks", "(LOnceVolume$Disc;I)V"⟩
abbrev cX2_isBlock : ByteArray := prog_4_method_4_code
def yX2_isBlock : MethodName := ⟨RX2, "isBlock", "(I)Z"⟩
abbrev cX2_isFaulty : ByteArray := prog_4_method_5_code
def yX2_isFaulty : MethodName := ⟨RX2, "isFaulty", "(I)Z"⟩
abbrev cX2_hasFaulty : ByteArray := prog_4_method_6_code
def yX2_hasFaulty : MethodName := ⟨RX2, "hasFaulty", "(II)Z"⟩
abbrev cX2_kindOf : ByteArray := prog_4_method_7_code
def yX2_kindOf : MethodName := ⟨RX2, "kindOf", "(II)I"⟩
abbrev cX2_lengthOf : ByteArray := prog_4_method_8_code
def yX2_lengthOf : MethodName := ⟨RX2, "lengthOf", "(I)I"⟩
abbrev cX2_toldBy : ByteArray := prog_4_method_9_code
def yX2_toldBy : MethodName := ⟨RX2, "toldBy", "(II)I"⟩
abbrev cX2_write : ByteArray := prog_4_method_10_code
def yX2_write : MethodName := ⟨RX2, "write", "(III)V"⟩
abbrev cX2_tell : ByteArray := prog_4_method_11_code
def yX2_tell : MethodName := ⟨RX2, "tell", "(III)V"⟩
abbrev cX2_packetsFor : ByteArray := prog_4_method_12_code
def yX2_packetsFor : MethodName := ⟨RX2, "packetsFor", "(I)I"⟩
abbrev cX2_costOf : ByteArray := prog_4_method_13_code
def yX2_costOf : MethodName := ⟨RX2, "costOf", "(I)I"⟩
abbrev cX2_hasRoomForPacket : ByteArray := prog_4_method_14_code
def yX2_hasRoomForPacket : MethodName := ⟨RX2, "hasRoomForPacket", "(I)Z"⟩
abbrev cX2_wouldSpare : ByteArray := prog_4_method_15_code
def yX2_wouldSpare : MethodName := ⟨RX2, "wouldSpare", "(I)Z"⟩
abbrev cX2_foresee : ByteArray := prog_4_method_16_code
def yX2_foresee : MethodName := ⟨RX2, "foresee", "(III)I"⟩
abbrev cX2_isGoodMap : ByteArray := prog_4_method_17_code
def yX2_isGoodMap : MethodName := ⟨RX2, "isGoodMap", "(I)Z"⟩
abbrev cX2_lastGoodMap : ByteArray := prog_4_method_18_code
def yX2_lastGoodMap : MethodName := ⟨RX2, "lastGoodMap", "(I)I"⟩
abbrev cX2_goodMaps : ByteArray := prog_4_method_19_code
def yX2_goodMaps : MethodName := ⟨RX2, "goodMaps", "(I)I"⟩
abbrev cX2_mapAlong : ByteArray := prog_4_method_20_code
def yX2_mapAlong : MethodName := ⟨RX2, "mapAlong", "(II)I"⟩
abbrev cX2_mapsAlong : ByteArray := prog_4_method_21_code
def yX2_mapsAlong : MethodName := ⟨RX2, "mapsAlong", "(I)I"⟩
abbrev cX2_entryBy : ByteArray := prog_4_method_22_code
def yX2_entryBy : MethodName := ⟨RX2, "entryBy", "(II)I"⟩
abbrev cX2_numberBy : ByteArray := prog_4_method_23_code
def yX2_numberBy : MethodName := ⟨RX2, "numberBy", "(II)I"⟩
abbrev cX2_tellAlike : ByteArray := prog_4_method_24_code
def yX2_tellAlike : MethodName := ⟨RX2, "tellAlike", "(II)Z"⟩
abbrev cX2_reach : ByteArray := prog_4_method_25_code
def yX2_reach : MethodName := ⟨RX2, "reach", "(I)V"⟩
abbrev cX2_reachBlock : ByteArray := prog_4_method_26_code
def yX2_reachBlock : MethodName := ⟨RX2, "reachBlock", "(I)V"⟩
abbrev cX2_mapsReaching : ByteArray := prog_4_method_27_code
def yX2_mapsReaching : MethodName := ⟨RX2, "mapsReaching", "(II)I"⟩
abbrev cX2_deadBlocks : ByteArray := prog_4_method_28_code
def yX2_deadBlocks : MethodName := ⟨RX2, "deadBlocks", "(II)I"⟩
abbrev cX2_badBlocks : ByteArray := prog_4_method_29_code
def yX2_badBlocks : MethodName := ⟨RX2, "badBlocks", "(I)I"⟩
def RX3 : String := "OnceVolume$Draws"
def TX3 : u_T := fun k => match k with
  | _ => ("OnceVolume$Draws", "seed", "I", false)
def tyX3 : Nat → FieldType := fun k => match k with
  | _ => .int
abbrev wsX30 : List Cond := u_ws RX3 TX3 1
theorem nmX3 : ∀ a, a < 1 → ∀ b, b < 1 → a ≠ b → (TX3 a).2.1 ≠ (TX3 b).2.1 := by decide +kernel
theorem tyX3_ok : ∀ k, k < 1 → parseFieldDescriptor (TX3 k).2.2.1 = some (tyX3 k) := by decide +kernel
abbrev cX3_init : ByteArray := prog_5_method_1_code
def yX3_init : MethodName := ⟨RX3, "<init>", "()V"⟩
abbrev cX3_draw : ByteArray := prog_5_method_2_code
def yX3_draw : MethodName := ⟨RX3, "draw", "(I)I"⟩
def RX4 : String := "OnceVolume$Image"
def TX4 : u_T := fun k => match k with
  | 0 => ("OnceVolume$Image", "present", "Z", false)
  | 1 => ("OnceVolume$Image", "disc", "LOnceVolume$Disc;", true)
  | 2 => ("OnceVolume$Image", "state", "LOnceVolume$State;", true)
  | 3 => ("OnceVolume$Image", "acts", "LOnceVolume$Acts;", true)
  | 4 => ("OnceVolume$Image", "refusedTexts", "I", false)
  | _ => ("OnceVolume$Image", "refusedActs", "I", false)
def tyX4 : Nat → FieldType := fun k => match k with
  | 0 => .boolean
  | 1 => .object "OnceVolume$Disc"
  | 2 => .object "OnceVolume$State"
  | 3 => .object "OnceVolume$Acts"
  | 4 => .int
  | _ => .int
abbrev wsX40 : List Cond := u_ws RX4 TX4 6
theorem nmX4 : ∀ a, a < 6 → ∀ b, b < 6 → a ≠ b → (TX4 a).2.1 ≠ (TX4 b).2.1 := by decide +kernel
theorem tyX4_ok : ∀ k, k < 6 → parseFieldDescriptor (TX4 k).2.2.1 = some (tyX4 k) := by decide +kernel
abbrev cX4_init : ByteArray := prog_6_method_1_code
def yX4_init : MethodName := ⟨RX4, "<init>", "()V"⟩
def RX5 : String := "OnceVolume$Reader"
def TX5 : u_T := fun k => match k with
  | 0 => ("OnceVolume$Reader", "tokens", "LOnceVolume$Tokens;", true)
  | 1 => ("OnceVolume$Reader", "fault", "I", false)
  | 2 => ("OnceVolume$Reader", "place", "I", false)
  | 3 => ("OnceVolume$Reader", "discTold", "Z", false)
  | 4 => ("OnceVolume$Reader", "size", "I", false)
  | 5 => ("OnceVolume$Reader", "packet", "I", false)
  | 6 => ("OnceVolume$Reader", "run", "I", false)
  | 7 => ("OnceVolume$Reader", "out", "I", false)
  | 8 => ("OnceVolume$Reader", "bad", "[Z", true)
  | 9 => ("OnceVolume$Reader", "badCount", "I", false)
  | 10 => ("OnceVolume$Reader", "names", "[I", true)
  | 11 => ("OnceVolume$Reader", "lengths", "[I", true)
  | 12 => ("OnceVolume$Reader", "numbers", "[I", true)
  | _ => ("OnceVolume$Reader", "files", "I", false)
def tyX5 : Nat → FieldType := fun k => match k with
  | 0 => .object "OnceVolume$Tokens"
  | 1 => .int
  | 2 => .int
  | 3 => .boolean
  | 4 => .int
  | 5 => .int
  | 6 => .int
  | 7 => .int
  | 8 => .array .boolean
  | 9 => .int
  | 10 => .array .int
  | 11 => .array .int
  | 12 => .array .int
  | _ => .int
abbrev wsX50 : List Cond := u_ws RX5 TX5 14
theorem nmX5 : ∀ a, a < 14 → ∀ b, b < 14 → a ≠ b → (TX5 a).2.1 ≠ (TX5 b).2.1 := by decide +kernel
theorem tyX5_ok : ∀ k, k < 14 → parseFieldDescriptor (TX5 k).2.2.1 = some (tyX5 k) := by decide +kernel
abbrev cX5_init : ByteArray := prog_7_method_1_code
def yX5_init : MethodName := ⟨RX5, "<init>", "()V"⟩
abbrev cX5_readText : ByteArray := prog_7_method_2_code
def yX5_readText : MethodName := ⟨RX5, "readText", "([II)V"⟩
abbrev cX5_forgetAll : ByteArray := prog_7_method_3_code
def yX5_forgetAll : MethodName := ⟨RX5, "forgetAll", "()V"⟩
abbrev cX5_readClause : ByteArray := prog_7_method_4_code
def yX5_readClause : MethodName := ⟨RX5, "readClause", "()V"⟩
abbrev cX5_fail : ByteArray := prog_7_method_5_code
def yX5_fail : MethodName := ⟨RX5, "fail", "(I)V"⟩
abbrev cX5_readSemicolon : ByteArray := prog_7_method_6_code
def yX5_readSemicolon : MethodName := ⟨RX5, "readSemicolon", "()V"⟩
abbrev cX5_readDisc : ByteArray := prog_7_method_7_code
def yX5_readDisc : MethodName := ⟨RX5, "readDisc", "()V"⟩
abbrev cX5_readNumber : ByteArray := prog_7_method_8_code
def yX5_readNumber : MethodName := ⟨RX5, "readNumber", "(II)I"⟩
abbrev cX5_isFit : ByteArray := prog_7_method_9_code
def yX5_isFit : MethodName := ⟨RX5, "isFit", "(II)Z"⟩
abbrev cX5_readBad : ByteArray := prog_7_method_10_code
def yX5_readBad : MethodName := ⟨RX5, "readBad", "()V"⟩
abbrev cX5_readBadBlock : ByteArray := prog_7_method_11_code
def yX5_readBadBlock : MethodName := ⟨RX5, "readBadBlock", "()V"⟩
abbrev cX5_readFile : ByteArray := prog_7_method_12_code
def yX5_readFile : MethodName := ⟨RX5, "readFile", "()V"⟩
abbrev cX5_isTold : ByteArray := prog_7_method_13_code
def yX5_isTold : MethodName := ⟨RX5, "isTold", "(I)Z"⟩
abbrev cX5_readCell : ByteArray := prog_7_method_14_code
def yX5_readCell : MethodName := ⟨RX5, "readCell", "()V"⟩
def RX6 : String := "OnceVolume$State"
def TX6 : u_T := fun k => match k with
  | 0 => ("OnceVolume$State", "virtuals", "[I", true)
  | 1 => ("OnceVolume$State", "lengths", "[I", true)
  | 2 => ("OnceVolume$State", "changed", "[Z", true)
  | 3 => ("OnceVolume$State", "blocks", "[I", true)
  | 4 => ("OnceVolume$State", "numbers", "[I", true)
  | 5 => ("OnceVolume$State", "written", "[I", true)
  | 6 => ("OnceVolume$State", "directoryChanged", "Z", false)
  | 7 => ("OnceVolume$State", "map", "I", false)
  | 8 => ("OnceVolume$State", "session", "I", false)
  | 9 => ("OnceVolume$State", "head", "I", false)
  | _ => ("OnceVolume$State", "spared", "I", false)
def tyX6 : Nat → FieldType := fun k => match k with
  | 0 => .array .int
  | 1 => .array .int
  | 2 => .array .boolean
  | 3 => .array .int
  | 4 => .array .int
  | 5 => .array .int
  | 6 => .boolean
  | 7 => .int
  | 8 => .int
  | 9 => .int
  | _ => .int
abbrev wsX60 : List Cond := u_ws RX6 TX6 11
theorem nmX6 : ∀ a, a < 11 → ∀ b, b < 11 → a ≠ b → (TX6 a).2.1 ≠ (TX6 b).2.1 := by decide +kernel
theorem tyX6_ok : ∀ k, k < 11 → parseFieldDescriptor (TX6 k).2.2.1 = some (tyX6 k) := by decide +kernel
abbrev cX6_init : ByteArray := prog_8_method_1_code
def yX6_init : MethodName := ⟨RX6, "<init>", "()V"⟩
abbrev cX6_takeFrom : ByteArray := prog_8_method_2_code
def yX6_takeFrom : MethodName := ⟨RX6, "takeFrom", "(LOnceVolume$State;)V"⟩
abbrev cX6_takeOver : ByteArray := prog_8_method_3_code
def yX6_takeOver : MethodName := ⟨RX6, "takeOver", "(LOnceVolume$Reader;)V"⟩
abbrev cX6_dropFiles : ByteArray := prog_8_method_4_code
def yX6_dropFiles : MethodName := ⟨RX6, "dropFiles", "()V"⟩
abbrev cX6_settleChanges : ByteArray := prog_8_method_5_code
def yX6_settleChanges : MethodName := ⟨RX6, "settleChanges", "()V"⟩
abbrev cX6_settle : ByteArray := prog_8_method_6_code
def yX6_settle : MethodName := ⟨RX6, "settle", "(I)V"⟩
abbrev cX6_mountMap : ByteArray := prog_8_method_7_code
def yX6_mountMap : MethodName := ⟨RX6, "mountMap", "(LOnceVolume$Disc;I)V"⟩
abbrev cX6_takeCells : ByteArray := prog_8_method_8_code
def yX6_takeCells : MethodName := ⟨RX6, "takeCells", "(ILOnceVolume$Disc;I)V"⟩
abbrev cX6_putCell : ByteArray := prog_8_method_9_code
def yX6_putCell : MethodName := ⟨RX6, "putCell", "(IIII)V"⟩
abbrev cX6_has : ByteArray := prog_8_method_10_code
def yX6_has : MethodName := ⟨RX6, "has", "(I)Z"⟩
abbrev cX6_blockOf : ByteArray := prog_8_method_11_code
def yX6_blockOf : MethodName := ⟨RX6, "blockOf", "(II)I"⟩
abbrev cX6_numberOf : ByteArray := prog_8_method_12_code
def yX6_numberOf : MethodName := ⟨RX6, "numberOf", "(II)I"⟩
abbrev cX6_entryOf : ByteArray := prog_8_method_13_code
def yX6_entryOf : MethodName := ⟨RX6, "entryOf", "(I)I"⟩
abbrev cX6_nameOf : ByteArray := prog_8_method_14_code
def yX6_nameOf : MethodName := ⟨RX6, "nameOf", "(I)I"⟩
abbrev cX6_freeVirtual : ByteArray := prog_8_method_15_code
def yX6_freeVirtual : MethodName := ⟨RX6, "freeVirtual", "()I"⟩
abbrev cX6_fileCount : ByteArray := prog_8_method_16_code
def yX6_fileCount : MethodName := ⟨RX6, "fileCount", "()I"⟩
abbrev cX6_changedCount : ByteArray := prog_8_method_17_code
def yX6_changedCount : MethodName := ⟨RX6, "changedCount", "()I"⟩
abbrev cX6_anyChanged : ByteArray := prog_8_method_18_code
def yX6_anyChanged : MethodName := ⟨RX6, "anyChanged", "()Z"⟩
abbrev cX6_newCells : ByteArray := prog_8_method_19_code
def yX6_newCells : MethodName := ⟨RX6, "newCells", "(I)I"⟩
abbrev cX6_newCount : ByteArray := prog_8_method_20_code
def yX6_newCount : MethodName := ⟨RX6, "newCount", "()I"⟩
abbrev cX6_contentCount : ByteArray := prog_8_method_21_code
def yX6_contentCount : MethodName := ⟨RX6, "contentCount", "()I"⟩
abbrev cX6_canSet : ByteArray := prog_8_method_22_code
def yX6_canSet : MethodName := ⟨RX6, "canSet", "(II)Z"⟩
abbrev cX6_setCell : ByteArray := prog_8_method_23_code
def yX6_setCell : MethodName := ⟨RX6, "setCell", "(III)V"⟩
abbrev cX6_beginFile : ByteArray := prog_8_method_24_code
def yX6_beginFile : MethodName := ⟨RX6, "beginFile", "(I)V"⟩
abbrev cX6_eraseFile : ByteArray := prog_8_method_25_code
def yX6_eraseFile : MethodName := ⟨RX6, "eraseFile", "(I)V"⟩
abbrev cX6_forget : ByteArray := prog_8_method_26_code
def yX6_forget : MethodName := ⟨RX6, "forget", "(I)V"⟩
abbrev cX6_canGoTo : ByteArray := prog_8_method_27_code
def yX6_canGoTo : MethodName := ⟨RX6, "canGoTo", "(II)Z"⟩
abbrev cX6_renameFile : ByteArray := prog_8_method_28_code
def yX6_renameFile : MethodName := ⟨RX6, "renameFile", "(II)V"⟩
abbrev cX6_copyFile : ByteArray := prog_8_method_29_code
def yX6_copyFile : MethodName := ⟨RX6, "copyFile", "(II)V"⟩
abbrev cX6_copyCells : ByteArray := prog_8_method_30_code
def yX6_copyCells : MethodName := ⟨RX6, "copyCells", "(II)V"⟩
abbrev cX6_isLike : ByteArray := prog_8_method_31_code
def yX6_isLike : MethodName := ⟨RX6, "isLike", "(ILOnceVolume$Disc;I)Z"⟩
abbrev cX6_runs : ByteArray := prog_8_method_32_code
def yX6_runs : MethodName := ⟨RX6, "runs", "(I)I"⟩
abbrev cX6_farthest : ByteArray := prog_8_method_33_code
def yX6_farthest : MethodName := ⟨RX6, "farthest", "(I)I"⟩
def RX7 : String := "OnceVolume$Tokens"
def TX7 : u_T := fun k => match k with
  | 0 => ("OnceVolume$Tokens", "text", "[I", false)
  | 1 => ("OnceVolume$Tokens", "end", "I", false)
  | 2 => ("OnceVolume$Tokens", "next", "I", false)
  | 3 => ("OnceVolume$Tokens", "at", "I", false)
  | 4 => ("OnceVolume$Tokens", "kind", "I", false)
  | 5 => ("OnceVolume$Tokens", "value", "I", false)
  | _ => ("OnceVolume$Tokens", "digits", "I", false)
def tyX7 : Nat → FieldType := fun k => match k with
  | 0 => .array .int
  | 1 => .int
  | 2 => .int
  | 3 => .int
  | 4 => .int
  | 5 => .int
  | _ => .int
abbrev wsX70 : List Cond := u_ws RX7 TX7 7
theorem nmX7 : ∀ a, a < 7 → ∀ b, b < 7 → a ≠ b → (TX7 a).2.1 ≠ (TX7 b).2.1 := by decide +kernel
theorem tyX7_ok : ∀ k, k < 7 → parseFieldDescriptor (TX7 k).2.2.1 = some (tyX7 k) := by decide +kernel
abbrev cX7_init : ByteArray := prog_9_method_1_code
def yX7_init : MethodName := ⟨RX7, "<init>", "()V"⟩
abbrev cX7_begin : ByteArray := prog_9_method_2_code
def yX7_begin : MethodName := ⟨RX7, "begin", "([II)V"⟩
abbrev cX7_advance : ByteArray := prog_9_method_3_code
def yX7_advance : MethodName := ⟨RX7, "advance", "()V"⟩
abbrev cX7_endOfRow : ByteArray := prog_9_method_4_code
def yX7_endOfRow : MethodName := ⟨RX7, "endOfRow", "(II)I"⟩
abbrev cX7_takeValue : ByteArray := prog_9_method_5_code
def yX7_takeValue : MethodName := ⟨RX7, "takeValue", "()V"⟩
abbrev cX7_isWord : ByteArray := prog_9_method_6_code
def yX7_isWord : MethodName := ⟨RX7, "isWord", "(Ljava/lang/String;)Z"⟩
def RX8 : String := "OnceVolume"
def TX8 : u_T := fun k => match k with
  | 0 => ("OnceVolume", "tape", "[I", true)
  | 1 => ("OnceVolume", "tapeLength", "I", false)
  | 2 => ("OnceVolume", "reader", "LOnceVolume$Reader;", true)
  | 3 => ("OnceVolume", "faultPlace", "I", false)
  | 4 => ("OnceVolume", "disc", "LOnceVolume$Disc;", true)
  | 5 => ("OnceVolume", "state", "LOnceVolume$State;", true)
  | 6 => ("OnceVolume", "contents", "LOnceVolume$Contents;", true)
  | 7 => ("OnceVolume", "acts", "LOnceVolume$Acts;", true)
  | 8 => ("OnceVolume", "refusedTexts", "I", false)
  | 9 => ("OnceVolume", "refusedActs", "I", false)
  | 10 => ("OnceVolume", "kept", "LOnceVolume$Image;", true)
  | 11 => ("OnceVolume", "beforeYears", "LOnceVolume$State;", true)
  | 12 => ("OnceVolume", "draws", "LOnceVolume$Draws;", true)
  | _ => ("OnceVolume", "unlikeEntries", "[I", true)
def tyX8 : Nat → FieldType := fun k => match k with
  | 0 => .array .int
  | 1 => .int
  | 2 => .object "OnceVolume$Reader"
  | 3 => .int
  | 4 => .object "OnceVolume$Disc"
  | 5 => .object "OnceVolume$State"
  | 6 => .object "OnceVolume$Contents"
  | 7 => .object "OnceVolume$Acts"
  | 8 => .int
  | 9 => .int
  | 10 => .object "OnceVolume$Image"
  | 11 => .object "OnceVolume$State"
  | 12 => .object "OnceVolume$Draws"
  | _ => .array .int
abbrev wsX80 : List Cond := u_ws RX8 TX8 14
theorem nmX8 : ∀ a, a < 14 → ∀ b, b < 14 → a ≠ b → (TX8 a).2.1 ≠ (TX8 b).2.1 := by decide +kernel
theorem tyX8_ok : ∀ k, k < 14 → parseFieldDescriptor (TX8 k).2.2.1 = some (tyX8 k) := by decide +kernel
abbrev cX8_init : ByteArray := prog_1_method_1_code
def yX8_init : MethodName := ⟨RX8, "<init>", "()V"⟩
abbrev cX8_feed : ByteArray := prog_1_method_2_code
def yX8_feed : MethodName := ⟨RX8, "feed", "(IIIII)I"⟩
abbrev cX8_feedNumber : ByteArray := prog_1_method_3_code
def yX8_feedNumber : MethodName := ⟨RX8, "feedNumber", "(I)V"⟩
abbrev cX8_disc : ByteArray := prog_1_method_4_code
def yX8_disc : MethodName := ⟨RX8, "disc", "(I)I"⟩
abbrev cX8_beginAnew : ByteArray := prog_1_method_5_code
def yX8_beginAnew : MethodName := ⟨RX8, "beginAnew", "()V"⟩
abbrev cX8_fault : ByteArray := prog_1_method_6_code
def yX8_fault : MethodName := ⟨RX8, "fault", "()I"⟩
abbrev cX8_count : ByteArray := prog_1_method_7_code
def yX8_count : MethodName := ⟨RX8, "count", "(I)I"⟩
abbrev cX8_block : ByteArray := prog_1_method_8_code
def yX8_block : MethodName := ⟨RX8, "block", "(II)I"⟩
abbrev cX8_tells : ByteArray := prog_1_method_9_code
def yX8_tells : MethodName := ⟨RX8, "tells", "(II)I"⟩
abbrev cX8_checkBlock : ByteArray := prog_1_method_10_code
def yX8_checkBlock : MethodName := ⟨RX8, "checkBlock", "(I)V"⟩
abbrev cX8_checkWhat : ByteArray := prog_1_method_11_code
def yX8_checkWhat : MethodName := ⟨RX8, "checkWhat", "(II)V"⟩
abbrev cX8_file : ByteArray := prog_1_method_12_code
def yX8_file : MethodName := ⟨RX8, "file", "(II)I"⟩
abbrev cX8_lie : ByteArray := prog_1_method_13_code
def yX8_lie : MethodName := ⟨RX8, "lie", "(II)I"⟩
abbrev cX8_read : ByteArray := prog_1_method_14_code
def yX8_read : MethodName := ⟨RX8, "read", "(II)I"⟩
abbrev cX8_checkFile : ByteArray := prog_1_method_15_code
def yX8_checkFile : MethodName := ⟨RX8, "checkFile", "(I)V"⟩
abbrev cX8_past : ByteArray := prog_1_method_16_code
def yX8_past : MethodName := ⟨RX8, "past", "(III)I"⟩
abbrev cX8_mapOrThrow : ByteArray := prog_1_method_17_code
def yX8_mapOrThrow : MethodName := ⟨RX8, "mapOrThrow", "(I)I"⟩
abbrev cX8_checkName : ByteArray := prog_1_method_18_code
def yX8_checkName : MethodName := ⟨RX8, "checkName", "(I)V"⟩
abbrev cX8_checkCell : ByteArray := prog_1_method_19_code
def yX8_checkCell : MethodName := ⟨RX8, "checkCell", "(I)V"⟩
abbrev cX8_versions : ByteArray := prog_1_method_20_code
def yX8_versions : MethodName := ⟨RX8, "versions", "(I)I"⟩
abbrev cX8_isLikeOneOf : ByteArray := prog_1_method_21_code
def yX8_isLikeOneOf : MethodName := ⟨RX8, "isLikeOneOf", "(II)Z"⟩
abbrev cX8_since : ByteArray := prog_1_method_22_code
def yX8_since : MethodName := ⟨RX8, "since", "(III)I"⟩
abbrev cX8_alike : ByteArray := prog_1_method_23_code
def yX8_alike : MethodName := ⟨RX8, "alike", "(I)I"⟩
abbrev cX8_set : ByteArray := prog_1_method_24_code
def yX8_set : MethodName := ⟨RX8, "set", "(III)I"⟩
abbrev cX8_refuse : ByteArray := prog_1_method_25_code
def yX8_refuse : MethodName := ⟨RX8, "refuse", "()I"⟩
abbrev cX8_cut : ByteArray := prog_1_method_26_code
def yX8_cut : MethodName := ⟨RX8, "cut", "(II)I"⟩
abbrev cX8_erase : ByteArray := prog_1_method_27_code
def yX8_erase : MethodName := ⟨RX8, "erase", "(I)I"⟩
abbrev cX8_rename : ByteArray := prog_1_method_28_code
def yX8_rename : MethodName := ⟨RX8, "rename", "(II)Z"⟩
abbrev cX8_copy : ByteArray := prog_1_method_29_code
def yX8_copy : MethodName := ⟨RX8, "copy", "(II)I"⟩
abbrev cX8_revert : ByteArray := prog_1_method_30_code
def yX8_revert : MethodName := ⟨RX8, "revert", "(II)I"⟩
abbrev cX8_sync : ByteArray := prog_1_method_31_code
def yX8_sync : MethodName := ⟨RX8, "sync", "()I"⟩
abbrev cX8_packetsNow : ByteArray := prog_1_method_32_code
def yX8_packetsNow : MethodName := ⟨RX8, "packetsNow", "()I"⟩
abbrev cX8_canBegin : ByteArray := prog_1_method_33_code
def yX8_canBegin : MethodName := ⟨RX8, "canBegin", "()Z"⟩
abbrev cX8_writeAll : ByteArray := prog_1_method_34_code
def yX8_writeAll : MethodName := ⟨RX8, "writeAll", "()Z"⟩
abbrev cX8_mountLast : ByteArray := prog_1_method_35_code
def yX8_mountLast : MethodName := ⟨RX8, "mountLast", "()V"⟩
abbrev cX8_tear : ByteArray := prog_1_method_36_code
def yX8_tear : MethodName := ⟨RX8, "tear", "(I)I"⟩
abbrev cX8_canTear : ByteArray := prog_1_method_37_code
def yX8_canTear : MethodName := ⟨RX8, "canTear", "(I)Z"⟩
abbrev cX8_writeTorn : ByteArray := prog_1_method_38_code
def yX8_writeTorn : MethodName := ⟨RX8, "writeTorn", "(I)V"⟩
abbrev cX8_close : ByteArray := prog_1_method_39_code
def yX8_close : MethodName := ⟨RX8, "close", "(Z)I"⟩
abbrev cX8_canClose : ByteArray := prog_1_method_40_code
def yX8_canClose : MethodName := ⟨RX8, "canClose", "()Z"⟩
abbrev cX8_closeSession : ByteArray := prog_1_method_41_code
def yX8_closeSession : MethodName := ⟨RX8, "closeSession", "(Z)V"⟩
abbrev cX8_mount : ByteArray := prog_1_method_42_code
def yX8_mount : MethodName := ⟨RX8, "mount", "(I)I"⟩
abbrev cX8_undo : ByteArray := prog_1_method_43_code
def yX8_undo : MethodName := ⟨RX8, "undo", "()I"⟩
abbrev cX8_cost : ByteArray := prog_1_method_44_code
def yX8_cost : MethodName := ⟨RX8, "cost", "(I)I"⟩
abbrev cX8_apart : ByteArray := prog_1_method_45_code
def yX8_apart : MethodName := ⟨RX8, "apart", "()I"⟩
abbrev cX8_found : ByteArray := prog_1_method_46_code
def yX8_found : MethodName := ⟨RX8, "found", "(I)I"⟩
abbrev cX8_left : ByteArray := prog_1_method_47_code
def yX8_left : MethodName := ⟨RX8, "left", "()I"⟩
abbrev cX8_ends : ByteArray := prog_1_method_48_code
def yX8_ends : MethodName := ⟨RX8, "ends", "()I"⟩
abbrev cX8_endWith : ByteArray := prog_1_method_49_code
def yX8_endWith : MethodName := ⟨RX8, "endWith", "(II)I"⟩
abbrev cX8_toPack : ByteArray := prog_1_method_50_code
def yX8_toPack : MethodName := ⟨RX8, "toPack", "(I)I"⟩
abbrev cX8_blocksBy : ByteArray := prog_1_method_51_code
def yX8_blocksBy : MethodName := ⟨RX8, "blocksBy", "(II)I"⟩
abbrev cX8_packetsBy : ByteArray := prog_1_method_52_code
def yX8_packetsBy : MethodName := ⟨RX8, "packetsBy", "(II)I"⟩
abbrev cX8_guess : ByteArray := prog_1_method_53_code
def yX8_guess : MethodName := ⟨RX8, "guess", "(II)I"⟩
abbrev cX8_storms : ByteArray := prog_1_method_54_code
def yX8_storms : MethodName := ⟨RX8, "storms", "(II)J"⟩
abbrev cX8_power : ByteArray := prog_1_method_55_code
def yX8_power : MethodName := ⟨RX8, "power", "(II)J"⟩
abbrev cX8_years : ByteArray := prog_1_method_56_code
def yX8_years : MethodName := ⟨RX8, "years", "(III)I"⟩
abbrev cX8_liveYear : ByteArray := prog_1_method_57_code
def yX8_liveYear : MethodName := ⟨RX8, "liveYear", "()V"⟩
abbrev cX8_setDrawn : ByteArray := prog_1_method_58_code
def yX8_setDrawn : MethodName := ⟨RX8, "setDrawn", "()V"⟩
abbrev cX8_image : ByteArray := prog_1_method_59_code
def yX8_image : MethodName := ⟨RX8, "image", "()V"⟩
abbrev cX8_restore : ByteArray := prog_1_method_60_code
def yX8_restore : MethodName := ⟨RX8, "restore", "()Z"⟩
abbrev cX8_isName : ByteArray := prog_1_method_61_code
def yX8_isName : MethodName := ⟨RX8, "isName", "(I)Z"⟩
def RX9 : String := "OnceVolumeModel"
def TX9 : u_T := fun k => match k with
  | 0 => ("OnceVolumeModel", "code", "I", false)
  | 1 => ("OnceVolumeModel", "told", "[I", true)
  | 2 => ("OnceVolumeModel", "faulty", "[I", true)
  | 3 => ("OnceVolumeModel", "status", "[I", true)
  | 4 => ("OnceVolumeModel", "now", "[I", true)
  | 5 => ("OnceVolumeModel", "firstRow", "[I", true)
  | 6 => ("OnceVolumeModel", "kind", "[I", true)
  | 7 => ("OnceVolumeModel", "body", "[I", true)
  | 8 => ("OnceVolumeModel", "tape", "[I", true)
  | 9 => ("OnceVolumeModel", "taped", "I", false)
  | 10 => ("OnceVolumeModel", "at", "I", false)
  | 11 => ("OnceVolumeModel", "textSize", "I", false)
  | 12 => ("OnceVolumeModel", "token", "I", false)
  | 13 => ("OnceVolumeModel", "number", "I", false)
  | 14 => ("OnceVolumeModel", "begins", "I", false)
  | 15 => ("OnceVolumeModel", "stops", "I", false)
  | 16 => ("OnceVolumeModel", "bad", "I", false)
  | 17 => ("OnceVolumeModel", "badPlace", "I", false)
  | 18 => ("OnceVolumeModel", "faultPlace", "I", false)
  | 19 => ("OnceVolumeModel", "hasDisc", "Z", false)
  | 20 => ("OnceVolumeModel", "filesTold", "I", false)
  | 21 => ("OnceVolumeModel", "guessed", "I", false)
  | 22 => ("OnceVolumeModel", "what", "[I", true)
  | 23 => ("OnceVolumeModel", "whose", "[I", true)
  | 24 => ("OnceVolumeModel", "place", "[I", true)
  | 25 => ("OnceVolumeModel", "contents", "I", false)
  | 26 => ("OnceVolumeModel", "packets", "I", false)
  | 27 => ("OnceVolumeModel", "written", "I", false)
  | 28 => ("OnceVolumeModel", "met", "[Z", true)
  | 29 => ("OnceVolumeModel", "acts", "I", false)
  | 30 => ("OnceVolumeModel", "past", "[I", true)
  | 31 => ("OnceVolumeModel", "seedNow", "I", false)
  | 32 => ("OnceVolumeModel", "rowThen", "[I", true)
  | 33 => ("OnceVolumeModel", "hasImage", "Z", false)
  | 34 => ("OnceVolumeModel", "actsThen", "I", false)
  | 35 => ("OnceVolumeModel", "imageRow", "[I", true)
  | 36 => ("OnceVolumeModel", "pastThen", "[I", true)
  | 37 => ("OnceVolumeModel", "kindThen", "[I", true)
  | 38 => ("OnceVolumeModel", "bodyThen", "[I", true)
  | _ => ("OnceVolumeModel", "statusThen", "[I", true)
def tyX9 : Nat → FieldType := fun k => match k with
  | 0 => .int
  | 1 => .array .int
  | 2 => .array .int
  | 3 => .array .int
  | 4 => .array .int
  | 5 => .array .int
  | 6 => .array .int
  | 7 => .array .int
  | 8 => .array .int
  | 9 => .int
  | 10 => .int
  | 11 => .int
  | 12 => .int
  | 13 => .int
  | 14 => .int
  | 15 => .int
  | 16 => .int
  | 17 => .int
  | 18 => .int
  | 19 => .boolean
  | 20 => .int
  | 21 => .int
  | 22 => .array .int
  | 23 => .array .int
  | 24 => .array .int
  | 25 => .int
  | 26 => .int
  | 27 => .int
  | 28 => .array .boolean
  | 29 => .int
  | 30 => .array .int
  | 31 => .int
  | 32 => .array .int
  | 33 => .boolean
  | 34 => .int
  | 35 => .array .int
  | 36 => .array .int
  | 37 => .array .int
  | 38 => .array .int
  | _ => .array .int
abbrev wsX90 : List Cond := u_ws RX9 TX9 40
theorem nmX9 : ∀ a, a < 40 → ∀ b, b < 40 → a ≠ b → (TX9 a).2.1 ≠ (TX9 b).2.1 := by decide +kernel
theorem tyX9_ok : ∀ k, k < 40 → parseFieldDescriptor (TX9 k).2.2.1 = some (tyX9 k) := by decide +kernel
abbrev cX9_init : ByteArray := prog_11_method_1_code
def yX9_init : MethodName := ⟨RX9, "<init>", "()V"⟩
abbrev cX9_thrown : ByteArray := prog_11_method_2_code
def yX9_thrown : MethodName := ⟨RX9, "thrown", "()I"⟩
abbrev cX9_fail : ByteArray := prog_11_method_3_code
def yX9_fail : MethodName := ⟨RX9, "fail", "(I)I"⟩
abbrev cX9_isIn : ByteArray := prog_11_method_4_code
def yX9_isIn : MethodName := ⟨RX9, "isIn", "(III)Z"⟩
abbrev cX9_noFiles : ByteArray := prog_11_method_5_code
def yX9_noFiles : MethodName := ⟨RX9, "noFiles", "([I)V"⟩
abbrev cX9_layNothing : ByteArray := prog_11_method_6_code
def yX9_layNothing : MethodName := ⟨RX9, "layNothing", "([I)V"⟩
abbrev cX9_feed : ByteArray := prog_11_method_7_code
def yX9_feed : MethodName := ⟨RX9, "feed", "(IIIII)I"⟩
abbrev cX9_byteAt : ByteArray := prog_11_method_8_code
def yX9_byteAt : MethodName := ⟨RX9, "byteAt", "(I)I"⟩
abbrev cX9_isLetter : ByteArray := prog_11_method_9_code
def yX9_isLetter : MethodName := ⟨RX9, "isLetter", "(I)Z"⟩
abbrev cX9_isDigit : ByteArray := prog_11_method_10_code
def yX9_isDigit : MethodName := ⟨RX9, "isDigit", "(I)Z"⟩
abbrev cX9_stepOn : ByteArray := prog_11_method_11_code
def yX9_stepOn : MethodName := ⟨RX9, "stepOn", "()V"⟩
abbrev cX9_wrong : ByteArray := prog_11_method_12_code
def yX9_wrong : MethodName := ⟨RX9, "wrong", "(I)V"⟩
abbrev cX9_is : ByteArray := prog_11_method_13_code
def yX9_is : MethodName := ⟨RX9, "is", "(Ljava/lang/String;)Z"⟩
abbrev cX9_numberNow : ByteArray := prog_11_method_14_code
def yX9_numberNow : MethodName := ⟨RX9, "numberNow", "(II)I"⟩
abbrev cX9_readNumber : ByteArray := prog_11_method_15_code
def yX9_readNumber : MethodName := ⟨RX9, "readNumber", "(II)I"⟩
abbrev cX9_isNumberNext : ByteArray := prog_11_method_16_code
def yX9_isNumberNext : MethodName := ⟨RX9, "isNumberNext", "()Z"⟩
abbrev cX9_readDisc : ByteArray := prog_11_method_17_code
def yX9_readDisc : MethodName := ⟨RX9, "readDisc", "()V"⟩
abbrev cX9_readBad : ByteArray := prog_11_method_18_code
def yX9_readBad : MethodName := ⟨RX9, "readBad", "()V"⟩
abbrev cX9_readFile : ByteArray := prog_11_method_19_code
def yX9_readFile : MethodName := ⟨RX9, "readFile", "()V"⟩
abbrev cX9_readClause : ByteArray := prog_11_method_20_code
def yX9_readClause : MethodName := ⟨RX9, "readClause", "()V"⟩
abbrev cX9_disc : ByteArray := prog_11_method_21_code
def yX9_disc : MethodName := ⟨RX9, "disc", "(I)I"⟩
abbrev cX9_fault : ByteArray := prog_11_method_22_code
def yX9_fault : MethodName := ⟨RX9, "fault", "()I"⟩
abbrev cX9_isFaulty : ByteArray := prog_11_method_23_code
def yX9_isFaulty : MethodName := ⟨RX9, "isFaulty", "(I)Z"⟩
abbrev cX9_kindOf : ByteArray := prog_11_method_24_code
def yX9_kindOf : MethodName := ⟨RX9, "kindOf", "(I)I"⟩
abbrev cX9_tellsAt : ByteArray := prog_11_method_25_code
def yX9_tellsAt : MethodName := ⟨RX9, "tellsAt", "(II)I"⟩
abbrev cX9_isGood : ByteArray := prog_11_method_26_code
def yX9_isGood : MethodName := ⟨RX9, "isGood", "(I)Z"⟩
abbrev cX9_lastGood : ByteArray := prog_11_method_27_code
def yX9_lastGood : MethodName := ⟨RX9, "lastGood", "(I)I"⟩
abbrev cX9_along : ByteArray := prog_11_method_28_code
def yX9_along : MethodName := ⟨RX9, "along", "(II)I"⟩
abbrev cX9_entryBy : ByteArray := prog_11_method_29_code
def yX9_entryBy : MethodName := ⟨RX9, "entryBy", "(II)I"⟩
abbrev cX9_manyBy : ByteArray := prog_11_method_30_code
def yX9_manyBy : MethodName := ⟨RX9, "manyBy", "(I)I"⟩
abbrev cX9_cellBy : ByteArray := prog_11_method_31_code
def yX9_cellBy : MethodName := ⟨RX9, "cellBy", "(II)I"⟩
abbrev cX9_takeCells : ByteArray := prog_11_method_32_code
def yX9_takeCells : MethodName := ⟨RX9, "takeCells", "(II)V"⟩
abbrev cX9_mountMap : ByteArray := prog_11_method_33_code
def yX9_mountMap : MethodName := ⟨RX9, "mountMap", "(I)V"⟩
abbrev cX9_filesNow : ByteArray := prog_11_method_34_code
def yX9_filesNow : MethodName := ⟨RX9, "filesNow", "()I"⟩
abbrev cX9_changedFiles : ByteArray := prog_11_method_35_code
def yX9_changedFiles : MethodName := ⟨RX9, "changedFiles", "()I"⟩
abbrev cX9_hasChanged : ByteArray := prog_11_method_36_code
def yX9_hasChanged : MethodName := ⟨RX9, "hasChanged", "()Z"⟩
abbrev cX9_newCells : ByteArray := prog_11_method_37_code
def yX9_newCells : MethodName := ⟨RX9, "newCells", "(I)I"⟩
abbrev cX9_newAll : ByteArray := prog_11_method_38_code
def yX9_newAll : MethodName := ⟨RX9, "newAll", "()I"⟩
abbrev cX9_content : ByteArray := prog_11_method_39_code
def yX9_content : MethodName := ⟨RX9, "content", "(II)V"⟩
abbrev cX9_nameOf : ByteArray := prog_11_method_40_code
def yX9_nameOf : MethodName := ⟨RX9, "nameOf", "(I)I"⟩
abbrev cX9_up : ByteArray := prog_11_method_41_code
def yX9_up : MethodName := ⟨RX9, "up", "(II)I"⟩
abbrev cX9_layContents : ByteArray := prog_11_method_42_code
def yX9_layContents : MethodName := ⟨RX9, "layContents", "()V"⟩
abbrev cX9_placeOf : ByteArray := prog_11_method_43_code
def yX9_placeOf : MethodName := ⟨RX9, "placeOf", "(III)I"⟩
abbrev cX9_putBody : ByteArray := prog_11_method_44_code
def yX9_putBody : MethodName := ⟨RX9, "putBody", "(II)V"⟩
abbrev cX9_canBegin : ByteArray := prog_11_method_45_code
def yX9_canBegin : MethodName := ⟨RX9, "canBegin", "()Z"⟩
abbrev cX9_isTorn : ByteArray := prog_11_method_46_code
def yX9_isTorn : MethodName := ⟨RX9, "isTorn", "(I)Z"⟩
abbrev cX9_putBlock : ByteArray := prog_11_method_47_code
def yX9_putBlock : MethodName := ⟨RX9, "putBlock", "(I)V"⟩
abbrev cX9_writePacket : ByteArray := prog_11_method_48_code
def yX9_writePacket : MethodName := ⟨RX9, "writePacket", "(II)Z"⟩
abbrev cX9_writeAll : ByteArray := prog_11_method_49_code
def yX9_writeAll : MethodName := ⟨RX9, "writeAll", "(I)I"⟩
abbrev cX9_commit : ByteArray := prog_11_method_50_code
def yX9_commit : MethodName := ⟨RX9, "commit", "()V"⟩
abbrev cX9_syncNow : ByteArray := prog_11_method_51_code
def yX9_syncNow : MethodName := ⟨RX9, "syncNow", "()I"⟩
abbrev cX9_wouldWrite : ByteArray := prog_11_method_52_code
def yX9_wouldWrite : MethodName := ⟨RX9, "wouldWrite", "()I"⟩
abbrev cX9_tearNow : ByteArray := prog_11_method_53_code
def yX9_tearNow : MethodName := ⟨RX9, "tearNow", "(I)V"⟩
abbrev cX9_meet : ByteArray := prog_11_method_54_code
def yX9_meet : MethodName := ⟨RX9, "meet", "(I)V"⟩
abbrev cX9_goodMaps : ByteArray := prog_11_method_55_code
def yX9_goodMaps : MethodName := ⟨RX9, "goodMaps", "()I"⟩
abbrev cX9_chain : ByteArray := prog_11_method_56_code
def yX9_chain : MethodName := ⟨RX9, "chain", "()I"⟩
abbrev cX9_dead : ByteArray := prog_11_method_57_code
def yX9_dead : MethodName := ⟨RX9, "dead", "()I"⟩
abbrev cX9_badMany : ByteArray := prog_11_method_58_code
def yX9_badMany : MethodName := ⟨RX9, "badMany", "()I"⟩
abbrev cX9_count : ByteArray := prog_11_method_59_code
def yX9_count : MethodName := ⟨RX9, "count", "(I)I"⟩
abbrev cX9_isBlock : ByteArray := prog_11_method_60_code
def yX9_isBlock : MethodName := ⟨RX9, "isBlock", "(I)Z"⟩
abbrev cX9_block : ByteArray := prog_11_method_61_code
def yX9_block : MethodName := ⟨RX9, "block", "(II)I"⟩
abbrev cX9_tells : ByteArray := prog_11_method_62_code
def yX9_tells : MethodName := ⟨RX9, "tells", "(II)I"⟩
abbrev cX9_isName : ByteArray := prog_11_method_63_code
def yX9_isName : MethodName := ⟨RX9, "isName", "(I)Z"⟩
abbrev cX9_isFile : ByteArray := prog_11_method_64_code
def yX9_isFile : MethodName := ⟨RX9, "isFile", "(I)Z"⟩
abbrev cX9_file : ByteArray := prog_11_method_65_code
def yX9_file : MethodName := ⟨RX9, "file", "(II)I"⟩
abbrev cX9_read : ByteArray := prog_11_method_66_code
def yX9_read : MethodName := ⟨RX9, "read", "(II)I"⟩
abbrev cX9_whereOf : ByteArray := prog_11_method_67_code
def yX9_whereOf : MethodName := ⟨RX9, "whereOf", "(II)I"⟩
abbrev cX9_lie : ByteArray := prog_11_method_68_code
def yX9_lie : MethodName := ⟨RX9, "lie", "(II)I"⟩
abbrev cX9_mapBack : ByteArray := prog_11_method_69_code
def yX9_mapBack : MethodName := ⟨RX9, "mapBack", "(I)I"⟩
abbrev cX9_past : ByteArray := prog_11_method_70_code
def yX9_past : MethodName := ⟨RX9, "past", "(III)I"⟩
abbrev cX9_areAlike : ByteArray := prog_11_method_71_code
def yX9_areAlike : MethodName := ⟨RX9, "areAlike", "(II)Z"⟩
abbrev cX9_versions : ByteArray := prog_11_method_72_code
def yX9_versions : MethodName := ⟨RX9, "versions", "(I)I"⟩
abbrev cX9_since : ByteArray := prog_11_method_73_code
def yX9_since : MethodName := ⟨RX9, "since", "(III)I"⟩
abbrev cX9_isAsInMind : ByteArray := prog_11_method_74_code
def yX9_isAsInMind : MethodName := ⟨RX9, "isAsInMind", "(II)Z"⟩
abbrev cX9_alike : ByteArray := prog_11_method_75_code
def yX9_alike : MethodName := ⟨RX9, "alike", "(I)I"⟩
abbrev cX9_refuse : ByteArray := prog_11_method_76_code
def yX9_refuse : MethodName := ⟨RX9, "refuse", "()I"⟩
abbrev cX9_copyTo : ByteArray := prog_11_method_77_code
def yX9_copyTo : MethodName := ⟨RX9, "copyTo", "([I[I)V"⟩
abbrev cX9_keep : ByteArray := prog_11_method_78_code
def yX9_keep : MethodName := ⟨RX9, "keep", "()V"⟩
abbrev cX9_freeVirtual : ByteArray := prog_11_method_79_code
def yX9_freeVirtual : MethodName := ⟨RX9, "freeVirtual", "()I"⟩
abbrev cX9_canSet : ByteArray := prog_11_method_80_code
def yX9_canSet : MethodName := ⟨RX9, "canSet", "(III)Z"⟩
abbrev cX9_beginFile : ByteArray := prog_11_method_81_code
def yX9_beginFile : MethodName := ⟨RX9, "beginFile", "(I)V"⟩
abbrev cX9_setNow : ByteArray := prog_11_method_82_code
def yX9_setNow : MethodName := ⟨RX9, "setNow", "(III)V"⟩
abbrev cX9_set : ByteArray := prog_11_method_83_code
def yX9_set : MethodName := ⟨RX9, "set", "(III)I"⟩
abbrev cX9_cut : ByteArray := prog_11_method_84_code
def yX9_cut : MethodName := ⟨RX9, "cut", "(II)I"⟩
abbrev cX9_eraseNow : ByteArray := prog_11_method_85_code
def yX9_eraseNow : MethodName := ⟨RX9, "eraseNow", "(I)V"⟩
abbrev cX9_erase : ByteArray := prog_11_method_86_code
def yX9_erase : MethodName := ⟨RX9, "erase", "(I)I"⟩
abbrev cX9_canName : ByteArray := prog_11_method_87_code
def yX9_canName : MethodName := ⟨RX9, "canName", "(II)Z"⟩
abbrev cX9_likeCells : ByteArray := prog_11_method_88_code
def yX9_likeCells : MethodName := ⟨RX9, "likeCells", "(II)V"⟩
abbrev cX9_rename : ByteArray := prog_11_method_89_code
def yX9_rename : MethodName := ⟨RX9, "rename", "(II)Z"⟩
abbrev cX9_copy : ByteArray := prog_11_method_90_code
def yX9_copy : MethodName := ⟨RX9, "copy", "(II)I"⟩
abbrev cX9_revert : ByteArray := prog_11_method_91_code
def yX9_revert : MethodName := ⟨RX9, "revert", "(II)I"⟩
abbrev cX9_sync : ByteArray := prog_11_method_92_code
def yX9_sync : MethodName := ⟨RX9, "sync", "()I"⟩
abbrev cX9_tear : ByteArray := prog_11_method_93_code
def yX9_tear : MethodName := ⟨RX9, "tear", "(I)I"⟩
abbrev cX9_canClose : ByteArray := prog_11_method_94_code
def yX9_canClose : MethodName := ⟨RX9, "canClose", "()Z"⟩
abbrev cX9_closeNow : ByteArray := prog_11_method_95_code
def yX9_closeNow : MethodName := ⟨RX9, "closeNow", "(Z)V"⟩
abbrev cX9_close : ByteArray := prog_11_method_96_code
def yX9_close : MethodName := ⟨RX9, "close", "(Z)I"⟩
abbrev cX9_mount : ByteArray := prog_11_method_97_code
def yX9_mount : MethodName := ⟨RX9, "mount", "(I)I"⟩
abbrev cX9_undo : ByteArray := prog_11_method_98_code
def yX9_undo : MethodName := ⟨RX9, "undo", "()I"⟩
abbrev cX9_costOf : ByteArray := prog_11_method_99_code
def yX9_costOf : MethodName := ⟨RX9, "costOf", "(II)I"⟩
abbrev cX9_things : ByteArray := prog_11_method_100_code
def yX9_things : MethodName := ⟨RX9, "things", "()I"⟩
abbrev cX9_cost : ByteArray := prog_11_method_101_code
def yX9_cost : MethodName := ⟨RX9, "cost", "(I)I"⟩
abbrev cX9_apart : ByteArray := prog_11_method_102_code
def yX9_apart : MethodName := ⟨RX9, "apart", "()I"⟩
abbrev cX9_found : ByteArray := prog_11_method_103_code
def yX9_found : MethodName := ⟨RX9, "found", "(I)I"⟩
abbrev cX9_left : ByteArray := prog_11_method_104_code
def yX9_left : MethodName := ⟨RX9, "left", "()I"⟩
abbrev cX9_endsNow : ByteArray := prog_11_method_105_code
def yX9_endsNow : MethodName := ⟨RX9, "endsNow", "()I"⟩
abbrev cX9_ends : ByteArray := prog_11_method_106_code
def yX9_ends : MethodName := ⟨RX9, "ends", "()I"⟩
abbrev cX9_toPack : ByteArray := prog_11_method_107_code
def yX9_toPack : MethodName := ⟨RX9, "toPack", "(I)I"⟩
abbrev cX9_guess : ByteArray := prog_11_method_108_code
def yX9_guess : MethodName := ⟨RX9, "guess", "(II)I"⟩
abbrev cX9_powerOf : ByteArray := prog_11_method_109_code
def yX9_powerOf : MethodName := ⟨RX9, "powerOf", "(II)J"⟩
abbrev cX9_storms : ByteArray := prog_11_method_110_code
def yX9_storms : MethodName := ⟨RX9, "storms", "(II)J"⟩
abbrev cX9_draw : ByteArray := prog_11_method_111_code
def yX9_draw : MethodName := ⟨RX9, "draw", "(I)I"⟩
abbrev cX9_happen : ByteArray := prog_11_method_112_code
def yX9_happen : MethodName := ⟨RX9, "happen", "()V"⟩
abbrev cX9_years : ByteArray := prog_11_method_113_code
def yX9_years : MethodName := ⟨RX9, "years", "(III)I"⟩
abbrev cX9_image : ByteArray := prog_11_method_114_code
def yX9_image : MethodName := ⟨RX9, "image", "()V"⟩
abbrev cX9_restore : ByteArray := prog_11_method_115_code
def yX9_restore : MethodName := ⟨RX9, "restore", "()Z"⟩
def RJx145de : String := "java/io/Serializable"
def TJx145de : u_T := fun k => match k with
  | _ => ("", "", "", false)
def tyJx145de : Nat → FieldType := fun k => match k with
  | _ => .int
abbrev wsJx145de0 : List Cond := u_ws RJx145de TJx145de 0
theorem nmJx145de : ∀ a, a < 0 → ∀ b, b < 0 → a ≠ b → (TJx145de a).2.1 ≠ (TJx145de b).2.1 := by decide +kernel
theorem tyJx145de_ok : ∀ k, k < 0 → parseFieldDescriptor (TJx145de k).2.2.1 = some (tyJx145de k) := by decide +kernel
def RJx9f9b0 : String := "java/lang/CharSequence"
def TJx9f9b0 : u_T := fun k => match k with
  | _ => ("", "", "", false)
def tyJx9f9b0 : Nat → FieldType := fun k => match k with
  | _ => .int
abbrev wsJx9f9b00 : List Cond := u_ws RJx9f9b0 TJx9f9b0 0
theorem nmJx9f9b0 : ∀ a, a < 0 → ∀ b, b < 0 → a ≠ b → (TJx9f9b0 a).2.1 ≠ (TJx9f9b0 b).2.1 := by decide +kernel
theorem tyJx9f9b0_ok : ∀ k, k < 0 → parseFieldDescriptor (TJx9f9b0 k).2.2.1 = some (tyJx9f9b0 k) := by decide +kernel
def RJxb160c : String := "java/lang/Comparable"
def TJxb160c : u_T := fun k => match k with
  | _ => ("", "", "", false)
def tyJxb160c : Nat → FieldType := fun k => match k with
  | _ => .int
abbrev wsJxb160c0 : List Cond := u_ws RJxb160c TJxb160c 0
theorem nmJxb160c : ∀ a, a < 0 → ∀ b, b < 0 → a ≠ b → (TJxb160c a).2.1 ≠ (TJxb160c b).2.1 := by decide +kernel
theorem tyJxb160c_ok : ∀ k, k < 0 → parseFieldDescriptor (TJxb160c k).2.2.1 = some (tyJxb160c k) := by decide +kernel
def RJ9 : String := "java/lang/Math"
def TJ9 : u_T := fun k => match k with
  | _ => ("", "", "", false)
def tyJ9 : Nat → FieldType := fun k => match k with
  | _ => .int
abbrev wsJ90 : List Cond := u_ws RJ9 TJ9 0
theorem nmJ9 : ∀ a, a < 0 → ∀ b, b < 0 → a ≠ b → (TJ9 a).2.1 ≠ (TJ9 b).2.1 := by decide +kernel
theorem tyJ9_ok : ∀ k, k < 0 → parseFieldDescriptor (TJ9 k).2.2.1 = some (tyJ9 k) := by decide +kernel
abbrev cJ9_abs_0f7a4 : ByteArray := prog_17_method_59_code
def yJ9_abs_0f7a4 : MethodName := ⟨RJ9, "abs", "(I)I"⟩
abbrev cJ9_max_7cf53 : ByteArray := prog_17_method_65_code
def yJ9_max_7cf53 : MethodName := ⟨RJ9, "max", "(II)I"⟩
abbrev cJ9_min_7cf53 : ByteArray := prog_17_method_69_code
def yJ9_min_7cf53 : MethodName := ⟨RJ9, "min", "(II)I"⟩
def RJ0 : String := "java/lang/String"
def TJ0 : u_T := fun k => match k with
  | _ => ("", "", "", false)
def tyJ0 : Nat → FieldType := fun k => match k with
  | _ => .int
abbrev wsJ00 : List Cond := u_ws RJ0 TJ0 0
theorem nmJ0 : ∀ a, a < 0 → ∀ b, b < 0 → a ≠ b → (TJ0 a).2.1 ≠ (TJ0 b).2.1 := by decide +kernel
theorem tyJ0_ok : ∀ k, k < 0 → parseFieldDescriptor (TJ0 k).2.2.1 = some (tyJ0 k) := by decide +kernel
abbrev cJ0_length_8abf5 : ByteArray := prog_19_method_54_code
def yJ0_length_8abf5 : MethodName := ⟨RJ0, "length", "()I"⟩
abbrev cJ0_charAt_5068e : ByteArray := prog_19_method_56_code
def yJ0_charAt_5068e : MethodName := ⟨RJ0, "charAt", "(I)C"⟩
abbrev cJ0_coder_7d493 : ByteArray := prog_19_method_152_code
def yJ0_coder_7d493 : MethodName := ⟨RJ0, "coder", "()B"⟩
abbrev cJ0_isLatin1_aae02 : ByteArray := prog_19_method_154_code
def yJ0_isLatin1_aae02 : MethodName := ⟨RJ0, "isLatin1", "()Z"⟩
abbrev cJ0_checkIndex_df160 : ByteArray := prog_19_method_155_code
def yJ0_checkIndex_df160 : MethodName := ⟨RJ0, "checkIndex", "(II)V"⟩
def RJ1 : String := "java/lang/StringLatin1"
def TJ1 : u_T := fun k => match k with
  | _ => ("", "", "", false)
def tyJ1 : Nat → FieldType := fun k => match k with
  | _ => .int
abbrev wsJ10 : List Cond := u_ws RJ1 TJ1 0
theorem nmJ1 : ∀ a, a < 0 → ∀ b, b < 0 → a ≠ b → (TJ1 a).2.1 ≠ (TJ1 b).2.1 := by decide +kernel
theorem tyJ1_ok : ∀ k, k < 0 → parseFieldDescriptor (TJ1 k).2.2.1 = some (tyJ1 k) := by decide +kernel
abbrev cJ1_charAt_3b067 : ByteArray := prog_20_method_2_code
def yJ1_charAt_3b067 : MethodName := ⟨RJ1, "charAt", "([BI)C"⟩
def RJ2 : String := "java/lang/StringUTF16"
def TJ2 : u_T := fun k => match k with
  | _ => ("", "", "", false)
def tyJ2 : Nat → FieldType := fun k => match k with
  | _ => .int
abbrev wsJ20 : List Cond := u_ws RJ2 TJ2 0
theorem nmJ2 : ∀ a, a < 0 → ∀ b, b < 0 → a ≠ b → (TJ2 a).2.1 ≠ (TJ2 b).2.1 := by decide +kernel
theorem tyJ2_ok : ∀ k, k < 0 → parseFieldDescriptor (TJ2 k).2.2.1 = some (tyJ2 k) := by decide +kernel
abbrev cJ2_getChar_3b067 : ByteArray := prog_21_method_5_code
def yJ2_getChar_3b067 : MethodName := ⟨RJ2, "getChar", "([BI)C"⟩
abbrev cJ2_length_9d52b : ByteArray := prog_21_method_6_code
def yJ2_length_9d52b : MethodName := ⟨RJ2, "length", "([B)I"⟩
abbrev cJ2_charAt_3b067 : ByteArray := prog_21_method_83_code
def yJ2_charAt_3b067 : MethodName := ⟨RJ2, "charAt", "([BI)C"⟩
abbrev cJ2_checkIndex_2214a : ByteArray := prog_21_method_91_code
def yJ2_checkIndex_2214a : MethodName := ⟨RJ2, "checkIndex", "(I[B)V"⟩
def RJ10 : String := "java/lang/System"
def TJ10 : u_T := fun k => match k with
  | _ => ("", "", "", false)
def tyJ10 : Nat → FieldType := fun k => match k with
  | _ => .int
abbrev wsJ100 : List Cond := u_ws RJ10 TJ10 0
theorem nmJ10 : ∀ a, a < 0 → ∀ b, b < 0 → a ≠ b → (TJ10 a).2.1 ≠ (TJ10 b).2.1 := by decide +kernel
theorem tyJ10_ok : ∀ k, k < 0 → parseFieldDescriptor (TJ10 k).2.2.1 = some (tyJ10 k) := by decide +kernel
def RJxfd54e : String := "java/lang/constant/Constable"
def TJxfd54e : u_T := fun k => match k with
  | _ => ("", "", "", false)
def tyJxfd54e : Nat → FieldType := fun k => match k with
  | _ => .int
abbrev wsJxfd54e0 : List Cond := u_ws RJxfd54e TJxfd54e 0
theorem nmJxfd54e : ∀ a, a < 0 → ∀ b, b < 0 → a ≠ b → (TJxfd54e a).2.1 ≠ (TJxfd54e b).2.1 := by decide +kernel
theorem tyJxfd54e_ok : ∀ k, k < 0 → parseFieldDescriptor (TJxfd54e k).2.2.1 = some (tyJxfd54e k) := by decide +kernel
def RJx3cf43 : String := "java/lang/constant/ConstantDesc"
def TJx3cf43 : u_T := fun k => match k with
  | _ => ("", "", "", false)
def tyJx3cf43 : Nat → FieldType := fun k => match k with
  | _ => .int
abbrev wsJx3cf430 : List Cond := u_ws RJx3cf43 TJx3cf43 0
theorem nmJx3cf43 : ∀ a, a < 0 → ∀ b, b < 0 → a ≠ b → (TJx3cf43 a).2.1 ≠ (TJx3cf43 b).2.1 := by decide +kernel
theorem tyJx3cf43_ok : ∀ k, k < 0 → parseFieldDescriptor (TJx3cf43 k).2.2.1 = some (tyJx3cf43 k) := by decide +kernel
def RJ7 : String := "java/util/Arrays"
def TJ7 : u_T := fun k => match k with
  | _ => ("", "", "", false)
def tyJ7 : Nat → FieldType := fun k => match k with
  | _ => .int
abbrev wsJ70 : List Cond := u_ws RJ7 TJ7 0
theorem nmJ7 : ∀ a, a < 0 → ∀ b, b < 0 → a ≠ b → (TJ7 a).2.1 ≠ (TJ7 b).2.1 := by decide +kernel
theorem tyJ7_ok : ∀ k, k < 0 → parseFieldDescriptor (TJ7 k).2.2.1 = some (tyJ7 k) := by decide +kernel
abbrev cJ7_fill_53178 : ByteArray := prog_26_method_103_code
def yJ7_fill_53178 : MethodName := ⟨RJ7, "fill", "([II)V"⟩
def RJ3 : String := "jdk/internal/util/Preconditions"
def TJ3 : u_T := fun k => match k with
  | _ => ("", "", "", false)
def tyJ3 : Nat → FieldType := fun k => match k with
  | _ => .int
abbrev wsJ30 : List Cond := u_ws RJ3 TJ3 0
theorem nmJ3 : ∀ a, a < 0 → ∀ b, b < 0 → a ≠ b → (TJ3 a).2.1 ≠ (TJ3 b).2.1 := by decide +kernel
theorem tyJ3_ok : ∀ k, k < 0 → parseFieldDescriptor (TJ3 k).2.2.1 = some (tyJ3 k) := by decide +kernel
abbrev cJ3_checkIndex_8e157 : ByteArray := prog_28_method_11_code
def yJ3_checkIndex_8e157 : MethodName := ⟨RJ3, "checkIndex", "(IILjava/util/function/BiFunction;)I"⟩
def RL : String := "OnceVolumeLaw"
abbrev cL_disc : ByteArray := method_3_code
def yL_disc : MethodName := ⟨RL, "disc", "(LOnceVolume;I[J)I"⟩
abbrev cL_count : ByteArray := method_4_code
def yL_count : MethodName := ⟨RL, "count", "(LOnceVolume;I[J)I"⟩
abbrev cL_block : ByteArray := method_5_code
def yL_block : MethodName := ⟨RL, "block", "(LOnceVolume;II[J)I"⟩
abbrev cL_tells : ByteArray := method_6_code
def yL_tells : MethodName := ⟨RL, "tells", "(LOnceVolume;II[J)I"⟩
abbrev cL_file : ByteArray := method_7_code
def yL_file : MethodName := ⟨RL, "file", "(LOnceVolume;II[J)I"⟩
abbrev cL_lie : ByteArray := method_8_code
def yL_lie : MethodName := ⟨RL, "lie", "(LOnceVolume;II[J)I"⟩
abbrev cL_read : ByteArray := method_9_code
def yL_read : MethodName := ⟨RL, "read", "(LOnceVolume;II[J)I"⟩
abbrev cL_past : ByteArray := method_10_code
def yL_past : MethodName := ⟨RL, "past", "(LOnceVolume;III[J)I"⟩
abbrev cL_versions : ByteArray := method_11_code
def yL_versions : MethodName := ⟨RL, "versions", "(LOnceVolume;I[J)I"⟩
abbrev cL_since : ByteArray := method_12_code
def yL_since : MethodName := ⟨RL, "since", "(LOnceVolume;III[J)I"⟩
abbrev cL_alike : ByteArray := method_13_code
def yL_alike : MethodName := ⟨RL, "alike", "(LOnceVolume;I[J)I"⟩
abbrev cL_cost : ByteArray := method_14_code
def yL_cost : MethodName := ⟨RL, "cost", "(LOnceVolume;I[J)I"⟩
abbrev cL_found : ByteArray := method_15_code
def yL_found : MethodName := ⟨RL, "found", "(LOnceVolume;I[J)I"⟩
abbrev cL_toPack : ByteArray := method_16_code
def yL_toPack : MethodName := ⟨RL, "toPack", "(LOnceVolume;I[J)I"⟩
abbrev cL_guess : ByteArray := method_17_code
def yL_guess : MethodName := ⟨RL, "guess", "(LOnceVolume;II[J)I"⟩
abbrev cL_storms : ByteArray := method_18_code
def yL_storms : MethodName := ⟨RL, "storms", "(LOnceVolume;II[J)I"⟩
abbrev cL_years : ByteArray := method_19_code
def yL_years : MethodName := ⟨RL, "years", "(LOnceVolume;III[J)I"⟩
abbrev cL_law : ByteArray := code
def yL_law : MethodName := ⟨RL, "law", "([I)Z"⟩
end
section
/-! THE PLAIN MACHINE: numbers are Int, a heap is plain tables (kinds, references, ints, longs; how many cells are kept, made, how many slots); one step a call of cm_do. -/
abbrev cm_V : Type := Int ⊕ (Int64 ⊕ Nat)
abbrev cm_L : Type := List (Option cm_V)
abbrev cm_H : Type := (Nat → Nat × Nat) × (Nat → Int → Nat) × (Nat → Int → Int) × (Nat → Int → Int64) × Nat × Nat × Nat
abbrev cm_R : Type := Option ((Option cm_V ⊕ Nat) × cm_H)
abbrev cm_K : Type := Nat → Nat → cm_L → List cm_V → cm_H → cm_R
abbrev cm_E : Type := Instr × Nat × Nat × Nat × Nat
/-- an int that wraps -/
def cm_wr (x : Int) : Int := (x + 2147483648) % 4294967296 - 2147483648
def cm_u1 {α : Type} (g : Int → α) (i : Int) (v : α) : Int → α := fun j => if j = i then v else g j
def cm_up {α : Type} (f : Nat → Int → α) (a : Nat) (i : Int) (v : α) : Nat → Int → α := fun b => if b = a then cm_u1 (f a) i v else f b
def cm_ua {α : Type} (f : Nat → α) (a : Nat) (g : α) : Nat → α := fun b => if b = a then g else f b
def cm_cp (f g : Int → Int) (sp dp n : Int) : Int → Int := fun j => if dp ≤ j ∧ j < dp + n then f (sp + (j - dp)) else g j
def cm_sI (h : cm_H) (a : Nat) (i v : Int) : cm_H := (h.1, h.2.1, cm_up h.2.2.1 a i v, h.2.2.2)
def cm_sA (h : cm_H) (a : Nat) (g : Int → Int) : cm_H := (h.1, h.2.1, cm_ua h.2.2.1 a g, h.2.2.2)
def cm_sR (h : cm_H) (a : Nat) (i : Int) (v : Nat) : cm_H := (h.1, cm_up h.2.1 a i v, h.2.2)
def cm_sJ (h : cm_H) (a : Nat) (i : Int) (v : Int64) : cm_H := (h.1, h.2.1, h.2.2.1, cm_up h.2.2.2.1 a i v, h.2.2.2.2)
/-- a cell is made: of a kind, with so many slots -/
def cm_mk (h : cm_H) (kd : Nat × Nat) (n : Nat) : cm_H :=
  (cm_ua h.1 h.2.2.2.2.1 kd, cm_ua h.2.1 h.2.2.2.2.1 (fun _ => 400000), cm_ua h.2.2.1 h.2.2.2.2.1 (fun _ => 0), cm_ua h.2.2.2.1 h.2.2.2.2.1 (fun _ => 0), h.2.2.2.2.1 + 1, h.2.2.2.2.2.1 + 1, h.2.2.2.2.2.2 + n)
/-- an exception is made -/
def cm_ex (h : cm_H) : cm_H := (h.1, h.2.1, h.2.2.1, h.2.2.2.1, h.2.2.2.2.1, h.2.2.2.2.2.1 + 1, h.2.2.2.2.2.2 + 6)
def cm_ck (p : Prop) [Decidable p] (r : cm_R) : cm_R := if p then r else none
/-- behind a call -/
def cm_bd (r : cm_R) (f0 : cm_H → cm_R) (f1 : cm_V → cm_H → cm_R) (fx : Nat → cm_H → cm_R) : cm_R := match r with
  | none => none
  | some (.inl none, h) => f0 h
  | some (.inl (some v), h) => f1 v h
  | some (.inr e, h) => fx e h
def cm_cat (v : cm_V) : Nat := match v with
  | .inr (.inl _) => 2
  | _ => 1
def cm_wd (st : List cm_V) : Nat := (st.map cm_cat).sum
def cm_ild (ls : cm_L) (i : Nat) (k : cm_V → cm_R) : cm_R := match ls[i]? with
  | some (some (.inl x)) => k (.inl x)
  | _ => none
def cm_lld (ls : cm_L) (i : Nat) (k : cm_V → cm_R) : cm_R := match ls[i]? with
  | some (some (.inr (.inl x))) => k (.inr (.inl x))
  | _ => none
def cm_ald (ls : cm_L) (i : Nat) (k : cm_V → cm_R) : cm_R := match ls[i]? with
  | some (some (.inr (.inr x))) => k (.inr (.inr x))
  | _ => none
/-- a long one ahead of place i is gone -/
def cm_kl (ls : cm_L) (i : Nat) : cm_L := match i with
  | 0 => ls
  | j + 1 => match ls[j]? with
    | some (some (.inr (.inl _))) => ls.set j none
    | _ => ls
def cm_ist (ls : cm_L) (i : Nat) (st : List cm_V) (k : cm_L → List cm_V → cm_R) : cm_R := match st with
  | .inl x :: st => if i < ls.length then k ((cm_kl ls i).set i (some (.inl x))) st else none
  | _ => none
def cm_ast (ls : cm_L) (i : Nat) (st : List cm_V) (k : cm_L → List cm_V → cm_R) : cm_R := match st with
  | .inr (.inr x) :: st => if i < ls.length then k ((cm_kl ls i).set i (some (.inr (.inr x)))) st else none
  | _ => none
def cm_lst (ls : cm_L) (i : Nat) (st : List cm_V) (k : cm_L → List cm_V → cm_R) : cm_R := match st with
  | .inr (.inl x) :: st => if i + 1 < ls.length then k (((cm_kl ls i).set i (some (.inr (.inl x)))).set (i + 1) none) st else none
  | _ => none
def cm_inc (ls : cm_L) (i : Nat) (n : Int) (k : cm_L → cm_R) : cm_R := match ls[i]? with
  | some (some (.inl x)) => k (ls.set i (some (.inl (cm_wr (x + n)))))
  | _ => none
def cm_i2 (f : Int → Int → Int) (st : List cm_V) (k : List cm_V → cm_R) : cm_R := match st with
  | .inl b :: .inl a :: st => k (.inl (f a b) :: st)
  | _ => none
def cm_l2 (f : Int64 → Int64 → Int64) (st : List cm_V) (k : List cm_V → cm_R) : cm_R := match st with
  | .inr (.inl b) :: .inr (.inl a) :: st => k (.inr (.inl (f a b)) :: st)
  | _ => none
def cm_and (a b : Int) : Int := (Int32.ofInt a &&& Int32.ofInt b).toInt
def cm_or (a b : Int) : Int := (Int32.ofInt a ||| Int32.ofInt b).toInt
def cm_shl (a b : Int) : Int := (Int32.ofInt a <<< (Int32.ofInt b &&& 31)).toInt
def cm_shr (a b : Int) : Int := (Int32.ofInt a >>> (Int32.ofInt b &&& 31)).toInt
def cm_ushr (a b : Int) : Int := ((Int32.ofInt a).toUInt32 >>> ((Int32.ofInt b).toUInt32 &&& Int32.toUInt32 31)).toInt32.toInt
def cm_dv (st : List cm_V) (k : List cm_V → cm_R) : cm_R := match st with
  | .inl b :: .inl a :: st => cm_ck (b ≠ 0) (k (.inl (cm_wr (a.tdiv b)) :: st))
  | _ => none
def cm_rm (st : List cm_V) (k : List cm_V → cm_R) : cm_R := match st with
  | .inl b :: .inl a :: st => cm_ck (b ≠ 0) (k (.inl (a.tmod b) :: st))
  | _ => none
def cm_ldv (st : List cm_V) (k : List cm_V → cm_R) : cm_R := match st with
  | .inr (.inl b) :: .inr (.inl a) :: st => cm_ck (b ≠ 0) (k (.inr (.inl (a / b)) :: st))
  | _ => none
def cm_lc (a b : Int64) : Int := if a = b then 0 else if a < b then -1 else 1
def cm_lcm (st : List cm_V) (k : List cm_V → cm_R) : cm_R := match st with
  | .inr (.inl b) :: .inr (.inl a) :: st => k (.inl (cm_lc a b) :: st)
  | _ => none
def cm_i2l (st : List cm_V) (k : List cm_V → cm_R) : cm_R := match st with
  | .inl a :: st => k (.inr (.inl (Int64.ofInt a)) :: st)
  | _ => none
def cm_dup (st : List cm_V) (k : List cm_V → cm_R) : cm_R := match st with
  | .inl a :: st => k (.inl a :: .inl a :: st)
  | .inr (.inr a) :: st => k (.inr (.inr a) :: .inr (.inr a) :: st)
  | _ => none
def cm_pop (st : List cm_V) (k : List cm_V → cm_R) : cm_R := match st with
  | .inl _ :: st => k st
  | .inr (.inr _) :: st => k st
  | _ => none
/-- an int over a reference, twice -/
def cm_dp2 (st : List cm_V) (k : List cm_V → cm_R) : cm_R := match st with
  | .inl b :: .inr (.inr a) :: st => k (.inl b :: .inr (.inr a) :: .inl b :: .inr (.inr a) :: st)
  | _ => none
def cm_br (c : ClassFile.Cond) (a b : Int) (t e : cm_R) : cm_R := match c with
  | .eq => if a = b then t else e
  | .ne => if a = b then e else t
  | .lt => if a < b then t else e
  | .ge => if a < b then e else t
  | .gt => if b < a then t else e
  | .le => if b < a then e else t
def cm_if1 (c : ClassFile.Cond) (st : List cm_V) (t e : List cm_V → cm_R) : cm_R := match st with
  | .inl a :: st => cm_br c a 0 (t st) (e st)
  | _ => none
def cm_if2 (c : ClassFile.Cond) (st : List cm_V) (t e : List cm_V → cm_R) : cm_R := match st with
  | .inl b :: .inl a :: st => cm_br c a b (t st) (e st)
  | _ => none
def cm_tgt (pc : Nat) (off : Int) : Nat := ((pc : Int) + off).toNat
def cm_tsw (offs : List Int) (x at_ : Int) (d : cm_R) (j : Int → cm_R) : cm_R := match offs with
  | [] => d
  | o :: os => if x = at_ then j o else cm_tsw os x (at_ + 1) d j
def cm_lsw (ps : List (Int × Int)) (x : Int) (d : cm_R) (j : Int → cm_R) : cm_R := match ps with
  | [] => d
  | o :: os => if x = o.1 then j o.2 else cm_lsw os x d j
def cm_kd (h : cm_H) (a t n : Nat) : Bool := (h.1 a).1 == t && (h.1 a).2 == n
def cm_gf (h : cm_H) (t ci f : Nat) (st : List cm_V) (k : List cm_V → cm_R) : cm_R := match st with
  | .inr (.inr a) :: st => match cm_kd h a 0 ci with
    | true => match t with
      | 2 => match (h.2.1 a (f : Int)).blt 300000 with
        | true => k (.inr (.inr (h.2.1 a (f : Int))) :: st)
        | false => none
      | _ => k (.inl (h.2.2.1 a (f : Int)) :: st)
    | false => none
  | _ => none
def cm_pf (h : cm_H) (t ci f : Nat) (st : List cm_V) (k : List cm_V → cm_H → cm_R) : cm_R := match st with
  | .inl v :: .inr (.inr a) :: st => match cm_kd h a 0 ci with
    | true => match t with
      | 0 => k st (cm_sI h a (f : Int) v)
      | 1 => cm_ck (v = 0 ∨ v = 1) (k st (cm_sI h a (f : Int) v))
      | _ => none
    | false => none
  | .inr (.inr v) :: .inr (.inr a) :: st => match cm_kd h a 0 ci with
    | true => match t with
      | 2 => match v.blt h.2.2.2.2.1 with
        | true => k st (cm_sR h a (f : Int) v)
        | false => none
      | _ => none
    | false => none
  | _ => none
/-- of a row: its kind's number is t -/
def cm_al (h : cm_H) (t : Nat) (st : List cm_V) (k : List cm_V → cm_R) : cm_R := match st with
  | .inl i :: .inr (.inr a) :: st => match (h.1 a).1 == t with
    | true => cm_ck (0 ≤ i ∧ i < ((h.1 a).2 : Int)) (k (.inl (h.2.2.1 a i) :: st))
    | false => none
  | _ => none
def cm_as (h : cm_H) (t : Nat) (st : List cm_V) (k : List cm_V → cm_H → cm_R) : cm_R := match st with
  | .inl v :: .inl i :: .inr (.inr a) :: st => match (h.1 a).1 == t && a.blt h.2.2.2.2.1 with
    | true => cm_ck (0 ≤ i ∧ i < ((h.1 a).2 : Int)) (k st (cm_sI h a i (match t with
      | 2 => v % 2
      | _ => v)))
    | false => none
  | _ => none
def cm_jl (h : cm_H) (st : List cm_V) (k : List cm_V → cm_R) : cm_R := match st with
  | .inl i :: .inr (.inr a) :: st => match (h.1 a).1 == 3 with
    | true => cm_ck (0 ≤ i ∧ i < ((h.1 a).2 : Int)) (k (.inr (.inl (h.2.2.2.1 a i)) :: st))
    | false => none
  | _ => none
def cm_js (h : cm_H) (st : List cm_V) (k : List cm_V → cm_H → cm_R) : cm_R := match st with
  | .inr (.inl v) :: .inl i :: .inr (.inr a) :: st => match (h.1 a).1 == 3 with
    | true => cm_ck (0 ≤ i ∧ i < ((h.1 a).2 : Int)) (k st (cm_sJ h a i v))
    | false => none
  | _ => none
def cm_rl (h : cm_H) (st : List cm_V) (k : List cm_V → cm_R) : cm_R := match st with
  | .inl i :: .inr (.inr a) :: st => match (h.1 a).1 == 4 with
    | true => cm_ck (0 ≤ i ∧ i < ((h.1 a).2 : Int)) (cm_ck (h.2.1 a i < 300000) (k (.inr (.inr (h.2.1 a i)) :: st)))
    | false => none
  | _ => none
def cm_rs (h : cm_H) (st : List cm_V) (k : List cm_V → cm_H → cm_R) : cm_R := match st with
  | .inr (.inr v) :: .inl i :: .inr (.inr a) :: st => match (h.1 a).1 == 4 && cm_kd h v 0 6 with
    | true => cm_ck (0 ≤ i ∧ i < ((h.1 a).2 : Int)) (k st (cm_sR h a i v))
    | false => none
  | _ => none
def cm_ln (h : cm_H) (st : List cm_V) (k : List cm_V → cm_R) : cm_R := match st with
  | .inr (.inr a) :: st => match (h.1 a).1 == 1 with
    | true => k (.inl ((h.1 a).2 : Int) :: st)
    | false => none
  | _ => none
/-- a row of n places is made; a kind's number t -/
def cm_na (h : cm_H) (t : Nat) (st : List cm_V) (k : List cm_V → cm_H → cm_R) : cm_R := match st with
  | .inl n :: st => match h.2.2.2.2.1 == h.2.2.2.2.2.1 && h.2.2.2.2.1.blt 99999 with
    | true => cm_ck (0 ≤ n ∧ n ≤ 100000) (k (.inr (.inr h.2.2.2.2.1) :: st) (cm_mk h (t, n.toNat) n.toNat))
    | false => none
  | _ => none
def cm_nw (h : cm_H) (ci n : Nat) (st : List cm_V) (k : List cm_V → cm_H → cm_R) : cm_R := match h.2.2.2.2.1 == h.2.2.2.2.2.1 && h.2.2.2.2.1.blt 99999 with
  | true => k (.inr (.inr h.2.2.2.2.1) :: st) (cm_mk h (0, ci) n)
  | false => none
def cm_at_ (t : ArrayType) : Nat := match t with
  | .int => 1
  | .boolean => 2
  | .long => 3
  | _ => 9
def cm_cpy (h : cm_H) (st : List cm_V) (k : List cm_V → cm_H → cm_R) : cm_R := match st with
  | .inl n :: .inl dp :: .inr (.inr a) :: .inl sp :: .inr (.inr b) :: st => match (h.1 a).1 == 1 && ((h.1 b).1 == 1 && (a.blt h.2.2.2.2.1 && b.blt h.2.2.2.2.1)) with
    | true => cm_ck ((0 ≤ n ∧ 0 ≤ dp ∧ 0 ≤ sp) ∧ sp + n ≤ ((h.1 b).2 : Int) ∧ dp + n ≤ ((h.1 a).2 : Int)) (k st (cm_sA h a (cm_cp (h.2.2.1 b) (h.2.2.1 a) sp dp n)))
    | false => none
  | _ => none
/-- the texts, by their numbers -/
def cm_tx (n : Nat) : List Int := match n with
  | 0 => [100, 105, 115, 99]
  | 1 => [98, 97, 100]
  | 2 => [102, 105, 108, 101]
  | _ => []
def cm_sln (st : List cm_V) (k : List cm_V → cm_R) : cm_R := match st with
  | .inr (.inr a) :: st => match (200000).ble a && a.blt 200003 with
    | true => k (.inl ((cm_tx (a - 200000)).length : Int) :: st)
    | false => none
  | _ => none
def cm_sch (st : List cm_V) (k : List cm_V → cm_R) : cm_R := match st with
  | .inl i :: .inr (.inr a) :: st => match (200000).ble a && a.blt 200003 with
    | true => cm_ck (0 ≤ i ∧ i < ((cm_tx (a - 200000)).length : Int)) (k (.inl ((cm_tx (a - 200000)).getD i.toNat 0) :: st))
    | false => none
  | _ => none
def cm_mn (a b : Int) : Int := if b < a then b else a
def cm_mx (a b : Int) : Int := if a < b then b else a
def cm_ab (st : List cm_V) (k : List cm_V → cm_R) : cm_R := match st with
  | .inl a :: st => k (.inl (if 0 ≤ a then a else cm_wr (0 - a)) :: st)
  | _ => none
def cm_oi (st : List cm_V) (k : List cm_V → cm_R) : cm_R := match st with
  | .inr (.inr _) :: st => k st
  | _ => none
def cm_en (as_ : List cm_V) (n : Nat) : cm_L := as_.map some ++ List.replicate (n - as_.length) none
/-- a handler of a method, for a throw at pc -/
def cm_hn (hs : List (Nat × Nat × Nat × Nat)) (pc e : Nat) : Option Nat := match hs with
  | [] => none
  | (a, b, t, x) :: hs => if a ≤ pc ∧ pc < b ∧ x = e then some t else cm_hn hs pc e
/-- the places from n on are forgotten -/
def cm_fg (a : Nat) (ls : cm_L) : cm_L := match a with
  | 0 => ls
  | n + 1 => ls.take n ++ List.replicate (ls.length - n) none
/-- the receiver, below the other values of a call, is an object of the class ci -/
def cm_rc (h : cm_H) (ci : Nat) (st : List cm_V) : Bool := match st with
  | .inr (.inr a) :: _ => cm_kd h a 0 ci
  | _ => false
end
section
def cd_X0_init : List (Nat × cm_E) := [(0, .aload_n 0, 1, 0, 0, 0), (1, .invokespecial 3, 3, 1, 0, 0), (4, .aload_n 0, 1, 0, 0, 0), (5, .bipush 40, 2, 0, 0, 0), (7, .anewarray 9, 3, 0, 0, 0), (10, .putfield 11, 3, 2, 0, 0), (13, .iconst 0, 1, 0, 0, 0), (14, .istore_n 1, 1, 0, 0, 0), (15, .iload_n 1, 1, 0, 0, 0), (16, .bipush 40, 2, 0, 0, 0), (18, .if_icmp .ge 22, 3, 0, 0, 0), (21, .aload_n 0, 1, 0, 0, 0), (22, .getfield 11, 3, 2, 0, 0), (25, .iload_n 1, 1, 0, 0, 0), (26, .new 9, 3, 0, 6, 11), (29, .dup, 1, 0, 0, 0), (30, .invokespecial 17, 3, 106, 61, 1), (33, .aastore, 1, 0, 0, 0), (34, .iinc 1 1, 3, 0, 0, 0), (37, .goto (-22), 3, 3, 0, 0), (40, .return_, 1, 0, 0, 0)]
def cd_X0_forget : List (Nat × cm_E) := [(0, .aload_n 0, 1, 0, 0, 0), (1, .iconst 0, 1, 0, 0, 0), (2, .putfield 18, 3, 0, 0, 1), (5, .aload_n 0, 1, 0, 0, 0), (6, .iconst 0, 1, 0, 0, 0), (7, .putfield 22, 3, 0, 0, 2), (10, .return_, 1, 0, 0, 0)]
def cd_X0_keep : List (Nat × cm_E) := [(0, .aload_n 0, 1, 0, 0, 0), (1, .getfield 11, 3, 2, 0, 0), (4, .aload_n 0, 1, 0, 0, 0), (5, .getfield 18, 3, 0, 0, 1), (8, .aaload, 1, 0, 0, 0), (9, .aload_n 1, 1, 0, 0, 0), (10, .invokevirtual 25, 3, 106, 62, 2), (13, .aload_n 0, 1, 0, 0, 0), (14, .aload_n 0, 1, 0, 0, 0), (15, .getfield 18, 3, 0, 0, 1), (18, .iconst 1, 1, 0, 0, 0), (19, .iadd, 1, 0, 0, 0), (20, .bipush 40, 2, 0, 0, 0), (22, .if_icmp .ge 12, 3, 0, 0, 0), (25, .aload_n 0, 1, 0, 0, 0), (26, .getfield 18, 3, 0, 0, 1), (29, .iconst 1, 1, 0, 0, 0), (30, .iadd, 1, 0, 0, 0), (31, .goto 4, 3, 0, 0, 0), (34, .iconst 0, 1, 0, 0, 0), (35, .putfield 18, 3, 0, 0, 1), (38, .aload_n 0, 1, 0, 0, 0), (39, .aload_n 0, 1, 0, 0, 0), (40, .getfield 22, 3, 0, 0, 2), (43, .iconst 1, 1, 0, 0, 0), (44, .iadd, 1, 0, 0, 0), (45, .bipush 40, 2, 0, 0, 0), (47, .invokestatic 29, 3, 2, 0, 0), (50, .putfield 22, 3, 0, 0, 2), (53, .return_, 1, 0, 0, 0)]
def cd_X0_takeBack : List (Nat × cm_E) := [(0, .aload_n 0, 1, 0, 0, 0), (1, .aload_n 0, 1, 0, 0, 0), (2, .getfield 18, 3, 0, 0, 1), (5, .ifCond .le 12, 3, 0, 0, 0), (8, .aload_n 0, 1, 0, 0, 0), (9, .getfield 18, 3, 0, 0, 1), (12, .iconst 1, 1, 0, 0, 0), (13, .isub, 1, 0, 0, 0), (14, .goto 5, 3, 0, 0, 0), (17, .bipush 39, 2, 0, 0, 0), (19, .putfield 18, 3, 0, 0, 1), (22, .aload_n 1, 1, 0, 0, 0), (23, .aload_n 0, 1, 0, 0, 0), (24, .getfield 11, 3, 2, 0, 0), (27, .aload_n 0, 1, 0, 0, 0), (28, .getfield 18, 3, 0, 0, 1), (31, .aaload, 1, 0, 0, 0), (32, .invokevirtual 25, 3, 106, 62, 2), (35, .aload_n 0, 1, 0, 0, 0), (36, .dup, 1, 0, 0, 0), (37, .getfield 22, 3, 0, 0, 2), (40, .iconst 1, 1, 0, 0, 0), (41, .isub, 1, 0, 0, 0), (42, .putfield 22, 3, 0, 0, 2), (45, .return_, 1, 0, 0, 0)]
def cd_X0_takeFrom : List (Nat × cm_E) := [(0, .iconst 0, 1, 0, 0, 0), (1, .istore_n 2, 1, 0, 0, 0), (2, .iload_n 2, 1, 0, 0, 0), (3, .bipush 40, 2, 0, 0, 0), (5, .if_icmp .ge 24, 3, 0, 0, 0), (8, .aload_n 0, 1, 0, 0, 0), (9, .getfield 11, 3, 2, 0, 0), (12, .iload_n 2, 1, 0, 0, 0), (13, .aaload, 1, 0, 0, 0), (14, .aload_n 1, 1, 0, 0, 0), (15, .getfield 11, 3, 2, 0, 0), (18, .iload_n 2, 1, 0, 0, 0), (19, .aaload, 1, 0, 0, 0), (20, .invokevirtual 25, 3, 106, 62, 2), (23, .iinc 2 1, 3, 0, 0, 0), (26, .goto (-24), 3, 4, 0, 0), (29, .aload_n 0, 1, 0, 0, 0), (30, .aload_n 1, 1, 0, 0, 0), (31, .getfield 18, 3, 0, 0, 1), (34, .putfield 18, 3, 0, 0, 1), (37, .aload_n 0, 1, 0, 0, 0), (38, .aload_n 1, 1, 0, 0, 0), (39, .getfield 22, 3, 0, 0, 2), (42, .putfield 22, 3, 0, 0, 2), (45, .return_, 1, 0, 0, 0)]
def cd_X1_init : List (Nat × cm_E) := [(0, .aload_n 0, 1, 0, 0, 0), (1, .invokespecial 3, 3, 1, 0, 0), (4, .aload_n 0, 1, 0, 0, 0), (5, .bipush 126, 2, 0, 0, 0), (7, .newarray .int, 2, 0, 0, 0), (9, .putfield 9, 3, 2, 1, 0), (12, .aload_n 0, 1, 0, 0, 0), (13, .bipush 126, 2, 0, 0, 0), (15, .newarray .int, 2, 0, 0, 0), (17, .putfield 15, 3, 2, 1, 1), (20, .aload_n 0, 1, 0, 0, 0), (21, .bipush 126, 2, 0, 0, 0), (23, .newarray .int, 2, 0, 0, 0), (25, .putfield 18, 3, 2, 1, 2), (28, .return_, 1, 0, 0, 0)]
def cd_X1_plan : List (Nat × cm_E) := [(0, .aload_n 0, 1, 0, 0, 0), (1, .iconst 0, 1, 0, 0, 0), (2, .putfield 21, 3, 0, 1, 3), (5, .iconst 1, 1, 0, 0, 0), (6, .istore_n 3, 1, 0, 0, 0), (7, .iload_n 3, 1, 0, 0, 0), (8, .bipush 13, 2, 0, 0, 0), (10, .if_icmp .ge 39, 3, 0, 0, 0), (13, .aload_n 1, 1, 0, 0, 0), (14, .iload_n 3, 1, 0, 0, 0), (15, .invokevirtual 25, 3, 106, 74, 2), (18, .istore 4, 2, 0, 0, 0), (20, .iload 4, 2, 0, 0, 0), (22, .iconst (-1), 1, 0, 0, 0), (23, .if_icmp .eq 20, 3, 0, 0, 0), (26, .aload_n 1, 1, 0, 0, 0), (27, .getfield 31, 3, 2, 6, 2), (30, .iload 4, 2, 0, 0, 0), (32, .baload, 1, 0, 0, 0), (33, .ifCond .eq 10, 3, 0, 0, 0), (36, .aload_n 0, 1, 0, 0, 0), (37, .aload_n 1, 1, 0, 0, 0), (38, .iload 4, 2, 0, 0, 0), (40, .invokevirtual 35, 3, 101, 7, 3), (43, .iinc 3 1, 3, 0, 0, 0), (46, .goto (-39), 3, 5, 0, 0), (49, .aload_n 1, 1, 0, 0, 0), (50, .getfield 39, 3, 1, 6, 6), (53, .ifCond .eq 10, 3, 0, 0, 0), (56, .aload_n 0, 1, 0, 0, 0), (57, .iconst 5, 1, 0, 0, 0), (58, .iconst (-1), 1, 0, 0, 0), (59, .iconst (-1), 1, 0, 0, 0), (60, .invokevirtual 43, 3, 101, 8, 4), (63, .iload_n 2, 1, 0, 0, 0), (64, .aload_n 0, 1, 0, 0, 0), (65, .getfield 21, 3, 0, 1, 3), (68, .iconst 1, 1, 0, 0, 0), (69, .iadd, 1, 0, 0, 0), (70, .invokestatic 47, 3, 0, 151, 2), (73, .iload_n 2, 1, 0, 0, 0), (74, .imul, 1, 0, 0, 0), (75, .aload_n 0, 1, 0, 0, 0), (76, .getfield 21, 3, 0, 1, 3), (79, .isub, 1, 0, 0, 0), (80, .iconst 1, 1, 0, 0, 0), (81, .isub, 1, 0, 0, 0), (82, .istore_n 3, 1, 0, 0, 0), (83, .iconst 0, 1, 0, 0, 0), (84, .istore 4, 2, 0, 0, 0), (86, .iload 4, 2, 0, 0, 0), (88, .iload_n 3, 1, 0, 0, 0), (89, .if_icmp .ge 16, 3, 0, 0, 0), (92, .aload_n 0, 1, 0, 0, 0), (93, .iconst 2, 1, 0, 0, 0), (94, .iconst (-1), 1, 0, 0, 0), (95, .iconst (-1), 1, 0, 0, 0), (96, .invokevirtual 43, 3, 101, 8, 4), (99, .iinc 4 1, 3, 0, 0, 0), (102, .goto (-16), 3, 6, 0, 0), (105, .aload_n 0, 1, 0, 0, 0), (106, .bipush 6, 2, 0, 0, 0), (108, .iconst (-1), 1, 0, 0, 0), (109, .iconst (-1), 1, 0, 0, 0), (110, .invokevirtual 43, 3, 101, 8, 4), (113, .return_, 1, 0, 0, 0)]
def cd_X1_addFile : List (Nat × cm_E) := [(0, .iconst 0, 1, 0, 0, 0), (1, .istore_n 3, 1, 0, 0, 0), (2, .iload_n 3, 1, 0, 0, 0), (3, .aload_n 1, 1, 0, 0, 0), (4, .getfield 51, 3, 2, 6, 1), (7, .iload_n 2, 1, 0, 0, 0), (8, .iaload, 1, 0, 0, 0), (9, .if_icmp .ge 26, 3, 0, 0, 0), (12, .aload_n 1, 1, 0, 0, 0), (13, .iload_n 2, 1, 0, 0, 0), (14, .iload_n 3, 1, 0, 0, 0), (15, .invokevirtual 54, 3, 106, 71, 3), (18, .iconst (-1), 1, 0, 0, 0), (19, .if_icmp .ne 10, 3, 0, 0, 0), (22, .aload_n 0, 1, 0, 0, 0), (23, .iconst 3, 1, 0, 0, 0), (24, .iload_n 2, 1, 0, 0, 0), (25, .iload_n 3, 1, 0, 0, 0), (26, .invokevirtual 43, 3, 101, 8, 4), (29, .iinc 3 1, 3, 0, 0, 0), (32, .goto (-30), 3, 5, 0, 0), (35, .aload_n 0, 1, 0, 0, 0), (36, .iconst 4, 1, 0, 0, 0), (37, .iload_n 2, 1, 0, 0, 0), (38, .iconst (-1), 1, 0, 0, 0), (39, .invokevirtual 43, 3, 101, 8, 4), (42, .return_, 1, 0, 0, 0)]
def cd_X1_add : List (Nat × cm_E) := [(0, .aload_n 0, 1, 0, 0, 0), (1, .getfield 21, 3, 0, 1, 3), (4, .bipush 126, 2, 0, 0, 0), (6, .if_icmp .ge 43, 3, 0, 0, 0), (9, .aload_n 0, 1, 0, 0, 0), (10, .getfield 9, 3, 2, 1, 0), (13, .aload_n 0, 1, 0, 0, 0), (14, .getfield 21, 3, 0, 1, 3), (17, .iload_n 1, 1, 0, 0, 0), (18, .iastore, 1, 0, 0, 0), (19, .aload_n 0, 1, 0, 0, 0), (20, .getfield 15, 3, 2, 1, 1), (23, .aload_n 0, 1, 0, 0, 0), (24, .getfield 21, 3, 0, 1, 3), (27, .iload_n 2, 1, 0, 0, 0), (28, .iastore, 1, 0, 0, 0), (29, .aload_n 0, 1, 0, 0, 0), (30, .getfield 18, 3, 2, 1, 2), (33, .aload_n 0, 1, 0, 0, 0), (34, .getfield 21, 3, 0, 1, 3), (37, .iload_n 3, 1, 0, 0, 0), (38, .iastore, 1, 0, 0, 0), (39, .aload_n 0, 1, 0, 0, 0), (40, .dup, 1, 0, 0, 0), (41, .getfield 21, 3, 0, 1, 3), (44, .iconst 1, 1, 0, 0, 0), (45, .iadd, 1, 0, 0, 0), (46, .putfield 21, 3, 0, 1, 3), (49, .return_, 1, 0, 0, 0)]
def cd_X1_lay : List (Nat × cm_E) := [(0, .iload_n 3, 1, 0, 0, 0), (1, .istore 4, 2, 0, 0, 0), (3, .iconst 0, 1, 0, 0, 0), (4, .istore 5, 2, 0, 0, 0), (6, .iconst 0, 1, 0, 0, 0), (7, .istore 6, 2, 0, 0, 0), (9, .iload 6, 2, 0, 0, 0), (11, .sipush 400, 3, 0, 0, 0), (14, .if_icmp .ge 169, 3, 0, 0, 0), (17, .iload 5, 2, 0, 0, 0), (19, .aload_n 0, 1, 0, 0, 0), (20, .getfield 21, 3, 0, 1, 3), (23, .if_icmp .ge 160, 3, 0, 0, 0), (26, .aload_n 2, 1, 0, 0, 0), (27, .aload_n 1, 1, 0, 0, 0), (28, .getfield 57, 3, 0, 6, 9), (31, .invokevirtual 60, 3, 102, 28, 2), (34, .ifCond .ne 5, 3, 0, 0, 0), (37, .iconst 0, 1, 0, 0, 0), (38, .ireturn, 1, 1, 0, 0), (39, .aload_n 2, 1, 0, 0, 0), (40, .aload_n 1, 1, 0, 0, 0), (41, .getfield 57, 3, 0, 6, 9), (44, .invokevirtual 66, 3, 102, 29, 2), (47, .istore 7, 2, 0, 0, 0), (49, .aload_n 2, 1, 0, 0, 0), (50, .getfield 69, 3, 0, 2, 2), (53, .aload_n 2, 1, 0, 0, 0), (54, .getfield 72, 3, 0, 2, 1), (57, .iadd, 1, 0, 0, 0), (58, .istore 8, 2, 0, 0, 0), (60, .iload 8, 2, 0, 0, 0), (62, .iload 4, 2, 0, 0, 0), (64, .invokestatic 75, 3, 2, 0, 0), (67, .istore 9, 2, 0, 0, 0), (69, .aload_n 0, 1, 0, 0, 0), (70, .aload_n 1, 1, 0, 0, 0), (71, .iload 5, 2, 0, 0, 0), (73, .aload_n 1, 1, 0, 0, 0), (74, .getfield 57, 3, 0, 6, 9), (77, .aload_n 2, 1, 0, 0, 0), (78, .getfield 69, 3, 0, 2, 2), (81, .iadd, 1, 0, 0, 0), (82, .aload_n 2, 1, 0, 0, 0), (83, .getfield 72, 3, 0, 2, 1), (86, .invokevirtual 80, 3, 101, 10, 5), (89, .iconst 0, 1, 0, 0, 0), (90, .istore 10, 2, 0, 0, 0), (92, .iload 10, 2, 0, 0, 0), (94, .iload 9, 2, 0, 0, 0), (96, .if_icmp .ge 38, 3, 0, 0, 0), (99, .aload_n 0, 1, 0, 0, 0), (100, .aload_n 1, 1, 0, 0, 0), (101, .aload_n 2, 1, 0, 0, 0), (102, .iload 10, 2, 0, 0, 0), (104, .aload_n 2, 1, 0, 0, 0), (105, .getfield 69, 3, 0, 2, 2), (108, .if_icmp .ge 7, 3, 0, 0, 0), (111, .iconst (-1), 1, 0, 0, 0), (112, .goto 13, 3, 0, 0, 0), (115, .iload 5, 2, 0, 0, 0), (117, .iload 10, 2, 0, 0, 0), (119, .iadd, 1, 0, 0, 0), (120, .aload_n 2, 1, 0, 0, 0), (121, .getfield 69, 3, 0, 2, 2), (124, .isub, 1, 0, 0, 0), (125, .invokevirtual 84, 3, 101, 11, 4), (128, .iinc 10 1, 3, 0, 0, 0), (131, .goto (-39), 3, 12, 0, 0), (134, .iload 4, 2, 0, 0, 0), (136, .iload 9, 2, 0, 0, 0), (138, .isub, 1, 0, 0, 0), (139, .istore 4, 2, 0, 0, 0), (141, .iload 9, 2, 0, 0, 0), (143, .iload 8, 2, 0, 0, 0), (145, .if_icmp .ge 5, 3, 0, 0, 0), (148, .iconst 0, 1, 0, 0, 0), (149, .ireturn, 1, 1, 0, 0), (150, .iload 7, 2, 0, 0, 0), (152, .ifCond .eq 16, 3, 0, 0, 0), (155, .aload_n 1, 1, 0, 0, 0), (156, .dup, 1, 0, 0, 0), (157, .getfield 88, 3, 0, 6, 10), (160, .iconst 1, 1, 0, 0, 0), (161, .iadd, 1, 0, 0, 0), (162, .putfield 88, 3, 0, 6, 10), (165, .goto 12, 3, 0, 0, 0), (168, .iload 5, 2, 0, 0, 0), (170, .aload_n 2, 1, 0, 0, 0), (171, .getfield 72, 3, 0, 2, 1), (174, .iadd, 1, 0, 0, 0), (175, .istore 5, 2, 0, 0, 0), (177, .iinc 6 1, 3, 0, 0, 0), (180, .goto (-171), 3, 8, 0, 0), (183, .iconst 1, 1, 0, 0, 0), (184, .ireturn, 1, 1, 0, 0)]
def cd_X1_placePacket : List (Nat × cm_E) := [(0, .iload_n 2, 1, 0, 0, 0), (1, .istore 5, 2, 0, 0, 0), (3, .iload 5, 2, 0, 0, 0), (5, .iload_n 2, 1, 0, 0, 0), (6, .iload 4, 2, 0, 0, 0), (8, .iadd, 1, 0, 0, 0), (9, .if_icmp .ge 117, 3, 0, 0, 0), (12, .iload 5, 2, 0, 0, 0), (14, .aload_n 0, 1, 0, 0, 0), (15, .getfield 21, 3, 0, 1, 3), (18, .if_icmp .ge 108, 3, 0, 0, 0), (21, .iload_n 3, 1, 0, 0, 0), (22, .iload 5, 2, 0, 0, 0), (24, .iadd, 1, 0, 0, 0), (25, .iload_n 2, 1, 0, 0, 0), (26, .isub, 1, 0, 0, 0), (27, .istore 6, 2, 0, 0, 0), (29, .aload_n 0, 1, 0, 0, 0), (30, .getfield 9, 3, 2, 1, 0), (33, .iload 5, 2, 0, 0, 0), (35, .iaload, 1, 0, 0, 0), (36, .iconst 3, 1, 0, 0, 0), (37, .if_icmp .ne 31, 3, 0, 0, 0), (40, .aload_n 1, 1, 0, 0, 0), (41, .getfield 91, 3, 2, 6, 3), (44, .aload_n 0, 1, 0, 0, 0), (45, .getfield 15, 3, 2, 1, 1), (48, .iload 5, 2, 0, 0, 0), (50, .iaload, 1, 0, 0, 0), (51, .bipush 8, 2, 0, 0, 0), (53, .imul, 1, 0, 0, 0), (54, .aload_n 0, 1, 0, 0, 0), (55, .getfield 18, 3, 2, 1, 2), (58, .iload 5, 2, 0, 0, 0), (60, .iaload, 1, 0, 0, 0), (61, .iadd, 1, 0, 0, 0), (62, .iload 6, 2, 0, 0, 0), (64, .iastore, 1, 0, 0, 0), (65, .goto 55, 3, 0, 0, 0), (68, .aload_n 0, 1, 0, 0, 0), (69, .getfield 9, 3, 2, 1, 0), (72, .iload 5, 2, 0, 0, 0), (74, .iaload, 1, 0, 0, 0), (75, .iconst 4, 1, 0, 0, 0), (76, .if_icmp .ne 25, 3, 0, 0, 0), (79, .aload_n 1, 1, 0, 0, 0), (80, .getfield 94, 3, 2, 6, 5), (83, .aload_n 1, 1, 0, 0, 0), (84, .getfield 97, 3, 2, 6, 0), (87, .aload_n 0, 1, 0, 0, 0), (88, .getfield 15, 3, 2, 1, 1), (91, .iload 5, 2, 0, 0, 0), (93, .iaload, 1, 0, 0, 0), (94, .iaload, 1, 0, 0, 0), (95, .iload 6, 2, 0, 0, 0), (97, .iastore, 1, 0, 0, 0), (98, .goto 22, 3, 0, 0, 0), (101, .aload_n 0, 1, 0, 0, 0), (102, .getfield 9, 3, 2, 1, 0), (105, .iload 5, 2, 0, 0, 0), (107, .iaload, 1, 0, 0, 0), (108, .iconst 5, 1, 0, 0, 0), (109, .if_icmp .ne 11, 3, 0, 0, 0), (112, .aload_n 1, 1, 0, 0, 0), (113, .getfield 94, 3, 2, 6, 5), (116, .iconst 0, 1, 0, 0, 0), (117, .iload 6, 2, 0, 0, 0), (119, .iastore, 1, 0, 0, 0), (120, .iinc 5 1, 3, 0, 0, 0), (123, .goto (-120), 3, 7, 0, 0), (126, .return_, 1, 0, 0, 0)]
def cd_X1_writeBlock : List (Nat × cm_E) := [(0, .iload_n 3, 1, 0, 0, 0), (1, .ifCond .lt 20, 3, 0, 0, 0), (4, .iload_n 3, 1, 0, 0, 0), (5, .aload_n 0, 1, 0, 0, 0), (6, .getfield 21, 3, 0, 1, 3), (9, .if_icmp .ge 12, 3, 0, 0, 0), (12, .aload_n 0, 1, 0, 0, 0), (13, .getfield 9, 3, 2, 1, 0), (16, .iload_n 3, 1, 0, 0, 0), (17, .iaload, 1, 0, 0, 0), (18, .goto 4, 3, 0, 0, 0), (21, .iconst 1, 1, 0, 0, 0), (22, .istore 4, 2, 0, 0, 0), (24, .iload 4, 2, 0, 0, 0), (26, .tableswitch 98 3 6 #[30, 68, 82, 90], 30, 0, 0, 0), (56, .aload_n 2, 1, 0, 0, 0), (57, .aload_n 1, 1, 0, 0, 0), (58, .getfield 57, 3, 0, 6, 9), (61, .iconst 3, 1, 0, 0, 0), (62, .iconst 1, 1, 0, 0, 0), (63, .invokevirtual 100, 3, 102, 24, 4), (66, .aload_n 2, 1, 0, 0, 0), (67, .aload_n 1, 1, 0, 0, 0), (68, .getfield 57, 3, 0, 6, 9), (71, .iconst 0, 1, 0, 0, 0), (72, .aload_n 1, 1, 0, 0, 0), (73, .aload_n 0, 1, 0, 0, 0), (74, .getfield 15, 3, 2, 1, 1), (77, .iload_n 3, 1, 0, 0, 0), (78, .iaload, 1, 0, 0, 0), (79, .aload_n 0, 1, 0, 0, 0), (80, .getfield 18, 3, 2, 1, 2), (83, .iload_n 3, 1, 0, 0, 0), (84, .iaload, 1, 0, 0, 0), (85, .invokevirtual 103, 3, 106, 72, 3), (88, .invokevirtual 106, 3, 102, 25, 4), (91, .goto 44, 3, 0, 0, 0), (94, .aload_n 1, 1, 0, 0, 0), (95, .aload_n 2, 1, 0, 0, 0), (96, .aload_n 0, 1, 0, 0, 0), (97, .getfield 15, 3, 2, 1, 1), (100, .iload_n 3, 1, 0, 0, 0), (101, .iaload, 1, 0, 0, 0), (102, .invokestatic 109, 3, 0, 12, 3), (105, .goto 30, 3, 0, 0, 0), (108, .aload_n 1, 1, 0, 0, 0), (109, .aload_n 2, 1, 0, 0, 0), (110, .invokestatic 112, 3, 0, 13, 2), (113, .goto 22, 3, 0, 0, 0), (116, .aload_n 1, 1, 0, 0, 0), (117, .aload_n 2, 1, 0, 0, 0), (118, .invokestatic 116, 3, 0, 14, 2), (121, .goto 14, 3, 0, 0, 0), (124, .aload_n 2, 1, 0, 0, 0), (125, .aload_n 1, 1, 0, 0, 0), (126, .getfield 57, 3, 0, 6, 9), (129, .iload 4, 2, 0, 0, 0), (131, .iconst 0, 1, 0, 0, 0), (132, .invokevirtual 100, 3, 102, 24, 4), (135, .aload_n 1, 1, 0, 0, 0), (136, .dup, 1, 0, 0, 0), (137, .getfield 57, 3, 0, 6, 9), (140, .iconst 1, 1, 0, 0, 0), (141, .iadd, 1, 0, 0, 0), (142, .putfield 57, 3, 0, 6, 9), (145, .return_, 1, 0, 0, 0)]
def cd_X1_writeEntry : List (Nat × cm_E) := [(0, .aload_n 1, 1, 0, 0, 0), (1, .aload_n 0, 1, 0, 0, 0), (2, .getfield 57, 3, 0, 6, 9), (5, .iconst 4, 1, 0, 0, 0), (6, .aload_n 0, 1, 0, 0, 0), (7, .getfield 51, 3, 2, 6, 1), (10, .iload_n 2, 1, 0, 0, 0), (11, .iaload, 1, 0, 0, 0), (12, .invokevirtual 100, 3, 102, 24, 4), (15, .iconst 0, 1, 0, 0, 0), (16, .istore_n 3, 1, 0, 0, 0), (17, .iload_n 3, 1, 0, 0, 0), (18, .aload_n 0, 1, 0, 0, 0), (19, .getfield 51, 3, 2, 6, 1), (22, .iload_n 2, 1, 0, 0, 0), (23, .iaload, 1, 0, 0, 0), (24, .if_icmp .ge 24, 3, 0, 0, 0), (27, .aload_n 1, 1, 0, 0, 0), (28, .aload_n 0, 1, 0, 0, 0), (29, .getfield 57, 3, 0, 6, 9), (32, .iload_n 3, 1, 0, 0, 0), (33, .aload_n 0, 1, 0, 0, 0), (34, .iload_n 2, 1, 0, 0, 0), (35, .iload_n 3, 1, 0, 0, 0), (36, .invokevirtual 54, 3, 106, 71, 3), (39, .invokevirtual 106, 3, 102, 25, 4), (42, .iinc 3 1, 3, 0, 0, 0), (45, .goto (-28), 3, 5, 0, 0), (48, .return_, 1, 0, 0, 0)]
def cd_X1_writeDirectory : List (Nat × cm_E) := [(0, .aload_n 1, 1, 0, 0, 0), (1, .aload_n 0, 1, 0, 0, 0), (2, .getfield 57, 3, 0, 6, 9), (5, .iconst 5, 1, 0, 0, 0), (6, .bipush 12, 2, 0, 0, 0), (8, .invokevirtual 100, 3, 102, 24, 4), (11, .iconst 0, 1, 0, 0, 0), (12, .istore_n 2, 1, 0, 0, 0), (13, .iload_n 2, 1, 0, 0, 0), (14, .bipush 12, 2, 0, 0, 0), (16, .if_icmp .ge 37, 3, 0, 0, 0), (19, .aload_n 1, 1, 0, 0, 0), (20, .aload_n 0, 1, 0, 0, 0), (21, .getfield 57, 3, 0, 6, 9), (24, .iload_n 2, 1, 0, 0, 0), (25, .aload_n 0, 1, 0, 0, 0), (26, .getfield 97, 3, 2, 6, 0), (29, .iload_n 2, 1, 0, 0, 0), (30, .iaload, 1, 0, 0, 0), (31, .ifCond .ne 7, 3, 0, 0, 0), (34, .iconst (-1), 1, 0, 0, 0), (35, .goto 9, 3, 0, 0, 0), (38, .aload_n 0, 1, 0, 0, 0), (39, .getfield 97, 3, 2, 6, 0), (42, .iload_n 2, 1, 0, 0, 0), (43, .iaload, 1, 0, 0, 0), (44, .invokevirtual 106, 3, 102, 25, 4), (47, .iinc 2 1, 3, 0, 0, 0), (50, .goto (-37), 3, 4, 0, 0), (53, .return_, 1, 0, 0, 0)]
def cd_X1_writeMap : List (Nat × cm_E) := [(0, .aload_n 1, 1, 0, 0, 0), (1, .aload_n 0, 1, 0, 0, 0), (2, .getfield 57, 3, 0, 6, 9), (5, .bipush 6, 2, 0, 0, 0), (7, .bipush 15, 2, 0, 0, 0), (9, .invokevirtual 100, 3, 102, 24, 4), (12, .iconst 0, 1, 0, 0, 0), (13, .istore_n 2, 1, 0, 0, 0), (14, .iload_n 2, 1, 0, 0, 0), (15, .bipush 13, 2, 0, 0, 0), (17, .if_icmp .ge 24, 3, 0, 0, 0), (20, .aload_n 1, 1, 0, 0, 0), (21, .aload_n 0, 1, 0, 0, 0), (22, .getfield 57, 3, 0, 6, 9), (25, .iload_n 2, 1, 0, 0, 0), (26, .aload_n 0, 1, 0, 0, 0), (27, .getfield 94, 3, 2, 6, 5), (30, .iload_n 2, 1, 0, 0, 0), (31, .iaload, 1, 0, 0, 0), (32, .invokevirtual 106, 3, 102, 25, 4), (35, .iinc 2 1, 3, 0, 0, 0), (38, .goto (-24), 3, 4, 0, 0), (41, .aload_n 1, 1, 0, 0, 0), (42, .aload_n 0, 1, 0, 0, 0), (43, .getfield 57, 3, 0, 6, 9), (46, .bipush 13, 2, 0, 0, 0), (48, .aload_n 0, 1, 0, 0, 0), (49, .getfield 119, 3, 0, 6, 7), (52, .invokevirtual 106, 3, 102, 25, 4), (55, .aload_n 1, 1, 0, 0, 0), (56, .aload_n 0, 1, 0, 0, 0), (57, .getfield 57, 3, 0, 6, 9), (60, .bipush 14, 2, 0, 0, 0), (62, .aload_n 0, 1, 0, 0, 0), (63, .getfield 122, 3, 0, 6, 8), (66, .invokevirtual 106, 3, 102, 25, 4), (69, .return_, 1, 0, 0, 0)]
def cd_X2_init : List (Nat × cm_E) := [(0, .aload_n 0, 1, 0, 0, 0), (1, .invokespecial 3, 3, 1, 0, 0), (4, .aload_n 0, 1, 0, 0, 0), (5, .sipush 401, 3, 0, 0, 0), (8, .newarray .int, 2, 0, 0, 0), (10, .putfield 9, 3, 2, 2, 5), (13, .aload_n 0, 1, 0, 0, 0), (14, .sipush 400, 3, 0, 0, 0), (17, .newarray .int, 2, 0, 0, 0), (19, .putfield 15, 3, 2, 2, 6), (22, .aload_n 0, 1, 0, 0, 0), (23, .sipush 400, 3, 0, 0, 0), (26, .newarray .int, 2, 0, 0, 0), (28, .putfield 18, 3, 2, 2, 7), (31, .aload_n 0, 1, 0, 0, 0), (32, .sipush 6000, 3, 0, 0, 0), (35, .newarray .int, 2, 0, 0, 0), (37, .putfield 21, 3, 2, 2, 8), (40, .aload_n 0, 1, 0, 0, 0), (41, .sipush 400, 3, 0, 0, 0), (44, .newarray .int, 2, 0, 0, 0), (46, .putfield 24, 3, 2, 2, 9), (49, .return_, 1, 0, 0, 0)]
def cd_X2_takeOver : List (Nat × cm_E) := [(0, .aload_n 0, 1, 0, 0, 0), (1, .aload_n 1, 1, 0, 0, 0), (2, .getfield 27, 3, 0, 5, 4), (5, .putfield 33, 3, 0, 2, 0), (8, .aload_n 0, 1, 0, 0, 0), (9, .aload_n 1, 1, 0, 0, 0), (10, .getfield 34, 3, 0, 5, 5), (13, .putfield 37, 3, 0, 2, 1), (16, .aload_n 0, 1, 0, 0, 0), (17, .aload_n 1, 1, 0, 0, 0), (18, .getfield 38, 3, 0, 5, 6), (21, .putfield 41, 3, 0, 2, 2), (24, .aload_n 0, 1, 0, 0, 0), (25, .aload_n 1, 1, 0, 0, 0), (26, .getfield 42, 3, 0, 5, 7), (29, .putfield 45, 3, 0, 2, 3), (32, .iconst 0, 1, 0, 0, 0), (33, .istore_n 2, 1, 0, 0, 0), (34, .iload_n 2, 1, 0, 0, 0), (35, .sipush 400, 3, 0, 0, 0), (38, .if_icmp .ge 38, 3, 0, 0, 0), (41, .aload_n 0, 1, 0, 0, 0), (42, .getfield 9, 3, 2, 2, 5), (45, .iload_n 2, 1, 0, 0, 0), (46, .iconst 1, 1, 0, 0, 0), (47, .iadd, 1, 0, 0, 0), (48, .aload_n 0, 1, 0, 0, 0), (49, .getfield 9, 3, 2, 2, 5), (52, .iload_n 2, 1, 0, 0, 0), (53, .iaload, 1, 0, 0, 0), (54, .aload_n 1, 1, 0, 0, 0), (55, .getfield 46, 3, 2, 5, 8), (58, .iload_n 2, 1, 0, 0, 0), (59, .baload, 1, 0, 0, 0), (60, .ifCond .eq 7, 3, 0, 0, 0), (63, .iconst 1, 1, 0, 0, 0), (64, .goto 4, 3, 0, 0, 0), (67, .iconst 0, 1, 0, 0, 0), (68, .iadd, 1, 0, 0, 0), (69, .iastore, 1, 0, 0, 0), (70, .iinc 2 1, 3, 0, 0, 0), (73, .goto (-39), 3, 4, 0, 0), (76, .return_, 1, 0, 0, 0)]
def cd_X2_takeBlocks : List (Nat × cm_E) := [(0, .aload_n 1, 1, 0, 0, 0), (1, .getfield 15, 3, 2, 2, 6), (4, .iconst 0, 1, 0, 0, 0), (5, .aload_n 0, 1, 0, 0, 0), (6, .getfield 15, 3, 2, 2, 6), (9, .iconst 0, 1, 0, 0, 0), (10, .iload_n 2, 1, 0, 0, 0), (11, .invokestatic 50, 3, 5, 0, 0), (14, .aload_n 1, 1, 0, 0, 0), (15, .getfield 18, 3, 2, 2, 7), (18, .iconst 0, 1, 0, 0, 0), (19, .aload_n 0, 1, 0, 0, 0), (20, .getfield 18, 3, 2, 2, 7), (23, .iconst 0, 1, 0, 0, 0), (24, .iload_n 2, 1, 0, 0, 0), (25, .invokestatic 50, 3, 5, 0, 0), (28, .aload_n 1, 1, 0, 0, 0), (29, .getfield 21, 3, 2, 2, 8), (32, .iconst 0, 1, 0, 0, 0), (33, .aload_n 0, 1, 0, 0, 0), (34, .getfield 21, 3, 2, 2, 8), (37, .iconst 0, 1, 0, 0, 0), (38, .iload_n 2, 1, 0, 0, 0), (39, .bipush 15, 2, 0, 0, 0), (41, .imul, 1, 0, 0, 0), (42, .invokestatic 50, 3, 5, 0, 0), (45, .return_, 1, 0, 0, 0)]
def cd_X2_isBlock : List (Nat × cm_E) := [(0, .iload_n 1, 1, 0, 0, 0), (1, .ifCond .lt 15, 3, 0, 0, 0), (4, .iload_n 1, 1, 0, 0, 0), (5, .aload_n 0, 1, 0, 0, 0), (6, .getfield 33, 3, 0, 2, 0), (9, .if_icmp .ge 7, 3, 0, 0, 0), (12, .iconst 1, 1, 0, 0, 0), (13, .goto 4, 3, 0, 0, 0), (16, .iconst 0, 1, 0, 0, 0), (17, .ireturn, 1, 1, 0, 0)]
def cd_X2_isFaulty : List (Nat × cm_E) := [(0, .aload_n 0, 1, 0, 0, 0), (1, .iload_n 1, 1, 0, 0, 0), (2, .invokevirtual 56, 3, 102, 18, 2), (5, .ifCond .eq 24, 3, 0, 0, 0), (8, .aload_n 0, 1, 0, 0, 0), (9, .getfield 9, 3, 2, 2, 5), (12, .iload_n 1, 1, 0, 0, 0), (13, .iconst 1, 1, 0, 0, 0), (14, .iadd, 1, 0, 0, 0), (15, .iaload, 1, 0, 0, 0), (16, .aload_n 0, 1, 0, 0, 0), (17, .getfield 9, 3, 2, 2, 5), (20, .iload_n 1, 1, 0, 0, 0), (21, .iaload, 1, 0, 0, 0), (22, .if_icmp .le 7, 3, 0, 0, 0), (25, .iconst 1, 1, 0, 0, 0), (26, .goto 4, 3, 0, 0, 0), (29, .iconst 0, 1, 0, 0, 0), (30, .ireturn, 1, 1, 0, 0)]
def cd_X2_hasFaulty : List (Nat × cm_E) := [(0, .iload_n 1, 1, 0, 0, 0), (1, .ifCond .lt 35, 3, 0, 0, 0), (4, .iload_n 1, 1, 0, 0, 0), (5, .iload_n 2, 1, 0, 0, 0), (6, .if_icmp .ge 30, 3, 0, 0, 0), (9, .iload_n 2, 1, 0, 0, 0), (10, .aload_n 0, 1, 0, 0, 0), (11, .getfield 33, 3, 0, 2, 0), (14, .if_icmp .gt 22, 3, 0, 0, 0), (17, .aload_n 0, 1, 0, 0, 0), (18, .getfield 9, 3, 2, 2, 5), (21, .iload_n 2, 1, 0, 0, 0), (22, .iaload, 1, 0, 0, 0), (23, .aload_n 0, 1, 0, 0, 0), (24, .getfield 9, 3, 2, 2, 5), (27, .iload_n 1, 1, 0, 0, 0), (28, .iaload, 1, 0, 0, 0), (29, .if_icmp .le 7, 3, 0, 0, 0), (32, .iconst 1, 1, 0, 0, 0), (33, .goto 4, 3, 0, 0, 0), (36, .iconst 0, 1, 0, 0, 0), (37, .ireturn, 1, 1, 0, 0)]
def cd_X2_kindOf : List (Nat × cm_E) := [(0, .aload_n 0, 1, 0, 0, 0), (1, .iload_n 1, 1, 0, 0, 0), (2, .invokevirtual 56, 3, 102, 18, 2), (5, .ifCond .eq 17, 3, 0, 0, 0), (8, .iload_n 1, 1, 0, 0, 0), (9, .iload_n 2, 1, 0, 0, 0), (10, .if_icmp .ge 12, 3, 0, 0, 0), (13, .aload_n 0, 1, 0, 0, 0), (14, .getfield 15, 3, 2, 2, 6), (17, .iload_n 1, 1, 0, 0, 0), (18, .iaload, 1, 0, 0, 0), (19, .goto 4, 3, 0, 0, 0), (22, .iconst 0, 1, 0, 0, 0), (23, .ireturn, 1, 0, 0, 0)]
def cd_X2_lengthOf : List (Nat × cm_E) := [(0, .iload_n 1, 1, 0, 0, 0), (1, .ifCond .lt 20, 3, 0, 0, 0), (4, .iload_n 1, 1, 0, 0, 0), (5, .aload_n 0, 1, 0, 0, 0), (6, .getfield 33, 3, 0, 2, 0), (9, .if_icmp .ge 12, 3, 0, 0, 0), (12, .aload_n 0, 1, 0, 0, 0), (13, .getfield 18, 3, 2, 2, 7), (16, .iload_n 1, 1, 0, 0, 0), (17, .iaload, 1, 0, 0, 0), (18, .goto 4, 3, 0, 0, 0), (21, .iconst 0, 1, 0, 0, 0), (22, .ireturn, 1, 0, 0, 0)]
def cd_X2_toldBy : List (Nat × cm_E) := [(0, .iload_n 1, 1, 0, 0, 0), (1, .ifCond .lt 25, 3, 0, 0, 0), (4, .iload_n 1, 1, 0, 0, 0), (5, .aload_n 0, 1, 0, 0, 0), (6, .getfield 33, 3, 0, 2, 0), (9, .if_icmp .ge 17, 3, 0, 0, 0), (12, .iload_n 2, 1, 0, 0, 0), (13, .ifCond .lt 13, 3, 0, 0, 0), (16, .iload_n 2, 1, 0, 0, 0), (17, .aload_n 0, 1, 0, 0, 0), (18, .getfield 18, 3, 2, 2, 7), (21, .iload_n 1, 1, 0, 0, 0), (22, .iaload, 1, 0, 0, 0), (23, .if_icmp .lt 5, 3, 0, 0, 0), (26, .iconst (-1), 1, 0, 0, 0), (27, .ireturn, 1, 0, 0, 0), (28, .aload_n 0, 1, 0, 0, 0), (29, .getfield 21, 3, 2, 2, 8), (32, .iload_n 1, 1, 0, 0, 0), (33, .bipush 15, 2, 0, 0, 0), (35, .imul, 1, 0, 0, 0), (36, .iload_n 2, 1, 0, 0, 0), (37, .iadd, 1, 0, 0, 0), (38, .iaload, 1, 0, 0, 0), (39, .ireturn, 1, 0, 0, 0)]
def cd_X2_write : List (Nat × cm_E) := [(0, .iload_n 1, 1, 0, 0, 0), (1, .ifCond .lt 11, 3, 0, 0, 0), (4, .iload_n 1, 1, 0, 0, 0), (5, .aload_n 0, 1, 0, 0, 0), (6, .getfield 33, 3, 0, 2, 0), (9, .if_icmp .lt 4, 3, 0, 0, 0), (12, .return_, 1, 0, 0, 0), (13, .aload_n 0, 1, 0, 0, 0), (14, .getfield 9, 3, 2, 2, 5), (17, .iload_n 1, 1, 0, 0, 0), (18, .iconst 1, 1, 0, 0, 0), (19, .iadd, 1, 0, 0, 0), (20, .iaload, 1, 0, 0, 0), (21, .aload_n 0, 1, 0, 0, 0), (22, .getfield 9, 3, 2, 2, 5), (25, .iload_n 1, 1, 0, 0, 0), (26, .iaload, 1, 0, 0, 0), (27, .if_icmp .le 7, 3, 0, 0, 0), (30, .iconst 1, 1, 0, 0, 0), (31, .goto 4, 3, 0, 0, 0), (34, .iconst 0, 1, 0, 0, 0), (35, .istore 4, 2, 0, 0, 0), (37, .iload 4, 2, 0, 0, 0), (39, .ifCond .eq 18, 3, 0, 0, 0), (42, .iload_n 2, 1, 0, 0, 0), (43, .iconst 1, 1, 0, 0, 0), (44, .if_icmp .eq 13, 3, 0, 0, 0), (47, .iload_n 2, 1, 0, 0, 0), (48, .bipush 7, 2, 0, 0, 0), (50, .if_icmp .eq 7, 3, 0, 0, 0), (53, .iconst 1, 1, 0, 0, 0), (54, .goto 4, 3, 0, 0, 0), (57, .iconst 0, 1, 0, 0, 0), (58, .istore 5, 2, 0, 0, 0), (60, .aload_n 0, 1, 0, 0, 0), (61, .getfield 15, 3, 2, 2, 6), (64, .iload_n 1, 1, 0, 0, 0), (65, .iload 5, 2, 0, 0, 0), (67, .ifCond .eq 8, 3, 0, 0, 0), (70, .bipush 8, 2, 0, 0, 0), (72, .goto 4, 3, 0, 0, 0), (75, .iload_n 2, 1, 0, 0, 0), (76, .iastore, 1, 0, 0, 0), (77, .aload_n 0, 1, 0, 0, 0), (78, .getfield 18, 3, 2, 2, 7), (81, .iload_n 1, 1, 0, 0, 0), (82, .iload 5, 2, 0, 0, 0), (84, .ifCond .eq 7, 3, 0, 0, 0), (87, .iconst 0, 1, 0, 0, 0), (88, .goto 4, 3, 0, 0, 0), (91, .iload_n 3, 1, 0, 0, 0), (92, .iastore, 1, 0, 0, 0), (93, .return_, 1, 0, 0, 0)]
def cd_X2_tell : List (Nat × cm_E) := [(0, .iload_n 1, 1, 0, 0, 0), (1, .ifCond .lt 37, 3, 0, 0, 0), (4, .iload_n 1, 1, 0, 0, 0), (5, .aload_n 0, 1, 0, 0, 0), (6, .getfield 33, 3, 0, 2, 0), (9, .if_icmp .ge 29, 3, 0, 0, 0), (12, .iload_n 2, 1, 0, 0, 0), (13, .ifCond .lt 25, 3, 0, 0, 0), (16, .iload_n 2, 1, 0, 0, 0), (17, .aload_n 0, 1, 0, 0, 0), (18, .getfield 18, 3, 2, 2, 7), (21, .iload_n 1, 1, 0, 0, 0), (22, .iaload, 1, 0, 0, 0), (23, .if_icmp .ge 15, 3, 0, 0, 0), (26, .aload_n 0, 1, 0, 0, 0), (27, .getfield 21, 3, 2, 2, 8), (30, .iload_n 1, 1, 0, 0, 0), (31, .bipush 15, 2, 0, 0, 0), (33, .imul, 1, 0, 0, 0), (34, .iload_n 2, 1, 0, 0, 0), (35, .iadd, 1, 0, 0, 0), (36, .iload_n 3, 1, 0, 0, 0), (37, .iastore, 1, 0, 0, 0), (38, .return_, 1, 0, 0, 0)]
def cd_X2_packetsFor : List (Nat × cm_E) := [(0, .aload_n 0, 1, 0, 0, 0), (1, .getfield 37, 3, 0, 2, 1), (4, .iload_n 1, 1, 0, 0, 0), (5, .invokestatic 60, 3, 0, 151, 2), (8, .ireturn, 1, 0, 0, 0)]
def cd_X2_costOf : List (Nat × cm_E) := [(0, .aload_n 0, 1, 0, 0, 0), (1, .iload_n 1, 1, 0, 0, 0), (2, .invokevirtual 64, 3, 102, 26, 2), (5, .aload_n 0, 1, 0, 0, 0), (6, .getfield 41, 3, 0, 2, 2), (9, .aload_n 0, 1, 0, 0, 0), (10, .getfield 37, 3, 0, 2, 1), (13, .iadd, 1, 0, 0, 0), (14, .imul, 1, 0, 0, 0), (15, .ireturn, 1, 0, 0, 0)]
def cd_X2_hasRoomForPacket : List (Nat × cm_E) := [(0, .iload_n 1, 1, 0, 0, 0), (1, .aload_n 0, 1, 0, 0, 0), (2, .getfield 41, 3, 0, 2, 2), (5, .iadd, 1, 0, 0, 0), (6, .aload_n 0, 1, 0, 0, 0), (7, .getfield 37, 3, 0, 2, 1), (10, .iadd, 1, 0, 0, 0), (11, .aload_n 0, 1, 0, 0, 0), (12, .getfield 45, 3, 0, 2, 3), (15, .iadd, 1, 0, 0, 0), (16, .aload_n 0, 1, 0, 0, 0), (17, .getfield 33, 3, 0, 2, 0), (20, .if_icmp .gt 7, 3, 0, 0, 0), (23, .iconst 1, 1, 0, 0, 0), (24, .goto 4, 3, 0, 0, 0), (27, .iconst 0, 1, 0, 0, 0), (28, .ireturn, 1, 1, 0, 0)]
def cd_X2_wouldSpare : List (Nat × cm_E) := [(0, .aload_n 0, 1, 0, 0, 0), (1, .iload_n 1, 1, 0, 0, 0), (2, .aload_n 0, 1, 0, 0, 0), (3, .getfield 41, 3, 0, 2, 2), (6, .iadd, 1, 0, 0, 0), (7, .iload_n 1, 1, 0, 0, 0), (8, .aload_n 0, 1, 0, 0, 0), (9, .getfield 41, 3, 0, 2, 2), (12, .iadd, 1, 0, 0, 0), (13, .aload_n 0, 1, 0, 0, 0), (14, .getfield 37, 3, 0, 2, 1), (17, .iadd, 1, 0, 0, 0), (18, .invokevirtual 68, 3, 102, 20, 3), (21, .ireturn, 1, 1, 0, 0)]
def cd_X2_foresee : List (Nat × cm_E) := [(0, .iload_n 1, 1, 0, 0, 0), (1, .istore 4, 2, 0, 0, 0), (3, .iconst 0, 1, 0, 0, 0), (4, .istore 5, 2, 0, 0, 0), (6, .aload_n 0, 1, 0, 0, 0), (7, .iconst 0, 1, 0, 0, 0), (8, .putfield 72, 3, 1, 2, 4), (11, .iconst 0, 1, 0, 0, 0), (12, .istore 6, 2, 0, 0, 0), (14, .iload 6, 2, 0, 0, 0), (16, .sipush 400, 3, 0, 0, 0), (19, .if_icmp .ge 91, 3, 0, 0, 0), (22, .iload 5, 2, 0, 0, 0), (24, .iload_n 2, 1, 0, 0, 0), (25, .if_icmp .ge 85, 3, 0, 0, 0), (28, .aload_n 0, 1, 0, 0, 0), (29, .iload 4, 2, 0, 0, 0), (31, .invokevirtual 76, 3, 102, 28, 2), (34, .ifCond .ne 11, 3, 0, 0, 0), (37, .aload_n 0, 1, 0, 0, 0), (38, .iconst 1, 1, 0, 0, 0), (39, .putfield 72, 3, 1, 2, 4), (42, .iload 4, 2, 0, 0, 0), (44, .ireturn, 1, 0, 0, 0), (45, .iload 4, 2, 0, 0, 0), (47, .aload_n 0, 1, 0, 0, 0), (48, .getfield 41, 3, 0, 2, 2), (51, .iadd, 1, 0, 0, 0), (52, .aload_n 0, 1, 0, 0, 0), (53, .getfield 37, 3, 0, 2, 1), (56, .iadd, 1, 0, 0, 0), (57, .istore 7, 2, 0, 0, 0), (59, .aload_n 0, 1, 0, 0, 0), (60, .iload 4, 2, 0, 0, 0), (62, .invokevirtual 79, 3, 102, 29, 2), (65, .ifCond .ne 20, 3, 0, 0, 0), (68, .iload_n 3, 1, 0, 0, 0), (69, .iload 4, 2, 0, 0, 0), (71, .aload_n 0, 1, 0, 0, 0), (72, .getfield 41, 3, 0, 2, 2), (75, .iadd, 1, 0, 0, 0), (76, .if_icmp .lt 13, 3, 0, 0, 0), (79, .iload_n 3, 1, 0, 0, 0), (80, .iload 7, 2, 0, 0, 0), (82, .if_icmp .ge 7, 3, 0, 0, 0), (85, .iconst 1, 1, 0, 0, 0), (86, .goto 4, 3, 0, 0, 0), (89, .iconst 0, 1, 0, 0, 0), (90, .istore 8, 2, 0, 0, 0), (92, .iload 7, 2, 0, 0, 0), (94, .istore 4, 2, 0, 0, 0), (96, .iload 8, 2, 0, 0, 0), (98, .ifCond .ne 6, 3, 0, 0, 0), (101, .iinc 5 1, 3, 0, 0, 0), (104, .iinc 6 1, 3, 0, 0, 0), (107, .goto (-93), 3, 8, 0, 0), (110, .iload 4, 2, 0, 0, 0), (112, .ireturn, 1, 0, 0, 0)]
def cd_X2_isGoodMap : List (Nat × cm_E) := [(0, .aload_n 0, 1, 0, 0, 0), (1, .getfield 15, 3, 2, 2, 6), (4, .iload_n 1, 1, 0, 0, 0), (5, .iaload, 1, 0, 0, 0), (6, .bipush 6, 2, 0, 0, 0), (8, .if_icmp .eq 5, 3, 0, 0, 0), (11, .iconst 0, 1, 0, 0, 0), (12, .ireturn, 1, 1, 0, 0), (13, .iconst 0, 1, 0, 0, 0), (14, .iload_n 1, 1, 0, 0, 0), (15, .aload_n 0, 1, 0, 0, 0), (16, .getfield 37, 3, 0, 2, 1), (19, .isub, 1, 0, 0, 0), (20, .iconst 1, 1, 0, 0, 0), (21, .iadd, 1, 0, 0, 0), (22, .invokestatic 82, 3, 3, 0, 0), (25, .istore_n 2, 1, 0, 0, 0), (26, .iload_n 2, 1, 0, 0, 0), (27, .iload_n 1, 1, 0, 0, 0), (28, .if_icmp .ge 22, 3, 0, 0, 0), (31, .aload_n 0, 1, 0, 0, 0), (32, .getfield 15, 3, 2, 2, 6), (35, .iload_n 2, 1, 0, 0, 0), (36, .iaload, 1, 0, 0, 0), (37, .bipush 8, 2, 0, 0, 0), (39, .if_icmp .ne 5, 3, 0, 0, 0), (42, .iconst 0, 1, 0, 0, 0), (43, .ireturn, 1, 1, 0, 0), (44, .iinc 2 1, 3, 0, 0, 0), (47, .goto (-21), 3, 4, 0, 0), (50, .iconst 1, 1, 0, 0, 0), (51, .ireturn, 1, 1, 0, 0)]
def cd_X2_lastGoodMap : List (Nat × cm_E) := [(0, .iload_n 1, 1, 0, 0, 0), (1, .aload_n 0, 1, 0, 0, 0), (2, .getfield 33, 3, 0, 2, 0), (5, .invokestatic 87, 3, 2, 0, 0), (8, .iconst 1, 1, 0, 0, 0), (9, .isub, 1, 0, 0, 0), (10, .istore_n 2, 1, 0, 0, 0), (11, .iload_n 2, 1, 0, 0, 0), (12, .ifCond .lt 19, 3, 0, 0, 0), (15, .aload_n 0, 1, 0, 0, 0), (16, .iload_n 2, 1, 0, 0, 0), (17, .invokevirtual 90, 3, 102, 31, 2), (20, .ifCond .eq 5, 3, 0, 0, 0), (23, .iload_n 2, 1, 0, 0, 0), (24, .ireturn, 1, 0, 0, 0), (25, .iinc 2 (-1), 3, 0, 0, 0), (28, .goto (-17), 3, 4, 0, 0), (31, .iconst (-1), 1, 0, 0, 0), (32, .ireturn, 1, 0, 0, 0)]
def cd_X2_goodMaps : List (Nat × cm_E) := [(0, .iconst 0, 1, 0, 0, 0), (1, .istore_n 2, 1, 0, 0, 0), (2, .iconst 0, 1, 0, 0, 0), (3, .istore_n 3, 1, 0, 0, 0), (4, .iload_n 3, 1, 0, 0, 0), (5, .iload_n 1, 1, 0, 0, 0), (6, .if_icmp .ge 28, 3, 0, 0, 0), (9, .iload_n 3, 1, 0, 0, 0), (10, .aload_n 0, 1, 0, 0, 0), (11, .getfield 33, 3, 0, 2, 0), (14, .if_icmp .ge 20, 3, 0, 0, 0), (17, .aload_n 0, 1, 0, 0, 0), (18, .iload_n 3, 1, 0, 0, 0), (19, .invokevirtual 90, 3, 102, 31, 2), (22, .ifCond .eq 6, 3, 0, 0, 0), (25, .iinc 2 1, 3, 0, 0, 0), (28, .iinc 3 1, 3, 0, 0, 0), (31, .goto (-27), 3, 5, 0, 0), (34, .iload_n 2, 1, 0, 0, 0), (35, .ireturn, 1, 0, 0, 0)]
def cd_X2_mapAlong : List (Nat × cm_E) := [(0, .iload_n 2, 1, 0, 0, 0), (1, .ifCond .ge 5, 3, 0, 0, 0), (4, .iconst (-1), 1, 0, 0, 0), (5, .ireturn, 1, 0, 0, 0), (6, .iload_n 1, 1, 0, 0, 0), (7, .istore_n 3, 1, 0, 0, 0), (8, .iconst 0, 1, 0, 0, 0), (9, .istore 4, 2, 0, 0, 0), (11, .iload 4, 2, 0, 0, 0), (13, .iload_n 2, 1, 0, 0, 0), (14, .if_icmp .ge 22, 3, 0, 0, 0), (17, .iload_n 3, 1, 0, 0, 0), (18, .iconst (-1), 1, 0, 0, 0), (19, .if_icmp .eq 17, 3, 0, 0, 0), (22, .aload_n 0, 1, 0, 0, 0), (23, .iload_n 3, 1, 0, 0, 0), (24, .bipush 13, 2, 0, 0, 0), (26, .invokevirtual 93, 3, 102, 23, 3), (29, .istore_n 3, 1, 0, 0, 0), (30, .iinc 4 1, 3, 0, 0, 0), (33, .goto (-22), 3, 6, 0, 0), (36, .iload_n 3, 1, 0, 0, 0), (37, .ireturn, 1, 0, 0, 0)]
def cd_X2_mapsAlong : List (Nat × cm_E) := [(0, .iconst 0, 1, 0, 0, 0), (1, .istore_n 2, 1, 0, 0, 0), (2, .iload_n 1, 1, 0, 0, 0), (3, .istore_n 3, 1, 0, 0, 0), (4, .iload_n 2, 1, 0, 0, 0), (5, .sipush 400, 3, 0, 0, 0), (8, .if_icmp .ge 22, 3, 0, 0, 0), (11, .iload_n 3, 1, 0, 0, 0), (12, .iconst (-1), 1, 0, 0, 0), (13, .if_icmp .eq 17, 3, 0, 0, 0), (16, .iinc 2 1, 3, 0, 0, 0), (19, .aload_n 0, 1, 0, 0, 0), (20, .iload_n 3, 1, 0, 0, 0), (21, .bipush 13, 2, 0, 0, 0), (23, .invokevirtual 93, 3, 102, 23, 3), (26, .istore_n 3, 1, 0, 0, 0), (27, .goto (-23), 3, 5, 0, 0), (30, .iload_n 2, 1, 0, 0, 0), (31, .ireturn, 1, 0, 0, 0)]
def cd_X2_entryBy : List (Nat × cm_E) := [(0, .aload_n 0, 1, 0, 0, 0), (1, .aload_n 0, 1, 0, 0, 0), (2, .iload_n 1, 1, 0, 0, 0), (3, .iconst 0, 1, 0, 0, 0), (4, .invokevirtual 93, 3, 102, 23, 3), (7, .iload_n 2, 1, 0, 0, 0), (8, .invokevirtual 93, 3, 102, 23, 3), (11, .istore_n 3, 1, 0, 0, 0), (12, .iload_n 3, 1, 0, 0, 0), (13, .iconst (-1), 1, 0, 0, 0), (14, .if_icmp .ne 7, 3, 0, 0, 0), (17, .iconst (-1), 1, 0, 0, 0), (18, .goto 9, 3, 0, 0, 0), (21, .aload_n 0, 1, 0, 0, 0), (22, .iload_n 1, 1, 0, 0, 0), (23, .iload_n 3, 1, 0, 0, 0), (24, .invokevirtual 93, 3, 102, 23, 3), (27, .ireturn, 1, 0, 0, 0)]
def cd_X2_numberBy : List (Nat × cm_E) := [(0, .aload_n 0, 1, 0, 0, 0), (1, .aload_n 0, 1, 0, 0, 0), (2, .iload_n 1, 1, 0, 0, 0), (3, .iload_n 2, 1, 0, 0, 0), (4, .invokevirtual 93, 3, 102, 23, 3), (7, .iconst 0, 1, 0, 0, 0), (8, .invokevirtual 93, 3, 102, 23, 3), (11, .ireturn, 1, 0, 0, 0)]
def cd_X2_tellAlike : List (Nat × cm_E) := [(0, .aload_n 0, 1, 0, 0, 0), (1, .iload_n 1, 1, 0, 0, 0), (2, .invokevirtual 96, 3, 102, 22, 2), (5, .aload_n 0, 1, 0, 0, 0), (6, .iload_n 2, 1, 0, 0, 0), (7, .invokevirtual 96, 3, 102, 22, 2), (10, .if_icmp .eq 5, 3, 0, 0, 0), (13, .iconst 0, 1, 0, 0, 0), (14, .ireturn, 1, 1, 0, 0), (15, .iconst 0, 1, 0, 0, 0), (16, .istore_n 3, 1, 0, 0, 0), (17, .iload_n 3, 1, 0, 0, 0), (18, .aload_n 0, 1, 0, 0, 0), (19, .iload_n 1, 1, 0, 0, 0), (20, .invokevirtual 96, 3, 102, 22, 2), (23, .if_icmp .ge 26, 3, 0, 0, 0), (26, .aload_n 0, 1, 0, 0, 0), (27, .iload_n 1, 1, 0, 0, 0), (28, .iload_n 3, 1, 0, 0, 0), (29, .invokevirtual 99, 3, 102, 37, 3), (32, .aload_n 0, 1, 0, 0, 0), (33, .iload_n 2, 1, 0, 0, 0), (34, .iload_n 3, 1, 0, 0, 0), (35, .invokevirtual 99, 3, 102, 37, 3), (38, .if_icmp .eq 5, 3, 0, 0, 0), (41, .iconst 0, 1, 0, 0, 0), (42, .ireturn, 1, 1, 0, 0), (43, .iinc 3 1, 3, 0, 0, 0), (46, .goto (-29), 3, 5, 0, 0), (49, .iconst 1, 1, 0, 0, 0), (50, .ireturn, 1, 1, 0, 0)]
def cd_X2_reach : List (Nat × cm_E) := [(0, .aload_n 0, 1, 0, 0, 0), (1, .dup, 1, 0, 0, 0), (2, .getfield 102, 3, 0, 2, 10), (5, .iconst 1, 1, 0, 0, 0), (6, .iadd, 1, 0, 0, 0), (7, .putfield 102, 3, 0, 2, 10), (10, .aload_n 0, 1, 0, 0, 0), (11, .iload_n 1, 1, 0, 0, 0), (12, .invokevirtual 105, 3, 102, 40, 2), (15, .iconst 0, 1, 0, 0, 0), (16, .istore_n 2, 1, 0, 0, 0), (17, .iload_n 2, 1, 0, 0, 0), (18, .bipush 13, 2, 0, 0, 0), (20, .if_icmp .ge 19, 3, 0, 0, 0), (23, .aload_n 0, 1, 0, 0, 0), (24, .aload_n 0, 1, 0, 0, 0), (25, .iload_n 1, 1, 0, 0, 0), (26, .iload_n 2, 1, 0, 0, 0), (27, .invokevirtual 93, 3, 102, 23, 3), (30, .invokevirtual 105, 3, 102, 40, 2), (33, .iinc 2 1, 3, 0, 0, 0), (36, .goto (-19), 3, 4, 0, 0), (39, .iconst 0, 1, 0, 0, 0), (40, .istore_n 2, 1, 0, 0, 0), (41, .iload_n 2, 1, 0, 0, 0), (42, .bipush 12, 2, 0, 0, 0), (44, .if_icmp .ge 46, 3, 0, 0, 0), (47, .aload_n 0, 1, 0, 0, 0), (48, .iload_n 1, 1, 0, 0, 0), (49, .iload_n 2, 1, 0, 0, 0), (50, .invokevirtual 109, 3, 102, 36, 3), (53, .istore_n 3, 1, 0, 0, 0), (54, .iconst 0, 1, 0, 0, 0), (55, .istore 4, 2, 0, 0, 0), (57, .iload 4, 2, 0, 0, 0), (59, .aload_n 0, 1, 0, 0, 0), (60, .iload_n 3, 1, 0, 0, 0), (61, .invokevirtual 96, 3, 102, 22, 2), (64, .if_icmp .ge 20, 3, 0, 0, 0), (67, .aload_n 0, 1, 0, 0, 0), (68, .aload_n 0, 1, 0, 0, 0), (69, .iload_n 3, 1, 0, 0, 0), (70, .iload 4, 2, 0, 0, 0), (72, .invokevirtual 93, 3, 102, 23, 3), (75, .invokevirtual 105, 3, 102, 40, 2), (78, .iinc 4 1, 3, 0, 0, 0), (81, .goto (-24), 3, 6, 0, 0), (84, .iinc 2 1, 3, 0, 0, 0), (87, .goto (-46), 3, 4, 0, 0), (90, .return_, 1, 0, 0, 0)]
def cd_X2_reachBlock : List (Nat × cm_E) := [(0, .aload_n 0, 1, 0, 0, 0), (1, .iload_n 1, 1, 0, 0, 0), (2, .invokevirtual 56, 3, 102, 18, 2), (5, .ifCond .eq 13, 3, 0, 0, 0), (8, .aload_n 0, 1, 0, 0, 0), (9, .getfield 24, 3, 2, 2, 9), (12, .iload_n 1, 1, 0, 0, 0), (13, .aload_n 0, 1, 0, 0, 0), (14, .getfield 102, 3, 0, 2, 10), (17, .iastore, 1, 0, 0, 0), (18, .return_, 1, 0, 0, 0)]
def cd_X2_mapsReaching : List (Nat × cm_E) := [(0, .aload_n 0, 1, 0, 0, 0), (1, .iload_n 1, 1, 0, 0, 0), (2, .invokevirtual 56, 3, 102, 18, 2), (5, .ifCond .ne 5, 3, 0, 0, 0), (8, .iconst 0, 1, 0, 0, 0), (9, .ireturn, 1, 0, 0, 0), (10, .iconst 0, 1, 0, 0, 0), (11, .istore_n 3, 1, 0, 0, 0), (12, .iload_n 1, 1, 0, 0, 0), (13, .istore 4, 2, 0, 0, 0), (15, .iload 4, 2, 0, 0, 0), (17, .iload_n 2, 1, 0, 0, 0), (18, .if_icmp .ge 54, 3, 0, 0, 0), (21, .iload 4, 2, 0, 0, 0), (23, .aload_n 0, 1, 0, 0, 0), (24, .getfield 33, 3, 0, 2, 0), (27, .if_icmp .ge 45, 3, 0, 0, 0), (30, .aload_n 0, 1, 0, 0, 0), (31, .iload 4, 2, 0, 0, 0), (33, .invokevirtual 90, 3, 102, 31, 2), (36, .ifCond .eq 30, 3, 0, 0, 0), (39, .aload_n 0, 1, 0, 0, 0), (40, .iload 4, 2, 0, 0, 0), (42, .invokevirtual 112, 3, 102, 39, 2), (45, .iload_n 3, 1, 0, 0, 0), (46, .aload_n 0, 1, 0, 0, 0), (47, .getfield 24, 3, 2, 2, 9), (50, .iload_n 1, 1, 0, 0, 0), (51, .iaload, 1, 0, 0, 0), (52, .aload_n 0, 1, 0, 0, 0), (53, .getfield 102, 3, 0, 2, 10), (56, .if_icmp .ne 7, 3, 0, 0, 0), (59, .iconst 1, 1, 0, 0, 0), (60, .goto 4, 3, 0, 0, 0), (63, .iconst 0, 1, 0, 0, 0), (64, .iadd, 1, 0, 0, 0), (65, .istore_n 3, 1, 0, 0, 0), (66, .iinc 4 1, 3, 0, 0, 0), (69, .goto (-54), 3, 6, 0, 0), (72, .iload_n 3, 1, 0, 0, 0), (73, .ireturn, 1, 0, 0, 0)]
def cd_X2_deadBlocks : List (Nat × cm_E) := [(0, .aload_n 0, 1, 0, 0, 0), (1, .iload_n 1, 1, 0, 0, 0), (2, .invokevirtual 112, 3, 102, 39, 2), (5, .iconst 0, 1, 0, 0, 0), (6, .istore_n 3, 1, 0, 0, 0), (7, .iconst 0, 1, 0, 0, 0), (8, .istore 4, 2, 0, 0, 0), (10, .iload 4, 2, 0, 0, 0), (12, .iload_n 2, 1, 0, 0, 0), (13, .if_icmp .ge 58, 3, 0, 0, 0), (16, .iload 4, 2, 0, 0, 0), (18, .aload_n 0, 1, 0, 0, 0), (19, .getfield 33, 3, 0, 2, 0), (22, .if_icmp .ge 49, 3, 0, 0, 0), (25, .aload_n 0, 1, 0, 0, 0), (26, .getfield 15, 3, 2, 2, 6), (29, .iload 4, 2, 0, 0, 0), (31, .iaload, 1, 0, 0, 0), (32, .iconst 3, 1, 0, 0, 0), (33, .if_icmp .lt 32, 3, 0, 0, 0), (36, .aload_n 0, 1, 0, 0, 0), (37, .getfield 15, 3, 2, 2, 6), (40, .iload 4, 2, 0, 0, 0), (42, .iaload, 1, 0, 0, 0), (43, .bipush 6, 2, 0, 0, 0), (45, .if_icmp .gt 20, 3, 0, 0, 0), (48, .aload_n 0, 1, 0, 0, 0), (49, .getfield 24, 3, 2, 2, 9), (52, .iload 4, 2, 0, 0, 0), (54, .iaload, 1, 0, 0, 0), (55, .aload_n 0, 1, 0, 0, 0), (56, .getfield 102, 3, 0, 2, 10), (59, .if_icmp .eq 6, 3, 0, 0, 0), (62, .iinc 3 1, 3, 0, 0, 0), (65, .iinc 4 1, 3, 0, 0, 0), (68, .goto (-58), 3, 6, 0, 0), (71, .iload_n 3, 1, 0, 0, 0), (72, .ireturn, 1, 0, 0, 0)]
def cd_X2_badBlocks : List (Nat × cm_E) := [(0, .iconst 0, 1, 0, 0, 0), (1, .istore_n 2, 1, 0, 0, 0), (2, .iconst 0, 1, 0, 0, 0), (3, .istore_n 3, 1, 0, 0, 0), (4, .iload_n 3, 1, 0, 0, 0), (5, .iload_n 1, 1, 0, 0, 0), (6, .if_icmp .ge 31, 3, 0, 0, 0), (9, .iload_n 3, 1, 0, 0, 0), (10, .aload_n 0, 1, 0, 0, 0), (11, .getfield 33, 3, 0, 2, 0), (14, .if_icmp .ge 23, 3, 0, 0, 0), (17, .aload_n 0, 1, 0, 0, 0), (18, .getfield 15, 3, 2, 2, 6), (21, .iload_n 3, 1, 0, 0, 0), (22, .iaload, 1, 0, 0, 0), (23, .bipush 8, 2, 0, 0, 0), (25, .if_icmp .ne 6, 3, 0, 0, 0), (28, .iinc 2 1, 3, 0, 0, 0), (31, .iinc 3 1, 3, 0, 0, 0), (34, .goto (-30), 3, 5, 0, 0), (37, .iload_n 2, 1, 0, 0, 0), (38, .ireturn, 1, 0, 0, 0)]
def cd_X3_init : List (Nat × cm_E) := [(0, .aload_n 0, 1, 0, 0, 0), (1, .invokespecial 1, 3, 1, 0, 0), (4, .return_, 1, 0, 0, 0)]
def cd_X3_draw : List (Nat × cm_E) := [(0, .aload_n 0, 1, 0, 0, 0), (1, .aload_n 0, 1, 0, 0, 0), (2, .getfield 7, 3, 0, 3, 0), (5, .ldc 13, 2, 0, 1103515245, 0), (7, .imul, 1, 0, 0, 0), (8, .sipush 12345, 3, 0, 0, 0), (11, .iadd, 1, 0, 0, 0), (12, .putfield 7, 3, 0, 3, 0), (15, .iload_n 1, 1, 0, 0, 0), (16, .iconst 1, 1, 0, 0, 0), (17, .if_icmp .ge 7, 3, 0, 0, 0), (20, .iconst 0, 1, 0, 0, 0), (21, .goto 16, 3, 0, 0, 0), (24, .aload_n 0, 1, 0, 0, 0), (25, .getfield 7, 3, 0, 3, 0), (28, .bipush 16, 2, 0, 0, 0), (30, .iushr, 1, 0, 0, 0), (31, .sipush 32767, 3, 0, 0, 0), (34, .iand, 1, 0, 0, 0), (35, .iload_n 1, 1, 0, 0, 0), (36, .irem, 1, 0, 0, 0), (37, .ireturn, 1, 0, 0, 0)]
def cd_X4_init : List (Nat × cm_E) := [(0, .aload_n 0, 1, 0, 0, 0), (1, .invokespecial 1, 3, 1, 0, 0), (4, .aload_n 0, 1, 0, 0, 0), (5, .new 7, 3, 0, 2, 11), (8, .dup, 1, 0, 0, 0), (9, .invokespecial 9, 3, 102, 15, 1), (12, .putfield 10, 3, 2, 4, 1), (15, .aload_n 0, 1, 0, 0, 0), (16, .new 16, 3, 0, 6, 11), (19, .dup, 1, 0, 0, 0), (20, .invokespecial 18, 3, 106, 61, 1), (23, .putfield 19, 3, 2, 4, 2), (26, .aload_n 0, 1, 0, 0, 0), (27, .new 23, 3, 0, 0, 3), (30, .dup, 1, 0, 0, 0), (31, .invokespecial 25, 3, 100, 0, 1), (34, .putfield 26, 3, 2, 4, 3), (37, .return_, 1, 0, 0, 0)]
def cd_X5_init : List (Nat × cm_E) := [(0, .aload_n 0, 1, 0, 0, 0), (1, .invokespecial 3, 3, 1, 0, 0), (4, .aload_n 0, 1, 0, 0, 0), (5, .new 9, 3, 0, 7, 7), (8, .dup, 1, 0, 0, 0), (9, .invokespecial 11, 3, 107, 94, 1), (12, .putfield 12, 3, 2, 5, 0), (15, .aload_n 0, 1, 0, 0, 0), (16, .sipush 400, 3, 0, 0, 0), (19, .newarray .boolean, 2, 0, 0, 0), (21, .putfield 18, 3, 2, 5, 8), (24, .aload_n 0, 1, 0, 0, 0), (25, .bipush 12, 2, 0, 0, 0), (27, .newarray .int, 2, 0, 0, 0), (29, .putfield 22, 3, 2, 5, 10), (32, .aload_n 0, 1, 0, 0, 0), (33, .bipush 12, 2, 0, 0, 0), (35, .newarray .int, 2, 0, 0, 0), (37, .putfield 26, 3, 2, 5, 11), (40, .aload_n 0, 1, 0, 0, 0), (41, .bipush 96, 2, 0, 0, 0), (43, .newarray .int, 2, 0, 0, 0), (45, .putfield 29, 3, 2, 5, 12), (48, .return_, 1, 0, 0, 0)]
def cd_X5_readText : List (Nat × cm_E) := [(0, .aload_n 0, 1, 0, 0, 0), (1, .invokevirtual 32, 3, 105, 49, 1), (4, .aload_n 0, 1, 0, 0, 0), (5, .getfield 12, 3, 2, 5, 0), (8, .aload_n 1, 1, 0, 0, 0), (9, .iload_n 2, 1, 0, 0, 0), (10, .invokevirtual 35, 3, 107, 95, 3), (13, .iconst 0, 1, 0, 0, 0), (14, .istore_n 3, 1, 0, 0, 0), (15, .iload_n 3, 1, 0, 0, 0), (16, .iload_n 2, 1, 0, 0, 0), (17, .if_icmp .gt 30, 3, 0, 0, 0), (20, .aload_n 0, 1, 0, 0, 0), (21, .getfield 39, 3, 0, 5, 1), (24, .ifCond .ne 23, 3, 0, 0, 0), (27, .aload_n 0, 1, 0, 0, 0), (28, .getfield 12, 3, 2, 5, 0), (31, .getfield 43, 3, 0, 7, 4), (34, .ifCond .eq 13, 3, 0, 0, 0), (37, .aload_n 0, 1, 0, 0, 0), (38, .invokevirtual 46, 3, 105, 50, 1), (41, .iinc 3 1, 3, 0, 0, 0), (44, .goto (-29), 3, 5, 0, 0), (47, .return_, 1, 0, 0, 0)]
def cd_X5_forgetAll : List (Nat × cm_E) := [(0, .aload_n 0, 1, 0, 0, 0), (1, .iconst 0, 1, 0, 0, 0), (2, .putfield 39, 3, 0, 5, 1), (5, .aload_n 0, 1, 0, 0, 0), (6, .iconst (-1), 1, 0, 0, 0), (7, .putfield 49, 3, 0, 5, 2), (10, .aload_n 0, 1, 0, 0, 0), (11, .iconst 0, 1, 0, 0, 0), (12, .putfield 52, 3, 1, 5, 3), (15, .aload_n 0, 1, 0, 0, 0), (16, .sipush 200, 3, 0, 0, 0), (19, .putfield 56, 3, 0, 5, 4), (22, .aload_n 0, 1, 0, 0, 0), (23, .bipush 8, 2, 0, 0, 0), (25, .putfield 59, 3, 0, 5, 5), (28, .aload_n 0, 1, 0, 0, 0), (29, .iconst 1, 1, 0, 0, 0), (30, .putfield 62, 3, 0, 5, 6), (33, .aload_n 0, 1, 0, 0, 0), (34, .iconst 2, 1, 0, 0, 0), (35, .putfield 65, 3, 0, 5, 7), (38, .iconst 0, 1, 0, 0, 0), (39, .istore_n 1, 1, 0, 0, 0), (40, .iload_n 1, 1, 0, 0, 0), (41, .sipush 400, 3, 0, 0, 0), (44, .if_icmp .ge 16, 3, 0, 0, 0), (47, .aload_n 0, 1, 0, 0, 0), (48, .getfield 18, 3, 2, 5, 8), (51, .iload_n 1, 1, 0, 0, 0), (52, .iconst 0, 1, 0, 0, 0), (53, .bastore, 1, 0, 0, 0), (54, .iinc 1 1, 3, 0, 0, 0), (57, .goto (-17), 3, 3, 0, 0), (60, .aload_n 0, 1, 0, 0, 0), (61, .iconst 0, 1, 0, 0, 0), (62, .putfield 68, 3, 0, 5, 9), (65, .aload_n 0, 1, 0, 0, 0), (66, .iconst 0, 1, 0, 0, 0), (67, .putfield 71, 3, 0, 5, 13), (70, .return_, 1, 0, 0, 0)]
def cd_X5_readClause : List (Nat × cm_E) := [(0, .aload_n 0, 1, 0, 0, 0), (1, .getfield 12, 3, 2, 5, 0), (4, .ldc 74, 2, 1, 200000, 0), (6, .invokevirtual 76, 3, 107, 99, 2), (9, .ifCond .eq 10, 3, 0, 0, 0), (12, .aload_n 0, 1, 0, 0, 0), (13, .invokevirtual 80, 3, 105, 53, 1), (16, .goto 46, 3, 0, 0, 0), (19, .aload_n 0, 1, 0, 0, 0), (20, .getfield 12, 3, 2, 5, 0), (23, .ldc 83, 2, 1, 200001, 0), (25, .invokevirtual 76, 3, 107, 99, 2), (28, .ifCond .eq 10, 3, 0, 0, 0), (31, .aload_n 0, 1, 0, 0, 0), (32, .invokevirtual 84, 3, 105, 56, 1), (35, .goto 27, 3, 0, 0, 0), (38, .aload_n 0, 1, 0, 0, 0), (39, .getfield 12, 3, 2, 5, 0), (42, .ldc 87, 2, 1, 200002, 0), (44, .invokevirtual 76, 3, 107, 99, 2), (47, .ifCond .eq 10, 3, 0, 0, 0), (50, .aload_n 0, 1, 0, 0, 0), (51, .invokevirtual 89, 3, 105, 58, 1), (54, .goto 8, 3, 0, 0, 0), (57, .aload_n 0, 1, 0, 0, 0), (58, .iconst 1, 1, 0, 0, 0), (59, .invokevirtual 92, 3, 105, 51, 2), (62, .aload_n 0, 1, 0, 0, 0), (63, .getfield 39, 3, 0, 5, 1), (66, .ifCond .ne 7, 3, 0, 0, 0), (69, .aload_n 0, 1, 0, 0, 0), (70, .invokevirtual 96, 3, 105, 52, 1), (73, .return_, 1, 0, 0, 0)]
def cd_X5_fail : List (Nat × cm_E) := [(0, .aload_n 0, 1, 0, 0, 0), (1, .iload_n 1, 1, 0, 0, 0), (2, .putfield 39, 3, 0, 5, 1), (5, .aload_n 0, 1, 0, 0, 0), (6, .aload_n 0, 1, 0, 0, 0), (7, .getfield 12, 3, 2, 5, 0), (10, .getfield 99, 3, 0, 7, 3), (13, .putfield 49, 3, 0, 5, 2), (16, .return_, 1, 0, 0, 0)]
def cd_X5_readSemicolon : List (Nat × cm_E) := [(0, .aload_n 0, 1, 0, 0, 0), (1, .getfield 12, 3, 2, 5, 0), (4, .getfield 43, 3, 0, 7, 4), (7, .iconst 3, 1, 0, 0, 0), (8, .if_icmp .ne 13, 3, 0, 0, 0), (11, .aload_n 0, 1, 0, 0, 0), (12, .getfield 12, 3, 2, 5, 0), (15, .invokevirtual 102, 3, 107, 96, 1), (18, .goto 8, 3, 0, 0, 0), (21, .aload_n 0, 1, 0, 0, 0), (22, .iconst 1, 1, 0, 0, 0), (23, .invokevirtual 92, 3, 105, 51, 2), (26, .return_, 1, 0, 0, 0)]
def cd_X5_readDisc : List (Nat × cm_E) := [(0, .aload_n 0, 1, 0, 0, 0), (1, .getfield 52, 3, 1, 5, 3), (4, .ifCond .eq 9, 3, 0, 0, 0), (7, .aload_n 0, 1, 0, 0, 0), (8, .iconst 5, 1, 0, 0, 0), (9, .invokevirtual 92, 3, 105, 51, 2), (12, .return_, 1, 0, 0, 0), (13, .aload_n 0, 1, 0, 0, 0), (14, .iconst 1, 1, 0, 0, 0), (15, .putfield 52, 3, 1, 5, 3), (18, .aload_n 0, 1, 0, 0, 0), (19, .getfield 12, 3, 2, 5, 0), (22, .invokevirtual 102, 3, 107, 96, 1), (25, .aload_n 0, 1, 0, 0, 0), (26, .aload_n 0, 1, 0, 0, 0), (27, .bipush 40, 2, 0, 0, 0), (29, .sipush 400, 3, 0, 0, 0), (32, .invokevirtual 105, 3, 105, 54, 3), (35, .putfield 56, 3, 0, 5, 4), (38, .aload_n 0, 1, 0, 0, 0), (39, .aload_n 0, 1, 0, 0, 0), (40, .iconst 2, 1, 0, 0, 0), (41, .bipush 16, 2, 0, 0, 0), (43, .invokevirtual 105, 3, 105, 54, 3), (46, .putfield 59, 3, 0, 5, 5), (49, .aload_n 0, 1, 0, 0, 0), (50, .aload_n 0, 1, 0, 0, 0), (51, .iconst 0, 1, 0, 0, 0), (52, .iconst 4, 1, 0, 0, 0), (53, .invokevirtual 105, 3, 105, 54, 3), (56, .putfield 62, 3, 0, 5, 6), (59, .aload_n 0, 1, 0, 0, 0), (60, .aload_n 0, 1, 0, 0, 0), (61, .iconst 0, 1, 0, 0, 0), (62, .bipush 8, 2, 0, 0, 0), (64, .invokevirtual 105, 3, 105, 54, 3), (67, .putfield 65, 3, 0, 5, 7), (70, .return_, 1, 0, 0, 0)]
def cd_X5_readNumber : List (Nat × cm_E) := [(0, .aload_n 0, 1, 0, 0, 0), (1, .getfield 39, 3, 0, 5, 1), (4, .ifCond .ne 12, 3, 0, 0, 0), (7, .aload_n 0, 1, 0, 0, 0), (8, .iload_n 1, 1, 0, 0, 0), (9, .iload_n 2, 1, 0, 0, 0), (10, .invokevirtual 109, 3, 105, 55, 3), (13, .ifCond .ne 5, 3, 0, 0, 0), (16, .iconst 0, 1, 0, 0, 0), (17, .ireturn, 1, 0, 0, 0), (18, .aload_n 0, 1, 0, 0, 0), (19, .getfield 12, 3, 2, 5, 0), (22, .getfield 113, 3, 0, 7, 5), (25, .istore_n 3, 1, 0, 0, 0), (26, .aload_n 0, 1, 0, 0, 0), (27, .getfield 12, 3, 2, 5, 0), (30, .invokevirtual 102, 3, 107, 96, 1), (33, .iload_n 3, 1, 0, 0, 0), (34, .ireturn, 1, 0, 0, 0)]
def cd_X5_isFit : List (Nat × cm_E) := [(0, .aload_n 0, 1, 0, 0, 0), (1, .getfield 12, 3, 2, 5, 0), (4, .getfield 43, 3, 0, 7, 4), (7, .iconst 2, 1, 0, 0, 0), (8, .if_icmp .eq 10, 3, 0, 0, 0), (11, .aload_n 0, 1, 0, 0, 0), (12, .iconst 1, 1, 0, 0, 0), (13, .invokevirtual 92, 3, 105, 51, 2), (16, .iconst 0, 1, 0, 0, 0), (17, .ireturn, 1, 1, 0, 0), (18, .aload_n 0, 1, 0, 0, 0), (19, .getfield 12, 3, 2, 5, 0), (22, .getfield 116, 3, 0, 7, 6), (25, .iconst 4, 1, 0, 0, 0), (26, .if_icmp .gt 25, 3, 0, 0, 0), (29, .aload_n 0, 1, 0, 0, 0), (30, .getfield 12, 3, 2, 5, 0), (33, .getfield 113, 3, 0, 7, 5), (36, .iload_n 1, 1, 0, 0, 0), (37, .if_icmp .lt 14, 3, 0, 0, 0), (40, .aload_n 0, 1, 0, 0, 0), (41, .getfield 12, 3, 2, 5, 0), (44, .getfield 113, 3, 0, 7, 5), (47, .iload_n 2, 1, 0, 0, 0), (48, .if_icmp .le 10, 3, 0, 0, 0), (51, .aload_n 0, 1, 0, 0, 0), (52, .iconst 2, 1, 0, 0, 0), (53, .invokevirtual 92, 3, 105, 51, 2), (56, .iconst 0, 1, 0, 0, 0), (57, .ireturn, 1, 1, 0, 0), (58, .iconst 1, 1, 0, 0, 0), (59, .ireturn, 1, 1, 0, 0)]
def cd_X5_readBad : List (Nat × cm_E) := [(0, .aload_n 0, 1, 0, 0, 0), (1, .getfield 12, 3, 2, 5, 0), (4, .invokevirtual 102, 3, 107, 96, 1), (7, .aload_n 0, 1, 0, 0, 0), (8, .invokevirtual 119, 3, 105, 57, 1), (11, .iconst 0, 1, 0, 0, 0), (12, .istore_n 1, 1, 0, 0, 0), (13, .iload_n 1, 1, 0, 0, 0), (14, .bipush 12, 2, 0, 0, 0), (16, .if_icmp .gt 31, 3, 0, 0, 0), (19, .aload_n 0, 1, 0, 0, 0), (20, .getfield 39, 3, 0, 5, 1), (23, .ifCond .ne 24, 3, 0, 0, 0), (26, .aload_n 0, 1, 0, 0, 0), (27, .getfield 12, 3, 2, 5, 0), (30, .getfield 43, 3, 0, 7, 4), (33, .iconst 2, 1, 0, 0, 0), (34, .if_icmp .ne 13, 3, 0, 0, 0), (37, .aload_n 0, 1, 0, 0, 0), (38, .invokevirtual 119, 3, 105, 57, 1), (41, .iinc 1 1, 3, 0, 0, 0), (44, .goto (-31), 3, 3, 0, 0), (47, .return_, 1, 0, 0, 0)]
def cd_X5_readBadBlock : List (Nat × cm_E) := [(0, .aload_n 0, 1, 0, 0, 0), (1, .iconst 0, 1, 0, 0, 0), (2, .sipush 399, 3, 0, 0, 0), (5, .invokevirtual 109, 3, 105, 55, 3), (8, .ifCond .ne 4, 3, 0, 0, 0), (11, .return_, 1, 0, 0, 0), (12, .aload_n 0, 1, 0, 0, 0), (13, .getfield 68, 3, 0, 5, 9), (16, .bipush 12, 2, 0, 0, 0), (18, .if_icmp .lt 11, 3, 0, 0, 0), (21, .aload_n 0, 1, 0, 0, 0), (22, .iconst 2, 1, 0, 0, 0), (23, .invokevirtual 92, 3, 105, 51, 2), (26, .goto 56, 3, 0, 0, 0), (29, .aload_n 0, 1, 0, 0, 0), (30, .getfield 18, 3, 2, 5, 8), (33, .aload_n 0, 1, 0, 0, 0), (34, .getfield 12, 3, 2, 5, 0), (37, .getfield 113, 3, 0, 7, 5), (40, .baload, 1, 0, 0, 0), (41, .ifCond .eq 11, 3, 0, 0, 0), (44, .aload_n 0, 1, 0, 0, 0), (45, .iconst 4, 1, 0, 0, 0), (46, .invokevirtual 92, 3, 105, 51, 2), (49, .goto 33, 3, 0, 0, 0), (52, .aload_n 0, 1, 0, 0, 0), (53, .getfield 18, 3, 2, 5, 8), (56, .aload_n 0, 1, 0, 0, 0), (57, .getfield 12, 3, 2, 5, 0), (60, .getfield 113, 3, 0, 7, 5), (63, .iconst 1, 1, 0, 0, 0), (64, .bastore, 1, 0, 0, 0), (65, .aload_n 0, 1, 0, 0, 0), (66, .dup, 1, 0, 0, 0), (67, .getfield 68, 3, 0, 5, 9), (70, .iconst 1, 1, 0, 0, 0), (71, .iadd, 1, 0, 0, 0), (72, .putfield 68, 3, 0, 5, 9), (75, .aload_n 0, 1, 0, 0, 0), (76, .getfield 12, 3, 2, 5, 0), (79, .invokevirtual 102, 3, 107, 96, 1), (82, .return_, 1, 0, 0, 0)]
def cd_X5_readFile : List (Nat × cm_E) := [(0, .aload_n 0, 1, 0, 0, 0), (1, .getfield 12, 3, 2, 5, 0), (4, .invokevirtual 102, 3, 107, 96, 1), (7, .aload_n 0, 1, 0, 0, 0), (8, .iconst 0, 1, 0, 0, 0), (9, .bipush 11, 2, 0, 0, 0), (11, .invokevirtual 109, 3, 105, 55, 3), (14, .ifCond .ne 4, 3, 0, 0, 0), (17, .return_, 1, 0, 0, 0), (18, .aload_n 0, 1, 0, 0, 0), (19, .aload_n 0, 1, 0, 0, 0), (20, .getfield 12, 3, 2, 5, 0), (23, .getfield 113, 3, 0, 7, 5), (26, .invokevirtual 122, 3, 105, 59, 2), (29, .ifCond .ne 12, 3, 0, 0, 0), (32, .aload_n 0, 1, 0, 0, 0), (33, .getfield 71, 3, 0, 5, 13), (36, .bipush 12, 2, 0, 0, 0), (38, .if_icmp .lt 9, 3, 0, 0, 0), (41, .aload_n 0, 1, 0, 0, 0), (42, .iconst 4, 1, 0, 0, 0), (43, .invokevirtual 92, 3, 105, 51, 2), (46, .return_, 1, 0, 0, 0), (47, .aload_n 0, 1, 0, 0, 0), (48, .getfield 22, 3, 2, 5, 10), (51, .aload_n 0, 1, 0, 0, 0), (52, .getfield 71, 3, 0, 5, 13), (55, .aload_n 0, 1, 0, 0, 0), (56, .getfield 12, 3, 2, 5, 0), (59, .getfield 113, 3, 0, 7, 5), (62, .iastore, 1, 0, 0, 0), (63, .aload_n 0, 1, 0, 0, 0), (64, .getfield 26, 3, 2, 5, 11), (67, .aload_n 0, 1, 0, 0, 0), (68, .getfield 71, 3, 0, 5, 13), (71, .iconst 0, 1, 0, 0, 0), (72, .iastore, 1, 0, 0, 0), (73, .aload_n 0, 1, 0, 0, 0), (74, .getfield 12, 3, 2, 5, 0), (77, .invokevirtual 102, 3, 107, 96, 1), (80, .iconst 0, 1, 0, 0, 0), (81, .istore_n 1, 1, 0, 0, 0), (82, .iload_n 1, 1, 0, 0, 0), (83, .bipush 8, 2, 0, 0, 0), (85, .if_icmp .gt 31, 3, 0, 0, 0), (88, .aload_n 0, 1, 0, 0, 0), (89, .getfield 39, 3, 0, 5, 1), (92, .ifCond .ne 24, 3, 0, 0, 0), (95, .aload_n 0, 1, 0, 0, 0), (96, .getfield 12, 3, 2, 5, 0), (99, .getfield 43, 3, 0, 7, 4), (102, .iconst 2, 1, 0, 0, 0), (103, .if_icmp .ne 13, 3, 0, 0, 0), (106, .aload_n 0, 1, 0, 0, 0), (107, .invokevirtual 126, 3, 105, 60, 1), (110, .iinc 1 1, 3, 0, 0, 0), (113, .goto (-31), 3, 3, 0, 0), (116, .aload_n 0, 1, 0, 0, 0), (117, .dup, 1, 0, 0, 0), (118, .getfield 71, 3, 0, 5, 13), (121, .iconst 1, 1, 0, 0, 0), (122, .iadd, 1, 0, 0, 0), (123, .putfield 71, 3, 0, 5, 13), (126, .return_, 1, 0, 0, 0)]
def cd_X5_isTold : List (Nat × cm_E) := [(0, .iconst 0, 1, 0, 0, 0), (1, .istore_n 2, 1, 0, 0, 0), (2, .iload_n 2, 1, 0, 0, 0), (3, .aload_n 0, 1, 0, 0, 0), (4, .getfield 71, 3, 0, 5, 13), (7, .if_icmp .ge 21, 3, 0, 0, 0), (10, .aload_n 0, 1, 0, 0, 0), (11, .getfield 22, 3, 2, 5, 10), (14, .iload_n 2, 1, 0, 0, 0), (15, .iaload, 1, 0, 0, 0), (16, .iload_n 1, 1, 0, 0, 0), (17, .if_icmp .ne 5, 3, 0, 0, 0), (20, .iconst 1, 1, 0, 0, 0), (21, .ireturn, 1, 1, 0, 0), (22, .iinc 2 1, 3, 0, 0, 0), (25, .goto (-23), 3, 4, 0, 0), (28, .iconst 0, 1, 0, 0, 0), (29, .ireturn, 1, 1, 0, 0)]
def cd_X5_readCell : List (Nat × cm_E) := [(0, .aload_n 0, 1, 0, 0, 0), (1, .iconst 0, 1, 0, 0, 0), (2, .sipush 999, 3, 0, 0, 0), (5, .invokevirtual 109, 3, 105, 55, 3), (8, .ifCond .ne 4, 3, 0, 0, 0), (11, .return_, 1, 0, 0, 0), (12, .aload_n 0, 1, 0, 0, 0), (13, .getfield 26, 3, 2, 5, 11), (16, .aload_n 0, 1, 0, 0, 0), (17, .getfield 71, 3, 0, 5, 13), (20, .iaload, 1, 0, 0, 0), (21, .bipush 8, 2, 0, 0, 0), (23, .if_icmp .lt 9, 3, 0, 0, 0), (26, .aload_n 0, 1, 0, 0, 0), (27, .iconst 2, 1, 0, 0, 0), (28, .invokevirtual 92, 3, 105, 51, 2), (31, .return_, 1, 0, 0, 0), (32, .aload_n 0, 1, 0, 0, 0), (33, .getfield 29, 3, 2, 5, 12), (36, .aload_n 0, 1, 0, 0, 0), (37, .getfield 71, 3, 0, 5, 13), (40, .bipush 8, 2, 0, 0, 0), (42, .imul, 1, 0, 0, 0), (43, .aload_n 0, 1, 0, 0, 0), (44, .getfield 26, 3, 2, 5, 11), (47, .aload_n 0, 1, 0, 0, 0), (48, .getfield 71, 3, 0, 5, 13), (51, .iaload, 1, 0, 0, 0), (52, .iadd, 1, 0, 0, 0), (53, .aload_n 0, 1, 0, 0, 0), (54, .getfield 12, 3, 2, 5, 0), (57, .getfield 113, 3, 0, 7, 5), (60, .iastore, 1, 0, 0, 0), (61, .aload_n 0, 1, 0, 0, 0), (62, .getfield 26, 3, 2, 5, 11), (65, .aload_n 0, 1, 0, 0, 0), (66, .getfield 71, 3, 0, 5, 13), (69, .dup2, 1, 0, 0, 0), (70, .iaload, 1, 0, 0, 0), (71, .iconst 1, 1, 0, 0, 0), (72, .iadd, 1, 0, 0, 0), (73, .iastore, 1, 0, 0, 0), (74, .aload_n 0, 1, 0, 0, 0), (75, .getfield 12, 3, 2, 5, 0), (78, .invokevirtual 102, 3, 107, 96, 1), (81, .return_, 1, 0, 0, 0)]
def cd_X6_init : List (Nat × cm_E) := [(0, .aload_n 0, 1, 0, 0, 0), (1, .invokespecial 3, 3, 1, 0, 0), (4, .aload_n 0, 1, 0, 0, 0), (5, .bipush 12, 2, 0, 0, 0), (7, .newarray .int, 2, 0, 0, 0), (9, .putfield 9, 3, 2, 6, 0), (12, .aload_n 0, 1, 0, 0, 0), (13, .bipush 12, 2, 0, 0, 0), (15, .newarray .int, 2, 0, 0, 0), (17, .putfield 15, 3, 2, 6, 1), (20, .aload_n 0, 1, 0, 0, 0), (21, .bipush 12, 2, 0, 0, 0), (23, .newarray .boolean, 2, 0, 0, 0), (25, .putfield 18, 3, 2, 6, 2), (28, .aload_n 0, 1, 0, 0, 0), (29, .bipush 96, 2, 0, 0, 0), (31, .newarray .int, 2, 0, 0, 0), (33, .putfield 22, 3, 2, 6, 3), (36, .aload_n 0, 1, 0, 0, 0), (37, .bipush 96, 2, 0, 0, 0), (39, .newarray .int, 2, 0, 0, 0), (41, .putfield 25, 3, 2, 6, 4), (44, .aload_n 0, 1, 0, 0, 0), (45, .bipush 13, 2, 0, 0, 0), (47, .newarray .int, 2, 0, 0, 0), (49, .putfield 28, 3, 2, 6, 5), (52, .return_, 1, 0, 0, 0)]
def cd_X6_takeFrom : List (Nat × cm_E) := [(0, .aload_n 1, 1, 0, 0, 0), (1, .getfield 9, 3, 2, 6, 0), (4, .iconst 0, 1, 0, 0, 0), (5, .aload_n 0, 1, 0, 0, 0), (6, .getfield 9, 3, 2, 6, 0), (9, .iconst 0, 1, 0, 0, 0), (10, .bipush 12, 2, 0, 0, 0), (12, .invokestatic 31, 3, 5, 0, 0), (15, .aload_n 1, 1, 0, 0, 0), (16, .getfield 15, 3, 2, 6, 1), (19, .iconst 0, 1, 0, 0, 0), (20, .aload_n 0, 1, 0, 0, 0), (21, .getfield 15, 3, 2, 6, 1), (24, .iconst 0, 1, 0, 0, 0), (25, .bipush 12, 2, 0, 0, 0), (27, .invokestatic 31, 3, 5, 0, 0), (30, .iconst 0, 1, 0, 0, 0), (31, .istore_n 2, 1, 0, 0, 0), (32, .iload_n 2, 1, 0, 0, 0), (33, .bipush 12, 2, 0, 0, 0), (35, .if_icmp .ge 21, 3, 0, 0, 0), (38, .aload_n 0, 1, 0, 0, 0), (39, .getfield 18, 3, 2, 6, 2), (42, .iload_n 2, 1, 0, 0, 0), (43, .aload_n 1, 1, 0, 0, 0), (44, .getfield 18, 3, 2, 6, 2), (47, .iload_n 2, 1, 0, 0, 0), (48, .baload, 1, 0, 0, 0), (49, .bastore, 1, 0, 0, 0), (50, .iinc 2 1, 3, 0, 0, 0), (53, .goto (-21), 3, 4, 0, 0), (56, .aload_n 1, 1, 0, 0, 0), (57, .getfield 22, 3, 2, 6, 3), (60, .iconst 0, 1, 0, 0, 0), (61, .aload_n 0, 1, 0, 0, 0), (62, .getfield 22, 3, 2, 6, 3), (65, .iconst 0, 1, 0, 0, 0), (66, .bipush 96, 2, 0, 0, 0), (68, .invokestatic 31, 3, 5, 0, 0), (71, .aload_n 1, 1, 0, 0, 0), (72, .getfield 25, 3, 2, 6, 4), (75, .iconst 0, 1, 0, 0, 0), (76, .aload_n 0, 1, 0, 0, 0), (77, .getfield 25, 3, 2, 6, 4), (80, .iconst 0, 1, 0, 0, 0), (81, .bipush 96, 2, 0, 0, 0), (83, .invokestatic 31, 3, 5, 0, 0), (86, .aload_n 1, 1, 0, 0, 0), (87, .getfield 28, 3, 2, 6, 5), (90, .iconst 0, 1, 0, 0, 0), (91, .aload_n 0, 1, 0, 0, 0), (92, .getfield 28, 3, 2, 6, 5), (95, .iconst 0, 1, 0, 0, 0), (96, .bipush 13, 2, 0, 0, 0), (98, .invokestatic 31, 3, 5, 0, 0), (101, .aload_n 0, 1, 0, 0, 0), (102, .aload_n 1, 1, 0, 0, 0), (103, .getfield 37, 3, 1, 6, 6), (106, .putfield 37, 3, 1, 6, 6), (109, .aload_n 0, 1, 0, 0, 0), (110, .aload_n 1, 1, 0, 0, 0), (111, .getfield 41, 3, 0, 6, 7), (114, .putfield 41, 3, 0, 6, 7), (117, .aload_n 0, 1, 0, 0, 0), (118, .aload_n 1, 1, 0, 0, 0), (119, .getfield 45, 3, 0, 6, 8), (122, .putfield 45, 3, 0, 6, 8), (125, .aload_n 0, 1, 0, 0, 0), (126, .aload_n 1, 1, 0, 0, 0), (127, .getfield 48, 3, 0, 6, 9), (130, .putfield 48, 3, 0, 6, 9), (133, .aload_n 0, 1, 0, 0, 0), (134, .aload_n 1, 1, 0, 0, 0), (135, .getfield 51, 3, 0, 6, 10), (138, .putfield 51, 3, 0, 6, 10), (141, .return_, 1, 0, 0, 0)]
def cd_X6_takeOver : List (Nat × cm_E) := [(0, .aload_n 0, 1, 0, 0, 0), (1, .invokevirtual 54, 3, 106, 64, 1), (4, .aload_n 0, 1, 0, 0, 0), (5, .iconst (-1), 1, 0, 0, 0), (6, .putfield 41, 3, 0, 6, 7), (9, .aload_n 0, 1, 0, 0, 0), (10, .iconst 0, 1, 0, 0, 0), (11, .putfield 45, 3, 0, 6, 8), (14, .aload_n 0, 1, 0, 0, 0), (15, .iconst 0, 1, 0, 0, 0), (16, .putfield 48, 3, 0, 6, 9), (19, .aload_n 0, 1, 0, 0, 0), (20, .iconst 0, 1, 0, 0, 0), (21, .putfield 51, 3, 0, 6, 10), (24, .aload_n 0, 1, 0, 0, 0), (25, .aload_n 1, 1, 0, 0, 0), (26, .getfield 57, 3, 0, 5, 13), (29, .ifCond .le 7, 3, 0, 0, 0), (32, .iconst 1, 1, 0, 0, 0), (33, .goto 4, 3, 0, 0, 0), (36, .iconst 0, 1, 0, 0, 0), (37, .putfield 37, 3, 1, 6, 6), (40, .iconst 0, 1, 0, 0, 0), (41, .istore_n 2, 1, 0, 0, 0), (42, .iload_n 2, 1, 0, 0, 0), (43, .aload_n 1, 1, 0, 0, 0), (44, .getfield 57, 3, 0, 5, 13), (47, .if_icmp .ge 90, 3, 0, 0, 0), (50, .iload_n 2, 1, 0, 0, 0), (51, .bipush 12, 2, 0, 0, 0), (53, .if_icmp .ge 84, 3, 0, 0, 0), (56, .aload_n 1, 1, 0, 0, 0), (57, .getfield 62, 3, 2, 5, 10), (60, .iload_n 2, 1, 0, 0, 0), (61, .iaload, 1, 0, 0, 0), (62, .istore_n 3, 1, 0, 0, 0), (63, .aload_n 0, 1, 0, 0, 0), (64, .getfield 9, 3, 2, 6, 0), (67, .iload_n 3, 1, 0, 0, 0), (68, .iload_n 2, 1, 0, 0, 0), (69, .iconst 1, 1, 0, 0, 0), (70, .iadd, 1, 0, 0, 0), (71, .iastore, 1, 0, 0, 0), (72, .aload_n 0, 1, 0, 0, 0), (73, .getfield 15, 3, 2, 6, 1), (76, .iload_n 3, 1, 0, 0, 0), (77, .aload_n 1, 1, 0, 0, 0), (78, .getfield 65, 3, 2, 5, 11), (81, .iload_n 2, 1, 0, 0, 0), (82, .iaload, 1, 0, 0, 0), (83, .iastore, 1, 0, 0, 0), (84, .aload_n 0, 1, 0, 0, 0), (85, .getfield 18, 3, 2, 6, 2), (88, .iload_n 3, 1, 0, 0, 0), (89, .iconst 1, 1, 0, 0, 0), (90, .bastore, 1, 0, 0, 0), (91, .iconst 0, 1, 0, 0, 0), (92, .istore 4, 2, 0, 0, 0), (94, .iload 4, 2, 0, 0, 0), (96, .aload_n 0, 1, 0, 0, 0), (97, .getfield 15, 3, 2, 6, 1), (100, .iload_n 3, 1, 0, 0, 0), (101, .iaload, 1, 0, 0, 0), (102, .if_icmp .ge 29, 3, 0, 0, 0), (105, .aload_n 0, 1, 0, 0, 0), (106, .iload_n 3, 1, 0, 0, 0), (107, .iload 4, 2, 0, 0, 0), (109, .iconst (-1), 1, 0, 0, 0), (110, .aload_n 1, 1, 0, 0, 0), (111, .getfield 66, 3, 2, 5, 12), (114, .iload_n 2, 1, 0, 0, 0), (115, .bipush 8, 2, 0, 0, 0), (117, .imul, 1, 0, 0, 0), (118, .iload 4, 2, 0, 0, 0), (120, .iadd, 1, 0, 0, 0), (121, .iaload, 1, 0, 0, 0), (122, .invokevirtual 67, 3, 106, 69, 5), (125, .iinc 4 1, 3, 0, 0, 0), (128, .goto (-34), 3, 6, 0, 0), (131, .iinc 2 1, 3, 0, 0, 0), (134, .goto (-92), 3, 4, 0, 0), (137, .return_, 1, 0, 0, 0)]
def cd_X6_dropFiles : List (Nat × cm_E) := [(0, .aload_n 0, 1, 0, 0, 0), (1, .getfield 9, 3, 2, 6, 0), (4, .iconst 0, 1, 0, 0, 0), (5, .invokestatic 71, 3, 0, 294, 2), (8, .aload_n 0, 1, 0, 0, 0), (9, .getfield 15, 3, 2, 6, 1), (12, .iconst 0, 1, 0, 0, 0), (13, .invokestatic 71, 3, 0, 294, 2), (16, .aload_n 0, 1, 0, 0, 0), (17, .getfield 28, 3, 2, 6, 5), (20, .iconst (-1), 1, 0, 0, 0), (21, .invokestatic 71, 3, 0, 294, 2), (24, .aload_n 0, 1, 0, 0, 0), (25, .invokevirtual 77, 3, 106, 65, 1), (28, .return_, 1, 0, 0, 0)]
def cd_X6_settleChanges : List (Nat × cm_E) := [(0, .iconst 0, 1, 0, 0, 0), (1, .istore_n 1, 1, 0, 0, 0), (2, .iload_n 1, 1, 0, 0, 0), (3, .bipush 12, 2, 0, 0, 0), (5, .if_icmp .ge 16, 3, 0, 0, 0), (8, .aload_n 0, 1, 0, 0, 0), (9, .getfield 18, 3, 2, 6, 2), (12, .iload_n 1, 1, 0, 0, 0), (13, .iconst 0, 1, 0, 0, 0), (14, .bastore, 1, 0, 0, 0), (15, .iinc 1 1, 3, 0, 0, 0), (18, .goto (-16), 3, 3, 0, 0), (21, .aload_n 0, 1, 0, 0, 0), (22, .iconst 0, 1, 0, 0, 0), (23, .putfield 37, 3, 1, 6, 6), (26, .return_, 1, 0, 0, 0)]
def cd_X6_settle : List (Nat × cm_E) := [(0, .aload_n 0, 1, 0, 0, 0), (1, .iload_n 1, 1, 0, 0, 0), (2, .putfield 41, 3, 0, 6, 7), (5, .aload_n 0, 1, 0, 0, 0), (6, .invokevirtual 77, 3, 106, 65, 1), (9, .return_, 1, 0, 0, 0)]
def cd_X6_mountMap : List (Nat × cm_E) := [(0, .aload_n 0, 1, 0, 0, 0), (1, .invokevirtual 54, 3, 106, 64, 1), (4, .aload_n 0, 1, 0, 0, 0), (5, .iload_n 2, 1, 0, 0, 0), (6, .putfield 41, 3, 0, 6, 7), (9, .aload_n 0, 1, 0, 0, 0), (10, .iload_n 2, 1, 0, 0, 0), (11, .iconst (-1), 1, 0, 0, 0), (12, .if_icmp .ne 7, 3, 0, 0, 0), (15, .iconst 0, 1, 0, 0, 0), (16, .goto 10, 3, 0, 0, 0), (19, .aload_n 1, 1, 0, 0, 0), (20, .iload_n 2, 1, 0, 0, 0), (21, .bipush 14, 2, 0, 0, 0), (23, .invokevirtual 80, 3, 102, 23, 3), (26, .putfield 45, 3, 0, 6, 8), (29, .iconst 0, 1, 0, 0, 0), (30, .istore_n 3, 1, 0, 0, 0), (31, .iload_n 3, 1, 0, 0, 0), (32, .bipush 13, 2, 0, 0, 0), (34, .if_icmp .ge 21, 3, 0, 0, 0), (37, .aload_n 0, 1, 0, 0, 0), (38, .getfield 28, 3, 2, 6, 5), (41, .iload_n 3, 1, 0, 0, 0), (42, .aload_n 1, 1, 0, 0, 0), (43, .iload_n 2, 1, 0, 0, 0), (44, .iload_n 3, 1, 0, 0, 0), (45, .invokevirtual 80, 3, 102, 23, 3), (48, .iastore, 1, 0, 0, 0), (49, .iinc 3 1, 3, 0, 0, 0), (52, .goto (-21), 3, 5, 0, 0), (55, .iconst 0, 1, 0, 0, 0), (56, .istore_n 3, 1, 0, 0, 0), (57, .iload_n 3, 1, 0, 0, 0), (58, .bipush 12, 2, 0, 0, 0), (60, .if_icmp .ge 49, 3, 0, 0, 0), (63, .aload_n 1, 1, 0, 0, 0), (64, .aload_n 0, 1, 0, 0, 0), (65, .getfield 28, 3, 2, 6, 5), (68, .iconst 0, 1, 0, 0, 0), (69, .iaload, 1, 0, 0, 0), (70, .iload_n 3, 1, 0, 0, 0), (71, .invokevirtual 80, 3, 102, 23, 3), (74, .istore 4, 2, 0, 0, 0), (76, .iload 4, 2, 0, 0, 0), (78, .iconst (-1), 1, 0, 0, 0), (79, .if_icmp .eq 24, 3, 0, 0, 0), (82, .aload_n 0, 1, 0, 0, 0), (83, .getfield 9, 3, 2, 6, 0), (86, .iload_n 3, 1, 0, 0, 0), (87, .iload 4, 2, 0, 0, 0), (89, .iastore, 1, 0, 0, 0), (90, .aload_n 0, 1, 0, 0, 0), (91, .iload_n 3, 1, 0, 0, 0), (92, .aload_n 1, 1, 0, 0, 0), (93, .aload_n 1, 1, 0, 0, 0), (94, .iload_n 2, 1, 0, 0, 0), (95, .iload 4, 2, 0, 0, 0), (97, .invokevirtual 80, 3, 102, 23, 3), (100, .invokevirtual 86, 3, 106, 68, 4), (103, .iinc 3 1, 3, 0, 0, 0), (106, .goto (-49), 3, 5, 0, 0), (109, .return_, 1, 0, 0, 0)]
def cd_X6_takeCells : List (Nat × cm_E) := [(0, .aload_n 0, 1, 0, 0, 0), (1, .getfield 15, 3, 2, 6, 1), (4, .iload_n 1, 1, 0, 0, 0), (5, .aload_n 2, 1, 0, 0, 0), (6, .iload_n 3, 1, 0, 0, 0), (7, .invokevirtual 90, 3, 102, 22, 2), (10, .bipush 8, 2, 0, 0, 0), (12, .invokestatic 94, 3, 2, 0, 0), (15, .iastore, 1, 0, 0, 0), (16, .iconst 0, 1, 0, 0, 0), (17, .istore 4, 2, 0, 0, 0), (19, .iload 4, 2, 0, 0, 0), (21, .aload_n 0, 1, 0, 0, 0), (22, .getfield 15, 3, 2, 6, 1), (25, .iload_n 1, 1, 0, 0, 0), (26, .iaload, 1, 0, 0, 0), (27, .if_icmp .ge 34, 3, 0, 0, 0), (30, .aload_n 2, 1, 0, 0, 0), (31, .iload_n 3, 1, 0, 0, 0), (32, .iload 4, 2, 0, 0, 0), (34, .invokevirtual 80, 3, 102, 23, 3), (37, .istore 5, 2, 0, 0, 0), (39, .aload_n 0, 1, 0, 0, 0), (40, .iload_n 1, 1, 0, 0, 0), (41, .iload 4, 2, 0, 0, 0), (43, .iload 5, 2, 0, 0, 0), (45, .aload_n 2, 1, 0, 0, 0), (46, .iload 5, 2, 0, 0, 0), (48, .iconst 0, 1, 0, 0, 0), (49, .invokevirtual 80, 3, 102, 23, 3), (52, .invokevirtual 67, 3, 106, 69, 5), (55, .iinc 4 1, 3, 0, 0, 0), (58, .goto (-39), 3, 6, 0, 0), (61, .return_, 1, 0, 0, 0)]
def cd_X6_putCell : List (Nat × cm_E) := [(0, .aload_n 0, 1, 0, 0, 0), (1, .getfield 22, 3, 2, 6, 3), (4, .iload_n 1, 1, 0, 0, 0), (5, .bipush 8, 2, 0, 0, 0), (7, .imul, 1, 0, 0, 0), (8, .iload_n 2, 1, 0, 0, 0), (9, .iadd, 1, 0, 0, 0), (10, .iload_n 3, 1, 0, 0, 0), (11, .iastore, 1, 0, 0, 0), (12, .aload_n 0, 1, 0, 0, 0), (13, .getfield 25, 3, 2, 6, 4), (16, .iload_n 1, 1, 0, 0, 0), (17, .bipush 8, 2, 0, 0, 0), (19, .imul, 1, 0, 0, 0), (20, .iload_n 2, 1, 0, 0, 0), (21, .iadd, 1, 0, 0, 0), (22, .iload 4, 2, 0, 0, 0), (24, .iastore, 1, 0, 0, 0), (25, .return_, 1, 0, 0, 0)]
def cd_X6_has : List (Nat × cm_E) := [(0, .iload_n 1, 1, 0, 0, 0), (1, .invokestatic 99, 3, 0, 160, 1), (4, .ifCond .eq 16, 3, 0, 0, 0), (7, .aload_n 0, 1, 0, 0, 0), (8, .getfield 9, 3, 2, 6, 0), (11, .iload_n 1, 1, 0, 0, 0), (12, .iaload, 1, 0, 0, 0), (13, .ifCond .eq 7, 3, 0, 0, 0), (16, .iconst 1, 1, 0, 0, 0), (17, .goto 4, 3, 0, 0, 0), (20, .iconst 0, 1, 0, 0, 0), (21, .ireturn, 1, 1, 0, 0)]
def cd_X6_blockOf : List (Nat × cm_E) := [(0, .aload_n 0, 1, 0, 0, 0), (1, .getfield 22, 3, 2, 6, 3), (4, .iload_n 1, 1, 0, 0, 0), (5, .bipush 8, 2, 0, 0, 0), (7, .imul, 1, 0, 0, 0), (8, .iload_n 2, 1, 0, 0, 0), (9, .iadd, 1, 0, 0, 0), (10, .iaload, 1, 0, 0, 0), (11, .ireturn, 1, 0, 0, 0)]
def cd_X6_numberOf : List (Nat × cm_E) := [(0, .aload_n 0, 1, 0, 0, 0), (1, .getfield 25, 3, 2, 6, 4), (4, .iload_n 1, 1, 0, 0, 0), (5, .bipush 8, 2, 0, 0, 0), (7, .imul, 1, 0, 0, 0), (8, .iload_n 2, 1, 0, 0, 0), (9, .iadd, 1, 0, 0, 0), (10, .iaload, 1, 0, 0, 0), (11, .ireturn, 1, 0, 0, 0)]
def cd_X6_entryOf : List (Nat × cm_E) := [(0, .aload_n 0, 1, 0, 0, 0), (1, .getfield 28, 3, 2, 6, 5), (4, .aload_n 0, 1, 0, 0, 0), (5, .getfield 9, 3, 2, 6, 0), (8, .iload_n 1, 1, 0, 0, 0), (9, .iaload, 1, 0, 0, 0), (10, .iaload, 1, 0, 0, 0), (11, .ireturn, 1, 0, 0, 0)]
def cd_X6_nameOf : List (Nat × cm_E) := [(0, .iconst 0, 1, 0, 0, 0), (1, .istore_n 2, 1, 0, 0, 0), (2, .iload_n 2, 1, 0, 0, 0), (3, .bipush 12, 2, 0, 0, 0), (5, .if_icmp .ge 21, 3, 0, 0, 0), (8, .aload_n 0, 1, 0, 0, 0), (9, .getfield 9, 3, 2, 6, 0), (12, .iload_n 2, 1, 0, 0, 0), (13, .iaload, 1, 0, 0, 0), (14, .iload_n 1, 1, 0, 0, 0), (15, .if_icmp .ne 5, 3, 0, 0, 0), (18, .iload_n 2, 1, 0, 0, 0), (19, .ireturn, 1, 0, 0, 0), (20, .iinc 2 1, 3, 0, 0, 0), (23, .goto (-21), 3, 4, 0, 0), (26, .iconst (-1), 1, 0, 0, 0), (27, .ireturn, 1, 0, 0, 0)]
def cd_X6_freeVirtual : List (Nat × cm_E) := [(0, .iconst 1, 1, 0, 0, 0), (1, .istore_n 1, 1, 0, 0, 0), (2, .iload_n 1, 1, 0, 0, 0), (3, .bipush 12, 2, 0, 0, 0), (5, .if_icmp .ge 18, 3, 0, 0, 0), (8, .aload_n 0, 1, 0, 0, 0), (9, .iload_n 1, 1, 0, 0, 0), (10, .invokevirtual 103, 3, 106, 74, 2), (13, .iconst (-1), 1, 0, 0, 0), (14, .if_icmp .eq 9, 3, 0, 0, 0), (17, .iinc 1 1, 3, 0, 0, 0), (20, .goto (-18), 3, 3, 0, 0), (23, .iload_n 1, 1, 0, 0, 0), (24, .ireturn, 1, 0, 0, 0)]
def cd_X6_fileCount : List (Nat × cm_E) := [(0, .iconst 0, 1, 0, 0, 0), (1, .istore_n 1, 1, 0, 0, 0), (2, .iconst 0, 1, 0, 0, 0), (3, .istore_n 2, 1, 0, 0, 0), (4, .iload_n 2, 1, 0, 0, 0), (5, .bipush 12, 2, 0, 0, 0), (7, .if_icmp .ge 25, 3, 0, 0, 0), (10, .iload_n 1, 1, 0, 0, 0), (11, .aload_n 0, 1, 0, 0, 0), (12, .iload_n 2, 1, 0, 0, 0), (13, .invokevirtual 106, 3, 106, 70, 2), (16, .ifCond .eq 7, 3, 0, 0, 0), (19, .iconst 1, 1, 0, 0, 0), (20, .goto 4, 3, 0, 0, 0), (23, .iconst 0, 1, 0, 0, 0), (24, .iadd, 1, 0, 0, 0), (25, .istore_n 1, 1, 0, 0, 0), (26, .iinc 2 1, 3, 0, 0, 0), (29, .goto (-25), 3, 4, 0, 0), (32, .iload_n 1, 1, 0, 0, 0), (33, .ireturn, 1, 0, 0, 0)]
def cd_X6_changedCount : List (Nat × cm_E) := [(0, .iconst 0, 1, 0, 0, 0), (1, .istore_n 1, 1, 0, 0, 0), (2, .iconst 0, 1, 0, 0, 0), (3, .istore_n 2, 1, 0, 0, 0), (4, .iload_n 2, 1, 0, 0, 0), (5, .bipush 12, 2, 0, 0, 0), (7, .if_icmp .ge 26, 3, 0, 0, 0), (10, .iload_n 1, 1, 0, 0, 0), (11, .aload_n 0, 1, 0, 0, 0), (12, .getfield 18, 3, 2, 6, 2), (15, .iload_n 2, 1, 0, 0, 0), (16, .baload, 1, 0, 0, 0), (17, .ifCond .eq 7, 3, 0, 0, 0), (20, .iconst 1, 1, 0, 0, 0), (21, .goto 4, 3, 0, 0, 0), (24, .iconst 0, 1, 0, 0, 0), (25, .iadd, 1, 0, 0, 0), (26, .istore_n 1, 1, 0, 0, 0), (27, .iinc 2 1, 3, 0, 0, 0), (30, .goto (-26), 3, 4, 0, 0), (33, .iload_n 1, 1, 0, 0, 0), (34, .ireturn, 1, 0, 0, 0)]
def cd_X6_anyChanged : List (Nat × cm_E) := [(0, .aload_n 0, 1, 0, 0, 0), (1, .getfield 37, 3, 1, 6, 6), (4, .ifCond .ne 10, 3, 0, 0, 0), (7, .aload_n 0, 1, 0, 0, 0), (8, .invokevirtual 109, 3, 106, 77, 1), (11, .ifCond .le 7, 3, 0, 0, 0), (14, .iconst 1, 1, 0, 0, 0), (15, .goto 4, 3, 0, 0, 0), (18, .iconst 0, 1, 0, 0, 0), (19, .ireturn, 1, 1, 0, 0)]
def cd_X6_newCells : List (Nat × cm_E) := [(0, .iconst 0, 1, 0, 0, 0), (1, .istore_n 2, 1, 0, 0, 0), (2, .iconst 0, 1, 0, 0, 0), (3, .istore_n 3, 1, 0, 0, 0), (4, .iload_n 3, 1, 0, 0, 0), (5, .aload_n 0, 1, 0, 0, 0), (6, .getfield 15, 3, 2, 6, 1), (9, .iload_n 1, 1, 0, 0, 0), (10, .iaload, 1, 0, 0, 0), (11, .if_icmp .ge 32, 3, 0, 0, 0), (14, .iload_n 2, 1, 0, 0, 0), (15, .aload_n 0, 1, 0, 0, 0), (16, .getfield 22, 3, 2, 6, 3), (19, .iload_n 1, 1, 0, 0, 0), (20, .bipush 8, 2, 0, 0, 0), (22, .imul, 1, 0, 0, 0), (23, .iload_n 3, 1, 0, 0, 0), (24, .iadd, 1, 0, 0, 0), (25, .iaload, 1, 0, 0, 0), (26, .iconst (-1), 1, 0, 0, 0), (27, .if_icmp .ne 7, 3, 0, 0, 0), (30, .iconst 1, 1, 0, 0, 0), (31, .goto 4, 3, 0, 0, 0), (34, .iconst 0, 1, 0, 0, 0), (35, .iadd, 1, 0, 0, 0), (36, .istore_n 2, 1, 0, 0, 0), (37, .iinc 3 1, 3, 0, 0, 0), (40, .goto (-36), 3, 5, 0, 0), (43, .iload_n 2, 1, 0, 0, 0), (44, .ireturn, 1, 0, 0, 0)]
def cd_X6_newCount : List (Nat × cm_E) := [(0, .iconst 0, 1, 0, 0, 0), (1, .istore_n 1, 1, 0, 0, 0), (2, .iconst 0, 1, 0, 0, 0), (3, .istore_n 2, 1, 0, 0, 0), (4, .iload_n 2, 1, 0, 0, 0), (5, .bipush 12, 2, 0, 0, 0), (7, .if_icmp .ge 17, 3, 0, 0, 0), (10, .iload_n 1, 1, 0, 0, 0), (11, .aload_n 0, 1, 0, 0, 0), (12, .iload_n 2, 1, 0, 0, 0), (13, .invokevirtual 113, 3, 106, 79, 2), (16, .iadd, 1, 0, 0, 0), (17, .istore_n 1, 1, 0, 0, 0), (18, .iinc 2 1, 3, 0, 0, 0), (21, .goto (-17), 3, 4, 0, 0), (24, .iload_n 1, 1, 0, 0, 0), (25, .ireturn, 1, 0, 0, 0)]
def cd_X6_contentCount : List (Nat × cm_E) := [(0, .aload_n 0, 1, 0, 0, 0), (1, .getfield 37, 3, 1, 6, 6), (4, .ifCond .eq 7, 3, 0, 0, 0), (7, .iconst 1, 1, 0, 0, 0), (8, .goto 4, 3, 0, 0, 0), (11, .iconst 0, 1, 0, 0, 0), (12, .istore_n 1, 1, 0, 0, 0), (13, .iconst 0, 1, 0, 0, 0), (14, .istore_n 2, 1, 0, 0, 0), (15, .iload_n 2, 1, 0, 0, 0), (16, .bipush 12, 2, 0, 0, 0), (18, .if_icmp .ge 32, 3, 0, 0, 0), (21, .iload_n 1, 1, 0, 0, 0), (22, .aload_n 0, 1, 0, 0, 0), (23, .getfield 18, 3, 2, 6, 2), (26, .iload_n 2, 1, 0, 0, 0), (27, .baload, 1, 0, 0, 0), (28, .ifCond .eq 13, 3, 0, 0, 0), (31, .aload_n 0, 1, 0, 0, 0), (32, .iload_n 2, 1, 0, 0, 0), (33, .invokevirtual 113, 3, 106, 79, 2), (36, .iconst 1, 1, 0, 0, 0), (37, .iadd, 1, 0, 0, 0), (38, .goto 4, 3, 0, 0, 0), (41, .iconst 0, 1, 0, 0, 0), (42, .iadd, 1, 0, 0, 0), (43, .istore_n 1, 1, 0, 0, 0), (44, .iinc 2 1, 3, 0, 0, 0), (47, .goto (-32), 3, 4, 0, 0), (50, .iload_n 1, 1, 0, 0, 0), (51, .ifCond .ne 7, 3, 0, 0, 0), (54, .iconst 0, 1, 0, 0, 0), (55, .goto 6, 3, 0, 0, 0), (58, .iload_n 1, 1, 0, 0, 0), (59, .iconst 1, 1, 0, 0, 0), (60, .iadd, 1, 0, 0, 0), (61, .ireturn, 1, 0, 0, 0)]
def cd_X6_canSet : List (Nat × cm_E) := [(0, .iload_n 1, 1, 0, 0, 0), (1, .invokestatic 99, 3, 0, 160, 1), (4, .ifCond .eq 27, 3, 0, 0, 0), (7, .iload_n 2, 1, 0, 0, 0), (8, .ifCond .lt 23, 3, 0, 0, 0), (11, .iload_n 2, 1, 0, 0, 0), (12, .aload_n 0, 1, 0, 0, 0), (13, .getfield 15, 3, 2, 6, 1), (16, .iload_n 1, 1, 0, 0, 0), (17, .iaload, 1, 0, 0, 0), (18, .if_icmp .gt 13, 3, 0, 0, 0), (21, .iload_n 2, 1, 0, 0, 0), (22, .bipush 8, 2, 0, 0, 0), (24, .if_icmp .ge 7, 3, 0, 0, 0), (27, .iconst 1, 1, 0, 0, 0), (28, .goto 4, 3, 0, 0, 0), (31, .iconst 0, 1, 0, 0, 0), (32, .ireturn, 1, 1, 0, 0)]
def cd_X6_setCell : List (Nat × cm_E) := [(0, .aload_n 0, 1, 0, 0, 0), (1, .iload_n 1, 1, 0, 0, 0), (2, .invokevirtual 106, 3, 106, 70, 2), (5, .ifCond .ne 8, 3, 0, 0, 0), (8, .aload_n 0, 1, 0, 0, 0), (9, .iload_n 1, 1, 0, 0, 0), (10, .invokevirtual 116, 3, 106, 84, 2), (13, .aload_n 0, 1, 0, 0, 0), (14, .iload_n 1, 1, 0, 0, 0), (15, .iload_n 2, 1, 0, 0, 0), (16, .iconst (-1), 1, 0, 0, 0), (17, .iload_n 3, 1, 0, 0, 0), (18, .invokevirtual 67, 3, 106, 69, 5), (21, .aload_n 0, 1, 0, 0, 0), (22, .getfield 15, 3, 2, 6, 1), (25, .iload_n 1, 1, 0, 0, 0), (26, .aload_n 0, 1, 0, 0, 0), (27, .getfield 15, 3, 2, 6, 1), (30, .iload_n 1, 1, 0, 0, 0), (31, .iaload, 1, 0, 0, 0), (32, .iload_n 2, 1, 0, 0, 0), (33, .iconst 1, 1, 0, 0, 0), (34, .iadd, 1, 0, 0, 0), (35, .invokestatic 120, 3, 3, 0, 0), (38, .iastore, 1, 0, 0, 0), (39, .aload_n 0, 1, 0, 0, 0), (40, .getfield 18, 3, 2, 6, 2), (43, .iload_n 1, 1, 0, 0, 0), (44, .iconst 1, 1, 0, 0, 0), (45, .bastore, 1, 0, 0, 0), (46, .return_, 1, 0, 0, 0)]
def cd_X6_beginFile : List (Nat × cm_E) := [(0, .aload_n 0, 1, 0, 0, 0), (1, .getfield 9, 3, 2, 6, 0), (4, .iload_n 1, 1, 0, 0, 0), (5, .aload_n 0, 1, 0, 0, 0), (6, .invokevirtual 123, 3, 106, 75, 1), (9, .iastore, 1, 0, 0, 0), (10, .aload_n 0, 1, 0, 0, 0), (11, .getfield 28, 3, 2, 6, 5), (14, .aload_n 0, 1, 0, 0, 0), (15, .getfield 9, 3, 2, 6, 0), (18, .iload_n 1, 1, 0, 0, 0), (19, .iaload, 1, 0, 0, 0), (20, .iconst (-1), 1, 0, 0, 0), (21, .iastore, 1, 0, 0, 0), (22, .aload_n 0, 1, 0, 0, 0), (23, .iconst 1, 1, 0, 0, 0), (24, .putfield 37, 3, 1, 6, 6), (27, .return_, 1, 0, 0, 0)]
def cd_X6_eraseFile : List (Nat × cm_E) := [(0, .aload_n 0, 1, 0, 0, 0), (1, .getfield 28, 3, 2, 6, 5), (4, .aload_n 0, 1, 0, 0, 0), (5, .getfield 9, 3, 2, 6, 0), (8, .iload_n 1, 1, 0, 0, 0), (9, .iaload, 1, 0, 0, 0), (10, .iconst (-1), 1, 0, 0, 0), (11, .iastore, 1, 0, 0, 0), (12, .aload_n 0, 1, 0, 0, 0), (13, .iload_n 1, 1, 0, 0, 0), (14, .invokevirtual 126, 3, 106, 86, 2), (17, .aload_n 0, 1, 0, 0, 0), (18, .iconst 1, 1, 0, 0, 0), (19, .putfield 37, 3, 1, 6, 6), (22, .return_, 1, 0, 0, 0)]
def cd_X6_forget : List (Nat × cm_E) := [(0, .aload_n 0, 1, 0, 0, 0), (1, .getfield 9, 3, 2, 6, 0), (4, .iload_n 1, 1, 0, 0, 0), (5, .iconst 0, 1, 0, 0, 0), (6, .iastore, 1, 0, 0, 0), (7, .aload_n 0, 1, 0, 0, 0), (8, .getfield 15, 3, 2, 6, 1), (11, .iload_n 1, 1, 0, 0, 0), (12, .iconst 0, 1, 0, 0, 0), (13, .iastore, 1, 0, 0, 0), (14, .aload_n 0, 1, 0, 0, 0), (15, .getfield 18, 3, 2, 6, 2), (18, .iload_n 1, 1, 0, 0, 0), (19, .iconst 0, 1, 0, 0, 0), (20, .bastore, 1, 0, 0, 0), (21, .return_, 1, 0, 0, 0)]
def cd_X6_canGoTo : List (Nat × cm_E) := [(0, .aload_n 0, 1, 0, 0, 0), (1, .iload_n 1, 1, 0, 0, 0), (2, .invokevirtual 106, 3, 106, 70, 2), (5, .ifCond .eq 22, 3, 0, 0, 0), (8, .iload_n 2, 1, 0, 0, 0), (9, .invokestatic 99, 3, 0, 160, 1), (12, .ifCond .eq 15, 3, 0, 0, 0), (15, .aload_n 0, 1, 0, 0, 0), (16, .iload_n 2, 1, 0, 0, 0), (17, .invokevirtual 106, 3, 106, 70, 2), (20, .ifCond .ne 7, 3, 0, 0, 0), (23, .iconst 1, 1, 0, 0, 0), (24, .goto 4, 3, 0, 0, 0), (27, .iconst 0, 1, 0, 0, 0), (28, .ireturn, 1, 1, 0, 0)]
def cd_X6_renameFile : List (Nat × cm_E) := [(0, .aload_n 0, 1, 0, 0, 0), (1, .getfield 9, 3, 2, 6, 0), (4, .iload_n 2, 1, 0, 0, 0), (5, .aload_n 0, 1, 0, 0, 0), (6, .getfield 9, 3, 2, 6, 0), (9, .iload_n 1, 1, 0, 0, 0), (10, .iaload, 1, 0, 0, 0), (11, .iastore, 1, 0, 0, 0), (12, .aload_n 0, 1, 0, 0, 0), (13, .getfield 18, 3, 2, 6, 2), (16, .iload_n 2, 1, 0, 0, 0), (17, .aload_n 0, 1, 0, 0, 0), (18, .getfield 18, 3, 2, 6, 2), (21, .iload_n 1, 1, 0, 0, 0), (22, .baload, 1, 0, 0, 0), (23, .bastore, 1, 0, 0, 0), (24, .aload_n 0, 1, 0, 0, 0), (25, .iload_n 1, 1, 0, 0, 0), (26, .iload_n 2, 1, 0, 0, 0), (27, .invokevirtual 129, 3, 106, 90, 3), (30, .aload_n 0, 1, 0, 0, 0), (31, .iload_n 1, 1, 0, 0, 0), (32, .invokevirtual 126, 3, 106, 86, 2), (35, .aload_n 0, 1, 0, 0, 0), (36, .iconst 1, 1, 0, 0, 0), (37, .putfield 37, 3, 1, 6, 6), (40, .return_, 1, 0, 0, 0)]
def cd_X6_copyFile : List (Nat × cm_E) := [(0, .aload_n 0, 1, 0, 0, 0), (1, .iload_n 2, 1, 0, 0, 0), (2, .invokevirtual 116, 3, 106, 84, 2), (5, .aload_n 0, 1, 0, 0, 0), (6, .iload_n 1, 1, 0, 0, 0), (7, .iload_n 2, 1, 0, 0, 0), (8, .invokevirtual 129, 3, 106, 90, 3), (11, .aload_n 0, 1, 0, 0, 0), (12, .getfield 18, 3, 2, 6, 2), (15, .iload_n 2, 1, 0, 0, 0), (16, .iconst 1, 1, 0, 0, 0), (17, .bastore, 1, 0, 0, 0), (18, .return_, 1, 0, 0, 0)]
def cd_X6_copyCells : List (Nat × cm_E) := [(0, .aload_n 0, 1, 0, 0, 0), (1, .getfield 15, 3, 2, 6, 1), (4, .iload_n 2, 1, 0, 0, 0), (5, .aload_n 0, 1, 0, 0, 0), (6, .getfield 15, 3, 2, 6, 1), (9, .iload_n 1, 1, 0, 0, 0), (10, .iaload, 1, 0, 0, 0), (11, .iastore, 1, 0, 0, 0), (12, .iconst 0, 1, 0, 0, 0), (13, .istore_n 3, 1, 0, 0, 0), (14, .iload_n 3, 1, 0, 0, 0), (15, .aload_n 0, 1, 0, 0, 0), (16, .getfield 15, 3, 2, 6, 1), (19, .iload_n 1, 1, 0, 0, 0), (20, .iaload, 1, 0, 0, 0), (21, .if_icmp .ge 27, 3, 0, 0, 0), (24, .aload_n 0, 1, 0, 0, 0), (25, .iload_n 2, 1, 0, 0, 0), (26, .iload_n 3, 1, 0, 0, 0), (27, .aload_n 0, 1, 0, 0, 0), (28, .iload_n 1, 1, 0, 0, 0), (29, .iload_n 3, 1, 0, 0, 0), (30, .invokevirtual 133, 3, 106, 71, 3), (33, .aload_n 0, 1, 0, 0, 0), (34, .iload_n 1, 1, 0, 0, 0), (35, .iload_n 3, 1, 0, 0, 0), (36, .invokevirtual 136, 3, 106, 72, 3), (39, .invokevirtual 67, 3, 106, 69, 5), (42, .iinc 3 1, 3, 0, 0, 0), (45, .goto (-31), 3, 5, 0, 0), (48, .return_, 1, 0, 0, 0)]
def cd_X6_isLike : List (Nat × cm_E) := [(0, .aload_n 0, 1, 0, 0, 0), (1, .iload_n 1, 1, 0, 0, 0), (2, .invokevirtual 106, 3, 106, 70, 2), (5, .ifCond .eq 17, 3, 0, 0, 0), (8, .aload_n 0, 1, 0, 0, 0), (9, .getfield 15, 3, 2, 6, 1), (12, .iload_n 1, 1, 0, 0, 0), (13, .iaload, 1, 0, 0, 0), (14, .aload_n 2, 1, 0, 0, 0), (15, .iload_n 3, 1, 0, 0, 0), (16, .invokevirtual 90, 3, 102, 22, 2), (19, .if_icmp .eq 5, 3, 0, 0, 0), (22, .iconst 0, 1, 0, 0, 0), (23, .ireturn, 1, 1, 0, 0), (24, .iconst 0, 1, 0, 0, 0), (25, .istore 4, 2, 0, 0, 0), (27, .iload 4, 2, 0, 0, 0), (29, .aload_n 0, 1, 0, 0, 0), (30, .getfield 15, 3, 2, 6, 1), (33, .iload_n 1, 1, 0, 0, 0), (34, .iaload, 1, 0, 0, 0), (35, .if_icmp .ge 28, 3, 0, 0, 0), (38, .aload_n 0, 1, 0, 0, 0), (39, .iload_n 1, 1, 0, 0, 0), (40, .iload 4, 2, 0, 0, 0), (42, .invokevirtual 136, 3, 106, 72, 3), (45, .aload_n 2, 1, 0, 0, 0), (46, .iload_n 3, 1, 0, 0, 0), (47, .iload 4, 2, 0, 0, 0), (49, .invokevirtual 139, 3, 102, 37, 3), (52, .if_icmp .eq 5, 3, 0, 0, 0), (55, .iconst 0, 1, 0, 0, 0), (56, .ireturn, 1, 1, 0, 0), (57, .iinc 4 1, 3, 0, 0, 0), (60, .goto (-33), 3, 6, 0, 0), (63, .iconst 1, 1, 0, 0, 0), (64, .ireturn, 1, 1, 0, 0)]
def cd_X6_runs : List (Nat × cm_E) := [(0, .iconst 0, 1, 0, 0, 0), (1, .istore_n 2, 1, 0, 0, 0), (2, .iconst (-1), 1, 0, 0, 0), (3, .istore_n 3, 1, 0, 0, 0), (4, .iconst 0, 1, 0, 0, 0), (5, .istore 4, 2, 0, 0, 0), (7, .iload 4, 2, 0, 0, 0), (9, .aload_n 0, 1, 0, 0, 0), (10, .getfield 15, 3, 2, 6, 1), (13, .iload_n 1, 1, 0, 0, 0), (14, .iaload, 1, 0, 0, 0), (15, .if_icmp .ge 43, 3, 0, 0, 0), (18, .aload_n 0, 1, 0, 0, 0), (19, .iload_n 1, 1, 0, 0, 0), (20, .iload 4, 2, 0, 0, 0), (22, .invokevirtual 133, 3, 106, 71, 3), (25, .istore 5, 2, 0, 0, 0), (27, .iload 5, 2, 0, 0, 0), (29, .iconst (-1), 1, 0, 0, 0), (30, .if_icmp .eq 19, 3, 0, 0, 0), (33, .iload_n 3, 1, 0, 0, 0), (34, .iconst (-1), 1, 0, 0, 0), (35, .if_icmp .eq 11, 3, 0, 0, 0), (38, .iload 5, 2, 0, 0, 0), (40, .iload_n 3, 1, 0, 0, 0), (41, .iconst 1, 1, 0, 0, 0), (42, .iadd, 1, 0, 0, 0), (43, .if_icmp .eq 6, 3, 0, 0, 0), (46, .iinc 2 1, 3, 0, 0, 0), (49, .iload 5, 2, 0, 0, 0), (51, .istore_n 3, 1, 0, 0, 0), (52, .iinc 4 1, 3, 0, 0, 0), (55, .goto (-48), 3, 6, 0, 0), (58, .iload_n 2, 1, 0, 0, 0), (59, .ireturn, 1, 0, 0, 0)]
def cd_X6_farthest : List (Nat × cm_E) := [(0, .iconst 0, 1, 0, 0, 0), (1, .istore_n 2, 1, 0, 0, 0), (2, .iconst 1, 1, 0, 0, 0), (3, .istore_n 3, 1, 0, 0, 0), (4, .iload_n 3, 1, 0, 0, 0), (5, .aload_n 0, 1, 0, 0, 0), (6, .getfield 15, 3, 2, 6, 1), (9, .iload_n 1, 1, 0, 0, 0), (10, .iaload, 1, 0, 0, 0), (11, .if_icmp .ge 52, 3, 0, 0, 0), (14, .aload_n 0, 1, 0, 0, 0), (15, .iload_n 1, 1, 0, 0, 0), (16, .iload_n 3, 1, 0, 0, 0), (17, .invokevirtual 133, 3, 106, 71, 3), (20, .istore 4, 2, 0, 0, 0), (22, .aload_n 0, 1, 0, 0, 0), (23, .iload_n 1, 1, 0, 0, 0), (24, .iload_n 3, 1, 0, 0, 0), (25, .iconst 1, 1, 0, 0, 0), (26, .isub, 1, 0, 0, 0), (27, .invokevirtual 133, 3, 106, 71, 3), (30, .istore 5, 2, 0, 0, 0), (32, .iload 4, 2, 0, 0, 0), (34, .iconst (-1), 1, 0, 0, 0), (35, .if_icmp .eq 22, 3, 0, 0, 0), (38, .iload 5, 2, 0, 0, 0), (40, .iconst (-1), 1, 0, 0, 0), (41, .if_icmp .eq 16, 3, 0, 0, 0), (44, .iload_n 2, 1, 0, 0, 0), (45, .iload 4, 2, 0, 0, 0), (47, .iload 5, 2, 0, 0, 0), (49, .isub, 1, 0, 0, 0), (50, .invokestatic 142, 3, 4, 0, 0), (53, .invokestatic 120, 3, 3, 0, 0), (56, .istore_n 2, 1, 0, 0, 0), (57, .iinc 3 1, 3, 0, 0, 0), (60, .goto (-56), 3, 5, 0, 0), (63, .iload_n 2, 1, 0, 0, 0), (64, .ireturn, 1, 0, 0, 0)]
def cd_X7_init : List (Nat × cm_E) := [(0, .aload_n 0, 1, 0, 0, 0), (1, .invokespecial 3, 3, 1, 0, 0), (4, .aload_n 0, 1, 0, 0, 0), (5, .iconst 0, 1, 0, 0, 0), (6, .newarray .int, 2, 0, 0, 0), (8, .putfield 9, 3, 2, 7, 0), (11, .return_, 1, 0, 0, 0)]
def cd_X7_begin : List (Nat × cm_E) := [(0, .aload_n 0, 1, 0, 0, 0), (1, .aload_n 1, 1, 0, 0, 0), (2, .putfield 9, 3, 2, 7, 0), (5, .aload_n 0, 1, 0, 0, 0), (6, .iload_n 2, 1, 0, 0, 0), (7, .aload_n 1, 1, 0, 0, 0), (8, .arraylength, 1, 0, 0, 0), (9, .invokestatic 15, 3, 2, 0, 0), (12, .putfield 21, 3, 0, 7, 1), (15, .aload_n 0, 1, 0, 0, 0), (16, .iconst 0, 1, 0, 0, 0), (17, .putfield 25, 3, 0, 7, 2), (20, .aload_n 0, 1, 0, 0, 0), (21, .invokevirtual 28, 3, 107, 96, 1), (24, .return_, 1, 0, 0, 0)]
def cd_X7_advance : List (Nat × cm_E) := [(0, .aload_n 0, 1, 0, 0, 0), (1, .aload_n 0, 1, 0, 0, 0), (2, .getfield 25, 3, 0, 7, 2), (5, .putfield 31, 3, 0, 7, 3), (8, .aload_n 0, 1, 0, 0, 0), (9, .getfield 31, 3, 0, 7, 3), (12, .aload_n 0, 1, 0, 0, 0), (13, .getfield 21, 3, 0, 7, 1), (16, .if_icmp .ge 44, 3, 0, 0, 0), (19, .aload_n 0, 1, 0, 0, 0), (20, .getfield 9, 3, 2, 7, 0), (23, .aload_n 0, 1, 0, 0, 0), (24, .getfield 31, 3, 0, 7, 3), (27, .iaload, 1, 0, 0, 0), (28, .bipush 32, 2, 0, 0, 0), (30, .if_icmp .eq 17, 3, 0, 0, 0), (33, .aload_n 0, 1, 0, 0, 0), (34, .getfield 9, 3, 2, 7, 0), (37, .aload_n 0, 1, 0, 0, 0), (38, .getfield 31, 3, 0, 7, 3), (41, .iaload, 1, 0, 0, 0), (42, .bipush 10, 2, 0, 0, 0), (44, .if_icmp .ne 16, 3, 0, 0, 0), (47, .aload_n 0, 1, 0, 0, 0), (48, .dup, 1, 0, 0, 0), (49, .getfield 31, 3, 0, 7, 3), (52, .iconst 1, 1, 0, 0, 0), (53, .iadd, 1, 0, 0, 0), (54, .putfield 31, 3, 0, 7, 3), (57, .goto (-49), 3, 2, 0, 0), (60, .aload_n 0, 1, 0, 0, 0), (61, .getfield 31, 3, 0, 7, 3), (64, .aload_n 0, 1, 0, 0, 0), (65, .getfield 21, 3, 0, 7, 1), (68, .if_icmp .lt 17, 3, 0, 0, 0), (71, .aload_n 0, 1, 0, 0, 0), (72, .iconst 0, 1, 0, 0, 0), (73, .putfield 34, 3, 0, 7, 4), (76, .aload_n 0, 1, 0, 0, 0), (77, .aload_n 0, 1, 0, 0, 0), (78, .getfield 31, 3, 0, 7, 3), (81, .putfield 25, 3, 0, 7, 2), (84, .return_, 1, 0, 0, 0), (85, .aload_n 0, 1, 0, 0, 0), (86, .aload_n 0, 1, 0, 0, 0), (87, .bipush 97, 2, 0, 0, 0), (89, .bipush 122, 2, 0, 0, 0), (91, .invokevirtual 37, 3, 107, 97, 3), (94, .putfield 25, 3, 0, 7, 2), (97, .aload_n 0, 1, 0, 0, 0), (98, .iconst 1, 1, 0, 0, 0), (99, .putfield 34, 3, 0, 7, 4), (102, .aload_n 0, 1, 0, 0, 0), (103, .getfield 25, 3, 0, 7, 2), (106, .aload_n 0, 1, 0, 0, 0), (107, .getfield 31, 3, 0, 7, 3), (110, .if_icmp .ne 24, 3, 0, 0, 0), (113, .aload_n 0, 1, 0, 0, 0), (114, .aload_n 0, 1, 0, 0, 0), (115, .bipush 48, 2, 0, 0, 0), (117, .bipush 57, 2, 0, 0, 0), (119, .invokevirtual 37, 3, 107, 97, 3), (122, .putfield 25, 3, 0, 7, 2), (125, .aload_n 0, 1, 0, 0, 0), (126, .iconst 2, 1, 0, 0, 0), (127, .putfield 34, 3, 0, 7, 4), (130, .aload_n 0, 1, 0, 0, 0), (131, .invokevirtual 40, 3, 107, 98, 1), (134, .aload_n 0, 1, 0, 0, 0), (135, .getfield 25, 3, 0, 7, 2), (138, .aload_n 0, 1, 0, 0, 0), (139, .getfield 31, 3, 0, 7, 3), (142, .if_icmp .ne 36, 3, 0, 0, 0), (145, .aload_n 0, 1, 0, 0, 0), (146, .aload_n 0, 1, 0, 0, 0), (147, .getfield 9, 3, 2, 7, 0), (150, .aload_n 0, 1, 0, 0, 0), (151, .getfield 31, 3, 0, 7, 3), (154, .iaload, 1, 0, 0, 0), (155, .bipush 59, 2, 0, 0, 0), (157, .if_icmp .ne 7, 3, 0, 0, 0), (160, .iconst 3, 1, 0, 0, 0), (161, .goto 4, 3, 0, 0, 0), (164, .iconst 4, 1, 0, 0, 0), (165, .putfield 34, 3, 0, 7, 4), (168, .aload_n 0, 1, 0, 0, 0), (169, .aload_n 0, 1, 0, 0, 0), (170, .getfield 31, 3, 0, 7, 3), (173, .iconst 1, 1, 0, 0, 0), (174, .iadd, 1, 0, 0, 0), (175, .putfield 25, 3, 0, 7, 2), (178, .return_, 1, 0, 0, 0)]
def cd_X7_endOfRow : List (Nat × cm_E) := [(0, .aload_n 0, 1, 0, 0, 0), (1, .getfield 31, 3, 0, 7, 3), (4, .istore_n 3, 1, 0, 0, 0), (5, .iload_n 3, 1, 0, 0, 0), (6, .aload_n 0, 1, 0, 0, 0), (7, .getfield 21, 3, 0, 7, 1), (10, .if_icmp .ge 29, 3, 0, 0, 0), (13, .aload_n 0, 1, 0, 0, 0), (14, .getfield 9, 3, 2, 7, 0), (17, .iload_n 3, 1, 0, 0, 0), (18, .iaload, 1, 0, 0, 0), (19, .iload_n 1, 1, 0, 0, 0), (20, .if_icmp .lt 19, 3, 0, 0, 0), (23, .aload_n 0, 1, 0, 0, 0), (24, .getfield 9, 3, 2, 7, 0), (27, .iload_n 3, 1, 0, 0, 0), (28, .iaload, 1, 0, 0, 0), (29, .iload_n 2, 1, 0, 0, 0), (30, .if_icmp .gt 9, 3, 0, 0, 0), (33, .iinc 3 1, 3, 0, 0, 0), (36, .goto (-31), 3, 5, 0, 0), (39, .iload_n 3, 1, 0, 0, 0), (40, .ireturn, 1, 0, 0, 0)]
def cd_X7_takeValue : List (Nat × cm_E) := [(0, .aload_n 0, 1, 0, 0, 0), (1, .aload_n 0, 1, 0, 0, 0), (2, .getfield 25, 3, 0, 7, 2), (5, .aload_n 0, 1, 0, 0, 0), (6, .getfield 31, 3, 0, 7, 3), (9, .isub, 1, 0, 0, 0), (10, .putfield 43, 3, 0, 7, 6), (13, .aload_n 0, 1, 0, 0, 0), (14, .iconst 0, 1, 0, 0, 0), (15, .putfield 46, 3, 0, 7, 5), (18, .aload_n 0, 1, 0, 0, 0), (19, .getfield 31, 3, 0, 7, 3), (22, .istore_n 1, 1, 0, 0, 0), (23, .iload_n 1, 1, 0, 0, 0), (24, .aload_n 0, 1, 0, 0, 0), (25, .getfield 25, 3, 0, 7, 2), (28, .if_icmp .ge 40, 3, 0, 0, 0), (31, .iload_n 1, 1, 0, 0, 0), (32, .aload_n 0, 1, 0, 0, 0), (33, .getfield 31, 3, 0, 7, 3), (36, .iconst 4, 1, 0, 0, 0), (37, .iadd, 1, 0, 0, 0), (38, .if_icmp .ge 30, 3, 0, 0, 0), (41, .aload_n 0, 1, 0, 0, 0), (42, .aload_n 0, 1, 0, 0, 0), (43, .getfield 46, 3, 0, 7, 5), (46, .bipush 10, 2, 0, 0, 0), (48, .imul, 1, 0, 0, 0), (49, .aload_n 0, 1, 0, 0, 0), (50, .getfield 9, 3, 2, 7, 0), (53, .iload_n 1, 1, 0, 0, 0), (54, .iaload, 1, 0, 0, 0), (55, .iadd, 1, 0, 0, 0), (56, .bipush 48, 2, 0, 0, 0), (58, .isub, 1, 0, 0, 0), (59, .putfield 46, 3, 0, 7, 5), (62, .iinc 1 1, 3, 0, 0, 0), (65, .goto (-42), 3, 3, 0, 0), (68, .return_, 1, 0, 0, 0)]
def cd_X7_isWord : List (Nat × cm_E) := [(0, .aload_n 0, 1, 0, 0, 0), (1, .getfield 34, 3, 0, 7, 4), (4, .iconst 1, 1, 0, 0, 0), (5, .if_icmp .ne 19, 3, 0, 0, 0), (8, .aload_n 0, 1, 0, 0, 0), (9, .getfield 25, 3, 0, 7, 2), (12, .aload_n 0, 1, 0, 0, 0), (13, .getfield 31, 3, 0, 7, 3), (16, .isub, 1, 0, 0, 0), (17, .aload_n 1, 1, 0, 0, 0), (18, .invokevirtual 49, 3, 6, 0, 0), (21, .if_icmp .eq 5, 3, 0, 0, 0), (24, .iconst 0, 1, 0, 0, 0), (25, .ireturn, 1, 1, 0, 0), (26, .iconst 0, 1, 0, 0, 0), (27, .istore_n 2, 1, 0, 0, 0), (28, .iload_n 2, 1, 0, 0, 0), (29, .aload_n 1, 1, 0, 0, 0), (30, .invokevirtual 49, 3, 6, 0, 0), (33, .if_icmp .ge 30, 3, 0, 0, 0), (36, .aload_n 0, 1, 0, 0, 0), (37, .getfield 9, 3, 2, 7, 0), (40, .aload_n 0, 1, 0, 0, 0), (41, .getfield 31, 3, 0, 7, 3), (44, .iload_n 2, 1, 0, 0, 0), (45, .iadd, 1, 0, 0, 0), (46, .iaload, 1, 0, 0, 0), (47, .aload_n 1, 1, 0, 0, 0), (48, .iload_n 2, 1, 0, 0, 0), (49, .invokevirtual 55, 3, 7, 0, 0), (52, .if_icmp .eq 5, 3, 0, 0, 0), (55, .iconst 0, 1, 0, 0, 0), (56, .ireturn, 1, 1, 0, 0), (57, .iinc 2 1, 3, 0, 0, 0), (60, .goto (-32), 3, 4, 0, 0), (63, .iconst 1, 1, 0, 0, 0), (64, .ireturn, 1, 1, 0, 0)]
def cd_X8_init : List (Nat × cm_E) := [(0, .aload_n 0, 1, 0, 0, 0), (1, .invokespecial 3, 3, 1, 0, 0), (4, .aload_n 0, 1, 0, 0, 0), (5, .sipush 700, 3, 0, 0, 0), (8, .newarray .int, 2, 0, 0, 0), (10, .putfield 9, 3, 2, 8, 0), (13, .aload_n 0, 1, 0, 0, 0), (14, .new 13, 3, 0, 5, 14), (17, .dup, 1, 0, 0, 0), (18, .invokespecial 15, 3, 105, 47, 1), (21, .putfield 16, 3, 2, 8, 2), (24, .aload_n 0, 1, 0, 0, 0), (25, .iconst (-1), 1, 0, 0, 0), (26, .putfield 20, 3, 0, 8, 3), (29, .aload_n 0, 1, 0, 0, 0), (30, .new 24, 3, 0, 2, 11), (33, .dup, 1, 0, 0, 0), (34, .invokespecial 26, 3, 102, 15, 1), (37, .putfield 27, 3, 2, 8, 4), (40, .aload_n 0, 1, 0, 0, 0), (41, .new 31, 3, 0, 6, 11), (44, .dup, 1, 0, 0, 0), (45, .invokespecial 33, 3, 106, 61, 1), (48, .putfield 34, 3, 2, 8, 5), (51, .aload_n 0, 1, 0, 0, 0), (52, .new 38, 3, 0, 1, 4), (55, .dup, 1, 0, 0, 0), (56, .invokespecial 40, 3, 101, 5, 1), (59, .putfield 41, 3, 2, 8, 6), (62, .aload_n 0, 1, 0, 0, 0), (63, .new 45, 3, 0, 0, 3), (66, .dup, 1, 0, 0, 0), (67, .invokespecial 47, 3, 100, 0, 1), (70, .putfield 48, 3, 2, 8, 7), (73, .aload_n 0, 1, 0, 0, 0), (74, .new 52, 3, 0, 4, 6), (77, .dup, 1, 0, 0, 0), (78, .invokespecial 54, 3, 104, 46, 1), (81, .putfield 55, 3, 2, 8, 10), (84, .aload_n 0, 1, 0, 0, 0), (85, .new 31, 3, 0, 6, 11), (88, .dup, 1, 0, 0, 0), (89, .invokespecial 33, 3, 106, 61, 1), (92, .putfield 59, 3, 2, 8, 11), (95, .aload_n 0, 1, 0, 0, 0), (96, .new 62, 3, 0, 3, 1), (99, .dup, 1, 0, 0, 0), (100, .invokespecial 64, 3, 103, 44, 1), (103, .putfield 65, 3, 2, 8, 12), (106, .aload_n 0, 1, 0, 0, 0), (107, .sipush 400, 3, 0, 0, 0), (110, .newarray .int, 2, 0, 0, 0), (112, .putfield 69, 3, 2, 8, 13), (115, .aload_n 0, 1, 0, 0, 0), (116, .getfield 16, 3, 2, 8, 2), (119, .aload_n 0, 1, 0, 0, 0), (120, .getfield 9, 3, 2, 8, 0), (123, .iconst 0, 1, 0, 0, 0), (124, .invokevirtual 72, 3, 105, 48, 3), (127, .aload_n 0, 1, 0, 0, 0), (128, .invokevirtual 76, 3, 108, 104, 1), (131, .return_, 1, 0, 0, 0)]
def cd_X8_feed : List (Nat × cm_E) := [(0, .aload_n 0, 1, 0, 0, 0), (1, .getfield 79, 3, 0, 8, 1), (4, .bipush 20, 2, 0, 0, 0), (6, .iadd, 1, 0, 0, 0), (7, .sipush 700, 3, 0, 0, 0), (10, .if_icmp .le 5, 3, 0, 0, 0), (13, .iconst (-1), 1, 0, 0, 0), (14, .ireturn, 1, 0, 0, 0), (15, .aload_n 0, 1, 0, 0, 0), (16, .iload_n 1, 1, 0, 0, 0), (17, .invokevirtual 82, 3, 108, 102, 2), (20, .aload_n 0, 1, 0, 0, 0), (21, .iload_n 2, 1, 0, 0, 0), (22, .invokevirtual 82, 3, 108, 102, 2), (25, .aload_n 0, 1, 0, 0, 0), (26, .iload_n 3, 1, 0, 0, 0), (27, .invokevirtual 82, 3, 108, 102, 2), (30, .aload_n 0, 1, 0, 0, 0), (31, .iload 4, 2, 0, 0, 0), (33, .invokevirtual 82, 3, 108, 102, 2), (36, .aload_n 0, 1, 0, 0, 0), (37, .iload 5, 2, 0, 0, 0), (39, .invokevirtual 82, 3, 108, 102, 2), (42, .aload_n 0, 1, 0, 0, 0), (43, .getfield 79, 3, 0, 8, 1), (46, .ireturn, 1, 0, 0, 0)]
def cd_X8_feedNumber : List (Nat × cm_E) := [(0, .bipush 24, 2, 0, 0, 0), (2, .istore_n 2, 1, 0, 0, 0), (3, .iload_n 2, 1, 0, 0, 0), (4, .ifCond .lt 35, 3, 0, 0, 0), (7, .aload_n 0, 1, 0, 0, 0), (8, .getfield 9, 3, 2, 8, 0), (11, .aload_n 0, 1, 0, 0, 0), (12, .getfield 79, 3, 0, 8, 1), (15, .iload_n 1, 1, 0, 0, 0), (16, .iload_n 2, 1, 0, 0, 0), (17, .iushr, 1, 0, 0, 0), (18, .sipush 255, 3, 0, 0, 0), (21, .iand, 1, 0, 0, 0), (22, .iastore, 1, 0, 0, 0), (23, .aload_n 0, 1, 0, 0, 0), (24, .dup, 1, 0, 0, 0), (25, .getfield 79, 3, 0, 8, 1), (28, .iconst 1, 1, 0, 0, 0), (29, .iadd, 1, 0, 0, 0), (30, .putfield 79, 3, 0, 8, 1), (33, .iinc 2 (-8), 3, 0, 0, 0), (36, .goto (-33), 3, 4, 0, 0), (39, .return_, 1, 0, 0, 0)]
def cd_X8_disc : List (Nat × cm_E) := [(0, .iload_n 1, 1, 0, 0, 0), (1, .ifCond .lt 11, 3, 0, 0, 0), (4, .iload_n 1, 1, 0, 0, 0), (5, .aload_n 0, 1, 0, 0, 0), (6, .getfield 79, 3, 0, 8, 1), (9, .if_icmp .le 13, 3, 0, 0, 0), (12, .new 86, 3, 1, 1, 0), (15, .dup, 1, 0, 0, 0), (16, .ldc 88, 2, 2, 0, 0), (18, .invokespecial 90, 3, 99, 0, 0), (21, .athrow, 1, 0, 0, 0), (22, .aload_n 0, 1, 0, 0, 0), (23, .iconst 0, 1, 0, 0, 0), (24, .putfield 79, 3, 0, 8, 1), (27, .aload_n 0, 1, 0, 0, 0), (28, .getfield 16, 3, 2, 8, 2), (31, .aload_n 0, 1, 0, 0, 0), (32, .getfield 9, 3, 2, 8, 0), (35, .iload_n 1, 1, 0, 0, 0), (36, .invokevirtual 72, 3, 105, 48, 3), (39, .aload_n 0, 1, 0, 0, 0), (40, .aload_n 0, 1, 0, 0, 0), (41, .getfield 16, 3, 2, 8, 2), (44, .getfield 93, 3, 0, 5, 2), (47, .putfield 20, 3, 0, 8, 3), (50, .aload_n 0, 1, 0, 0, 0), (51, .getfield 16, 3, 2, 8, 2), (54, .getfield 96, 3, 0, 5, 1), (57, .ifCond .eq 21, 3, 0, 0, 0), (60, .aload_n 0, 1, 0, 0, 0), (61, .dup, 1, 0, 0, 0), (62, .getfield 99, 3, 0, 8, 8), (65, .iconst 1, 1, 0, 0, 0), (66, .iadd, 1, 0, 0, 0), (67, .putfield 99, 3, 0, 8, 8), (70, .aload_n 0, 1, 0, 0, 0), (71, .getfield 16, 3, 2, 8, 2), (74, .getfield 96, 3, 0, 5, 1), (77, .ireturn, 1, 0, 0, 0), (78, .aload_n 0, 1, 0, 0, 0), (79, .invokevirtual 76, 3, 108, 104, 1), (82, .iconst 0, 1, 0, 0, 0), (83, .ireturn, 1, 0, 0, 0)]
def cd_X8_beginAnew : List (Nat × cm_E) := [(0, .aload_n 0, 1, 0, 0, 0), (1, .getfield 27, 3, 2, 8, 4), (4, .aload_n 0, 1, 0, 0, 0), (5, .getfield 16, 3, 2, 8, 2), (8, .invokevirtual 102, 3, 102, 16, 2), (11, .aload_n 0, 1, 0, 0, 0), (12, .getfield 34, 3, 2, 8, 5), (15, .aload_n 0, 1, 0, 0, 0), (16, .getfield 16, 3, 2, 8, 2), (19, .invokevirtual 106, 3, 106, 63, 2), (22, .aload_n 0, 1, 0, 0, 0), (23, .getfield 48, 3, 2, 8, 7), (26, .invokevirtual 107, 3, 100, 1, 1), (29, .aload_n 0, 1, 0, 0, 0), (30, .getfield 55, 3, 2, 8, 10), (33, .iconst 0, 1, 0, 0, 0), (34, .putfield 110, 3, 1, 4, 0), (37, .return_, 1, 0, 0, 0)]
def cd_X8_fault : List (Nat × cm_E) := [(0, .aload_n 0, 1, 0, 0, 0), (1, .getfield 20, 3, 0, 8, 3), (4, .ireturn, 1, 0, 0, 0)]
def cd_X8_count : List (Nat × cm_E) := [(0, .iload_n 1, 1, 0, 0, 0), (1, .tableswitch 323 0 20 #[99, 107, 115, 123, 131, 139, 147, 155, 171, 179, 187, 195, 210, 225, 247, 277, 285, 300, 308, 313, 318], 99, 0, 0, 0), (100, .aload_n 0, 1, 0, 0, 0), (101, .getfield 27, 3, 2, 8, 4), (104, .getfield 114, 3, 0, 2, 0), (107, .ireturn, 1, 0, 0, 0), (108, .aload_n 0, 1, 0, 0, 0), (109, .getfield 27, 3, 2, 8, 4), (112, .getfield 117, 3, 0, 2, 1), (115, .ireturn, 1, 0, 0, 0), (116, .aload_n 0, 1, 0, 0, 0), (117, .getfield 27, 3, 2, 8, 4), (120, .getfield 120, 3, 0, 2, 2), (123, .ireturn, 1, 0, 0, 0), (124, .aload_n 0, 1, 0, 0, 0), (125, .getfield 27, 3, 2, 8, 4), (128, .getfield 123, 3, 0, 2, 3), (131, .ireturn, 1, 0, 0, 0), (132, .aload_n 0, 1, 0, 0, 0), (133, .getfield 34, 3, 2, 8, 5), (136, .getfield 126, 3, 0, 6, 9), (139, .ireturn, 1, 0, 0, 0), (140, .aload_n 0, 1, 0, 0, 0), (141, .getfield 34, 3, 2, 8, 5), (144, .invokevirtual 129, 3, 106, 76, 1), (147, .ireturn, 1, 0, 0, 0), (148, .aload_n 0, 1, 0, 0, 0), (149, .getfield 34, 3, 2, 8, 5), (152, .invokevirtual 133, 3, 106, 77, 1), (155, .ireturn, 1, 0, 0, 0), (156, .aload_n 0, 1, 0, 0, 0), (157, .getfield 34, 3, 2, 8, 5), (160, .getfield 136, 3, 1, 6, 6), (163, .ifCond .eq 7, 3, 0, 0, 0), (166, .iconst 1, 1, 0, 0, 0), (167, .goto 4, 3, 0, 0, 0), (170, .iconst 0, 1, 0, 0, 0), (171, .ireturn, 1, 0, 0, 0), (172, .aload_n 0, 1, 0, 0, 0), (173, .getfield 34, 3, 2, 8, 5), (176, .invokevirtual 139, 3, 106, 80, 1), (179, .ireturn, 1, 0, 0, 0), (180, .aload_n 0, 1, 0, 0, 0), (181, .getfield 34, 3, 2, 8, 5), (184, .getfield 142, 3, 0, 6, 7), (187, .ireturn, 1, 0, 0, 0), (188, .aload_n 0, 1, 0, 0, 0), (189, .getfield 34, 3, 2, 8, 5), (192, .getfield 145, 3, 0, 6, 8), (195, .ireturn, 1, 0, 0, 0), (196, .aload_n 0, 1, 0, 0, 0), (197, .getfield 27, 3, 2, 8, 4), (200, .aload_n 0, 1, 0, 0, 0), (201, .getfield 34, 3, 2, 8, 5), (204, .getfield 126, 3, 0, 6, 9), (207, .invokevirtual 148, 3, 102, 33, 2), (210, .ireturn, 1, 0, 0, 0), (211, .aload_n 0, 1, 0, 0, 0), (212, .getfield 27, 3, 2, 8, 4), (215, .aload_n 0, 1, 0, 0, 0), (216, .getfield 34, 3, 2, 8, 5), (219, .getfield 142, 3, 0, 6, 7), (222, .invokevirtual 152, 3, 102, 35, 2), (225, .ireturn, 1, 0, 0, 0), (226, .aload_n 0, 1, 0, 0, 0), (227, .getfield 27, 3, 2, 8, 4), (230, .aload_n 0, 1, 0, 0, 0), (231, .getfield 34, 3, 2, 8, 5), (234, .getfield 142, 3, 0, 6, 7), (237, .aload_n 0, 1, 0, 0, 0), (238, .getfield 34, 3, 2, 8, 5), (241, .getfield 126, 3, 0, 6, 9), (244, .invokevirtual 155, 3, 102, 42, 3), (247, .ireturn, 1, 0, 0, 0), (248, .aload_n 0, 1, 0, 0, 0), (249, .getfield 27, 3, 2, 8, 4), (252, .aload_n 0, 1, 0, 0, 0), (253, .getfield 34, 3, 2, 8, 5), (256, .getfield 126, 3, 0, 6, 9), (259, .invokevirtual 148, 3, 102, 33, 2), (262, .aload_n 0, 1, 0, 0, 0), (263, .getfield 27, 3, 2, 8, 4), (266, .aload_n 0, 1, 0, 0, 0), (267, .getfield 34, 3, 2, 8, 5), (270, .getfield 142, 3, 0, 6, 7), (273, .invokevirtual 152, 3, 102, 35, 2), (276, .isub, 1, 0, 0, 0), (277, .ireturn, 1, 0, 0, 0), (278, .aload_n 0, 1, 0, 0, 0), (279, .getfield 34, 3, 2, 8, 5), (282, .getfield 159, 3, 0, 6, 10), (285, .ireturn, 1, 0, 0, 0), (286, .aload_n 0, 1, 0, 0, 0), (287, .getfield 27, 3, 2, 8, 4), (290, .aload_n 0, 1, 0, 0, 0), (291, .getfield 34, 3, 2, 8, 5), (294, .getfield 126, 3, 0, 6, 9), (297, .invokevirtual 162, 3, 102, 43, 2), (300, .ireturn, 1, 0, 0, 0), (301, .aload_n 0, 1, 0, 0, 0), (302, .getfield 48, 3, 2, 8, 7), (305, .getfield 165, 3, 0, 0, 2), (308, .ireturn, 1, 0, 0, 0), (309, .aload_n 0, 1, 0, 0, 0), (310, .getfield 79, 3, 0, 8, 1), (313, .ireturn, 1, 0, 0, 0), (314, .aload_n 0, 1, 0, 0, 0), (315, .getfield 99, 3, 0, 8, 8), (318, .ireturn, 1, 0, 0, 0), (319, .aload_n 0, 1, 0, 0, 0), (320, .getfield 168, 3, 0, 8, 9), (323, .ireturn, 1, 0, 0, 0), (324, .new 171, 3, 1, 0, 0), (327, .dup, 1, 0, 0, 0), (328, .ldc 173, 2, 2, 0, 0), (330, .invokespecial 175, 3, 99, 0, 0), (333, .athrow, 1, 0, 0, 0)]
def cd_X8_block : List (Nat × cm_E) := [(0, .aload_n 0, 1, 0, 0, 0), (1, .iload_n 1, 1, 0, 0, 0), (2, .invokevirtual 176, 3, 108, 109, 2), (5, .iload_n 2, 1, 0, 0, 0), (6, .iconst 1, 1, 0, 0, 0), (7, .invokestatic 179, 3, 0, 110, 2), (10, .iload_n 2, 1, 0, 0, 0), (11, .ifCond .ne 19, 3, 0, 0, 0), (14, .aload_n 0, 1, 0, 0, 0), (15, .getfield 27, 3, 2, 8, 4), (18, .iload_n 1, 1, 0, 0, 0), (19, .aload_n 0, 1, 0, 0, 0), (20, .getfield 34, 3, 2, 8, 5), (23, .getfield 126, 3, 0, 6, 9), (26, .invokevirtual 183, 3, 102, 21, 3), (29, .ireturn, 1, 0, 0, 0), (30, .aload_n 0, 1, 0, 0, 0), (31, .getfield 27, 3, 2, 8, 4), (34, .iload_n 1, 1, 0, 0, 0), (35, .aload_n 0, 1, 0, 0, 0), (36, .getfield 34, 3, 2, 8, 5), (39, .getfield 126, 3, 0, 6, 9), (42, .invokevirtual 186, 3, 102, 41, 3), (45, .ireturn, 1, 0, 0, 0)]
def cd_X8_tells : List (Nat × cm_E) := [(0, .aload_n 0, 1, 0, 0, 0), (1, .iload_n 1, 1, 0, 0, 0), (2, .invokevirtual 176, 3, 108, 109, 2), (5, .iload_n 1, 1, 0, 0, 0), (6, .aload_n 0, 1, 0, 0, 0), (7, .getfield 34, 3, 2, 8, 5), (10, .getfield 126, 3, 0, 6, 9), (13, .if_icmp .ge 19, 3, 0, 0, 0), (16, .iload_n 2, 1, 0, 0, 0), (17, .ifCond .lt 15, 3, 0, 0, 0), (20, .iload_n 2, 1, 0, 0, 0), (21, .aload_n 0, 1, 0, 0, 0), (22, .getfield 27, 3, 2, 8, 4), (25, .iload_n 1, 1, 0, 0, 0), (26, .invokevirtual 189, 3, 102, 22, 2), (29, .if_icmp .lt 13, 3, 0, 0, 0), (32, .new 171, 3, 1, 0, 0), (35, .dup, 1, 0, 0, 0), (36, .ldc 192, 2, 2, 0, 0), (38, .invokespecial 175, 3, 99, 0, 0), (41, .athrow, 1, 0, 0, 0), (42, .aload_n 0, 1, 0, 0, 0), (43, .getfield 27, 3, 2, 8, 4), (46, .iload_n 1, 1, 0, 0, 0), (47, .iload_n 2, 1, 0, 0, 0), (48, .invokevirtual 194, 3, 102, 23, 3), (51, .ireturn, 1, 0, 0, 0)]
def cd_X8_checkBlock : List (Nat × cm_E) := [(0, .iload_n 1, 1, 0, 0, 0), (1, .ifCond .lt 14, 3, 0, 0, 0), (4, .iload_n 1, 1, 0, 0, 0), (5, .aload_n 0, 1, 0, 0, 0), (6, .getfield 27, 3, 2, 8, 4), (9, .getfield 114, 3, 0, 2, 0), (12, .if_icmp .lt 13, 3, 0, 0, 0), (15, .new 171, 3, 1, 0, 0), (18, .dup, 1, 0, 0, 0), (19, .ldc 197, 2, 2, 0, 0), (21, .invokespecial 175, 3, 99, 0, 0), (24, .athrow, 1, 0, 0, 0), (25, .return_, 1, 0, 0, 0)]
def cd_X8_checkWhat : List (Nat × cm_E) := [(0, .iload_n 0, 1, 0, 0, 0), (1, .ifCond .lt 8, 3, 0, 0, 0), (4, .iload_n 0, 1, 0, 0, 0), (5, .iload_n 1, 1, 0, 0, 0), (6, .if_icmp .le 13, 3, 0, 0, 0), (9, .new 171, 3, 1, 0, 0), (12, .dup, 1, 0, 0, 0), (13, .ldc 199, 2, 2, 0, 0), (15, .invokespecial 175, 3, 99, 0, 0), (18, .athrow, 1, 0, 0, 0), (19, .return_, 1, 0, 0, 0)]
def cd_X8_file : List (Nat × cm_E) := [(0, .aload_n 0, 1, 0, 0, 0), (1, .iload_n 1, 1, 0, 0, 0), (2, .invokevirtual 201, 3, 108, 114, 2), (5, .iload_n 2, 1, 0, 0, 0), (6, .iconst 3, 1, 0, 0, 0), (7, .invokestatic 179, 3, 0, 110, 2), (10, .iload_n 2, 1, 0, 0, 0), (11, .tableswitch 54 0 2 #[25, 35, 45], 25, 0, 0, 0), (36, .aload_n 0, 1, 0, 0, 0), (37, .getfield 34, 3, 2, 8, 5), (40, .getfield 204, 3, 2, 6, 1), (43, .iload_n 1, 1, 0, 0, 0), (44, .iaload, 1, 0, 0, 0), (45, .ireturn, 1, 0, 0, 0), (46, .aload_n 0, 1, 0, 0, 0), (47, .getfield 34, 3, 2, 8, 5), (50, .getfield 207, 3, 2, 6, 0), (53, .iload_n 1, 1, 0, 0, 0), (54, .iaload, 1, 0, 0, 0), (55, .ireturn, 1, 0, 0, 0), (56, .aload_n 0, 1, 0, 0, 0), (57, .getfield 34, 3, 2, 8, 5), (60, .iload_n 1, 1, 0, 0, 0), (61, .invokevirtual 210, 3, 106, 73, 2), (64, .ireturn, 1, 0, 0, 0), (65, .aload_n 0, 1, 0, 0, 0), (66, .getfield 34, 3, 2, 8, 5), (69, .getfield 213, 3, 2, 6, 2), (72, .iload_n 1, 1, 0, 0, 0), (73, .baload, 1, 0, 0, 0), (74, .ifCond .eq 7, 3, 0, 0, 0), (77, .iconst 1, 1, 0, 0, 0), (78, .goto 4, 3, 0, 0, 0), (81, .iconst 0, 1, 0, 0, 0), (82, .ireturn, 1, 0, 0, 0)]
def cd_X8_lie : List (Nat × cm_E) := [(0, .aload_n 0, 1, 0, 0, 0), (1, .iload_n 1, 1, 0, 0, 0), (2, .invokevirtual 201, 3, 108, 114, 2), (5, .iload_n 2, 1, 0, 0, 0), (6, .iconst 1, 1, 0, 0, 0), (7, .invokestatic 179, 3, 0, 110, 2), (10, .iload_n 2, 1, 0, 0, 0), (11, .ifCond .ne 14, 3, 0, 0, 0), (14, .aload_n 0, 1, 0, 0, 0), (15, .getfield 34, 3, 2, 8, 5), (18, .iload_n 1, 1, 0, 0, 0), (19, .invokevirtual 217, 3, 106, 92, 2), (22, .goto 11, 3, 0, 0, 0), (25, .aload_n 0, 1, 0, 0, 0), (26, .getfield 34, 3, 2, 8, 5), (29, .iload_n 1, 1, 0, 0, 0), (30, .invokevirtual 220, 3, 106, 93, 2), (33, .ireturn, 1, 0, 0, 0)]
def cd_X8_read : List (Nat × cm_E) := [(0, .aload_n 0, 1, 0, 0, 0), (1, .iload_n 1, 1, 0, 0, 0), (2, .invokevirtual 201, 3, 108, 114, 2), (5, .iload_n 2, 1, 0, 0, 0), (6, .ifCond .lt 16, 3, 0, 0, 0), (9, .iload_n 2, 1, 0, 0, 0), (10, .aload_n 0, 1, 0, 0, 0), (11, .getfield 34, 3, 2, 8, 5), (14, .getfield 204, 3, 2, 6, 1), (17, .iload_n 1, 1, 0, 0, 0), (18, .iaload, 1, 0, 0, 0), (19, .if_icmp .lt 13, 3, 0, 0, 0), (22, .new 171, 3, 1, 0, 0), (25, .dup, 1, 0, 0, 0), (26, .ldc 223, 2, 2, 0, 0), (28, .invokespecial 175, 3, 99, 0, 0), (31, .athrow, 1, 0, 0, 0), (32, .aload_n 0, 1, 0, 0, 0), (33, .getfield 34, 3, 2, 8, 5), (36, .iload_n 1, 1, 0, 0, 0), (37, .iload_n 2, 1, 0, 0, 0), (38, .invokevirtual 225, 3, 106, 72, 3), (41, .ireturn, 1, 0, 0, 0)]
def cd_X8_checkFile : List (Nat × cm_E) := [(0, .aload_n 0, 1, 0, 0, 0), (1, .getfield 34, 3, 2, 8, 5), (4, .iload_n 1, 1, 0, 0, 0), (5, .invokevirtual 228, 3, 106, 70, 2), (8, .ifCond .ne 13, 3, 0, 0, 0), (11, .new 171, 3, 1, 0, 0), (14, .dup, 1, 0, 0, 0), (15, .ldc 232, 2, 2, 0, 0), (17, .invokespecial 175, 3, 99, 0, 0), (20, .athrow, 1, 0, 0, 0), (21, .return_, 1, 0, 0, 0)]
def cd_X8_past : List (Nat × cm_E) := [(0, .aload_n 0, 1, 0, 0, 0), (1, .iload_n 1, 1, 0, 0, 0), (2, .invokevirtual 234, 3, 108, 116, 2), (5, .istore 4, 2, 0, 0, 0), (7, .iload_n 2, 1, 0, 0, 0), (8, .invokestatic 237, 3, 0, 117, 1), (11, .iload_n 3, 1, 0, 0, 0), (12, .iconst (-1), 1, 0, 0, 0), (13, .if_icmp .eq 7, 3, 0, 0, 0), (16, .iload_n 3, 1, 0, 0, 0), (17, .invokestatic 240, 3, 0, 118, 1), (20, .aload_n 0, 1, 0, 0, 0), (21, .getfield 27, 3, 2, 8, 4), (24, .iload 4, 2, 0, 0, 0), (26, .iload_n 2, 1, 0, 0, 0), (27, .invokevirtual 243, 3, 102, 36, 3), (30, .istore 5, 2, 0, 0, 0), (32, .iload 5, 2, 0, 0, 0), (34, .iconst (-1), 1, 0, 0, 0), (35, .if_icmp .ne 5, 3, 0, 0, 0), (38, .iconst (-1), 1, 0, 0, 0), (39, .ireturn, 1, 0, 0, 0), (40, .iload_n 3, 1, 0, 0, 0), (41, .iconst (-1), 1, 0, 0, 0), (42, .if_icmp .ne 15, 3, 0, 0, 0), (45, .aload_n 0, 1, 0, 0, 0), (46, .getfield 27, 3, 2, 8, 4), (49, .iload 5, 2, 0, 0, 0), (51, .invokevirtual 189, 3, 102, 22, 2), (54, .goto 13, 3, 0, 0, 0), (57, .aload_n 0, 1, 0, 0, 0), (58, .getfield 27, 3, 2, 8, 4), (61, .iload 5, 2, 0, 0, 0), (63, .iload_n 3, 1, 0, 0, 0), (64, .invokevirtual 246, 3, 102, 37, 3), (67, .ireturn, 1, 0, 0, 0)]
def cd_X8_mapOrThrow : List (Nat × cm_E) := [(0, .aload_n 0, 1, 0, 0, 0), (1, .getfield 27, 3, 2, 8, 4), (4, .aload_n 0, 1, 0, 0, 0), (5, .getfield 34, 3, 2, 8, 5), (8, .getfield 142, 3, 0, 6, 7), (11, .iload_n 1, 1, 0, 0, 0), (12, .invokevirtual 249, 3, 102, 34, 3), (15, .istore_n 2, 1, 0, 0, 0), (16, .iload_n 2, 1, 0, 0, 0), (17, .iconst (-1), 1, 0, 0, 0), (18, .if_icmp .ne 13, 3, 0, 0, 0), (21, .new 171, 3, 1, 0, 0), (24, .dup, 1, 0, 0, 0), (25, .ldc 252, 2, 2, 0, 0), (27, .invokespecial 175, 3, 99, 0, 0), (30, .athrow, 1, 0, 0, 0), (31, .iload_n 2, 1, 0, 0, 0), (32, .ireturn, 1, 0, 0, 0)]
def cd_X8_checkName : List (Nat × cm_E) := [(0, .iload_n 0, 1, 0, 0, 0), (1, .invokestatic 254, 3, 0, 160, 1), (4, .ifCond .ne 14, 3, 0, 0, 0), (7, .new 171, 3, 1, 0, 0), (10, .dup, 1, 0, 0, 0), (11, .ldc_w 257, 3, 2, 0, 0), (14, .invokespecial 175, 3, 99, 0, 0), (17, .athrow, 1, 0, 0, 0), (18, .return_, 1, 0, 0, 0)]
def cd_X8_checkCell : List (Nat × cm_E) := [(0, .iload_n 0, 1, 0, 0, 0), (1, .ifCond .lt 9, 3, 0, 0, 0), (4, .iload_n 0, 1, 0, 0, 0), (5, .bipush 8, 2, 0, 0, 0), (7, .if_icmp .lt 13, 3, 0, 0, 0), (10, .new 171, 3, 1, 0, 0), (13, .dup, 1, 0, 0, 0), (14, .ldc 223, 2, 2, 0, 0), (16, .invokespecial 175, 3, 99, 0, 0), (19, .athrow, 1, 0, 0, 0), (20, .return_, 1, 0, 0, 0)]
def cd_X8_versions : List (Nat × cm_E) := [(0, .iload_n 1, 1, 0, 0, 0), (1, .invokestatic 237, 3, 0, 117, 1), (4, .iconst 0, 1, 0, 0, 0), (5, .istore_n 2, 1, 0, 0, 0), (6, .aload_n 0, 1, 0, 0, 0), (7, .getfield 34, 3, 2, 8, 5), (10, .getfield 142, 3, 0, 6, 7), (13, .istore_n 3, 1, 0, 0, 0), (14, .iconst 0, 1, 0, 0, 0), (15, .istore 4, 2, 0, 0, 0), (17, .iload 4, 2, 0, 0, 0), (19, .sipush 400, 3, 0, 0, 0), (22, .if_icmp .ge 63, 3, 0, 0, 0), (25, .iload_n 3, 1, 0, 0, 0), (26, .iconst (-1), 1, 0, 0, 0), (27, .if_icmp .eq 58, 3, 0, 0, 0), (30, .aload_n 0, 1, 0, 0, 0), (31, .getfield 27, 3, 2, 8, 4), (34, .iload_n 3, 1, 0, 0, 0), (35, .iload_n 1, 1, 0, 0, 0), (36, .invokevirtual 243, 3, 102, 36, 3), (39, .istore 5, 2, 0, 0, 0), (41, .iload 5, 2, 0, 0, 0), (43, .iconst (-1), 1, 0, 0, 0), (44, .if_icmp .eq 24, 3, 0, 0, 0), (47, .aload_n 0, 1, 0, 0, 0), (48, .iload 5, 2, 0, 0, 0), (50, .iload_n 2, 1, 0, 0, 0), (51, .invokevirtual 259, 3, 108, 120, 3), (54, .ifCond .ne 14, 3, 0, 0, 0), (57, .aload_n 0, 1, 0, 0, 0), (58, .getfield 69, 3, 2, 8, 13), (61, .iload_n 2, 1, 0, 0, 0), (62, .iload 5, 2, 0, 0, 0), (64, .iastore, 1, 0, 0, 0), (65, .iinc 2 1, 3, 0, 0, 0), (68, .aload_n 0, 1, 0, 0, 0), (69, .getfield 27, 3, 2, 8, 4), (72, .iload_n 3, 1, 0, 0, 0), (73, .bipush 13, 2, 0, 0, 0), (75, .invokevirtual 194, 3, 102, 23, 3), (78, .istore_n 3, 1, 0, 0, 0), (79, .iinc 4 1, 3, 0, 0, 0), (82, .goto (-65), 3, 6, 0, 0), (85, .iload_n 2, 1, 0, 0, 0), (86, .ireturn, 1, 0, 0, 0)]
def cd_X8_isLikeOneOf : List (Nat × cm_E) := [(0, .iconst 0, 1, 0, 0, 0), (1, .istore_n 3, 1, 0, 0, 0), (2, .iload_n 3, 1, 0, 0, 0), (3, .iload_n 2, 1, 0, 0, 0), (4, .if_icmp .ge 28, 3, 0, 0, 0), (7, .aload_n 0, 1, 0, 0, 0), (8, .getfield 27, 3, 2, 8, 4), (11, .iload_n 1, 1, 0, 0, 0), (12, .aload_n 0, 1, 0, 0, 0), (13, .getfield 69, 3, 2, 8, 13), (16, .iload_n 3, 1, 0, 0, 0), (17, .iaload, 1, 0, 0, 0), (18, .invokevirtual 263, 3, 102, 38, 3), (21, .ifCond .eq 5, 3, 0, 0, 0), (24, .iconst 1, 1, 0, 0, 0), (25, .ireturn, 1, 1, 0, 0), (26, .iinc 3 1, 3, 0, 0, 0), (29, .goto (-27), 3, 5, 0, 0), (32, .iconst 0, 1, 0, 0, 0), (33, .ireturn, 1, 1, 0, 0)]
def cd_X8_since : List (Nat × cm_E) := [(0, .iload_n 1, 1, 0, 0, 0), (1, .invokestatic 237, 3, 0, 117, 1), (4, .iload_n 2, 1, 0, 0, 0), (5, .invokestatic 240, 3, 0, 118, 1), (8, .aload_n 0, 1, 0, 0, 0), (9, .getfield 34, 3, 2, 8, 5), (12, .getfield 142, 3, 0, 6, 7), (15, .istore 4, 2, 0, 0, 0), (17, .iconst 0, 1, 0, 0, 0), (18, .istore 5, 2, 0, 0, 0), (20, .iload 5, 2, 0, 0, 0), (22, .sipush 400, 3, 0, 0, 0), (25, .if_icmp .ge 70, 3, 0, 0, 0), (28, .iload 4, 2, 0, 0, 0), (30, .iconst (-1), 1, 0, 0, 0), (31, .if_icmp .eq 64, 3, 0, 0, 0), (34, .aload_n 0, 1, 0, 0, 0), (35, .getfield 27, 3, 2, 8, 4), (38, .iload 4, 2, 0, 0, 0), (40, .iload_n 1, 1, 0, 0, 0), (41, .invokevirtual 243, 3, 102, 36, 3), (44, .istore 6, 2, 0, 0, 0), (46, .iload_n 2, 1, 0, 0, 0), (47, .aload_n 0, 1, 0, 0, 0), (48, .getfield 27, 3, 2, 8, 4), (51, .iload 6, 2, 0, 0, 0), (53, .invokevirtual 189, 3, 102, 22, 2), (56, .if_icmp .ge 20, 3, 0, 0, 0), (59, .aload_n 0, 1, 0, 0, 0), (60, .getfield 27, 3, 2, 8, 4), (63, .iload 6, 2, 0, 0, 0), (65, .iload_n 2, 1, 0, 0, 0), (66, .invokevirtual 246, 3, 102, 37, 3), (69, .iload_n 3, 1, 0, 0, 0), (70, .if_icmp .ne 6, 3, 0, 0, 0), (73, .iload 5, 2, 0, 0, 0), (75, .ireturn, 1, 0, 0, 0), (76, .aload_n 0, 1, 0, 0, 0), (77, .getfield 27, 3, 2, 8, 4), (80, .iload 4, 2, 0, 0, 0), (82, .bipush 13, 2, 0, 0, 0), (84, .invokevirtual 194, 3, 102, 23, 3), (87, .istore 4, 2, 0, 0, 0), (89, .iinc 5 1, 3, 0, 0, 0), (92, .goto (-72), 3, 7, 0, 0), (95, .iconst (-1), 1, 0, 0, 0), (96, .ireturn, 1, 0, 0, 0)]
def cd_X8_alike : List (Nat × cm_E) := [(0, .aload_n 0, 1, 0, 0, 0), (1, .iload_n 1, 1, 0, 0, 0), (2, .invokevirtual 234, 3, 108, 116, 2), (5, .istore_n 2, 1, 0, 0, 0), (6, .iconst 0, 1, 0, 0, 0), (7, .istore_n 3, 1, 0, 0, 0), (8, .iconst 0, 1, 0, 0, 0), (9, .istore 4, 2, 0, 0, 0), (11, .iload 4, 2, 0, 0, 0), (13, .bipush 12, 2, 0, 0, 0), (15, .if_icmp .ge 76, 3, 0, 0, 0), (18, .aload_n 0, 1, 0, 0, 0), (19, .getfield 27, 3, 2, 8, 4), (22, .iload_n 2, 1, 0, 0, 0), (23, .iload 4, 2, 0, 0, 0), (25, .invokevirtual 243, 3, 102, 36, 3), (28, .istore 5, 2, 0, 0, 0), (30, .iload 5, 2, 0, 0, 0), (32, .iconst (-1), 1, 0, 0, 0), (33, .if_icmp .ne 23, 3, 0, 0, 0), (36, .aload_n 0, 1, 0, 0, 0), (37, .getfield 34, 3, 2, 8, 5), (40, .iload 4, 2, 0, 0, 0), (42, .invokevirtual 228, 3, 106, 70, 2), (45, .ifCond .ne 7, 3, 0, 0, 0), (48, .iconst 1, 1, 0, 0, 0), (49, .goto 22, 3, 0, 0, 0), (52, .iconst 0, 1, 0, 0, 0), (53, .goto 18, 3, 0, 0, 0), (56, .aload_n 0, 1, 0, 0, 0), (57, .getfield 34, 3, 2, 8, 5), (60, .iload 4, 2, 0, 0, 0), (62, .aload_n 0, 1, 0, 0, 0), (63, .getfield 27, 3, 2, 8, 4), (66, .iload 5, 2, 0, 0, 0), (68, .invokevirtual 266, 3, 106, 91, 4), (71, .istore 6, 2, 0, 0, 0), (73, .iload 6, 2, 0, 0, 0), (75, .ifCond .eq 10, 3, 0, 0, 0), (78, .iload_n 3, 1, 0, 0, 0), (79, .iconst 1, 1, 0, 0, 0), (80, .iload 4, 2, 0, 0, 0), (82, .ishl, 1, 0, 0, 0), (83, .ior, 1, 0, 0, 0), (84, .istore_n 3, 1, 0, 0, 0), (85, .iinc 4 1, 3, 0, 0, 0), (88, .goto (-77), 3, 6, 0, 0), (91, .iload_n 3, 1, 0, 0, 0), (92, .ireturn, 1, 0, 0, 0)]
def cd_X8_set : List (Nat × cm_E) := [(0, .iload_n 3, 1, 0, 0, 0), (1, .ifCond .lt 22, 3, 0, 0, 0), (4, .iload_n 3, 1, 0, 0, 0), (5, .sipush 999, 3, 0, 0, 0), (8, .if_icmp .gt 15, 3, 0, 0, 0), (11, .aload_n 0, 1, 0, 0, 0), (12, .getfield 34, 3, 2, 8, 5), (15, .iload_n 1, 1, 0, 0, 0), (16, .iload_n 2, 1, 0, 0, 0), (17, .invokevirtual 270, 3, 106, 82, 3), (20, .ifCond .ne 8, 3, 0, 0, 0), (23, .aload_n 0, 1, 0, 0, 0), (24, .invokevirtual 273, 3, 108, 124, 1), (27, .ireturn, 1, 0, 0, 0), (28, .aload_n 0, 1, 0, 0, 0), (29, .getfield 48, 3, 2, 8, 7), (32, .aload_n 0, 1, 0, 0, 0), (33, .getfield 34, 3, 2, 8, 5), (36, .invokevirtual 276, 3, 100, 2, 2), (39, .aload_n 0, 1, 0, 0, 0), (40, .getfield 34, 3, 2, 8, 5), (43, .iload_n 1, 1, 0, 0, 0), (44, .iload_n 2, 1, 0, 0, 0), (45, .iload_n 3, 1, 0, 0, 0), (46, .invokevirtual 280, 3, 106, 83, 4), (49, .aload_n 0, 1, 0, 0, 0), (50, .getfield 34, 3, 2, 8, 5), (53, .getfield 204, 3, 2, 6, 1), (56, .iload_n 1, 1, 0, 0, 0), (57, .iaload, 1, 0, 0, 0), (58, .ireturn, 1, 0, 0, 0)]
def cd_X8_refuse : List (Nat × cm_E) := [(0, .aload_n 0, 1, 0, 0, 0), (1, .dup, 1, 0, 0, 0), (2, .getfield 168, 3, 0, 8, 9), (5, .iconst 1, 1, 0, 0, 0), (6, .iadd, 1, 0, 0, 0), (7, .putfield 168, 3, 0, 8, 9), (10, .iconst (-1), 1, 0, 0, 0), (11, .ireturn, 1, 0, 0, 0)]
def cd_X8_cut : List (Nat × cm_E) := [(0, .aload_n 0, 1, 0, 0, 0), (1, .getfield 34, 3, 2, 8, 5), (4, .iload_n 1, 1, 0, 0, 0), (5, .invokevirtual 228, 3, 106, 70, 2), (8, .ifCond .eq 20, 3, 0, 0, 0), (11, .iload_n 2, 1, 0, 0, 0), (12, .ifCond .lt 16, 3, 0, 0, 0), (15, .iload_n 2, 1, 0, 0, 0), (16, .aload_n 0, 1, 0, 0, 0), (17, .getfield 34, 3, 2, 8, 5), (20, .getfield 204, 3, 2, 6, 1), (23, .iload_n 1, 1, 0, 0, 0), (24, .iaload, 1, 0, 0, 0), (25, .if_icmp .lt 8, 3, 0, 0, 0), (28, .aload_n 0, 1, 0, 0, 0), (29, .invokevirtual 273, 3, 108, 124, 1), (32, .ireturn, 1, 0, 0, 0), (33, .aload_n 0, 1, 0, 0, 0), (34, .getfield 48, 3, 2, 8, 7), (37, .aload_n 0, 1, 0, 0, 0), (38, .getfield 34, 3, 2, 8, 5), (41, .invokevirtual 276, 3, 100, 2, 2), (44, .aload_n 0, 1, 0, 0, 0), (45, .getfield 34, 3, 2, 8, 5), (48, .getfield 204, 3, 2, 6, 1), (51, .iload_n 1, 1, 0, 0, 0), (52, .iaload, 1, 0, 0, 0), (53, .istore_n 3, 1, 0, 0, 0), (54, .aload_n 0, 1, 0, 0, 0), (55, .getfield 34, 3, 2, 8, 5), (58, .getfield 204, 3, 2, 6, 1), (61, .iload_n 1, 1, 0, 0, 0), (62, .iload_n 2, 1, 0, 0, 0), (63, .iastore, 1, 0, 0, 0), (64, .aload_n 0, 1, 0, 0, 0), (65, .getfield 34, 3, 2, 8, 5), (68, .getfield 213, 3, 2, 6, 2), (71, .iload_n 1, 1, 0, 0, 0), (72, .iconst 1, 1, 0, 0, 0), (73, .bastore, 1, 0, 0, 0), (74, .iload_n 3, 1, 0, 0, 0), (75, .ireturn, 1, 0, 0, 0)]
def cd_X8_erase : List (Nat × cm_E) := [(0, .aload_n 0, 1, 0, 0, 0), (1, .getfield 34, 3, 2, 8, 5), (4, .iload_n 1, 1, 0, 0, 0), (5, .invokevirtual 228, 3, 106, 70, 2), (8, .ifCond .ne 8, 3, 0, 0, 0), (11, .aload_n 0, 1, 0, 0, 0), (12, .invokevirtual 273, 3, 108, 124, 1), (15, .ireturn, 1, 0, 0, 0), (16, .aload_n 0, 1, 0, 0, 0), (17, .getfield 48, 3, 2, 8, 7), (20, .aload_n 0, 1, 0, 0, 0), (21, .getfield 34, 3, 2, 8, 5), (24, .invokevirtual 276, 3, 100, 2, 2), (27, .aload_n 0, 1, 0, 0, 0), (28, .getfield 34, 3, 2, 8, 5), (31, .getfield 204, 3, 2, 6, 1), (34, .iload_n 1, 1, 0, 0, 0), (35, .iaload, 1, 0, 0, 0), (36, .istore_n 2, 1, 0, 0, 0), (37, .aload_n 0, 1, 0, 0, 0), (38, .getfield 34, 3, 2, 8, 5), (41, .iload_n 1, 1, 0, 0, 0), (42, .invokevirtual 284, 3, 106, 85, 2), (45, .iload_n 2, 1, 0, 0, 0), (46, .ireturn, 1, 0, 0, 0)]
def cd_X8_rename : List (Nat × cm_E) := [(0, .aload_n 0, 1, 0, 0, 0), (1, .getfield 34, 3, 2, 8, 5), (4, .iload_n 1, 1, 0, 0, 0), (5, .iload_n 2, 1, 0, 0, 0), (6, .invokevirtual 287, 3, 106, 87, 3), (9, .ifCond .ne 15, 3, 0, 0, 0), (12, .aload_n 0, 1, 0, 0, 0), (13, .dup, 1, 0, 0, 0), (14, .getfield 168, 3, 0, 8, 9), (17, .iconst 1, 1, 0, 0, 0), (18, .iadd, 1, 0, 0, 0), (19, .putfield 168, 3, 0, 8, 9), (22, .iconst 0, 1, 0, 0, 0), (23, .ireturn, 1, 1, 0, 0), (24, .aload_n 0, 1, 0, 0, 0), (25, .getfield 48, 3, 2, 8, 7), (28, .aload_n 0, 1, 0, 0, 0), (29, .getfield 34, 3, 2, 8, 5), (32, .invokevirtual 276, 3, 100, 2, 2), (35, .aload_n 0, 1, 0, 0, 0), (36, .getfield 34, 3, 2, 8, 5), (39, .iload_n 1, 1, 0, 0, 0), (40, .iload_n 2, 1, 0, 0, 0), (41, .invokevirtual 290, 3, 106, 88, 3), (44, .iconst 1, 1, 0, 0, 0), (45, .ireturn, 1, 1, 0, 0)]
def cd_X8_copy : List (Nat × cm_E) := [(0, .aload_n 0, 1, 0, 0, 0), (1, .getfield 34, 3, 2, 8, 5), (4, .iload_n 1, 1, 0, 0, 0), (5, .iload_n 2, 1, 0, 0, 0), (6, .invokevirtual 287, 3, 106, 87, 3), (9, .ifCond .ne 8, 3, 0, 0, 0), (12, .aload_n 0, 1, 0, 0, 0), (13, .invokevirtual 273, 3, 108, 124, 1), (16, .ireturn, 1, 0, 0, 0), (17, .aload_n 0, 1, 0, 0, 0), (18, .getfield 48, 3, 2, 8, 7), (21, .aload_n 0, 1, 0, 0, 0), (22, .getfield 34, 3, 2, 8, 5), (25, .invokevirtual 276, 3, 100, 2, 2), (28, .aload_n 0, 1, 0, 0, 0), (29, .getfield 34, 3, 2, 8, 5), (32, .iload_n 1, 1, 0, 0, 0), (33, .iload_n 2, 1, 0, 0, 0), (34, .invokevirtual 293, 3, 106, 89, 3), (37, .aload_n 0, 1, 0, 0, 0), (38, .getfield 34, 3, 2, 8, 5), (41, .getfield 207, 3, 2, 6, 0), (44, .iload_n 2, 1, 0, 0, 0), (45, .iaload, 1, 0, 0, 0), (46, .ireturn, 1, 0, 0, 0)]
def cd_X8_revert : List (Nat × cm_E) := [(0, .aload_n 0, 1, 0, 0, 0), (1, .getfield 34, 3, 2, 8, 5), (4, .iload_n 1, 1, 0, 0, 0), (5, .invokevirtual 228, 3, 106, 70, 2), (8, .ifCond .ne 8, 3, 0, 0, 0), (11, .aload_n 0, 1, 0, 0, 0), (12, .invokevirtual 273, 3, 108, 124, 1), (15, .ireturn, 1, 0, 0, 0), (16, .aload_n 0, 1, 0, 0, 0), (17, .getfield 27, 3, 2, 8, 4), (20, .aload_n 0, 1, 0, 0, 0), (21, .getfield 27, 3, 2, 8, 4), (24, .aload_n 0, 1, 0, 0, 0), (25, .getfield 34, 3, 2, 8, 5), (28, .getfield 142, 3, 0, 6, 7), (31, .iload_n 2, 1, 0, 0, 0), (32, .invokevirtual 249, 3, 102, 34, 3), (35, .iload_n 1, 1, 0, 0, 0), (36, .invokevirtual 243, 3, 102, 36, 3), (39, .istore_n 3, 1, 0, 0, 0), (40, .iload_n 3, 1, 0, 0, 0), (41, .iconst (-1), 1, 0, 0, 0), (42, .if_icmp .ne 8, 3, 0, 0, 0), (45, .aload_n 0, 1, 0, 0, 0), (46, .invokevirtual 273, 3, 108, 124, 1), (49, .ireturn, 1, 0, 0, 0), (50, .aload_n 0, 1, 0, 0, 0), (51, .getfield 48, 3, 2, 8, 7), (54, .aload_n 0, 1, 0, 0, 0), (55, .getfield 34, 3, 2, 8, 5), (58, .invokevirtual 276, 3, 100, 2, 2), (61, .aload_n 0, 1, 0, 0, 0), (62, .getfield 34, 3, 2, 8, 5), (65, .iload_n 1, 1, 0, 0, 0), (66, .aload_n 0, 1, 0, 0, 0), (67, .getfield 27, 3, 2, 8, 4), (70, .iload_n 3, 1, 0, 0, 0), (71, .invokevirtual 296, 3, 106, 68, 4), (74, .aload_n 0, 1, 0, 0, 0), (75, .getfield 34, 3, 2, 8, 5), (78, .getfield 213, 3, 2, 6, 2), (81, .iload_n 1, 1, 0, 0, 0), (82, .iconst 1, 1, 0, 0, 0), (83, .bastore, 1, 0, 0, 0), (84, .aload_n 0, 1, 0, 0, 0), (85, .getfield 34, 3, 2, 8, 5), (88, .getfield 204, 3, 2, 6, 1), (91, .iload_n 1, 1, 0, 0, 0), (92, .iaload, 1, 0, 0, 0), (93, .ireturn, 1, 0, 0, 0)]
def cd_X8_sync : List (Nat × cm_E) := [(0, .aload_n 0, 1, 0, 0, 0), (1, .invokevirtual 300, 3, 108, 132, 1), (4, .ifCond .ne 8, 3, 0, 0, 0), (7, .aload_n 0, 1, 0, 0, 0), (8, .invokevirtual 273, 3, 108, 124, 1), (11, .ireturn, 1, 0, 0, 0), (12, .aload_n 0, 1, 0, 0, 0), (13, .getfield 48, 3, 2, 8, 7), (16, .aload_n 0, 1, 0, 0, 0), (17, .getfield 34, 3, 2, 8, 5), (20, .invokevirtual 276, 3, 100, 2, 2), (23, .aload_n 0, 1, 0, 0, 0), (24, .getfield 34, 3, 2, 8, 5), (27, .getfield 126, 3, 0, 6, 9), (30, .istore_n 1, 1, 0, 0, 0), (31, .aload_n 0, 1, 0, 0, 0), (32, .invokevirtual 304, 3, 108, 133, 1), (35, .ifCond .eq 15, 3, 0, 0, 0), (38, .aload_n 0, 1, 0, 0, 0), (39, .getfield 34, 3, 2, 8, 5), (42, .getfield 126, 3, 0, 6, 9), (45, .iload_n 1, 1, 0, 0, 0), (46, .isub, 1, 0, 0, 0), (47, .goto 5, 3, 0, 0, 0), (50, .bipush (-2), 2, 0, 0, 0), (52, .ireturn, 1, 0, 0, 0)]
def cd_X8_packetsNow : List (Nat × cm_E) := [(0, .aload_n 0, 1, 0, 0, 0), (1, .getfield 27, 3, 2, 8, 4), (4, .aload_n 0, 1, 0, 0, 0), (5, .getfield 34, 3, 2, 8, 5), (8, .invokevirtual 307, 3, 106, 81, 1), (11, .invokevirtual 310, 3, 102, 26, 2), (14, .ireturn, 1, 0, 0, 0)]
def cd_X8_canBegin : List (Nat × cm_E) := [(0, .aload_n 0, 1, 0, 0, 0), (1, .invokevirtual 313, 3, 108, 131, 1), (4, .istore_n 1, 1, 0, 0, 0), (5, .iload_n 1, 1, 0, 0, 0), (6, .ifCond .le 50, 3, 0, 0, 0), (9, .aload_n 0, 1, 0, 0, 0), (10, .getfield 34, 3, 2, 8, 5), (13, .getfield 126, 3, 0, 6, 9), (16, .iload_n 1, 1, 0, 0, 0), (17, .aload_n 0, 1, 0, 0, 0), (18, .getfield 27, 3, 2, 8, 4), (21, .getfield 120, 3, 0, 2, 2), (24, .aload_n 0, 1, 0, 0, 0), (25, .getfield 27, 3, 2, 8, 4), (28, .getfield 117, 3, 0, 2, 1), (31, .iadd, 1, 0, 0, 0), (32, .imul, 1, 0, 0, 0), (33, .iadd, 1, 0, 0, 0), (34, .aload_n 0, 1, 0, 0, 0), (35, .getfield 27, 3, 2, 8, 4), (38, .getfield 123, 3, 0, 2, 3), (41, .iadd, 1, 0, 0, 0), (42, .aload_n 0, 1, 0, 0, 0), (43, .getfield 27, 3, 2, 8, 4), (46, .getfield 114, 3, 0, 2, 0), (49, .if_icmp .gt 7, 3, 0, 0, 0), (52, .iconst 1, 1, 0, 0, 0), (53, .goto 4, 3, 0, 0, 0), (56, .iconst 0, 1, 0, 0, 0), (57, .ireturn, 1, 1, 0, 0)]
def cd_X8_writeAll : List (Nat × cm_E) := [(0, .aload_n 0, 1, 0, 0, 0), (1, .getfield 41, 3, 2, 8, 6), (4, .aload_n 0, 1, 0, 0, 0), (5, .getfield 34, 3, 2, 8, 5), (8, .aload_n 0, 1, 0, 0, 0), (9, .getfield 27, 3, 2, 8, 4), (12, .getfield 117, 3, 0, 2, 1), (15, .invokevirtual 316, 3, 101, 6, 3), (18, .aload_n 0, 1, 0, 0, 0), (19, .getfield 41, 3, 2, 8, 6), (22, .aload_n 0, 1, 0, 0, 0), (23, .getfield 34, 3, 2, 8, 5), (26, .aload_n 0, 1, 0, 0, 0), (27, .getfield 27, 3, 2, 8, 4), (30, .sipush 400, 3, 0, 0, 0), (33, .invokevirtual 320, 3, 101, 9, 4), (36, .istore_n 1, 1, 0, 0, 0), (37, .iload_n 1, 1, 0, 0, 0), (38, .ifCond .eq 22, 3, 0, 0, 0), (41, .aload_n 0, 1, 0, 0, 0), (42, .getfield 34, 3, 2, 8, 5), (45, .aload_n 0, 1, 0, 0, 0), (46, .getfield 34, 3, 2, 8, 5), (49, .getfield 126, 3, 0, 6, 9), (52, .iconst 1, 1, 0, 0, 0), (53, .isub, 1, 0, 0, 0), (54, .invokevirtual 324, 3, 106, 66, 2), (57, .goto 7, 3, 0, 0, 0), (60, .aload_n 0, 1, 0, 0, 0), (61, .invokevirtual 327, 3, 108, 134, 1), (64, .iload_n 1, 1, 0, 0, 0), (65, .ireturn, 1, 1, 0, 0)]
def cd_X8_mountLast : List (Nat × cm_E) := [(0, .aload_n 0, 1, 0, 0, 0), (1, .getfield 34, 3, 2, 8, 5), (4, .aload_n 0, 1, 0, 0, 0), (5, .getfield 27, 3, 2, 8, 4), (8, .aload_n 0, 1, 0, 0, 0), (9, .getfield 27, 3, 2, 8, 4), (12, .aload_n 0, 1, 0, 0, 0), (13, .getfield 34, 3, 2, 8, 5), (16, .getfield 126, 3, 0, 6, 9), (19, .invokevirtual 330, 3, 102, 32, 2), (22, .invokevirtual 333, 3, 106, 67, 3), (25, .return_, 1, 0, 0, 0)]
def cd_X8_tear : List (Nat × cm_E) := [(0, .aload_n 0, 1, 0, 0, 0), (1, .iload_n 1, 1, 0, 0, 0), (2, .invokevirtual 337, 3, 108, 136, 2), (5, .ifCond .ne 8, 3, 0, 0, 0), (8, .aload_n 0, 1, 0, 0, 0), (9, .invokevirtual 273, 3, 108, 124, 1), (12, .ireturn, 1, 0, 0, 0), (13, .aload_n 0, 1, 0, 0, 0), (14, .getfield 48, 3, 2, 8, 7), (17, .aload_n 0, 1, 0, 0, 0), (18, .getfield 34, 3, 2, 8, 5), (21, .invokevirtual 276, 3, 100, 2, 2), (24, .aload_n 0, 1, 0, 0, 0), (25, .iload_n 1, 1, 0, 0, 0), (26, .invokevirtual 340, 3, 108, 137, 2), (29, .aload_n 0, 1, 0, 0, 0), (30, .getfield 34, 3, 2, 8, 5), (33, .getfield 126, 3, 0, 6, 9), (36, .ireturn, 1, 0, 0, 0)]
def cd_X8_canTear : List (Nat × cm_E) := [(0, .iload_n 1, 1, 0, 0, 0), (1, .ifCond .lt 10, 3, 0, 0, 0), (4, .aload_n 0, 1, 0, 0, 0), (5, .invokevirtual 300, 3, 108, 132, 1), (8, .ifCond .ne 5, 3, 0, 0, 0), (11, .iconst 0, 1, 0, 0, 0), (12, .ireturn, 1, 1, 0, 0), (13, .iload_n 1, 1, 0, 0, 0), (14, .aload_n 0, 1, 0, 0, 0), (15, .getfield 27, 3, 2, 8, 4), (18, .aload_n 0, 1, 0, 0, 0), (19, .getfield 34, 3, 2, 8, 5), (22, .getfield 126, 3, 0, 6, 9), (25, .aload_n 0, 1, 0, 0, 0), (26, .invokevirtual 313, 3, 108, 131, 1), (29, .iconst (-1), 1, 0, 0, 0), (30, .invokevirtual 343, 3, 102, 30, 4), (33, .aload_n 0, 1, 0, 0, 0), (34, .getfield 34, 3, 2, 8, 5), (37, .getfield 126, 3, 0, 6, 9), (40, .isub, 1, 0, 0, 0), (41, .if_icmp .ge 7, 3, 0, 0, 0), (44, .iconst 1, 1, 0, 0, 0), (45, .goto 4, 3, 0, 0, 0), (48, .iconst 0, 1, 0, 0, 0), (49, .ireturn, 1, 1, 0, 0)]
def cd_X8_writeTorn : List (Nat × cm_E) := [(0, .aload_n 0, 1, 0, 0, 0), (1, .getfield 41, 3, 2, 8, 6), (4, .aload_n 0, 1, 0, 0, 0), (5, .getfield 34, 3, 2, 8, 5), (8, .aload_n 0, 1, 0, 0, 0), (9, .getfield 27, 3, 2, 8, 4), (12, .getfield 117, 3, 0, 2, 1), (15, .invokevirtual 316, 3, 101, 6, 3), (18, .aload_n 0, 1, 0, 0, 0), (19, .getfield 41, 3, 2, 8, 6), (22, .aload_n 0, 1, 0, 0, 0), (23, .getfield 34, 3, 2, 8, 5), (26, .aload_n 0, 1, 0, 0, 0), (27, .getfield 27, 3, 2, 8, 4), (30, .iload_n 1, 1, 0, 0, 0), (31, .invokevirtual 320, 3, 101, 9, 4), (34, .pop, 1, 0, 0, 0), (35, .aload_n 0, 1, 0, 0, 0), (36, .invokevirtual 327, 3, 108, 134, 1), (39, .return_, 1, 0, 0, 0)]
def cd_X8_close : List (Nat × cm_E) := [(0, .aload_n 0, 1, 0, 0, 0), (1, .invokevirtual 347, 3, 108, 139, 1), (4, .ifCond .ne 8, 3, 0, 0, 0), (7, .aload_n 0, 1, 0, 0, 0), (8, .invokevirtual 273, 3, 108, 124, 1), (11, .ireturn, 1, 0, 0, 0), (12, .aload_n 0, 1, 0, 0, 0), (13, .getfield 48, 3, 2, 8, 7), (16, .aload_n 0, 1, 0, 0, 0), (17, .getfield 34, 3, 2, 8, 5), (20, .invokevirtual 276, 3, 100, 2, 2), (23, .aload_n 0, 1, 0, 0, 0), (24, .iload_n 1, 1, 0, 0, 0), (25, .invokevirtual 350, 3, 108, 140, 2), (28, .aload_n 0, 1, 0, 0, 0), (29, .getfield 34, 3, 2, 8, 5), (32, .getfield 145, 3, 0, 6, 8), (35, .ireturn, 1, 0, 0, 0)]
def cd_X8_canClose : List (Nat × cm_E) := [(0, .aload_n 0, 1, 0, 0, 0), (1, .getfield 34, 3, 2, 8, 5), (4, .invokevirtual 354, 3, 106, 78, 1), (7, .ifCond .ne 32, 3, 0, 0, 0), (10, .aload_n 0, 1, 0, 0, 0), (11, .getfield 34, 3, 2, 8, 5), (14, .getfield 126, 3, 0, 6, 9), (17, .aload_n 0, 1, 0, 0, 0), (18, .getfield 27, 3, 2, 8, 4), (21, .getfield 123, 3, 0, 2, 3), (24, .iadd, 1, 0, 0, 0), (25, .aload_n 0, 1, 0, 0, 0), (26, .getfield 27, 3, 2, 8, 4), (29, .getfield 114, 3, 0, 2, 0), (32, .if_icmp .gt 7, 3, 0, 0, 0), (35, .iconst 1, 1, 0, 0, 0), (36, .goto 4, 3, 0, 0, 0), (39, .iconst 0, 1, 0, 0, 0), (40, .ireturn, 1, 1, 0, 0)]
def cd_X8_closeSession : List (Nat × cm_E) := [(0, .iconst 0, 1, 0, 0, 0), (1, .istore_n 2, 1, 0, 0, 0), (2, .iload_n 2, 1, 0, 0, 0), (3, .aload_n 0, 1, 0, 0, 0), (4, .getfield 27, 3, 2, 8, 4), (7, .getfield 123, 3, 0, 2, 3), (10, .if_icmp .ge 39, 3, 0, 0, 0), (13, .aload_n 0, 1, 0, 0, 0), (14, .getfield 27, 3, 2, 8, 4), (17, .aload_n 0, 1, 0, 0, 0), (18, .getfield 34, 3, 2, 8, 5), (21, .getfield 126, 3, 0, 6, 9), (24, .bipush 7, 2, 0, 0, 0), (26, .iconst 0, 1, 0, 0, 0), (27, .invokevirtual 357, 3, 102, 24, 4), (30, .aload_n 0, 1, 0, 0, 0), (31, .getfield 34, 3, 2, 8, 5), (34, .dup, 1, 0, 0, 0), (35, .getfield 126, 3, 0, 6, 9), (38, .iconst 1, 1, 0, 0, 0), (39, .iadd, 1, 0, 0, 0), (40, .putfield 126, 3, 0, 6, 9), (43, .iinc 2 1, 3, 0, 0, 0), (46, .goto (-44), 3, 4, 0, 0), (49, .aload_n 0, 1, 0, 0, 0), (50, .getfield 34, 3, 2, 8, 5), (53, .dup, 1, 0, 0, 0), (54, .getfield 145, 3, 0, 6, 8), (57, .iconst 1, 1, 0, 0, 0), (58, .iadd, 1, 0, 0, 0), (59, .putfield 145, 3, 0, 6, 8), (62, .iload_n 1, 1, 0, 0, 0), (63, .ifCond .ne 10, 3, 0, 0, 0), (66, .aload_n 0, 1, 0, 0, 0), (67, .getfield 34, 3, 2, 8, 5), (70, .invokevirtual 360, 3, 106, 64, 1), (73, .return_, 1, 0, 0, 0)]
def cd_X8_mount : List (Nat × cm_E) := [(0, .aload_n 0, 1, 0, 0, 0), (1, .getfield 27, 3, 2, 8, 4), (4, .aload_n 0, 1, 0, 0, 0), (5, .getfield 34, 3, 2, 8, 5), (8, .getfield 126, 3, 0, 6, 9), (11, .invokevirtual 330, 3, 102, 32, 2), (14, .istore_n 2, 1, 0, 0, 0), (15, .aload_n 0, 1, 0, 0, 0), (16, .getfield 27, 3, 2, 8, 4), (19, .iload_n 2, 1, 0, 0, 0), (20, .iload_n 1, 1, 0, 0, 0), (21, .invokevirtual 249, 3, 102, 34, 3), (24, .istore_n 3, 1, 0, 0, 0), (25, .iload_n 3, 1, 0, 0, 0), (26, .iconst (-1), 1, 0, 0, 0), (27, .if_icmp .ne 12, 3, 0, 0, 0), (30, .iload_n 1, 1, 0, 0, 0), (31, .ifCond .eq 8, 3, 0, 0, 0), (34, .aload_n 0, 1, 0, 0, 0), (35, .invokevirtual 273, 3, 108, 124, 1), (38, .ireturn, 1, 0, 0, 0), (39, .aload_n 0, 1, 0, 0, 0), (40, .getfield 48, 3, 2, 8, 7), (43, .aload_n 0, 1, 0, 0, 0), (44, .getfield 34, 3, 2, 8, 5), (47, .invokevirtual 276, 3, 100, 2, 2), (50, .aload_n 0, 1, 0, 0, 0), (51, .getfield 34, 3, 2, 8, 5), (54, .aload_n 0, 1, 0, 0, 0), (55, .getfield 27, 3, 2, 8, 4), (58, .iload_n 3, 1, 0, 0, 0), (59, .invokevirtual 333, 3, 106, 67, 3), (62, .aload_n 0, 1, 0, 0, 0), (63, .getfield 34, 3, 2, 8, 5), (66, .invokevirtual 129, 3, 106, 76, 1), (69, .ireturn, 1, 0, 0, 0)]
def cd_X8_undo : List (Nat × cm_E) := [(0, .aload_n 0, 1, 0, 0, 0), (1, .getfield 48, 3, 2, 8, 7), (4, .getfield 165, 3, 0, 0, 2), (7, .ifCond .ne 5, 3, 0, 0, 0), (10, .iconst (-1), 1, 0, 0, 0), (11, .ireturn, 1, 0, 0, 0), (12, .aload_n 0, 1, 0, 0, 0), (13, .getfield 48, 3, 2, 8, 7), (16, .aload_n 0, 1, 0, 0, 0), (17, .getfield 34, 3, 2, 8, 5), (20, .invokevirtual 363, 3, 100, 3, 2), (23, .aload_n 0, 1, 0, 0, 0), (24, .getfield 48, 3, 2, 8, 7), (27, .getfield 165, 3, 0, 0, 2), (30, .ireturn, 1, 0, 0, 0)]
def cd_X8_cost : List (Nat × cm_E) := [(0, .iload_n 1, 1, 0, 0, 0), (1, .iconst 2, 1, 0, 0, 0), (2, .invokestatic 179, 3, 0, 110, 2), (5, .aload_n 0, 1, 0, 0, 0), (6, .invokevirtual 313, 3, 108, 131, 1), (9, .istore_n 2, 1, 0, 0, 0), (10, .iload_n 1, 1, 0, 0, 0), (11, .lookupswitch 45 #[(0, 25), (1, 27)], 25, 0, 0, 0), (36, .iload_n 2, 1, 0, 0, 0), (37, .ireturn, 1, 0, 0, 0), (38, .iload_n 2, 1, 0, 0, 0), (39, .aload_n 0, 1, 0, 0, 0), (40, .getfield 27, 3, 2, 8, 4), (43, .getfield 120, 3, 0, 2, 2), (46, .aload_n 0, 1, 0, 0, 0), (47, .getfield 27, 3, 2, 8, 4), (50, .getfield 117, 3, 0, 2, 1), (53, .iadd, 1, 0, 0, 0), (54, .imul, 1, 0, 0, 0), (55, .ireturn, 1, 0, 0, 0), (56, .iload_n 2, 1, 0, 0, 0), (57, .aload_n 0, 1, 0, 0, 0), (58, .getfield 27, 3, 2, 8, 4), (61, .getfield 117, 3, 0, 2, 1), (64, .imul, 1, 0, 0, 0), (65, .aload_n 0, 1, 0, 0, 0), (66, .getfield 34, 3, 2, 8, 5), (69, .invokevirtual 307, 3, 106, 81, 1), (72, .isub, 1, 0, 0, 0), (73, .ireturn, 1, 0, 0, 0)]
def cd_X8_apart : List (Nat × cm_E) := [(0, .aload_n 0, 1, 0, 0, 0), (1, .getfield 34, 3, 2, 8, 5), (4, .invokevirtual 354, 3, 106, 78, 1), (7, .ifCond .ne 5, 3, 0, 0, 0), (10, .iconst 0, 1, 0, 0, 0), (11, .ireturn, 1, 0, 0, 0), (12, .aload_n 0, 1, 0, 0, 0), (13, .getfield 34, 3, 2, 8, 5), (16, .getfield 136, 3, 1, 6, 6), (19, .ifCond .eq 7, 3, 0, 0, 0), (22, .iconst 1, 1, 0, 0, 0), (23, .goto 4, 3, 0, 0, 0), (26, .iconst 0, 1, 0, 0, 0), (27, .istore_n 1, 1, 0, 0, 0), (28, .iconst 0, 1, 0, 0, 0), (29, .istore_n 2, 1, 0, 0, 0), (30, .iconst 1, 1, 0, 0, 0), (31, .istore_n 3, 1, 0, 0, 0), (32, .iload_n 3, 1, 0, 0, 0), (33, .bipush 13, 2, 0, 0, 0), (35, .if_icmp .ge 65, 3, 0, 0, 0), (38, .aload_n 0, 1, 0, 0, 0), (39, .getfield 34, 3, 2, 8, 5), (42, .iload_n 3, 1, 0, 0, 0), (43, .invokevirtual 366, 3, 106, 74, 2), (46, .istore 4, 2, 0, 0, 0), (48, .iload 4, 2, 0, 0, 0), (50, .iconst (-1), 1, 0, 0, 0), (51, .if_icmp .eq 43, 3, 0, 0, 0), (54, .aload_n 0, 1, 0, 0, 0), (55, .getfield 34, 3, 2, 8, 5), (58, .getfield 213, 3, 2, 6, 2), (61, .iload 4, 2, 0, 0, 0), (63, .baload, 1, 0, 0, 0), (64, .ifCond .eq 30, 3, 0, 0, 0), (67, .iload_n 2, 1, 0, 0, 0), (68, .aload_n 0, 1, 0, 0, 0), (69, .getfield 27, 3, 2, 8, 4), (72, .aload_n 0, 1, 0, 0, 0), (73, .getfield 34, 3, 2, 8, 5), (76, .iload 4, 2, 0, 0, 0), (78, .invokevirtual 369, 3, 106, 79, 2), (81, .iconst 1, 1, 0, 0, 0), (82, .iadd, 1, 0, 0, 0), (83, .iload_n 1, 1, 0, 0, 0), (84, .iadd, 1, 0, 0, 0), (85, .iconst 1, 1, 0, 0, 0), (86, .iadd, 1, 0, 0, 0), (87, .invokevirtual 372, 3, 102, 27, 2), (90, .iadd, 1, 0, 0, 0), (91, .istore_n 2, 1, 0, 0, 0), (92, .iconst 0, 1, 0, 0, 0), (93, .istore_n 1, 1, 0, 0, 0), (94, .iinc 3 1, 3, 0, 0, 0), (97, .goto (-65), 3, 5, 0, 0), (100, .iload_n 2, 1, 0, 0, 0), (101, .ifCond .ne 16, 3, 0, 0, 0), (104, .aload_n 0, 1, 0, 0, 0), (105, .getfield 27, 3, 2, 8, 4), (108, .iload_n 1, 1, 0, 0, 0), (109, .iconst 1, 1, 0, 0, 0), (110, .iadd, 1, 0, 0, 0), (111, .invokevirtual 372, 3, 102, 27, 2), (114, .goto 4, 3, 0, 0, 0), (117, .iload_n 2, 1, 0, 0, 0), (118, .ireturn, 1, 0, 0, 0)]
def cd_X8_found : List (Nat × cm_E) := [(0, .iload_n 1, 1, 0, 0, 0), (1, .ifCond .lt 14, 3, 0, 0, 0), (4, .iload_n 1, 1, 0, 0, 0), (5, .aload_n 0, 1, 0, 0, 0), (6, .getfield 27, 3, 2, 8, 4), (9, .getfield 114, 3, 0, 2, 0), (12, .if_icmp .le 14, 3, 0, 0, 0), (15, .new 86, 3, 1, 1, 0), (18, .dup, 1, 0, 0, 0), (19, .ldc_w 375, 3, 2, 0, 0), (22, .invokespecial 90, 3, 99, 0, 0), (25, .athrow, 1, 0, 0, 0), (26, .aload_n 0, 1, 0, 0, 0), (27, .getfield 27, 3, 2, 8, 4), (30, .iload_n 1, 1, 0, 0, 0), (31, .aload_n 0, 1, 0, 0, 0), (32, .getfield 34, 3, 2, 8, 5), (35, .getfield 126, 3, 0, 6, 9), (38, .invokestatic 377, 3, 2, 0, 0), (41, .invokevirtual 330, 3, 102, 32, 2), (44, .ireturn, 1, 0, 0, 0)]
def cd_X8_left : List (Nat × cm_E) := [(0, .aload_n 0, 1, 0, 0, 0), (1, .getfield 27, 3, 2, 8, 4), (4, .iconst 3, 1, 0, 0, 0), (5, .invokevirtual 372, 3, 102, 27, 2), (8, .istore_n 1, 1, 0, 0, 0), (9, .aload_n 0, 1, 0, 0, 0), (10, .getfield 27, 3, 2, 8, 4), (13, .getfield 114, 3, 0, 2, 0), (16, .aload_n 0, 1, 0, 0, 0), (17, .getfield 27, 3, 2, 8, 4), (20, .getfield 123, 3, 0, 2, 3), (23, .isub, 1, 0, 0, 0), (24, .aload_n 0, 1, 0, 0, 0), (25, .getfield 34, 3, 2, 8, 5), (28, .getfield 126, 3, 0, 6, 9), (31, .isub, 1, 0, 0, 0), (32, .istore_n 2, 1, 0, 0, 0), (33, .iload_n 2, 1, 0, 0, 0), (34, .ifCond .lt 8, 3, 0, 0, 0), (37, .iload_n 1, 1, 0, 0, 0), (38, .iconst 1, 1, 0, 0, 0), (39, .if_icmp .ge 7, 3, 0, 0, 0), (42, .iconst 0, 1, 0, 0, 0), (43, .goto 6, 3, 0, 0, 0), (46, .iload_n 2, 1, 0, 0, 0), (47, .iload_n 1, 1, 0, 0, 0), (48, .idiv, 1, 0, 0, 0), (49, .ireturn, 1, 0, 0, 0)]
def cd_X8_ends : List (Nat × cm_E) := [(0, .aload_n 0, 1, 0, 0, 0), (1, .invokevirtual 300, 3, 108, 132, 1), (4, .ifCond .eq 15, 3, 0, 0, 0), (7, .aload_n 0, 1, 0, 0, 0), (8, .aload_n 0, 1, 0, 0, 0), (9, .invokevirtual 313, 3, 108, 131, 1), (12, .iconst (-1), 1, 0, 0, 0), (13, .invokevirtual 382, 3, 108, 148, 3), (16, .goto 4, 3, 0, 0, 0), (19, .iconst (-1), 1, 0, 0, 0), (20, .ireturn, 1, 0, 0, 0)]
def cd_X8_endWith : List (Nat × cm_E) := [(0, .aload_n 0, 1, 0, 0, 0), (1, .getfield 27, 3, 2, 8, 4), (4, .aload_n 0, 1, 0, 0, 0), (5, .getfield 34, 3, 2, 8, 5), (8, .getfield 126, 3, 0, 6, 9), (11, .iload_n 1, 1, 0, 0, 0), (12, .iload_n 2, 1, 0, 0, 0), (13, .invokevirtual 343, 3, 102, 30, 4), (16, .istore_n 3, 1, 0, 0, 0), (17, .aload_n 0, 1, 0, 0, 0), (18, .getfield 27, 3, 2, 8, 4), (21, .getfield 385, 3, 1, 2, 4), (24, .ifCond .eq 8, 3, 0, 0, 0), (27, .bipush (-2), 2, 0, 0, 0), (29, .goto 4, 3, 0, 0, 0), (32, .iload_n 3, 1, 0, 0, 0), (33, .ireturn, 1, 0, 0, 0)]
def cd_X8_toPack : List (Nat × cm_E) := [(0, .iload_n 1, 1, 0, 0, 0), (1, .iconst 1, 1, 0, 0, 0), (2, .invokestatic 179, 3, 0, 110, 2), (5, .aload_n 0, 1, 0, 0, 0), (6, .getfield 34, 3, 2, 8, 5), (9, .invokevirtual 354, 3, 106, 78, 1), (12, .ifCond .ne 5, 3, 0, 0, 0), (15, .iconst (-1), 1, 0, 0, 0), (16, .ireturn, 1, 0, 0, 0), (17, .aload_n 0, 1, 0, 0, 0), (18, .getfield 34, 3, 2, 8, 5), (21, .invokevirtual 307, 3, 106, 81, 1), (24, .istore_n 2, 1, 0, 0, 0), (25, .iconst 2, 1, 0, 0, 0), (26, .istore_n 3, 1, 0, 0, 0), (27, .aload_n 0, 1, 0, 0, 0), (28, .iload_n 3, 1, 0, 0, 0), (29, .iload_n 2, 1, 0, 0, 0), (30, .invokevirtual 388, 3, 108, 150, 3), (33, .istore 4, 2, 0, 0, 0), (35, .iconst 3, 1, 0, 0, 0), (36, .istore 5, 2, 0, 0, 0), (38, .iload 5, 2, 0, 0, 0), (40, .bipush 16, 2, 0, 0, 0), (42, .if_icmp .gt 32, 3, 0, 0, 0), (45, .aload_n 0, 1, 0, 0, 0), (46, .iload 5, 2, 0, 0, 0), (48, .iload_n 2, 1, 0, 0, 0), (49, .invokevirtual 388, 3, 108, 150, 3), (52, .istore 6, 2, 0, 0, 0), (54, .iload 6, 2, 0, 0, 0), (56, .iload 4, 2, 0, 0, 0), (58, .if_icmp .ge 10, 3, 0, 0, 0), (61, .iload 5, 2, 0, 0, 0), (63, .istore_n 3, 1, 0, 0, 0), (64, .iload 6, 2, 0, 0, 0), (66, .istore 4, 2, 0, 0, 0), (68, .iinc 5 1, 3, 0, 0, 0), (71, .goto (-33), 3, 7, 0, 0), (74, .iload_n 1, 1, 0, 0, 0), (75, .ifCond .ne 7, 3, 0, 0, 0), (78, .iload_n 3, 1, 0, 0, 0), (79, .goto 5, 3, 0, 0, 0), (82, .iload 4, 2, 0, 0, 0), (84, .ireturn, 1, 0, 0, 0)]
def cd_X8_blocksBy : List (Nat × cm_E) := [(0, .iload_n 1, 1, 0, 0, 0), (1, .iload_n 2, 1, 0, 0, 0), (2, .invokestatic 391, 3, 0, 151, 2), (5, .aload_n 0, 1, 0, 0, 0), (6, .getfield 27, 3, 2, 8, 4), (9, .getfield 120, 3, 0, 2, 2), (12, .iload_n 1, 1, 0, 0, 0), (13, .iadd, 1, 0, 0, 0), (14, .imul, 1, 0, 0, 0), (15, .ireturn, 1, 0, 0, 0)]
def cd_X8_packetsBy : List (Nat × cm_E) := [(0, .iload_n 0, 1, 0, 0, 0), (1, .iconst 1, 1, 0, 0, 0), (2, .if_icmp .ge 7, 3, 0, 0, 0), (5, .iconst 0, 1, 0, 0, 0), (6, .goto 10, 3, 0, 0, 0), (9, .iload_n 1, 1, 0, 0, 0), (10, .iload_n 0, 1, 0, 0, 0), (11, .iadd, 1, 0, 0, 0), (12, .iconst 1, 1, 0, 0, 0), (13, .isub, 1, 0, 0, 0), (14, .iload_n 0, 1, 0, 0, 0), (15, .idiv, 1, 0, 0, 0), (16, .ireturn, 1, 0, 0, 0)]
def cd_X8_guess : List (Nat × cm_E) := [(0, .iload_n 2, 1, 0, 0, 0), (1, .iconst 1, 1, 0, 0, 0), (2, .invokestatic 179, 3, 0, 110, 2), (5, .aload_n 0, 1, 0, 0, 0), (6, .invokevirtual 300, 3, 108, 132, 1), (9, .istore_n 3, 1, 0, 0, 0), (10, .aload_n 0, 1, 0, 0, 0), (11, .invokevirtual 313, 3, 108, 131, 1), (14, .istore 4, 2, 0, 0, 0), (16, .iconst 0, 1, 0, 0, 0), (17, .istore 5, 2, 0, 0, 0), (19, .iconst (-1), 1, 0, 0, 0), (20, .istore 6, 2, 0, 0, 0), (22, .iconst 0, 1, 0, 0, 0), (23, .istore 7, 2, 0, 0, 0), (25, .iload 7, 2, 0, 0, 0), (27, .aload_n 0, 1, 0, 0, 0), (28, .getfield 27, 3, 2, 8, 4), (31, .getfield 114, 3, 0, 2, 0), (34, .if_icmp .ge 56, 3, 0, 0, 0), (37, .aload_n 0, 1, 0, 0, 0), (38, .getfield 27, 3, 2, 8, 4), (41, .iload 7, 2, 0, 0, 0), (43, .invokevirtual 394, 3, 102, 19, 2), (46, .ifCond .ne 38, 3, 0, 0, 0), (49, .iload_n 3, 1, 0, 0, 0), (50, .ifCond .eq 14, 3, 0, 0, 0), (53, .aload_n 0, 1, 0, 0, 0), (54, .iload 4, 2, 0, 0, 0), (56, .iload 7, 2, 0, 0, 0), (58, .invokevirtual 382, 3, 108, 148, 3), (61, .goto 4, 3, 0, 0, 0), (64, .iconst (-1), 1, 0, 0, 0), (65, .iload_n 1, 1, 0, 0, 0), (66, .if_icmp .eq 6, 3, 0, 0, 0), (69, .goto 15, 3, 0, 0, 0), (72, .iload 5, 2, 0, 0, 0), (74, .ifCond .ne 7, 3, 0, 0, 0), (77, .iload 7, 2, 0, 0, 0), (79, .istore 6, 2, 0, 0, 0), (81, .iinc 5 1, 3, 0, 0, 0), (84, .iinc 7 1, 3, 0, 0, 0), (87, .goto (-62), 3, 9, 0, 0), (90, .iload_n 2, 1, 0, 0, 0), (91, .ifCond .ne 8, 3, 0, 0, 0), (94, .iload 5, 2, 0, 0, 0), (96, .goto 5, 3, 0, 0, 0), (99, .iload 6, 2, 0, 0, 0), (101, .ireturn, 1, 0, 0, 0)]
def cd_X8_storms : List (Nat × cm_E) := [(0, .iload_n 1, 1, 0, 0, 0), (1, .ifCond .lt 18, 3, 0, 0, 0), (4, .iload_n 1, 1, 0, 0, 0), (5, .iconst 5, 1, 0, 0, 0), (6, .if_icmp .gt 13, 3, 0, 0, 0), (9, .iload_n 2, 1, 0, 0, 0), (10, .ifCond .lt 9, 3, 0, 0, 0), (13, .iload_n 2, 1, 0, 0, 0), (14, .bipush 10, 2, 0, 0, 0), (16, .if_icmp .le 14, 3, 0, 0, 0), (19, .new 86, 3, 1, 1, 0), (22, .dup, 1, 0, 0, 0), (23, .ldc_w 397, 3, 2, 0, 0), (26, .invokespecial 90, 3, 99, 0, 0), (29, .athrow, 1, 0, 0, 0), (30, .aload_n 0, 1, 0, 0, 0), (31, .invokevirtual 313, 3, 108, 131, 1), (34, .istore_n 3, 1, 0, 0, 0), (35, .iload_n 3, 1, 0, 0, 0), (36, .ifCond .eq 11, 3, 0, 0, 0), (39, .iload_n 3, 1, 0, 0, 0), (40, .iload_n 1, 1, 0, 0, 0), (41, .iadd, 1, 0, 0, 0), (42, .bipush 15, 2, 0, 0, 0), (44, .if_icmp .le 7, 3, 0, 0, 0), (47, .ldc2_w 399, 3, 0, 0, 0), (50, .lreturn, 1, 0, 0, 0), (51, .lconst 1, 1, 0, 0, 0), (52, .lstore 4, 2, 0, 0, 0), (54, .lconst 0, 1, 0, 0, 0), (55, .lstore 6, 2, 0, 0, 0), (57, .iconst 0, 1, 0, 0, 0), (58, .istore 8, 2, 0, 0, 0), (60, .iload 8, 2, 0, 0, 0), (62, .iload_n 1, 1, 0, 0, 0), (63, .if_icmp .gt 49, 3, 0, 0, 0), (66, .lload 6, 2, 0, 0, 0), (68, .lload 4, 2, 0, 0, 0), (70, .iload_n 2, 1, 0, 0, 0), (71, .iload 8, 2, 0, 0, 0), (73, .invokestatic 401, 3, 0, 154, 2), (76, .lmul, 1, 0, 0, 0), (77, .bipush 10, 2, 0, 0, 0), (79, .iload_n 1, 1, 0, 0, 0), (80, .iload 8, 2, 0, 0, 0), (82, .isub, 1, 0, 0, 0), (83, .invokestatic 401, 3, 0, 154, 2), (86, .lmul, 1, 0, 0, 0), (87, .ladd, 1, 0, 0, 0), (88, .lstore 6, 2, 0, 0, 0), (90, .lload 4, 2, 0, 0, 0), (92, .iload_n 3, 1, 0, 0, 0), (93, .iload 8, 2, 0, 0, 0), (95, .iadd, 1, 0, 0, 0), (96, .i2l, 1, 0, 0, 0), (97, .lmul, 1, 0, 0, 0), (98, .iload 8, 2, 0, 0, 0), (100, .iconst 1, 1, 0, 0, 0), (101, .iadd, 1, 0, 0, 0), (102, .i2l, 1, 0, 0, 0), (103, .ldiv, 1, 0, 0, 0), (104, .lstore 4, 2, 0, 0, 0), (106, .iinc 8 1, 3, 0, 0, 0), (109, .goto (-49), 3, 10, 0, 0), (112, .lload 6, 2, 0, 0, 0), (114, .bipush 10, 2, 0, 0, 0), (116, .iload_n 2, 1, 0, 0, 0), (117, .isub, 1, 0, 0, 0), (118, .iload_n 3, 1, 0, 0, 0), (119, .invokestatic 401, 3, 0, 154, 2), (122, .lmul, 1, 0, 0, 0), (123, .lreturn, 1, 0, 0, 0)]
def cd_X8_power : List (Nat × cm_E) := [(0, .lconst 1, 1, 0, 0, 0), (1, .lstore_n 2, 1, 0, 0, 0), (2, .iconst 0, 1, 0, 0, 0), (3, .istore 4, 2, 0, 0, 0), (5, .iload 4, 2, 0, 0, 0), (7, .iload_n 1, 1, 0, 0, 0), (8, .if_icmp .ge 14, 3, 0, 0, 0), (11, .lload_n 2, 1, 0, 0, 0), (12, .iload_n 0, 1, 0, 0, 0), (13, .i2l, 1, 0, 0, 0), (14, .lmul, 1, 0, 0, 0), (15, .lstore_n 2, 1, 0, 0, 0), (16, .iinc 4 1, 3, 0, 0, 0), (19, .goto (-14), 3, 6, 0, 0), (22, .lload_n 2, 1, 0, 0, 0), (23, .lreturn, 1, 0, 0, 0)]
def cd_X8_years : List (Nat × cm_E) := [(0, .iload_n 3, 1, 0, 0, 0), (1, .iconst 2, 1, 0, 0, 0), (2, .invokestatic 179, 3, 0, 110, 2), (5, .iload_n 2, 1, 0, 0, 0), (6, .ifCond .lt 9, 3, 0, 0, 0), (9, .iload_n 2, 1, 0, 0, 0), (10, .bipush 60, 2, 0, 0, 0), (12, .if_icmp .le 14, 3, 0, 0, 0), (15, .new 86, 3, 1, 1, 0), (18, .dup, 1, 0, 0, 0), (19, .ldc_w 405, 3, 2, 0, 0), (22, .invokespecial 90, 3, 99, 0, 0), (25, .athrow, 1, 0, 0, 0), (26, .aload_n 0, 1, 0, 0, 0), (27, .getfield 59, 3, 2, 8, 11), (30, .aload_n 0, 1, 0, 0, 0), (31, .getfield 34, 3, 2, 8, 5), (34, .invokevirtual 407, 3, 106, 62, 2), (37, .aload_n 0, 1, 0, 0, 0), (38, .getfield 65, 3, 2, 8, 12), (41, .iload_n 1, 1, 0, 0, 0), (42, .putfield 410, 3, 0, 3, 0), (45, .iconst 0, 1, 0, 0, 0), (46, .istore 4, 2, 0, 0, 0), (48, .iload 4, 2, 0, 0, 0), (50, .iload_n 2, 1, 0, 0, 0), (51, .if_icmp .ge 13, 3, 0, 0, 0), (54, .aload_n 0, 1, 0, 0, 0), (55, .invokevirtual 413, 3, 108, 156, 1), (58, .iinc 4 1, 3, 0, 0, 0), (61, .goto (-13), 3, 6, 0, 0), (64, .aload_n 0, 1, 0, 0, 0), (65, .getfield 34, 3, 2, 8, 5), (68, .getfield 126, 3, 0, 6, 9), (71, .aload_n 0, 1, 0, 0, 0), (72, .getfield 59, 3, 2, 8, 11), (75, .getfield 126, 3, 0, 6, 9), (78, .isub, 1, 0, 0, 0), (79, .istore 4, 2, 0, 0, 0), (81, .aload_n 0, 1, 0, 0, 0), (82, .getfield 34, 3, 2, 8, 5), (85, .invokevirtual 129, 3, 106, 76, 1), (88, .istore 5, 2, 0, 0, 0), (90, .aload_n 0, 1, 0, 0, 0), (91, .getfield 34, 3, 2, 8, 5), (94, .getfield 159, 3, 0, 6, 10), (97, .aload_n 0, 1, 0, 0, 0), (98, .getfield 59, 3, 2, 8, 11), (101, .getfield 159, 3, 0, 6, 10), (104, .isub, 1, 0, 0, 0), (105, .istore 6, 2, 0, 0, 0), (107, .aload_n 0, 1, 0, 0, 0), (108, .getfield 34, 3, 2, 8, 5), (111, .aload_n 0, 1, 0, 0, 0), (112, .getfield 59, 3, 2, 8, 11), (115, .invokevirtual 407, 3, 106, 62, 2), (118, .iload_n 3, 1, 0, 0, 0), (119, .ifCond .ne 8, 3, 0, 0, 0), (122, .iload 4, 2, 0, 0, 0), (124, .goto 15, 3, 0, 0, 0), (127, .iload_n 3, 1, 0, 0, 0), (128, .iconst 1, 1, 0, 0, 0), (129, .if_icmp .ne 8, 3, 0, 0, 0), (132, .iload 5, 2, 0, 0, 0), (134, .goto 5, 3, 0, 0, 0), (137, .iload 6, 2, 0, 0, 0), (139, .ireturn, 1, 0, 0, 0)]
def cd_X8_liveYear : List (Nat × cm_E) := [(0, .aload_n 0, 1, 0, 0, 0), (1, .getfield 65, 3, 2, 8, 12), (4, .bipush 7, 2, 0, 0, 0), (6, .invokevirtual 416, 3, 103, 45, 2), (9, .istore_n 1, 1, 0, 0, 0), (10, .iload_n 1, 1, 0, 0, 0), (11, .iconst 1, 1, 0, 0, 0), (12, .if_icmp .gt 10, 3, 0, 0, 0), (15, .aload_n 0, 1, 0, 0, 0), (16, .invokevirtual 419, 3, 108, 157, 1), (19, .goto 121, 3, 0, 0, 0), (22, .iload_n 1, 1, 0, 0, 0), (23, .iconst 2, 1, 0, 0, 0), (24, .if_icmp .ne 35, 3, 0, 0, 0), (27, .aload_n 0, 1, 0, 0, 0), (28, .getfield 65, 3, 2, 8, 12), (31, .bipush 12, 2, 0, 0, 0), (33, .invokevirtual 416, 3, 103, 45, 2), (36, .istore_n 2, 1, 0, 0, 0), (37, .aload_n 0, 1, 0, 0, 0), (38, .getfield 34, 3, 2, 8, 5), (41, .iload_n 2, 1, 0, 0, 0), (42, .invokevirtual 228, 3, 106, 70, 2), (45, .ifCond .eq 11, 3, 0, 0, 0), (48, .aload_n 0, 1, 0, 0, 0), (49, .getfield 34, 3, 2, 8, 5), (52, .iload_n 2, 1, 0, 0, 0), (53, .invokevirtual 284, 3, 106, 85, 2), (56, .goto 84, 3, 0, 0, 0), (59, .iload_n 1, 1, 0, 0, 0), (60, .iconst 4, 1, 0, 0, 0), (61, .if_icmp .gt 18, 3, 0, 0, 0), (64, .aload_n 0, 1, 0, 0, 0), (65, .invokevirtual 300, 3, 108, 132, 1), (68, .ifCond .eq 72, 3, 0, 0, 0), (71, .aload_n 0, 1, 0, 0, 0), (72, .invokevirtual 304, 3, 108, 133, 1), (75, .pop, 1, 0, 0, 0), (76, .goto 64, 3, 0, 0, 0), (79, .iload_n 1, 1, 0, 0, 0), (80, .iconst 5, 1, 0, 0, 0), (81, .if_icmp .ne 29, 3, 0, 0, 0), (84, .aload_n 0, 1, 0, 0, 0), (85, .getfield 65, 3, 2, 8, 12), (88, .bipush 30, 2, 0, 0, 0), (90, .invokevirtual 416, 3, 103, 45, 2), (93, .istore_n 2, 1, 0, 0, 0), (94, .aload_n 0, 1, 0, 0, 0), (95, .iload_n 2, 1, 0, 0, 0), (96, .invokevirtual 337, 3, 108, 136, 2), (99, .ifCond .eq 8, 3, 0, 0, 0), (102, .aload_n 0, 1, 0, 0, 0), (103, .iload_n 2, 1, 0, 0, 0), (104, .invokevirtual 340, 3, 108, 137, 2), (107, .goto 33, 3, 0, 0, 0), (110, .aload_n 0, 1, 0, 0, 0), (111, .getfield 65, 3, 2, 8, 12), (114, .iconst 2, 1, 0, 0, 0), (115, .invokevirtual 416, 3, 103, 45, 2), (118, .iconst 1, 1, 0, 0, 0), (119, .if_icmp .ne 7, 3, 0, 0, 0), (122, .iconst 1, 1, 0, 0, 0), (123, .goto 4, 3, 0, 0, 0), (126, .iconst 0, 1, 0, 0, 0), (127, .istore_n 2, 1, 0, 0, 0), (128, .aload_n 0, 1, 0, 0, 0), (129, .invokevirtual 347, 3, 108, 139, 1), (132, .ifCond .eq 8, 3, 0, 0, 0), (135, .aload_n 0, 1, 0, 0, 0), (136, .iload_n 2, 1, 0, 0, 0), (137, .invokevirtual 350, 3, 108, 140, 2), (140, .return_, 1, 0, 0, 0)]
def cd_X8_setDrawn : List (Nat × cm_E) := [(0, .aload_n 0, 1, 0, 0, 0), (1, .getfield 65, 3, 2, 8, 12), (4, .bipush 12, 2, 0, 0, 0), (6, .invokevirtual 416, 3, 103, 45, 2), (9, .istore_n 1, 1, 0, 0, 0), (10, .aload_n 0, 1, 0, 0, 0), (11, .getfield 65, 3, 2, 8, 12), (14, .bipush 8, 2, 0, 0, 0), (16, .invokevirtual 416, 3, 103, 45, 2), (19, .istore_n 2, 1, 0, 0, 0), (20, .aload_n 0, 1, 0, 0, 0), (21, .getfield 65, 3, 2, 8, 12), (24, .sipush 1000, 3, 0, 0, 0), (27, .invokevirtual 416, 3, 103, 45, 2), (30, .istore_n 3, 1, 0, 0, 0), (31, .aload_n 0, 1, 0, 0, 0), (32, .getfield 34, 3, 2, 8, 5), (35, .iload_n 1, 1, 0, 0, 0), (36, .iload_n 2, 1, 0, 0, 0), (37, .invokevirtual 270, 3, 106, 82, 3), (40, .ifCond .eq 13, 3, 0, 0, 0), (43, .aload_n 0, 1, 0, 0, 0), (44, .getfield 34, 3, 2, 8, 5), (47, .iload_n 1, 1, 0, 0, 0), (48, .iload_n 2, 1, 0, 0, 0), (49, .iload_n 3, 1, 0, 0, 0), (50, .invokevirtual 280, 3, 106, 83, 4), (53, .return_, 1, 0, 0, 0)]
def cd_X8_image : List (Nat × cm_E) := [(0, .aload_n 0, 1, 0, 0, 0), (1, .getfield 55, 3, 2, 8, 10), (4, .iconst 1, 1, 0, 0, 0), (5, .putfield 110, 3, 1, 4, 0), (8, .aload_n 0, 1, 0, 0, 0), (9, .getfield 55, 3, 2, 8, 10), (12, .getfield 422, 3, 2, 4, 1), (15, .aload_n 0, 1, 0, 0, 0), (16, .getfield 27, 3, 2, 8, 4), (19, .aload_n 0, 1, 0, 0, 0), (20, .getfield 34, 3, 2, 8, 5), (23, .getfield 126, 3, 0, 6, 9), (26, .invokevirtual 423, 3, 102, 17, 3), (29, .aload_n 0, 1, 0, 0, 0), (30, .getfield 55, 3, 2, 8, 10), (33, .getfield 426, 3, 2, 4, 2), (36, .aload_n 0, 1, 0, 0, 0), (37, .getfield 34, 3, 2, 8, 5), (40, .invokevirtual 407, 3, 106, 62, 2), (43, .aload_n 0, 1, 0, 0, 0), (44, .getfield 55, 3, 2, 8, 10), (47, .getfield 427, 3, 2, 4, 3), (50, .aload_n 0, 1, 0, 0, 0), (51, .getfield 48, 3, 2, 8, 7), (54, .invokevirtual 428, 3, 100, 4, 2), (57, .aload_n 0, 1, 0, 0, 0), (58, .getfield 55, 3, 2, 8, 10), (61, .aload_n 0, 1, 0, 0, 0), (62, .getfield 99, 3, 0, 8, 8), (65, .putfield 431, 3, 0, 4, 4), (68, .aload_n 0, 1, 0, 0, 0), (69, .getfield 55, 3, 2, 8, 10), (72, .aload_n 0, 1, 0, 0, 0), (73, .getfield 168, 3, 0, 8, 9), (76, .putfield 432, 3, 0, 4, 5), (79, .return_, 1, 0, 0, 0)]
def cd_X8_restore : List (Nat × cm_E) := [(0, .aload_n 0, 1, 0, 0, 0), (1, .getfield 55, 3, 2, 8, 10), (4, .getfield 110, 3, 1, 4, 0), (7, .ifCond .ne 5, 3, 0, 0, 0), (10, .iconst 0, 1, 0, 0, 0), (11, .ireturn, 1, 1, 0, 0), (12, .aload_n 0, 1, 0, 0, 0), (13, .getfield 27, 3, 2, 8, 4), (16, .aload_n 0, 1, 0, 0, 0), (17, .getfield 55, 3, 2, 8, 10), (20, .getfield 422, 3, 2, 4, 1), (23, .aload_n 0, 1, 0, 0, 0), (24, .getfield 55, 3, 2, 8, 10), (27, .getfield 426, 3, 2, 4, 2), (30, .getfield 126, 3, 0, 6, 9), (33, .invokevirtual 423, 3, 102, 17, 3), (36, .aload_n 0, 1, 0, 0, 0), (37, .getfield 34, 3, 2, 8, 5), (40, .aload_n 0, 1, 0, 0, 0), (41, .getfield 55, 3, 2, 8, 10), (44, .getfield 426, 3, 2, 4, 2), (47, .invokevirtual 407, 3, 106, 62, 2), (50, .aload_n 0, 1, 0, 0, 0), (51, .getfield 48, 3, 2, 8, 7), (54, .aload_n 0, 1, 0, 0, 0), (55, .getfield 55, 3, 2, 8, 10), (58, .getfield 427, 3, 2, 4, 3), (61, .invokevirtual 428, 3, 100, 4, 2), (64, .aload_n 0, 1, 0, 0, 0), (65, .aload_n 0, 1, 0, 0, 0), (66, .getfield 55, 3, 2, 8, 10), (69, .getfield 431, 3, 0, 4, 4), (72, .putfield 99, 3, 0, 8, 8), (75, .aload_n 0, 1, 0, 0, 0), (76, .aload_n 0, 1, 0, 0, 0), (77, .getfield 55, 3, 2, 8, 10), (80, .getfield 432, 3, 0, 4, 5), (83, .putfield 168, 3, 0, 8, 9), (86, .iconst 1, 1, 0, 0, 0), (87, .ireturn, 1, 1, 0, 0)]
def cd_X8_isName : List (Nat × cm_E) := [(0, .iload_n 0, 1, 0, 0, 0), (1, .ifCond .lt 13, 3, 0, 0, 0), (4, .iload_n 0, 1, 0, 0, 0), (5, .bipush 12, 2, 0, 0, 0), (7, .if_icmp .ge 7, 3, 0, 0, 0), (10, .iconst 1, 1, 0, 0, 0), (11, .goto 4, 3, 0, 0, 0), (14, .iconst 0, 1, 0, 0, 0), (15, .ireturn, 1, 1, 0, 0)]
def cd_X9_init : List (Nat × cm_E) := [(0, .aload_n 0, 1, 0, 0, 0), (1, .invokespecial 1, 3, 1, 0, 0), (4, .aload_n 0, 1, 0, 0, 0), (5, .bipush 10, 2, 0, 0, 0), (7, .newarray .int, 2, 0, 0, 0), (9, .dup, 1, 0, 0, 0), (10, .iconst 0, 1, 0, 0, 0), (11, .sipush 200, 3, 0, 0, 0), (14, .iastore, 1, 0, 0, 0), (15, .dup, 1, 0, 0, 0), (16, .iconst 1, 1, 0, 0, 0), (17, .bipush 8, 2, 0, 0, 0), (19, .iastore, 1, 0, 0, 0), (20, .dup, 1, 0, 0, 0), (21, .iconst 2, 1, 0, 0, 0), (22, .iconst 1, 1, 0, 0, 0), (23, .iastore, 1, 0, 0, 0), (24, .dup, 1, 0, 0, 0), (25, .iconst 3, 1, 0, 0, 0), (26, .iconst 2, 1, 0, 0, 0), (27, .iastore, 1, 0, 0, 0), (28, .dup, 1, 0, 0, 0), (29, .iconst 4, 1, 0, 0, 0), (30, .iconst 0, 1, 0, 0, 0), (31, .iastore, 1, 0, 0, 0), (32, .dup, 1, 0, 0, 0), (33, .iconst 5, 1, 0, 0, 0), (34, .sipush 200, 3, 0, 0, 0), (37, .iastore, 1, 0, 0, 0), (38, .dup, 1, 0, 0, 0), (39, .bipush 6, 2, 0, 0, 0), (41, .bipush 8, 2, 0, 0, 0), (43, .iastore, 1, 0, 0, 0), (44, .dup, 1, 0, 0, 0), (45, .bipush 7, 2, 0, 0, 0), (47, .iconst 1, 1, 0, 0, 0), (48, .iastore, 1, 0, 0, 0), (49, .dup, 1, 0, 0, 0), (50, .bipush 8, 2, 0, 0, 0), (52, .iconst 2, 1, 0, 0, 0), (53, .iastore, 1, 0, 0, 0), (54, .dup, 1, 0, 0, 0), (55, .bipush 9, 2, 0, 0, 0), (57, .iconst 0, 1, 0, 0, 0), (58, .iastore, 1, 0, 0, 0), (59, .putfield 7, 3, 2, 9, 1), (62, .aload_n 0, 1, 0, 0, 0), (63, .bipush 24, 2, 0, 0, 0), (65, .newarray .int, 2, 0, 0, 0), (67, .putfield 13, 3, 2, 9, 2), (70, .aload_n 0, 1, 0, 0, 0), (71, .iconst 2, 1, 0, 0, 0), (72, .newarray .int, 2, 0, 0, 0), (74, .putfield 16, 3, 2, 9, 3), (77, .aload_n 0, 1, 0, 0, 0), (78, .sipush 246, 3, 0, 0, 0), (81, .newarray .int, 2, 0, 0, 0), (83, .putfield 19, 3, 2, 9, 4), (86, .aload_n 0, 1, 0, 0, 0), (87, .sipush 246, 3, 0, 0, 0), (90, .newarray .int, 2, 0, 0, 0), (92, .putfield 22, 3, 2, 9, 5), (95, .aload_n 0, 1, 0, 0, 0), (96, .sipush 400, 3, 0, 0, 0), (99, .newarray .int, 2, 0, 0, 0), (101, .putfield 25, 3, 2, 9, 6), (104, .aload_n 0, 1, 0, 0, 0), (105, .sipush 6000, 3, 0, 0, 0), (108, .newarray .int, 2, 0, 0, 0), (110, .putfield 28, 3, 2, 9, 7), (113, .aload_n 0, 1, 0, 0, 0), (114, .sipush 700, 3, 0, 0, 0), (117, .newarray .int, 2, 0, 0, 0), (119, .putfield 31, 3, 2, 9, 8), (122, .aload_n 0, 1, 0, 0, 0), (123, .iconst (-1), 1, 0, 0, 0), (124, .putfield 34, 3, 0, 9, 18), (127, .aload_n 0, 1, 0, 0, 0), (128, .iconst (-1), 1, 0, 0, 0), (129, .putfield 38, 3, 0, 9, 21), (132, .aload_n 0, 1, 0, 0, 0), (133, .sipush 130, 3, 0, 0, 0), (136, .newarray .int, 2, 0, 0, 0), (138, .putfield 41, 3, 2, 9, 22), (141, .aload_n 0, 1, 0, 0, 0), (142, .sipush 130, 3, 0, 0, 0), (145, .newarray .int, 2, 0, 0, 0), (147, .putfield 44, 3, 2, 9, 23), (150, .aload_n 0, 1, 0, 0, 0), (151, .sipush 130, 3, 0, 0, 0), (154, .newarray .int, 2, 0, 0, 0), (156, .putfield 47, 3, 2, 9, 24), (159, .aload_n 0, 1, 0, 0, 0), (160, .sipush 400, 3, 0, 0, 0), (163, .newarray .boolean, 2, 0, 0, 0), (165, .putfield 50, 3, 2, 9, 28), (168, .aload_n 0, 1, 0, 0, 0), (169, .sipush 9840, 3, 0, 0, 0), (172, .newarray .int, 2, 0, 0, 0), (174, .putfield 54, 3, 2, 9, 30), (177, .aload_n 0, 1, 0, 0, 0), (178, .sipush 246, 3, 0, 0, 0), (181, .newarray .int, 2, 0, 0, 0), (183, .putfield 57, 3, 2, 9, 32), (186, .aload_n 0, 1, 0, 0, 0), (187, .sipush 246, 3, 0, 0, 0), (190, .newarray .int, 2, 0, 0, 0), (192, .putfield 60, 3, 2, 9, 35), (195, .aload_n 0, 1, 0, 0, 0), (196, .sipush 9840, 3, 0, 0, 0), (199, .newarray .int, 2, 0, 0, 0), (201, .putfield 63, 3, 2, 9, 36), (204, .aload_n 0, 1, 0, 0, 0), (205, .sipush 400, 3, 0, 0, 0), (208, .newarray .int, 2, 0, 0, 0), (210, .putfield 66, 3, 2, 9, 37), (213, .aload_n 0, 1, 0, 0, 0), (214, .sipush 6000, 3, 0, 0, 0), (217, .newarray .int, 2, 0, 0, 0), (219, .putfield 69, 3, 2, 9, 38), (222, .aload_n 0, 1, 0, 0, 0), (223, .iconst 2, 1, 0, 0, 0), (224, .newarray .int, 2, 0, 0, 0), (226, .putfield 72, 3, 2, 9, 39), (229, .aload_n 0, 1, 0, 0, 0), (230, .getfield 19, 3, 2, 9, 4), (233, .invokestatic 75, 3, 0, 166, 1), (236, .return_, 1, 0, 0, 0)]
def cd_X9_thrown : List (Nat × cm_E) := [(0, .aload_n 0, 1, 0, 0, 0), (1, .getfield 79, 3, 0, 9, 0), (4, .ireturn, 1, 0, 0, 0)]
def cd_X9_fail : List (Nat × cm_E) := [(0, .aload_n 0, 1, 0, 0, 0), (1, .iload_n 1, 1, 0, 0, 0), (2, .putfield 79, 3, 0, 9, 0), (5, .iconst 0, 1, 0, 0, 0), (6, .ireturn, 1, 0, 0, 0)]
def cd_X9_isIn : List (Nat × cm_E) := [(0, .iload_n 0, 1, 0, 0, 0), (1, .iload_n 1, 1, 0, 0, 0), (2, .if_icmp .lt 12, 3, 0, 0, 0), (5, .iload_n 0, 1, 0, 0, 0), (6, .iload_n 2, 1, 0, 0, 0), (7, .if_icmp .gt 7, 3, 0, 0, 0), (10, .iconst 1, 1, 0, 0, 0), (11, .goto 4, 3, 0, 0, 0), (14, .iconst 0, 1, 0, 0, 0), (15, .ireturn, 1, 1, 0, 0)]
def cd_X9_noFiles : List (Nat × cm_E) := [(0, .iconst 0, 1, 0, 0, 0), (1, .istore_n 1, 1, 0, 0, 0), (2, .iload_n 1, 1, 0, 0, 0), (3, .bipush 12, 2, 0, 0, 0), (5, .if_icmp .ge 29, 3, 0, 0, 0), (8, .aload_n 0, 1, 0, 0, 0), (9, .iconst 0, 1, 0, 0, 0), (10, .iload_n 1, 1, 0, 0, 0), (11, .iadd, 1, 0, 0, 0), (12, .iconst (-1), 1, 0, 0, 0), (13, .iastore, 1, 0, 0, 0), (14, .aload_n 0, 1, 0, 0, 0), (15, .bipush 12, 2, 0, 0, 0), (17, .iload_n 1, 1, 0, 0, 0), (18, .iadd, 1, 0, 0, 0), (19, .iconst 0, 1, 0, 0, 0), (20, .iastore, 1, 0, 0, 0), (21, .aload_n 0, 1, 0, 0, 0), (22, .bipush 24, 2, 0, 0, 0), (24, .iload_n 1, 1, 0, 0, 0), (25, .iadd, 1, 0, 0, 0), (26, .iconst 0, 1, 0, 0, 0), (27, .iastore, 1, 0, 0, 0), (28, .iinc 1 1, 3, 0, 0, 0), (31, .goto (-29), 3, 3, 0, 0), (34, .iconst 0, 1, 0, 0, 0), (35, .istore_n 1, 1, 0, 0, 0), (36, .iload_n 1, 1, 0, 0, 0), (37, .bipush 96, 2, 0, 0, 0), (39, .if_icmp .ge 24, 3, 0, 0, 0), (42, .aload_n 0, 1, 0, 0, 0), (43, .bipush 36, 2, 0, 0, 0), (45, .iload_n 1, 1, 0, 0, 0), (46, .iadd, 1, 0, 0, 0), (47, .iconst (-1), 1, 0, 0, 0), (48, .iastore, 1, 0, 0, 0), (49, .aload_n 0, 1, 0, 0, 0), (50, .sipush 132, 3, 0, 0, 0), (53, .iload_n 1, 1, 0, 0, 0), (54, .iadd, 1, 0, 0, 0), (55, .iconst 0, 1, 0, 0, 0), (56, .iastore, 1, 0, 0, 0), (57, .iinc 1 1, 3, 0, 0, 0), (60, .goto (-24), 3, 3, 0, 0), (63, .iconst 0, 1, 0, 0, 0), (64, .istore_n 1, 1, 0, 0, 0), (65, .iload_n 1, 1, 0, 0, 0), (66, .bipush 13, 2, 0, 0, 0), (68, .if_icmp .ge 17, 3, 0, 0, 0), (71, .aload_n 0, 1, 0, 0, 0), (72, .sipush 228, 3, 0, 0, 0), (75, .iload_n 1, 1, 0, 0, 0), (76, .iadd, 1, 0, 0, 0), (77, .iconst (-1), 1, 0, 0, 0), (78, .iastore, 1, 0, 0, 0), (79, .iinc 1 1, 3, 0, 0, 0), (82, .goto (-17), 3, 3, 0, 0), (85, .aload_n 0, 1, 0, 0, 0), (86, .sipush 241, 3, 0, 0, 0), (89, .iconst 0, 1, 0, 0, 0), (90, .iastore, 1, 0, 0, 0), (91, .return_, 1, 0, 0, 0)]
def cd_X9_layNothing : List (Nat × cm_E) := [(0, .aload_n 0, 1, 0, 0, 0), (1, .invokestatic 82, 3, 0, 165, 1), (4, .aload_n 0, 1, 0, 0, 0), (5, .sipush 242, 3, 0, 0, 0), (8, .iconst (-1), 1, 0, 0, 0), (9, .iastore, 1, 0, 0, 0), (10, .aload_n 0, 1, 0, 0, 0), (11, .sipush 243, 3, 0, 0, 0), (14, .iconst 0, 1, 0, 0, 0), (15, .iastore, 1, 0, 0, 0), (16, .aload_n 0, 1, 0, 0, 0), (17, .sipush 244, 3, 0, 0, 0), (20, .iconst 0, 1, 0, 0, 0), (21, .iastore, 1, 0, 0, 0), (22, .aload_n 0, 1, 0, 0, 0), (23, .sipush 245, 3, 0, 0, 0), (26, .iconst 0, 1, 0, 0, 0), (27, .iastore, 1, 0, 0, 0), (28, .return_, 1, 0, 0, 0)]
def cd_X9_feed : List (Nat × cm_E) := [(0, .aload_n 0, 1, 0, 0, 0), (1, .iconst 0, 1, 0, 0, 0), (2, .putfield 79, 3, 0, 9, 0), (5, .aload_n 0, 1, 0, 0, 0), (6, .getfield 85, 3, 0, 9, 9), (9, .bipush 20, 2, 0, 0, 0), (11, .iadd, 1, 0, 0, 0), (12, .sipush 700, 3, 0, 0, 0), (15, .if_icmp .le 5, 3, 0, 0, 0), (18, .iconst (-1), 1, 0, 0, 0), (19, .ireturn, 1, 0, 0, 0), (20, .iconst 0, 1, 0, 0, 0), (21, .istore 6, 2, 0, 0, 0), (23, .iload 6, 2, 0, 0, 0), (25, .bipush 20, 2, 0, 0, 0), (27, .if_icmp .ge 93, 3, 0, 0, 0), (30, .iload 6, 2, 0, 0, 0), (32, .iconst 4, 1, 0, 0, 0), (33, .if_icmp .ge 7, 3, 0, 0, 0), (36, .iload_n 1, 1, 0, 0, 0), (37, .goto 39, 3, 0, 0, 0), (40, .iload 6, 2, 0, 0, 0), (42, .bipush 8, 2, 0, 0, 0), (44, .if_icmp .ge 7, 3, 0, 0, 0), (47, .iload_n 2, 1, 0, 0, 0), (48, .goto 28, 3, 0, 0, 0), (51, .iload 6, 2, 0, 0, 0), (53, .bipush 12, 2, 0, 0, 0), (55, .if_icmp .ge 7, 3, 0, 0, 0), (58, .iload_n 3, 1, 0, 0, 0), (59, .goto 17, 3, 0, 0, 0), (62, .iload 6, 2, 0, 0, 0), (64, .bipush 16, 2, 0, 0, 0), (66, .if_icmp .ge 8, 3, 0, 0, 0), (69, .iload 4, 2, 0, 0, 0), (71, .goto 5, 3, 0, 0, 0), (74, .iload 5, 2, 0, 0, 0), (76, .istore 7, 2, 0, 0, 0), (78, .aload_n 0, 1, 0, 0, 0), (79, .getfield 31, 3, 2, 9, 8), (82, .aload_n 0, 1, 0, 0, 0), (83, .getfield 85, 3, 0, 9, 9), (86, .iload 7, 2, 0, 0, 0), (88, .bipush 24, 2, 0, 0, 0), (90, .bipush 8, 2, 0, 0, 0), (92, .iload 6, 2, 0, 0, 0), (94, .iconst 4, 1, 0, 0, 0), (95, .irem, 1, 0, 0, 0), (96, .imul, 1, 0, 0, 0), (97, .isub, 1, 0, 0, 0), (98, .ishr, 1, 0, 0, 0), (99, .sipush 255, 3, 0, 0, 0), (102, .iand, 1, 0, 0, 0), (103, .iastore, 1, 0, 0, 0), (104, .aload_n 0, 1, 0, 0, 0), (105, .dup, 1, 0, 0, 0), (106, .getfield 85, 3, 0, 9, 9), (109, .iconst 1, 1, 0, 0, 0), (110, .iadd, 1, 0, 0, 0), (111, .putfield 85, 3, 0, 9, 9), (114, .iinc 6 1, 3, 0, 0, 0), (117, .goto (-94), 3, 8, 0, 0), (120, .aload_n 0, 1, 0, 0, 0), (121, .getfield 85, 3, 0, 9, 9), (124, .ireturn, 1, 0, 0, 0)]
def cd_X9_byteAt : List (Nat × cm_E) := [(0, .iload_n 1, 1, 0, 0, 0), (1, .aload_n 0, 1, 0, 0, 0), (2, .getfield 88, 3, 0, 9, 11), (5, .if_icmp .ge 12, 3, 0, 0, 0), (8, .aload_n 0, 1, 0, 0, 0), (9, .getfield 31, 3, 2, 9, 8), (12, .iload_n 1, 1, 0, 0, 0), (13, .iaload, 1, 0, 0, 0), (14, .goto 4, 3, 0, 0, 0), (17, .iconst (-1), 1, 0, 0, 0), (18, .ireturn, 1, 0, 0, 0)]
def cd_X9_isLetter : List (Nat × cm_E) := [(0, .iload_n 0, 1, 0, 0, 0), (1, .bipush 97, 2, 0, 0, 0), (3, .if_icmp .lt 13, 3, 0, 0, 0), (6, .iload_n 0, 1, 0, 0, 0), (7, .bipush 122, 2, 0, 0, 0), (9, .if_icmp .gt 7, 3, 0, 0, 0), (12, .iconst 1, 1, 0, 0, 0), (13, .goto 4, 3, 0, 0, 0), (16, .iconst 0, 1, 0, 0, 0), (17, .ireturn, 1, 1, 0, 0)]
def cd_X9_isDigit : List (Nat × cm_E) := [(0, .iload_n 0, 1, 0, 0, 0), (1, .bipush 48, 2, 0, 0, 0), (3, .if_icmp .lt 13, 3, 0, 0, 0), (6, .iload_n 0, 1, 0, 0, 0), (7, .bipush 57, 2, 0, 0, 0), (9, .if_icmp .gt 7, 3, 0, 0, 0), (12, .iconst 1, 1, 0, 0, 0), (13, .goto 4, 3, 0, 0, 0), (16, .iconst 0, 1, 0, 0, 0), (17, .ireturn, 1, 1, 0, 0)]
def cd_X9_stepOn : List (Nat × cm_E) := [(0, .aload_n 0, 1, 0, 0, 0), (1, .aload_n 0, 1, 0, 0, 0), (2, .getfield 91, 3, 0, 9, 10), (5, .invokevirtual 94, 3, 109, 168, 2), (8, .bipush 32, 2, 0, 0, 0), (10, .if_icmp .eq 16, 3, 0, 0, 0), (13, .aload_n 0, 1, 0, 0, 0), (14, .aload_n 0, 1, 0, 0, 0), (15, .getfield 91, 3, 0, 9, 10), (18, .invokevirtual 94, 3, 109, 168, 2), (21, .bipush 10, 2, 0, 0, 0), (23, .if_icmp .ne 16, 3, 0, 0, 0), (26, .aload_n 0, 1, 0, 0, 0), (27, .dup, 1, 0, 0, 0), (28, .getfield 91, 3, 0, 9, 10), (31, .iconst 1, 1, 0, 0, 0), (32, .iadd, 1, 0, 0, 0), (33, .putfield 91, 3, 0, 9, 10), (36, .goto (-36), 3, 2, 0, 0), (39, .aload_n 0, 1, 0, 0, 0), (40, .aload_n 0, 1, 0, 0, 0), (41, .getfield 91, 3, 0, 9, 10), (44, .putfield 98, 3, 0, 9, 14), (47, .aload_n 0, 1, 0, 0, 0), (48, .aload_n 0, 1, 0, 0, 0), (49, .getfield 91, 3, 0, 9, 10), (52, .invokevirtual 94, 3, 109, 168, 2), (55, .istore_n 1, 1, 0, 0, 0), (56, .iload_n 1, 1, 0, 0, 0), (57, .iconst (-1), 1, 0, 0, 0), (58, .if_icmp .ne 11, 3, 0, 0, 0), (61, .aload_n 0, 1, 0, 0, 0), (62, .iconst 0, 1, 0, 0, 0), (63, .putfield 101, 3, 0, 9, 12), (66, .goto 145, 3, 0, 0, 0), (69, .iload_n 1, 1, 0, 0, 0), (70, .invokestatic 104, 3, 0, 169, 1), (73, .ifCond .eq 38, 3, 0, 0, 0), (76, .aload_n 0, 1, 0, 0, 0), (77, .aload_n 0, 1, 0, 0, 0), (78, .getfield 91, 3, 0, 9, 10), (81, .invokevirtual 94, 3, 109, 168, 2), (84, .invokestatic 104, 3, 0, 169, 1), (87, .ifCond .eq 16, 3, 0, 0, 0), (90, .aload_n 0, 1, 0, 0, 0), (91, .dup, 1, 0, 0, 0), (92, .getfield 91, 3, 0, 9, 10), (95, .iconst 1, 1, 0, 0, 0), (96, .iadd, 1, 0, 0, 0), (97, .putfield 91, 3, 0, 9, 10), (100, .goto (-24), 3, 3, 0, 0), (103, .aload_n 0, 1, 0, 0, 0), (104, .iconst 1, 1, 0, 0, 0), (105, .putfield 101, 3, 0, 9, 12), (108, .goto 103, 3, 0, 0, 0), (111, .iload_n 1, 1, 0, 0, 0), (112, .invokestatic 108, 3, 0, 170, 1), (115, .ifCond .eq 71, 3, 0, 0, 0), (118, .aload_n 0, 1, 0, 0, 0), (119, .iconst 0, 1, 0, 0, 0), (120, .putfield 111, 3, 0, 9, 13), (123, .aload_n 0, 1, 0, 0, 0), (124, .aload_n 0, 1, 0, 0, 0), (125, .getfield 91, 3, 0, 9, 10), (128, .invokevirtual 94, 3, 109, 168, 2), (131, .invokestatic 108, 3, 0, 170, 1), (134, .ifCond .eq 44, 3, 0, 0, 0), (137, .aload_n 0, 1, 0, 0, 0), (138, .ldc 114, 2, 0, 100000, 0), (140, .bipush 10, 2, 0, 0, 0), (142, .aload_n 0, 1, 0, 0, 0), (143, .getfield 111, 3, 0, 9, 13), (146, .imul, 1, 0, 0, 0), (147, .aload_n 0, 1, 0, 0, 0), (148, .aload_n 0, 1, 0, 0, 0), (149, .getfield 91, 3, 0, 9, 10), (152, .invokevirtual 94, 3, 109, 168, 2), (155, .iadd, 1, 0, 0, 0), (156, .bipush 48, 2, 0, 0, 0), (158, .isub, 1, 0, 0, 0), (159, .invokestatic 115, 3, 2, 0, 0), (162, .putfield 111, 3, 0, 9, 13), (165, .aload_n 0, 1, 0, 0, 0), (166, .dup, 1, 0, 0, 0), (167, .getfield 91, 3, 0, 9, 10), (170, .iconst 1, 1, 0, 0, 0), (171, .iadd, 1, 0, 0, 0), (172, .putfield 91, 3, 0, 9, 10), (175, .goto (-52), 3, 3, 0, 0), (178, .aload_n 0, 1, 0, 0, 0), (179, .iconst 2, 1, 0, 0, 0), (180, .putfield 101, 3, 0, 9, 12), (183, .goto 28, 3, 0, 0, 0), (186, .aload_n 0, 1, 0, 0, 0), (187, .dup, 1, 0, 0, 0), (188, .getfield 91, 3, 0, 9, 10), (191, .iconst 1, 1, 0, 0, 0), (192, .iadd, 1, 0, 0, 0), (193, .putfield 91, 3, 0, 9, 10), (196, .aload_n 0, 1, 0, 0, 0), (197, .iload_n 1, 1, 0, 0, 0), (198, .bipush 59, 2, 0, 0, 0), (200, .if_icmp .ne 7, 3, 0, 0, 0), (203, .iconst 3, 1, 0, 0, 0), (204, .goto 4, 3, 0, 0, 0), (207, .iconst 4, 1, 0, 0, 0), (208, .putfield 101, 3, 0, 9, 12), (211, .aload_n 0, 1, 0, 0, 0), (212, .aload_n 0, 1, 0, 0, 0), (213, .getfield 91, 3, 0, 9, 10), (216, .putfield 121, 3, 0, 9, 15), (219, .return_, 1, 0, 0, 0)]
def cd_X9_wrong : List (Nat × cm_E) := [(0, .aload_n 0, 1, 0, 0, 0), (1, .getfield 124, 3, 0, 9, 16), (4, .ifCond .eq 4, 3, 0, 0, 0), (7, .return_, 1, 0, 0, 0), (8, .aload_n 0, 1, 0, 0, 0), (9, .iload_n 1, 1, 0, 0, 0), (10, .putfield 124, 3, 0, 9, 16), (13, .aload_n 0, 1, 0, 0, 0), (14, .aload_n 0, 1, 0, 0, 0), (15, .getfield 98, 3, 0, 9, 14), (18, .putfield 127, 3, 0, 9, 17), (21, .return_, 1, 0, 0, 0)]
def cd_X9_is : List (Nat × cm_E) := [(0, .aload_n 0, 1, 0, 0, 0), (1, .getfield 124, 3, 0, 9, 16), (4, .ifCond .ne 31, 3, 0, 0, 0), (7, .aload_n 0, 1, 0, 0, 0), (8, .getfield 101, 3, 0, 9, 12), (11, .iconst 1, 1, 0, 0, 0), (12, .if_icmp .ne 23, 3, 0, 0, 0), (15, .aload_n 1, 1, 0, 0, 0), (16, .invokevirtual 130, 3, 6, 0, 0), (19, .aload_n 0, 1, 0, 0, 0), (20, .getfield 121, 3, 0, 9, 15), (23, .aload_n 0, 1, 0, 0, 0), (24, .getfield 98, 3, 0, 9, 14), (27, .isub, 1, 0, 0, 0), (28, .if_icmp .ne 7, 3, 0, 0, 0), (31, .iconst 1, 1, 0, 0, 0), (32, .goto 4, 3, 0, 0, 0), (35, .iconst 0, 1, 0, 0, 0), (36, .istore_n 2, 1, 0, 0, 0), (37, .iconst 0, 1, 0, 0, 0), (38, .istore_n 3, 1, 0, 0, 0), (39, .iload_n 2, 1, 0, 0, 0), (40, .ifCond .eq 42, 3, 0, 0, 0), (43, .iload_n 3, 1, 0, 0, 0), (44, .aload_n 1, 1, 0, 0, 0), (45, .invokevirtual 130, 3, 6, 0, 0), (48, .if_icmp .ge 34, 3, 0, 0, 0), (51, .aload_n 1, 1, 0, 0, 0), (52, .iload_n 3, 1, 0, 0, 0), (53, .invokevirtual 136, 3, 7, 0, 0), (56, .aload_n 0, 1, 0, 0, 0), (57, .getfield 31, 3, 2, 9, 8), (60, .aload_n 0, 1, 0, 0, 0), (61, .getfield 98, 3, 0, 9, 14), (64, .iload_n 3, 1, 0, 0, 0), (65, .iadd, 1, 0, 0, 0), (66, .iaload, 1, 0, 0, 0), (67, .if_icmp .ne 7, 3, 0, 0, 0), (70, .iconst 1, 1, 0, 0, 0), (71, .goto 4, 3, 0, 0, 0), (74, .iconst 0, 1, 0, 0, 0), (75, .istore_n 2, 1, 0, 0, 0), (76, .iinc 3 1, 3, 0, 0, 0), (79, .goto (-40), 3, 5, 0, 0), (82, .iload_n 2, 1, 0, 0, 0), (83, .ireturn, 1, 1, 0, 0)]
def cd_X9_numberNow : List (Nat × cm_E) := [(0, .aload_n 0, 1, 0, 0, 0), (1, .getfield 124, 3, 0, 9, 16), (4, .ifCond .eq 5, 3, 0, 0, 0), (7, .iload_n 1, 1, 0, 0, 0), (8, .ireturn, 1, 0, 0, 0), (9, .aload_n 0, 1, 0, 0, 0), (10, .getfield 101, 3, 0, 9, 12), (13, .iconst 2, 1, 0, 0, 0), (14, .if_icmp .eq 11, 3, 0, 0, 0), (17, .aload_n 0, 1, 0, 0, 0), (18, .iconst 1, 1, 0, 0, 0), (19, .invokevirtual 140, 3, 109, 172, 2), (22, .goto 37, 3, 0, 0, 0), (25, .aload_n 0, 1, 0, 0, 0), (26, .getfield 121, 3, 0, 9, 15), (29, .aload_n 0, 1, 0, 0, 0), (30, .getfield 98, 3, 0, 9, 14), (33, .isub, 1, 0, 0, 0), (34, .iconst 4, 1, 0, 0, 0), (35, .if_icmp .gt 19, 3, 0, 0, 0), (38, .aload_n 0, 1, 0, 0, 0), (39, .getfield 111, 3, 0, 9, 13), (42, .iload_n 1, 1, 0, 0, 0), (43, .if_icmp .lt 11, 3, 0, 0, 0), (46, .aload_n 0, 1, 0, 0, 0), (47, .getfield 111, 3, 0, 9, 13), (50, .iload_n 2, 1, 0, 0, 0), (51, .if_icmp .le 8, 3, 0, 0, 0), (54, .aload_n 0, 1, 0, 0, 0), (55, .iconst 2, 1, 0, 0, 0), (56, .invokevirtual 140, 3, 109, 172, 2), (59, .aload_n 0, 1, 0, 0, 0), (60, .getfield 124, 3, 0, 9, 16), (63, .ifCond .ne 10, 3, 0, 0, 0), (66, .aload_n 0, 1, 0, 0, 0), (67, .getfield 111, 3, 0, 9, 13), (70, .goto 4, 3, 0, 0, 0), (73, .iload_n 1, 1, 0, 0, 0), (74, .ireturn, 1, 0, 0, 0)]
def cd_X9_readNumber : List (Nat × cm_E) := [(0, .aload_n 0, 1, 0, 0, 0), (1, .iload_n 1, 1, 0, 0, 0), (2, .iload_n 2, 1, 0, 0, 0), (3, .invokevirtual 144, 3, 109, 174, 3), (6, .istore_n 3, 1, 0, 0, 0), (7, .aload_n 0, 1, 0, 0, 0), (8, .getfield 124, 3, 0, 9, 16), (11, .ifCond .ne 7, 3, 0, 0, 0), (14, .aload_n 0, 1, 0, 0, 0), (15, .invokevirtual 147, 3, 109, 171, 1), (18, .iload_n 3, 1, 0, 0, 0), (19, .ireturn, 1, 0, 0, 0)]
def cd_X9_isNumberNext : List (Nat × cm_E) := [(0, .aload_n 0, 1, 0, 0, 0), (1, .getfield 124, 3, 0, 9, 16), (4, .ifCond .ne 15, 3, 0, 0, 0), (7, .aload_n 0, 1, 0, 0, 0), (8, .getfield 101, 3, 0, 9, 12), (11, .iconst 2, 1, 0, 0, 0), (12, .if_icmp .ne 7, 3, 0, 0, 0), (15, .iconst 1, 1, 0, 0, 0), (16, .goto 4, 3, 0, 0, 0), (19, .iconst 0, 1, 0, 0, 0), (20, .ireturn, 1, 1, 0, 0)]
def cd_X9_readDisc : List (Nat × cm_E) := [(0, .aload_n 0, 1, 0, 0, 0), (1, .getfield 150, 3, 1, 9, 19), (4, .ifCond .eq 8, 3, 0, 0, 0), (7, .aload_n 0, 1, 0, 0, 0), (8, .iconst 5, 1, 0, 0, 0), (9, .invokevirtual 140, 3, 109, 172, 2), (12, .aload_n 0, 1, 0, 0, 0), (13, .iconst 1, 1, 0, 0, 0), (14, .putfield 150, 3, 1, 9, 19), (17, .aload_n 0, 1, 0, 0, 0), (18, .getfield 124, 3, 0, 9, 16), (21, .ifCond .ne 7, 3, 0, 0, 0), (24, .aload_n 0, 1, 0, 0, 0), (25, .invokevirtual 147, 3, 109, 171, 1), (28, .aload_n 0, 1, 0, 0, 0), (29, .getfield 7, 3, 2, 9, 1), (32, .iconst 5, 1, 0, 0, 0), (33, .aload_n 0, 1, 0, 0, 0), (34, .bipush 40, 2, 0, 0, 0), (36, .sipush 400, 3, 0, 0, 0), (39, .invokevirtual 154, 3, 109, 175, 3), (42, .iastore, 1, 0, 0, 0), (43, .aload_n 0, 1, 0, 0, 0), (44, .getfield 7, 3, 2, 9, 1), (47, .bipush 6, 2, 0, 0, 0), (49, .aload_n 0, 1, 0, 0, 0), (50, .iconst 2, 1, 0, 0, 0), (51, .bipush 16, 2, 0, 0, 0), (53, .invokevirtual 154, 3, 109, 175, 3), (56, .iastore, 1, 0, 0, 0), (57, .aload_n 0, 1, 0, 0, 0), (58, .getfield 7, 3, 2, 9, 1), (61, .bipush 7, 2, 0, 0, 0), (63, .aload_n 0, 1, 0, 0, 0), (64, .iconst 0, 1, 0, 0, 0), (65, .iconst 4, 1, 0, 0, 0), (66, .invokevirtual 154, 3, 109, 175, 3), (69, .iastore, 1, 0, 0, 0), (70, .aload_n 0, 1, 0, 0, 0), (71, .getfield 7, 3, 2, 9, 1), (74, .bipush 8, 2, 0, 0, 0), (76, .aload_n 0, 1, 0, 0, 0), (77, .iconst 0, 1, 0, 0, 0), (78, .bipush 8, 2, 0, 0, 0), (80, .invokevirtual 154, 3, 109, 175, 3), (83, .iastore, 1, 0, 0, 0), (84, .return_, 1, 0, 0, 0)]
def cd_X9_readBad : List (Nat × cm_E) := [(0, .aload_n 0, 1, 0, 0, 0), (1, .invokevirtual 147, 3, 109, 171, 1), (4, .iconst 1, 1, 0, 0, 0), (5, .istore_n 1, 1, 0, 0, 0), (6, .iload_n 1, 1, 0, 0, 0), (7, .ifCond .eq 120, 3, 0, 0, 0), (10, .aload_n 0, 1, 0, 0, 0), (11, .invokevirtual 157, 3, 109, 176, 1), (14, .ifCond .eq 20, 3, 0, 0, 0), (17, .aload_n 0, 1, 0, 0, 0), (18, .getfield 7, 3, 2, 9, 1), (21, .bipush 9, 2, 0, 0, 0), (23, .iaload, 1, 0, 0, 0), (24, .bipush 12, 2, 0, 0, 0), (26, .if_icmp .ne 8, 3, 0, 0, 0), (29, .aload_n 0, 1, 0, 0, 0), (30, .iconst 2, 1, 0, 0, 0), (31, .invokevirtual 140, 3, 109, 172, 2), (34, .aload_n 0, 1, 0, 0, 0), (35, .iconst 0, 1, 0, 0, 0), (36, .sipush 399, 3, 0, 0, 0), (39, .invokevirtual 144, 3, 109, 174, 3), (42, .istore_n 2, 1, 0, 0, 0), (43, .iconst 0, 1, 0, 0, 0), (44, .istore_n 3, 1, 0, 0, 0), (45, .iload_n 3, 1, 0, 0, 0), (46, .aload_n 0, 1, 0, 0, 0), (47, .getfield 7, 3, 2, 9, 1), (50, .bipush 9, 2, 0, 0, 0), (52, .iaload, 1, 0, 0, 0), (53, .if_icmp .ge 27, 3, 0, 0, 0), (56, .aload_n 0, 1, 0, 0, 0), (57, .getfield 13, 3, 2, 9, 2), (60, .bipush 12, 2, 0, 0, 0), (62, .iload_n 3, 1, 0, 0, 0), (63, .iadd, 1, 0, 0, 0), (64, .iaload, 1, 0, 0, 0), (65, .iload_n 2, 1, 0, 0, 0), (66, .if_icmp .ne 8, 3, 0, 0, 0), (69, .aload_n 0, 1, 0, 0, 0), (70, .iconst 4, 1, 0, 0, 0), (71, .invokevirtual 140, 3, 109, 172, 2), (74, .iinc 3 1, 3, 0, 0, 0), (77, .goto (-32), 3, 5, 0, 0), (80, .aload_n 0, 1, 0, 0, 0), (81, .getfield 124, 3, 0, 9, 16), (84, .ifCond .eq 4, 3, 0, 0, 0), (87, .return_, 1, 0, 0, 0), (88, .aload_n 0, 1, 0, 0, 0), (89, .getfield 13, 3, 2, 9, 2), (92, .bipush 12, 2, 0, 0, 0), (94, .aload_n 0, 1, 0, 0, 0), (95, .getfield 7, 3, 2, 9, 1), (98, .bipush 9, 2, 0, 0, 0), (100, .iaload, 1, 0, 0, 0), (101, .iadd, 1, 0, 0, 0), (102, .iload_n 2, 1, 0, 0, 0), (103, .iastore, 1, 0, 0, 0), (104, .aload_n 0, 1, 0, 0, 0), (105, .getfield 7, 3, 2, 9, 1), (108, .bipush 9, 2, 0, 0, 0), (110, .dup2, 1, 0, 0, 0), (111, .iaload, 1, 0, 0, 0), (112, .iconst 1, 1, 0, 0, 0), (113, .iadd, 1, 0, 0, 0), (114, .iastore, 1, 0, 0, 0), (115, .aload_n 0, 1, 0, 0, 0), (116, .invokevirtual 147, 3, 109, 171, 1), (119, .aload_n 0, 1, 0, 0, 0), (120, .invokevirtual 157, 3, 109, 176, 1), (123, .istore_n 1, 1, 0, 0, 0), (124, .goto (-118), 3, 3, 0, 0), (127, .return_, 1, 0, 0, 0)]
def cd_X9_readFile : List (Nat × cm_E) := [(0, .aload_n 0, 1, 0, 0, 0), (1, .invokevirtual 147, 3, 109, 171, 1), (4, .aload_n 0, 1, 0, 0, 0), (5, .iconst 0, 1, 0, 0, 0), (6, .bipush 11, 2, 0, 0, 0), (8, .invokevirtual 144, 3, 109, 174, 3), (11, .istore_n 1, 1, 0, 0, 0), (12, .aload_n 0, 1, 0, 0, 0), (13, .getfield 124, 3, 0, 9, 16), (16, .ifCond .ne 20, 3, 0, 0, 0), (19, .aload_n 0, 1, 0, 0, 0), (20, .getfield 22, 3, 2, 9, 5), (23, .iconst 0, 1, 0, 0, 0), (24, .iload_n 1, 1, 0, 0, 0), (25, .iadd, 1, 0, 0, 0), (26, .iaload, 1, 0, 0, 0), (27, .iconst (-1), 1, 0, 0, 0), (28, .if_icmp .eq 8, 3, 0, 0, 0), (31, .aload_n 0, 1, 0, 0, 0), (32, .iconst 4, 1, 0, 0, 0), (33, .invokevirtual 140, 3, 109, 172, 2), (36, .aload_n 0, 1, 0, 0, 0), (37, .getfield 124, 3, 0, 9, 16), (40, .ifCond .eq 4, 3, 0, 0, 0), (43, .return_, 1, 0, 0, 0), (44, .aload_n 0, 1, 0, 0, 0), (45, .invokevirtual 147, 3, 109, 171, 1), (48, .aload_n 0, 1, 0, 0, 0), (49, .dup, 1, 0, 0, 0), (50, .getfield 161, 3, 0, 9, 20), (53, .iconst 1, 1, 0, 0, 0), (54, .iadd, 1, 0, 0, 0), (55, .putfield 161, 3, 0, 9, 20), (58, .aload_n 0, 1, 0, 0, 0), (59, .getfield 22, 3, 2, 9, 5), (62, .iconst 0, 1, 0, 0, 0), (63, .iload_n 1, 1, 0, 0, 0), (64, .iadd, 1, 0, 0, 0), (65, .aload_n 0, 1, 0, 0, 0), (66, .getfield 161, 3, 0, 9, 20), (69, .iastore, 1, 0, 0, 0), (70, .aload_n 0, 1, 0, 0, 0), (71, .getfield 22, 3, 2, 9, 5), (74, .bipush 24, 2, 0, 0, 0), (76, .iload_n 1, 1, 0, 0, 0), (77, .iadd, 1, 0, 0, 0), (78, .iconst 1, 1, 0, 0, 0), (79, .iastore, 1, 0, 0, 0), (80, .aload_n 0, 1, 0, 0, 0), (81, .getfield 22, 3, 2, 9, 5), (84, .sipush 241, 3, 0, 0, 0), (87, .iconst 1, 1, 0, 0, 0), (88, .iastore, 1, 0, 0, 0), (89, .aload_n 0, 1, 0, 0, 0), (90, .invokevirtual 157, 3, 109, 176, 1), (93, .ifCond .eq 79, 3, 0, 0, 0), (96, .aload_n 0, 1, 0, 0, 0), (97, .getfield 22, 3, 2, 9, 5), (100, .bipush 12, 2, 0, 0, 0), (102, .iload_n 1, 1, 0, 0, 0), (103, .iadd, 1, 0, 0, 0), (104, .iaload, 1, 0, 0, 0), (105, .bipush 8, 2, 0, 0, 0), (107, .if_icmp .ne 8, 3, 0, 0, 0), (110, .aload_n 0, 1, 0, 0, 0), (111, .iconst 2, 1, 0, 0, 0), (112, .invokevirtual 140, 3, 109, 172, 2), (115, .aload_n 0, 1, 0, 0, 0), (116, .iconst 0, 1, 0, 0, 0), (117, .sipush 999, 3, 0, 0, 0), (120, .invokevirtual 154, 3, 109, 175, 3), (123, .istore_n 2, 1, 0, 0, 0), (124, .aload_n 0, 1, 0, 0, 0), (125, .getfield 124, 3, 0, 9, 16), (128, .ifCond .eq 4, 3, 0, 0, 0), (131, .return_, 1, 0, 0, 0), (132, .aload_n 0, 1, 0, 0, 0), (133, .getfield 22, 3, 2, 9, 5), (136, .sipush 132, 3, 0, 0, 0), (139, .bipush 8, 2, 0, 0, 0), (141, .iload_n 1, 1, 0, 0, 0), (142, .imul, 1, 0, 0, 0), (143, .iadd, 1, 0, 0, 0), (144, .aload_n 0, 1, 0, 0, 0), (145, .getfield 22, 3, 2, 9, 5), (148, .bipush 12, 2, 0, 0, 0), (150, .iload_n 1, 1, 0, 0, 0), (151, .iadd, 1, 0, 0, 0), (152, .iaload, 1, 0, 0, 0), (153, .iadd, 1, 0, 0, 0), (154, .iload_n 2, 1, 0, 0, 0), (155, .iastore, 1, 0, 0, 0), (156, .aload_n 0, 1, 0, 0, 0), (157, .getfield 22, 3, 2, 9, 5), (160, .bipush 12, 2, 0, 0, 0), (162, .iload_n 1, 1, 0, 0, 0), (163, .iadd, 1, 0, 0, 0), (164, .dup2, 1, 0, 0, 0), (165, .iaload, 1, 0, 0, 0), (166, .iconst 1, 1, 0, 0, 0), (167, .iadd, 1, 0, 0, 0), (168, .iastore, 1, 0, 0, 0), (169, .goto (-80), 3, 3, 0, 0), (172, .return_, 1, 0, 0, 0)]
def cd_X9_readClause : List (Nat × cm_E) := [(0, .aload_n 0, 1, 0, 0, 0), (1, .ldc 164, 2, 1, 200000, 0), (3, .invokevirtual 166, 3, 109, 173, 2), (6, .ifCond .eq 10, 3, 0, 0, 0), (9, .aload_n 0, 1, 0, 0, 0), (10, .invokevirtual 170, 3, 109, 177, 1), (13, .goto 40, 3, 0, 0, 0), (16, .aload_n 0, 1, 0, 0, 0), (17, .ldc 173, 2, 1, 200001, 0), (19, .invokevirtual 166, 3, 109, 173, 2), (22, .ifCond .eq 10, 3, 0, 0, 0), (25, .aload_n 0, 1, 0, 0, 0), (26, .invokevirtual 174, 3, 109, 178, 1), (29, .goto 24, 3, 0, 0, 0), (32, .aload_n 0, 1, 0, 0, 0), (33, .ldc 177, 2, 1, 200002, 0), (35, .invokevirtual 166, 3, 109, 173, 2), (38, .ifCond .eq 10, 3, 0, 0, 0), (41, .aload_n 0, 1, 0, 0, 0), (42, .invokevirtual 179, 3, 109, 179, 1), (45, .goto 8, 3, 0, 0, 0), (48, .aload_n 0, 1, 0, 0, 0), (49, .iconst 1, 1, 0, 0, 0), (50, .invokevirtual 140, 3, 109, 172, 2), (53, .aload_n 0, 1, 0, 0, 0), (54, .getfield 124, 3, 0, 9, 16), (57, .ifCond .ne 16, 3, 0, 0, 0), (60, .aload_n 0, 1, 0, 0, 0), (61, .getfield 101, 3, 0, 9, 12), (64, .iconst 3, 1, 0, 0, 0), (65, .if_icmp .eq 8, 3, 0, 0, 0), (68, .aload_n 0, 1, 0, 0, 0), (69, .iconst 1, 1, 0, 0, 0), (70, .invokevirtual 140, 3, 109, 172, 2), (73, .aload_n 0, 1, 0, 0, 0), (74, .getfield 124, 3, 0, 9, 16), (77, .ifCond .ne 7, 3, 0, 0, 0), (80, .aload_n 0, 1, 0, 0, 0), (81, .invokevirtual 147, 3, 109, 171, 1), (84, .return_, 1, 0, 0, 0)]
def cd_X9_disc : List (Nat × cm_E) := [(0, .aload_n 0, 1, 0, 0, 0), (1, .iconst 0, 1, 0, 0, 0), (2, .putfield 79, 3, 0, 9, 0), (5, .iload_n 1, 1, 0, 0, 0), (6, .ifCond .lt 11, 3, 0, 0, 0), (9, .iload_n 1, 1, 0, 0, 0), (10, .aload_n 0, 1, 0, 0, 0), (11, .getfield 85, 3, 0, 9, 9), (14, .if_icmp .le 9, 3, 0, 0, 0), (17, .aload_n 0, 1, 0, 0, 0), (18, .iconst 1, 1, 0, 0, 0), (19, .invokevirtual 182, 3, 109, 163, 2), (22, .ireturn, 1, 0, 0, 0), (23, .aload_n 0, 1, 0, 0, 0), (24, .iconst 0, 1, 0, 0, 0), (25, .putfield 85, 3, 0, 9, 9), (28, .aload_n 0, 1, 0, 0, 0), (29, .iload_n 1, 1, 0, 0, 0), (30, .putfield 88, 3, 0, 9, 11), (33, .aload_n 0, 1, 0, 0, 0), (34, .iconst 0, 1, 0, 0, 0), (35, .putfield 91, 3, 0, 9, 10), (38, .aload_n 0, 1, 0, 0, 0), (39, .iconst 0, 1, 0, 0, 0), (40, .putfield 124, 3, 0, 9, 16), (43, .aload_n 0, 1, 0, 0, 0), (44, .iconst (-1), 1, 0, 0, 0), (45, .putfield 34, 3, 0, 9, 18), (48, .aload_n 0, 1, 0, 0, 0), (49, .iconst 0, 1, 0, 0, 0), (50, .putfield 150, 3, 1, 9, 19), (53, .aload_n 0, 1, 0, 0, 0), (54, .iconst 0, 1, 0, 0, 0), (55, .putfield 161, 3, 0, 9, 20), (58, .aload_n 0, 1, 0, 0, 0), (59, .getfield 7, 3, 2, 9, 1), (62, .iconst 5, 1, 0, 0, 0), (63, .sipush 200, 3, 0, 0, 0), (66, .iastore, 1, 0, 0, 0), (67, .aload_n 0, 1, 0, 0, 0), (68, .getfield 7, 3, 2, 9, 1), (71, .bipush 6, 2, 0, 0, 0), (73, .bipush 8, 2, 0, 0, 0), (75, .iastore, 1, 0, 0, 0), (76, .aload_n 0, 1, 0, 0, 0), (77, .getfield 7, 3, 2, 9, 1), (80, .bipush 7, 2, 0, 0, 0), (82, .iconst 1, 1, 0, 0, 0), (83, .iastore, 1, 0, 0, 0), (84, .aload_n 0, 1, 0, 0, 0), (85, .getfield 7, 3, 2, 9, 1), (88, .bipush 8, 2, 0, 0, 0), (90, .iconst 2, 1, 0, 0, 0), (91, .iastore, 1, 0, 0, 0), (92, .aload_n 0, 1, 0, 0, 0), (93, .getfield 7, 3, 2, 9, 1), (96, .bipush 9, 2, 0, 0, 0), (98, .iconst 0, 1, 0, 0, 0), (99, .iastore, 1, 0, 0, 0), (100, .aload_n 0, 1, 0, 0, 0), (101, .getfield 22, 3, 2, 9, 5), (104, .invokestatic 75, 3, 0, 166, 1), (107, .aload_n 0, 1, 0, 0, 0), (108, .invokevirtual 147, 3, 109, 171, 1), (111, .aload_n 0, 1, 0, 0, 0), (112, .getfield 124, 3, 0, 9, 16), (115, .ifCond .ne 17, 3, 0, 0, 0), (118, .aload_n 0, 1, 0, 0, 0), (119, .getfield 101, 3, 0, 9, 12), (122, .ifCond .eq 10, 3, 0, 0, 0), (125, .aload_n 0, 1, 0, 0, 0), (126, .invokevirtual 185, 3, 109, 180, 1), (129, .goto (-18), 3, 3, 0, 0), (132, .aload_n 0, 1, 0, 0, 0), (133, .getfield 124, 3, 0, 9, 16), (136, .ifCond .eq 26, 3, 0, 0, 0), (139, .aload_n 0, 1, 0, 0, 0), (140, .aload_n 0, 1, 0, 0, 0), (141, .getfield 127, 3, 0, 9, 17), (144, .putfield 34, 3, 0, 9, 18), (147, .aload_n 0, 1, 0, 0, 0), (148, .getfield 16, 3, 2, 9, 3), (151, .iconst 0, 1, 0, 0, 0), (152, .dup2, 1, 0, 0, 0), (153, .iaload, 1, 0, 0, 0), (154, .iconst 1, 1, 0, 0, 0), (155, .iadd, 1, 0, 0, 0), (156, .iastore, 1, 0, 0, 0), (157, .aload_n 0, 1, 0, 0, 0), (158, .getfield 124, 3, 0, 9, 16), (161, .ireturn, 1, 0, 0, 0), (162, .iconst 0, 1, 0, 0, 0), (163, .istore_n 2, 1, 0, 0, 0), (164, .iload_n 2, 1, 0, 0, 0), (165, .iconst 5, 1, 0, 0, 0), (166, .if_icmp .ge 23, 3, 0, 0, 0), (169, .aload_n 0, 1, 0, 0, 0), (170, .getfield 7, 3, 2, 9, 1), (173, .iload_n 2, 1, 0, 0, 0), (174, .aload_n 0, 1, 0, 0, 0), (175, .getfield 7, 3, 2, 9, 1), (178, .iconst 5, 1, 0, 0, 0), (179, .iload_n 2, 1, 0, 0, 0), (180, .iadd, 1, 0, 0, 0), (181, .iaload, 1, 0, 0, 0), (182, .iastore, 1, 0, 0, 0), (183, .iinc 2 1, 3, 0, 0, 0), (186, .goto (-22), 3, 4, 0, 0), (189, .iconst 0, 1, 0, 0, 0), (190, .istore_n 2, 1, 0, 0, 0), (191, .iload_n 2, 1, 0, 0, 0), (192, .bipush 12, 2, 0, 0, 0), (194, .if_icmp .ge 24, 3, 0, 0, 0), (197, .aload_n 0, 1, 0, 0, 0), (198, .getfield 13, 3, 2, 9, 2), (201, .iload_n 2, 1, 0, 0, 0), (202, .aload_n 0, 1, 0, 0, 0), (203, .getfield 13, 3, 2, 9, 2), (206, .bipush 12, 2, 0, 0, 0), (208, .iload_n 2, 1, 0, 0, 0), (209, .iadd, 1, 0, 0, 0), (210, .iaload, 1, 0, 0, 0), (211, .iastore, 1, 0, 0, 0), (212, .iinc 2 1, 3, 0, 0, 0), (215, .goto (-24), 3, 4, 0, 0), (218, .aload_n 0, 1, 0, 0, 0), (219, .getfield 19, 3, 2, 9, 4), (222, .aload_n 0, 1, 0, 0, 0), (223, .getfield 22, 3, 2, 9, 5), (226, .invokestatic 188, 3, 0, 237, 2), (229, .aload_n 0, 1, 0, 0, 0), (230, .iconst 0, 1, 0, 0, 0), (231, .putfield 192, 3, 0, 9, 29), (234, .aload_n 0, 1, 0, 0, 0), (235, .iconst 0, 1, 0, 0, 0), (236, .putfield 195, 3, 1, 9, 33), (239, .iconst 0, 1, 0, 0, 0), (240, .ireturn, 1, 0, 0, 0)]
def cd_X9_fault : List (Nat × cm_E) := [(0, .aload_n 0, 1, 0, 0, 0), (1, .iconst 0, 1, 0, 0, 0), (2, .putfield 79, 3, 0, 9, 0), (5, .aload_n 0, 1, 0, 0, 0), (6, .getfield 34, 3, 0, 9, 18), (9, .ireturn, 1, 0, 0, 0)]
def cd_X9_isFaulty : List (Nat × cm_E) := [(0, .iload_n 1, 1, 0, 0, 0), (1, .aload_n 0, 1, 0, 0, 0), (2, .getfield 38, 3, 0, 9, 21), (5, .if_icmp .ne 7, 3, 0, 0, 0), (8, .iconst 1, 1, 0, 0, 0), (9, .goto 4, 3, 0, 0, 0), (12, .iconst 0, 1, 0, 0, 0), (13, .istore_n 2, 1, 0, 0, 0), (14, .iconst 0, 1, 0, 0, 0), (15, .istore_n 3, 1, 0, 0, 0), (16, .iload_n 3, 1, 0, 0, 0), (17, .aload_n 0, 1, 0, 0, 0), (18, .getfield 7, 3, 2, 9, 1), (21, .iconst 4, 1, 0, 0, 0), (22, .iaload, 1, 0, 0, 0), (23, .if_icmp .ge 29, 3, 0, 0, 0), (26, .iload_n 2, 1, 0, 0, 0), (27, .ifCond .ne 13, 3, 0, 0, 0), (30, .aload_n 0, 1, 0, 0, 0), (31, .getfield 13, 3, 2, 9, 2), (34, .iload_n 3, 1, 0, 0, 0), (35, .iaload, 1, 0, 0, 0), (36, .iload_n 1, 1, 0, 0, 0), (37, .if_icmp .ne 7, 3, 0, 0, 0), (40, .iconst 1, 1, 0, 0, 0), (41, .goto 4, 3, 0, 0, 0), (44, .iconst 0, 1, 0, 0, 0), (45, .istore_n 2, 1, 0, 0, 0), (46, .iinc 3 1, 3, 0, 0, 0), (49, .goto (-33), 3, 5, 0, 0), (52, .iload_n 2, 1, 0, 0, 0), (53, .ireturn, 1, 1, 0, 0)]
def cd_X9_kindOf : List (Nat × cm_E) := [(0, .iload_n 1, 1, 0, 0, 0), (1, .aload_n 0, 1, 0, 0, 0), (2, .getfield 19, 3, 2, 9, 4), (5, .sipush 244, 3, 0, 0, 0), (8, .iaload, 1, 0, 0, 0), (9, .if_icmp .ge 12, 3, 0, 0, 0), (12, .aload_n 0, 1, 0, 0, 0), (13, .getfield 25, 3, 2, 9, 6), (16, .iload_n 1, 1, 0, 0, 0), (17, .iaload, 1, 0, 0, 0), (18, .goto 4, 3, 0, 0, 0), (21, .iconst 0, 1, 0, 0, 0), (22, .ireturn, 1, 0, 0, 0)]
def cd_X9_tellsAt : List (Nat × cm_E) := [(0, .aload_n 0, 1, 0, 0, 0), (1, .getfield 28, 3, 2, 9, 7), (4, .bipush 15, 2, 0, 0, 0), (6, .iload_n 1, 1, 0, 0, 0), (7, .imul, 1, 0, 0, 0), (8, .iload_n 2, 1, 0, 0, 0), (9, .iadd, 1, 0, 0, 0), (10, .iaload, 1, 0, 0, 0), (11, .ireturn, 1, 0, 0, 0)]
def cd_X9_isGood : List (Nat × cm_E) := [(0, .aload_n 0, 1, 0, 0, 0), (1, .iload_n 1, 1, 0, 0, 0), (2, .invokevirtual 198, 3, 109, 184, 2), (5, .bipush 6, 2, 0, 0, 0), (7, .if_icmp .eq 5, 3, 0, 0, 0), (10, .iconst 0, 1, 0, 0, 0), (11, .ireturn, 1, 1, 0, 0), (12, .iconst 0, 1, 0, 0, 0), (13, .istore_n 2, 1, 0, 0, 0), (14, .iload_n 2, 1, 0, 0, 0), (15, .aload_n 0, 1, 0, 0, 0), (16, .getfield 7, 3, 2, 9, 1), (19, .iconst 1, 1, 0, 0, 0), (20, .iaload, 1, 0, 0, 0), (21, .if_icmp .ge 23, 3, 0, 0, 0), (24, .aload_n 0, 1, 0, 0, 0), (25, .iload_n 1, 1, 0, 0, 0), (26, .iload_n 2, 1, 0, 0, 0), (27, .isub, 1, 0, 0, 0), (28, .invokevirtual 198, 3, 109, 184, 2), (31, .bipush 8, 2, 0, 0, 0), (33, .if_icmp .ne 5, 3, 0, 0, 0), (36, .iconst 0, 1, 0, 0, 0), (37, .ireturn, 1, 1, 0, 0), (38, .iinc 2 1, 3, 0, 0, 0), (41, .goto (-27), 3, 4, 0, 0), (44, .iconst 1, 1, 0, 0, 0), (45, .ireturn, 1, 1, 0, 0)]
def cd_X9_lastGood : List (Nat × cm_E) := [(0, .iload_n 1, 1, 0, 0, 0), (1, .aload_n 0, 1, 0, 0, 0), (2, .getfield 19, 3, 2, 9, 4), (5, .sipush 244, 3, 0, 0, 0), (8, .iaload, 1, 0, 0, 0), (9, .invokestatic 115, 3, 2, 0, 0), (12, .iconst 1, 1, 0, 0, 0), (13, .isub, 1, 0, 0, 0), (14, .istore_n 2, 1, 0, 0, 0), (15, .iload_n 2, 1, 0, 0, 0), (16, .ifCond .lt 17, 3, 0, 0, 0), (19, .aload_n 0, 1, 0, 0, 0), (20, .iload_n 2, 1, 0, 0, 0), (21, .invokevirtual 201, 3, 109, 186, 2), (24, .ifCond .ne 9, 3, 0, 0, 0), (27, .iinc 2 (-1), 3, 0, 0, 0), (30, .goto (-15), 3, 4, 0, 0), (33, .iload_n 2, 1, 0, 0, 0), (34, .ireturn, 1, 0, 0, 0)]
def cd_X9_along : List (Nat × cm_E) := [(0, .iload_n 1, 1, 0, 0, 0), (1, .istore_n 3, 1, 0, 0, 0), (2, .iconst 0, 1, 0, 0, 0), (3, .istore 4, 2, 0, 0, 0), (5, .iload 4, 2, 0, 0, 0), (7, .iload_n 2, 1, 0, 0, 0), (8, .if_icmp .ge 22, 3, 0, 0, 0), (11, .iload_n 3, 1, 0, 0, 0), (12, .iconst (-1), 1, 0, 0, 0), (13, .if_icmp .eq 17, 3, 0, 0, 0), (16, .aload_n 0, 1, 0, 0, 0), (17, .iload_n 3, 1, 0, 0, 0), (18, .bipush 13, 2, 0, 0, 0), (20, .invokevirtual 204, 3, 109, 185, 3), (23, .istore_n 3, 1, 0, 0, 0), (24, .iinc 4 1, 3, 0, 0, 0), (27, .goto (-22), 3, 6, 0, 0), (30, .iload_n 3, 1, 0, 0, 0), (31, .ireturn, 1, 0, 0, 0)]
def cd_X9_entryBy : List (Nat × cm_E) := [(0, .aload_n 0, 1, 0, 0, 0), (1, .iload_n 1, 1, 0, 0, 0), (2, .iconst 0, 1, 0, 0, 0), (3, .invokevirtual 204, 3, 109, 185, 3), (6, .istore_n 3, 1, 0, 0, 0), (7, .iload_n 3, 1, 0, 0, 0), (8, .iconst (-1), 1, 0, 0, 0), (9, .if_icmp .ne 7, 3, 0, 0, 0), (12, .iconst (-1), 1, 0, 0, 0), (13, .goto 9, 3, 0, 0, 0), (16, .aload_n 0, 1, 0, 0, 0), (17, .iload_n 3, 1, 0, 0, 0), (18, .iload_n 2, 1, 0, 0, 0), (19, .invokevirtual 204, 3, 109, 185, 3), (22, .istore 4, 2, 0, 0, 0), (24, .iload 4, 2, 0, 0, 0), (26, .iconst (-1), 1, 0, 0, 0), (27, .if_icmp .ne 7, 3, 0, 0, 0), (30, .iconst (-1), 1, 0, 0, 0), (31, .goto 10, 3, 0, 0, 0), (34, .aload_n 0, 1, 0, 0, 0), (35, .iload_n 1, 1, 0, 0, 0), (36, .iload 4, 2, 0, 0, 0), (38, .invokevirtual 204, 3, 109, 185, 3), (41, .ireturn, 1, 0, 0, 0)]
def cd_X9_manyBy : List (Nat × cm_E) := [(0, .aload_n 0, 1, 0, 0, 0), (1, .iload_n 1, 1, 0, 0, 0), (2, .bipush 8, 2, 0, 0, 0), (4, .invokevirtual 204, 3, 109, 185, 3), (7, .ireturn, 1, 0, 0, 0)]
def cd_X9_cellBy : List (Nat × cm_E) := [(0, .aload_n 0, 1, 0, 0, 0), (1, .aload_n 0, 1, 0, 0, 0), (2, .iload_n 1, 1, 0, 0, 0), (3, .iload_n 2, 1, 0, 0, 0), (4, .invokevirtual 204, 3, 109, 185, 3), (7, .iconst 0, 1, 0, 0, 0), (8, .invokevirtual 204, 3, 109, 185, 3), (11, .ireturn, 1, 0, 0, 0)]
def cd_X9_takeCells : List (Nat × cm_E) := [(0, .aload_n 0, 1, 0, 0, 0), (1, .getfield 19, 3, 2, 9, 4), (4, .bipush 12, 2, 0, 0, 0), (6, .iload_n 1, 1, 0, 0, 0), (7, .iadd, 1, 0, 0, 0), (8, .aload_n 0, 1, 0, 0, 0), (9, .iload_n 2, 1, 0, 0, 0), (10, .invokevirtual 207, 3, 109, 190, 2), (13, .iastore, 1, 0, 0, 0), (14, .iconst 0, 1, 0, 0, 0), (15, .istore_n 3, 1, 0, 0, 0), (16, .iload_n 3, 1, 0, 0, 0), (17, .bipush 8, 2, 0, 0, 0), (19, .if_icmp .ge 88, 3, 0, 0, 0), (22, .iload_n 3, 1, 0, 0, 0), (23, .aload_n 0, 1, 0, 0, 0), (24, .getfield 19, 3, 2, 9, 4), (27, .bipush 12, 2, 0, 0, 0), (29, .iload_n 1, 1, 0, 0, 0), (30, .iadd, 1, 0, 0, 0), (31, .iaload, 1, 0, 0, 0), (32, .if_icmp .ge 7, 3, 0, 0, 0), (35, .iconst 1, 1, 0, 0, 0), (36, .goto 4, 3, 0, 0, 0), (39, .iconst 0, 1, 0, 0, 0), (40, .istore 4, 2, 0, 0, 0), (42, .aload_n 0, 1, 0, 0, 0), (43, .getfield 19, 3, 2, 9, 4), (46, .bipush 36, 2, 0, 0, 0), (48, .bipush 8, 2, 0, 0, 0), (50, .iload_n 1, 1, 0, 0, 0), (51, .imul, 1, 0, 0, 0), (52, .iadd, 1, 0, 0, 0), (53, .iload_n 3, 1, 0, 0, 0), (54, .iadd, 1, 0, 0, 0), (55, .iload 4, 2, 0, 0, 0), (57, .ifCond .eq 12, 3, 0, 0, 0), (60, .aload_n 0, 1, 0, 0, 0), (61, .iload_n 2, 1, 0, 0, 0), (62, .iload_n 3, 1, 0, 0, 0), (63, .invokevirtual 204, 3, 109, 185, 3), (66, .goto 4, 3, 0, 0, 0), (69, .iconst (-1), 1, 0, 0, 0), (70, .iastore, 1, 0, 0, 0), (71, .aload_n 0, 1, 0, 0, 0), (72, .getfield 19, 3, 2, 9, 4), (75, .sipush 132, 3, 0, 0, 0), (78, .bipush 8, 2, 0, 0, 0), (80, .iload_n 1, 1, 0, 0, 0), (81, .imul, 1, 0, 0, 0), (82, .iadd, 1, 0, 0, 0), (83, .iload_n 3, 1, 0, 0, 0), (84, .iadd, 1, 0, 0, 0), (85, .iload 4, 2, 0, 0, 0), (87, .ifCond .eq 12, 3, 0, 0, 0), (90, .aload_n 0, 1, 0, 0, 0), (91, .iload_n 2, 1, 0, 0, 0), (92, .iload_n 3, 1, 0, 0, 0), (93, .invokevirtual 210, 3, 109, 191, 3), (96, .goto 4, 3, 0, 0, 0), (99, .iconst 0, 1, 0, 0, 0), (100, .iastore, 1, 0, 0, 0), (101, .iinc 3 1, 3, 0, 0, 0), (104, .goto (-88), 3, 5, 0, 0), (107, .return_, 1, 0, 0, 0)]
def cd_X9_mountMap : List (Nat × cm_E) := [(0, .aload_n 0, 1, 0, 0, 0), (1, .getfield 19, 3, 2, 9, 4), (4, .invokestatic 82, 3, 0, 165, 1), (7, .aload_n 0, 1, 0, 0, 0), (8, .getfield 19, 3, 2, 9, 4), (11, .sipush 242, 3, 0, 0, 0), (14, .iload_n 1, 1, 0, 0, 0), (15, .iastore, 1, 0, 0, 0), (16, .aload_n 0, 1, 0, 0, 0), (17, .getfield 19, 3, 2, 9, 4), (20, .sipush 243, 3, 0, 0, 0), (23, .iload_n 1, 1, 0, 0, 0), (24, .iconst (-1), 1, 0, 0, 0), (25, .if_icmp .ne 7, 3, 0, 0, 0), (28, .iconst 0, 1, 0, 0, 0), (29, .goto 10, 3, 0, 0, 0), (32, .aload_n 0, 1, 0, 0, 0), (33, .iload_n 1, 1, 0, 0, 0), (34, .bipush 14, 2, 0, 0, 0), (36, .invokevirtual 204, 3, 109, 185, 3), (39, .iastore, 1, 0, 0, 0), (40, .iconst 0, 1, 0, 0, 0), (41, .istore_n 2, 1, 0, 0, 0), (42, .iload_n 2, 1, 0, 0, 0), (43, .bipush 13, 2, 0, 0, 0), (45, .if_icmp .ge 30, 3, 0, 0, 0), (48, .iload_n 1, 1, 0, 0, 0), (49, .iconst (-1), 1, 0, 0, 0), (50, .if_icmp .eq 25, 3, 0, 0, 0), (53, .aload_n 0, 1, 0, 0, 0), (54, .getfield 19, 3, 2, 9, 4), (57, .sipush 228, 3, 0, 0, 0), (60, .iload_n 2, 1, 0, 0, 0), (61, .iadd, 1, 0, 0, 0), (62, .aload_n 0, 1, 0, 0, 0), (63, .iload_n 1, 1, 0, 0, 0), (64, .iload_n 2, 1, 0, 0, 0), (65, .invokevirtual 204, 3, 109, 185, 3), (68, .iastore, 1, 0, 0, 0), (69, .iinc 2 1, 3, 0, 0, 0), (72, .goto (-30), 3, 4, 0, 0), (75, .iconst 0, 1, 0, 0, 0), (76, .istore_n 2, 1, 0, 0, 0), (77, .iload_n 2, 1, 0, 0, 0), (78, .bipush 12, 2, 0, 0, 0), (80, .if_icmp .ge 54, 3, 0, 0, 0), (83, .iload_n 1, 1, 0, 0, 0), (84, .iconst (-1), 1, 0, 0, 0), (85, .if_icmp .eq 49, 3, 0, 0, 0), (88, .aload_n 0, 1, 0, 0, 0), (89, .iload_n 1, 1, 0, 0, 0), (90, .iload_n 2, 1, 0, 0, 0), (91, .invokevirtual 213, 3, 109, 189, 3), (94, .istore_n 3, 1, 0, 0, 0), (95, .iload_n 3, 1, 0, 0, 0), (96, .iconst (-1), 1, 0, 0, 0), (97, .if_icmp .ne 6, 3, 0, 0, 0), (100, .goto 28, 3, 0, 0, 0), (103, .aload_n 0, 1, 0, 0, 0), (104, .getfield 19, 3, 2, 9, 4), (107, .iconst 0, 1, 0, 0, 0), (108, .iload_n 2, 1, 0, 0, 0), (109, .iadd, 1, 0, 0, 0), (110, .aload_n 0, 1, 0, 0, 0), (111, .aload_n 0, 1, 0, 0, 0), (112, .iload_n 1, 1, 0, 0, 0), (113, .iconst 0, 1, 0, 0, 0), (114, .invokevirtual 204, 3, 109, 185, 3), (117, .iload_n 2, 1, 0, 0, 0), (118, .invokevirtual 204, 3, 109, 185, 3), (121, .iastore, 1, 0, 0, 0), (122, .aload_n 0, 1, 0, 0, 0), (123, .iload_n 2, 1, 0, 0, 0), (124, .iload_n 3, 1, 0, 0, 0), (125, .invokevirtual 216, 3, 109, 192, 3), (128, .iinc 2 1, 3, 0, 0, 0), (131, .goto (-54), 3, 4, 0, 0), (134, .return_, 1, 0, 0, 0)]
def cd_X9_filesNow : List (Nat × cm_E) := [(0, .iconst 0, 1, 0, 0, 0), (1, .istore_n 1, 1, 0, 0, 0), (2, .iconst 0, 1, 0, 0, 0), (3, .istore_n 2, 1, 0, 0, 0), (4, .iload_n 2, 1, 0, 0, 0), (5, .bipush 12, 2, 0, 0, 0), (7, .if_icmp .ge 29, 3, 0, 0, 0), (10, .iload_n 1, 1, 0, 0, 0), (11, .aload_n 0, 1, 0, 0, 0), (12, .getfield 19, 3, 2, 9, 4), (15, .iconst 0, 1, 0, 0, 0), (16, .iload_n 2, 1, 0, 0, 0), (17, .iadd, 1, 0, 0, 0), (18, .iaload, 1, 0, 0, 0), (19, .iconst (-1), 1, 0, 0, 0), (20, .if_icmp .eq 7, 3, 0, 0, 0), (23, .iconst 1, 1, 0, 0, 0), (24, .goto 4, 3, 0, 0, 0), (27, .iconst 0, 1, 0, 0, 0), (28, .iadd, 1, 0, 0, 0), (29, .istore_n 1, 1, 0, 0, 0), (30, .iinc 2 1, 3, 0, 0, 0), (33, .goto (-29), 3, 4, 0, 0), (36, .iload_n 1, 1, 0, 0, 0), (37, .ireturn, 1, 0, 0, 0)]
def cd_X9_changedFiles : List (Nat × cm_E) := [(0, .iconst 0, 1, 0, 0, 0), (1, .istore_n 1, 1, 0, 0, 0), (2, .iconst 0, 1, 0, 0, 0), (3, .istore_n 2, 1, 0, 0, 0), (4, .iload_n 2, 1, 0, 0, 0), (5, .bipush 12, 2, 0, 0, 0), (7, .if_icmp .ge 21, 3, 0, 0, 0), (10, .iload_n 1, 1, 0, 0, 0), (11, .aload_n 0, 1, 0, 0, 0), (12, .getfield 19, 3, 2, 9, 4), (15, .bipush 24, 2, 0, 0, 0), (17, .iload_n 2, 1, 0, 0, 0), (18, .iadd, 1, 0, 0, 0), (19, .iaload, 1, 0, 0, 0), (20, .iadd, 1, 0, 0, 0), (21, .istore_n 1, 1, 0, 0, 0), (22, .iinc 2 1, 3, 0, 0, 0), (25, .goto (-21), 3, 4, 0, 0), (28, .iload_n 1, 1, 0, 0, 0), (29, .ireturn, 1, 0, 0, 0)]
def cd_X9_hasChanged : List (Nat × cm_E) := [(0, .aload_n 0, 1, 0, 0, 0), (1, .getfield 19, 3, 2, 9, 4), (4, .sipush 241, 3, 0, 0, 0), (7, .iaload, 1, 0, 0, 0), (8, .iconst 1, 1, 0, 0, 0), (9, .if_icmp .eq 10, 3, 0, 0, 0), (12, .aload_n 0, 1, 0, 0, 0), (13, .invokevirtual 220, 3, 109, 195, 1), (16, .ifCond .le 7, 3, 0, 0, 0), (19, .iconst 1, 1, 0, 0, 0), (20, .goto 4, 3, 0, 0, 0), (23, .iconst 0, 1, 0, 0, 0), (24, .ireturn, 1, 1, 0, 0)]
def cd_X9_newCells : List (Nat × cm_E) := [(0, .iconst 0, 1, 0, 0, 0), (1, .istore_n 2, 1, 0, 0, 0), (2, .iconst 0, 1, 0, 0, 0), (3, .istore_n 3, 1, 0, 0, 0), (4, .iload_n 3, 1, 0, 0, 0), (5, .aload_n 0, 1, 0, 0, 0), (6, .getfield 19, 3, 2, 9, 4), (9, .bipush 12, 2, 0, 0, 0), (11, .iload_n 1, 1, 0, 0, 0), (12, .iadd, 1, 0, 0, 0), (13, .iaload, 1, 0, 0, 0), (14, .if_icmp .ge 35, 3, 0, 0, 0), (17, .iload_n 2, 1, 0, 0, 0), (18, .aload_n 0, 1, 0, 0, 0), (19, .getfield 19, 3, 2, 9, 4), (22, .bipush 36, 2, 0, 0, 0), (24, .bipush 8, 2, 0, 0, 0), (26, .iload_n 1, 1, 0, 0, 0), (27, .imul, 1, 0, 0, 0), (28, .iadd, 1, 0, 0, 0), (29, .iload_n 3, 1, 0, 0, 0), (30, .iadd, 1, 0, 0, 0), (31, .iaload, 1, 0, 0, 0), (32, .iconst (-1), 1, 0, 0, 0), (33, .if_icmp .ne 7, 3, 0, 0, 0), (36, .iconst 1, 1, 0, 0, 0), (37, .goto 4, 3, 0, 0, 0), (40, .iconst 0, 1, 0, 0, 0), (41, .iadd, 1, 0, 0, 0), (42, .istore_n 2, 1, 0, 0, 0), (43, .iinc 3 1, 3, 0, 0, 0), (46, .goto (-42), 3, 5, 0, 0), (49, .iload_n 2, 1, 0, 0, 0), (50, .ireturn, 1, 0, 0, 0)]
def cd_X9_newAll : List (Nat × cm_E) := [(0, .iconst 0, 1, 0, 0, 0), (1, .istore_n 1, 1, 0, 0, 0), (2, .iconst 0, 1, 0, 0, 0), (3, .istore_n 2, 1, 0, 0, 0), (4, .iload_n 2, 1, 0, 0, 0), (5, .bipush 12, 2, 0, 0, 0), (7, .if_icmp .ge 33, 3, 0, 0, 0), (10, .iload_n 1, 1, 0, 0, 0), (11, .aload_n 0, 1, 0, 0, 0), (12, .getfield 19, 3, 2, 9, 4), (15, .iconst 0, 1, 0, 0, 0), (16, .iload_n 2, 1, 0, 0, 0), (17, .iadd, 1, 0, 0, 0), (18, .iaload, 1, 0, 0, 0), (19, .iconst (-1), 1, 0, 0, 0), (20, .if_icmp .eq 11, 3, 0, 0, 0), (23, .aload_n 0, 1, 0, 0, 0), (24, .iload_n 2, 1, 0, 0, 0), (25, .invokevirtual 223, 3, 109, 197, 2), (28, .goto 4, 3, 0, 0, 0), (31, .iconst 0, 1, 0, 0, 0), (32, .iadd, 1, 0, 0, 0), (33, .istore_n 1, 1, 0, 0, 0), (34, .iinc 2 1, 3, 0, 0, 0), (37, .goto (-33), 3, 4, 0, 0), (40, .iload_n 1, 1, 0, 0, 0), (41, .ireturn, 1, 0, 0, 0)]
def cd_X9_content : List (Nat × cm_E) := [(0, .aload_n 0, 1, 0, 0, 0), (1, .getfield 41, 3, 2, 9, 22), (4, .aload_n 0, 1, 0, 0, 0), (5, .getfield 226, 3, 0, 9, 25), (8, .iload_n 1, 1, 0, 0, 0), (9, .iastore, 1, 0, 0, 0), (10, .aload_n 0, 1, 0, 0, 0), (11, .getfield 44, 3, 2, 9, 23), (14, .aload_n 0, 1, 0, 0, 0), (15, .getfield 226, 3, 0, 9, 25), (18, .iload_n 2, 1, 0, 0, 0), (19, .iastore, 1, 0, 0, 0), (20, .aload_n 0, 1, 0, 0, 0), (21, .dup, 1, 0, 0, 0), (22, .getfield 226, 3, 0, 9, 25), (25, .iconst 1, 1, 0, 0, 0), (26, .iadd, 1, 0, 0, 0), (27, .putfield 226, 3, 0, 9, 25), (30, .return_, 1, 0, 0, 0)]
def cd_X9_nameOf : List (Nat × cm_E) := [(0, .iconst 0, 1, 0, 0, 0), (1, .istore_n 2, 1, 0, 0, 0), (2, .iload_n 2, 1, 0, 0, 0), (3, .bipush 12, 2, 0, 0, 0), (5, .if_icmp .ge 23, 3, 0, 0, 0), (8, .aload_n 0, 1, 0, 0, 0), (9, .getfield 19, 3, 2, 9, 4), (12, .iconst 0, 1, 0, 0, 0), (13, .iload_n 2, 1, 0, 0, 0), (14, .iadd, 1, 0, 0, 0), (15, .iaload, 1, 0, 0, 0), (16, .iload_n 1, 1, 0, 0, 0), (17, .if_icmp .ne 5, 3, 0, 0, 0), (20, .iload_n 2, 1, 0, 0, 0), (21, .ireturn, 1, 0, 0, 0), (22, .iinc 2 1, 3, 0, 0, 0), (25, .goto (-23), 3, 4, 0, 0), (28, .iconst (-1), 1, 0, 0, 0), (29, .ireturn, 1, 0, 0, 0)]
def cd_X9_up : List (Nat × cm_E) := [(0, .iload_n 0, 1, 0, 0, 0), (1, .iload_n 1, 1, 0, 0, 0), (2, .iadd, 1, 0, 0, 0), (3, .iconst 1, 1, 0, 0, 0), (4, .isub, 1, 0, 0, 0), (5, .iload_n 1, 1, 0, 0, 0), (6, .idiv, 1, 0, 0, 0), (7, .ireturn, 1, 0, 0, 0)]
def cd_X9_layContents : List (Nat × cm_E) := [(0, .aload_n 0, 1, 0, 0, 0), (1, .iconst 0, 1, 0, 0, 0), (2, .putfield 226, 3, 0, 9, 25), (5, .iconst 1, 1, 0, 0, 0), (6, .istore_n 1, 1, 0, 0, 0), (7, .iload_n 1, 1, 0, 0, 0), (8, .bipush 13, 2, 0, 0, 0), (10, .if_icmp .ge 91, 3, 0, 0, 0), (13, .aload_n 0, 1, 0, 0, 0), (14, .iload_n 1, 1, 0, 0, 0), (15, .invokevirtual 229, 3, 109, 200, 2), (18, .istore_n 2, 1, 0, 0, 0), (19, .iload_n 2, 1, 0, 0, 0), (20, .iconst (-1), 1, 0, 0, 0), (21, .if_icmp .eq 74, 3, 0, 0, 0), (24, .aload_n 0, 1, 0, 0, 0), (25, .getfield 19, 3, 2, 9, 4), (28, .bipush 24, 2, 0, 0, 0), (30, .iload_n 2, 1, 0, 0, 0), (31, .iadd, 1, 0, 0, 0), (32, .iaload, 1, 0, 0, 0), (33, .ifCond .ne 6, 3, 0, 0, 0), (36, .goto 59, 3, 0, 0, 0), (39, .iconst 0, 1, 0, 0, 0), (40, .istore_n 3, 1, 0, 0, 0), (41, .iload_n 3, 1, 0, 0, 0), (42, .aload_n 0, 1, 0, 0, 0), (43, .getfield 19, 3, 2, 9, 4), (46, .bipush 12, 2, 0, 0, 0), (48, .iload_n 2, 1, 0, 0, 0), (49, .iadd, 1, 0, 0, 0), (50, .iaload, 1, 0, 0, 0), (51, .if_icmp .ge 38, 3, 0, 0, 0), (54, .aload_n 0, 1, 0, 0, 0), (55, .getfield 19, 3, 2, 9, 4), (58, .bipush 36, 2, 0, 0, 0), (60, .bipush 8, 2, 0, 0, 0), (62, .iload_n 2, 1, 0, 0, 0), (63, .imul, 1, 0, 0, 0), (64, .iadd, 1, 0, 0, 0), (65, .iload_n 3, 1, 0, 0, 0), (66, .iadd, 1, 0, 0, 0), (67, .iaload, 1, 0, 0, 0), (68, .iconst (-1), 1, 0, 0, 0), (69, .if_icmp .ne 14, 3, 0, 0, 0), (72, .aload_n 0, 1, 0, 0, 0), (73, .iconst 3, 1, 0, 0, 0), (74, .bipush 8, 2, 0, 0, 0), (76, .iload_n 2, 1, 0, 0, 0), (77, .imul, 1, 0, 0, 0), (78, .iload_n 3, 1, 0, 0, 0), (79, .iadd, 1, 0, 0, 0), (80, .invokevirtual 232, 3, 109, 199, 3), (83, .iinc 3 1, 3, 0, 0, 0), (86, .goto (-45), 3, 5, 0, 0), (89, .aload_n 0, 1, 0, 0, 0), (90, .iconst 4, 1, 0, 0, 0), (91, .iload_n 2, 1, 0, 0, 0), (92, .invokevirtual 232, 3, 109, 199, 3), (95, .iinc 1 1, 3, 0, 0, 0), (98, .goto (-91), 3, 3, 0, 0), (101, .aload_n 0, 1, 0, 0, 0), (102, .getfield 19, 3, 2, 9, 4), (105, .sipush 241, 3, 0, 0, 0), (108, .iaload, 1, 0, 0, 0), (109, .iconst 1, 1, 0, 0, 0), (110, .if_icmp .ne 9, 3, 0, 0, 0), (113, .aload_n 0, 1, 0, 0, 0), (114, .iconst 5, 1, 0, 0, 0), (115, .iconst 0, 1, 0, 0, 0), (116, .invokevirtual 232, 3, 109, 199, 3), (119, .aload_n 0, 1, 0, 0, 0), (120, .aload_n 0, 1, 0, 0, 0), (121, .getfield 226, 3, 0, 9, 25), (124, .iconst 1, 1, 0, 0, 0), (125, .iadd, 1, 0, 0, 0), (126, .aload_n 0, 1, 0, 0, 0), (127, .getfield 7, 3, 2, 9, 1), (130, .iconst 1, 1, 0, 0, 0), (131, .iaload, 1, 0, 0, 0), (132, .invokestatic 235, 3, 0, 201, 2), (135, .putfield 238, 3, 0, 9, 26), (138, .aload_n 0, 1, 0, 0, 0), (139, .getfield 226, 3, 0, 9, 25), (142, .aload_n 0, 1, 0, 0, 0), (143, .getfield 238, 3, 0, 9, 26), (146, .aload_n 0, 1, 0, 0, 0), (147, .getfield 7, 3, 2, 9, 1), (150, .iconst 1, 1, 0, 0, 0), (151, .iaload, 1, 0, 0, 0), (152, .imul, 1, 0, 0, 0), (153, .iconst 1, 1, 0, 0, 0), (154, .isub, 1, 0, 0, 0), (155, .if_icmp .ge 12, 3, 0, 0, 0), (158, .aload_n 0, 1, 0, 0, 0), (159, .iconst 2, 1, 0, 0, 0), (160, .iconst 0, 1, 0, 0, 0), (161, .invokevirtual 232, 3, 109, 199, 3), (164, .goto (-26), 3, 3, 0, 0), (167, .aload_n 0, 1, 0, 0, 0), (168, .bipush 6, 2, 0, 0, 0), (170, .iconst 0, 1, 0, 0, 0), (171, .invokevirtual 232, 3, 109, 199, 3), (174, .return_, 1, 0, 0, 0)]
def cd_X9_placeOf : List (Nat × cm_E) := [(0, .iconst 0, 1, 0, 0, 0), (1, .istore 4, 2, 0, 0, 0), (3, .iload 4, 2, 0, 0, 0), (5, .aload_n 0, 1, 0, 0, 0), (6, .getfield 226, 3, 0, 9, 25), (9, .if_icmp .ge 39, 3, 0, 0, 0), (12, .aload_n 0, 1, 0, 0, 0), (13, .getfield 41, 3, 2, 9, 22), (16, .iload 4, 2, 0, 0, 0), (18, .iaload, 1, 0, 0, 0), (19, .iload_n 1, 1, 0, 0, 0), (20, .if_icmp .ne 22, 3, 0, 0, 0), (23, .aload_n 0, 1, 0, 0, 0), (24, .getfield 44, 3, 2, 9, 23), (27, .iload 4, 2, 0, 0, 0), (29, .iaload, 1, 0, 0, 0), (30, .iload_n 2, 1, 0, 0, 0), (31, .if_icmp .ne 11, 3, 0, 0, 0), (34, .aload_n 0, 1, 0, 0, 0), (35, .getfield 47, 3, 2, 9, 24), (38, .iload 4, 2, 0, 0, 0), (40, .iaload, 1, 0, 0, 0), (41, .ireturn, 1, 0, 0, 0), (42, .iinc 4 1, 3, 0, 0, 0), (45, .goto (-42), 3, 6, 0, 0), (48, .iload_n 3, 1, 0, 0, 0), (49, .ireturn, 1, 0, 0, 0)]
def cd_X9_putBody : List (Nat × cm_E) := [(0, .bipush 15, 2, 0, 0, 0), (2, .iload_n 1, 1, 0, 0, 0), (3, .imul, 1, 0, 0, 0), (4, .istore_n 3, 1, 0, 0, 0), (5, .iconst 0, 1, 0, 0, 0), (6, .istore 4, 2, 0, 0, 0), (8, .iload 4, 2, 0, 0, 0), (10, .bipush 15, 2, 0, 0, 0), (12, .if_icmp .ge 19, 3, 0, 0, 0), (15, .aload_n 0, 1, 0, 0, 0), (16, .getfield 28, 3, 2, 9, 7), (19, .iload_n 3, 1, 0, 0, 0), (20, .iload 4, 2, 0, 0, 0), (22, .iadd, 1, 0, 0, 0), (23, .iconst (-1), 1, 0, 0, 0), (24, .iastore, 1, 0, 0, 0), (25, .iinc 4 1, 3, 0, 0, 0), (28, .goto (-20), 3, 6, 0, 0), (31, .aload_n 0, 1, 0, 0, 0), (32, .getfield 41, 3, 2, 9, 22), (35, .iload_n 2, 1, 0, 0, 0), (36, .iaload, 1, 0, 0, 0), (37, .iconst 3, 1, 0, 0, 0), (38, .if_icmp .ne 24, 3, 0, 0, 0), (41, .aload_n 0, 1, 0, 0, 0), (42, .getfield 28, 3, 2, 9, 7), (45, .iload_n 3, 1, 0, 0, 0), (46, .aload_n 0, 1, 0, 0, 0), (47, .getfield 19, 3, 2, 9, 4), (50, .sipush 132, 3, 0, 0, 0), (53, .aload_n 0, 1, 0, 0, 0), (54, .getfield 44, 3, 2, 9, 23), (57, .iload_n 2, 1, 0, 0, 0), (58, .iaload, 1, 0, 0, 0), (59, .iadd, 1, 0, 0, 0), (60, .iaload, 1, 0, 0, 0), (61, .iastore, 1, 0, 0, 0), (62, .aload_n 0, 1, 0, 0, 0), (63, .getfield 41, 3, 2, 9, 22), (66, .iload_n 2, 1, 0, 0, 0), (67, .iaload, 1, 0, 0, 0), (68, .iconst 4, 1, 0, 0, 0), (69, .if_icmp .ne 116, 3, 0, 0, 0), (72, .aload_n 0, 1, 0, 0, 0), (73, .getfield 44, 3, 2, 9, 23), (76, .iload_n 2, 1, 0, 0, 0), (77, .iaload, 1, 0, 0, 0), (78, .istore 4, 2, 0, 0, 0), (80, .aload_n 0, 1, 0, 0, 0), (81, .getfield 28, 3, 2, 9, 7), (84, .iload_n 3, 1, 0, 0, 0), (85, .bipush 8, 2, 0, 0, 0), (87, .iadd, 1, 0, 0, 0), (88, .aload_n 0, 1, 0, 0, 0), (89, .getfield 19, 3, 2, 9, 4), (92, .bipush 12, 2, 0, 0, 0), (94, .iload 4, 2, 0, 0, 0), (96, .iadd, 1, 0, 0, 0), (97, .iaload, 1, 0, 0, 0), (98, .iastore, 1, 0, 0, 0), (99, .iconst 0, 1, 0, 0, 0), (100, .istore 5, 2, 0, 0, 0), (102, .iload 5, 2, 0, 0, 0), (104, .aload_n 0, 1, 0, 0, 0), (105, .getfield 19, 3, 2, 9, 4), (108, .bipush 12, 2, 0, 0, 0), (110, .iload 4, 2, 0, 0, 0), (112, .iadd, 1, 0, 0, 0), (113, .iaload, 1, 0, 0, 0), (114, .if_icmp .ge 71, 3, 0, 0, 0), (117, .aload_n 0, 1, 0, 0, 0), (118, .getfield 28, 3, 2, 9, 7), (121, .iload_n 3, 1, 0, 0, 0), (122, .iload 5, 2, 0, 0, 0), (124, .iadd, 1, 0, 0, 0), (125, .aload_n 0, 1, 0, 0, 0), (126, .getfield 19, 3, 2, 9, 4), (129, .bipush 36, 2, 0, 0, 0), (131, .bipush 8, 2, 0, 0, 0), (133, .iload 4, 2, 0, 0, 0), (135, .imul, 1, 0, 0, 0), (136, .iadd, 1, 0, 0, 0), (137, .iload 5, 2, 0, 0, 0), (139, .iadd, 1, 0, 0, 0), (140, .iaload, 1, 0, 0, 0), (141, .iconst (-1), 1, 0, 0, 0), (142, .if_icmp .ne 20, 3, 0, 0, 0), (145, .aload_n 0, 1, 0, 0, 0), (146, .iconst 3, 1, 0, 0, 0), (147, .bipush 8, 2, 0, 0, 0), (149, .iload 4, 2, 0, 0, 0), (151, .imul, 1, 0, 0, 0), (152, .iload 5, 2, 0, 0, 0), (154, .iadd, 1, 0, 0, 0), (155, .iconst (-1), 1, 0, 0, 0), (156, .invokevirtual 241, 3, 109, 203, 4), (159, .goto 19, 3, 0, 0, 0), (162, .aload_n 0, 1, 0, 0, 0), (163, .getfield 19, 3, 2, 9, 4), (166, .bipush 36, 2, 0, 0, 0), (168, .bipush 8, 2, 0, 0, 0), (170, .iload 4, 2, 0, 0, 0), (172, .imul, 1, 0, 0, 0), (173, .iadd, 1, 0, 0, 0), (174, .iload 5, 2, 0, 0, 0), (176, .iadd, 1, 0, 0, 0), (177, .iaload, 1, 0, 0, 0), (178, .iastore, 1, 0, 0, 0), (179, .iinc 5 1, 3, 0, 0, 0), (182, .goto (-80), 3, 7, 0, 0), (185, .aload_n 0, 1, 0, 0, 0), (186, .getfield 41, 3, 2, 9, 22), (189, .iload_n 2, 1, 0, 0, 0), (190, .iaload, 1, 0, 0, 0), (191, .iconst 5, 1, 0, 0, 0), (192, .if_icmp .ne 37, 3, 0, 0, 0), (195, .iconst 0, 1, 0, 0, 0), (196, .istore 4, 2, 0, 0, 0), (198, .iload 4, 2, 0, 0, 0), (200, .bipush 12, 2, 0, 0, 0), (202, .if_icmp .ge 27, 3, 0, 0, 0), (205, .aload_n 0, 1, 0, 0, 0), (206, .getfield 28, 3, 2, 9, 7), (209, .iload_n 3, 1, 0, 0, 0), (210, .iload 4, 2, 0, 0, 0), (212, .iadd, 1, 0, 0, 0), (213, .aload_n 0, 1, 0, 0, 0), (214, .getfield 19, 3, 2, 9, 4), (217, .iconst 0, 1, 0, 0, 0), (218, .iload 4, 2, 0, 0, 0), (220, .iadd, 1, 0, 0, 0), (221, .iaload, 1, 0, 0, 0), (222, .iastore, 1, 0, 0, 0), (223, .iinc 4 1, 3, 0, 0, 0), (226, .goto (-28), 3, 6, 0, 0), (229, .aload_n 0, 1, 0, 0, 0), (230, .getfield 41, 3, 2, 9, 22), (233, .iload_n 2, 1, 0, 0, 0), (234, .iaload, 1, 0, 0, 0), (235, .bipush 6, 2, 0, 0, 0), (237, .if_icmp .eq 4, 3, 0, 0, 0), (240, .return_, 1, 0, 0, 0), (241, .aload_n 0, 1, 0, 0, 0), (242, .getfield 28, 3, 2, 9, 7), (245, .iload_n 3, 1, 0, 0, 0), (246, .aload_n 0, 1, 0, 0, 0), (247, .iconst 5, 1, 0, 0, 0), (248, .iconst 0, 1, 0, 0, 0), (249, .aload_n 0, 1, 0, 0, 0), (250, .getfield 19, 3, 2, 9, 4), (253, .sipush 228, 3, 0, 0, 0), (256, .iaload, 1, 0, 0, 0), (257, .invokevirtual 241, 3, 109, 203, 4), (260, .iastore, 1, 0, 0, 0), (261, .iconst 1, 1, 0, 0, 0), (262, .istore 4, 2, 0, 0, 0), (264, .iload 4, 2, 0, 0, 0), (266, .bipush 13, 2, 0, 0, 0), (268, .if_icmp .ge 64, 3, 0, 0, 0), (271, .aload_n 0, 1, 0, 0, 0), (272, .iload 4, 2, 0, 0, 0), (274, .invokevirtual 229, 3, 109, 200, 2), (277, .istore 5, 2, 0, 0, 0), (279, .aload_n 0, 1, 0, 0, 0), (280, .getfield 28, 3, 2, 9, 7), (283, .iload_n 3, 1, 0, 0, 0), (284, .iload 4, 2, 0, 0, 0), (286, .iadd, 1, 0, 0, 0), (287, .iload 5, 2, 0, 0, 0), (289, .iconst (-1), 1, 0, 0, 0), (290, .if_icmp .ne 17, 3, 0, 0, 0), (293, .aload_n 0, 1, 0, 0, 0), (294, .getfield 19, 3, 2, 9, 4), (297, .sipush 228, 3, 0, 0, 0), (300, .iload 4, 2, 0, 0, 0), (302, .iadd, 1, 0, 0, 0), (303, .iaload, 1, 0, 0, 0), (304, .goto 21, 3, 0, 0, 0), (307, .aload_n 0, 1, 0, 0, 0), (308, .iconst 4, 1, 0, 0, 0), (309, .iload 5, 2, 0, 0, 0), (311, .aload_n 0, 1, 0, 0, 0), (312, .getfield 19, 3, 2, 9, 4), (315, .sipush 228, 3, 0, 0, 0), (318, .iload 4, 2, 0, 0, 0), (320, .iadd, 1, 0, 0, 0), (321, .iaload, 1, 0, 0, 0), (322, .invokevirtual 241, 3, 109, 203, 4), (325, .iastore, 1, 0, 0, 0), (326, .iinc 4 1, 3, 0, 0, 0), (329, .goto (-65), 3, 6, 0, 0), (332, .aload_n 0, 1, 0, 0, 0), (333, .getfield 28, 3, 2, 9, 7), (336, .iload_n 3, 1, 0, 0, 0), (337, .bipush 13, 2, 0, 0, 0), (339, .iadd, 1, 0, 0, 0), (340, .aload_n 0, 1, 0, 0, 0), (341, .getfield 19, 3, 2, 9, 4), (344, .sipush 242, 3, 0, 0, 0), (347, .iaload, 1, 0, 0, 0), (348, .iastore, 1, 0, 0, 0), (349, .aload_n 0, 1, 0, 0, 0), (350, .getfield 28, 3, 2, 9, 7), (353, .iload_n 3, 1, 0, 0, 0), (354, .bipush 14, 2, 0, 0, 0), (356, .iadd, 1, 0, 0, 0), (357, .aload_n 0, 1, 0, 0, 0), (358, .getfield 19, 3, 2, 9, 4), (361, .sipush 243, 3, 0, 0, 0), (364, .iaload, 1, 0, 0, 0), (365, .iastore, 1, 0, 0, 0), (366, .return_, 1, 0, 0, 0)]
def cd_X9_canBegin : List (Nat × cm_E) := [(0, .aload_n 0, 1, 0, 0, 0), (1, .invokevirtual 245, 3, 109, 202, 1), (4, .aload_n 0, 1, 0, 0, 0), (5, .invokevirtual 248, 3, 109, 196, 1), (8, .ifCond .eq 50, 3, 0, 0, 0), (11, .aload_n 0, 1, 0, 0, 0), (12, .getfield 19, 3, 2, 9, 4), (15, .sipush 244, 3, 0, 0, 0), (18, .iaload, 1, 0, 0, 0), (19, .aload_n 0, 1, 0, 0, 0), (20, .getfield 238, 3, 0, 9, 26), (23, .aload_n 0, 1, 0, 0, 0), (24, .getfield 7, 3, 2, 9, 1), (27, .iconst 2, 1, 0, 0, 0), (28, .iaload, 1, 0, 0, 0), (29, .aload_n 0, 1, 0, 0, 0), (30, .getfield 7, 3, 2, 9, 1), (33, .iconst 1, 1, 0, 0, 0), (34, .iaload, 1, 0, 0, 0), (35, .iadd, 1, 0, 0, 0), (36, .imul, 1, 0, 0, 0), (37, .iadd, 1, 0, 0, 0), (38, .aload_n 0, 1, 0, 0, 0), (39, .getfield 7, 3, 2, 9, 1), (42, .iconst 3, 1, 0, 0, 0), (43, .iaload, 1, 0, 0, 0), (44, .iadd, 1, 0, 0, 0), (45, .aload_n 0, 1, 0, 0, 0), (46, .getfield 7, 3, 2, 9, 1), (49, .iconst 0, 1, 0, 0, 0), (50, .iaload, 1, 0, 0, 0), (51, .if_icmp .gt 7, 3, 0, 0, 0), (54, .iconst 1, 1, 0, 0, 0), (55, .goto 4, 3, 0, 0, 0), (58, .iconst 0, 1, 0, 0, 0), (59, .ireturn, 1, 1, 0, 0)]
def cd_X9_isTorn : List (Nat × cm_E) := [(0, .aload_n 0, 1, 0, 0, 0), (1, .getfield 251, 3, 0, 9, 27), (4, .iload_n 1, 1, 0, 0, 0), (5, .if_icmp .ne 7, 3, 0, 0, 0), (8, .iconst 1, 1, 0, 0, 0), (9, .goto 4, 3, 0, 0, 0), (12, .iconst 0, 1, 0, 0, 0), (13, .ireturn, 1, 1, 0, 0)]
def cd_X9_putBlock : List (Nat × cm_E) := [(0, .aload_n 0, 1, 0, 0, 0), (1, .getfield 25, 3, 2, 9, 6), (4, .aload_n 0, 1, 0, 0, 0), (5, .getfield 19, 3, 2, 9, 4), (8, .sipush 244, 3, 0, 0, 0), (11, .iaload, 1, 0, 0, 0), (12, .iload_n 1, 1, 0, 0, 0), (13, .iastore, 1, 0, 0, 0), (14, .aload_n 0, 1, 0, 0, 0), (15, .getfield 19, 3, 2, 9, 4), (18, .sipush 244, 3, 0, 0, 0), (21, .dup2, 1, 0, 0, 0), (22, .iaload, 1, 0, 0, 0), (23, .iconst 1, 1, 0, 0, 0), (24, .iadd, 1, 0, 0, 0), (25, .iastore, 1, 0, 0, 0), (26, .aload_n 0, 1, 0, 0, 0), (27, .dup, 1, 0, 0, 0), (28, .getfield 251, 3, 0, 9, 27), (31, .iconst 1, 1, 0, 0, 0), (32, .iadd, 1, 0, 0, 0), (33, .putfield 251, 3, 0, 9, 27), (36, .return_, 1, 0, 0, 0)]
def cd_X9_writePacket : List (Nat × cm_E) := [(0, .iconst 0, 1, 0, 0, 0), (1, .istore_n 3, 1, 0, 0, 0), (2, .iload_n 3, 1, 0, 0, 0), (3, .aload_n 0, 1, 0, 0, 0), (4, .getfield 7, 3, 2, 9, 1), (7, .iconst 2, 1, 0, 0, 0), (8, .iaload, 1, 0, 0, 0), (9, .if_icmp .ge 22, 3, 0, 0, 0), (12, .aload_n 0, 1, 0, 0, 0), (13, .iload_n 2, 1, 0, 0, 0), (14, .invokevirtual 254, 3, 109, 206, 2), (17, .ifCond .ne 14, 3, 0, 0, 0), (20, .aload_n 0, 1, 0, 0, 0), (21, .iconst 1, 1, 0, 0, 0), (22, .invokevirtual 257, 3, 109, 207, 2), (25, .iinc 3 1, 3, 0, 0, 0), (28, .goto (-26), 3, 5, 0, 0), (31, .iconst 0, 1, 0, 0, 0), (32, .istore_n 3, 1, 0, 0, 0), (33, .aload_n 0, 1, 0, 0, 0), (34, .getfield 19, 3, 2, 9, 4), (37, .sipush 244, 3, 0, 0, 0), (40, .iaload, 1, 0, 0, 0), (41, .istore 4, 2, 0, 0, 0), (43, .iconst 0, 1, 0, 0, 0), (44, .istore 5, 2, 0, 0, 0), (46, .iload 5, 2, 0, 0, 0), (48, .aload_n 0, 1, 0, 0, 0), (49, .getfield 7, 3, 2, 9, 1), (52, .iconst 1, 1, 0, 0, 0), (53, .iaload, 1, 0, 0, 0), (54, .if_icmp .ge 30, 3, 0, 0, 0), (57, .aload_n 0, 1, 0, 0, 0), (58, .getfield 47, 3, 2, 9, 24), (61, .aload_n 0, 1, 0, 0, 0), (62, .getfield 7, 3, 2, 9, 1), (65, .iconst 1, 1, 0, 0, 0), (66, .iaload, 1, 0, 0, 0), (67, .iload_n 1, 1, 0, 0, 0), (68, .imul, 1, 0, 0, 0), (69, .iload 5, 2, 0, 0, 0), (71, .iadd, 1, 0, 0, 0), (72, .iload 4, 2, 0, 0, 0), (74, .iload 5, 2, 0, 0, 0), (76, .iadd, 1, 0, 0, 0), (77, .iastore, 1, 0, 0, 0), (78, .iinc 5 1, 3, 0, 0, 0), (81, .goto (-35), 3, 7, 0, 0), (84, .iconst 0, 1, 0, 0, 0), (85, .istore 5, 2, 0, 0, 0), (87, .iload 5, 2, 0, 0, 0), (89, .aload_n 0, 1, 0, 0, 0), (90, .getfield 7, 3, 2, 9, 1), (93, .iconst 1, 1, 0, 0, 0), (94, .iaload, 1, 0, 0, 0), (95, .if_icmp .ge 102, 3, 0, 0, 0), (98, .aload_n 0, 1, 0, 0, 0), (99, .iload_n 2, 1, 0, 0, 0), (100, .invokevirtual 254, 3, 109, 206, 2), (103, .ifCond .ne 94, 3, 0, 0, 0), (106, .aload_n 0, 1, 0, 0, 0), (107, .getfield 19, 3, 2, 9, 4), (110, .sipush 244, 3, 0, 0, 0), (113, .iaload, 1, 0, 0, 0), (114, .istore 6, 2, 0, 0, 0), (116, .aload_n 0, 1, 0, 0, 0), (117, .iload 6, 2, 0, 0, 0), (119, .invokevirtual 260, 3, 109, 183, 2), (122, .istore 7, 2, 0, 0, 0), (124, .iload_n 3, 1, 0, 0, 0), (125, .ifCond .ne 8, 3, 0, 0, 0), (128, .iload 7, 2, 0, 0, 0), (130, .ifCond .eq 7, 3, 0, 0, 0), (133, .iconst 1, 1, 0, 0, 0), (134, .goto 4, 3, 0, 0, 0), (137, .iconst 0, 1, 0, 0, 0), (138, .istore_n 3, 1, 0, 0, 0), (139, .iload 7, 2, 0, 0, 0), (141, .ifCond .ne 20, 3, 0, 0, 0), (144, .aload_n 0, 1, 0, 0, 0), (145, .iload 6, 2, 0, 0, 0), (147, .aload_n 0, 1, 0, 0, 0), (148, .getfield 7, 3, 2, 9, 1), (151, .iconst 1, 1, 0, 0, 0), (152, .iaload, 1, 0, 0, 0), (153, .iload_n 1, 1, 0, 0, 0), (154, .imul, 1, 0, 0, 0), (155, .iload 5, 2, 0, 0, 0), (157, .iadd, 1, 0, 0, 0), (158, .invokevirtual 263, 3, 109, 204, 3), (161, .aload_n 0, 1, 0, 0, 0), (162, .iload 7, 2, 0, 0, 0), (164, .ifCond .eq 8, 3, 0, 0, 0), (167, .bipush 8, 2, 0, 0, 0), (169, .goto 19, 3, 0, 0, 0), (172, .aload_n 0, 1, 0, 0, 0), (173, .getfield 41, 3, 2, 9, 22), (176, .aload_n 0, 1, 0, 0, 0), (177, .getfield 7, 3, 2, 9, 1), (180, .iconst 1, 1, 0, 0, 0), (181, .iaload, 1, 0, 0, 0), (182, .iload_n 1, 1, 0, 0, 0), (183, .imul, 1, 0, 0, 0), (184, .iload 5, 2, 0, 0, 0), (186, .iadd, 1, 0, 0, 0), (187, .iaload, 1, 0, 0, 0), (188, .invokevirtual 257, 3, 109, 207, 2), (191, .iinc 5 1, 3, 0, 0, 0), (194, .goto (-107), 3, 7, 0, 0), (197, .iload_n 3, 1, 0, 0, 0), (198, .ireturn, 1, 1, 0, 0)]
def cd_X9_writeAll : List (Nat × cm_E) := [(0, .aload_n 0, 1, 0, 0, 0), (1, .iconst 0, 1, 0, 0, 0), (2, .putfield 251, 3, 0, 9, 27), (5, .aload_n 0, 1, 0, 0, 0), (6, .getfield 7, 3, 2, 9, 1), (9, .iconst 2, 1, 0, 0, 0), (10, .iaload, 1, 0, 0, 0), (11, .aload_n 0, 1, 0, 0, 0), (12, .getfield 7, 3, 2, 9, 1), (15, .iconst 1, 1, 0, 0, 0), (16, .iaload, 1, 0, 0, 0), (17, .iadd, 1, 0, 0, 0), (18, .istore_n 2, 1, 0, 0, 0), (19, .iconst 0, 1, 0, 0, 0), (20, .istore_n 3, 1, 0, 0, 0), (21, .iload_n 3, 1, 0, 0, 0), (22, .aload_n 0, 1, 0, 0, 0), (23, .getfield 238, 3, 0, 9, 26), (26, .if_icmp .ge 106, 3, 0, 0, 0), (29, .iconst 1, 1, 0, 0, 0), (30, .istore 4, 2, 0, 0, 0), (32, .iload 4, 2, 0, 0, 0), (34, .ifCond .eq 92, 3, 0, 0, 0), (37, .aload_n 0, 1, 0, 0, 0), (38, .iload_n 1, 1, 0, 0, 0), (39, .invokevirtual 254, 3, 109, 206, 2), (42, .ifCond .eq 5, 3, 0, 0, 0), (45, .iconst 2, 1, 0, 0, 0), (46, .ireturn, 1, 0, 0, 0), (47, .aload_n 0, 1, 0, 0, 0), (48, .getfield 19, 3, 2, 9, 4), (51, .sipush 244, 3, 0, 0, 0), (54, .iaload, 1, 0, 0, 0), (55, .iload_n 2, 1, 0, 0, 0), (56, .iadd, 1, 0, 0, 0), (57, .aload_n 0, 1, 0, 0, 0), (58, .getfield 7, 3, 2, 9, 1), (61, .iconst 3, 1, 0, 0, 0), (62, .iaload, 1, 0, 0, 0), (63, .iadd, 1, 0, 0, 0), (64, .aload_n 0, 1, 0, 0, 0), (65, .getfield 7, 3, 2, 9, 1), (68, .iconst 0, 1, 0, 0, 0), (69, .iaload, 1, 0, 0, 0), (70, .if_icmp .le 5, 3, 0, 0, 0), (73, .iconst 1, 1, 0, 0, 0), (74, .ireturn, 1, 0, 0, 0), (75, .aload_n 0, 1, 0, 0, 0), (76, .getfield 251, 3, 0, 9, 27), (79, .iload_n 2, 1, 0, 0, 0), (80, .iadd, 1, 0, 0, 0), (81, .istore 5, 2, 0, 0, 0), (83, .aload_n 0, 1, 0, 0, 0), (84, .iload_n 3, 1, 0, 0, 0), (85, .iload_n 1, 1, 0, 0, 0), (86, .invokevirtual 266, 3, 109, 208, 3), (89, .istore 4, 2, 0, 0, 0), (91, .aload_n 0, 1, 0, 0, 0), (92, .getfield 251, 3, 0, 9, 27), (95, .iload 5, 2, 0, 0, 0), (97, .if_icmp .ge 5, 3, 0, 0, 0), (100, .iconst 2, 1, 0, 0, 0), (101, .ireturn, 1, 0, 0, 0), (102, .aload_n 0, 1, 0, 0, 0), (103, .getfield 19, 3, 2, 9, 4), (106, .sipush 245, 3, 0, 0, 0), (109, .dup2, 1, 0, 0, 0), (110, .iaload, 1, 0, 0, 0), (111, .iload 4, 2, 0, 0, 0), (113, .ifCond .eq 7, 3, 0, 0, 0), (116, .iconst 1, 1, 0, 0, 0), (117, .goto 4, 3, 0, 0, 0), (120, .iconst 0, 1, 0, 0, 0), (121, .iadd, 1, 0, 0, 0), (122, .iastore, 1, 0, 0, 0), (123, .goto (-91), 3, 6, 0, 0), (126, .iinc 3 1, 3, 0, 0, 0), (129, .goto (-108), 3, 5, 0, 0), (132, .iconst 0, 1, 0, 0, 0), (133, .ireturn, 1, 0, 0, 0)]
def cd_X9_commit : List (Nat × cm_E) := [(0, .iconst 0, 1, 0, 0, 0), (1, .istore_n 1, 1, 0, 0, 0), (2, .iload_n 1, 1, 0, 0, 0), (3, .aload_n 0, 1, 0, 0, 0), (4, .getfield 226, 3, 0, 9, 25), (7, .if_icmp .ge 135, 3, 0, 0, 0), (10, .aload_n 0, 1, 0, 0, 0), (11, .getfield 41, 3, 2, 9, 22), (14, .iload_n 1, 1, 0, 0, 0), (15, .iaload, 1, 0, 0, 0), (16, .iconst 3, 1, 0, 0, 0), (17, .if_icmp .ne 26, 3, 0, 0, 0), (20, .aload_n 0, 1, 0, 0, 0), (21, .getfield 19, 3, 2, 9, 4), (24, .bipush 36, 2, 0, 0, 0), (26, .aload_n 0, 1, 0, 0, 0), (27, .getfield 44, 3, 2, 9, 23), (30, .iload_n 1, 1, 0, 0, 0), (31, .iaload, 1, 0, 0, 0), (32, .iadd, 1, 0, 0, 0), (33, .aload_n 0, 1, 0, 0, 0), (34, .getfield 47, 3, 2, 9, 24), (37, .iload_n 1, 1, 0, 0, 0), (38, .iaload, 1, 0, 0, 0), (39, .iastore, 1, 0, 0, 0), (40, .goto 96, 3, 0, 0, 0), (43, .aload_n 0, 1, 0, 0, 0), (44, .getfield 41, 3, 2, 9, 22), (47, .iload_n 1, 1, 0, 0, 0), (48, .iaload, 1, 0, 0, 0), (49, .iconst 4, 1, 0, 0, 0), (50, .if_icmp .ne 34, 3, 0, 0, 0), (53, .aload_n 0, 1, 0, 0, 0), (54, .getfield 19, 3, 2, 9, 4), (57, .sipush 228, 3, 0, 0, 0), (60, .aload_n 0, 1, 0, 0, 0), (61, .getfield 19, 3, 2, 9, 4), (64, .iconst 0, 1, 0, 0, 0), (65, .aload_n 0, 1, 0, 0, 0), (66, .getfield 44, 3, 2, 9, 23), (69, .iload_n 1, 1, 0, 0, 0), (70, .iaload, 1, 0, 0, 0), (71, .iadd, 1, 0, 0, 0), (72, .iaload, 1, 0, 0, 0), (73, .iadd, 1, 0, 0, 0), (74, .aload_n 0, 1, 0, 0, 0), (75, .getfield 47, 3, 2, 9, 24), (78, .iload_n 1, 1, 0, 0, 0), (79, .iaload, 1, 0, 0, 0), (80, .iastore, 1, 0, 0, 0), (81, .goto 55, 3, 0, 0, 0), (84, .aload_n 0, 1, 0, 0, 0), (85, .getfield 41, 3, 2, 9, 22), (88, .iload_n 1, 1, 0, 0, 0), (89, .iaload, 1, 0, 0, 0), (90, .iconst 5, 1, 0, 0, 0), (91, .if_icmp .ne 20, 3, 0, 0, 0), (94, .aload_n 0, 1, 0, 0, 0), (95, .getfield 19, 3, 2, 9, 4), (98, .sipush 228, 3, 0, 0, 0), (101, .aload_n 0, 1, 0, 0, 0), (102, .getfield 47, 3, 2, 9, 24), (105, .iload_n 1, 1, 0, 0, 0), (106, .iaload, 1, 0, 0, 0), (107, .iastore, 1, 0, 0, 0), (108, .goto 28, 3, 0, 0, 0), (111, .aload_n 0, 1, 0, 0, 0), (112, .getfield 41, 3, 2, 9, 22), (115, .iload_n 1, 1, 0, 0, 0), (116, .iaload, 1, 0, 0, 0), (117, .bipush 6, 2, 0, 0, 0), (119, .if_icmp .ne 17, 3, 0, 0, 0), (122, .aload_n 0, 1, 0, 0, 0), (123, .getfield 19, 3, 2, 9, 4), (126, .sipush 242, 3, 0, 0, 0), (129, .aload_n 0, 1, 0, 0, 0), (130, .getfield 47, 3, 2, 9, 24), (133, .iload_n 1, 1, 0, 0, 0), (134, .iaload, 1, 0, 0, 0), (135, .iastore, 1, 0, 0, 0), (136, .iinc 1 1, 3, 0, 0, 0), (139, .goto (-137), 3, 3, 0, 0), (142, .iconst 0, 1, 0, 0, 0), (143, .istore_n 1, 1, 0, 0, 0), (144, .iload_n 1, 1, 0, 0, 0), (145, .bipush 12, 2, 0, 0, 0), (147, .if_icmp .ge 19, 3, 0, 0, 0), (150, .aload_n 0, 1, 0, 0, 0), (151, .getfield 19, 3, 2, 9, 4), (154, .bipush 24, 2, 0, 0, 0), (156, .iload_n 1, 1, 0, 0, 0), (157, .iadd, 1, 0, 0, 0), (158, .iconst 0, 1, 0, 0, 0), (159, .iastore, 1, 0, 0, 0), (160, .iinc 1 1, 3, 0, 0, 0), (163, .goto (-19), 3, 3, 0, 0), (166, .aload_n 0, 1, 0, 0, 0), (167, .getfield 19, 3, 2, 9, 4), (170, .sipush 241, 3, 0, 0, 0), (173, .iconst 0, 1, 0, 0, 0), (174, .iastore, 1, 0, 0, 0), (175, .return_, 1, 0, 0, 0)]
def cd_X9_syncNow : List (Nat × cm_E) := [(0, .aload_n 0, 1, 0, 0, 0), (1, .ldc_w 270, 3, 0, 1000000, 0), (4, .invokevirtual 271, 3, 109, 209, 2), (7, .istore_n 1, 1, 0, 0, 0), (8, .iload_n 1, 1, 0, 0, 0), (9, .ifCond .ne 10, 3, 0, 0, 0), (12, .aload_n 0, 1, 0, 0, 0), (13, .invokevirtual 274, 3, 109, 210, 1), (16, .goto 14, 3, 0, 0, 0), (19, .aload_n 0, 1, 0, 0, 0), (20, .aload_n 0, 1, 0, 0, 0), (21, .sipush 400, 3, 0, 0, 0), (24, .invokevirtual 277, 3, 109, 187, 2), (27, .invokevirtual 280, 3, 109, 193, 2), (30, .iload_n 1, 1, 0, 0, 0), (31, .ireturn, 1, 0, 0, 0)]
def cd_X9_wouldWrite : List (Nat × cm_E) := [(0, .aload_n 0, 1, 0, 0, 0), (1, .getfield 19, 3, 2, 9, 4), (4, .sipush 244, 3, 0, 0, 0), (7, .iaload, 1, 0, 0, 0), (8, .istore_n 1, 1, 0, 0, 0), (9, .aload_n 0, 1, 0, 0, 0), (10, .getfield 19, 3, 2, 9, 4), (13, .sipush 245, 3, 0, 0, 0), (16, .iaload, 1, 0, 0, 0), (17, .istore_n 2, 1, 0, 0, 0), (18, .aload_n 0, 1, 0, 0, 0), (19, .ldc_w 270, 3, 0, 1000000, 0), (22, .invokevirtual 271, 3, 109, 209, 2), (25, .pop, 1, 0, 0, 0), (26, .aload_n 0, 1, 0, 0, 0), (27, .getfield 19, 3, 2, 9, 4), (30, .sipush 244, 3, 0, 0, 0), (33, .iload_n 1, 1, 0, 0, 0), (34, .iastore, 1, 0, 0, 0), (35, .aload_n 0, 1, 0, 0, 0), (36, .getfield 19, 3, 2, 9, 4), (39, .sipush 245, 3, 0, 0, 0), (42, .iload_n 2, 1, 0, 0, 0), (43, .iastore, 1, 0, 0, 0), (44, .aload_n 0, 1, 0, 0, 0), (45, .getfield 251, 3, 0, 9, 27), (48, .ireturn, 1, 0, 0, 0)]
def cd_X9_tearNow : List (Nat × cm_E) := [(0, .aload_n 0, 1, 0, 0, 0), (1, .iload_n 1, 1, 0, 0, 0), (2, .invokevirtual 271, 3, 109, 209, 2), (5, .pop, 1, 0, 0, 0), (6, .aload_n 0, 1, 0, 0, 0), (7, .aload_n 0, 1, 0, 0, 0), (8, .sipush 400, 3, 0, 0, 0), (11, .invokevirtual 277, 3, 109, 187, 2), (14, .invokevirtual 280, 3, 109, 193, 2), (17, .return_, 1, 0, 0, 0)]
def cd_X9_meet : List (Nat × cm_E) := [(0, .iconst 0, 1, 0, 0, 0), (1, .istore_n 2, 1, 0, 0, 0), (2, .iload_n 2, 1, 0, 0, 0), (3, .sipush 400, 3, 0, 0, 0), (6, .if_icmp .ge 16, 3, 0, 0, 0), (9, .aload_n 0, 1, 0, 0, 0), (10, .getfield 50, 3, 2, 9, 28), (13, .iload_n 2, 1, 0, 0, 0), (14, .iconst 0, 1, 0, 0, 0), (15, .bastore, 1, 0, 0, 0), (16, .iinc 2 1, 3, 0, 0, 0), (19, .goto (-17), 3, 4, 0, 0), (22, .iload_n 1, 1, 0, 0, 0), (23, .iconst (-1), 1, 0, 0, 0), (24, .if_icmp .ne 4, 3, 0, 0, 0), (27, .return_, 1, 0, 0, 0), (28, .aload_n 0, 1, 0, 0, 0), (29, .getfield 50, 3, 2, 9, 28), (32, .iload_n 1, 1, 0, 0, 0), (33, .iconst 1, 1, 0, 0, 0), (34, .bastore, 1, 0, 0, 0), (35, .iconst 0, 1, 0, 0, 0), (36, .istore_n 2, 1, 0, 0, 0), (37, .iload_n 2, 1, 0, 0, 0), (38, .bipush 13, 2, 0, 0, 0), (40, .if_icmp .ge 31, 3, 0, 0, 0), (43, .aload_n 0, 1, 0, 0, 0), (44, .iload_n 1, 1, 0, 0, 0), (45, .iload_n 2, 1, 0, 0, 0), (46, .invokevirtual 204, 3, 109, 185, 3), (49, .iconst (-1), 1, 0, 0, 0), (50, .if_icmp .eq 15, 3, 0, 0, 0), (53, .aload_n 0, 1, 0, 0, 0), (54, .getfield 50, 3, 2, 9, 28), (57, .aload_n 0, 1, 0, 0, 0), (58, .iload_n 1, 1, 0, 0, 0), (59, .iload_n 2, 1, 0, 0, 0), (60, .invokevirtual 204, 3, 109, 185, 3), (63, .iconst 1, 1, 0, 0, 0), (64, .bastore, 1, 0, 0, 0), (65, .iinc 2 1, 3, 0, 0, 0), (68, .goto (-31), 3, 4, 0, 0), (71, .iconst 0, 1, 0, 0, 0), (72, .istore_n 2, 1, 0, 0, 0), (73, .iload_n 2, 1, 0, 0, 0), (74, .bipush 12, 2, 0, 0, 0), (76, .if_icmp .ge 53, 3, 0, 0, 0), (79, .aload_n 0, 1, 0, 0, 0), (80, .iload_n 1, 1, 0, 0, 0), (81, .iload_n 2, 1, 0, 0, 0), (82, .invokevirtual 213, 3, 109, 189, 3), (85, .istore_n 3, 1, 0, 0, 0), (86, .iconst 0, 1, 0, 0, 0), (87, .istore 4, 2, 0, 0, 0), (89, .iload_n 3, 1, 0, 0, 0), (90, .iconst (-1), 1, 0, 0, 0), (91, .if_icmp .eq 32, 3, 0, 0, 0), (94, .iload 4, 2, 0, 0, 0), (96, .aload_n 0, 1, 0, 0, 0), (97, .iload_n 3, 1, 0, 0, 0), (98, .invokevirtual 207, 3, 109, 190, 2), (101, .if_icmp .ge 22, 3, 0, 0, 0), (104, .aload_n 0, 1, 0, 0, 0), (105, .getfield 50, 3, 2, 9, 28), (108, .aload_n 0, 1, 0, 0, 0), (109, .iload_n 3, 1, 0, 0, 0), (110, .iload 4, 2, 0, 0, 0), (112, .invokevirtual 204, 3, 109, 185, 3), (115, .iconst 1, 1, 0, 0, 0), (116, .bastore, 1, 0, 0, 0), (117, .iinc 4 1, 3, 0, 0, 0), (120, .goto (-31), 3, 6, 0, 0), (123, .iinc 2 1, 3, 0, 0, 0), (126, .goto (-53), 3, 4, 0, 0), (129, .return_, 1, 0, 0, 0)]
def cd_X9_goodMaps : List (Nat × cm_E) := [(0, .iconst 0, 1, 0, 0, 0), (1, .istore_n 1, 1, 0, 0, 0), (2, .iconst 0, 1, 0, 0, 0), (3, .istore_n 2, 1, 0, 0, 0), (4, .iload_n 2, 1, 0, 0, 0), (5, .aload_n 0, 1, 0, 0, 0), (6, .getfield 19, 3, 2, 9, 4), (9, .sipush 244, 3, 0, 0, 0), (12, .iaload, 1, 0, 0, 0), (13, .if_icmp .ge 25, 3, 0, 0, 0), (16, .iload_n 1, 1, 0, 0, 0), (17, .aload_n 0, 1, 0, 0, 0), (18, .iload_n 2, 1, 0, 0, 0), (19, .invokevirtual 201, 3, 109, 186, 2), (22, .ifCond .eq 7, 3, 0, 0, 0), (25, .iconst 1, 1, 0, 0, 0), (26, .goto 4, 3, 0, 0, 0), (29, .iconst 0, 1, 0, 0, 0), (30, .iadd, 1, 0, 0, 0), (31, .istore_n 1, 1, 0, 0, 0), (32, .iinc 2 1, 3, 0, 0, 0), (35, .goto (-31), 3, 4, 0, 0), (38, .iload_n 1, 1, 0, 0, 0), (39, .ireturn, 1, 0, 0, 0)]
def cd_X9_chain : List (Nat × cm_E) := [(0, .iconst 0, 1, 0, 0, 0), (1, .istore_n 1, 1, 0, 0, 0), (2, .aload_n 0, 1, 0, 0, 0), (3, .getfield 19, 3, 2, 9, 4), (6, .sipush 242, 3, 0, 0, 0), (9, .iaload, 1, 0, 0, 0), (10, .istore_n 2, 1, 0, 0, 0), (11, .iload_n 2, 1, 0, 0, 0), (12, .iconst (-1), 1, 0, 0, 0), (13, .if_icmp .eq 17, 3, 0, 0, 0), (16, .iinc 1 1, 3, 0, 0, 0), (19, .aload_n 0, 1, 0, 0, 0), (20, .iload_n 2, 1, 0, 0, 0), (21, .bipush 13, 2, 0, 0, 0), (23, .invokevirtual 204, 3, 109, 185, 3), (26, .istore_n 2, 1, 0, 0, 0), (27, .goto (-16), 3, 4, 0, 0), (30, .iload_n 1, 1, 0, 0, 0), (31, .ireturn, 1, 0, 0, 0)]
def cd_X9_dead : List (Nat × cm_E) := [(0, .iconst 0, 1, 0, 0, 0), (1, .istore_n 1, 1, 0, 0, 0), (2, .aload_n 0, 1, 0, 0, 0), (3, .aload_n 0, 1, 0, 0, 0), (4, .getfield 19, 3, 2, 9, 4), (7, .sipush 242, 3, 0, 0, 0), (10, .iaload, 1, 0, 0, 0), (11, .invokevirtual 283, 3, 109, 214, 2), (14, .iconst 0, 1, 0, 0, 0), (15, .istore_n 2, 1, 0, 0, 0), (16, .iload_n 2, 1, 0, 0, 0), (17, .aload_n 0, 1, 0, 0, 0), (18, .getfield 19, 3, 2, 9, 4), (21, .sipush 244, 3, 0, 0, 0), (24, .iaload, 1, 0, 0, 0), (25, .if_icmp .ge 41, 3, 0, 0, 0), (28, .iload_n 1, 1, 0, 0, 0), (29, .aload_n 0, 1, 0, 0, 0), (30, .getfield 25, 3, 2, 9, 6), (33, .iload_n 2, 1, 0, 0, 0), (34, .iaload, 1, 0, 0, 0), (35, .iconst 3, 1, 0, 0, 0), (36, .bipush 6, 2, 0, 0, 0), (38, .invokestatic 286, 3, 0, 164, 3), (41, .ifCond .eq 16, 3, 0, 0, 0), (44, .aload_n 0, 1, 0, 0, 0), (45, .getfield 50, 3, 2, 9, 28), (48, .iload_n 2, 1, 0, 0, 0), (49, .baload, 1, 0, 0, 0), (50, .ifCond .ne 7, 3, 0, 0, 0), (53, .iconst 1, 1, 0, 0, 0), (54, .goto 4, 3, 0, 0, 0), (57, .iconst 0, 1, 0, 0, 0), (58, .iadd, 1, 0, 0, 0), (59, .istore_n 1, 1, 0, 0, 0), (60, .iinc 2 1, 3, 0, 0, 0), (63, .goto (-47), 3, 4, 0, 0), (66, .iload_n 1, 1, 0, 0, 0), (67, .ireturn, 1, 0, 0, 0)]
def cd_X9_badMany : List (Nat × cm_E) := [(0, .iconst 0, 1, 0, 0, 0), (1, .istore_n 1, 1, 0, 0, 0), (2, .iconst 0, 1, 0, 0, 0), (3, .istore_n 2, 1, 0, 0, 0), (4, .iload_n 2, 1, 0, 0, 0), (5, .aload_n 0, 1, 0, 0, 0), (6, .getfield 19, 3, 2, 9, 4), (9, .sipush 244, 3, 0, 0, 0), (12, .iaload, 1, 0, 0, 0), (13, .if_icmp .ge 28, 3, 0, 0, 0), (16, .iload_n 1, 1, 0, 0, 0), (17, .aload_n 0, 1, 0, 0, 0), (18, .getfield 25, 3, 2, 9, 6), (21, .iload_n 2, 1, 0, 0, 0), (22, .iaload, 1, 0, 0, 0), (23, .bipush 8, 2, 0, 0, 0), (25, .if_icmp .ne 7, 3, 0, 0, 0), (28, .iconst 1, 1, 0, 0, 0), (29, .goto 4, 3, 0, 0, 0), (32, .iconst 0, 1, 0, 0, 0), (33, .iadd, 1, 0, 0, 0), (34, .istore_n 1, 1, 0, 0, 0), (35, .iinc 2 1, 3, 0, 0, 0), (38, .goto (-34), 3, 4, 0, 0), (41, .iload_n 1, 1, 0, 0, 0), (42, .ireturn, 1, 0, 0, 0)]
def cd_X9_count : List (Nat × cm_E) := [(0, .aload_n 0, 1, 0, 0, 0), (1, .iconst 0, 1, 0, 0, 0), (2, .putfield 79, 3, 0, 9, 0), (5, .iload_n 1, 1, 0, 0, 0), (6, .tableswitch 215 0 20 #[98, 98, 98, 98, 105, 114, 119, 124, 133, 138, 147, 156, 161, 166, 171, 181, 190, 195, 200, 205, 205], 98, 0, 0, 0), (104, .aload_n 0, 1, 0, 0, 0), (105, .getfield 7, 3, 2, 9, 1), (108, .iload_n 1, 1, 0, 0, 0), (109, .iaload, 1, 0, 0, 0), (110, .ireturn, 1, 0, 0, 0), (111, .aload_n 0, 1, 0, 0, 0), (112, .getfield 19, 3, 2, 9, 4), (115, .sipush 244, 3, 0, 0, 0), (118, .iaload, 1, 0, 0, 0), (119, .ireturn, 1, 0, 0, 0), (120, .aload_n 0, 1, 0, 0, 0), (121, .invokevirtual 290, 3, 109, 194, 1), (124, .ireturn, 1, 0, 0, 0), (125, .aload_n 0, 1, 0, 0, 0), (126, .invokevirtual 220, 3, 109, 195, 1), (129, .ireturn, 1, 0, 0, 0), (130, .aload_n 0, 1, 0, 0, 0), (131, .getfield 19, 3, 2, 9, 4), (134, .sipush 241, 3, 0, 0, 0), (137, .iaload, 1, 0, 0, 0), (138, .ireturn, 1, 0, 0, 0), (139, .aload_n 0, 1, 0, 0, 0), (140, .invokevirtual 293, 3, 109, 198, 1), (143, .ireturn, 1, 0, 0, 0), (144, .aload_n 0, 1, 0, 0, 0), (145, .getfield 19, 3, 2, 9, 4), (148, .sipush 242, 3, 0, 0, 0), (151, .iaload, 1, 0, 0, 0), (152, .ireturn, 1, 0, 0, 0), (153, .aload_n 0, 1, 0, 0, 0), (154, .getfield 19, 3, 2, 9, 4), (157, .sipush 243, 3, 0, 0, 0), (160, .iaload, 1, 0, 0, 0), (161, .ireturn, 1, 0, 0, 0), (162, .aload_n 0, 1, 0, 0, 0), (163, .invokevirtual 296, 3, 109, 215, 1), (166, .ireturn, 1, 0, 0, 0), (167, .aload_n 0, 1, 0, 0, 0), (168, .invokevirtual 299, 3, 109, 216, 1), (171, .ireturn, 1, 0, 0, 0), (172, .aload_n 0, 1, 0, 0, 0), (173, .invokevirtual 302, 3, 109, 217, 1), (176, .ireturn, 1, 0, 0, 0), (177, .aload_n 0, 1, 0, 0, 0), (178, .invokevirtual 296, 3, 109, 215, 1), (181, .aload_n 0, 1, 0, 0, 0), (182, .invokevirtual 299, 3, 109, 216, 1), (185, .isub, 1, 0, 0, 0), (186, .ireturn, 1, 0, 0, 0), (187, .aload_n 0, 1, 0, 0, 0), (188, .getfield 19, 3, 2, 9, 4), (191, .sipush 245, 3, 0, 0, 0), (194, .iaload, 1, 0, 0, 0), (195, .ireturn, 1, 0, 0, 0), (196, .aload_n 0, 1, 0, 0, 0), (197, .invokevirtual 305, 3, 109, 218, 1), (200, .ireturn, 1, 0, 0, 0), (201, .aload_n 0, 1, 0, 0, 0), (202, .getfield 192, 3, 0, 9, 29), (205, .ireturn, 1, 0, 0, 0), (206, .aload_n 0, 1, 0, 0, 0), (207, .getfield 85, 3, 0, 9, 9), (210, .ireturn, 1, 0, 0, 0), (211, .aload_n 0, 1, 0, 0, 0), (212, .getfield 16, 3, 2, 9, 3), (215, .iload_n 1, 1, 0, 0, 0), (216, .bipush 19, 2, 0, 0, 0), (218, .isub, 1, 0, 0, 0), (219, .iaload, 1, 0, 0, 0), (220, .ireturn, 1, 0, 0, 0), (221, .aload_n 0, 1, 0, 0, 0), (222, .iconst 1, 1, 0, 0, 0), (223, .invokevirtual 182, 3, 109, 163, 2), (226, .ireturn, 1, 0, 0, 0)]
def cd_X9_isBlock : List (Nat × cm_E) := [(0, .iload_n 1, 1, 0, 0, 0), (1, .iconst 0, 1, 0, 0, 0), (2, .aload_n 0, 1, 0, 0, 0), (3, .getfield 7, 3, 2, 9, 1), (6, .iconst 0, 1, 0, 0, 0), (7, .iaload, 1, 0, 0, 0), (8, .iconst 1, 1, 0, 0, 0), (9, .isub, 1, 0, 0, 0), (10, .invokestatic 286, 3, 0, 164, 3), (13, .ireturn, 1, 1, 0, 0)]
def cd_X9_block : List (Nat × cm_E) := [(0, .aload_n 0, 1, 0, 0, 0), (1, .iconst 0, 1, 0, 0, 0), (2, .putfield 79, 3, 0, 9, 0), (5, .aload_n 0, 1, 0, 0, 0), (6, .iload_n 1, 1, 0, 0, 0), (7, .invokevirtual 308, 3, 109, 220, 2), (10, .ifCond .eq 12, 3, 0, 0, 0), (13, .iload_n 2, 1, 0, 0, 0), (14, .iconst 0, 1, 0, 0, 0), (15, .iconst 1, 1, 0, 0, 0), (16, .invokestatic 286, 3, 0, 164, 3), (19, .ifCond .ne 9, 3, 0, 0, 0), (22, .aload_n 0, 1, 0, 0, 0), (23, .iconst 1, 1, 0, 0, 0), (24, .invokevirtual 182, 3, 109, 163, 2), (27, .ireturn, 1, 0, 0, 0), (28, .iload_n 2, 1, 0, 0, 0), (29, .ifCond .ne 9, 3, 0, 0, 0), (32, .aload_n 0, 1, 0, 0, 0), (33, .iload_n 1, 1, 0, 0, 0), (34, .invokevirtual 198, 3, 109, 184, 2), (37, .ireturn, 1, 0, 0, 0), (38, .iconst 0, 1, 0, 0, 0), (39, .istore_n 3, 1, 0, 0, 0), (40, .iconst 0, 1, 0, 0, 0), (41, .istore 4, 2, 0, 0, 0), (43, .iload 4, 2, 0, 0, 0), (45, .aload_n 0, 1, 0, 0, 0), (46, .getfield 19, 3, 2, 9, 4), (49, .sipush 244, 3, 0, 0, 0), (52, .iaload, 1, 0, 0, 0), (53, .if_icmp .ge 44, 3, 0, 0, 0), (56, .aload_n 0, 1, 0, 0, 0), (57, .iload 4, 2, 0, 0, 0), (59, .invokevirtual 201, 3, 109, 186, 2), (62, .ifCond .ne 6, 3, 0, 0, 0), (65, .goto 26, 3, 0, 0, 0), (68, .aload_n 0, 1, 0, 0, 0), (69, .iload 4, 2, 0, 0, 0), (71, .invokevirtual 283, 3, 109, 214, 2), (74, .iload_n 3, 1, 0, 0, 0), (75, .aload_n 0, 1, 0, 0, 0), (76, .getfield 50, 3, 2, 9, 28), (79, .iload_n 1, 1, 0, 0, 0), (80, .baload, 1, 0, 0, 0), (81, .ifCond .eq 7, 3, 0, 0, 0), (84, .iconst 1, 1, 0, 0, 0), (85, .goto 4, 3, 0, 0, 0), (88, .iconst 0, 1, 0, 0, 0), (89, .iadd, 1, 0, 0, 0), (90, .istore_n 3, 1, 0, 0, 0), (91, .iinc 4 1, 3, 0, 0, 0), (94, .goto (-51), 3, 6, 0, 0), (97, .iload_n 3, 1, 0, 0, 0), (98, .ireturn, 1, 0, 0, 0)]
def cd_X9_tells : List (Nat × cm_E) := [(0, .aload_n 0, 1, 0, 0, 0), (1, .iconst 0, 1, 0, 0, 0), (2, .putfield 79, 3, 0, 9, 0), (5, .aload_n 0, 1, 0, 0, 0), (6, .iload_n 1, 1, 0, 0, 0), (7, .invokevirtual 308, 3, 109, 220, 2), (10, .ifCond .ne 9, 3, 0, 0, 0), (13, .aload_n 0, 1, 0, 0, 0), (14, .iconst 1, 1, 0, 0, 0), (15, .invokevirtual 182, 3, 109, 163, 2), (18, .ireturn, 1, 0, 0, 0), (19, .aload_n 0, 1, 0, 0, 0), (20, .iload_n 1, 1, 0, 0, 0), (21, .invokevirtual 198, 3, 109, 184, 2), (24, .istore_n 3, 1, 0, 0, 0), (25, .iload_n 3, 1, 0, 0, 0), (26, .iconst 3, 1, 0, 0, 0), (27, .if_icmp .ne 7, 3, 0, 0, 0), (30, .iconst 1, 1, 0, 0, 0), (31, .goto 38, 3, 0, 0, 0), (34, .iload_n 3, 1, 0, 0, 0), (35, .iconst 4, 1, 0, 0, 0), (36, .if_icmp .ne 11, 3, 0, 0, 0), (39, .aload_n 0, 1, 0, 0, 0), (40, .iload_n 1, 1, 0, 0, 0), (41, .invokevirtual 207, 3, 109, 190, 2), (44, .goto 25, 3, 0, 0, 0), (47, .iload_n 3, 1, 0, 0, 0), (48, .iconst 5, 1, 0, 0, 0), (49, .if_icmp .ne 8, 3, 0, 0, 0), (52, .bipush 12, 2, 0, 0, 0), (54, .goto 15, 3, 0, 0, 0), (57, .iload_n 3, 1, 0, 0, 0), (58, .bipush 6, 2, 0, 0, 0), (60, .if_icmp .ne 8, 3, 0, 0, 0), (63, .bipush 15, 2, 0, 0, 0), (65, .goto 4, 3, 0, 0, 0), (68, .iconst 0, 1, 0, 0, 0), (69, .istore 4, 2, 0, 0, 0), (71, .iload_n 2, 1, 0, 0, 0), (72, .iconst 0, 1, 0, 0, 0), (73, .iload 4, 2, 0, 0, 0), (75, .iconst 1, 1, 0, 0, 0), (76, .isub, 1, 0, 0, 0), (77, .invokestatic 286, 3, 0, 164, 3), (80, .ifCond .eq 12, 3, 0, 0, 0), (83, .aload_n 0, 1, 0, 0, 0), (84, .iload_n 1, 1, 0, 0, 0), (85, .iload_n 2, 1, 0, 0, 0), (86, .invokevirtual 204, 3, 109, 185, 3), (89, .goto 8, 3, 0, 0, 0), (92, .aload_n 0, 1, 0, 0, 0), (93, .iconst 1, 1, 0, 0, 0), (94, .invokevirtual 182, 3, 109, 163, 2), (97, .ireturn, 1, 0, 0, 0)]
def cd_X9_isName : List (Nat × cm_E) := [(0, .iload_n 1, 1, 0, 0, 0), (1, .iconst 0, 1, 0, 0, 0), (2, .bipush 11, 2, 0, 0, 0), (4, .invokestatic 286, 3, 0, 164, 3), (7, .ireturn, 1, 1, 0, 0)]
def cd_X9_isFile : List (Nat × cm_E) := [(0, .aload_n 0, 1, 0, 0, 0), (1, .iload_n 1, 1, 0, 0, 0), (2, .invokevirtual 311, 3, 109, 223, 2), (5, .ifCond .eq 19, 3, 0, 0, 0), (8, .aload_n 0, 1, 0, 0, 0), (9, .getfield 19, 3, 2, 9, 4), (12, .iconst 0, 1, 0, 0, 0), (13, .iload_n 1, 1, 0, 0, 0), (14, .iadd, 1, 0, 0, 0), (15, .iaload, 1, 0, 0, 0), (16, .iconst (-1), 1, 0, 0, 0), (17, .if_icmp .eq 7, 3, 0, 0, 0), (20, .iconst 1, 1, 0, 0, 0), (21, .goto 4, 3, 0, 0, 0), (24, .iconst 0, 1, 0, 0, 0), (25, .ireturn, 1, 1, 0, 0)]
def cd_X9_file : List (Nat × cm_E) := [(0, .aload_n 0, 1, 0, 0, 0), (1, .iconst 0, 1, 0, 0, 0), (2, .putfield 79, 3, 0, 9, 0), (5, .aload_n 0, 1, 0, 0, 0), (6, .iload_n 1, 1, 0, 0, 0), (7, .invokevirtual 314, 3, 109, 224, 2), (10, .ifCond .ne 9, 3, 0, 0, 0), (13, .aload_n 0, 1, 0, 0, 0), (14, .iconst 1, 1, 0, 0, 0), (15, .invokevirtual 182, 3, 109, 163, 2), (18, .ireturn, 1, 0, 0, 0), (19, .iload_n 2, 1, 0, 0, 0), (20, .tableswitch 79 0 3 #[32, 42, 51, 69], 32, 0, 0, 0), (52, .aload_n 0, 1, 0, 0, 0), (53, .getfield 19, 3, 2, 9, 4), (56, .bipush 12, 2, 0, 0, 0), (58, .iload_n 1, 1, 0, 0, 0), (59, .iadd, 1, 0, 0, 0), (60, .iaload, 1, 0, 0, 0), (61, .ireturn, 1, 0, 0, 0), (62, .aload_n 0, 1, 0, 0, 0), (63, .getfield 19, 3, 2, 9, 4), (66, .iconst 0, 1, 0, 0, 0), (67, .iload_n 1, 1, 0, 0, 0), (68, .iadd, 1, 0, 0, 0), (69, .iaload, 1, 0, 0, 0), (70, .ireturn, 1, 0, 0, 0), (71, .aload_n 0, 1, 0, 0, 0), (72, .getfield 19, 3, 2, 9, 4), (75, .sipush 228, 3, 0, 0, 0), (78, .aload_n 0, 1, 0, 0, 0), (79, .getfield 19, 3, 2, 9, 4), (82, .iconst 0, 1, 0, 0, 0), (83, .iload_n 1, 1, 0, 0, 0), (84, .iadd, 1, 0, 0, 0), (85, .iaload, 1, 0, 0, 0), (86, .iadd, 1, 0, 0, 0), (87, .iaload, 1, 0, 0, 0), (88, .ireturn, 1, 0, 0, 0), (89, .aload_n 0, 1, 0, 0, 0), (90, .getfield 19, 3, 2, 9, 4), (93, .bipush 24, 2, 0, 0, 0), (95, .iload_n 1, 1, 0, 0, 0), (96, .iadd, 1, 0, 0, 0), (97, .iaload, 1, 0, 0, 0), (98, .ireturn, 1, 0, 0, 0), (99, .aload_n 0, 1, 0, 0, 0), (100, .iconst 1, 1, 0, 0, 0), (101, .invokevirtual 182, 3, 109, 163, 2), (104, .ireturn, 1, 0, 0, 0)]
def cd_X9_read : List (Nat × cm_E) := [(0, .aload_n 0, 1, 0, 0, 0), (1, .iconst 0, 1, 0, 0, 0), (2, .putfield 79, 3, 0, 9, 0), (5, .aload_n 0, 1, 0, 0, 0), (6, .iload_n 1, 1, 0, 0, 0), (7, .invokevirtual 314, 3, 109, 224, 2), (10, .ifCond .eq 40, 3, 0, 0, 0), (13, .iload_n 2, 1, 0, 0, 0), (14, .iconst 0, 1, 0, 0, 0), (15, .aload_n 0, 1, 0, 0, 0), (16, .getfield 19, 3, 2, 9, 4), (19, .bipush 12, 2, 0, 0, 0), (21, .iload_n 1, 1, 0, 0, 0), (22, .iadd, 1, 0, 0, 0), (23, .iaload, 1, 0, 0, 0), (24, .iconst 1, 1, 0, 0, 0), (25, .isub, 1, 0, 0, 0), (26, .invokestatic 286, 3, 0, 164, 3), (29, .ifCond .eq 21, 3, 0, 0, 0), (32, .aload_n 0, 1, 0, 0, 0), (33, .getfield 19, 3, 2, 9, 4), (36, .sipush 132, 3, 0, 0, 0), (39, .bipush 8, 2, 0, 0, 0), (41, .iload_n 1, 1, 0, 0, 0), (42, .imul, 1, 0, 0, 0), (43, .iadd, 1, 0, 0, 0), (44, .iload_n 2, 1, 0, 0, 0), (45, .iadd, 1, 0, 0, 0), (46, .iaload, 1, 0, 0, 0), (47, .goto 8, 3, 0, 0, 0), (50, .aload_n 0, 1, 0, 0, 0), (51, .iconst 1, 1, 0, 0, 0), (52, .invokevirtual 182, 3, 109, 163, 2), (55, .ireturn, 1, 0, 0, 0)]
def cd_X9_whereOf : List (Nat × cm_E) := [(0, .iload_n 2, 1, 0, 0, 0), (1, .ifCond .ge 7, 3, 0, 0, 0), (4, .iconst (-1), 1, 0, 0, 0), (5, .goto 17, 3, 0, 0, 0), (8, .aload_n 0, 1, 0, 0, 0), (9, .getfield 19, 3, 2, 9, 4), (12, .bipush 36, 2, 0, 0, 0), (14, .bipush 8, 2, 0, 0, 0), (16, .iload_n 1, 1, 0, 0, 0), (17, .imul, 1, 0, 0, 0), (18, .iadd, 1, 0, 0, 0), (19, .iload_n 2, 1, 0, 0, 0), (20, .iadd, 1, 0, 0, 0), (21, .iaload, 1, 0, 0, 0), (22, .ireturn, 1, 0, 0, 0)]
def cd_X9_lie : List (Nat × cm_E) := [(0, .aload_n 0, 1, 0, 0, 0), (1, .iconst 0, 1, 0, 0, 0), (2, .putfield 79, 3, 0, 9, 0), (5, .aload_n 0, 1, 0, 0, 0), (6, .iload_n 1, 1, 0, 0, 0), (7, .invokevirtual 314, 3, 109, 224, 2), (10, .ifCond .eq 12, 3, 0, 0, 0), (13, .iload_n 2, 1, 0, 0, 0), (14, .iconst 0, 1, 0, 0, 0), (15, .iconst 1, 1, 0, 0, 0), (16, .invokestatic 286, 3, 0, 164, 3), (19, .ifCond .ne 9, 3, 0, 0, 0), (22, .aload_n 0, 1, 0, 0, 0), (23, .iconst 1, 1, 0, 0, 0), (24, .invokevirtual 182, 3, 109, 163, 2), (27, .ireturn, 1, 0, 0, 0), (28, .iconst 0, 1, 0, 0, 0), (29, .istore_n 3, 1, 0, 0, 0), (30, .iconst 0, 1, 0, 0, 0), (31, .istore 4, 2, 0, 0, 0), (33, .iconst 0, 1, 0, 0, 0), (34, .istore 5, 2, 0, 0, 0), (36, .iload 5, 2, 0, 0, 0), (38, .aload_n 0, 1, 0, 0, 0), (39, .getfield 19, 3, 2, 9, 4), (42, .bipush 12, 2, 0, 0, 0), (44, .iload_n 1, 1, 0, 0, 0), (45, .iadd, 1, 0, 0, 0), (46, .iaload, 1, 0, 0, 0), (47, .if_icmp .ge 85, 3, 0, 0, 0), (50, .aload_n 0, 1, 0, 0, 0), (51, .iload_n 1, 1, 0, 0, 0), (52, .iload 5, 2, 0, 0, 0), (54, .invokevirtual 317, 3, 109, 227, 3), (57, .istore 6, 2, 0, 0, 0), (59, .aload_n 0, 1, 0, 0, 0), (60, .iload_n 1, 1, 0, 0, 0), (61, .iload 5, 2, 0, 0, 0), (63, .iconst 1, 1, 0, 0, 0), (64, .isub, 1, 0, 0, 0), (65, .invokevirtual 317, 3, 109, 227, 3), (68, .istore 7, 2, 0, 0, 0), (70, .iload_n 3, 1, 0, 0, 0), (71, .iload 6, 2, 0, 0, 0), (73, .iconst (-1), 1, 0, 0, 0), (74, .if_icmp .eq 22, 3, 0, 0, 0), (77, .iload 7, 2, 0, 0, 0), (79, .iconst (-1), 1, 0, 0, 0), (80, .if_icmp .eq 12, 3, 0, 0, 0), (83, .iload 6, 2, 0, 0, 0), (85, .iload 7, 2, 0, 0, 0), (87, .iconst 1, 1, 0, 0, 0), (88, .iadd, 1, 0, 0, 0), (89, .if_icmp .eq 7, 3, 0, 0, 0), (92, .iconst 1, 1, 0, 0, 0), (93, .goto 4, 3, 0, 0, 0), (96, .iconst 0, 1, 0, 0, 0), (97, .iadd, 1, 0, 0, 0), (98, .istore_n 3, 1, 0, 0, 0), (99, .iload 6, 2, 0, 0, 0), (101, .iconst (-1), 1, 0, 0, 0), (102, .if_icmp .eq 24, 3, 0, 0, 0), (105, .iload 7, 2, 0, 0, 0), (107, .iconst (-1), 1, 0, 0, 0), (108, .if_icmp .eq 18, 3, 0, 0, 0), (111, .iload 4, 2, 0, 0, 0), (113, .iload 6, 2, 0, 0, 0), (115, .iload 7, 2, 0, 0, 0), (117, .isub, 1, 0, 0, 0), (118, .invokestatic 320, 3, 4, 0, 0), (121, .invokestatic 323, 3, 3, 0, 0), (124, .istore 4, 2, 0, 0, 0), (126, .iinc 5 1, 3, 0, 0, 0), (129, .goto (-93), 3, 7, 0, 0), (132, .iload_n 2, 1, 0, 0, 0), (133, .ifCond .ne 7, 3, 0, 0, 0), (136, .iload_n 3, 1, 0, 0, 0), (137, .goto 5, 3, 0, 0, 0), (140, .iload 4, 2, 0, 0, 0), (142, .ireturn, 1, 0, 0, 0)]
def cd_X9_mapBack : List (Nat × cm_E) := [(0, .iload_n 1, 1, 0, 0, 0), (1, .ifCond .ge 7, 3, 0, 0, 0), (4, .iconst (-1), 1, 0, 0, 0), (5, .goto 22, 3, 0, 0, 0), (8, .aload_n 0, 1, 0, 0, 0), (9, .aload_n 0, 1, 0, 0, 0), (10, .getfield 19, 3, 2, 9, 4), (13, .sipush 242, 3, 0, 0, 0), (16, .iaload, 1, 0, 0, 0), (17, .iload_n 1, 1, 0, 0, 0), (18, .sipush 400, 3, 0, 0, 0), (21, .invokestatic 115, 3, 2, 0, 0), (24, .invokevirtual 326, 3, 109, 188, 3), (27, .ireturn, 1, 0, 0, 0)]
def cd_X9_past : List (Nat × cm_E) := [(0, .aload_n 0, 1, 0, 0, 0), (1, .iconst 0, 1, 0, 0, 0), (2, .putfield 79, 3, 0, 9, 0), (5, .aload_n 0, 1, 0, 0, 0), (6, .iload_n 1, 1, 0, 0, 0), (7, .invokevirtual 329, 3, 109, 229, 2), (10, .istore 4, 2, 0, 0, 0), (12, .iload 4, 2, 0, 0, 0), (14, .iconst (-1), 1, 0, 0, 0), (15, .if_icmp .eq 21, 3, 0, 0, 0), (18, .aload_n 0, 1, 0, 0, 0), (19, .iload_n 2, 1, 0, 0, 0), (20, .invokevirtual 311, 3, 109, 223, 2), (23, .ifCond .eq 13, 3, 0, 0, 0), (26, .iload_n 3, 1, 0, 0, 0), (27, .iconst (-1), 1, 0, 0, 0), (28, .bipush 7, 2, 0, 0, 0), (30, .invokestatic 286, 3, 0, 164, 3), (33, .ifCond .ne 9, 3, 0, 0, 0), (36, .aload_n 0, 1, 0, 0, 0), (37, .iconst 1, 1, 0, 0, 0), (38, .invokevirtual 182, 3, 109, 163, 2), (41, .ireturn, 1, 0, 0, 0), (42, .aload_n 0, 1, 0, 0, 0), (43, .iload 4, 2, 0, 0, 0), (45, .iload_n 2, 1, 0, 0, 0), (46, .invokevirtual 213, 3, 109, 189, 3), (49, .istore 5, 2, 0, 0, 0), (51, .iload 5, 2, 0, 0, 0), (53, .iconst (-1), 1, 0, 0, 0), (54, .if_icmp .ne 5, 3, 0, 0, 0), (57, .iconst (-1), 1, 0, 0, 0), (58, .ireturn, 1, 0, 0, 0), (59, .iload_n 3, 1, 0, 0, 0), (60, .iconst (-1), 1, 0, 0, 0), (61, .if_icmp .ne 12, 3, 0, 0, 0), (64, .aload_n 0, 1, 0, 0, 0), (65, .iload 5, 2, 0, 0, 0), (67, .invokevirtual 207, 3, 109, 190, 2), (70, .goto 24, 3, 0, 0, 0), (73, .iload_n 3, 1, 0, 0, 0), (74, .aload_n 0, 1, 0, 0, 0), (75, .iload 5, 2, 0, 0, 0), (77, .invokevirtual 207, 3, 109, 190, 2), (80, .if_icmp .ge 13, 3, 0, 0, 0), (83, .aload_n 0, 1, 0, 0, 0), (84, .iload 5, 2, 0, 0, 0), (86, .iload_n 3, 1, 0, 0, 0), (87, .invokevirtual 210, 3, 109, 191, 3), (90, .goto 4, 3, 0, 0, 0), (93, .iconst (-1), 1, 0, 0, 0), (94, .ireturn, 1, 0, 0, 0)]
def cd_X9_areAlike : List (Nat × cm_E) := [(0, .aload_n 0, 1, 0, 0, 0), (1, .iload_n 1, 1, 0, 0, 0), (2, .invokevirtual 207, 3, 109, 190, 2), (5, .aload_n 0, 1, 0, 0, 0), (6, .iload_n 2, 1, 0, 0, 0), (7, .invokevirtual 207, 3, 109, 190, 2), (10, .if_icmp .eq 5, 3, 0, 0, 0), (13, .iconst 0, 1, 0, 0, 0), (14, .ireturn, 1, 1, 0, 0), (15, .iconst 0, 1, 0, 0, 0), (16, .istore_n 3, 1, 0, 0, 0), (17, .iload_n 3, 1, 0, 0, 0), (18, .aload_n 0, 1, 0, 0, 0), (19, .iload_n 1, 1, 0, 0, 0), (20, .invokevirtual 207, 3, 109, 190, 2), (23, .if_icmp .ge 26, 3, 0, 0, 0), (26, .aload_n 0, 1, 0, 0, 0), (27, .iload_n 1, 1, 0, 0, 0), (28, .iload_n 3, 1, 0, 0, 0), (29, .invokevirtual 210, 3, 109, 191, 3), (32, .aload_n 0, 1, 0, 0, 0), (33, .iload_n 2, 1, 0, 0, 0), (34, .iload_n 3, 1, 0, 0, 0), (35, .invokevirtual 210, 3, 109, 191, 3), (38, .if_icmp .eq 5, 3, 0, 0, 0), (41, .iconst 0, 1, 0, 0, 0), (42, .ireturn, 1, 1, 0, 0), (43, .iinc 3 1, 3, 0, 0, 0), (46, .goto (-29), 3, 5, 0, 0), (49, .iconst 1, 1, 0, 0, 0), (50, .ireturn, 1, 1, 0, 0)]
def cd_X9_versions : List (Nat × cm_E) := [(0, .aload_n 0, 1, 0, 0, 0), (1, .iconst 0, 1, 0, 0, 0), (2, .putfield 79, 3, 0, 9, 0), (5, .aload_n 0, 1, 0, 0, 0), (6, .iload_n 1, 1, 0, 0, 0), (7, .invokevirtual 311, 3, 109, 223, 2), (10, .ifCond .ne 9, 3, 0, 0, 0), (13, .aload_n 0, 1, 0, 0, 0), (14, .iconst 1, 1, 0, 0, 0), (15, .invokevirtual 182, 3, 109, 163, 2), (18, .ireturn, 1, 0, 0, 0), (19, .iconst 0, 1, 0, 0, 0), (20, .istore_n 2, 1, 0, 0, 0), (21, .aload_n 0, 1, 0, 0, 0), (22, .getfield 19, 3, 2, 9, 4), (25, .sipush 242, 3, 0, 0, 0), (28, .iaload, 1, 0, 0, 0), (29, .istore_n 3, 1, 0, 0, 0), (30, .iload_n 3, 1, 0, 0, 0), (31, .iconst (-1), 1, 0, 0, 0), (32, .if_icmp .eq 115, 3, 0, 0, 0), (35, .aload_n 0, 1, 0, 0, 0), (36, .iload_n 3, 1, 0, 0, 0), (37, .iload_n 1, 1, 0, 0, 0), (38, .invokevirtual 213, 3, 109, 189, 3), (41, .istore 4, 2, 0, 0, 0), (43, .iload 4, 2, 0, 0, 0), (45, .iconst (-1), 1, 0, 0, 0), (46, .if_icmp .eq 7, 3, 0, 0, 0), (49, .iconst 1, 1, 0, 0, 0), (50, .goto 4, 3, 0, 0, 0), (53, .iconst 0, 1, 0, 0, 0), (54, .istore 5, 2, 0, 0, 0), (56, .aload_n 0, 1, 0, 0, 0), (57, .iload_n 3, 1, 0, 0, 0), (58, .bipush 13, 2, 0, 0, 0), (60, .invokevirtual 204, 3, 109, 185, 3), (63, .istore 6, 2, 0, 0, 0), (65, .iload 5, 2, 0, 0, 0), (67, .ifCond .eq 56, 3, 0, 0, 0), (70, .iload 6, 2, 0, 0, 0), (72, .iconst (-1), 1, 0, 0, 0), (73, .if_icmp .eq 50, 3, 0, 0, 0), (76, .aload_n 0, 1, 0, 0, 0), (77, .iload 6, 2, 0, 0, 0), (79, .iload_n 1, 1, 0, 0, 0), (80, .invokevirtual 213, 3, 109, 189, 3), (83, .iconst (-1), 1, 0, 0, 0), (84, .if_icmp .eq 19, 3, 0, 0, 0), (87, .aload_n 0, 1, 0, 0, 0), (88, .iload 4, 2, 0, 0, 0), (90, .aload_n 0, 1, 0, 0, 0), (91, .iload 6, 2, 0, 0, 0), (93, .iload_n 1, 1, 0, 0, 0), (94, .invokevirtual 213, 3, 109, 189, 3), (97, .invokevirtual 332, 3, 109, 231, 3), (100, .ifCond .ne 7, 3, 0, 0, 0), (103, .iconst 1, 1, 0, 0, 0), (104, .goto 4, 3, 0, 0, 0), (107, .iconst 0, 1, 0, 0, 0), (108, .istore 5, 2, 0, 0, 0), (110, .aload_n 0, 1, 0, 0, 0), (111, .iload 6, 2, 0, 0, 0), (113, .bipush 13, 2, 0, 0, 0), (115, .invokevirtual 204, 3, 109, 185, 3), (118, .istore 6, 2, 0, 0, 0), (120, .goto (-55), 3, 8, 0, 0), (123, .iload_n 2, 1, 0, 0, 0), (124, .iload 5, 2, 0, 0, 0), (126, .ifCond .eq 7, 3, 0, 0, 0), (129, .iconst 1, 1, 0, 0, 0), (130, .goto 4, 3, 0, 0, 0), (133, .iconst 0, 1, 0, 0, 0), (134, .iadd, 1, 0, 0, 0), (135, .istore_n 2, 1, 0, 0, 0), (136, .aload_n 0, 1, 0, 0, 0), (137, .iload_n 3, 1, 0, 0, 0), (138, .bipush 13, 2, 0, 0, 0), (140, .invokevirtual 204, 3, 109, 185, 3), (143, .istore_n 3, 1, 0, 0, 0), (144, .goto (-114), 3, 5, 0, 0), (147, .iload_n 2, 1, 0, 0, 0), (148, .ireturn, 1, 0, 0, 0)]
def cd_X9_since : List (Nat × cm_E) := [(0, .aload_n 0, 1, 0, 0, 0), (1, .iconst 0, 1, 0, 0, 0), (2, .putfield 79, 3, 0, 9, 0), (5, .aload_n 0, 1, 0, 0, 0), (6, .iload_n 1, 1, 0, 0, 0), (7, .invokevirtual 311, 3, 109, 223, 2), (10, .ifCond .eq 13, 3, 0, 0, 0), (13, .iload_n 2, 1, 0, 0, 0), (14, .iconst 0, 1, 0, 0, 0), (15, .bipush 7, 2, 0, 0, 0), (17, .invokestatic 286, 3, 0, 164, 3), (20, .ifCond .ne 9, 3, 0, 0, 0), (23, .aload_n 0, 1, 0, 0, 0), (24, .iconst 1, 1, 0, 0, 0), (25, .invokevirtual 182, 3, 109, 163, 2), (28, .ireturn, 1, 0, 0, 0), (29, .iconst 0, 1, 0, 0, 0), (30, .istore 4, 2, 0, 0, 0), (32, .aload_n 0, 1, 0, 0, 0), (33, .getfield 19, 3, 2, 9, 4), (36, .sipush 242, 3, 0, 0, 0), (39, .iaload, 1, 0, 0, 0), (40, .istore 5, 2, 0, 0, 0), (42, .iload 5, 2, 0, 0, 0), (44, .iconst (-1), 1, 0, 0, 0), (45, .if_icmp .eq 58, 3, 0, 0, 0), (48, .aload_n 0, 1, 0, 0, 0), (49, .iload 5, 2, 0, 0, 0), (51, .iload_n 1, 1, 0, 0, 0), (52, .invokevirtual 213, 3, 109, 189, 3), (55, .istore 6, 2, 0, 0, 0), (57, .iload 6, 2, 0, 0, 0), (59, .iconst (-1), 1, 0, 0, 0), (60, .if_icmp .eq 27, 3, 0, 0, 0), (63, .iload_n 2, 1, 0, 0, 0), (64, .aload_n 0, 1, 0, 0, 0), (65, .iload 6, 2, 0, 0, 0), (67, .invokevirtual 207, 3, 109, 190, 2), (70, .if_icmp .ge 17, 3, 0, 0, 0), (73, .aload_n 0, 1, 0, 0, 0), (74, .iload 6, 2, 0, 0, 0), (76, .iload_n 2, 1, 0, 0, 0), (77, .invokevirtual 210, 3, 109, 191, 3), (80, .iload_n 3, 1, 0, 0, 0), (81, .if_icmp .ne 6, 3, 0, 0, 0), (84, .iload 4, 2, 0, 0, 0), (86, .ireturn, 1, 0, 0, 0), (87, .iinc 4 1, 3, 0, 0, 0), (90, .aload_n 0, 1, 0, 0, 0), (91, .iload 5, 2, 0, 0, 0), (93, .bipush 13, 2, 0, 0, 0), (95, .invokevirtual 204, 3, 109, 185, 3), (98, .istore 5, 2, 0, 0, 0), (100, .goto (-58), 3, 7, 0, 0), (103, .iconst (-1), 1, 0, 0, 0), (104, .ireturn, 1, 0, 0, 0)]
def cd_X9_isAsInMind : List (Nat × cm_E) := [(0, .iload_n 1, 1, 0, 0, 0), (1, .iconst (-1), 1, 0, 0, 0), (2, .if_icmp .eq 15, 3, 0, 0, 0), (5, .aload_n 0, 1, 0, 0, 0), (6, .getfield 19, 3, 2, 9, 4), (9, .iconst 0, 1, 0, 0, 0), (10, .iload_n 2, 1, 0, 0, 0), (11, .iadd, 1, 0, 0, 0), (12, .iaload, 1, 0, 0, 0), (13, .iconst (-1), 1, 0, 0, 0), (14, .if_icmp .ne 26, 3, 0, 0, 0), (17, .iload_n 1, 1, 0, 0, 0), (18, .iconst (-1), 1, 0, 0, 0), (19, .if_icmp .ne 19, 3, 0, 0, 0), (22, .aload_n 0, 1, 0, 0, 0), (23, .getfield 19, 3, 2, 9, 4), (26, .iconst 0, 1, 0, 0, 0), (27, .iload_n 2, 1, 0, 0, 0), (28, .iadd, 1, 0, 0, 0), (29, .iaload, 1, 0, 0, 0), (30, .iconst (-1), 1, 0, 0, 0), (31, .if_icmp .ne 7, 3, 0, 0, 0), (34, .iconst 1, 1, 0, 0, 0), (35, .goto 4, 3, 0, 0, 0), (38, .iconst 0, 1, 0, 0, 0), (39, .ireturn, 1, 1, 0, 0), (40, .aload_n 0, 1, 0, 0, 0), (41, .iload_n 1, 1, 0, 0, 0), (42, .invokevirtual 207, 3, 109, 190, 2), (45, .aload_n 0, 1, 0, 0, 0), (46, .getfield 19, 3, 2, 9, 4), (49, .bipush 12, 2, 0, 0, 0), (51, .iload_n 2, 1, 0, 0, 0), (52, .iadd, 1, 0, 0, 0), (53, .iaload, 1, 0, 0, 0), (54, .if_icmp .ne 7, 3, 0, 0, 0), (57, .iconst 1, 1, 0, 0, 0), (58, .goto 4, 3, 0, 0, 0), (61, .iconst 0, 1, 0, 0, 0), (62, .istore_n 3, 1, 0, 0, 0), (63, .iconst 0, 1, 0, 0, 0), (64, .istore 4, 2, 0, 0, 0), (66, .iload_n 3, 1, 0, 0, 0), (67, .ifCond .eq 55, 3, 0, 0, 0), (70, .iload 4, 2, 0, 0, 0), (72, .aload_n 0, 1, 0, 0, 0), (73, .getfield 19, 3, 2, 9, 4), (76, .bipush 12, 2, 0, 0, 0), (78, .iload_n 2, 1, 0, 0, 0), (79, .iadd, 1, 0, 0, 0), (80, .iaload, 1, 0, 0, 0), (81, .if_icmp .ge 41, 3, 0, 0, 0), (84, .aload_n 0, 1, 0, 0, 0), (85, .iload_n 1, 1, 0, 0, 0), (86, .iload 4, 2, 0, 0, 0), (88, .invokevirtual 210, 3, 109, 191, 3), (91, .aload_n 0, 1, 0, 0, 0), (92, .getfield 19, 3, 2, 9, 4), (95, .sipush 132, 3, 0, 0, 0), (98, .bipush 8, 2, 0, 0, 0), (100, .iload_n 2, 1, 0, 0, 0), (101, .imul, 1, 0, 0, 0), (102, .iadd, 1, 0, 0, 0), (103, .iload 4, 2, 0, 0, 0), (105, .iadd, 1, 0, 0, 0), (106, .iaload, 1, 0, 0, 0), (107, .if_icmp .ne 7, 3, 0, 0, 0), (110, .iconst 1, 1, 0, 0, 0), (111, .goto 4, 3, 0, 0, 0), (114, .iconst 0, 1, 0, 0, 0), (115, .istore_n 3, 1, 0, 0, 0), (116, .iinc 4 1, 3, 0, 0, 0), (119, .goto (-53), 3, 6, 0, 0), (122, .iload_n 3, 1, 0, 0, 0), (123, .ireturn, 1, 1, 0, 0)]
def cd_X9_alike : List (Nat × cm_E) := [(0, .aload_n 0, 1, 0, 0, 0), (1, .iconst 0, 1, 0, 0, 0), (2, .putfield 79, 3, 0, 9, 0), (5, .aload_n 0, 1, 0, 0, 0), (6, .iload_n 1, 1, 0, 0, 0), (7, .invokevirtual 329, 3, 109, 229, 2), (10, .istore_n 2, 1, 0, 0, 0), (11, .iload_n 2, 1, 0, 0, 0), (12, .iconst (-1), 1, 0, 0, 0), (13, .if_icmp .ne 9, 3, 0, 0, 0), (16, .aload_n 0, 1, 0, 0, 0), (17, .iconst 1, 1, 0, 0, 0), (18, .invokevirtual 182, 3, 109, 163, 2), (21, .ireturn, 1, 0, 0, 0), (22, .iconst 0, 1, 0, 0, 0), (23, .istore_n 3, 1, 0, 0, 0), (24, .iconst 0, 1, 0, 0, 0), (25, .istore 4, 2, 0, 0, 0), (27, .iload 4, 2, 0, 0, 0), (29, .bipush 12, 2, 0, 0, 0), (31, .if_icmp .ge 36, 3, 0, 0, 0), (34, .iload_n 3, 1, 0, 0, 0), (35, .aload_n 0, 1, 0, 0, 0), (36, .aload_n 0, 1, 0, 0, 0), (37, .iload_n 2, 1, 0, 0, 0), (38, .iload 4, 2, 0, 0, 0), (40, .invokevirtual 213, 3, 109, 189, 3), (43, .iload 4, 2, 0, 0, 0), (45, .invokevirtual 335, 3, 109, 234, 3), (48, .ifCond .eq 10, 3, 0, 0, 0), (51, .iconst 1, 1, 0, 0, 0), (52, .iload 4, 2, 0, 0, 0), (54, .ishl, 1, 0, 0, 0), (55, .goto 4, 3, 0, 0, 0), (58, .iconst 0, 1, 0, 0, 0), (59, .ior, 1, 0, 0, 0), (60, .istore_n 3, 1, 0, 0, 0), (61, .iinc 4 1, 3, 0, 0, 0), (64, .goto (-37), 3, 6, 0, 0), (67, .iload_n 3, 1, 0, 0, 0), (68, .ireturn, 1, 0, 0, 0)]
def cd_X9_refuse : List (Nat × cm_E) := [(0, .aload_n 0, 1, 0, 0, 0), (1, .getfield 16, 3, 2, 9, 3), (4, .iconst 1, 1, 0, 0, 0), (5, .dup2, 1, 0, 0, 0), (6, .iaload, 1, 0, 0, 0), (7, .iconst 1, 1, 0, 0, 0), (8, .iadd, 1, 0, 0, 0), (9, .iastore, 1, 0, 0, 0), (10, .iconst (-1), 1, 0, 0, 0), (11, .ireturn, 1, 0, 0, 0)]
def cd_X9_copyTo : List (Nat × cm_E) := [(0, .iconst 0, 1, 0, 0, 0), (1, .istore_n 2, 1, 0, 0, 0), (2, .iload_n 2, 1, 0, 0, 0), (3, .aload_n 0, 1, 0, 0, 0), (4, .arraylength, 1, 0, 0, 0), (5, .if_icmp .ge 15, 3, 0, 0, 0), (8, .aload_n 0, 1, 0, 0, 0), (9, .iload_n 2, 1, 0, 0, 0), (10, .aload_n 1, 1, 0, 0, 0), (11, .iload_n 2, 1, 0, 0, 0), (12, .iaload, 1, 0, 0, 0), (13, .iastore, 1, 0, 0, 0), (14, .iinc 2 1, 3, 0, 0, 0), (17, .goto (-15), 3, 4, 0, 0), (20, .return_, 1, 0, 0, 0)]
def cd_X9_keep : List (Nat × cm_E) := [(0, .aload_n 0, 1, 0, 0, 0), (1, .getfield 192, 3, 0, 9, 29), (4, .bipush 40, 2, 0, 0, 0), (6, .if_icmp .ne 48, 3, 0, 0, 0), (9, .sipush 246, 3, 0, 0, 0), (12, .istore_n 1, 1, 0, 0, 0), (13, .iload_n 1, 1, 0, 0, 0), (14, .aload_n 0, 1, 0, 0, 0), (15, .getfield 54, 3, 2, 9, 30), (18, .arraylength, 1, 0, 0, 0), (19, .if_icmp .ge 25, 3, 0, 0, 0), (22, .aload_n 0, 1, 0, 0, 0), (23, .getfield 54, 3, 2, 9, 30), (26, .iload_n 1, 1, 0, 0, 0), (27, .sipush 246, 3, 0, 0, 0), (30, .isub, 1, 0, 0, 0), (31, .aload_n 0, 1, 0, 0, 0), (32, .getfield 54, 3, 2, 9, 30), (35, .iload_n 1, 1, 0, 0, 0), (36, .iaload, 1, 0, 0, 0), (37, .iastore, 1, 0, 0, 0), (38, .iinc 1 1, 3, 0, 0, 0), (41, .goto (-28), 3, 3, 0, 0), (44, .aload_n 0, 1, 0, 0, 0), (45, .dup, 1, 0, 0, 0), (46, .getfield 192, 3, 0, 9, 29), (49, .iconst 1, 1, 0, 0, 0), (50, .isub, 1, 0, 0, 0), (51, .putfield 192, 3, 0, 9, 29), (54, .iconst 0, 1, 0, 0, 0), (55, .istore_n 1, 1, 0, 0, 0), (56, .iload_n 1, 1, 0, 0, 0), (57, .sipush 246, 3, 0, 0, 0), (60, .if_icmp .ge 30, 3, 0, 0, 0), (63, .aload_n 0, 1, 0, 0, 0), (64, .getfield 54, 3, 2, 9, 30), (67, .sipush 246, 3, 0, 0, 0), (70, .aload_n 0, 1, 0, 0, 0), (71, .getfield 192, 3, 0, 9, 29), (74, .imul, 1, 0, 0, 0), (75, .iload_n 1, 1, 0, 0, 0), (76, .iadd, 1, 0, 0, 0), (77, .aload_n 0, 1, 0, 0, 0), (78, .getfield 19, 3, 2, 9, 4), (81, .iload_n 1, 1, 0, 0, 0), (82, .iaload, 1, 0, 0, 0), (83, .iastore, 1, 0, 0, 0), (84, .iinc 1 1, 3, 0, 0, 0), (87, .goto (-31), 3, 3, 0, 0), (90, .aload_n 0, 1, 0, 0, 0), (91, .dup, 1, 0, 0, 0), (92, .getfield 192, 3, 0, 9, 29), (95, .iconst 1, 1, 0, 0, 0), (96, .iadd, 1, 0, 0, 0), (97, .putfield 192, 3, 0, 9, 29), (100, .return_, 1, 0, 0, 0)]
def cd_X9_freeVirtual : List (Nat × cm_E) := [(0, .iconst 1, 1, 0, 0, 0), (1, .istore_n 1, 1, 0, 0, 0), (2, .aload_n 0, 1, 0, 0, 0), (3, .iload_n 1, 1, 0, 0, 0), (4, .invokevirtual 229, 3, 109, 200, 2), (7, .iconst (-1), 1, 0, 0, 0), (8, .if_icmp .eq 9, 3, 0, 0, 0), (11, .iinc 1 1, 3, 0, 0, 0), (14, .goto (-12), 3, 3, 0, 0), (17, .iload_n 1, 1, 0, 0, 0), (18, .ireturn, 1, 0, 0, 0)]
def cd_X9_canSet : List (Nat × cm_E) := [(0, .aload_n 0, 1, 0, 0, 0), (1, .iload_n 1, 1, 0, 0, 0), (2, .invokevirtual 311, 3, 109, 223, 2), (5, .ifCond .eq 24, 3, 0, 0, 0), (8, .iload_n 2, 1, 0, 0, 0), (9, .iconst 0, 1, 0, 0, 0), (10, .bipush 7, 2, 0, 0, 0), (12, .invokestatic 286, 3, 0, 164, 3), (15, .ifCond .eq 14, 3, 0, 0, 0), (18, .iload_n 3, 1, 0, 0, 0), (19, .iconst 0, 1, 0, 0, 0), (20, .sipush 999, 3, 0, 0, 0), (23, .invokestatic 286, 3, 0, 164, 3), (26, .ifCond .ne 5, 3, 0, 0, 0), (29, .iconst 0, 1, 0, 0, 0), (30, .ireturn, 1, 1, 0, 0), (31, .aload_n 0, 1, 0, 0, 0), (32, .getfield 19, 3, 2, 9, 4), (35, .iconst 0, 1, 0, 0, 0), (36, .iload_n 1, 1, 0, 0, 0), (37, .iadd, 1, 0, 0, 0), (38, .iaload, 1, 0, 0, 0), (39, .iconst (-1), 1, 0, 0, 0), (40, .if_icmp .ne 15, 3, 0, 0, 0), (43, .iload_n 2, 1, 0, 0, 0), (44, .ifCond .ne 7, 3, 0, 0, 0), (47, .iconst 1, 1, 0, 0, 0), (48, .goto 25, 3, 0, 0, 0), (51, .iconst 0, 1, 0, 0, 0), (52, .goto 21, 3, 0, 0, 0), (55, .iload_n 2, 1, 0, 0, 0), (56, .aload_n 0, 1, 0, 0, 0), (57, .getfield 19, 3, 2, 9, 4), (60, .bipush 12, 2, 0, 0, 0), (62, .iload_n 1, 1, 0, 0, 0), (63, .iadd, 1, 0, 0, 0), (64, .iaload, 1, 0, 0, 0), (65, .if_icmp .gt 7, 3, 0, 0, 0), (68, .iconst 1, 1, 0, 0, 0), (69, .goto 4, 3, 0, 0, 0), (72, .iconst 0, 1, 0, 0, 0), (73, .ireturn, 1, 1, 0, 0)]
def cd_X9_beginFile : List (Nat × cm_E) := [(0, .aload_n 0, 1, 0, 0, 0), (1, .invokevirtual 338, 3, 109, 239, 1), (4, .istore_n 2, 1, 0, 0, 0), (5, .aload_n 0, 1, 0, 0, 0), (6, .getfield 19, 3, 2, 9, 4), (9, .iconst 0, 1, 0, 0, 0), (10, .iload_n 1, 1, 0, 0, 0), (11, .iadd, 1, 0, 0, 0), (12, .iload_n 2, 1, 0, 0, 0), (13, .iastore, 1, 0, 0, 0), (14, .aload_n 0, 1, 0, 0, 0), (15, .getfield 19, 3, 2, 9, 4), (18, .bipush 12, 2, 0, 0, 0), (20, .iload_n 1, 1, 0, 0, 0), (21, .iadd, 1, 0, 0, 0), (22, .iconst 0, 1, 0, 0, 0), (23, .iastore, 1, 0, 0, 0), (24, .aload_n 0, 1, 0, 0, 0), (25, .getfield 19, 3, 2, 9, 4), (28, .sipush 228, 3, 0, 0, 0), (31, .iload_n 2, 1, 0, 0, 0), (32, .iadd, 1, 0, 0, 0), (33, .iconst (-1), 1, 0, 0, 0), (34, .iastore, 1, 0, 0, 0), (35, .aload_n 0, 1, 0, 0, 0), (36, .getfield 19, 3, 2, 9, 4), (39, .sipush 241, 3, 0, 0, 0), (42, .iconst 1, 1, 0, 0, 0), (43, .iastore, 1, 0, 0, 0), (44, .return_, 1, 0, 0, 0)]
def cd_X9_setNow : List (Nat × cm_E) := [(0, .aload_n 0, 1, 0, 0, 0), (1, .getfield 19, 3, 2, 9, 4), (4, .iconst 0, 1, 0, 0, 0), (5, .iload_n 1, 1, 0, 0, 0), (6, .iadd, 1, 0, 0, 0), (7, .iaload, 1, 0, 0, 0), (8, .iconst (-1), 1, 0, 0, 0), (9, .if_icmp .ne 8, 3, 0, 0, 0), (12, .aload_n 0, 1, 0, 0, 0), (13, .iload_n 1, 1, 0, 0, 0), (14, .invokevirtual 341, 3, 109, 241, 2), (17, .aload_n 0, 1, 0, 0, 0), (18, .getfield 19, 3, 2, 9, 4), (21, .bipush 12, 2, 0, 0, 0), (23, .iload_n 1, 1, 0, 0, 0), (24, .iadd, 1, 0, 0, 0), (25, .aload_n 0, 1, 0, 0, 0), (26, .getfield 19, 3, 2, 9, 4), (29, .bipush 12, 2, 0, 0, 0), (31, .iload_n 1, 1, 0, 0, 0), (32, .iadd, 1, 0, 0, 0), (33, .iaload, 1, 0, 0, 0), (34, .iload_n 2, 1, 0, 0, 0), (35, .iconst 1, 1, 0, 0, 0), (36, .iadd, 1, 0, 0, 0), (37, .invokestatic 323, 3, 3, 0, 0), (40, .iastore, 1, 0, 0, 0), (41, .aload_n 0, 1, 0, 0, 0), (42, .getfield 19, 3, 2, 9, 4), (45, .bipush 36, 2, 0, 0, 0), (47, .bipush 8, 2, 0, 0, 0), (49, .iload_n 1, 1, 0, 0, 0), (50, .imul, 1, 0, 0, 0), (51, .iadd, 1, 0, 0, 0), (52, .iload_n 2, 1, 0, 0, 0), (53, .iadd, 1, 0, 0, 0), (54, .iconst (-1), 1, 0, 0, 0), (55, .iastore, 1, 0, 0, 0), (56, .aload_n 0, 1, 0, 0, 0), (57, .getfield 19, 3, 2, 9, 4), (60, .sipush 132, 3, 0, 0, 0), (63, .bipush 8, 2, 0, 0, 0), (65, .iload_n 1, 1, 0, 0, 0), (66, .imul, 1, 0, 0, 0), (67, .iadd, 1, 0, 0, 0), (68, .iload_n 2, 1, 0, 0, 0), (69, .iadd, 1, 0, 0, 0), (70, .iload_n 3, 1, 0, 0, 0), (71, .iastore, 1, 0, 0, 0), (72, .aload_n 0, 1, 0, 0, 0), (73, .getfield 19, 3, 2, 9, 4), (76, .bipush 24, 2, 0, 0, 0), (78, .iload_n 1, 1, 0, 0, 0), (79, .iadd, 1, 0, 0, 0), (80, .iconst 1, 1, 0, 0, 0), (81, .iastore, 1, 0, 0, 0), (82, .return_, 1, 0, 0, 0)]
def cd_X9_set : List (Nat × cm_E) := [(0, .aload_n 0, 1, 0, 0, 0), (1, .iconst 0, 1, 0, 0, 0), (2, .putfield 79, 3, 0, 9, 0), (5, .aload_n 0, 1, 0, 0, 0), (6, .iload_n 1, 1, 0, 0, 0), (7, .iload_n 2, 1, 0, 0, 0), (8, .iload_n 3, 1, 0, 0, 0), (9, .invokevirtual 344, 3, 109, 240, 4), (12, .ifCond .ne 8, 3, 0, 0, 0), (15, .aload_n 0, 1, 0, 0, 0), (16, .invokevirtual 347, 3, 109, 236, 1), (19, .ireturn, 1, 0, 0, 0), (20, .aload_n 0, 1, 0, 0, 0), (21, .invokevirtual 350, 3, 109, 238, 1), (24, .aload_n 0, 1, 0, 0, 0), (25, .iload_n 1, 1, 0, 0, 0), (26, .iload_n 2, 1, 0, 0, 0), (27, .iload_n 3, 1, 0, 0, 0), (28, .invokevirtual 353, 3, 109, 242, 4), (31, .aload_n 0, 1, 0, 0, 0), (32, .getfield 19, 3, 2, 9, 4), (35, .bipush 12, 2, 0, 0, 0), (37, .iload_n 1, 1, 0, 0, 0), (38, .iadd, 1, 0, 0, 0), (39, .iaload, 1, 0, 0, 0), (40, .ireturn, 1, 0, 0, 0)]
def cd_X9_cut : List (Nat × cm_E) := [(0, .aload_n 0, 1, 0, 0, 0), (1, .iconst 0, 1, 0, 0, 0), (2, .putfield 79, 3, 0, 9, 0), (5, .aload_n 0, 1, 0, 0, 0), (6, .iload_n 1, 1, 0, 0, 0), (7, .invokevirtual 314, 3, 109, 224, 2), (10, .ifCond .eq 22, 3, 0, 0, 0), (13, .iload_n 2, 1, 0, 0, 0), (14, .iconst 0, 1, 0, 0, 0), (15, .aload_n 0, 1, 0, 0, 0), (16, .getfield 19, 3, 2, 9, 4), (19, .bipush 12, 2, 0, 0, 0), (21, .iload_n 1, 1, 0, 0, 0), (22, .iadd, 1, 0, 0, 0), (23, .iaload, 1, 0, 0, 0), (24, .iconst 1, 1, 0, 0, 0), (25, .isub, 1, 0, 0, 0), (26, .invokestatic 286, 3, 0, 164, 3), (29, .ifCond .ne 8, 3, 0, 0, 0), (32, .aload_n 0, 1, 0, 0, 0), (33, .invokevirtual 347, 3, 109, 236, 1), (36, .ireturn, 1, 0, 0, 0), (37, .aload_n 0, 1, 0, 0, 0), (38, .invokevirtual 350, 3, 109, 238, 1), (41, .aload_n 0, 1, 0, 0, 0), (42, .getfield 19, 3, 2, 9, 4), (45, .bipush 12, 2, 0, 0, 0), (47, .iload_n 1, 1, 0, 0, 0), (48, .iadd, 1, 0, 0, 0), (49, .iaload, 1, 0, 0, 0), (50, .istore_n 3, 1, 0, 0, 0), (51, .aload_n 0, 1, 0, 0, 0), (52, .getfield 19, 3, 2, 9, 4), (55, .bipush 12, 2, 0, 0, 0), (57, .iload_n 1, 1, 0, 0, 0), (58, .iadd, 1, 0, 0, 0), (59, .iload_n 2, 1, 0, 0, 0), (60, .iastore, 1, 0, 0, 0), (61, .aload_n 0, 1, 0, 0, 0), (62, .getfield 19, 3, 2, 9, 4), (65, .bipush 24, 2, 0, 0, 0), (67, .iload_n 1, 1, 0, 0, 0), (68, .iadd, 1, 0, 0, 0), (69, .iconst 1, 1, 0, 0, 0), (70, .iastore, 1, 0, 0, 0), (71, .iload_n 2, 1, 0, 0, 0), (72, .istore 4, 2, 0, 0, 0), (74, .iload 4, 2, 0, 0, 0), (76, .bipush 8, 2, 0, 0, 0), (78, .if_icmp .ge 42, 3, 0, 0, 0), (81, .aload_n 0, 1, 0, 0, 0), (82, .getfield 19, 3, 2, 9, 4), (85, .bipush 36, 2, 0, 0, 0), (87, .bipush 8, 2, 0, 0, 0), (89, .iload_n 1, 1, 0, 0, 0), (90, .imul, 1, 0, 0, 0), (91, .iadd, 1, 0, 0, 0), (92, .iload 4, 2, 0, 0, 0), (94, .iadd, 1, 0, 0, 0), (95, .iconst (-1), 1, 0, 0, 0), (96, .iastore, 1, 0, 0, 0), (97, .aload_n 0, 1, 0, 0, 0), (98, .getfield 19, 3, 2, 9, 4), (101, .sipush 132, 3, 0, 0, 0), (104, .bipush 8, 2, 0, 0, 0), (106, .iload_n 1, 1, 0, 0, 0), (107, .imul, 1, 0, 0, 0), (108, .iadd, 1, 0, 0, 0), (109, .iload 4, 2, 0, 0, 0), (111, .iadd, 1, 0, 0, 0), (112, .iconst 0, 1, 0, 0, 0), (113, .iastore, 1, 0, 0, 0), (114, .iinc 4 1, 3, 0, 0, 0), (117, .goto (-43), 3, 6, 0, 0), (120, .iload_n 3, 1, 0, 0, 0), (121, .ireturn, 1, 0, 0, 0)]
def cd_X9_eraseNow : List (Nat × cm_E) := [(0, .aload_n 0, 1, 0, 0, 0), (1, .getfield 19, 3, 2, 9, 4), (4, .sipush 228, 3, 0, 0, 0), (7, .aload_n 0, 1, 0, 0, 0), (8, .getfield 19, 3, 2, 9, 4), (11, .iconst 0, 1, 0, 0, 0), (12, .iload_n 1, 1, 0, 0, 0), (13, .iadd, 1, 0, 0, 0), (14, .iaload, 1, 0, 0, 0), (15, .iadd, 1, 0, 0, 0), (16, .iconst (-1), 1, 0, 0, 0), (17, .iastore, 1, 0, 0, 0), (18, .aload_n 0, 1, 0, 0, 0), (19, .getfield 19, 3, 2, 9, 4), (22, .iconst 0, 1, 0, 0, 0), (23, .iload_n 1, 1, 0, 0, 0), (24, .iadd, 1, 0, 0, 0), (25, .iconst (-1), 1, 0, 0, 0), (26, .iastore, 1, 0, 0, 0), (27, .aload_n 0, 1, 0, 0, 0), (28, .getfield 19, 3, 2, 9, 4), (31, .bipush 12, 2, 0, 0, 0), (33, .iload_n 1, 1, 0, 0, 0), (34, .iadd, 1, 0, 0, 0), (35, .iconst 0, 1, 0, 0, 0), (36, .iastore, 1, 0, 0, 0), (37, .aload_n 0, 1, 0, 0, 0), (38, .getfield 19, 3, 2, 9, 4), (41, .bipush 24, 2, 0, 0, 0), (43, .iload_n 1, 1, 0, 0, 0), (44, .iadd, 1, 0, 0, 0), (45, .iconst 0, 1, 0, 0, 0), (46, .iastore, 1, 0, 0, 0), (47, .aload_n 0, 1, 0, 0, 0), (48, .getfield 19, 3, 2, 9, 4), (51, .sipush 241, 3, 0, 0, 0), (54, .iconst 1, 1, 0, 0, 0), (55, .iastore, 1, 0, 0, 0), (56, .return_, 1, 0, 0, 0)]
def cd_X9_erase : List (Nat × cm_E) := [(0, .aload_n 0, 1, 0, 0, 0), (1, .iconst 0, 1, 0, 0, 0), (2, .putfield 79, 3, 0, 9, 0), (5, .aload_n 0, 1, 0, 0, 0), (6, .iload_n 1, 1, 0, 0, 0), (7, .invokevirtual 314, 3, 109, 224, 2), (10, .ifCond .ne 8, 3, 0, 0, 0), (13, .aload_n 0, 1, 0, 0, 0), (14, .invokevirtual 347, 3, 109, 236, 1), (17, .ireturn, 1, 0, 0, 0), (18, .aload_n 0, 1, 0, 0, 0), (19, .invokevirtual 350, 3, 109, 238, 1), (22, .aload_n 0, 1, 0, 0, 0), (23, .getfield 19, 3, 2, 9, 4), (26, .bipush 12, 2, 0, 0, 0), (28, .iload_n 1, 1, 0, 0, 0), (29, .iadd, 1, 0, 0, 0), (30, .iaload, 1, 0, 0, 0), (31, .istore_n 2, 1, 0, 0, 0), (32, .aload_n 0, 1, 0, 0, 0), (33, .iload_n 1, 1, 0, 0, 0), (34, .invokevirtual 357, 3, 109, 245, 2), (37, .iload_n 2, 1, 0, 0, 0), (38, .ireturn, 1, 0, 0, 0)]
def cd_X9_canName : List (Nat × cm_E) := [(0, .aload_n 0, 1, 0, 0, 0), (1, .iload_n 1, 1, 0, 0, 0), (2, .invokevirtual 314, 3, 109, 224, 2), (5, .ifCond .eq 27, 3, 0, 0, 0), (8, .aload_n 0, 1, 0, 0, 0), (9, .iload_n 2, 1, 0, 0, 0), (10, .invokevirtual 311, 3, 109, 223, 2), (13, .ifCond .eq 19, 3, 0, 0, 0), (16, .aload_n 0, 1, 0, 0, 0), (17, .getfield 19, 3, 2, 9, 4), (20, .iconst 0, 1, 0, 0, 0), (21, .iload_n 2, 1, 0, 0, 0), (22, .iadd, 1, 0, 0, 0), (23, .iaload, 1, 0, 0, 0), (24, .iconst (-1), 1, 0, 0, 0), (25, .if_icmp .ne 7, 3, 0, 0, 0), (28, .iconst 1, 1, 0, 0, 0), (29, .goto 4, 3, 0, 0, 0), (32, .iconst 0, 1, 0, 0, 0), (33, .ireturn, 1, 1, 0, 0)]
def cd_X9_likeCells : List (Nat × cm_E) := [(0, .aload_n 0, 1, 0, 0, 0), (1, .getfield 19, 3, 2, 9, 4), (4, .bipush 12, 2, 0, 0, 0), (6, .iload_n 2, 1, 0, 0, 0), (7, .iadd, 1, 0, 0, 0), (8, .aload_n 0, 1, 0, 0, 0), (9, .getfield 19, 3, 2, 9, 4), (12, .bipush 12, 2, 0, 0, 0), (14, .iload_n 1, 1, 0, 0, 0), (15, .iadd, 1, 0, 0, 0), (16, .iaload, 1, 0, 0, 0), (17, .iastore, 1, 0, 0, 0), (18, .iconst 0, 1, 0, 0, 0), (19, .istore_n 3, 1, 0, 0, 0), (20, .iload_n 3, 1, 0, 0, 0), (21, .bipush 8, 2, 0, 0, 0), (23, .if_icmp .ge 67, 3, 0, 0, 0), (26, .aload_n 0, 1, 0, 0, 0), (27, .getfield 19, 3, 2, 9, 4), (30, .bipush 36, 2, 0, 0, 0), (32, .bipush 8, 2, 0, 0, 0), (34, .iload_n 2, 1, 0, 0, 0), (35, .imul, 1, 0, 0, 0), (36, .iadd, 1, 0, 0, 0), (37, .iload_n 3, 1, 0, 0, 0), (38, .iadd, 1, 0, 0, 0), (39, .aload_n 0, 1, 0, 0, 0), (40, .getfield 19, 3, 2, 9, 4), (43, .bipush 36, 2, 0, 0, 0), (45, .bipush 8, 2, 0, 0, 0), (47, .iload_n 1, 1, 0, 0, 0), (48, .imul, 1, 0, 0, 0), (49, .iadd, 1, 0, 0, 0), (50, .iload_n 3, 1, 0, 0, 0), (51, .iadd, 1, 0, 0, 0), (52, .iaload, 1, 0, 0, 0), (53, .iastore, 1, 0, 0, 0), (54, .aload_n 0, 1, 0, 0, 0), (55, .getfield 19, 3, 2, 9, 4), (58, .sipush 132, 3, 0, 0, 0), (61, .bipush 8, 2, 0, 0, 0), (63, .iload_n 2, 1, 0, 0, 0), (64, .imul, 1, 0, 0, 0), (65, .iadd, 1, 0, 0, 0), (66, .iload_n 3, 1, 0, 0, 0), (67, .iadd, 1, 0, 0, 0), (68, .aload_n 0, 1, 0, 0, 0), (69, .getfield 19, 3, 2, 9, 4), (72, .sipush 132, 3, 0, 0, 0), (75, .bipush 8, 2, 0, 0, 0), (77, .iload_n 1, 1, 0, 0, 0), (78, .imul, 1, 0, 0, 0), (79, .iadd, 1, 0, 0, 0), (80, .iload_n 3, 1, 0, 0, 0), (81, .iadd, 1, 0, 0, 0), (82, .iaload, 1, 0, 0, 0), (83, .iastore, 1, 0, 0, 0), (84, .iinc 3 1, 3, 0, 0, 0), (87, .goto (-67), 3, 5, 0, 0), (90, .return_, 1, 0, 0, 0)]
def cd_X9_rename : List (Nat × cm_E) := [(0, .aload_n 0, 1, 0, 0, 0), (1, .iconst 0, 1, 0, 0, 0), (2, .putfield 79, 3, 0, 9, 0), (5, .aload_n 0, 1, 0, 0, 0), (6, .iload_n 1, 1, 0, 0, 0), (7, .iload_n 2, 1, 0, 0, 0), (8, .invokevirtual 360, 3, 109, 247, 3), (11, .ifCond .ne 10, 3, 0, 0, 0), (14, .aload_n 0, 1, 0, 0, 0), (15, .invokevirtual 347, 3, 109, 236, 1), (18, .pop, 1, 0, 0, 0), (19, .iconst 0, 1, 0, 0, 0), (20, .ireturn, 1, 1, 0, 0), (21, .aload_n 0, 1, 0, 0, 0), (22, .invokevirtual 350, 3, 109, 238, 1), (25, .aload_n 0, 1, 0, 0, 0), (26, .iload_n 1, 1, 0, 0, 0), (27, .iload_n 2, 1, 0, 0, 0), (28, .invokevirtual 363, 3, 109, 248, 3), (31, .aload_n 0, 1, 0, 0, 0), (32, .getfield 19, 3, 2, 9, 4), (35, .iconst 0, 1, 0, 0, 0), (36, .iload_n 2, 1, 0, 0, 0), (37, .iadd, 1, 0, 0, 0), (38, .aload_n 0, 1, 0, 0, 0), (39, .getfield 19, 3, 2, 9, 4), (42, .iconst 0, 1, 0, 0, 0), (43, .iload_n 1, 1, 0, 0, 0), (44, .iadd, 1, 0, 0, 0), (45, .iaload, 1, 0, 0, 0), (46, .iastore, 1, 0, 0, 0), (47, .aload_n 0, 1, 0, 0, 0), (48, .getfield 19, 3, 2, 9, 4), (51, .bipush 24, 2, 0, 0, 0), (53, .iload_n 2, 1, 0, 0, 0), (54, .iadd, 1, 0, 0, 0), (55, .aload_n 0, 1, 0, 0, 0), (56, .getfield 19, 3, 2, 9, 4), (59, .bipush 24, 2, 0, 0, 0), (61, .iload_n 1, 1, 0, 0, 0), (62, .iadd, 1, 0, 0, 0), (63, .iaload, 1, 0, 0, 0), (64, .iastore, 1, 0, 0, 0), (65, .aload_n 0, 1, 0, 0, 0), (66, .getfield 19, 3, 2, 9, 4), (69, .iconst 0, 1, 0, 0, 0), (70, .iload_n 1, 1, 0, 0, 0), (71, .iadd, 1, 0, 0, 0), (72, .iconst (-1), 1, 0, 0, 0), (73, .iastore, 1, 0, 0, 0), (74, .aload_n 0, 1, 0, 0, 0), (75, .getfield 19, 3, 2, 9, 4), (78, .bipush 12, 2, 0, 0, 0), (80, .iload_n 1, 1, 0, 0, 0), (81, .iadd, 1, 0, 0, 0), (82, .iconst 0, 1, 0, 0, 0), (83, .iastore, 1, 0, 0, 0), (84, .aload_n 0, 1, 0, 0, 0), (85, .getfield 19, 3, 2, 9, 4), (88, .bipush 24, 2, 0, 0, 0), (90, .iload_n 1, 1, 0, 0, 0), (91, .iadd, 1, 0, 0, 0), (92, .iconst 0, 1, 0, 0, 0), (93, .iastore, 1, 0, 0, 0), (94, .aload_n 0, 1, 0, 0, 0), (95, .getfield 19, 3, 2, 9, 4), (98, .sipush 241, 3, 0, 0, 0), (101, .iconst 1, 1, 0, 0, 0), (102, .iastore, 1, 0, 0, 0), (103, .iconst 1, 1, 0, 0, 0), (104, .ireturn, 1, 1, 0, 0)]
def cd_X9_copy : List (Nat × cm_E) := [(0, .aload_n 0, 1, 0, 0, 0), (1, .iconst 0, 1, 0, 0, 0), (2, .putfield 79, 3, 0, 9, 0), (5, .aload_n 0, 1, 0, 0, 0), (6, .iload_n 1, 1, 0, 0, 0), (7, .iload_n 2, 1, 0, 0, 0), (8, .invokevirtual 360, 3, 109, 247, 3), (11, .ifCond .ne 8, 3, 0, 0, 0), (14, .aload_n 0, 1, 0, 0, 0), (15, .invokevirtual 347, 3, 109, 236, 1), (18, .ireturn, 1, 0, 0, 0), (19, .aload_n 0, 1, 0, 0, 0), (20, .invokevirtual 350, 3, 109, 238, 1), (23, .aload_n 0, 1, 0, 0, 0), (24, .iload_n 2, 1, 0, 0, 0), (25, .invokevirtual 341, 3, 109, 241, 2), (28, .aload_n 0, 1, 0, 0, 0), (29, .iload_n 1, 1, 0, 0, 0), (30, .iload_n 2, 1, 0, 0, 0), (31, .invokevirtual 363, 3, 109, 248, 3), (34, .aload_n 0, 1, 0, 0, 0), (35, .getfield 19, 3, 2, 9, 4), (38, .bipush 24, 2, 0, 0, 0), (40, .iload_n 2, 1, 0, 0, 0), (41, .iadd, 1, 0, 0, 0), (42, .iconst 1, 1, 0, 0, 0), (43, .iastore, 1, 0, 0, 0), (44, .aload_n 0, 1, 0, 0, 0), (45, .getfield 19, 3, 2, 9, 4), (48, .iconst 0, 1, 0, 0, 0), (49, .iload_n 2, 1, 0, 0, 0), (50, .iadd, 1, 0, 0, 0), (51, .iaload, 1, 0, 0, 0), (52, .ireturn, 1, 0, 0, 0)]
def cd_X9_revert : List (Nat × cm_E) := [(0, .aload_n 0, 1, 0, 0, 0), (1, .iconst 0, 1, 0, 0, 0), (2, .putfield 79, 3, 0, 9, 0), (5, .aload_n 0, 1, 0, 0, 0), (6, .iload_n 2, 1, 0, 0, 0), (7, .invokevirtual 329, 3, 109, 229, 2), (10, .istore_n 3, 1, 0, 0, 0), (11, .iload_n 3, 1, 0, 0, 0), (12, .iconst (-1), 1, 0, 0, 0), (13, .if_icmp .eq 11, 3, 0, 0, 0), (16, .aload_n 0, 1, 0, 0, 0), (17, .iload_n 1, 1, 0, 0, 0), (18, .invokevirtual 314, 3, 109, 224, 2), (21, .ifCond .ne 7, 3, 0, 0, 0), (24, .iconst (-1), 1, 0, 0, 0), (25, .goto 9, 3, 0, 0, 0), (28, .aload_n 0, 1, 0, 0, 0), (29, .iload_n 3, 1, 0, 0, 0), (30, .iload_n 1, 1, 0, 0, 0), (31, .invokevirtual 213, 3, 109, 189, 3), (34, .istore 4, 2, 0, 0, 0), (36, .iload 4, 2, 0, 0, 0), (38, .iconst (-1), 1, 0, 0, 0), (39, .if_icmp .ne 8, 3, 0, 0, 0), (42, .aload_n 0, 1, 0, 0, 0), (43, .invokevirtual 347, 3, 109, 236, 1), (46, .ireturn, 1, 0, 0, 0), (47, .aload_n 0, 1, 0, 0, 0), (48, .invokevirtual 350, 3, 109, 238, 1), (51, .aload_n 0, 1, 0, 0, 0), (52, .iload_n 1, 1, 0, 0, 0), (53, .iload 4, 2, 0, 0, 0), (55, .invokevirtual 216, 3, 109, 192, 3), (58, .aload_n 0, 1, 0, 0, 0), (59, .getfield 19, 3, 2, 9, 4), (62, .bipush 24, 2, 0, 0, 0), (64, .iload_n 1, 1, 0, 0, 0), (65, .iadd, 1, 0, 0, 0), (66, .iconst 1, 1, 0, 0, 0), (67, .iastore, 1, 0, 0, 0), (68, .aload_n 0, 1, 0, 0, 0), (69, .getfield 19, 3, 2, 9, 4), (72, .bipush 12, 2, 0, 0, 0), (74, .iload_n 1, 1, 0, 0, 0), (75, .iadd, 1, 0, 0, 0), (76, .iaload, 1, 0, 0, 0), (77, .ireturn, 1, 0, 0, 0)]
def cd_X9_sync : List (Nat × cm_E) := [(0, .aload_n 0, 1, 0, 0, 0), (1, .iconst 0, 1, 0, 0, 0), (2, .putfield 79, 3, 0, 9, 0), (5, .aload_n 0, 1, 0, 0, 0), (6, .invokevirtual 366, 3, 109, 205, 1), (9, .ifCond .ne 8, 3, 0, 0, 0), (12, .aload_n 0, 1, 0, 0, 0), (13, .invokevirtual 347, 3, 109, 236, 1), (16, .ireturn, 1, 0, 0, 0), (17, .aload_n 0, 1, 0, 0, 0), (18, .invokevirtual 350, 3, 109, 238, 1), (21, .aload_n 0, 1, 0, 0, 0), (22, .invokevirtual 369, 3, 109, 211, 1), (25, .ifCond .ne 10, 3, 0, 0, 0), (28, .aload_n 0, 1, 0, 0, 0), (29, .getfield 251, 3, 0, 9, 27), (32, .goto 5, 3, 0, 0, 0), (35, .bipush (-2), 2, 0, 0, 0), (37, .ireturn, 1, 0, 0, 0)]
def cd_X9_tear : List (Nat × cm_E) := [(0, .aload_n 0, 1, 0, 0, 0), (1, .iconst 0, 1, 0, 0, 0), (2, .putfield 79, 3, 0, 9, 0), (5, .aload_n 0, 1, 0, 0, 0), (6, .invokevirtual 366, 3, 109, 205, 1), (9, .ifCond .eq 15, 3, 0, 0, 0), (12, .iload_n 1, 1, 0, 0, 0), (13, .ifCond .lt 11, 3, 0, 0, 0), (16, .iload_n 1, 1, 0, 0, 0), (17, .aload_n 0, 1, 0, 0, 0), (18, .invokevirtual 372, 3, 109, 212, 1), (21, .if_icmp .lt 8, 3, 0, 0, 0), (24, .aload_n 0, 1, 0, 0, 0), (25, .invokevirtual 347, 3, 109, 236, 1), (28, .ireturn, 1, 0, 0, 0), (29, .aload_n 0, 1, 0, 0, 0), (30, .invokevirtual 350, 3, 109, 238, 1), (33, .aload_n 0, 1, 0, 0, 0), (34, .iload_n 1, 1, 0, 0, 0), (35, .invokevirtual 375, 3, 109, 213, 2), (38, .aload_n 0, 1, 0, 0, 0), (39, .getfield 19, 3, 2, 9, 4), (42, .sipush 244, 3, 0, 0, 0), (45, .iaload, 1, 0, 0, 0), (46, .ireturn, 1, 0, 0, 0)]
def cd_X9_canClose : List (Nat × cm_E) := [(0, .aload_n 0, 1, 0, 0, 0), (1, .invokevirtual 248, 3, 109, 196, 1), (4, .ifCond .ne 31, 3, 0, 0, 0), (7, .aload_n 0, 1, 0, 0, 0), (8, .getfield 19, 3, 2, 9, 4), (11, .sipush 244, 3, 0, 0, 0), (14, .iaload, 1, 0, 0, 0), (15, .aload_n 0, 1, 0, 0, 0), (16, .getfield 7, 3, 2, 9, 1), (19, .iconst 3, 1, 0, 0, 0), (20, .iaload, 1, 0, 0, 0), (21, .iadd, 1, 0, 0, 0), (22, .aload_n 0, 1, 0, 0, 0), (23, .getfield 7, 3, 2, 9, 1), (26, .iconst 0, 1, 0, 0, 0), (27, .iaload, 1, 0, 0, 0), (28, .if_icmp .gt 7, 3, 0, 0, 0), (31, .iconst 1, 1, 0, 0, 0), (32, .goto 4, 3, 0, 0, 0), (35, .iconst 0, 1, 0, 0, 0), (36, .ireturn, 1, 1, 0, 0)]
def cd_X9_closeNow : List (Nat × cm_E) := [(0, .iconst 0, 1, 0, 0, 0), (1, .istore_n 2, 1, 0, 0, 0), (2, .iload_n 2, 1, 0, 0, 0), (3, .aload_n 0, 1, 0, 0, 0), (4, .getfield 7, 3, 2, 9, 1), (7, .iconst 3, 1, 0, 0, 0), (8, .iaload, 1, 0, 0, 0), (9, .if_icmp .ge 15, 3, 0, 0, 0), (12, .aload_n 0, 1, 0, 0, 0), (13, .bipush 7, 2, 0, 0, 0), (15, .invokevirtual 257, 3, 109, 207, 2), (18, .iinc 2 1, 3, 0, 0, 0), (21, .goto (-19), 3, 4, 0, 0), (24, .aload_n 0, 1, 0, 0, 0), (25, .getfield 19, 3, 2, 9, 4), (28, .sipush 243, 3, 0, 0, 0), (31, .dup2, 1, 0, 0, 0), (32, .iaload, 1, 0, 0, 0), (33, .iconst 1, 1, 0, 0, 0), (34, .iadd, 1, 0, 0, 0), (35, .iastore, 1, 0, 0, 0), (36, .iload_n 1, 1, 0, 0, 0), (37, .ifCond .ne 10, 3, 0, 0, 0), (40, .aload_n 0, 1, 0, 0, 0), (41, .getfield 19, 3, 2, 9, 4), (44, .invokestatic 82, 3, 0, 165, 1), (47, .return_, 1, 0, 0, 0)]
def cd_X9_close : List (Nat × cm_E) := [(0, .aload_n 0, 1, 0, 0, 0), (1, .iconst 0, 1, 0, 0, 0), (2, .putfield 79, 3, 0, 9, 0), (5, .aload_n 0, 1, 0, 0, 0), (6, .invokevirtual 378, 3, 109, 254, 1), (9, .ifCond .ne 8, 3, 0, 0, 0), (12, .aload_n 0, 1, 0, 0, 0), (13, .invokevirtual 347, 3, 109, 236, 1), (16, .ireturn, 1, 0, 0, 0), (17, .aload_n 0, 1, 0, 0, 0), (18, .invokevirtual 350, 3, 109, 238, 1), (21, .aload_n 0, 1, 0, 0, 0), (22, .iload_n 1, 1, 0, 0, 0), (23, .invokevirtual 381, 3, 109, 255, 2), (26, .aload_n 0, 1, 0, 0, 0), (27, .getfield 19, 3, 2, 9, 4), (30, .sipush 243, 3, 0, 0, 0), (33, .iaload, 1, 0, 0, 0), (34, .ireturn, 1, 0, 0, 0)]
def cd_X9_mount : List (Nat × cm_E) := [(0, .aload_n 0, 1, 0, 0, 0), (1, .iconst 0, 1, 0, 0, 0), (2, .putfield 79, 3, 0, 9, 0), (5, .aload_n 0, 1, 0, 0, 0), (6, .sipush 400, 3, 0, 0, 0), (9, .invokevirtual 277, 3, 109, 187, 2), (12, .istore_n 2, 1, 0, 0, 0), (13, .iload_n 1, 1, 0, 0, 0), (14, .ifCond .ge 7, 3, 0, 0, 0), (17, .iconst (-1), 1, 0, 0, 0), (18, .goto 15, 3, 0, 0, 0), (21, .aload_n 0, 1, 0, 0, 0), (22, .iload_n 2, 1, 0, 0, 0), (23, .iload_n 1, 1, 0, 0, 0), (24, .sipush 400, 3, 0, 0, 0), (27, .invokestatic 115, 3, 2, 0, 0), (30, .invokevirtual 326, 3, 109, 188, 3), (33, .istore_n 3, 1, 0, 0, 0), (34, .iload_n 1, 1, 0, 0, 0), (35, .ifCond .lt 12, 3, 0, 0, 0), (38, .iload_n 3, 1, 0, 0, 0), (39, .iconst (-1), 1, 0, 0, 0), (40, .if_icmp .ne 12, 3, 0, 0, 0), (43, .iload_n 1, 1, 0, 0, 0), (44, .ifCond .le 8, 3, 0, 0, 0), (47, .aload_n 0, 1, 0, 0, 0), (48, .invokevirtual 347, 3, 109, 236, 1), (51, .ireturn, 1, 0, 0, 0), (52, .aload_n 0, 1, 0, 0, 0), (53, .invokevirtual 350, 3, 109, 238, 1), (56, .aload_n 0, 1, 0, 0, 0), (57, .iload_n 3, 1, 0, 0, 0), (58, .invokevirtual 280, 3, 109, 193, 2), (61, .aload_n 0, 1, 0, 0, 0), (62, .invokevirtual 290, 3, 109, 194, 1), (65, .ireturn, 1, 0, 0, 0)]
def cd_X9_undo : List (Nat × cm_E) := [(0, .aload_n 0, 1, 0, 0, 0), (1, .iconst 0, 1, 0, 0, 0), (2, .putfield 79, 3, 0, 9, 0), (5, .aload_n 0, 1, 0, 0, 0), (6, .getfield 192, 3, 0, 9, 29), (9, .ifCond .ne 5, 3, 0, 0, 0), (12, .iconst (-1), 1, 0, 0, 0), (13, .ireturn, 1, 0, 0, 0), (14, .aload_n 0, 1, 0, 0, 0), (15, .dup, 1, 0, 0, 0), (16, .getfield 192, 3, 0, 9, 29), (19, .iconst 1, 1, 0, 0, 0), (20, .isub, 1, 0, 0, 0), (21, .putfield 192, 3, 0, 9, 29), (24, .iconst 0, 1, 0, 0, 0), (25, .istore_n 1, 1, 0, 0, 0), (26, .iload_n 1, 1, 0, 0, 0), (27, .sipush 246, 3, 0, 0, 0), (30, .if_icmp .ge 30, 3, 0, 0, 0), (33, .aload_n 0, 1, 0, 0, 0), (34, .getfield 19, 3, 2, 9, 4), (37, .iload_n 1, 1, 0, 0, 0), (38, .aload_n 0, 1, 0, 0, 0), (39, .getfield 54, 3, 2, 9, 30), (42, .sipush 246, 3, 0, 0, 0), (45, .aload_n 0, 1, 0, 0, 0), (46, .getfield 192, 3, 0, 9, 29), (49, .imul, 1, 0, 0, 0), (50, .iload_n 1, 1, 0, 0, 0), (51, .iadd, 1, 0, 0, 0), (52, .iaload, 1, 0, 0, 0), (53, .iastore, 1, 0, 0, 0), (54, .iinc 1 1, 3, 0, 0, 0), (57, .goto (-31), 3, 3, 0, 0), (60, .aload_n 0, 1, 0, 0, 0), (61, .getfield 192, 3, 0, 9, 29), (64, .ireturn, 1, 0, 0, 0)]
def cd_X9_costOf : List (Nat × cm_E) := [(0, .iload_n 1, 1, 0, 0, 0), (1, .iload_n 2, 1, 0, 0, 0), (2, .invokestatic 235, 3, 0, 201, 2), (5, .aload_n 0, 1, 0, 0, 0), (6, .getfield 7, 3, 2, 9, 1), (9, .iconst 2, 1, 0, 0, 0), (10, .iaload, 1, 0, 0, 0), (11, .iload_n 2, 1, 0, 0, 0), (12, .iadd, 1, 0, 0, 0), (13, .imul, 1, 0, 0, 0), (14, .ireturn, 1, 0, 0, 0)]
def cd_X9_things : List (Nat × cm_E) := [(0, .aload_n 0, 1, 0, 0, 0), (1, .getfield 19, 3, 2, 9, 4), (4, .sipush 241, 3, 0, 0, 0), (7, .iaload, 1, 0, 0, 0), (8, .iconst 1, 1, 0, 0, 0), (9, .iadd, 1, 0, 0, 0), (10, .istore_n 1, 1, 0, 0, 0), (11, .iconst 0, 1, 0, 0, 0), (12, .istore_n 2, 1, 0, 0, 0), (13, .iload_n 2, 1, 0, 0, 0), (14, .bipush 12, 2, 0, 0, 0), (16, .if_icmp .ge 36, 3, 0, 0, 0), (19, .iload_n 1, 1, 0, 0, 0), (20, .aload_n 0, 1, 0, 0, 0), (21, .getfield 19, 3, 2, 9, 4), (24, .bipush 24, 2, 0, 0, 0), (26, .iload_n 2, 1, 0, 0, 0), (27, .iadd, 1, 0, 0, 0), (28, .iaload, 1, 0, 0, 0), (29, .iconst 1, 1, 0, 0, 0), (30, .if_icmp .ne 13, 3, 0, 0, 0), (33, .aload_n 0, 1, 0, 0, 0), (34, .iload_n 2, 1, 0, 0, 0), (35, .invokevirtual 223, 3, 109, 197, 2), (38, .iconst 1, 1, 0, 0, 0), (39, .iadd, 1, 0, 0, 0), (40, .goto 4, 3, 0, 0, 0), (43, .iconst 0, 1, 0, 0, 0), (44, .iadd, 1, 0, 0, 0), (45, .istore_n 1, 1, 0, 0, 0), (46, .iinc 2 1, 3, 0, 0, 0), (49, .goto (-36), 3, 4, 0, 0), (52, .iload_n 1, 1, 0, 0, 0), (53, .ireturn, 1, 0, 0, 0)]
def cd_X9_cost : List (Nat × cm_E) := [(0, .aload_n 0, 1, 0, 0, 0), (1, .iconst 0, 1, 0, 0, 0), (2, .putfield 79, 3, 0, 9, 0), (5, .iload_n 1, 1, 0, 0, 0), (6, .iconst 0, 1, 0, 0, 0), (7, .iconst 2, 1, 0, 0, 0), (8, .invokestatic 286, 3, 0, 164, 3), (11, .ifCond .ne 9, 3, 0, 0, 0), (14, .aload_n 0, 1, 0, 0, 0), (15, .iconst 1, 1, 0, 0, 0), (16, .invokevirtual 182, 3, 109, 163, 2), (19, .ireturn, 1, 0, 0, 0), (20, .aload_n 0, 1, 0, 0, 0), (21, .invokevirtual 248, 3, 109, 196, 1), (24, .ifCond .ne 5, 3, 0, 0, 0), (27, .iconst 0, 1, 0, 0, 0), (28, .ireturn, 1, 0, 0, 0), (29, .aload_n 0, 1, 0, 0, 0), (30, .invokevirtual 385, 3, 109, 260, 1), (33, .aload_n 0, 1, 0, 0, 0), (34, .getfield 7, 3, 2, 9, 1), (37, .iconst 1, 1, 0, 0, 0), (38, .iaload, 1, 0, 0, 0), (39, .invokestatic 235, 3, 0, 201, 2), (42, .istore_n 2, 1, 0, 0, 0), (43, .iload_n 1, 1, 0, 0, 0), (44, .ifCond .ne 7, 3, 0, 0, 0), (47, .iload_n 2, 1, 0, 0, 0), (48, .goto 38, 3, 0, 0, 0), (51, .iload_n 1, 1, 0, 0, 0), (52, .iconst 1, 1, 0, 0, 0), (53, .if_icmp .ne 20, 3, 0, 0, 0), (56, .aload_n 0, 1, 0, 0, 0), (57, .aload_n 0, 1, 0, 0, 0), (58, .invokevirtual 385, 3, 109, 260, 1), (61, .aload_n 0, 1, 0, 0, 0), (62, .getfield 7, 3, 2, 9, 1), (65, .iconst 1, 1, 0, 0, 0), (66, .iaload, 1, 0, 0, 0), (67, .invokevirtual 388, 3, 109, 259, 3), (70, .goto 16, 3, 0, 0, 0), (73, .iload_n 2, 1, 0, 0, 0), (74, .aload_n 0, 1, 0, 0, 0), (75, .getfield 7, 3, 2, 9, 1), (78, .iconst 1, 1, 0, 0, 0), (79, .iaload, 1, 0, 0, 0), (80, .imul, 1, 0, 0, 0), (81, .aload_n 0, 1, 0, 0, 0), (82, .invokevirtual 385, 3, 109, 260, 1), (85, .isub, 1, 0, 0, 0), (86, .ireturn, 1, 0, 0, 0)]
def cd_X9_apart : List (Nat × cm_E) := [(0, .aload_n 0, 1, 0, 0, 0), (1, .iconst 0, 1, 0, 0, 0), (2, .putfield 79, 3, 0, 9, 0), (5, .aload_n 0, 1, 0, 0, 0), (6, .invokevirtual 248, 3, 109, 196, 1), (9, .ifCond .ne 5, 3, 0, 0, 0), (12, .iconst 0, 1, 0, 0, 0), (13, .ireturn, 1, 0, 0, 0), (14, .iconst 0, 1, 0, 0, 0), (15, .istore_n 1, 1, 0, 0, 0), (16, .aload_n 0, 1, 0, 0, 0), (17, .getfield 19, 3, 2, 9, 4), (20, .sipush 241, 3, 0, 0, 0), (23, .iaload, 1, 0, 0, 0), (24, .istore_n 2, 1, 0, 0, 0), (25, .iconst 1, 1, 0, 0, 0), (26, .istore_n 3, 1, 0, 0, 0), (27, .iload_n 3, 1, 0, 0, 0), (28, .bipush 13, 2, 0, 0, 0), (30, .if_icmp .ge 63, 3, 0, 0, 0), (33, .aload_n 0, 1, 0, 0, 0), (34, .iload_n 3, 1, 0, 0, 0), (35, .invokevirtual 229, 3, 109, 200, 2), (38, .istore 4, 2, 0, 0, 0), (40, .iload 4, 2, 0, 0, 0), (42, .iconst (-1), 1, 0, 0, 0), (43, .if_icmp .eq 44, 3, 0, 0, 0), (46, .aload_n 0, 1, 0, 0, 0), (47, .getfield 19, 3, 2, 9, 4), (50, .bipush 24, 2, 0, 0, 0), (52, .iload 4, 2, 0, 0, 0), (54, .iadd, 1, 0, 0, 0), (55, .iaload, 1, 0, 0, 0), (56, .ifCond .ne 6, 3, 0, 0, 0), (59, .goto 28, 3, 0, 0, 0), (62, .iload_n 1, 1, 0, 0, 0), (63, .aload_n 0, 1, 0, 0, 0), (64, .aload_n 0, 1, 0, 0, 0), (65, .iload 4, 2, 0, 0, 0), (67, .invokevirtual 223, 3, 109, 197, 2), (70, .iconst 2, 1, 0, 0, 0), (71, .iadd, 1, 0, 0, 0), (72, .iload_n 2, 1, 0, 0, 0), (73, .iadd, 1, 0, 0, 0), (74, .aload_n 0, 1, 0, 0, 0), (75, .getfield 7, 3, 2, 9, 1), (78, .iconst 1, 1, 0, 0, 0), (79, .iaload, 1, 0, 0, 0), (80, .invokevirtual 388, 3, 109, 259, 3), (83, .iadd, 1, 0, 0, 0), (84, .istore_n 1, 1, 0, 0, 0), (85, .iconst 0, 1, 0, 0, 0), (86, .istore_n 2, 1, 0, 0, 0), (87, .iinc 3 1, 3, 0, 0, 0), (90, .goto (-63), 3, 5, 0, 0), (93, .iload_n 2, 1, 0, 0, 0), (94, .iconst 1, 1, 0, 0, 0), (95, .if_icmp .ne 19, 3, 0, 0, 0), (98, .iload_n 1, 1, 0, 0, 0), (99, .aload_n 0, 1, 0, 0, 0), (100, .iconst 2, 1, 0, 0, 0), (101, .aload_n 0, 1, 0, 0, 0), (102, .getfield 7, 3, 2, 9, 1), (105, .iconst 1, 1, 0, 0, 0), (106, .iaload, 1, 0, 0, 0), (107, .invokevirtual 388, 3, 109, 259, 3), (110, .iadd, 1, 0, 0, 0), (111, .goto 4, 3, 0, 0, 0), (114, .iload_n 1, 1, 0, 0, 0), (115, .ireturn, 1, 0, 0, 0)]
def cd_X9_found : List (Nat × cm_E) := [(0, .aload_n 0, 1, 0, 0, 0), (1, .iconst 0, 1, 0, 0, 0), (2, .putfield 79, 3, 0, 9, 0), (5, .iload_n 1, 1, 0, 0, 0), (6, .iconst 0, 1, 0, 0, 0), (7, .aload_n 0, 1, 0, 0, 0), (8, .getfield 7, 3, 2, 9, 1), (11, .iconst 0, 1, 0, 0, 0), (12, .iaload, 1, 0, 0, 0), (13, .invokestatic 286, 3, 0, 164, 3), (16, .ifCond .eq 11, 3, 0, 0, 0), (19, .aload_n 0, 1, 0, 0, 0), (20, .iload_n 1, 1, 0, 0, 0), (21, .invokevirtual 277, 3, 109, 187, 2), (24, .goto 8, 3, 0, 0, 0), (27, .aload_n 0, 1, 0, 0, 0), (28, .iconst 1, 1, 0, 0, 0), (29, .invokevirtual 182, 3, 109, 163, 2), (32, .ireturn, 1, 0, 0, 0)]
def cd_X9_left : List (Nat × cm_E) := [(0, .aload_n 0, 1, 0, 0, 0), (1, .iconst 0, 1, 0, 0, 0), (2, .putfield 79, 3, 0, 9, 0), (5, .aload_n 0, 1, 0, 0, 0), (6, .getfield 7, 3, 2, 9, 1), (9, .iconst 0, 1, 0, 0, 0), (10, .iaload, 1, 0, 0, 0), (11, .aload_n 0, 1, 0, 0, 0), (12, .getfield 7, 3, 2, 9, 1), (15, .iconst 3, 1, 0, 0, 0), (16, .iaload, 1, 0, 0, 0), (17, .isub, 1, 0, 0, 0), (18, .aload_n 0, 1, 0, 0, 0), (19, .getfield 19, 3, 2, 9, 4), (22, .sipush 244, 3, 0, 0, 0), (25, .iaload, 1, 0, 0, 0), (26, .isub, 1, 0, 0, 0), (27, .istore_n 1, 1, 0, 0, 0), (28, .iload_n 1, 1, 0, 0, 0), (29, .ifCond .ge 7, 3, 0, 0, 0), (32, .iconst 0, 1, 0, 0, 0), (33, .goto 16, 3, 0, 0, 0), (36, .iload_n 1, 1, 0, 0, 0), (37, .aload_n 0, 1, 0, 0, 0), (38, .iconst 3, 1, 0, 0, 0), (39, .aload_n 0, 1, 0, 0, 0), (40, .getfield 7, 3, 2, 9, 1), (43, .iconst 1, 1, 0, 0, 0), (44, .iaload, 1, 0, 0, 0), (45, .invokevirtual 388, 3, 109, 259, 3), (48, .idiv, 1, 0, 0, 0), (49, .ireturn, 1, 0, 0, 0)]
def cd_X9_endsNow : List (Nat × cm_E) := [(0, .aload_n 0, 1, 0, 0, 0), (1, .invokevirtual 366, 3, 109, 205, 1), (4, .ifCond .ne 5, 3, 0, 0, 0), (7, .iconst (-1), 1, 0, 0, 0), (8, .ireturn, 1, 0, 0, 0), (9, .aload_n 0, 1, 0, 0, 0), (10, .getfield 19, 3, 2, 9, 4), (13, .sipush 244, 3, 0, 0, 0), (16, .iaload, 1, 0, 0, 0), (17, .istore_n 1, 1, 0, 0, 0), (18, .aload_n 0, 1, 0, 0, 0), (19, .getfield 19, 3, 2, 9, 4), (22, .sipush 245, 3, 0, 0, 0), (25, .iaload, 1, 0, 0, 0), (26, .istore_n 2, 1, 0, 0, 0), (27, .aload_n 0, 1, 0, 0, 0), (28, .ldc_w 270, 3, 0, 1000000, 0), (31, .invokevirtual 271, 3, 109, 209, 2), (34, .istore_n 3, 1, 0, 0, 0), (35, .iload_n 3, 1, 0, 0, 0), (36, .ifCond .ne 14, 3, 0, 0, 0), (39, .aload_n 0, 1, 0, 0, 0), (40, .getfield 19, 3, 2, 9, 4), (43, .sipush 244, 3, 0, 0, 0), (46, .iaload, 1, 0, 0, 0), (47, .goto 5, 3, 0, 0, 0), (50, .bipush (-2), 2, 0, 0, 0), (52, .istore 4, 2, 0, 0, 0), (54, .aload_n 0, 1, 0, 0, 0), (55, .getfield 19, 3, 2, 9, 4), (58, .sipush 244, 3, 0, 0, 0), (61, .iload_n 1, 1, 0, 0, 0), (62, .iastore, 1, 0, 0, 0), (63, .aload_n 0, 1, 0, 0, 0), (64, .getfield 19, 3, 2, 9, 4), (67, .sipush 245, 3, 0, 0, 0), (70, .iload_n 2, 1, 0, 0, 0), (71, .iastore, 1, 0, 0, 0), (72, .iload 4, 2, 0, 0, 0), (74, .ireturn, 1, 0, 0, 0)]
def cd_X9_ends : List (Nat × cm_E) := [(0, .aload_n 0, 1, 0, 0, 0), (1, .iconst 0, 1, 0, 0, 0), (2, .putfield 79, 3, 0, 9, 0), (5, .aload_n 0, 1, 0, 0, 0), (6, .invokevirtual 391, 3, 109, 265, 1), (9, .ireturn, 1, 0, 0, 0)]
def cd_X9_toPack : List (Nat × cm_E) := [(0, .aload_n 0, 1, 0, 0, 0), (1, .iconst 0, 1, 0, 0, 0), (2, .putfield 79, 3, 0, 9, 0), (5, .iload_n 1, 1, 0, 0, 0), (6, .iconst 0, 1, 0, 0, 0), (7, .iconst 1, 1, 0, 0, 0), (8, .invokestatic 286, 3, 0, 164, 3), (11, .ifCond .ne 9, 3, 0, 0, 0), (14, .aload_n 0, 1, 0, 0, 0), (15, .iconst 1, 1, 0, 0, 0), (16, .invokevirtual 182, 3, 109, 163, 2), (19, .ireturn, 1, 0, 0, 0), (20, .aload_n 0, 1, 0, 0, 0), (21, .invokevirtual 248, 3, 109, 196, 1), (24, .ifCond .ne 5, 3, 0, 0, 0), (27, .iconst (-1), 1, 0, 0, 0), (28, .ireturn, 1, 0, 0, 0), (29, .iconst 2, 1, 0, 0, 0), (30, .istore_n 2, 1, 0, 0, 0), (31, .iconst 3, 1, 0, 0, 0), (32, .istore_n 3, 1, 0, 0, 0), (33, .iload_n 3, 1, 0, 0, 0), (34, .bipush 16, 2, 0, 0, 0), (36, .if_icmp .gt 36, 3, 0, 0, 0), (39, .aload_n 0, 1, 0, 0, 0), (40, .aload_n 0, 1, 0, 0, 0), (41, .invokevirtual 385, 3, 109, 260, 1), (44, .iload_n 3, 1, 0, 0, 0), (45, .invokevirtual 388, 3, 109, 259, 3), (48, .aload_n 0, 1, 0, 0, 0), (49, .aload_n 0, 1, 0, 0, 0), (50, .invokevirtual 385, 3, 109, 260, 1), (53, .iload_n 2, 1, 0, 0, 0), (54, .invokevirtual 388, 3, 109, 259, 3), (57, .if_icmp .ge 7, 3, 0, 0, 0), (60, .iload_n 3, 1, 0, 0, 0), (61, .goto 4, 3, 0, 0, 0), (64, .iload_n 2, 1, 0, 0, 0), (65, .istore_n 2, 1, 0, 0, 0), (66, .iinc 3 1, 3, 0, 0, 0), (69, .goto (-36), 3, 5, 0, 0), (72, .iload_n 1, 1, 0, 0, 0), (73, .ifCond .ne 7, 3, 0, 0, 0), (76, .iload_n 2, 1, 0, 0, 0), (77, .goto 12, 3, 0, 0, 0), (80, .aload_n 0, 1, 0, 0, 0), (81, .aload_n 0, 1, 0, 0, 0), (82, .invokevirtual 385, 3, 109, 260, 1), (85, .iload_n 2, 1, 0, 0, 0), (86, .invokevirtual 388, 3, 109, 259, 3), (89, .ireturn, 1, 0, 0, 0)]
def cd_X9_guess : List (Nat × cm_E) := [(0, .aload_n 0, 1, 0, 0, 0), (1, .iconst 0, 1, 0, 0, 0), (2, .putfield 79, 3, 0, 9, 0), (5, .iload_n 2, 1, 0, 0, 0), (6, .iconst 0, 1, 0, 0, 0), (7, .iconst 1, 1, 0, 0, 0), (8, .invokestatic 286, 3, 0, 164, 3), (11, .ifCond .ne 9, 3, 0, 0, 0), (14, .aload_n 0, 1, 0, 0, 0), (15, .iconst 1, 1, 0, 0, 0), (16, .invokevirtual 182, 3, 109, 163, 2), (19, .ireturn, 1, 0, 0, 0), (20, .iconst 0, 1, 0, 0, 0), (21, .istore_n 3, 1, 0, 0, 0), (22, .iconst (-1), 1, 0, 0, 0), (23, .istore 4, 2, 0, 0, 0), (25, .iconst 0, 1, 0, 0, 0), (26, .istore 5, 2, 0, 0, 0), (28, .iload 5, 2, 0, 0, 0), (30, .aload_n 0, 1, 0, 0, 0), (31, .getfield 7, 3, 2, 9, 1), (34, .iconst 0, 1, 0, 0, 0), (35, .iaload, 1, 0, 0, 0), (36, .if_icmp .ge 73, 3, 0, 0, 0), (39, .aload_n 0, 1, 0, 0, 0), (40, .iload 5, 2, 0, 0, 0), (42, .invokevirtual 260, 3, 109, 183, 2), (45, .ifCond .eq 6, 3, 0, 0, 0), (48, .goto 55, 3, 0, 0, 0), (51, .aload_n 0, 1, 0, 0, 0), (52, .iload 5, 2, 0, 0, 0), (54, .putfield 38, 3, 0, 9, 21), (57, .aload_n 0, 1, 0, 0, 0), (58, .invokevirtual 391, 3, 109, 265, 1), (61, .iload_n 1, 1, 0, 0, 0), (62, .if_icmp .ne 7, 3, 0, 0, 0), (65, .iconst 1, 1, 0, 0, 0), (66, .goto 4, 3, 0, 0, 0), (69, .iconst 0, 1, 0, 0, 0), (70, .istore 6, 2, 0, 0, 0), (72, .aload_n 0, 1, 0, 0, 0), (73, .iconst (-1), 1, 0, 0, 0), (74, .putfield 38, 3, 0, 9, 21), (77, .iload 6, 2, 0, 0, 0), (79, .ifCond .ne 6, 3, 0, 0, 0), (82, .goto 21, 3, 0, 0, 0), (85, .iinc 3 1, 3, 0, 0, 0), (88, .iload 4, 2, 0, 0, 0), (90, .iconst (-1), 1, 0, 0, 0), (91, .if_icmp .ne 8, 3, 0, 0, 0), (94, .iload 5, 2, 0, 0, 0), (96, .goto 5, 3, 0, 0, 0), (99, .iload 4, 2, 0, 0, 0), (101, .istore 4, 2, 0, 0, 0), (103, .iinc 5 1, 3, 0, 0, 0), (106, .goto (-78), 3, 7, 0, 0), (109, .iload_n 2, 1, 0, 0, 0), (110, .ifCond .ne 7, 3, 0, 0, 0), (113, .iload_n 3, 1, 0, 0, 0), (114, .goto 5, 3, 0, 0, 0), (117, .iload 4, 2, 0, 0, 0), (119, .ireturn, 1, 0, 0, 0)]
def cd_X9_powerOf : List (Nat × cm_E) := [(0, .lconst 1, 1, 0, 0, 0), (1, .lstore_n 2, 1, 0, 0, 0), (2, .iconst 0, 1, 0, 0, 0), (3, .istore 4, 2, 0, 0, 0), (5, .iload 4, 2, 0, 0, 0), (7, .iload_n 1, 1, 0, 0, 0), (8, .if_icmp .ge 14, 3, 0, 0, 0), (11, .lload_n 2, 1, 0, 0, 0), (12, .iload_n 0, 1, 0, 0, 0), (13, .i2l, 1, 0, 0, 0), (14, .lmul, 1, 0, 0, 0), (15, .lstore_n 2, 1, 0, 0, 0), (16, .iinc 4 1, 3, 0, 0, 0), (19, .goto (-14), 3, 6, 0, 0), (22, .lload_n 2, 1, 0, 0, 0), (23, .lreturn, 1, 0, 0, 0)]
def cd_X9_storms : List (Nat × cm_E) := [(0, .aload_n 0, 1, 0, 0, 0), (1, .iconst 0, 1, 0, 0, 0), (2, .putfield 79, 3, 0, 9, 0), (5, .iload_n 1, 1, 0, 0, 0), (6, .iconst 0, 1, 0, 0, 0), (7, .iconst 5, 1, 0, 0, 0), (8, .invokestatic 286, 3, 0, 164, 3), (11, .ifCond .eq 13, 3, 0, 0, 0), (14, .iload_n 2, 1, 0, 0, 0), (15, .iconst 0, 1, 0, 0, 0), (16, .bipush 10, 2, 0, 0, 0), (18, .invokestatic 286, 3, 0, 164, 3), (21, .ifCond .ne 10, 3, 0, 0, 0), (24, .aload_n 0, 1, 0, 0, 0), (25, .iconst 1, 1, 0, 0, 0), (26, .invokevirtual 182, 3, 109, 163, 2), (29, .i2l, 1, 0, 0, 0), (30, .lreturn, 1, 0, 0, 0), (31, .aload_n 0, 1, 0, 0, 0), (32, .invokevirtual 385, 3, 109, 260, 1), (35, .aload_n 0, 1, 0, 0, 0), (36, .getfield 7, 3, 2, 9, 1), (39, .iconst 1, 1, 0, 0, 0), (40, .iaload, 1, 0, 0, 0), (41, .invokestatic 235, 3, 0, 201, 2), (44, .istore_n 3, 1, 0, 0, 0), (45, .aload_n 0, 1, 0, 0, 0), (46, .invokevirtual 248, 3, 109, 196, 1), (49, .ifCond .eq 11, 3, 0, 0, 0), (52, .iload_n 3, 1, 0, 0, 0), (53, .iload_n 1, 1, 0, 0, 0), (54, .iadd, 1, 0, 0, 0), (55, .bipush 15, 2, 0, 0, 0), (57, .if_icmp .le 7, 3, 0, 0, 0), (60, .ldc2_w 394, 3, 0, 0, 0), (63, .lreturn, 1, 0, 0, 0), (64, .lconst 0, 1, 0, 0, 0), (65, .lstore 4, 2, 0, 0, 0), (67, .lconst 1, 1, 0, 0, 0), (68, .lstore 6, 2, 0, 0, 0), (70, .iconst 0, 1, 0, 0, 0), (71, .istore 8, 2, 0, 0, 0), (73, .iload 8, 2, 0, 0, 0), (75, .iload_n 1, 1, 0, 0, 0), (76, .if_icmp .gt 63, 3, 0, 0, 0), (79, .iload 8, 2, 0, 0, 0), (81, .ifCond .le 19, 3, 0, 0, 0), (84, .lload 6, 2, 0, 0, 0), (86, .iload_n 3, 1, 0, 0, 0), (87, .iload 8, 2, 0, 0, 0), (89, .iadd, 1, 0, 0, 0), (90, .iconst 1, 1, 0, 0, 0), (91, .isub, 1, 0, 0, 0), (92, .i2l, 1, 0, 0, 0), (93, .lmul, 1, 0, 0, 0), (94, .iload 8, 2, 0, 0, 0), (96, .i2l, 1, 0, 0, 0), (97, .ldiv, 1, 0, 0, 0), (98, .lstore 6, 2, 0, 0, 0), (100, .lload 4, 2, 0, 0, 0), (102, .lload 6, 2, 0, 0, 0), (104, .iload_n 2, 1, 0, 0, 0), (105, .iload 8, 2, 0, 0, 0), (107, .invokestatic 396, 3, 0, 269, 2), (110, .lmul, 1, 0, 0, 0), (111, .bipush 10, 2, 0, 0, 0), (113, .iload_n 2, 1, 0, 0, 0), (114, .isub, 1, 0, 0, 0), (115, .iload_n 3, 1, 0, 0, 0), (116, .invokestatic 396, 3, 0, 269, 2), (119, .lmul, 1, 0, 0, 0), (120, .bipush 10, 2, 0, 0, 0), (122, .iload_n 1, 1, 0, 0, 0), (123, .iload 8, 2, 0, 0, 0), (125, .isub, 1, 0, 0, 0), (126, .invokestatic 396, 3, 0, 269, 2), (129, .lmul, 1, 0, 0, 0), (130, .ladd, 1, 0, 0, 0), (131, .lstore 4, 2, 0, 0, 0), (133, .iinc 8 1, 3, 0, 0, 0), (136, .goto (-63), 3, 10, 0, 0), (139, .lload 4, 2, 0, 0, 0), (141, .lreturn, 1, 0, 0, 0)]
def cd_X9_draw : List (Nat × cm_E) := [(0, .aload_n 0, 1, 0, 0, 0), (1, .aload_n 0, 1, 0, 0, 0), (2, .getfield 400, 3, 0, 9, 31), (5, .ldc_w 403, 3, 0, 1103515245, 0), (8, .imul, 1, 0, 0, 0), (9, .sipush 12345, 3, 0, 0, 0), (12, .iadd, 1, 0, 0, 0), (13, .putfield 400, 3, 0, 9, 31), (16, .aload_n 0, 1, 0, 0, 0), (17, .getfield 400, 3, 0, 9, 31), (20, .bipush 16, 2, 0, 0, 0), (22, .ishr, 1, 0, 0, 0), (23, .sipush 32767, 3, 0, 0, 0), (26, .iand, 1, 0, 0, 0), (27, .iload_n 1, 1, 0, 0, 0), (28, .irem, 1, 0, 0, 0), (29, .ireturn, 1, 0, 0, 0)]
def cd_X9_happen : List (Nat × cm_E) := [(0, .aload_n 0, 1, 0, 0, 0), (1, .bipush 7, 2, 0, 0, 0), (3, .invokevirtual 404, 3, 109, 271, 2), (6, .istore_n 1, 1, 0, 0, 0), (7, .iload_n 1, 1, 0, 0, 0), (8, .iconst 2, 1, 0, 0, 0), (9, .if_icmp .ge 48, 3, 0, 0, 0), (12, .aload_n 0, 1, 0, 0, 0), (13, .bipush 12, 2, 0, 0, 0), (15, .invokevirtual 404, 3, 109, 271, 2), (18, .istore_n 2, 1, 0, 0, 0), (19, .aload_n 0, 1, 0, 0, 0), (20, .bipush 8, 2, 0, 0, 0), (22, .invokevirtual 404, 3, 109, 271, 2), (25, .istore_n 3, 1, 0, 0, 0), (26, .aload_n 0, 1, 0, 0, 0), (27, .sipush 1000, 3, 0, 0, 0), (30, .invokevirtual 404, 3, 109, 271, 2), (33, .istore 4, 2, 0, 0, 0), (35, .aload_n 0, 1, 0, 0, 0), (36, .iload_n 2, 1, 0, 0, 0), (37, .iload_n 3, 1, 0, 0, 0), (38, .iload 4, 2, 0, 0, 0), (40, .invokevirtual 344, 3, 109, 240, 4), (43, .ifCond .eq 11, 3, 0, 0, 0), (46, .aload_n 0, 1, 0, 0, 0), (47, .iload_n 2, 1, 0, 0, 0), (48, .iload_n 3, 1, 0, 0, 0), (49, .iload 4, 2, 0, 0, 0), (51, .invokevirtual 353, 3, 109, 242, 4), (54, .goto 113, 3, 0, 0, 0), (57, .iload_n 1, 1, 0, 0, 0), (58, .iconst 2, 1, 0, 0, 0), (59, .if_icmp .ne 26, 3, 0, 0, 0), (62, .aload_n 0, 1, 0, 0, 0), (63, .bipush 12, 2, 0, 0, 0), (65, .invokevirtual 404, 3, 109, 271, 2), (68, .istore_n 2, 1, 0, 0, 0), (69, .aload_n 0, 1, 0, 0, 0), (70, .iload_n 2, 1, 0, 0, 0), (71, .invokevirtual 314, 3, 109, 224, 2), (74, .ifCond .eq 8, 3, 0, 0, 0), (77, .aload_n 0, 1, 0, 0, 0), (78, .iload_n 2, 1, 0, 0, 0), (79, .invokevirtual 357, 3, 109, 245, 2), (82, .goto 85, 3, 0, 0, 0), (85, .iload_n 1, 1, 0, 0, 0), (86, .iconst 5, 1, 0, 0, 0), (87, .if_icmp .ge 18, 3, 0, 0, 0), (90, .aload_n 0, 1, 0, 0, 0), (91, .invokevirtual 366, 3, 109, 205, 1), (94, .ifCond .eq 73, 3, 0, 0, 0), (97, .aload_n 0, 1, 0, 0, 0), (98, .invokevirtual 369, 3, 109, 211, 1), (101, .pop, 1, 0, 0, 0), (102, .goto 65, 3, 0, 0, 0), (105, .iload_n 1, 1, 0, 0, 0), (106, .iconst 5, 1, 0, 0, 0), (107, .if_icmp .ne 33, 3, 0, 0, 0), (110, .aload_n 0, 1, 0, 0, 0), (111, .bipush 30, 2, 0, 0, 0), (113, .invokevirtual 404, 3, 109, 271, 2), (116, .istore_n 2, 1, 0, 0, 0), (117, .aload_n 0, 1, 0, 0, 0), (118, .invokevirtual 366, 3, 109, 205, 1), (121, .ifCond .eq 16, 3, 0, 0, 0), (124, .iload_n 2, 1, 0, 0, 0), (125, .aload_n 0, 1, 0, 0, 0), (126, .invokevirtual 372, 3, 109, 212, 1), (129, .if_icmp .ge 8, 3, 0, 0, 0), (132, .aload_n 0, 1, 0, 0, 0), (133, .iload_n 2, 1, 0, 0, 0), (134, .invokevirtual 375, 3, 109, 213, 2), (137, .goto 30, 3, 0, 0, 0), (140, .aload_n 0, 1, 0, 0, 0), (141, .iconst 2, 1, 0, 0, 0), (142, .invokevirtual 404, 3, 109, 271, 2), (145, .iconst 1, 1, 0, 0, 0), (146, .if_icmp .ne 7, 3, 0, 0, 0), (149, .iconst 1, 1, 0, 0, 0), (150, .goto 4, 3, 0, 0, 0), (153, .iconst 0, 1, 0, 0, 0), (154, .istore_n 2, 1, 0, 0, 0), (155, .aload_n 0, 1, 0, 0, 0), (156, .invokevirtual 378, 3, 109, 254, 1), (159, .ifCond .eq 8, 3, 0, 0, 0), (162, .aload_n 0, 1, 0, 0, 0), (163, .iload_n 2, 1, 0, 0, 0), (164, .invokevirtual 381, 3, 109, 255, 2), (167, .return_, 1, 0, 0, 0)]
def cd_X9_years : List (Nat × cm_E) := [(0, .aload_n 0, 1, 0, 0, 0), (1, .iconst 0, 1, 0, 0, 0), (2, .putfield 79, 3, 0, 9, 0), (5, .iload_n 3, 1, 0, 0, 0), (6, .iconst 0, 1, 0, 0, 0), (7, .iconst 2, 1, 0, 0, 0), (8, .invokestatic 286, 3, 0, 164, 3), (11, .ifCond .ne 9, 3, 0, 0, 0), (14, .aload_n 0, 1, 0, 0, 0), (15, .iconst 1, 1, 0, 0, 0), (16, .invokevirtual 182, 3, 109, 163, 2), (19, .ireturn, 1, 0, 0, 0), (20, .iload_n 2, 1, 0, 0, 0), (21, .iconst 0, 1, 0, 0, 0), (22, .bipush 60, 2, 0, 0, 0), (24, .invokestatic 286, 3, 0, 164, 3), (27, .ifCond .ne 9, 3, 0, 0, 0), (30, .aload_n 0, 1, 0, 0, 0), (31, .iconst 2, 1, 0, 0, 0), (32, .invokevirtual 182, 3, 109, 163, 2), (35, .ireturn, 1, 0, 0, 0), (36, .aload_n 0, 1, 0, 0, 0), (37, .getfield 57, 3, 2, 9, 32), (40, .aload_n 0, 1, 0, 0, 0), (41, .getfield 19, 3, 2, 9, 4), (44, .invokestatic 188, 3, 0, 237, 2), (47, .aload_n 0, 1, 0, 0, 0), (48, .iload_n 1, 1, 0, 0, 0), (49, .putfield 400, 3, 0, 9, 31), (52, .iconst 0, 1, 0, 0, 0), (53, .istore 4, 2, 0, 0, 0), (55, .iload 4, 2, 0, 0, 0), (57, .iload_n 2, 1, 0, 0, 0), (58, .if_icmp .ge 13, 3, 0, 0, 0), (61, .aload_n 0, 1, 0, 0, 0), (62, .invokevirtual 407, 3, 109, 272, 1), (65, .iinc 4 1, 3, 0, 0, 0), (68, .goto (-13), 3, 6, 0, 0), (71, .iload_n 3, 1, 0, 0, 0), (72, .ifCond .ne 23, 3, 0, 0, 0), (75, .aload_n 0, 1, 0, 0, 0), (76, .getfield 19, 3, 2, 9, 4), (79, .sipush 244, 3, 0, 0, 0), (82, .iaload, 1, 0, 0, 0), (83, .aload_n 0, 1, 0, 0, 0), (84, .getfield 57, 3, 2, 9, 32), (87, .sipush 244, 3, 0, 0, 0), (90, .iaload, 1, 0, 0, 0), (91, .isub, 1, 0, 0, 0), (92, .goto 32, 3, 0, 0, 0), (95, .iload_n 3, 1, 0, 0, 0), (96, .iconst 1, 1, 0, 0, 0), (97, .if_icmp .ne 10, 3, 0, 0, 0), (100, .aload_n 0, 1, 0, 0, 0), (101, .invokevirtual 290, 3, 109, 194, 1), (104, .goto 20, 3, 0, 0, 0), (107, .aload_n 0, 1, 0, 0, 0), (108, .getfield 19, 3, 2, 9, 4), (111, .sipush 245, 3, 0, 0, 0), (114, .iaload, 1, 0, 0, 0), (115, .aload_n 0, 1, 0, 0, 0), (116, .getfield 57, 3, 2, 9, 32), (119, .sipush 245, 3, 0, 0, 0), (122, .iaload, 1, 0, 0, 0), (123, .isub, 1, 0, 0, 0), (124, .istore 4, 2, 0, 0, 0), (126, .aload_n 0, 1, 0, 0, 0), (127, .getfield 19, 3, 2, 9, 4), (130, .aload_n 0, 1, 0, 0, 0), (131, .getfield 57, 3, 2, 9, 32), (134, .invokestatic 188, 3, 0, 237, 2), (137, .iload 4, 2, 0, 0, 0), (139, .ireturn, 1, 0, 0, 0)]
def cd_X9_image : List (Nat × cm_E) := [(0, .aload_n 0, 1, 0, 0, 0), (1, .iconst 0, 1, 0, 0, 0), (2, .putfield 79, 3, 0, 9, 0), (5, .aload_n 0, 1, 0, 0, 0), (6, .iconst 1, 1, 0, 0, 0), (7, .putfield 195, 3, 1, 9, 33), (10, .aload_n 0, 1, 0, 0, 0), (11, .aload_n 0, 1, 0, 0, 0), (12, .getfield 192, 3, 0, 9, 29), (15, .putfield 410, 3, 0, 9, 34), (18, .aload_n 0, 1, 0, 0, 0), (19, .getfield 60, 3, 2, 9, 35), (22, .aload_n 0, 1, 0, 0, 0), (23, .getfield 19, 3, 2, 9, 4), (26, .invokestatic 188, 3, 0, 237, 2), (29, .aload_n 0, 1, 0, 0, 0), (30, .getfield 63, 3, 2, 9, 36), (33, .aload_n 0, 1, 0, 0, 0), (34, .getfield 54, 3, 2, 9, 30), (37, .invokestatic 188, 3, 0, 237, 2), (40, .aload_n 0, 1, 0, 0, 0), (41, .getfield 66, 3, 2, 9, 37), (44, .aload_n 0, 1, 0, 0, 0), (45, .getfield 25, 3, 2, 9, 6), (48, .invokestatic 188, 3, 0, 237, 2), (51, .aload_n 0, 1, 0, 0, 0), (52, .getfield 69, 3, 2, 9, 38), (55, .aload_n 0, 1, 0, 0, 0), (56, .getfield 28, 3, 2, 9, 7), (59, .invokestatic 188, 3, 0, 237, 2), (62, .aload_n 0, 1, 0, 0, 0), (63, .getfield 72, 3, 2, 9, 39), (66, .aload_n 0, 1, 0, 0, 0), (67, .getfield 16, 3, 2, 9, 3), (70, .invokestatic 188, 3, 0, 237, 2), (73, .return_, 1, 0, 0, 0)]
def cd_X9_restore : List (Nat × cm_E) := [(0, .aload_n 0, 1, 0, 0, 0), (1, .iconst 0, 1, 0, 0, 0), (2, .putfield 79, 3, 0, 9, 0), (5, .aload_n 0, 1, 0, 0, 0), (6, .getfield 195, 3, 1, 9, 33), (9, .ifCond .ne 5, 3, 0, 0, 0), (12, .iconst 0, 1, 0, 0, 0), (13, .ireturn, 1, 1, 0, 0), (14, .aload_n 0, 1, 0, 0, 0), (15, .aload_n 0, 1, 0, 0, 0), (16, .getfield 410, 3, 0, 9, 34), (19, .putfield 192, 3, 0, 9, 29), (22, .aload_n 0, 1, 0, 0, 0), (23, .getfield 19, 3, 2, 9, 4), (26, .aload_n 0, 1, 0, 0, 0), (27, .getfield 60, 3, 2, 9, 35), (30, .invokestatic 188, 3, 0, 237, 2), (33, .aload_n 0, 1, 0, 0, 0), (34, .getfield 54, 3, 2, 9, 30), (37, .aload_n 0, 1, 0, 0, 0), (38, .getfield 63, 3, 2, 9, 36), (41, .invokestatic 188, 3, 0, 237, 2), (44, .aload_n 0, 1, 0, 0, 0), (45, .getfield 25, 3, 2, 9, 6), (48, .aload_n 0, 1, 0, 0, 0), (49, .getfield 66, 3, 2, 9, 37), (52, .invokestatic 188, 3, 0, 237, 2), (55, .aload_n 0, 1, 0, 0, 0), (56, .getfield 28, 3, 2, 9, 7), (59, .aload_n 0, 1, 0, 0, 0), (60, .getfield 69, 3, 2, 9, 38), (63, .invokestatic 188, 3, 0, 237, 2), (66, .aload_n 0, 1, 0, 0, 0), (67, .getfield 16, 3, 2, 9, 3), (70, .aload_n 0, 1, 0, 0, 0), (71, .getfield 72, 3, 2, 9, 39), (74, .invokestatic 188, 3, 0, 237, 2), (77, .iconst 1, 1, 0, 0, 0), (78, .ireturn, 1, 1, 0, 0)]
def cd_L_disc : List (Nat × cm_E) := [(0, .aload_n 2, 1, 0, 0, 0), (1, .iconst 0, 1, 0, 0, 0), (2, .aload_n 0, 1, 0, 0, 0), (3, .iload_n 1, 1, 0, 0, 0), (4, .invokevirtual 7, 3, 108, 103, 2), (7, .i2l, 1, 0, 0, 0), (8, .lastore, 1, 0, 0, 0), (9, .goto 6, 3, 0, 0, 0), (12, .astore_n 3, 1, 0, 0, 0), (13, .iconst 1, 1, 0, 0, 0), (14, .ireturn, 1, 0, 0, 0), (15, .iconst 0, 1, 0, 0, 0), (16, .ireturn, 1, 0, 0, 0)]
def cd_L_count : List (Nat × cm_E) := [(0, .aload_n 2, 1, 0, 0, 0), (1, .iconst 0, 1, 0, 0, 0), (2, .aload_n 0, 1, 0, 0, 0), (3, .iload_n 1, 1, 0, 0, 0), (4, .invokevirtual 15, 3, 108, 106, 2), (7, .i2l, 1, 0, 0, 0), (8, .lastore, 1, 0, 0, 0), (9, .goto 6, 3, 0, 0, 0), (12, .astore_n 3, 1, 0, 0, 0), (13, .iconst 1, 1, 0, 0, 0), (14, .ireturn, 1, 0, 0, 0), (15, .iconst 0, 1, 0, 0, 0), (16, .ireturn, 1, 0, 0, 0)]
def cd_L_block : List (Nat × cm_E) := [(0, .aload_n 3, 1, 0, 0, 0), (1, .iconst 0, 1, 0, 0, 0), (2, .aload_n 0, 1, 0, 0, 0), (3, .iload_n 1, 1, 0, 0, 0), (4, .iload_n 2, 1, 0, 0, 0), (5, .invokevirtual 20, 3, 108, 107, 3), (8, .i2l, 1, 0, 0, 0), (9, .lastore, 1, 0, 0, 0), (10, .goto 7, 3, 0, 0, 0), (13, .astore 4, 2, 0, 0, 0), (15, .iconst 1, 1, 0, 0, 0), (16, .ireturn, 1, 0, 0, 0), (17, .iconst 0, 1, 0, 0, 0), (18, .ireturn, 1, 0, 0, 0)]
def cd_L_tells : List (Nat × cm_E) := [(0, .aload_n 3, 1, 0, 0, 0), (1, .iconst 0, 1, 0, 0, 0), (2, .aload_n 0, 1, 0, 0, 0), (3, .iload_n 1, 1, 0, 0, 0), (4, .iload_n 2, 1, 0, 0, 0), (5, .invokevirtual 24, 3, 108, 108, 3), (8, .i2l, 1, 0, 0, 0), (9, .lastore, 1, 0, 0, 0), (10, .goto 7, 3, 0, 0, 0), (13, .astore 4, 2, 0, 0, 0), (15, .iconst 1, 1, 0, 0, 0), (16, .ireturn, 1, 0, 0, 0), (17, .iconst 0, 1, 0, 0, 0), (18, .ireturn, 1, 0, 0, 0)]
def cd_L_file : List (Nat × cm_E) := [(0, .aload_n 3, 1, 0, 0, 0), (1, .iconst 0, 1, 0, 0, 0), (2, .aload_n 0, 1, 0, 0, 0), (3, .iload_n 1, 1, 0, 0, 0), (4, .iload_n 2, 1, 0, 0, 0), (5, .invokevirtual 27, 3, 108, 111, 3), (8, .i2l, 1, 0, 0, 0), (9, .lastore, 1, 0, 0, 0), (10, .goto 7, 3, 0, 0, 0), (13, .astore 4, 2, 0, 0, 0), (15, .iconst 1, 1, 0, 0, 0), (16, .ireturn, 1, 0, 0, 0), (17, .iconst 0, 1, 0, 0, 0), (18, .ireturn, 1, 0, 0, 0)]
def cd_L_lie : List (Nat × cm_E) := [(0, .aload_n 3, 1, 0, 0, 0), (1, .iconst 0, 1, 0, 0, 0), (2, .aload_n 0, 1, 0, 0, 0), (3, .iload_n 1, 1, 0, 0, 0), (4, .iload_n 2, 1, 0, 0, 0), (5, .invokevirtual 30, 3, 108, 112, 3), (8, .i2l, 1, 0, 0, 0), (9, .lastore, 1, 0, 0, 0), (10, .goto 7, 3, 0, 0, 0), (13, .astore 4, 2, 0, 0, 0), (15, .iconst 1, 1, 0, 0, 0), (16, .ireturn, 1, 0, 0, 0), (17, .iconst 0, 1, 0, 0, 0), (18, .ireturn, 1, 0, 0, 0)]
def cd_L_read : List (Nat × cm_E) := [(0, .aload_n 3, 1, 0, 0, 0), (1, .iconst 0, 1, 0, 0, 0), (2, .aload_n 0, 1, 0, 0, 0), (3, .iload_n 1, 1, 0, 0, 0), (4, .iload_n 2, 1, 0, 0, 0), (5, .invokevirtual 33, 3, 108, 113, 3), (8, .i2l, 1, 0, 0, 0), (9, .lastore, 1, 0, 0, 0), (10, .goto 7, 3, 0, 0, 0), (13, .astore 4, 2, 0, 0, 0), (15, .iconst 1, 1, 0, 0, 0), (16, .ireturn, 1, 0, 0, 0), (17, .iconst 0, 1, 0, 0, 0), (18, .ireturn, 1, 0, 0, 0)]
def cd_L_past : List (Nat × cm_E) := [(0, .aload 4, 2, 0, 0, 0), (2, .iconst 0, 1, 0, 0, 0), (3, .aload_n 0, 1, 0, 0, 0), (4, .iload_n 1, 1, 0, 0, 0), (5, .iload_n 2, 1, 0, 0, 0), (6, .iload_n 3, 1, 0, 0, 0), (7, .invokevirtual 36, 3, 108, 115, 4), (10, .i2l, 1, 0, 0, 0), (11, .lastore, 1, 0, 0, 0), (12, .goto 7, 3, 0, 0, 0), (15, .astore 5, 2, 0, 0, 0), (17, .iconst 1, 1, 0, 0, 0), (18, .ireturn, 1, 0, 0, 0), (19, .iconst 0, 1, 0, 0, 0), (20, .ireturn, 1, 0, 0, 0)]
def cd_L_versions : List (Nat × cm_E) := [(0, .aload_n 2, 1, 0, 0, 0), (1, .iconst 0, 1, 0, 0, 0), (2, .aload_n 0, 1, 0, 0, 0), (3, .iload_n 1, 1, 0, 0, 0), (4, .invokevirtual 40, 3, 108, 119, 2), (7, .i2l, 1, 0, 0, 0), (8, .lastore, 1, 0, 0, 0), (9, .goto 6, 3, 0, 0, 0), (12, .astore_n 3, 1, 0, 0, 0), (13, .iconst 1, 1, 0, 0, 0), (14, .ireturn, 1, 0, 0, 0), (15, .iconst 0, 1, 0, 0, 0), (16, .ireturn, 1, 0, 0, 0)]
def cd_L_since : List (Nat × cm_E) := [(0, .aload 4, 2, 0, 0, 0), (2, .iconst 0, 1, 0, 0, 0), (3, .aload_n 0, 1, 0, 0, 0), (4, .iload_n 1, 1, 0, 0, 0), (5, .iload_n 2, 1, 0, 0, 0), (6, .iload_n 3, 1, 0, 0, 0), (7, .invokevirtual 43, 3, 108, 121, 4), (10, .i2l, 1, 0, 0, 0), (11, .lastore, 1, 0, 0, 0), (12, .goto 7, 3, 0, 0, 0), (15, .astore 5, 2, 0, 0, 0), (17, .iconst 1, 1, 0, 0, 0), (18, .ireturn, 1, 0, 0, 0), (19, .iconst 0, 1, 0, 0, 0), (20, .ireturn, 1, 0, 0, 0)]
def cd_L_alike : List (Nat × cm_E) := [(0, .aload_n 2, 1, 0, 0, 0), (1, .iconst 0, 1, 0, 0, 0), (2, .aload_n 0, 1, 0, 0, 0), (3, .iload_n 1, 1, 0, 0, 0), (4, .invokevirtual 46, 3, 108, 122, 2), (7, .i2l, 1, 0, 0, 0), (8, .lastore, 1, 0, 0, 0), (9, .goto 6, 3, 0, 0, 0), (12, .astore_n 3, 1, 0, 0, 0), (13, .iconst 1, 1, 0, 0, 0), (14, .ireturn, 1, 0, 0, 0), (15, .iconst 0, 1, 0, 0, 0), (16, .ireturn, 1, 0, 0, 0)]
def cd_L_cost : List (Nat × cm_E) := [(0, .aload_n 2, 1, 0, 0, 0), (1, .iconst 0, 1, 0, 0, 0), (2, .aload_n 0, 1, 0, 0, 0), (3, .iload_n 1, 1, 0, 0, 0), (4, .invokevirtual 49, 3, 108, 143, 2), (7, .i2l, 1, 0, 0, 0), (8, .lastore, 1, 0, 0, 0), (9, .goto 6, 3, 0, 0, 0), (12, .astore_n 3, 1, 0, 0, 0), (13, .iconst 1, 1, 0, 0, 0), (14, .ireturn, 1, 0, 0, 0), (15, .iconst 0, 1, 0, 0, 0), (16, .ireturn, 1, 0, 0, 0)]
def cd_L_found : List (Nat × cm_E) := [(0, .aload_n 2, 1, 0, 0, 0), (1, .iconst 0, 1, 0, 0, 0), (2, .aload_n 0, 1, 0, 0, 0), (3, .iload_n 1, 1, 0, 0, 0), (4, .invokevirtual 52, 3, 108, 145, 2), (7, .i2l, 1, 0, 0, 0), (8, .lastore, 1, 0, 0, 0), (9, .goto 6, 3, 0, 0, 0), (12, .astore_n 3, 1, 0, 0, 0), (13, .iconst 1, 1, 0, 0, 0), (14, .ireturn, 1, 0, 0, 0), (15, .iconst 0, 1, 0, 0, 0), (16, .ireturn, 1, 0, 0, 0)]
def cd_L_toPack : List (Nat × cm_E) := [(0, .aload_n 2, 1, 0, 0, 0), (1, .iconst 0, 1, 0, 0, 0), (2, .aload_n 0, 1, 0, 0, 0), (3, .iload_n 1, 1, 0, 0, 0), (4, .invokevirtual 55, 3, 108, 149, 2), (7, .i2l, 1, 0, 0, 0), (8, .lastore, 1, 0, 0, 0), (9, .goto 6, 3, 0, 0, 0), (12, .astore_n 3, 1, 0, 0, 0), (13, .iconst 1, 1, 0, 0, 0), (14, .ireturn, 1, 0, 0, 0), (15, .iconst 0, 1, 0, 0, 0), (16, .ireturn, 1, 0, 0, 0)]
def cd_L_guess : List (Nat × cm_E) := [(0, .aload_n 3, 1, 0, 0, 0), (1, .iconst 0, 1, 0, 0, 0), (2, .aload_n 0, 1, 0, 0, 0), (3, .iload_n 1, 1, 0, 0, 0), (4, .iload_n 2, 1, 0, 0, 0), (5, .invokevirtual 58, 3, 108, 152, 3), (8, .i2l, 1, 0, 0, 0), (9, .lastore, 1, 0, 0, 0), (10, .goto 7, 3, 0, 0, 0), (13, .astore 4, 2, 0, 0, 0), (15, .iconst 1, 1, 0, 0, 0), (16, .ireturn, 1, 0, 0, 0), (17, .iconst 0, 1, 0, 0, 0), (18, .ireturn, 1, 0, 0, 0)]
def cd_L_storms : List (Nat × cm_E) := [(0, .aload_n 3, 1, 0, 0, 0), (1, .iconst 0, 1, 0, 0, 0), (2, .aload_n 0, 1, 0, 0, 0), (3, .iload_n 1, 1, 0, 0, 0), (4, .iload_n 2, 1, 0, 0, 0), (5, .invokevirtual 61, 3, 108, 153, 3), (8, .lastore, 1, 0, 0, 0), (9, .goto 7, 3, 0, 0, 0), (12, .astore 4, 2, 0, 0, 0), (14, .iconst 1, 1, 0, 0, 0), (15, .ireturn, 1, 0, 0, 0), (16, .iconst 0, 1, 0, 0, 0), (17, .ireturn, 1, 0, 0, 0)]
def cd_L_years : List (Nat × cm_E) := [(0, .aload 4, 2, 0, 0, 0), (2, .iconst 0, 1, 0, 0, 0), (3, .aload_n 0, 1, 0, 0, 0), (4, .iload_n 1, 1, 0, 0, 0), (5, .iload_n 2, 1, 0, 0, 0), (6, .iload_n 3, 1, 0, 0, 0), (7, .invokevirtual 65, 3, 108, 155, 4), (10, .i2l, 1, 0, 0, 0), (11, .lastore, 1, 0, 0, 0), (12, .goto 11, 3, 0, 0, 0), (15, .astore 5, 2, 0, 0, 0), (17, .iconst 1, 1, 0, 0, 0), (18, .ireturn, 1, 0, 0, 0), (19, .astore 5, 2, 0, 0, 0), (21, .iconst 2, 1, 0, 0, 0), (22, .ireturn, 1, 0, 0, 0), (23, .iconst 0, 1, 0, 0, 0), (24, .ireturn, 1, 0, 0, 0)]
def cd_L_law : List (Nat × cm_E) := [(0, .new 8, 3, 0, 8, 14), (3, .dup, 1, 0, 0, 0), (4, .invokespecial 68, 3, 108, 100, 1), (7, .astore_n 1, 1, 0, 0, 0), (8, .new 69, 3, 0, 9, 40), (11, .dup, 1, 0, 0, 0), (12, .invokespecial 71, 3, 109, 161, 1), (15, .astore_n 2, 1, 0, 0, 0), (16, .iconst 1, 1, 0, 0, 0), (17, .newarray .long, 2, 0, 0, 0), (19, .astore_n 3, 1, 0, 0, 0), (20, .iconst 0, 1, 0, 0, 0), (21, .istore 4, 2, 0, 0, 0), (23, .iload 4, 2, 0, 0, 0), (25, .aload_n 0, 1, 0, 0, 0), (26, .arraylength, 1, 0, 0, 0), (27, .bipush 6, 2, 0, 0, 0), (29, .isub, 1, 0, 0, 0), (30, .if_icmp .gt 1767, 3, 0, 0, 0), (33, .aload_n 0, 1, 0, 0, 0), (34, .iload 4, 2, 0, 0, 0), (36, .iaload, 1, 0, 0, 0), (37, .bipush 63, 2, 0, 0, 0), (39, .iand, 1, 0, 0, 0), (40, .tableswitch 1751 0 34 #[156, 229, 285, 298, 354, 422, 490, 558, 626, 694, 774, 830, 910, 966, 1015, 1052, 1077, 1114, 1151, 1188, 1201, 1226, 1267, 1292, 1305, 1361, 1374, 1430, 1443, 1456, 1512, 1580, 1647, 1727, 1738], 156, 0, 0, 0), (196, .aload_n 1, 1, 0, 0, 0), (197, .aload_n 0, 1, 0, 0, 0), (198, .iload 4, 2, 0, 0, 0), (200, .iconst 1, 1, 0, 0, 0), (201, .iadd, 1, 0, 0, 0), (202, .iaload, 1, 0, 0, 0), (203, .aload_n 0, 1, 0, 0, 0), (204, .iload 4, 2, 0, 0, 0), (206, .iconst 2, 1, 0, 0, 0), (207, .iadd, 1, 0, 0, 0), (208, .iaload, 1, 0, 0, 0), (209, .aload_n 0, 1, 0, 0, 0), (210, .iload 4, 2, 0, 0, 0), (212, .iconst 3, 1, 0, 0, 0), (213, .iadd, 1, 0, 0, 0), (214, .iaload, 1, 0, 0, 0), (215, .aload_n 0, 1, 0, 0, 0), (216, .iload 4, 2, 0, 0, 0), (218, .iconst 4, 1, 0, 0, 0), (219, .iadd, 1, 0, 0, 0), (220, .iaload, 1, 0, 0, 0), (221, .aload_n 0, 1, 0, 0, 0), (222, .iload 4, 2, 0, 0, 0), (224, .iconst 5, 1, 0, 0, 0), (225, .iadd, 1, 0, 0, 0), (226, .iaload, 1, 0, 0, 0), (227, .invokevirtual 72, 3, 108, 101, 6), (230, .aload_n 2, 1, 0, 0, 0), (231, .aload_n 0, 1, 0, 0, 0), (232, .iload 4, 2, 0, 0, 0), (234, .iconst 1, 1, 0, 0, 0), (235, .iadd, 1, 0, 0, 0), (236, .iaload, 1, 0, 0, 0), (237, .aload_n 0, 1, 0, 0, 0), (238, .iload 4, 2, 0, 0, 0), (240, .iconst 2, 1, 0, 0, 0), (241, .iadd, 1, 0, 0, 0), (242, .iaload, 1, 0, 0, 0), (243, .aload_n 0, 1, 0, 0, 0), (244, .iload 4, 2, 0, 0, 0), (246, .iconst 3, 1, 0, 0, 0), (247, .iadd, 1, 0, 0, 0), (248, .iaload, 1, 0, 0, 0), (249, .aload_n 0, 1, 0, 0, 0), (250, .iload 4, 2, 0, 0, 0), (252, .iconst 4, 1, 0, 0, 0), (253, .iadd, 1, 0, 0, 0), (254, .iaload, 1, 0, 0, 0), (255, .aload_n 0, 1, 0, 0, 0), (256, .iload 4, 2, 0, 0, 0), (258, .iconst 5, 1, 0, 0, 0), (259, .iadd, 1, 0, 0, 0), (260, .iaload, 1, 0, 0, 0), (261, .invokevirtual 76, 3, 109, 167, 6), (264, .if_icmp .eq 1527, 3, 0, 0, 0), (267, .iconst 0, 1, 0, 0, 0), (268, .ireturn, 1, 1, 0, 0), (269, .aload_n 1, 1, 0, 0, 0), (270, .aload_n 0, 1, 0, 0, 0), (271, .iload 4, 2, 0, 0, 0), (273, .iconst 1, 1, 0, 0, 0), (274, .iadd, 1, 0, 0, 0), (275, .iaload, 1, 0, 0, 0), (276, .aload_n 3, 1, 0, 0, 0), (277, .invokestatic 77, 3, 0, 276, 3), (280, .istore 5, 2, 0, 0, 0), (282, .aload_n 2, 1, 0, 0, 0), (283, .aload_n 0, 1, 0, 0, 0), (284, .iload 4, 2, 0, 0, 0), (286, .iconst 1, 1, 0, 0, 0), (287, .iadd, 1, 0, 0, 0), (288, .iaload, 1, 0, 0, 0), (289, .invokevirtual 82, 3, 109, 181, 2), (292, .istore 6, 2, 0, 0, 0), (294, .aload_n 2, 1, 0, 0, 0), (295, .invokevirtual 83, 3, 109, 162, 1), (298, .iload 5, 2, 0, 0, 0), (300, .if_icmp .eq 5, 3, 0, 0, 0), (303, .iconst 0, 1, 0, 0, 0), (304, .ireturn, 1, 1, 0, 0), (305, .iload 5, 2, 0, 0, 0), (307, .ifCond .ne 15, 3, 0, 0, 0), (310, .aload_n 3, 1, 0, 0, 0), (311, .iconst 0, 1, 0, 0, 0), (312, .laload, 1, 0, 0, 0), (313, .iload 6, 2, 0, 0, 0), (315, .i2l, 1, 0, 0, 0), (316, .lcmp, 1, 0, 0, 0), (317, .ifCond .eq 5, 3, 0, 0, 0), (320, .iconst 0, 1, 0, 0, 0), (321, .ireturn, 1, 1, 0, 0), (322, .goto 1469, 3, 0, 0, 0), (325, .aload_n 1, 1, 0, 0, 0), (326, .invokevirtual 87, 3, 108, 105, 1), (329, .aload_n 2, 1, 0, 0, 0), (330, .invokevirtual 90, 3, 109, 182, 1), (333, .if_icmp .eq 1458, 3, 0, 0, 0), (336, .iconst 0, 1, 0, 0, 0), (337, .ireturn, 1, 1, 0, 0), (338, .aload_n 1, 1, 0, 0, 0), (339, .aload_n 0, 1, 0, 0, 0), (340, .iload 4, 2, 0, 0, 0), (342, .iconst 1, 1, 0, 0, 0), (343, .iadd, 1, 0, 0, 0), (344, .iaload, 1, 0, 0, 0), (345, .aload_n 3, 1, 0, 0, 0), (346, .invokestatic 91, 3, 0, 277, 3), (349, .istore 5, 2, 0, 0, 0), (351, .aload_n 2, 1, 0, 0, 0), (352, .aload_n 0, 1, 0, 0, 0), (353, .iload 4, 2, 0, 0, 0), (355, .iconst 1, 1, 0, 0, 0), (356, .iadd, 1, 0, 0, 0), (357, .iaload, 1, 0, 0, 0), (358, .invokevirtual 93, 3, 109, 219, 2), (361, .istore 6, 2, 0, 0, 0), (363, .aload_n 2, 1, 0, 0, 0), (364, .invokevirtual 83, 3, 109, 162, 1), (367, .iload 5, 2, 0, 0, 0), (369, .if_icmp .eq 5, 3, 0, 0, 0), (372, .iconst 0, 1, 0, 0, 0), (373, .ireturn, 1, 1, 0, 0), (374, .iload 5, 2, 0, 0, 0), (376, .ifCond .ne 15, 3, 0, 0, 0), (379, .aload_n 3, 1, 0, 0, 0), (380, .iconst 0, 1, 0, 0, 0), (381, .laload, 1, 0, 0, 0), (382, .iload 6, 2, 0, 0, 0), (384, .i2l, 1, 0, 0, 0), (385, .lcmp, 1, 0, 0, 0), (386, .ifCond .eq 5, 3, 0, 0, 0), (389, .iconst 0, 1, 0, 0, 0), (390, .ireturn, 1, 1, 0, 0), (391, .goto 1400, 3, 0, 0, 0), (394, .aload_n 1, 1, 0, 0, 0), (395, .aload_n 0, 1, 0, 0, 0), (396, .iload 4, 2, 0, 0, 0), (398, .iconst 1, 1, 0, 0, 0), (399, .iadd, 1, 0, 0, 0), (400, .iaload, 1, 0, 0, 0), (401, .aload_n 0, 1, 0, 0, 0), (402, .iload 4, 2, 0, 0, 0), (404, .iconst 2, 1, 0, 0, 0), (405, .iadd, 1, 0, 0, 0), (406, .iaload, 1, 0, 0, 0), (407, .aload_n 3, 1, 0, 0, 0), (408, .invokestatic 94, 3, 0, 278, 4), (411, .istore 5, 2, 0, 0, 0), (413, .aload_n 2, 1, 0, 0, 0), (414, .aload_n 0, 1, 0, 0, 0), (415, .iload 4, 2, 0, 0, 0), (417, .iconst 1, 1, 0, 0, 0), (418, .iadd, 1, 0, 0, 0), (419, .iaload, 1, 0, 0, 0), (420, .aload_n 0, 1, 0, 0, 0), (421, .iload 4, 2, 0, 0, 0), (423, .iconst 2, 1, 0, 0, 0), (424, .iadd, 1, 0, 0, 0), (425, .iaload, 1, 0, 0, 0), (426, .invokevirtual 97, 3, 109, 221, 3), (429, .istore 6, 2, 0, 0, 0), (431, .aload_n 2, 1, 0, 0, 0), (432, .invokevirtual 83, 3, 109, 162, 1), (435, .iload 5, 2, 0, 0, 0), (437, .if_icmp .eq 5, 3, 0, 0, 0), (440, .iconst 0, 1, 0, 0, 0), (441, .ireturn, 1, 1, 0, 0), (442, .iload 5, 2, 0, 0, 0), (444, .ifCond .ne 15, 3, 0, 0, 0), (447, .aload_n 3, 1, 0, 0, 0), (448, .iconst 0, 1, 0, 0, 0), (449, .laload, 1, 0, 0, 0), (450, .iload 6, 2, 0, 0, 0), (452, .i2l, 1, 0, 0, 0), (453, .lcmp, 1, 0, 0, 0), (454, .ifCond .eq 5, 3, 0, 0, 0), (457, .iconst 0, 1, 0, 0, 0), (458, .ireturn, 1, 1, 0, 0), (459, .goto 1332, 3, 0, 0, 0), (462, .aload_n 1, 1, 0, 0, 0), (463, .aload_n 0, 1, 0, 0, 0), (464, .iload 4, 2, 0, 0, 0), (466, .iconst 1, 1, 0, 0, 0), (467, .iadd, 1, 0, 0, 0), (468, .iaload, 1, 0, 0, 0), (469, .aload_n 0, 1, 0, 0, 0), (470, .iload 4, 2, 0, 0, 0), (472, .iconst 2, 1, 0, 0, 0), (473, .iadd, 1, 0, 0, 0), (474, .iaload, 1, 0, 0, 0), (475, .aload_n 3, 1, 0, 0, 0), (476, .invokestatic 98, 3, 0, 279, 4), (479, .istore 5, 2, 0, 0, 0), (481, .aload_n 2, 1, 0, 0, 0), (482, .aload_n 0, 1, 0, 0, 0), (483, .iload 4, 2, 0, 0, 0), (485, .iconst 1, 1, 0, 0, 0), (486, .iadd, 1, 0, 0, 0), (487, .iaload, 1, 0, 0, 0), (488, .aload_n 0, 1, 0, 0, 0), (489, .iload 4, 2, 0, 0, 0), (491, .iconst 2, 1, 0, 0, 0), (492, .iadd, 1, 0, 0, 0), (493, .iaload, 1, 0, 0, 0), (494, .invokevirtual 100, 3, 109, 222, 3), (497, .istore 6, 2, 0, 0, 0), (499, .aload_n 2, 1, 0, 0, 0), (500, .invokevirtual 83, 3, 109, 162, 1), (503, .iload 5, 2, 0, 0, 0), (505, .if_icmp .eq 5, 3, 0, 0, 0), (508, .iconst 0, 1, 0, 0, 0), (509, .ireturn, 1, 1, 0, 0), (510, .iload 5, 2, 0, 0, 0), (512, .ifCond .ne 15, 3, 0, 0, 0), (515, .aload_n 3, 1, 0, 0, 0), (516, .iconst 0, 1, 0, 0, 0), (517, .laload, 1, 0, 0, 0), (518, .iload 6, 2, 0, 0, 0), (520, .i2l, 1, 0, 0, 0), (521, .lcmp, 1, 0, 0, 0), (522, .ifCond .eq 5, 3, 0, 0, 0), (525, .iconst 0, 1, 0, 0, 0), (526, .ireturn, 1, 1, 0, 0), (527, .goto 1264, 3, 0, 0, 0), (530, .aload_n 1, 1, 0, 0, 0), (531, .aload_n 0, 1, 0, 0, 0), (532, .iload 4, 2, 0, 0, 0), (534, .iconst 1, 1, 0, 0, 0), (535, .iadd, 1, 0, 0, 0), (536, .iaload, 1, 0, 0, 0), (537, .aload_n 0, 1, 0, 0, 0), (538, .iload 4, 2, 0, 0, 0), (540, .iconst 2, 1, 0, 0, 0), (541, .iadd, 1, 0, 0, 0), (542, .iaload, 1, 0, 0, 0), (543, .aload_n 3, 1, 0, 0, 0), (544, .invokestatic 101, 3, 0, 280, 4), (547, .istore 5, 2, 0, 0, 0), (549, .aload_n 2, 1, 0, 0, 0), (550, .aload_n 0, 1, 0, 0, 0), (551, .iload 4, 2, 0, 0, 0), (553, .iconst 1, 1, 0, 0, 0), (554, .iadd, 1, 0, 0, 0), (555, .iaload, 1, 0, 0, 0), (556, .aload_n 0, 1, 0, 0, 0), (557, .iload 4, 2, 0, 0, 0), (559, .iconst 2, 1, 0, 0, 0), (560, .iadd, 1, 0, 0, 0), (561, .iaload, 1, 0, 0, 0), (562, .invokevirtual 103, 3, 109, 225, 3), (565, .istore 6, 2, 0, 0, 0), (567, .aload_n 2, 1, 0, 0, 0), (568, .invokevirtual 83, 3, 109, 162, 1), (571, .iload 5, 2, 0, 0, 0), (573, .if_icmp .eq 5, 3, 0, 0, 0), (576, .iconst 0, 1, 0, 0, 0), (577, .ireturn, 1, 1, 0, 0), (578, .iload 5, 2, 0, 0, 0), (580, .ifCond .ne 15, 3, 0, 0, 0), (583, .aload_n 3, 1, 0, 0, 0), (584, .iconst 0, 1, 0, 0, 0), (585, .laload, 1, 0, 0, 0), (586, .iload 6, 2, 0, 0, 0), (588, .i2l, 1, 0, 0, 0), (589, .lcmp, 1, 0, 0, 0), (590, .ifCond .eq 5, 3, 0, 0, 0), (593, .iconst 0, 1, 0, 0, 0), (594, .ireturn, 1, 1, 0, 0), (595, .goto 1196, 3, 0, 0, 0), (598, .aload_n 1, 1, 0, 0, 0), (599, .aload_n 0, 1, 0, 0, 0), (600, .iload 4, 2, 0, 0, 0), (602, .iconst 1, 1, 0, 0, 0), (603, .iadd, 1, 0, 0, 0), (604, .iaload, 1, 0, 0, 0), (605, .aload_n 0, 1, 0, 0, 0), (606, .iload 4, 2, 0, 0, 0), (608, .iconst 2, 1, 0, 0, 0), (609, .iadd, 1, 0, 0, 0), (610, .iaload, 1, 0, 0, 0), (611, .aload_n 3, 1, 0, 0, 0), (612, .invokestatic 104, 3, 0, 281, 4), (615, .istore 5, 2, 0, 0, 0), (617, .aload_n 2, 1, 0, 0, 0), (618, .aload_n 0, 1, 0, 0, 0), (619, .iload 4, 2, 0, 0, 0), (621, .iconst 1, 1, 0, 0, 0), (622, .iadd, 1, 0, 0, 0), (623, .iaload, 1, 0, 0, 0), (624, .aload_n 0, 1, 0, 0, 0), (625, .iload 4, 2, 0, 0, 0), (627, .iconst 2, 1, 0, 0, 0), (628, .iadd, 1, 0, 0, 0), (629, .iaload, 1, 0, 0, 0), (630, .invokevirtual 106, 3, 109, 228, 3), (633, .istore 6, 2, 0, 0, 0), (635, .aload_n 2, 1, 0, 0, 0), (636, .invokevirtual 83, 3, 109, 162, 1), (639, .iload 5, 2, 0, 0, 0), (641, .if_icmp .eq 5, 3, 0, 0, 0), (644, .iconst 0, 1, 0, 0, 0), (645, .ireturn, 1, 1, 0, 0), (646, .iload 5, 2, 0, 0, 0), (648, .ifCond .ne 15, 3, 0, 0, 0), (651, .aload_n 3, 1, 0, 0, 0), (652, .iconst 0, 1, 0, 0, 0), (653, .laload, 1, 0, 0, 0), (654, .iload 6, 2, 0, 0, 0), (656, .i2l, 1, 0, 0, 0), (657, .lcmp, 1, 0, 0, 0), (658, .ifCond .eq 5, 3, 0, 0, 0), (661, .iconst 0, 1, 0, 0, 0), (662, .ireturn, 1, 1, 0, 0), (663, .goto 1128, 3, 0, 0, 0), (666, .aload_n 1, 1, 0, 0, 0), (667, .aload_n 0, 1, 0, 0, 0), (668, .iload 4, 2, 0, 0, 0), (670, .iconst 1, 1, 0, 0, 0), (671, .iadd, 1, 0, 0, 0), (672, .iaload, 1, 0, 0, 0), (673, .aload_n 0, 1, 0, 0, 0), (674, .iload 4, 2, 0, 0, 0), (676, .iconst 2, 1, 0, 0, 0), (677, .iadd, 1, 0, 0, 0), (678, .iaload, 1, 0, 0, 0), (679, .aload_n 3, 1, 0, 0, 0), (680, .invokestatic 107, 3, 0, 282, 4), (683, .istore 5, 2, 0, 0, 0), (685, .aload_n 2, 1, 0, 0, 0), (686, .aload_n 0, 1, 0, 0, 0), (687, .iload 4, 2, 0, 0, 0), (689, .iconst 1, 1, 0, 0, 0), (690, .iadd, 1, 0, 0, 0), (691, .iaload, 1, 0, 0, 0), (692, .aload_n 0, 1, 0, 0, 0), (693, .iload 4, 2, 0, 0, 0), (695, .iconst 2, 1, 0, 0, 0), (696, .iadd, 1, 0, 0, 0), (697, .iaload, 1, 0, 0, 0), (698, .invokevirtual 109, 3, 109, 226, 3), (701, .istore 6, 2, 0, 0, 0), (703, .aload_n 2, 1, 0, 0, 0), (704, .invokevirtual 83, 3, 109, 162, 1), (707, .iload 5, 2, 0, 0, 0), (709, .if_icmp .eq 5, 3, 0, 0, 0), (712, .iconst 0, 1, 0, 0, 0), (713, .ireturn, 1, 1, 0, 0), (714, .iload 5, 2, 0, 0, 0), (716, .ifCond .ne 15, 3, 0, 0, 0), (719, .aload_n 3, 1, 0, 0, 0), (720, .iconst 0, 1, 0, 0, 0), (721, .laload, 1, 0, 0, 0), (722, .iload 6, 2, 0, 0, 0), (724, .i2l, 1, 0, 0, 0), (725, .lcmp, 1, 0, 0, 0), (726, .ifCond .eq 5, 3, 0, 0, 0), (729, .iconst 0, 1, 0, 0, 0), (730, .ireturn, 1, 1, 0, 0), (731, .goto 1060, 3, 0, 0, 0), (734, .aload_n 1, 1, 0, 0, 0), (735, .aload_n 0, 1, 0, 0, 0), (736, .iload 4, 2, 0, 0, 0), (738, .iconst 1, 1, 0, 0, 0), (739, .iadd, 1, 0, 0, 0), (740, .iaload, 1, 0, 0, 0), (741, .aload_n 0, 1, 0, 0, 0), (742, .iload 4, 2, 0, 0, 0), (744, .iconst 2, 1, 0, 0, 0), (745, .iadd, 1, 0, 0, 0), (746, .iaload, 1, 0, 0, 0), (747, .aload_n 0, 1, 0, 0, 0), (748, .iload 4, 2, 0, 0, 0), (750, .iconst 3, 1, 0, 0, 0), (751, .iadd, 1, 0, 0, 0), (752, .iaload, 1, 0, 0, 0), (753, .aload_n 3, 1, 0, 0, 0), (754, .invokestatic 110, 3, 0, 283, 5), (757, .istore 5, 2, 0, 0, 0), (759, .aload_n 2, 1, 0, 0, 0), (760, .aload_n 0, 1, 0, 0, 0), (761, .iload 4, 2, 0, 0, 0), (763, .iconst 1, 1, 0, 0, 0), (764, .iadd, 1, 0, 0, 0), (765, .iaload, 1, 0, 0, 0), (766, .aload_n 0, 1, 0, 0, 0), (767, .iload 4, 2, 0, 0, 0), (769, .iconst 2, 1, 0, 0, 0), (770, .iadd, 1, 0, 0, 0), (771, .iaload, 1, 0, 0, 0), (772, .aload_n 0, 1, 0, 0, 0), (773, .iload 4, 2, 0, 0, 0), (775, .iconst 3, 1, 0, 0, 0), (776, .iadd, 1, 0, 0, 0), (777, .iaload, 1, 0, 0, 0), (778, .invokevirtual 113, 3, 109, 230, 4), (781, .istore 6, 2, 0, 0, 0), (783, .aload_n 2, 1, 0, 0, 0), (784, .invokevirtual 83, 3, 109, 162, 1), (787, .iload 5, 2, 0, 0, 0), (789, .if_icmp .eq 5, 3, 0, 0, 0), (792, .iconst 0, 1, 0, 0, 0), (793, .ireturn, 1, 1, 0, 0), (794, .iload 5, 2, 0, 0, 0), (796, .ifCond .ne 15, 3, 0, 0, 0), (799, .aload_n 3, 1, 0, 0, 0), (800, .iconst 0, 1, 0, 0, 0), (801, .laload, 1, 0, 0, 0), (802, .iload 6, 2, 0, 0, 0), (804, .i2l, 1, 0, 0, 0), (805, .lcmp, 1, 0, 0, 0), (806, .ifCond .eq 5, 3, 0, 0, 0), (809, .iconst 0, 1, 0, 0, 0), (810, .ireturn, 1, 1, 0, 0), (811, .goto 980, 3, 0, 0, 0), (814, .aload_n 1, 1, 0, 0, 0), (815, .aload_n 0, 1, 0, 0, 0), (816, .iload 4, 2, 0, 0, 0), (818, .iconst 1, 1, 0, 0, 0), (819, .iadd, 1, 0, 0, 0), (820, .iaload, 1, 0, 0, 0), (821, .aload_n 3, 1, 0, 0, 0), (822, .invokestatic 114, 3, 0, 284, 3), (825, .istore 5, 2, 0, 0, 0), (827, .aload_n 2, 1, 0, 0, 0), (828, .aload_n 0, 1, 0, 0, 0), (829, .iload 4, 2, 0, 0, 0), (831, .iconst 1, 1, 0, 0, 0), (832, .iadd, 1, 0, 0, 0), (833, .iaload, 1, 0, 0, 0), (834, .invokevirtual 116, 3, 109, 232, 2), (837, .istore 6, 2, 0, 0, 0), (839, .aload_n 2, 1, 0, 0, 0), (840, .invokevirtual 83, 3, 109, 162, 1), (843, .iload 5, 2, 0, 0, 0), (845, .if_icmp .eq 5, 3, 0, 0, 0), (848, .iconst 0, 1, 0, 0, 0), (849, .ireturn, 1, 1, 0, 0), (850, .iload 5, 2, 0, 0, 0), (852, .ifCond .ne 15, 3, 0, 0, 0), (855, .aload_n 3, 1, 0, 0, 0), (856, .iconst 0, 1, 0, 0, 0), (857, .laload, 1, 0, 0, 0), (858, .iload 6, 2, 0, 0, 0), (860, .i2l, 1, 0, 0, 0), (861, .lcmp, 1, 0, 0, 0), (862, .ifCond .eq 5, 3, 0, 0, 0), (865, .iconst 0, 1, 0, 0, 0), (866, .ireturn, 1, 1, 0, 0), (867, .goto 924, 3, 0, 0, 0), (870, .aload_n 1, 1, 0, 0, 0), (871, .aload_n 0, 1, 0, 0, 0), (872, .iload 4, 2, 0, 0, 0), (874, .iconst 1, 1, 0, 0, 0), (875, .iadd, 1, 0, 0, 0), (876, .iaload, 1, 0, 0, 0), (877, .aload_n 0, 1, 0, 0, 0), (878, .iload 4, 2, 0, 0, 0), (880, .iconst 2, 1, 0, 0, 0), (881, .iadd, 1, 0, 0, 0), (882, .iaload, 1, 0, 0, 0), (883, .aload_n 0, 1, 0, 0, 0), (884, .iload 4, 2, 0, 0, 0), (886, .iconst 3, 1, 0, 0, 0), (887, .iadd, 1, 0, 0, 0), (888, .iaload, 1, 0, 0, 0), (889, .aload_n 3, 1, 0, 0, 0), (890, .invokestatic 117, 3, 0, 285, 5), (893, .istore 5, 2, 0, 0, 0), (895, .aload_n 2, 1, 0, 0, 0), (896, .aload_n 0, 1, 0, 0, 0), (897, .iload 4, 2, 0, 0, 0), (899, .iconst 1, 1, 0, 0, 0), (900, .iadd, 1, 0, 0, 0), (901, .iaload, 1, 0, 0, 0), (902, .aload_n 0, 1, 0, 0, 0), (903, .iload 4, 2, 0, 0, 0), (905, .iconst 2, 1, 0, 0, 0), (906, .iadd, 1, 0, 0, 0), (907, .iaload, 1, 0, 0, 0), (908, .aload_n 0, 1, 0, 0, 0), (909, .iload 4, 2, 0, 0, 0), (911, .iconst 3, 1, 0, 0, 0), (912, .iadd, 1, 0, 0, 0), (913, .iaload, 1, 0, 0, 0), (914, .invokevirtual 119, 3, 109, 233, 4), (917, .istore 6, 2, 0, 0, 0), (919, .aload_n 2, 1, 0, 0, 0), (920, .invokevirtual 83, 3, 109, 162, 1), (923, .iload 5, 2, 0, 0, 0), (925, .if_icmp .eq 5, 3, 0, 0, 0), (928, .iconst 0, 1, 0, 0, 0), (929, .ireturn, 1, 1, 0, 0), (930, .iload 5, 2, 0, 0, 0), (932, .ifCond .ne 15, 3, 0, 0, 0), (935, .aload_n 3, 1, 0, 0, 0), (936, .iconst 0, 1, 0, 0, 0), (937, .laload, 1, 0, 0, 0), (938, .iload 6, 2, 0, 0, 0), (940, .i2l, 1, 0, 0, 0), (941, .lcmp, 1, 0, 0, 0), (942, .ifCond .eq 5, 3, 0, 0, 0), (945, .iconst 0, 1, 0, 0, 0), (946, .ireturn, 1, 1, 0, 0), (947, .goto 844, 3, 0, 0, 0), (950, .aload_n 1, 1, 0, 0, 0), (951, .aload_n 0, 1, 0, 0, 0), (952, .iload 4, 2, 0, 0, 0), (954, .iconst 1, 1, 0, 0, 0), (955, .iadd, 1, 0, 0, 0), (956, .iaload, 1, 0, 0, 0), (957, .aload_n 3, 1, 0, 0, 0), (958, .invokestatic 120, 3, 0, 286, 3), (961, .istore 5, 2, 0, 0, 0), (963, .aload_n 2, 1, 0, 0, 0), (964, .aload_n 0, 1, 0, 0, 0), (965, .iload 4, 2, 0, 0, 0), (967, .iconst 1, 1, 0, 0, 0), (968, .iadd, 1, 0, 0, 0), (969, .iaload, 1, 0, 0, 0), (970, .invokevirtual 122, 3, 109, 235, 2), (973, .istore 6, 2, 0, 0, 0), (975, .aload_n 2, 1, 0, 0, 0), (976, .invokevirtual 83, 3, 109, 162, 1), (979, .iload 5, 2, 0, 0, 0), (981, .if_icmp .eq 5, 3, 0, 0, 0), (984, .iconst 0, 1, 0, 0, 0), (985, .ireturn, 1, 1, 0, 0), (986, .iload 5, 2, 0, 0, 0), (988, .ifCond .ne 15, 3, 0, 0, 0), (991, .aload_n 3, 1, 0, 0, 0), (992, .iconst 0, 1, 0, 0, 0), (993, .laload, 1, 0, 0, 0), (994, .iload 6, 2, 0, 0, 0), (996, .i2l, 1, 0, 0, 0), (997, .lcmp, 1, 0, 0, 0), (998, .ifCond .eq 5, 3, 0, 0, 0), (1001, .iconst 0, 1, 0, 0, 0), (1002, .ireturn, 1, 1, 0, 0), (1003, .goto 788, 3, 0, 0, 0), (1006, .aload_n 1, 1, 0, 0, 0), (1007, .aload_n 0, 1, 0, 0, 0), (1008, .iload 4, 2, 0, 0, 0), (1010, .iconst 1, 1, 0, 0, 0), (1011, .iadd, 1, 0, 0, 0), (1012, .iaload, 1, 0, 0, 0), (1013, .aload_n 0, 1, 0, 0, 0), (1014, .iload 4, 2, 0, 0, 0), (1016, .iconst 2, 1, 0, 0, 0), (1017, .iadd, 1, 0, 0, 0), (1018, .iaload, 1, 0, 0, 0), (1019, .aload_n 0, 1, 0, 0, 0), (1020, .iload 4, 2, 0, 0, 0), (1022, .iconst 3, 1, 0, 0, 0), (1023, .iadd, 1, 0, 0, 0), (1024, .iaload, 1, 0, 0, 0), (1025, .invokevirtual 123, 3, 108, 123, 4), (1028, .aload_n 2, 1, 0, 0, 0), (1029, .aload_n 0, 1, 0, 0, 0), (1030, .iload 4, 2, 0, 0, 0), (1032, .iconst 1, 1, 0, 0, 0), (1033, .iadd, 1, 0, 0, 0), (1034, .iaload, 1, 0, 0, 0), (1035, .aload_n 0, 1, 0, 0, 0), (1036, .iload 4, 2, 0, 0, 0), (1038, .iconst 2, 1, 0, 0, 0), (1039, .iadd, 1, 0, 0, 0), (1040, .iaload, 1, 0, 0, 0), (1041, .aload_n 0, 1, 0, 0, 0), (1042, .iload 4, 2, 0, 0, 0), (1044, .iconst 3, 1, 0, 0, 0), (1045, .iadd, 1, 0, 0, 0), (1046, .iaload, 1, 0, 0, 0), (1047, .invokevirtual 126, 3, 109, 243, 4), (1050, .if_icmp .eq 741, 3, 0, 0, 0), (1053, .iconst 0, 1, 0, 0, 0), (1054, .ireturn, 1, 1, 0, 0), (1055, .aload_n 1, 1, 0, 0, 0), (1056, .aload_n 0, 1, 0, 0, 0), (1057, .iload 4, 2, 0, 0, 0), (1059, .iconst 1, 1, 0, 0, 0), (1060, .iadd, 1, 0, 0, 0), (1061, .iaload, 1, 0, 0, 0), (1062, .aload_n 0, 1, 0, 0, 0), (1063, .iload 4, 2, 0, 0, 0), (1065, .iconst 2, 1, 0, 0, 0), (1066, .iadd, 1, 0, 0, 0), (1067, .iaload, 1, 0, 0, 0), (1068, .invokevirtual 127, 3, 108, 125, 3), (1071, .aload_n 2, 1, 0, 0, 0), (1072, .aload_n 0, 1, 0, 0, 0), (1073, .iload 4, 2, 0, 0, 0), (1075, .iconst 1, 1, 0, 0, 0), (1076, .iadd, 1, 0, 0, 0), (1077, .iaload, 1, 0, 0, 0), (1078, .aload_n 0, 1, 0, 0, 0), (1079, .iload 4, 2, 0, 0, 0), (1081, .iconst 2, 1, 0, 0, 0), (1082, .iadd, 1, 0, 0, 0), (1083, .iaload, 1, 0, 0, 0), (1084, .invokevirtual 130, 3, 109, 244, 3), (1087, .if_icmp .eq 704, 3, 0, 0, 0), (1090, .iconst 0, 1, 0, 0, 0), (1091, .ireturn, 1, 1, 0, 0), (1092, .aload_n 1, 1, 0, 0, 0), (1093, .aload_n 0, 1, 0, 0, 0), (1094, .iload 4, 2, 0, 0, 0), (1096, .iconst 1, 1, 0, 0, 0), (1097, .iadd, 1, 0, 0, 0), (1098, .iaload, 1, 0, 0, 0), (1099, .invokevirtual 131, 3, 108, 126, 2), (1102, .aload_n 2, 1, 0, 0, 0), (1103, .aload_n 0, 1, 0, 0, 0), (1104, .iload 4, 2, 0, 0, 0), (1106, .iconst 1, 1, 0, 0, 0), (1107, .iadd, 1, 0, 0, 0), (1108, .iaload, 1, 0, 0, 0), (1109, .invokevirtual 134, 3, 109, 246, 2), (1112, .if_icmp .eq 679, 3, 0, 0, 0), (1115, .iconst 0, 1, 0, 0, 0), (1116, .ireturn, 1, 1, 0, 0), (1117, .aload_n 1, 1, 0, 0, 0), (1118, .aload_n 0, 1, 0, 0, 0), (1119, .iload 4, 2, 0, 0, 0), (1121, .iconst 1, 1, 0, 0, 0), (1122, .iadd, 1, 0, 0, 0), (1123, .iaload, 1, 0, 0, 0), (1124, .aload_n 0, 1, 0, 0, 0), (1125, .iload 4, 2, 0, 0, 0), (1127, .iconst 2, 1, 0, 0, 0), (1128, .iadd, 1, 0, 0, 0), (1129, .iaload, 1, 0, 0, 0), (1130, .invokevirtual 135, 3, 108, 127, 3), (1133, .aload_n 2, 1, 0, 0, 0), (1134, .aload_n 0, 1, 0, 0, 0), (1135, .iload 4, 2, 0, 0, 0), (1137, .iconst 1, 1, 0, 0, 0), (1138, .iadd, 1, 0, 0, 0), (1139, .iaload, 1, 0, 0, 0), (1140, .aload_n 0, 1, 0, 0, 0), (1141, .iload 4, 2, 0, 0, 0), (1143, .iconst 2, 1, 0, 0, 0), (1144, .iadd, 1, 0, 0, 0), (1145, .iaload, 1, 0, 0, 0), (1146, .invokevirtual 139, 3, 109, 249, 3), (1149, .if_icmp .eq 642, 3, 0, 0, 0), (1152, .iconst 0, 1, 0, 0, 0), (1153, .ireturn, 1, 1, 0, 0), (1154, .aload_n 1, 1, 0, 0, 0), (1155, .aload_n 0, 1, 0, 0, 0), (1156, .iload 4, 2, 0, 0, 0), (1158, .iconst 1, 1, 0, 0, 0), (1159, .iadd, 1, 0, 0, 0), (1160, .iaload, 1, 0, 0, 0), (1161, .aload_n 0, 1, 0, 0, 0), (1162, .iload 4, 2, 0, 0, 0), (1164, .iconst 2, 1, 0, 0, 0), (1165, .iadd, 1, 0, 0, 0), (1166, .iaload, 1, 0, 0, 0), (1167, .invokevirtual 140, 3, 108, 128, 3), (1170, .aload_n 2, 1, 0, 0, 0), (1171, .aload_n 0, 1, 0, 0, 0), (1172, .iload 4, 2, 0, 0, 0), (1174, .iconst 1, 1, 0, 0, 0), (1175, .iadd, 1, 0, 0, 0), (1176, .iaload, 1, 0, 0, 0), (1177, .aload_n 0, 1, 0, 0, 0), (1178, .iload 4, 2, 0, 0, 0), (1180, .iconst 2, 1, 0, 0, 0), (1181, .iadd, 1, 0, 0, 0), (1182, .iaload, 1, 0, 0, 0), (1183, .invokevirtual 143, 3, 109, 250, 3), (1186, .if_icmp .eq 605, 3, 0, 0, 0), (1189, .iconst 0, 1, 0, 0, 0), (1190, .ireturn, 1, 1, 0, 0), (1191, .aload_n 1, 1, 0, 0, 0), (1192, .aload_n 0, 1, 0, 0, 0), (1193, .iload 4, 2, 0, 0, 0), (1195, .iconst 1, 1, 0, 0, 0), (1196, .iadd, 1, 0, 0, 0), (1197, .iaload, 1, 0, 0, 0), (1198, .aload_n 0, 1, 0, 0, 0), (1199, .iload 4, 2, 0, 0, 0), (1201, .iconst 2, 1, 0, 0, 0), (1202, .iadd, 1, 0, 0, 0), (1203, .iaload, 1, 0, 0, 0), (1204, .invokevirtual 144, 3, 108, 129, 3), (1207, .aload_n 2, 1, 0, 0, 0), (1208, .aload_n 0, 1, 0, 0, 0), (1209, .iload 4, 2, 0, 0, 0), (1211, .iconst 1, 1, 0, 0, 0), (1212, .iadd, 1, 0, 0, 0), (1213, .iaload, 1, 0, 0, 0), (1214, .aload_n 0, 1, 0, 0, 0), (1215, .iload 4, 2, 0, 0, 0), (1217, .iconst 2, 1, 0, 0, 0), (1218, .iadd, 1, 0, 0, 0), (1219, .iaload, 1, 0, 0, 0), (1220, .invokevirtual 147, 3, 109, 251, 3), (1223, .if_icmp .eq 568, 3, 0, 0, 0), (1226, .iconst 0, 1, 0, 0, 0), (1227, .ireturn, 1, 1, 0, 0), (1228, .aload_n 1, 1, 0, 0, 0), (1229, .invokevirtual 148, 3, 108, 130, 1), (1232, .aload_n 2, 1, 0, 0, 0), (1233, .invokevirtual 151, 3, 109, 252, 1), (1236, .if_icmp .eq 555, 3, 0, 0, 0), (1239, .iconst 0, 1, 0, 0, 0), (1240, .ireturn, 1, 1, 0, 0), (1241, .aload_n 1, 1, 0, 0, 0), (1242, .aload_n 0, 1, 0, 0, 0), (1243, .iload 4, 2, 0, 0, 0), (1245, .iconst 1, 1, 0, 0, 0), (1246, .iadd, 1, 0, 0, 0), (1247, .iaload, 1, 0, 0, 0), (1248, .invokevirtual 152, 3, 108, 135, 2), (1251, .aload_n 2, 1, 0, 0, 0), (1252, .aload_n 0, 1, 0, 0, 0), (1253, .iload 4, 2, 0, 0, 0), (1255, .iconst 1, 1, 0, 0, 0), (1256, .iadd, 1, 0, 0, 0), (1257, .iaload, 1, 0, 0, 0), (1258, .invokevirtual 155, 3, 109, 253, 2), (1261, .if_icmp .eq 530, 3, 0, 0, 0), (1264, .iconst 0, 1, 0, 0, 0), (1265, .ireturn, 1, 1, 0, 0), (1266, .aload_n 1, 1, 0, 0, 0), (1267, .aload_n 0, 1, 0, 0, 0), (1268, .iload 4, 2, 0, 0, 0), (1270, .iconst 1, 1, 0, 0, 0), (1271, .iadd, 1, 0, 0, 0), (1272, .iaload, 1, 0, 0, 0), (1273, .ifCond .eq 7, 3, 0, 0, 0), (1276, .iconst 1, 1, 0, 0, 0), (1277, .goto 4, 3, 0, 0, 0), (1280, .iconst 0, 1, 0, 0, 0), (1281, .invokevirtual 156, 3, 108, 138, 2), (1284, .aload_n 2, 1, 0, 0, 0), (1285, .aload_n 0, 1, 0, 0, 0), (1286, .iload 4, 2, 0, 0, 0), (1288, .iconst 1, 1, 0, 0, 0), (1289, .iadd, 1, 0, 0, 0), (1290, .iaload, 1, 0, 0, 0), (1291, .ifCond .eq 7, 3, 0, 0, 0), (1294, .iconst 1, 1, 0, 0, 0), (1295, .goto 4, 3, 0, 0, 0), (1298, .iconst 0, 1, 0, 0, 0), (1299, .invokevirtual 160, 3, 109, 256, 2), (1302, .if_icmp .eq 489, 3, 0, 0, 0), (1305, .iconst 0, 1, 0, 0, 0), (1306, .ireturn, 1, 1, 0, 0), (1307, .aload_n 1, 1, 0, 0, 0), (1308, .aload_n 0, 1, 0, 0, 0), (1309, .iload 4, 2, 0, 0, 0), (1311, .iconst 1, 1, 0, 0, 0), (1312, .iadd, 1, 0, 0, 0), (1313, .iaload, 1, 0, 0, 0), (1314, .invokevirtual 161, 3, 108, 141, 2), (1317, .aload_n 2, 1, 0, 0, 0), (1318, .aload_n 0, 1, 0, 0, 0), (1319, .iload 4, 2, 0, 0, 0), (1321, .iconst 1, 1, 0, 0, 0), (1322, .iadd, 1, 0, 0, 0), (1323, .iaload, 1, 0, 0, 0), (1324, .invokevirtual 164, 3, 109, 257, 2), (1327, .if_icmp .eq 464, 3, 0, 0, 0), (1330, .iconst 0, 1, 0, 0, 0), (1331, .ireturn, 1, 1, 0, 0), (1332, .aload_n 1, 1, 0, 0, 0), (1333, .invokevirtual 165, 3, 108, 142, 1), (1336, .aload_n 2, 1, 0, 0, 0), (1337, .invokevirtual 168, 3, 109, 258, 1), (1340, .if_icmp .eq 451, 3, 0, 0, 0), (1343, .iconst 0, 1, 0, 0, 0), (1344, .ireturn, 1, 1, 0, 0), (1345, .aload_n 1, 1, 0, 0, 0), (1346, .aload_n 0, 1, 0, 0, 0), (1347, .iload 4, 2, 0, 0, 0), (1349, .iconst 1, 1, 0, 0, 0), (1350, .iadd, 1, 0, 0, 0), (1351, .iaload, 1, 0, 0, 0), (1352, .aload_n 3, 1, 0, 0, 0), (1353, .invokestatic 169, 3, 0, 287, 3), (1356, .istore 5, 2, 0, 0, 0), (1358, .aload_n 2, 1, 0, 0, 0), (1359, .aload_n 0, 1, 0, 0, 0), (1360, .iload 4, 2, 0, 0, 0), (1362, .iconst 1, 1, 0, 0, 0), (1363, .iadd, 1, 0, 0, 0), (1364, .iaload, 1, 0, 0, 0), (1365, .invokevirtual 171, 3, 109, 261, 2), (1368, .istore 6, 2, 0, 0, 0), (1370, .aload_n 2, 1, 0, 0, 0), (1371, .invokevirtual 83, 3, 109, 162, 1), (1374, .iload 5, 2, 0, 0, 0), (1376, .if_icmp .eq 5, 3, 0, 0, 0), (1379, .iconst 0, 1, 0, 0, 0), (1380, .ireturn, 1, 1, 0, 0), (1381, .iload 5, 2, 0, 0, 0), (1383, .ifCond .ne 15, 3, 0, 0, 0), (1386, .aload_n 3, 1, 0, 0, 0), (1387, .iconst 0, 1, 0, 0, 0), (1388, .laload, 1, 0, 0, 0), (1389, .iload 6, 2, 0, 0, 0), (1391, .i2l, 1, 0, 0, 0), (1392, .lcmp, 1, 0, 0, 0), (1393, .ifCond .eq 5, 3, 0, 0, 0), (1396, .iconst 0, 1, 0, 0, 0), (1397, .ireturn, 1, 1, 0, 0), (1398, .goto 393, 3, 0, 0, 0), (1401, .aload_n 1, 1, 0, 0, 0), (1402, .invokevirtual 172, 3, 108, 144, 1), (1405, .aload_n 2, 1, 0, 0, 0), (1406, .invokevirtual 175, 3, 109, 262, 1), (1409, .if_icmp .eq 382, 3, 0, 0, 0), (1412, .iconst 0, 1, 0, 0, 0), (1413, .ireturn, 1, 1, 0, 0), (1414, .aload_n 1, 1, 0, 0, 0), (1415, .aload_n 0, 1, 0, 0, 0), (1416, .iload 4, 2, 0, 0, 0), (1418, .iconst 1, 1, 0, 0, 0), (1419, .iadd, 1, 0, 0, 0), (1420, .iaload, 1, 0, 0, 0), (1421, .aload_n 3, 1, 0, 0, 0), (1422, .invokestatic 176, 3, 0, 288, 3), (1425, .istore 5, 2, 0, 0, 0), (1427, .aload_n 2, 1, 0, 0, 0), (1428, .aload_n 0, 1, 0, 0, 0), (1429, .iload 4, 2, 0, 0, 0), (1431, .iconst 1, 1, 0, 0, 0), (1432, .iadd, 1, 0, 0, 0), (1433, .iaload, 1, 0, 0, 0), (1434, .invokevirtual 178, 3, 109, 263, 2), (1437, .istore 6, 2, 0, 0, 0), (1439, .aload_n 2, 1, 0, 0, 0), (1440, .invokevirtual 83, 3, 109, 162, 1), (1443, .iload 5, 2, 0, 0, 0), (1445, .if_icmp .eq 5, 3, 0, 0, 0), (1448, .iconst 0, 1, 0, 0, 0), (1449, .ireturn, 1, 1, 0, 0), (1450, .iload 5, 2, 0, 0, 0), (1452, .ifCond .ne 15, 3, 0, 0, 0), (1455, .aload_n 3, 1, 0, 0, 0), (1456, .iconst 0, 1, 0, 0, 0), (1457, .laload, 1, 0, 0, 0), (1458, .iload 6, 2, 0, 0, 0), (1460, .i2l, 1, 0, 0, 0), (1461, .lcmp, 1, 0, 0, 0), (1462, .ifCond .eq 5, 3, 0, 0, 0), (1465, .iconst 0, 1, 0, 0, 0), (1466, .ireturn, 1, 1, 0, 0), (1467, .goto 324, 3, 0, 0, 0), (1470, .aload_n 1, 1, 0, 0, 0), (1471, .invokevirtual 179, 3, 108, 146, 1), (1474, .aload_n 2, 1, 0, 0, 0), (1475, .invokevirtual 182, 3, 109, 264, 1), (1478, .if_icmp .eq 313, 3, 0, 0, 0), (1481, .iconst 0, 1, 0, 0, 0), (1482, .ireturn, 1, 1, 0, 0), (1483, .aload_n 1, 1, 0, 0, 0), (1484, .invokevirtual 183, 3, 108, 147, 1), (1487, .aload_n 2, 1, 0, 0, 0), (1488, .invokevirtual 186, 3, 109, 266, 1), (1491, .if_icmp .eq 300, 3, 0, 0, 0), (1494, .iconst 0, 1, 0, 0, 0), (1495, .ireturn, 1, 1, 0, 0), (1496, .aload_n 1, 1, 0, 0, 0), (1497, .aload_n 0, 1, 0, 0, 0), (1498, .iload 4, 2, 0, 0, 0), (1500, .iconst 1, 1, 0, 0, 0), (1501, .iadd, 1, 0, 0, 0), (1502, .iaload, 1, 0, 0, 0), (1503, .aload_n 3, 1, 0, 0, 0), (1504, .invokestatic 187, 3, 0, 289, 3), (1507, .istore 5, 2, 0, 0, 0), (1509, .aload_n 2, 1, 0, 0, 0), (1510, .aload_n 0, 1, 0, 0, 0), (1511, .iload 4, 2, 0, 0, 0), (1513, .iconst 1, 1, 0, 0, 0), (1514, .iadd, 1, 0, 0, 0), (1515, .iaload, 1, 0, 0, 0), (1516, .invokevirtual 189, 3, 109, 267, 2), (1519, .istore 6, 2, 0, 0, 0), (1521, .aload_n 2, 1, 0, 0, 0), (1522, .invokevirtual 83, 3, 109, 162, 1), (1525, .iload 5, 2, 0, 0, 0), (1527, .if_icmp .eq 5, 3, 0, 0, 0), (1530, .iconst 0, 1, 0, 0, 0), (1531, .ireturn, 1, 1, 0, 0), (1532, .iload 5, 2, 0, 0, 0), (1534, .ifCond .ne 15, 3, 0, 0, 0), (1537, .aload_n 3, 1, 0, 0, 0), (1538, .iconst 0, 1, 0, 0, 0), (1539, .laload, 1, 0, 0, 0), (1540, .iload 6, 2, 0, 0, 0), (1542, .i2l, 1, 0, 0, 0), (1543, .lcmp, 1, 0, 0, 0), (1544, .ifCond .eq 5, 3, 0, 0, 0), (1547, .iconst 0, 1, 0, 0, 0), (1548, .ireturn, 1, 1, 0, 0), (1549, .goto 242, 3, 0, 0, 0), (1552, .aload_n 1, 1, 0, 0, 0), (1553, .aload_n 0, 1, 0, 0, 0), (1554, .iload 4, 2, 0, 0, 0), (1556, .iconst 1, 1, 0, 0, 0), (1557, .iadd, 1, 0, 0, 0), (1558, .iaload, 1, 0, 0, 0), (1559, .aload_n 0, 1, 0, 0, 0), (1560, .iload 4, 2, 0, 0, 0), (1562, .iconst 2, 1, 0, 0, 0), (1563, .iadd, 1, 0, 0, 0), (1564, .iaload, 1, 0, 0, 0), (1565, .aload_n 3, 1, 0, 0, 0), (1566, .invokestatic 190, 3, 0, 290, 4), (1569, .istore 5, 2, 0, 0, 0), (1571, .aload_n 2, 1, 0, 0, 0), (1572, .aload_n 0, 1, 0, 0, 0), (1573, .iload 4, 2, 0, 0, 0), (1575, .iconst 1, 1, 0, 0, 0), (1576, .iadd, 1, 0, 0, 0), (1577, .iaload, 1, 0, 0, 0), (1578, .aload_n 0, 1, 0, 0, 0), (1579, .iload 4, 2, 0, 0, 0), (1581, .iconst 2, 1, 0, 0, 0), (1582, .iadd, 1, 0, 0, 0), (1583, .iaload, 1, 0, 0, 0), (1584, .invokevirtual 192, 3, 109, 268, 3), (1587, .istore 6, 2, 0, 0, 0), (1589, .aload_n 2, 1, 0, 0, 0), (1590, .invokevirtual 83, 3, 109, 162, 1), (1593, .iload 5, 2, 0, 0, 0), (1595, .if_icmp .eq 5, 3, 0, 0, 0), (1598, .iconst 0, 1, 0, 0, 0), (1599, .ireturn, 1, 1, 0, 0), (1600, .iload 5, 2, 0, 0, 0), (1602, .ifCond .ne 15, 3, 0, 0, 0), (1605, .aload_n 3, 1, 0, 0, 0), (1606, .iconst 0, 1, 0, 0, 0), (1607, .laload, 1, 0, 0, 0), (1608, .iload 6, 2, 0, 0, 0), (1610, .i2l, 1, 0, 0, 0), (1611, .lcmp, 1, 0, 0, 0), (1612, .ifCond .eq 5, 3, 0, 0, 0), (1615, .iconst 0, 1, 0, 0, 0), (1616, .ireturn, 1, 1, 0, 0), (1617, .goto 174, 3, 0, 0, 0), (1620, .aload_n 1, 1, 0, 0, 0), (1621, .aload_n 0, 1, 0, 0, 0), (1622, .iload 4, 2, 0, 0, 0), (1624, .iconst 1, 1, 0, 0, 0), (1625, .iadd, 1, 0, 0, 0), (1626, .iaload, 1, 0, 0, 0), (1627, .aload_n 0, 1, 0, 0, 0), (1628, .iload 4, 2, 0, 0, 0), (1630, .iconst 2, 1, 0, 0, 0), (1631, .iadd, 1, 0, 0, 0), (1632, .iaload, 1, 0, 0, 0), (1633, .aload_n 3, 1, 0, 0, 0), (1634, .invokestatic 193, 3, 0, 291, 4), (1637, .istore 5, 2, 0, 0, 0), (1639, .aload_n 2, 1, 0, 0, 0), (1640, .aload_n 0, 1, 0, 0, 0), (1641, .iload 4, 2, 0, 0, 0), (1643, .iconst 1, 1, 0, 0, 0), (1644, .iadd, 1, 0, 0, 0), (1645, .iaload, 1, 0, 0, 0), (1646, .aload_n 0, 1, 0, 0, 0), (1647, .iload 4, 2, 0, 0, 0), (1649, .iconst 2, 1, 0, 0, 0), (1650, .iadd, 1, 0, 0, 0), (1651, .iaload, 1, 0, 0, 0), (1652, .invokevirtual 195, 3, 109, 270, 3), (1655, .lstore 6, 2, 0, 0, 0), (1657, .aload_n 2, 1, 0, 0, 0), (1658, .invokevirtual 83, 3, 109, 162, 1), (1661, .iload 5, 2, 0, 0, 0), (1663, .if_icmp .eq 5, 3, 0, 0, 0), (1666, .iconst 0, 1, 0, 0, 0), (1667, .ireturn, 1, 1, 0, 0), (1668, .iload 5, 2, 0, 0, 0), (1670, .ifCond .ne 14, 3, 0, 0, 0), (1673, .aload_n 3, 1, 0, 0, 0), (1674, .iconst 0, 1, 0, 0, 0), (1675, .laload, 1, 0, 0, 0), (1676, .lload 6, 2, 0, 0, 0), (1678, .lcmp, 1, 0, 0, 0), (1679, .ifCond .eq 5, 3, 0, 0, 0), (1682, .iconst 0, 1, 0, 0, 0), (1683, .ireturn, 1, 1, 0, 0), (1684, .goto 107, 3, 0, 0, 0), (1687, .aload_n 1, 1, 0, 0, 0), (1688, .aload_n 0, 1, 0, 0, 0), (1689, .iload 4, 2, 0, 0, 0), (1691, .iconst 1, 1, 0, 0, 0), (1692, .iadd, 1, 0, 0, 0), (1693, .iaload, 1, 0, 0, 0), (1694, .aload_n 0, 1, 0, 0, 0), (1695, .iload 4, 2, 0, 0, 0), (1697, .iconst 2, 1, 0, 0, 0), (1698, .iadd, 1, 0, 0, 0), (1699, .iaload, 1, 0, 0, 0), (1700, .aload_n 0, 1, 0, 0, 0), (1701, .iload 4, 2, 0, 0, 0), (1703, .iconst 3, 1, 0, 0, 0), (1704, .iadd, 1, 0, 0, 0), (1705, .iaload, 1, 0, 0, 0), (1706, .aload_n 3, 1, 0, 0, 0), (1707, .invokestatic 196, 3, 0, 292, 5), (1710, .istore 5, 2, 0, 0, 0), (1712, .aload_n 2, 1, 0, 0, 0), (1713, .aload_n 0, 1, 0, 0, 0), (1714, .iload 4, 2, 0, 0, 0), (1716, .iconst 1, 1, 0, 0, 0), (1717, .iadd, 1, 0, 0, 0), (1718, .iaload, 1, 0, 0, 0), (1719, .aload_n 0, 1, 0, 0, 0), (1720, .iload 4, 2, 0, 0, 0), (1722, .iconst 2, 1, 0, 0, 0), (1723, .iadd, 1, 0, 0, 0), (1724, .iaload, 1, 0, 0, 0), (1725, .aload_n 0, 1, 0, 0, 0), (1726, .iload 4, 2, 0, 0, 0), (1728, .iconst 3, 1, 0, 0, 0), (1729, .iadd, 1, 0, 0, 0), (1730, .iaload, 1, 0, 0, 0), (1731, .invokevirtual 198, 3, 109, 273, 4), (1734, .istore 6, 2, 0, 0, 0), (1736, .aload_n 2, 1, 0, 0, 0), (1737, .invokevirtual 83, 3, 109, 162, 1), (1740, .iload 5, 2, 0, 0, 0), (1742, .if_icmp .eq 5, 3, 0, 0, 0), (1745, .iconst 0, 1, 0, 0, 0), (1746, .ireturn, 1, 1, 0, 0), (1747, .iload 5, 2, 0, 0, 0), (1749, .ifCond .ne 15, 3, 0, 0, 0), (1752, .aload_n 3, 1, 0, 0, 0), (1753, .iconst 0, 1, 0, 0, 0), (1754, .laload, 1, 0, 0, 0), (1755, .iload 6, 2, 0, 0, 0), (1757, .i2l, 1, 0, 0, 0), (1758, .lcmp, 1, 0, 0, 0), (1759, .ifCond .eq 5, 3, 0, 0, 0), (1762, .iconst 0, 1, 0, 0, 0), (1763, .ireturn, 1, 1, 0, 0), (1764, .goto 27, 3, 0, 0, 0), (1767, .aload_n 1, 1, 0, 0, 0), (1768, .invokevirtual 199, 3, 108, 158, 1), (1771, .aload_n 2, 1, 0, 0, 0), (1772, .invokevirtual 202, 3, 109, 274, 1), (1775, .goto 16, 3, 0, 0, 0), (1778, .aload_n 1, 1, 0, 0, 0), (1779, .invokevirtual 203, 3, 108, 159, 1), (1782, .aload_n 2, 1, 0, 0, 0), (1783, .invokevirtual 207, 3, 109, 275, 1), (1786, .if_icmp .eq 5, 3, 0, 0, 0), (1789, .iconst 0, 1, 0, 0, 0), (1790, .ireturn, 1, 1, 0, 0), (1791, .iinc 4 6, 3, 0, 0, 0), (1794, .goto (-1771), 3, 6, 0, 0), (1797, .iconst 1, 1, 0, 0, 0), (1798, .ireturn, 1, 1, 0, 0)]
def cd_J7_fill_53178 : List (Nat × cm_E) := [(0, .iconst 0, 1, 0, 0, 0), (1, .istore_n 2, 1, 0, 0, 0), (2, .aload_n 0, 1, 0, 0, 0), (3, .arraylength, 1, 0, 0, 0), (4, .istore_n 3, 1, 0, 0, 0), (5, .iload_n 2, 1, 0, 0, 0), (6, .iload_n 3, 1, 0, 0, 0), (7, .if_icmp .ge 13, 3, 0, 0, 0), (10, .aload_n 0, 1, 0, 0, 0), (11, .iload_n 2, 1, 0, 0, 0), (12, .iload_n 1, 1, 0, 0, 0), (13, .iastore, 1, 0, 0, 0), (14, .iinc 2 1, 3, 0, 0, 0), (17, .goto (-12), 3, 5, 0, 0), (20, .return_, 1, 0, 0, 0)]
def cm_cd (y : Nat) : List (Nat × cm_E) := (if y < 147 then (if y < 73 then (if y < 36 then (if y < 18 then (if y < 9 then (if y < 4 then (if y < 2 then (if y < 1 then cd_X0_init else cd_X0_forget) else (if y < 3 then cd_X0_keep else cd_X0_takeBack)) else (if y < 6 then (if y < 5 then cd_X0_takeFrom else cd_X1_init) else (if y < 7 then cd_X1_plan else (if y < 8 then cd_X1_addFile else cd_X1_add)))) else (if y < 13 then (if y < 11 then (if y < 10 then cd_X1_lay else cd_X1_placePacket) else (if y < 12 then cd_X1_writeBlock else cd_X1_writeEntry)) else (if y < 15 then (if y < 14 then cd_X1_writeDirectory else cd_X1_writeMap) else (if y < 16 then cd_X2_init else (if y < 17 then cd_X2_takeOver else cd_X2_takeBlocks))))) else (if y < 27 then (if y < 22 then (if y < 20 then (if y < 19 then cd_X2_isBlock else cd_X2_isFaulty) else (if y < 21 then cd_X2_hasFaulty else cd_X2_kindOf)) else (if y < 24 then (if y < 23 then cd_X2_lengthOf else cd_X2_toldBy) else (if y < 25 then cd_X2_write else (if y < 26 then cd_X2_tell else cd_X2_packetsFor)))) else (if y < 31 then (if y < 29 then (if y < 28 then cd_X2_costOf else cd_X2_hasRoomForPacket) else (if y < 30 then cd_X2_wouldSpare else cd_X2_foresee)) else (if y < 33 then (if y < 32 then cd_X2_isGoodMap else cd_X2_lastGoodMap) else (if y < 34 then cd_X2_goodMaps else (if y < 35 then cd_X2_mapAlong else cd_X2_mapsAlong)))))) else (if y < 54 then (if y < 45 then (if y < 40 then (if y < 38 then (if y < 37 then cd_X2_entryBy else cd_X2_numberBy) else (if y < 39 then cd_X2_tellAlike else cd_X2_reach)) else (if y < 42 then (if y < 41 then cd_X2_reachBlock else cd_X2_mapsReaching) else (if y < 43 then cd_X2_deadBlocks else (if y < 44 then cd_X2_badBlocks else cd_X3_init)))) else (if y < 49 then (if y < 47 then (if y < 46 then cd_X3_draw else cd_X4_init) else (if y < 48 then cd_X5_init else cd_X5_readText)) else (if y < 51 then (if y < 50 then cd_X5_forgetAll else cd_X5_readClause) else (if y < 52 then cd_X5_fail else (if y < 53 then cd_X5_readSemicolon else cd_X5_readDisc))))) else (if y < 63 then (if y < 58 then (if y < 56 then (if y < 55 then cd_X5_readNumber else cd_X5_isFit) else (if y < 57 then cd_X5_readBad else cd_X5_readBadBlock)) else (if y < 60 then (if y < 59 then cd_X5_readFile else cd_X5_isTold) else (if y < 61 then cd_X5_readCell else (if y < 62 then cd_X6_init else cd_X6_takeFrom)))) else (if y < 68 then (if y < 65 then (if y < 64 then cd_X6_takeOver else cd_X6_dropFiles) else (if y < 66 then cd_X6_settleChanges else (if y < 67 then cd_X6_settle else cd_X6_mountMap))) else (if y < 70 then (if y < 69 then cd_X6_takeCells else cd_X6_putCell) else (if y < 71 then cd_X6_has else (if y < 72 then cd_X6_blockOf else cd_X6_numberOf))))))) else (if y < 110 then (if y < 91 then (if y < 82 then (if y < 77 then (if y < 75 then (if y < 74 then cd_X6_entryOf else cd_X6_nameOf) else (if y < 76 then cd_X6_freeVirtual else cd_X6_fileCount)) else (if y < 79 then (if y < 78 then cd_X6_changedCount else cd_X6_anyChanged) else (if y < 80 then cd_X6_newCells else (if y < 81 then cd_X6_newCount else cd_X6_contentCount)))) else (if y < 86 then (if y < 84 then (if y < 83 then cd_X6_canSet else cd_X6_setCell) else (if y < 85 then cd_X6_beginFile else cd_X6_eraseFile)) else (if y < 88 then (if y < 87 then cd_X6_forget else cd_X6_canGoTo) else (if y < 89 then cd_X6_renameFile else (if y < 90 then cd_X6_copyFile else cd_X6_copyCells))))) else (if y < 100 then (if y < 95 then (if y < 93 then (if y < 92 then cd_X6_isLike else cd_X6_runs) else (if y < 94 then cd_X6_farthest else cd_X7_init)) else (if y < 97 then (if y < 96 then cd_X7_begin else cd_X7_advance) else (if y < 98 then cd_X7_endOfRow else (if y < 99 then cd_X7_takeValue else cd_X7_isWord)))) else (if y < 105 then (if y < 102 then (if y < 101 then cd_X8_init else cd_X8_feed) else (if y < 103 then cd_X8_feedNumber else (if y < 104 then cd_X8_disc else cd_X8_beginAnew))) else (if y < 107 then (if y < 106 then cd_X8_fault else cd_X8_count) else (if y < 108 then cd_X8_block else (if y < 109 then cd_X8_tells else cd_X8_checkBlock)))))) else (if y < 128 then (if y < 119 then (if y < 114 then (if y < 112 then (if y < 111 then cd_X8_checkWhat else cd_X8_file) else (if y < 113 then cd_X8_lie else cd_X8_read)) else (if y < 116 then (if y < 115 then cd_X8_checkFile else cd_X8_past) else (if y < 117 then cd_X8_mapOrThrow else (if y < 118 then cd_X8_checkName else cd_X8_checkCell)))) else (if y < 123 then (if y < 121 then (if y < 120 then cd_X8_versions else cd_X8_isLikeOneOf) else (if y < 122 then cd_X8_since else cd_X8_alike)) else (if y < 125 then (if y < 124 then cd_X8_set else cd_X8_refuse) else (if y < 126 then cd_X8_cut else (if y < 127 then cd_X8_erase else cd_X8_rename))))) else (if y < 137 then (if y < 132 then (if y < 130 then (if y < 129 then cd_X8_copy else cd_X8_revert) else (if y < 131 then cd_X8_sync else cd_X8_packetsNow)) else (if y < 134 then (if y < 133 then cd_X8_canBegin else cd_X8_writeAll) else (if y < 135 then cd_X8_mountLast else (if y < 136 then cd_X8_tear else cd_X8_canTear)))) else (if y < 142 then (if y < 139 then (if y < 138 then cd_X8_writeTorn else cd_X8_close) else (if y < 140 then cd_X8_canClose else (if y < 141 then cd_X8_closeSession else cd_X8_mount))) else (if y < 144 then (if y < 143 then cd_X8_undo else cd_X8_cost) else (if y < 145 then cd_X8_apart else (if y < 146 then cd_X8_found else cd_X8_left)))))))) else (if y < 221 then (if y < 184 then (if y < 165 then (if y < 156 then (if y < 151 then (if y < 149 then (if y < 148 then cd_X8_ends else cd_X8_endWith) else (if y < 150 then cd_X8_toPack else cd_X8_blocksBy)) else (if y < 153 then (if y < 152 then cd_X8_packetsBy else cd_X8_guess) else (if y < 154 then cd_X8_storms else (if y < 155 then cd_X8_power else cd_X8_years)))) else (if y < 160 then (if y < 158 then (if y < 157 then cd_X8_liveYear else cd_X8_setDrawn) else (if y < 159 then cd_X8_image else cd_X8_restore)) else (if y < 162 then (if y < 161 then cd_X8_isName else cd_X9_init) else (if y < 163 then cd_X9_thrown else (if y < 164 then cd_X9_fail else cd_X9_isIn))))) else (if y < 174 then (if y < 169 then (if y < 167 then (if y < 166 then cd_X9_noFiles else cd_X9_layNothing) else (if y < 168 then cd_X9_feed else cd_X9_byteAt)) else (if y < 171 then (if y < 170 then cd_X9_isLetter else cd_X9_isDigit) else (if y < 172 then cd_X9_stepOn else (if y < 173 then cd_X9_wrong else cd_X9_is)))) else (if y < 179 then (if y < 176 then (if y < 175 then cd_X9_numberNow else cd_X9_readNumber) else (if y < 177 then cd_X9_isNumberNext else (if y < 178 then cd_X9_readDisc else cd_X9_readBad))) else (if y < 181 then (if y < 180 then cd_X9_readFile else cd_X9_readClause) else (if y < 182 then cd_X9_disc else (if y < 183 then cd_X9_fault else cd_X9_isFaulty)))))) else (if y < 202 then (if y < 193 then (if y < 188 then (if y < 186 then (if y < 185 then cd_X9_kindOf else cd_X9_tellsAt) else (if y < 187 then cd_X9_isGood else cd_X9_lastGood)) else (if y < 190 then (if y < 189 then cd_X9_along else cd_X9_entryBy) else (if y < 191 then cd_X9_manyBy else (if y < 192 then cd_X9_cellBy else cd_X9_takeCells)))) else (if y < 197 then (if y < 195 then (if y < 194 then cd_X9_mountMap else cd_X9_filesNow) else (if y < 196 then cd_X9_changedFiles else cd_X9_hasChanged)) else (if y < 199 then (if y < 198 then cd_X9_newCells else cd_X9_newAll) else (if y < 200 then cd_X9_content else (if y < 201 then cd_X9_nameOf else cd_X9_up))))) else (if y < 211 then (if y < 206 then (if y < 204 then (if y < 203 then cd_X9_layContents else cd_X9_placeOf) else (if y < 205 then cd_X9_putBody else cd_X9_canBegin)) else (if y < 208 then (if y < 207 then cd_X9_isTorn else cd_X9_putBlock) else (if y < 209 then cd_X9_writePacket else (if y < 210 then cd_X9_writeAll else cd_X9_commit)))) else (if y < 216 then (if y < 213 then (if y < 212 then cd_X9_syncNow else cd_X9_wouldWrite) else (if y < 214 then cd_X9_tearNow else (if y < 215 then cd_X9_meet else cd_X9_goodMaps))) else (if y < 218 then (if y < 217 then cd_X9_chain else cd_X9_dead) else (if y < 219 then cd_X9_badMany else (if y < 220 then cd_X9_count else cd_X9_isBlock))))))) else (if y < 258 then (if y < 239 then (if y < 230 then (if y < 225 then (if y < 223 then (if y < 222 then cd_X9_block else cd_X9_tells) else (if y < 224 then cd_X9_isName else cd_X9_isFile)) else (if y < 227 then (if y < 226 then cd_X9_file else cd_X9_read) else (if y < 228 then cd_X9_whereOf else (if y < 229 then cd_X9_lie else cd_X9_mapBack)))) else (if y < 234 then (if y < 232 then (if y < 231 then cd_X9_past else cd_X9_areAlike) else (if y < 233 then cd_X9_versions else cd_X9_since)) else (if y < 236 then (if y < 235 then cd_X9_isAsInMind else cd_X9_alike) else (if y < 237 then cd_X9_refuse else (if y < 238 then cd_X9_copyTo else cd_X9_keep))))) else (if y < 248 then (if y < 243 then (if y < 241 then (if y < 240 then cd_X9_freeVirtual else cd_X9_canSet) else (if y < 242 then cd_X9_beginFile else cd_X9_setNow)) else (if y < 245 then (if y < 244 then cd_X9_set else cd_X9_cut) else (if y < 246 then cd_X9_eraseNow else (if y < 247 then cd_X9_erase else cd_X9_canName)))) else (if y < 253 then (if y < 250 then (if y < 249 then cd_X9_likeCells else cd_X9_rename) else (if y < 251 then cd_X9_copy else (if y < 252 then cd_X9_revert else cd_X9_sync))) else (if y < 255 then (if y < 254 then cd_X9_tear else cd_X9_canClose) else (if y < 256 then cd_X9_closeNow else (if y < 257 then cd_X9_close else cd_X9_mount)))))) else (if y < 276 then (if y < 267 then (if y < 262 then (if y < 260 then (if y < 259 then cd_X9_undo else cd_X9_costOf) else (if y < 261 then cd_X9_things else cd_X9_cost)) else (if y < 264 then (if y < 263 then cd_X9_apart else cd_X9_found) else (if y < 265 then cd_X9_left else (if y < 266 then cd_X9_endsNow else cd_X9_ends)))) else (if y < 271 then (if y < 269 then (if y < 268 then cd_X9_toPack else cd_X9_guess) else (if y < 270 then cd_X9_powerOf else cd_X9_storms)) else (if y < 273 then (if y < 272 then cd_X9_draw else cd_X9_happen) else (if y < 274 then cd_X9_years else (if y < 275 then cd_X9_image else cd_X9_restore))))) else (if y < 285 then (if y < 280 then (if y < 278 then (if y < 277 then cd_L_disc else cd_L_count) else (if y < 279 then cd_L_block else cd_L_tells)) else (if y < 282 then (if y < 281 then cd_L_file else cd_L_lie) else (if y < 283 then cd_L_read else (if y < 284 then cd_L_past else cd_L_versions)))) else (if y < 290 then (if y < 287 then (if y < 286 then cd_L_since else cd_L_alike) else (if y < 288 then cd_L_cost else (if y < 289 then cd_L_found else cd_L_toPack))) else (if y < 292 then (if y < 291 then cd_L_guess else cd_L_storms) else (if y < 293 then cd_L_years else (if y < 294 then cd_L_law else cd_J7_fill_53178)))))))))
def cm_mL (y : Nat) : Nat := (if y < 147 then (if y < 73 then (if y < 36 then (if y < 18 then (if y < 9 then (if y < 4 then (if y < 2 then (if y < 1 then 2 else 1) else (if y < 3 then 2 else 2)) else (if y < 6 then (if y < 5 then 3 else 1) else (if y < 7 then 5 else (if y < 8 then 4 else 4)))) else (if y < 13 then (if y < 11 then (if y < 10 then 11 else 7) else (if y < 12 then 5 else 4)) else (if y < 15 then (if y < 14 then 3 else 3) else (if y < 16 then 1 else (if y < 17 then 3 else 3))))) else (if y < 27 then (if y < 22 then (if y < 20 then (if y < 19 then 2 else 2) else (if y < 21 then 3 else 3)) else (if y < 24 then (if y < 23 then 2 else 3) else (if y < 25 then 6 else (if y < 26 then 4 else 2)))) else (if y < 31 then (if y < 29 then (if y < 28 then 2 else 2) else (if y < 30 then 2 else 9)) else (if y < 33 then (if y < 32 then 3 else 3) else (if y < 34 then 4 else (if y < 35 then 5 else 4)))))) else (if y < 54 then (if y < 45 then (if y < 40 then (if y < 38 then (if y < 37 then 4 else 3) else (if y < 39 then 4 else 5)) else (if y < 42 then (if y < 41 then 2 else 5) else (if y < 43 then 5 else (if y < 44 then 4 else 1)))) else (if y < 49 then (if y < 47 then (if y < 46 then 2 else 1) else (if y < 48 then 1 else 4)) else (if y < 51 then (if y < 50 then 2 else 1) else (if y < 52 then 2 else (if y < 53 then 1 else 1))))) else (if y < 63 then (if y < 58 then (if y < 56 then (if y < 55 then 4 else 3) else (if y < 57 then 2 else 1)) else (if y < 60 then (if y < 59 then 2 else 3) else (if y < 61 then 1 else (if y < 62 then 1 else 3)))) else (if y < 68 then (if y < 65 then (if y < 64 then 5 else 1) else (if y < 66 then 2 else (if y < 67 then 2 else 5))) else (if y < 70 then (if y < 69 then 6 else 5) else (if y < 71 then 2 else (if y < 72 then 3 else 3))))))) else (if y < 110 then (if y < 91 then (if y < 82 then (if y < 77 then (if y < 75 then (if y < 74 then 2 else 3) else (if y < 76 then 2 else 3)) else (if y < 79 then (if y < 78 then 3 else 1) else (if y < 80 then 4 else (if y < 81 then 3 else 3)))) else (if y < 86 then (if y < 84 then (if y < 83 then 3 else 4) else (if y < 85 then 2 else 2)) else (if y < 88 then (if y < 87 then 2 else 3) else (if y < 89 then 3 else (if y < 90 then 3 else 4))))) else (if y < 100 then (if y < 95 then (if y < 93 then (if y < 92 then 5 else 6) else (if y < 94 then 6 else 1)) else (if y < 97 then (if y < 96 then 3 else 1) else (if y < 98 then 4 else (if y < 99 then 2 else 3)))) else (if y < 105 then (if y < 102 then (if y < 101 then 1 else 6) else (if y < 103 then 3 else (if y < 104 then 2 else 1))) else (if y < 107 then (if y < 106 then 1 else 2) else (if y < 108 then 3 else (if y < 109 then 3 else 2)))))) else (if y < 128 then (if y < 119 then (if y < 114 then (if y < 112 then (if y < 111 then 2 else 3) else (if y < 113 then 3 else 3)) else (if y < 116 then (if y < 115 then 2 else 6) else (if y < 117 then 3 else (if y < 118 then 1 else 1)))) else (if y < 123 then (if y < 121 then (if y < 120 then 6 else 4) else (if y < 122 then 7 else 7)) else (if y < 125 then (if y < 124 then 4 else 1) else (if y < 126 then 4 else (if y < 127 then 3 else 3))))) else (if y < 137 then (if y < 132 then (if y < 130 then (if y < 129 then 3 else 4) else (if y < 131 then 2 else 1)) else (if y < 134 then (if y < 133 then 2 else 2) else (if y < 135 then 1 else (if y < 136 then 2 else 2)))) else (if y < 142 then (if y < 139 then (if y < 138 then 2 else 2) else (if y < 140 then 1 else (if y < 141 then 3 else 4))) else (if y < 144 then (if y < 143 then 1 else 3) else (if y < 145 then 5 else (if y < 146 then 2 else 3)))))))) else (if y < 221 then (if y < 184 then (if y < 165 then (if y < 156 then (if y < 151 then (if y < 149 then (if y < 148 then 1 else 4) else (if y < 150 then 7 else 3)) else (if y < 153 then (if y < 152 then 2 else 8) else (if y < 154 then 9 else (if y < 155 then 5 else 7)))) else (if y < 160 then (if y < 158 then (if y < 157 then 3 else 4) else (if y < 159 then 1 else 1)) else (if y < 162 then (if y < 161 then 1 else 1) else (if y < 163 then 1 else (if y < 164 then 2 else 3))))) else (if y < 174 then (if y < 169 then (if y < 167 then (if y < 166 then 2 else 1) else (if y < 168 then 8 else 2)) else (if y < 171 then (if y < 170 then 1 else 1) else (if y < 172 then 2 else (if y < 173 then 2 else 4)))) else (if y < 179 then (if y < 176 then (if y < 175 then 3 else 4) else (if y < 177 then 1 else (if y < 178 then 1 else 4))) else (if y < 181 then (if y < 180 then 3 else 1) else (if y < 182 then 3 else (if y < 183 then 1 else 4)))))) else (if y < 202 then (if y < 193 then (if y < 188 then (if y < 186 then (if y < 185 then 2 else 3) else (if y < 187 then 3 else 3)) else (if y < 190 then (if y < 189 then 5 else 5) else (if y < 191 then 2 else (if y < 192 then 3 else 5)))) else (if y < 197 then (if y < 195 then (if y < 194 then 4 else 3) else (if y < 196 then 3 else 1)) else (if y < 199 then (if y < 198 then 4 else 3) else (if y < 200 then 3 else (if y < 201 then 3 else 2))))) else (if y < 211 then (if y < 206 then (if y < 204 then (if y < 203 then 4 else 5) else (if y < 205 then 6 else 1)) else (if y < 208 then (if y < 207 then 2 else 2) else (if y < 209 then 8 else (if y < 210 then 6 else 2)))) else (if y < 216 then (if y < 213 then (if y < 212 then 2 else 3) else (if y < 214 then 2 else (if y < 215 then 5 else 3))) else (if y < 218 then (if y < 217 then 3 else 3) else (if y < 219 then 3 else (if y < 220 then 2 else 2))))))) else (if y < 258 then (if y < 239 then (if y < 230 then (if y < 225 then (if y < 223 then (if y < 222 then 5 else 5) else (if y < 224 then 2 else 2)) else (if y < 227 then (if y < 226 then 3 else 3) else (if y < 228 then 3 else (if y < 229 then 8 else 2)))) else (if y < 234 then (if y < 232 then (if y < 231 then 6 else 4) else (if y < 233 then 7 else 7)) else (if y < 236 then (if y < 235 then 5 else 5) else (if y < 237 then 1 else (if y < 238 then 3 else 2))))) else (if y < 248 then (if y < 243 then (if y < 241 then (if y < 240 then 2 else 4) else (if y < 242 then 3 else 4)) else (if y < 245 then (if y < 244 then 4 else 5) else (if y < 246 then 2 else (if y < 247 then 3 else 3)))) else (if y < 253 then (if y < 250 then (if y < 249 then 4 else 3) else (if y < 251 then 3 else (if y < 252 then 5 else 1))) else (if y < 255 then (if y < 254 then 2 else 1) else (if y < 256 then 3 else (if y < 257 then 2 else 4)))))) else (if y < 276 then (if y < 267 then (if y < 262 then (if y < 260 then (if y < 259 then 2 else 3) else (if y < 261 then 3 else 3)) else (if y < 264 then (if y < 263 then 5 else 2) else (if y < 265 then 2 else (if y < 266 then 5 else 1)))) else (if y < 271 then (if y < 269 then (if y < 268 then 4 else 7) else (if y < 270 then 5 else 9)) else (if y < 273 then (if y < 272 then 2 else 5) else (if y < 274 then 5 else (if y < 275 then 1 else 1))))) else (if y < 285 then (if y < 280 then (if y < 278 then (if y < 277 then 4 else 4) else (if y < 279 then 5 else 5)) else (if y < 282 then (if y < 281 then 5 else 5) else (if y < 283 then 5 else (if y < 284 then 6 else 4)))) else (if y < 290 then (if y < 287 then (if y < 286 then 6 else 4) else (if y < 288 then 4 else (if y < 289 then 4 else 4))) else (if y < 292 then (if y < 291 then 5 else 5) else (if y < 293 then 6 else (if y < 294 then 8 else 4)))))))))
def cm_hs (y : Nat) : List (Nat × Nat × Nat × Nat) := if y = 292 then [(0, 12, 15, 0), (0, 12, 19, 1)] else if y = 291 then [(0, 9, 12, 1)] else if y = 290 then [(0, 10, 13, 0)] else if y = 289 then [(0, 9, 12, 0)] else if y = 288 then [(0, 9, 12, 1)] else if y = 287 then [(0, 9, 12, 0)] else if y = 286 then [(0, 9, 12, 0)] else if y = 285 then [(0, 12, 15, 0)] else if y = 284 then [(0, 9, 12, 0)] else if y = 283 then [(0, 12, 15, 0)] else if y = 282 then [(0, 10, 13, 0)] else if y = 281 then [(0, 10, 13, 0)] else if y = 280 then [(0, 10, 13, 0)] else if y = 279 then [(0, 10, 13, 0)] else if y = 278 then [(0, 10, 13, 0)] else if y = 277 then [(0, 9, 12, 0)] else if y = 276 then [(0, 9, 12, 1)] else []
end
section
def cm_fd (l : List (Nat × cm_E)) (pc : Nat) : Option cm_E := match l with
  | [] => none
  | (p, e) :: l => if p = pc then some e else cm_fd l pc
/-- a call of an own method b with c values -/
def cm_own (k : cm_K) (y pc l b c : Nat) (ls : cm_L) (st : List cm_V) (h : cm_H) : cm_R := match c.ble st.length && (cm_wd (st.drop c)).ble 8 with
  | true => cm_bd (k b 0 (cm_en (st.take c).reverse (cm_mL b)) [] h) (fun h => k y (pc + l) ls (st.drop c) h) (fun v h => k y (pc + l) ls (v :: st.drop c) h) (fun e h => match cm_hn (cm_hs y) pc e with
      | none => some (.inr e, h)
      | some t => k y t ls [.inr (.inr 300000)] h)
  | false => none
/-- one of the library's that are steps here -/
def cm_lib (k : cm_K) (y pc n : Nat) (ls : cm_L) (st : List cm_V) (h : cm_H) : cm_R := match (cm_wd st).ble 16 with
  | true => match n with
    | 1 => cm_oi st (fun st => k y pc ls st h)
    | 2 => cm_i2 cm_mn st (fun st => k y pc ls st h)
    | 3 => cm_i2 cm_mx st (fun st => k y pc ls st h)
    | 4 => cm_ab st (fun st => k y pc ls st h)
    | 5 => cm_cpy h st (fun st h => k y pc ls st h)
    | 6 => cm_sln st (fun st => k y pc ls st h)
    | 7 => cm_sch st (fun st => k y pc ls st h)
    | _ => none
  | false => none
/-- a call: a is 0: static, own; below 100: the library's; else an own one of the class a less 100 -/
def cm_cl (k : cm_K) (y pc l a b c : Nat) (ls : cm_L) (st : List cm_V) (h : cm_H) : cm_R := match a == 0 with
  | true => cm_own k y pc l b c ls st h
  | false => match a.blt 100 with
    | true => cm_lib k y (pc + l) a ls st h
    | false => match cm_rc h (a - 100) (st.drop (c - 1)) with
      | true => cm_own k y pc l b c ls st h
      | false => none
def cm_kn (k : cm_K) (y pc a b : Nat) (ls : cm_L) (st : List cm_V) (h : cm_H) : cm_R := match a with
  | 0 => k y pc ls (.inl (b : Int) :: st) h
  | 1 => k y pc ls (.inr (.inr b) :: st) h
  | _ => none
def cm_do (k : cm_K) (y pc : Nat) (en : cm_E) (ls : cm_L) (st : List cm_V) (h : cm_H) : cm_R := match en with
  | (.iconst n, l, _) => k y (pc + l) ls (.inl n :: st) h
  | (.bipush n, l, _) => k y (pc + l) ls (.inl n :: st) h
  | (.sipush n, l, _) => k y (pc + l) ls (.inl n :: st) h
  | (.lconst n, l, _) => k y (pc + l) ls (.inr (.inl (Int64.ofNat n.val)) :: st) h
  | (.ldc _, l, a, b, _) => cm_kn k y (pc + l) a b ls st h
  | (.ldc_w _, l, a, b, _) => cm_kn k y (pc + l) a b ls st h
  | (.ldc2_w _, l, _) => k y (pc + l) ls (.inr (.inl (-1)) :: st) h
  | (.iload i, l, _) => cm_ild ls i (fun v => k y (pc + l) ls (v :: st) h)
  | (.iload_n i, l, _) => cm_ild ls i.val (fun v => k y (pc + l) ls (v :: st) h)
  | (.lload i, l, _) => cm_lld ls i (fun v => k y (pc + l) ls (v :: st) h)
  | (.lload_n i, l, _) => cm_lld ls i.val (fun v => k y (pc + l) ls (v :: st) h)
  | (.aload i, l, _) => cm_ald ls i (fun v => k y (pc + l) ls (v :: st) h)
  | (.aload_n i, l, _) => cm_ald ls i.val (fun v => k y (pc + l) ls (v :: st) h)
  | (.istore i, l, _) => cm_ist ls i st (fun ls st => k y (pc + l) ls st h)
  | (.istore_n i, l, _) => cm_ist ls i.val st (fun ls st => k y (pc + l) ls st h)
  | (.lstore i, l, _) => cm_lst ls i st (fun ls st => k y (pc + l) ls st h)
  | (.lstore_n i, l, _) => cm_lst ls i.val st (fun ls st => k y (pc + l) ls st h)
  | (.astore i, l, _) => cm_ast ls i st (fun ls st => k y (pc + l) ls st h)
  | (.astore_n i, l, _) => cm_ast ls i.val st (fun ls st => k y (pc + l) ls st h)
  | (.iinc i n, l, _) => cm_inc ls i n (fun ls => k y (pc + l) ls st h)
  | (.iadd, l, _) => cm_i2 (fun a b => cm_wr (a + b)) st (fun st => k y (pc + l) ls st h)
  | (.isub, l, _) => cm_i2 (fun a b => cm_wr (a - b)) st (fun st => k y (pc + l) ls st h)
  | (.imul, l, _) => cm_i2 (fun a b => cm_wr (a * b)) st (fun st => k y (pc + l) ls st h)
  | (.iand, l, _) => cm_i2 cm_and st (fun st => k y (pc + l) ls st h)
  | (.ior, l, _) => cm_i2 cm_or st (fun st => k y (pc + l) ls st h)
  | (.ishl, l, _) => cm_i2 cm_shl st (fun st => k y (pc + l) ls st h)
  | (.ishr, l, _) => cm_i2 cm_shr st (fun st => k y (pc + l) ls st h)
  | (.iushr, l, _) => cm_i2 cm_ushr st (fun st => k y (pc + l) ls st h)
  | (.idiv, l, _) => cm_dv st (fun st => k y (pc + l) ls st h)
  | (.irem, l, _) => cm_rm st (fun st => k y (pc + l) ls st h)
  | (.ladd, l, _) => cm_l2 (fun a b => a + b) st (fun st => k y (pc + l) ls st h)
  | (.lmul, l, _) => cm_l2 (fun a b => a * b) st (fun st => k y (pc + l) ls st h)
  | (.ldiv, l, _) => cm_ldv st (fun st => k y (pc + l) ls st h)
  | (.lcmp, l, _) => cm_lcm st (fun st => k y (pc + l) ls st h)
  | (.i2l, l, _) => cm_i2l st (fun st => k y (pc + l) ls st h)
  | (.dup, l, _) => cm_dup st (fun st => k y (pc + l) ls st h)
  | (.dup2, l, _) => cm_dp2 st (fun st => k y (pc + l) ls st h)
  | (.pop, l, _) => cm_pop st (fun st => k y (pc + l) ls st h)
  | (.goto o, _, a, _) => k y (cm_tgt pc o) (cm_fg a ls) st h
  | (.ifCond c o, l, _) => cm_if1 c st (fun st => k y (cm_tgt pc o) ls st h) (fun st => k y (pc + l) ls st h)
  | (.if_icmp c o, l, _) => cm_if2 c st (fun st => k y (cm_tgt pc o) ls st h) (fun st => k y (pc + l) ls st h)
  | (.tableswitch d lo _ os, _) => (match st with
    | .inl x :: st => cm_tsw os.toList x lo (k y (cm_tgt pc d) ls st h) (fun o => k y (cm_tgt pc o) ls st h)
    | _ => none)
  | (.lookupswitch d ps, _) => (match st with
    | .inl x :: st => cm_lsw ps.toList x (k y (cm_tgt pc d) ls st h) (fun o => k y (cm_tgt pc o) ls st h)
    | _ => none)
  | (.getfield _, l, a, b, c) => cm_gf h a b c st (fun st => k y (pc + l) ls st h)
  | (.putfield _, l, a, b, c) => cm_pf h a b c st (fun st h => k y (pc + l) ls st h)
  | (.iaload, l, _) => cm_al h 1 st (fun st => k y (pc + l) ls st h)
  | (.iastore, l, _) => cm_as h 1 st (fun st h => k y (pc + l) ls st h)
  | (.baload, l, _) => cm_al h 2 st (fun st => k y (pc + l) ls st h)
  | (.bastore, l, _) => cm_as h 2 st (fun st h => k y (pc + l) ls st h)
  | (.laload, l, _) => cm_jl h st (fun st => k y (pc + l) ls st h)
  | (.lastore, l, _) => cm_js h st (fun st h => k y (pc + l) ls st h)
  | (.aaload, l, _) => cm_rl h st (fun st => k y (pc + l) ls st h)
  | (.aastore, l, _) => cm_rs h st (fun st h => k y (pc + l) ls st h)
  | (.arraylength, l, _) => cm_ln h st (fun st => k y (pc + l) ls st h)
  | (.newarray t, l, _) => cm_na h (cm_at_ t) st (fun st h => k y (pc + l) ls st h)
  | (.anewarray _, l, _) => cm_na h 4 st (fun st h => k y (pc + l) ls st h)
  | (.new _, l, a, b, c) => (match a with
    | 0 => cm_nw h b c st (fun st h => k y (pc + l) ls st h)
    | _ => (match st with
      | [] => some (.inr b, cm_ex h)
      | _ => none))
  | (.invokevirtual _, l, a, b, c) => cm_cl k y pc l a b c ls st h
  | (.invokestatic _, l, a, b, c) => cm_cl k y pc l a b c ls st h
  | (.invokespecial _, l, a, b, c) => cm_cl k y pc l a b c ls st h
  | (.ireturn, _, a, _) => (match st with
    | [.inl x] => (match a with
      | 0 => some (.inl (some (.inl x)), h)
      | _ => cm_ck (x = 0 ∨ x = 1) (some (.inl (some (.inl x)), h)))
    | _ => none)
  | (.lreturn, _) => (match st with
    | [.inr (.inl x)] => some (.inl (some (.inr (.inl x))), h)
    | _ => none)
  | (.return_, _) => (match st with
    | [] => some (.inl none, h)
    | _ => none)
  | _ => none
def cm_st (k : cm_K) (y pc : Nat) (ls : cm_L) (st : List cm_V) (h : cm_H) : cm_R := match cm_fd (cm_cd y) pc with
  | some en => cm_do k y pc en ls st h
  | none => none
def cm_run (n : Nat) : cm_K := match n with
  | 0 => fun _ _ _ _ _ => none
  | n + 1 => fun y pc ls st h => cm_st (cm_run n) y pc ls st h
end
section
/-- what a step can be, from a heap h0 on: an end, a step on, a call and a step on; no cell is unmade -/
def cm_hle (h h1 : cm_H) : Prop := h.2.2.2.2.2.1 ≤ h1.2.2.2.2.2.1 ∧ h.2.2.2.2.2.2 ≤ h1.2.2.2.2.2.2
theorem cm_hle.rf (h : cm_H) : cm_hle h h := ⟨Nat.le_refl _, Nat.le_refl _⟩
theorem cm_hle.tr {a b c : cm_H} (h : cm_hle a b) (h' : cm_hle b c) : cm_hle a c := ⟨Nat.le_trans h.1 h'.1, Nat.le_trans h.2 h'.2⟩
def cm_nf (h0 : cm_H) (F : cm_K → cm_R) : Prop := (∃ c, (∀ k, F k = c) ∧ ∀ r h1, c = some (r, h1) → cm_hle h0 h1) ∨ (∃ y pc ls st h, cm_hle h0 h ∧ ∀ k, F k = k y pc ls st h) ∨
  (∃ b as_ y pc0 pc ls st hs, ∀ k, F k = cm_bd (k b 0 as_ [] h0) (fun h => k y pc ls st h) (fun v h => k y pc ls (v :: st) h) (fun e h => match cm_hn hs pc0 e with
      | none => some (.inr e, h)
      | some t => k y t ls [.inr (.inr 300000)] h))
theorem cm_nf_ck {h0 : cm_H} {p : Prop} [Decidable p] {F : cm_K → cm_R} (h : cm_nf h0 F) : cm_nf h0 (fun k => cm_ck p (F k)) := by
  by_cases hp : p
  · have e : (fun k => cm_ck p (F k)) = F := by funext k; simp [cm_ck, hp]
    rw [e]; exact h
  · exact Or.inl ⟨none, fun k => by simp [cm_ck, hp], fun _ _ h => by cases h⟩
theorem cm_nf_ite {h0 : cm_H} {p : Prop} [Decidable p] {F G : cm_K → cm_R} (h : cm_nf h0 F) (h' : cm_nf h0 G) : cm_nf h0 (fun k => if p then F k else G k) := by
  by_cases hp : p
  · have e : (fun k => if p then F k else G k) = F := by funext k; simp [hp]
    rw [e]; exact h
  · have e : (fun k => if p then F k else G k) = G := by funext k; simp [hp]
    rw [e]; exact h'
theorem cm_nf_none {h0 : cm_H} : cm_nf h0 (fun _ => none) := Or.inl ⟨none, fun _ => rfl, fun _ _ h => by cases h⟩
theorem cm_nf_r {h0 : cm_H} (v : Option cm_V ⊕ Nat) : cm_nf h0 (fun _ => some (v, h0)) := Or.inl ⟨_, fun _ => rfl, fun _ _ h => by cases h; exact cm_hle.rf _⟩
theorem cm_nf_e {h0 : cm_H} (b : Nat) : cm_nf h0 (fun _ => some (.inr b, cm_ex h0)) := Or.inl ⟨_, fun _ => rfl, fun _ _ h => by cases h; exact ⟨Nat.le_succ _, Nat.le_add_right _ _⟩⟩
theorem cm_nf_k {h0 : cm_H} (y pc : Nat) (ls : cm_L) (st : List cm_V) {h : cm_H} (hh : cm_hle h0 h) : cm_nf h0 (fun k => k y pc ls st h) := Or.inr (Or.inl ⟨_, _, _, _, _, hh, fun _ => rfl⟩)
theorem cm_nf_ild {h0 : cm_H} {ls : cm_L} {i : Nat} {K : cm_K → cm_V → cm_R} (h : ∀ v, cm_nf h0 (fun k => K k v)) : cm_nf h0 (fun k => cm_ild ls i (K k)) := by
  unfold cm_ild
  rcases ls[i]? with _ | _ | x | x | x <;> first | exact cm_nf_none | exact h _
theorem cm_nf_lld {h0 : cm_H} {ls : cm_L} {i : Nat} {K : cm_K → cm_V → cm_R} (h : ∀ v, cm_nf h0 (fun k => K k v)) : cm_nf h0 (fun k => cm_lld ls i (K k)) := by
  unfold cm_lld
  rcases ls[i]? with _ | _ | x | x | x <;> first | exact cm_nf_none | exact h _
theorem cm_nf_ald {h0 : cm_H} {ls : cm_L} {i : Nat} {K : cm_K → cm_V → cm_R} (h : ∀ v, cm_nf h0 (fun k => K k v)) : cm_nf h0 (fun k => cm_ald ls i (K k)) := by
  unfold cm_ald
  rcases ls[i]? with _ | _ | x | x | x <;> first | exact cm_nf_none | exact h _
theorem cm_nf_ist {h0 : cm_H} {ls : cm_L} {i : Nat} {st : List cm_V} {K : cm_K → cm_L → List cm_V → cm_R} (h : ∀ a b, cm_nf h0 (fun k => K k a b)) : cm_nf h0 (fun k => cm_ist ls i st (K k)) := by
  unfold cm_ist
  rcases st with _ | ⟨a | a | a, st⟩ <;> first | exact cm_nf_none | exact cm_nf_ite (h _ _) cm_nf_none
theorem cm_nf_ast {h0 : cm_H} {ls : cm_L} {i : Nat} {st : List cm_V} {K : cm_K → cm_L → List cm_V → cm_R} (h : ∀ a b, cm_nf h0 (fun k => K k a b)) : cm_nf h0 (fun k => cm_ast ls i st (K k)) := by
  unfold cm_ast
  rcases st with _ | ⟨a | a | a, st⟩ <;> first | exact cm_nf_none | exact cm_nf_ite (h _ _) cm_nf_none
theorem cm_nf_lst {h0 : cm_H} {ls : cm_L} {i : Nat} {st : List cm_V} {K : cm_K → cm_L → List cm_V → cm_R} (h : ∀ a b, cm_nf h0 (fun k => K k a b)) : cm_nf h0 (fun k => cm_lst ls i st (K k)) := by
  unfold cm_lst
  rcases st with _ | ⟨a | a | a, st⟩ <;> first | exact cm_nf_none | exact cm_nf_ite (h _ _) cm_nf_none
theorem cm_nf_inc {h0 : cm_H} {ls : cm_L} {i : Nat} {n : Int} {K : cm_K → cm_L → cm_R} (h : ∀ a, cm_nf h0 (fun k => K k a)) : cm_nf h0 (fun k => cm_inc ls i n (K k)) := by
  unfold cm_inc
  rcases ls[i]? with _ | _ | x | x | x <;> first | exact cm_nf_none | exact h _
theorem cm_nf_i2 {h0 : cm_H} {f : Int → Int → Int} {st : List cm_V} {K : cm_K → List cm_V → cm_R} (h : ∀ a, cm_nf h0 (fun k => K k a)) : cm_nf h0 (fun k => cm_i2 f st (K k)) := by
  unfold cm_i2
  rcases st with _ | ⟨a | a | a, _ | ⟨b | b | b, st⟩⟩ <;> first | exact cm_nf_none | exact h _
theorem cm_nf_l2 {h0 : cm_H} {f : Int64 → Int64 → Int64} {st : List cm_V} {K : cm_K → List cm_V → cm_R} (h : ∀ a, cm_nf h0 (fun k => K k a)) : cm_nf h0 (fun k => cm_l2 f st (K k)) := by
  unfold cm_l2
  rcases st with _ | ⟨a | a | a, _ | ⟨b | b | b, st⟩⟩ <;> first | exact cm_nf_none | exact h _
theorem cm_nf_dv {h0 : cm_H} {st : List cm_V} {K : cm_K → List cm_V → cm_R} (h : ∀ a, cm_nf h0 (fun k => K k a)) : cm_nf h0 (fun k => cm_dv st (K k)) := by
  unfold cm_dv
  rcases st with _ | ⟨a | a | a, _ | ⟨b | b | b, st⟩⟩ <;> first | exact cm_nf_none | exact cm_nf_ck (h _)
theorem cm_nf_rm {h0 : cm_H} {st : List cm_V} {K : cm_K → List cm_V → cm_R} (h : ∀ a, cm_nf h0 (fun k => K k a)) : cm_nf h0 (fun k => cm_rm st (K k)) := by
  unfold cm_rm
  rcases st with _ | ⟨a | a | a, _ | ⟨b | b | b, st⟩⟩ <;> first | exact cm_nf_none | exact cm_nf_ck (h _)
theorem cm_nf_ldv {h0 : cm_H} {st : List cm_V} {K : cm_K → List cm_V → cm_R} (h : ∀ a, cm_nf h0 (fun k => K k a)) : cm_nf h0 (fun k => cm_ldv st (K k)) := by
  unfold cm_ldv
  rcases st with _ | ⟨a | a | a, _ | ⟨b | b | b, st⟩⟩ <;> first | exact cm_nf_none | exact cm_nf_ck (h _)
theorem cm_nf_lcm {h0 : cm_H} {st : List cm_V} {K : cm_K → List cm_V → cm_R} (h : ∀ a, cm_nf h0 (fun k => K k a)) : cm_nf h0 (fun k => cm_lcm st (K k)) := by
  unfold cm_lcm
  rcases st with _ | ⟨a | a | a, _ | ⟨b | b | b, st⟩⟩ <;> first | exact cm_nf_none | exact h _
theorem cm_nf_i2l {h0 : cm_H} {st : List cm_V} {K : cm_K → List cm_V → cm_R} (h : ∀ a, cm_nf h0 (fun k => K k a)) : cm_nf h0 (fun k => cm_i2l st (K k)) := by
  unfold cm_i2l
  rcases st with _ | ⟨a | a | a, st⟩ <;> first | exact cm_nf_none | exact h _
theorem cm_nf_dup {h0 : cm_H} {st : List cm_V} {K : cm_K → List cm_V → cm_R} (h : ∀ a, cm_nf h0 (fun k => K k a)) : cm_nf h0 (fun k => cm_dup st (K k)) := by
  unfold cm_dup
  rcases st with _ | ⟨a | a | a, st⟩ <;> first | exact cm_nf_none | exact h _
theorem cm_nf_pop {h0 : cm_H} {st : List cm_V} {K : cm_K → List cm_V → cm_R} (h : ∀ a, cm_nf h0 (fun k => K k a)) : cm_nf h0 (fun k => cm_pop st (K k)) := by
  unfold cm_pop
  rcases st with _ | ⟨a | a | a, st⟩ <;> first | exact cm_nf_none | exact h _
theorem cm_nf_dp2 {h0 : cm_H} {st : List cm_V} {K : cm_K → List cm_V → cm_R} (h : ∀ a, cm_nf h0 (fun k => K k a)) : cm_nf h0 (fun k => cm_dp2 st (K k)) := by
  unfold cm_dp2
  rcases st with _ | ⟨a | a | a, _ | ⟨b | b | b, st⟩⟩ <;> first | exact cm_nf_none | exact h _
theorem cm_nf_br {h0 : cm_H} {c : ClassFile.Cond} {a b : Int} {F G : cm_K → cm_R} (h : cm_nf h0 F) (h' : cm_nf h0 G) : cm_nf h0 (fun k => cm_br c a b (F k) (G k)) := by
  unfold cm_br
  cases c <;> first | exact cm_nf_ite h h' | exact cm_nf_ite h' h
theorem cm_nf_if1 {h0 : cm_H} {c : ClassFile.Cond} {st : List cm_V} {F G : cm_K → List cm_V → cm_R} (h : ∀ a, cm_nf h0 (fun k => F k a)) (h' : ∀ a, cm_nf h0 (fun k => G k a)) : cm_nf h0 (fun k => cm_if1 c st (F k) (G k)) := by
  unfold cm_if1
  rcases st with _ | ⟨a | a | a, st⟩ <;> first | exact cm_nf_none | exact cm_nf_br (h _) (h' _)
theorem cm_nf_if2 {h0 : cm_H} {c : ClassFile.Cond} {st : List cm_V} {F G : cm_K → List cm_V → cm_R} (h : ∀ a, cm_nf h0 (fun k => F k a)) (h' : ∀ a, cm_nf h0 (fun k => G k a)) : cm_nf h0 (fun k => cm_if2 c st (F k) (G k)) := by
  unfold cm_if2
  rcases st with _ | ⟨a | a | a, _ | ⟨b | b | b, st⟩⟩ <;> first | exact cm_nf_none | exact cm_nf_br (h _) (h' _)
theorem cm_nf_tsw {h0 : cm_H} {os : List Int} {x : Int} {F : cm_K → cm_R} {G : cm_K → Int → cm_R} (h : cm_nf h0 F) (h' : ∀ a, cm_nf h0 (fun k => G k a)) : ∀ a : Int, cm_nf h0 (fun k => cm_tsw os x a (F k) (G k)) := by
  induction os with
  | nil => intro a; exact h
  | cons o os ih => intro a; exact cm_nf_ite (h' _) (ih _)
theorem cm_nf_lsw {h0 : cm_H} {os : List (Int × Int)} {x : Int} {F : cm_K → cm_R} {G : cm_K → Int → cm_R} (h : cm_nf h0 F) (h' : ∀ a, cm_nf h0 (fun k => G k a)) : cm_nf h0 (fun k => cm_lsw os x (F k) (G k)) := by
  induction os with
  | nil => exact h
  | cons o os ih => exact cm_nf_ite (h' _) ih
theorem cm_nf_bool {h0 : cm_H} {b : Bool} {F G : cm_K → cm_R} (h : cm_nf h0 F) (h' : cm_nf h0 G) : cm_nf h0 (fun k => match b with | true => F k | false => G k) := by
  cases b
  · exact h'
  · exact h
theorem cm_nf_gf {h0 : cm_H} {t ci f : Nat} {st : List cm_V} {K : cm_K → List cm_V → cm_R} (h : ∀ a, cm_nf h0 (fun k => K k a)) : cm_nf h0 (fun k => cm_gf h0 t ci f st (K k)) := by
  unfold cm_gf
  rcases st with _ | ⟨a | a | a, st⟩
  · exact cm_nf_none
  · exact cm_nf_none
  · exact cm_nf_none
  · refine cm_nf_bool ?_ cm_nf_none
    rcases t with _ | _ | _ | t
    · exact h _
    · exact h _
    · exact cm_nf_bool (h _) cm_nf_none
    · exact h _
theorem cm_nf_pf {h0 : cm_H} {t ci f : Nat} {st : List cm_V} {K : cm_K → List cm_V → cm_H → cm_R} (h : ∀ a b, cm_hle h0 b → cm_nf h0 (fun k => K k a b)) : cm_nf h0 (fun k => cm_pf h0 t ci f st (K k)) := by
  unfold cm_pf
  rcases st with _ | ⟨a | a | a, _ | ⟨b | b | b, st⟩⟩ <;> first | exact cm_nf_none | skip
  · refine cm_nf_bool ?_ cm_nf_none
    rcases t with _ | _ | _ | t
    · exact h _ _ ⟨Nat.le_refl _, Nat.le_refl _⟩
    · exact cm_nf_ck (h _ _ ⟨Nat.le_refl _, Nat.le_refl _⟩)
    · exact cm_nf_none
    · exact cm_nf_none
  · refine cm_nf_bool ?_ cm_nf_none
    rcases t with _ | _ | _ | t
    · exact cm_nf_none
    · exact cm_nf_none
    · exact cm_nf_bool (h _ _ ⟨Nat.le_refl _, Nat.le_refl _⟩) cm_nf_none
    · exact cm_nf_none
theorem cm_nf_al {h0 : cm_H} {t : Nat} {st : List cm_V} {K : cm_K → List cm_V → cm_R} (h : ∀ a, cm_nf h0 (fun k => K k a)) : cm_nf h0 (fun k => cm_al h0 t st (K k)) := by
  unfold cm_al
  rcases st with _ | ⟨a | a | a, _ | ⟨b | b | b, st⟩⟩ <;> first | exact cm_nf_none | exact cm_nf_bool (cm_nf_ck (h _)) cm_nf_none
theorem cm_nf_as {h0 : cm_H} {t : Nat} {st : List cm_V} {K : cm_K → List cm_V → cm_H → cm_R} (h : ∀ a b, cm_hle h0 b → cm_nf h0 (fun k => K k a b)) : cm_nf h0 (fun k => cm_as h0 t st (K k)) := by
  unfold cm_as
  rcases st with _ | ⟨a | a | a, _ | ⟨b | b | b, _ | ⟨c | c | c, st⟩⟩⟩ <;> first | exact cm_nf_none | exact cm_nf_bool (cm_nf_ck (h _ _ ⟨Nat.le_refl _, Nat.le_refl _⟩)) cm_nf_none
theorem cm_nf_jl {h0 : cm_H} {st : List cm_V} {K : cm_K → List cm_V → cm_R} (h : ∀ a, cm_nf h0 (fun k => K k a)) : cm_nf h0 (fun k => cm_jl h0 st (K k)) := by
  unfold cm_jl
  rcases st with _ | ⟨a | a | a, _ | ⟨b | b | b, st⟩⟩ <;> first | exact cm_nf_none | exact cm_nf_bool (cm_nf_ck (h _)) cm_nf_none
theorem cm_nf_js {h0 : cm_H} {st : List cm_V} {K : cm_K → List cm_V → cm_H → cm_R} (h : ∀ a b, cm_hle h0 b → cm_nf h0 (fun k => K k a b)) : cm_nf h0 (fun k => cm_js h0 st (K k)) := by
  unfold cm_js
  rcases st with _ | ⟨a | a | a, _ | ⟨b | b | b, _ | ⟨c | c | c, st⟩⟩⟩ <;> first | exact cm_nf_none | exact cm_nf_bool (cm_nf_ck (h _ _ ⟨Nat.le_refl _, Nat.le_refl _⟩)) cm_nf_none
theorem cm_nf_rl {h0 : cm_H} {st : List cm_V} {K : cm_K → List cm_V → cm_R} (h : ∀ a, cm_nf h0 (fun k => K k a)) : cm_nf h0 (fun k => cm_rl h0 st (K k)) := by
  unfold cm_rl
  rcases st with _ | ⟨a | a | a, _ | ⟨b | b | b, st⟩⟩ <;> first | exact cm_nf_none | exact cm_nf_bool (cm_nf_ck (cm_nf_ck (h _))) cm_nf_none
theorem cm_nf_rs {h0 : cm_H} {st : List cm_V} {K : cm_K → List cm_V → cm_H → cm_R} (h : ∀ a b, cm_hle h0 b → cm_nf h0 (fun k => K k a b)) : cm_nf h0 (fun k => cm_rs h0 st (K k)) := by
  unfold cm_rs
  rcases st with _ | ⟨a | a | a, _ | ⟨b | b | b, _ | ⟨c | c | c, st⟩⟩⟩ <;> first | exact cm_nf_none | exact cm_nf_bool (cm_nf_ck (h _ _ ⟨Nat.le_refl _, Nat.le_refl _⟩)) cm_nf_none
theorem cm_nf_ln {h0 : cm_H} {st : List cm_V} {K : cm_K → List cm_V → cm_R} (h : ∀ a, cm_nf h0 (fun k => K k a)) : cm_nf h0 (fun k => cm_ln h0 st (K k)) := by
  unfold cm_ln
  rcases st with _ | ⟨a | a | a, st⟩ <;> first | exact cm_nf_none | exact cm_nf_bool (h _) cm_nf_none
theorem cm_nf_na {h0 : cm_H} {t : Nat} {st : List cm_V} {K : cm_K → List cm_V → cm_H → cm_R} (h : ∀ a b, cm_hle h0 b → cm_nf h0 (fun k => K k a b)) : cm_nf h0 (fun k => cm_na h0 t st (K k)) := by
  unfold cm_na
  rcases st with _ | ⟨a | a | a, st⟩ <;> first | exact cm_nf_none | exact cm_nf_bool (cm_nf_ck (h _ _ ⟨Nat.le_succ _, Nat.le_add_right _ _⟩)) cm_nf_none
theorem cm_nf_nw {h0 : cm_H} {ci n : Nat} {st : List cm_V} {K : cm_K → List cm_V → cm_H → cm_R} (h : ∀ a b, cm_hle h0 b → cm_nf h0 (fun k => K k a b)) : cm_nf h0 (fun k => cm_nw h0 ci n st (K k)) := cm_nf_bool (h _ _ ⟨Nat.le_succ _, Nat.le_add_right _ _⟩) cm_nf_none
theorem cm_nf_cpy {h0 : cm_H} {st : List cm_V} {K : cm_K → List cm_V → cm_H → cm_R} (h : ∀ a b, cm_hle h0 b → cm_nf h0 (fun k => K k a b)) : cm_nf h0 (fun k => cm_cpy h0 st (K k)) := by
  unfold cm_cpy
  rcases st with _ | ⟨a | a | a, _ | ⟨b | b | b, _ | ⟨c | c | c, _ | ⟨d | d | d, _ | ⟨e | e | e, st⟩⟩⟩⟩⟩ <;> first | exact cm_nf_none | exact cm_nf_bool (cm_nf_ck (h _ _ ⟨Nat.le_refl _, Nat.le_refl _⟩)) cm_nf_none
theorem cm_nf_sln {h0 : cm_H} {st : List cm_V} {K : cm_K → List cm_V → cm_R} (h : ∀ a, cm_nf h0 (fun k => K k a)) : cm_nf h0 (fun k => cm_sln st (K k)) := by
  unfold cm_sln
  rcases st with _ | ⟨a | a | a, st⟩ <;> first | exact cm_nf_none | exact cm_nf_bool (h _) cm_nf_none
theorem cm_nf_sch {h0 : cm_H} {st : List cm_V} {K : cm_K → List cm_V → cm_R} (h : ∀ a, cm_nf h0 (fun k => K k a)) : cm_nf h0 (fun k => cm_sch st (K k)) := by
  unfold cm_sch
  rcases st with _ | ⟨a | a | a, _ | ⟨b | b | b, st⟩⟩ <;> first | exact cm_nf_none | exact cm_nf_bool (cm_nf_ck (h _)) cm_nf_none
theorem cm_nf_ab {h0 : cm_H} {st : List cm_V} {K : cm_K → List cm_V → cm_R} (h : ∀ a, cm_nf h0 (fun k => K k a)) : cm_nf h0 (fun k => cm_ab st (K k)) := by
  unfold cm_ab
  rcases st with _ | ⟨a | a | a, st⟩ <;> first | exact cm_nf_none | exact h _
theorem cm_nf_oi {h0 : cm_H} {st : List cm_V} {K : cm_K → List cm_V → cm_R} (h : ∀ a, cm_nf h0 (fun k => K k a)) : cm_nf h0 (fun k => cm_oi st (K k)) := by
  unfold cm_oi
  rcases st with _ | ⟨a | a | a, st⟩ <;> first | exact cm_nf_none | exact h _
theorem cm_nf_own (y pc l b c : Nat) (ls : cm_L) (st : List cm_V) (h : cm_H) : cm_nf h (fun k => cm_own k y pc l b c ls st h) := by
  unfold cm_own
  refine cm_nf_bool ?_ cm_nf_none
  exact Or.inr (Or.inr ⟨_, _, _, _, _, _, _, _, fun _ => rfl⟩)
theorem cm_nf_lib (y pc n : Nat) (ls : cm_L) (st : List cm_V) (h : cm_H) : cm_nf h (fun k => cm_lib k y pc n ls st h) := by
  unfold cm_lib
  refine cm_nf_bool ?_ cm_nf_none
  rcases n with _ | _ | _ | _ | _ | _ | _ | _ | n
  · exact cm_nf_none
  · exact cm_nf_oi fun _ => cm_nf_k _ _ _ _ (cm_hle.rf _)
  · exact cm_nf_i2 fun _ => cm_nf_k _ _ _ _ (cm_hle.rf _)
  · exact cm_nf_i2 fun _ => cm_nf_k _ _ _ _ (cm_hle.rf _)
  · exact cm_nf_ab fun _ => cm_nf_k _ _ _ _ (cm_hle.rf _)
  · exact cm_nf_cpy fun _ _ hh => cm_nf_k _ _ _ _ hh
  · exact cm_nf_sln fun _ => cm_nf_k _ _ _ _ (cm_hle.rf _)
  · exact cm_nf_sch fun _ => cm_nf_k _ _ _ _ (cm_hle.rf _)
  · exact cm_nf_none
theorem cm_nf_cl (y pc l a b c : Nat) (ls : cm_L) (st : List cm_V) (h : cm_H) : cm_nf h (fun k => cm_cl k y pc l a b c ls st h) :=
  cm_nf_bool (cm_nf_own _ _ _ _ _ _ _ _) (cm_nf_bool (cm_nf_lib _ _ _ _ _ _) (cm_nf_bool (cm_nf_own _ _ _ _ _ _ _ _) cm_nf_none))
theorem cm_nf_kn (y pc a b : Nat) (ls : cm_L) (st : List cm_V) (h : cm_H) : cm_nf h (fun k => cm_kn k y pc a b ls st h) := by
  unfold cm_kn
  rcases a with _ | _ | a
  · exact cm_nf_k _ _ _ _ (cm_hle.rf _)
  · exact cm_nf_k _ _ _ _ (cm_hle.rf _)
  · exact cm_nf_none
set_option maxHeartbeats 4000000 in
theorem cm_nf_do (y pc : Nat) (en : cm_E) (ls : cm_L) (st : List cm_V) (h : cm_H) : cm_nf h (fun k => cm_do k y pc en ls st h) := by
  obtain ⟨i, l, a, b, c⟩ := en
  cases i
  all_goals dsimp only [cm_do]
  all_goals first
    | exact cm_nf_none
    | exact cm_nf_k _ _ _ _ (cm_hle.rf _)
    | exact cm_nf_kn _ _ _ _ _ _ _
    | exact cm_nf_cl _ _ _ _ _ _ _ _ _
    | exact cm_nf_ild fun _ => cm_nf_k _ _ _ _ (cm_hle.rf _)
    | exact cm_nf_lld fun _ => cm_nf_k _ _ _ _ (cm_hle.rf _)
    | exact cm_nf_ald fun _ => cm_nf_k _ _ _ _ (cm_hle.rf _)
    | exact cm_nf_ist fun _ _ => cm_nf_k _ _ _ _ (cm_hle.rf _)
    | exact cm_nf_ast fun _ _ => cm_nf_k _ _ _ _ (cm_hle.rf _)
    | exact cm_nf_lst fun _ _ => cm_nf_k _ _ _ _ (cm_hle.rf _)
    | exact cm_nf_inc fun _ => cm_nf_k _ _ _ _ (cm_hle.rf _)
    | exact cm_nf_i2 fun _ => cm_nf_k _ _ _ _ (cm_hle.rf _)
    | exact cm_nf_l2 fun _ => cm_nf_k _ _ _ _ (cm_hle.rf _)
    | exact cm_nf_dv fun _ => cm_nf_k _ _ _ _ (cm_hle.rf _)
    | exact cm_nf_rm fun _ => cm_nf_k _ _ _ _ (cm_hle.rf _)
    | exact cm_nf_ldv fun _ => cm_nf_k _ _ _ _ (cm_hle.rf _)
    | exact cm_nf_lcm fun _ => cm_nf_k _ _ _ _ (cm_hle.rf _)
    | exact cm_nf_i2l fun _ => cm_nf_k _ _ _ _ (cm_hle.rf _)
    | exact cm_nf_dup fun _ => cm_nf_k _ _ _ _ (cm_hle.rf _)
    | exact cm_nf_dp2 fun _ => cm_nf_k _ _ _ _ (cm_hle.rf _)
    | exact cm_nf_pop fun _ => cm_nf_k _ _ _ _ (cm_hle.rf _)
    | exact cm_nf_if1 (fun _ => cm_nf_k _ _ _ _ (cm_hle.rf _)) (fun _ => cm_nf_k _ _ _ _ (cm_hle.rf _))
    | exact cm_nf_if2 (fun _ => cm_nf_k _ _ _ _ (cm_hle.rf _)) (fun _ => cm_nf_k _ _ _ _ (cm_hle.rf _))
    | exact cm_nf_gf fun _ => cm_nf_k _ _ _ _ (cm_hle.rf _)
    | exact cm_nf_pf fun _ _ hh => cm_nf_k _ _ _ _ hh
    | exact cm_nf_al fun _ => cm_nf_k _ _ _ _ (cm_hle.rf _)
    | exact cm_nf_as fun _ _ hh => cm_nf_k _ _ _ _ hh
    | exact cm_nf_jl fun _ => cm_nf_k _ _ _ _ (cm_hle.rf _)
    | exact cm_nf_js fun _ _ hh => cm_nf_k _ _ _ _ hh
    | exact cm_nf_rl fun _ => cm_nf_k _ _ _ _ (cm_hle.rf _)
    | exact cm_nf_rs fun _ _ hh => cm_nf_k _ _ _ _ hh
    | exact cm_nf_ln fun _ => cm_nf_k _ _ _ _ (cm_hle.rf _)
    | exact cm_nf_na fun _ _ hh => cm_nf_k _ _ _ _ hh
    | (rcases st with _ | ⟨x | x | x, st⟩ <;> first | exact cm_nf_none | exact cm_nf_tsw (cm_nf_k _ _ _ _ (cm_hle.rf _)) (fun _ => cm_nf_k _ _ _ _ (cm_hle.rf _)) _)
    | (rcases st with _ | ⟨x | x | x, st⟩ <;> first | exact cm_nf_none | exact cm_nf_lsw (cm_nf_k _ _ _ _ (cm_hle.rf _)) (fun _ => cm_nf_k _ _ _ _ (cm_hle.rf _)))
    | (rcases a with _ | a <;> first | exact cm_nf_nw fun _ _ hh => cm_nf_k _ _ _ _ hh | (rcases st with _ | ⟨z, st⟩ <;> first | exact cm_nf_e _ | exact cm_nf_none))
    | (rcases st with _ | ⟨x | x | x, _ | ⟨z, st⟩⟩ <;> first | exact cm_nf_none | (rcases a with _ | a <;> first | exact cm_nf_r _ | exact cm_nf_ck (cm_nf_r _)))
    | (rcases st with _ | ⟨x | x | x, _ | ⟨z, st⟩⟩ <;> first | exact cm_nf_none | exact cm_nf_r _)
    | (rcases st with _ | ⟨z, st⟩ <;> first | exact cm_nf_none | exact cm_nf_r _)
theorem cm_nf_st (y pc : Nat) (ls : cm_L) (st : List cm_V) (h : cm_H) : cm_nf h (fun k => cm_st k y pc ls st h) := by
  unfold cm_st
  rcases cm_fd (cm_cd y) pc with _ | en
  · exact cm_nf_none
  · exact cm_nf_do y pc en ls st h
/-- more of k: more of F -/
theorem cm_nf_mono {h0 : cm_H} {F : cm_K → cm_R} (hF : cm_nf h0 F) {k k' : cm_K} (hk : ∀ y pc ls st h r, k y pc ls st h = some r → k' y pc ls st h = some r) {r} (hr : F k = some r) : F k' = some r := by
  rcases hF with ⟨c, h, -⟩ | ⟨y, pc, ls, st, hx, -, h⟩ | ⟨b, as_, y, pc0, pc, ls, st, hs, h⟩
  · rw [h] at hr; rw [h]; exact hr
  · rw [h] at hr; rw [h]; exact hk _ _ _ _ _ _ hr
  · rw [h] at hr; rw [h]
    cases e : k b 0 as_ [] h0 with
    | none => rw [e] at hr; cases hr
    | some q =>
      rw [hk _ _ _ _ _ _ e]
      rw [e] at hr
      obtain ⟨o, h1⟩ := q
      rcases o with (_ | v) | x
      · exact hk _ _ _ _ _ _ hr
      · exact hk _ _ _ _ _ _ hr
      · show (match cm_hn hs pc0 x with
          | none => some (.inr x, h1)
          | some t => k' y t ls [.inr (.inr 300000)] h1) = some r
        have hr : (match cm_hn hs pc0 x with
          | none => some (.inr x, h1)
          | some t => k y t ls [.inr (.inr 300000)] h1) = some r := hr
        cases e2 : cm_hn hs pc0 x with
        | none => rw [e2] at hr; exact hr
        | some t => rw [e2] at hr; exact hk _ _ _ _ _ _ hr
theorem cm_nf_hle {h0 : cm_H} {F : cm_K → cm_R} (hF : cm_nf h0 F) {k : cm_K} (hk : ∀ y pc ls st h r h1, k y pc ls st h = some (r, h1) → cm_hle h h1) {r h1} (hr : F k = some (r, h1)) : cm_hle h0 h1 := by
  rcases hF with ⟨c, h, hc⟩ | ⟨y, pc, ls, st, hx, hh, h⟩ | ⟨b, as_, y, pc0, pc, ls, st, hs, h⟩
  · rw [h] at hr; exact hc _ _ hr
  · rw [h] at hr; exact hh.tr (hk _ _ _ _ _ _ _ hr)
  · rw [h] at hr
    cases e : k b 0 as_ [] h0 with
    | none => rw [e] at hr; cases hr
    | some q =>
      rw [e] at hr
      obtain ⟨o, h2⟩ := q
      have h3 := hk _ _ _ _ _ _ _ e
      rcases o with (_ | v) | x
      · exact h3.tr (hk _ _ _ _ _ _ _ hr)
      · exact h3.tr (hk _ _ _ _ _ _ _ hr)
      · have hr : (match cm_hn hs pc0 x with
          | none => some (.inr x, h2)
          | some t => k y t ls [.inr (.inr 300000)] h2) = some (r, h1) := hr
        cases e2 : cm_hn hs pc0 x with
        | none => rw [e2] at hr; cases hr; exact h3
        | some t => rw [e2] at hr; exact h3.tr (hk _ _ _ _ _ _ _ hr)
theorem cm_run_hle : ∀ n y pc ls st h r h1, cm_run n y pc ls st h = some (r, h1) → cm_hle h h1 := by
  intro n
  induction n with
  | zero => intro y pc ls st h r h1 hr; cases hr
  | succ n ih => intro y pc ls st h r h1 hr; exact cm_nf_hle (cm_nf_st y pc ls st h) ih hr
theorem cm_run_s : ∀ n y pc ls st h r, cm_run n y pc ls st h = some r → cm_run (n + 1) y pc ls st h = some r := by
  intro n
  induction n with
  | zero => intro y pc ls st h r hr; cases hr
  | succ n ih =>
    intro y pc ls st h r hr
    exact cm_nf_mono (cm_nf_st y pc ls st h) ih hr
theorem cm_run_le {n m : Nat} (hm : n ≤ m) {y pc ls st h r} (hr : cm_run n y pc ls st h = some r) : cm_run m y pc ls st h = some r := by
  induction hm with
  | refl => exact hr
  | step _ ih => exact cm_run_s _ _ _ _ _ _ _ ih
/-- where it comes to an end, at whatever step -/
noncomputable def cm_x : cm_K := fun y pc ls st h => by
  classical
  exact if e : ∃ r n, cm_run n y pc ls st h = some r then some e.choose else none
theorem cm_x_of {n y pc ls st h r} (hr : cm_run n y pc ls st h = some r) : cm_x y pc ls st h = some r := by
  classical
  have e : ∃ r n, cm_run n y pc ls st h = some r := ⟨r, n, hr⟩
  have h1 : cm_x y pc ls st h = some e.choose := by unfold cm_x; rw [dif_pos e]
  obtain ⟨m, hm⟩ := e.choose_spec
  have h2 := cm_run_le (Nat.le_max_left n m) hr
  have h3 := cm_run_le (Nat.le_max_right n m) hm
  rw [h2] at h3
  rw [h1, ← h3]
theorem cm_x_run {y pc ls st h r} (hr : cm_x y pc ls st h = some r) : ∃ n, cm_run n y pc ls st h = some r := by
  classical
  by_cases e : ∃ r n, cm_run n y pc ls st h = some r
  · obtain ⟨r', n, hn⟩ := e
    have := cm_x_of hn
    rw [this] at hr
    exact ⟨n, by rw [hn, hr]⟩
  · have h1 : cm_x y pc ls st h = none := by unfold cm_x; rw [dif_neg e]
    rw [h1] at hr; cases hr
theorem cm_nf_cont {h0 : cm_H} {F : cm_K → cm_R} (hF : cm_nf h0 F) {r} (hr : F cm_x = some r) : ∃ n, F (cm_run n) = some r := by
  rcases hF with ⟨c, h, -⟩ | ⟨y, pc, ls, st, hx, -, h⟩ | ⟨b, as_, y, pc0, pc, ls, st, hs, h⟩
  · exact ⟨0, by rw [h] at hr; rw [h]; exact hr⟩
  · rw [h] at hr
    obtain ⟨n, hn⟩ := cm_x_run hr
    exact ⟨n, by rw [h]; exact hn⟩
  · rw [h] at hr
    cases e : cm_x b 0 as_ [] h0 with
    | none => rw [e] at hr; cases hr
    | some q =>
      rw [e] at hr
      obtain ⟨n1, hn1⟩ := cm_x_run e
      obtain ⟨o, h1⟩ := q
      rcases o with (_ | v) | x
      · obtain ⟨n2, hn2⟩ := cm_x_run (show cm_x y pc ls st h1 = some r from hr)
        refine ⟨max n1 n2, ?_⟩
        rw [h, cm_run_le (Nat.le_max_left n1 n2) hn1]
        exact cm_run_le (Nat.le_max_right n1 n2) hn2
      · obtain ⟨n2, hn2⟩ := cm_x_run (show cm_x y pc ls (v :: st) h1 = some r from hr)
        refine ⟨max n1 n2, ?_⟩
        rw [h, cm_run_le (Nat.le_max_left n1 n2) hn1]
        exact cm_run_le (Nat.le_max_right n1 n2) hn2
      · have hr : (match cm_hn hs pc0 x with
          | none => some (.inr x, h1)
          | some t => cm_x y t ls [.inr (.inr 300000)] h1) = some r := hr
        cases e2 : cm_hn hs pc0 x with
        | none =>
          refine ⟨n1, ?_⟩
          rw [h, hn1]
          show (match cm_hn hs pc0 x with
            | none => some (.inr x, h1)
            | some t => cm_run n1 y t ls [.inr (.inr 300000)] h1) = some r
          rw [e2]
          rw [e2] at hr
          exact hr
        | some t =>
          rw [e2] at hr
          obtain ⟨n2, hn2⟩ := cm_x_run (show cm_x y t ls [.inr (.inr 300000)] h1 = some r from hr)
          refine ⟨max n1 n2, ?_⟩
          rw [h, cm_run_le (Nat.le_max_left n1 n2) hn1]
          show (match cm_hn hs pc0 x with
            | none => some (.inr x, h1)
            | some t => cm_run (max n1 n2) y t ls [.inr (.inr 300000)] h1) = some r
          rw [e2]
          exact cm_run_le (Nat.le_max_right n1 n2) hn2
theorem cm_x_eq (y pc : Nat) (ls : cm_L) (st : List cm_V) (h : cm_H) : cm_x y pc ls st h = cm_st cm_x y pc ls st h := by
  have a : ∀ r, cm_st cm_x y pc ls st h = some r → cm_x y pc ls st h = some r := by
    intro r hr
    obtain ⟨n, hn⟩ := cm_nf_cont (cm_nf_st y pc ls st h) hr
    exact cm_x_of (n := n + 1) hn
  have b : ∀ r, cm_x y pc ls st h = some r → cm_st cm_x y pc ls st h = some r := by
    intro r hr
    obtain ⟨n, hn⟩ := cm_x_run hr
    cases n with
    | zero => cases hn
    | succ n => exact cm_nf_mono (cm_nf_st y pc ls st h) (fun _ _ _ _ _ _ hx => cm_x_of hx) hn
  cases e : cm_st cm_x y pc ls st h with
  | none =>
    cases e2 : cm_x y pc ls st h with
    | none => rfl
    | some r => rw [b r e2] at e; cases e
  | some r => exact a r e
/-- some steps on at once, as far as the places of 'cuts' -/
def cm_un (cuts : List Nat) (ex : cm_K) (y : Nat) (n : Nat) : Nat → cm_L → List cm_V → cm_H → cm_R := match n with
  | 0 => fun pc ls st h => ex y pc ls st h
  | n + 1 => fun pc ls st h => cm_st (fun y' pc' ls' st' h' => match y'.beq y with
    | true => match cuts.contains pc' with
      | true => ex y' pc' ls' st' h'
      | false => cm_un cuts ex y n pc' ls' st' h'
    | false => ex y' pc' ls' st' h') y pc ls st h
theorem cm_un_eq (cuts : List Nat) (y : Nat) : ∀ n pc ls st h, cm_un cuts cm_x y n pc ls st h = cm_x y pc ls st h := by
  intro n
  induction n with
  | zero => intro pc ls st h; rfl
  | succ n ih =>
    intro pc ls st h
    rw [cm_x_eq]
    show cm_st _ y pc ls st h = _
    congr 1
    funext y' pc' ls' st' h'
    cases e : y'.beq y with
    | false => rfl
    | true =>
      have : y' = y := Nat.eq_of_beq_eq_true e
      subst this
      cases cuts.contains pc' with
      | true => rfl
      | false => exact ih _ _ _ _
end
section
/-! names that the tables of words need -/
abbrev cm_vw : List vw_C := [(RX0, TX0, 3), (RX1, TX1, 4), (RX2, TX2, 11), (RX3, TX3, 1), (RX4, TX4, 6), (RX5, TX5, 14), (RX6, TX6, 11), (RX7, TX7, 7), (RX8, TX8, 14), (RX9, TX9, 40)]
/-- a field's kind: 0 int, 1 boolean, 2 a reference -/
def cm_tc (d : String) : Nat := if d = "I" then 0 else if d = "Z" then 1 else 2
/-- words that stay -/
def cm_two (w : Cond) : Bool := match w with
  | .methodLinkNest .. => true
  | .fieldLinkNest .. => true
  | .declares _ => true
  | .castable .. => true
  | w => goodWord w
theorem cm_two_ot {w : Cond} (h : cm_two w = true) : w.onTables = true ∨ ∃ ty, w = .arrayClass ty := by
  cases w <;> first | exact Or.inl rfl | exact Or.inr ⟨_, rfl⟩ | (simp [cm_two, goodWord, Cond.onTables, Cond.keeps, Cond.steady] at h)
theorem cm_two_at {args a' : Array Value} {s U : State} (hW : s.WarmedH U.vm) {w : Cond} (hw : cm_two w = true) (h : w.before args s = true) : w.before a' U = true := by
  cases w with
  | methodLinkNest a b c d => exact va_Nw.use rfl (va_Nw.warmM hW (va_Nw.of rfl h))
  | fieldLinkNest a b c d e f => exact va_Nw.use rfl (va_Nw.warmF hW (va_Nw.of rfl h))
  | declares x => exact va_Nw.use rfl (va_Nw.warmD hW (va_Nw.of rfl h))
  | castable a b => exact va_Nw.use rfl (va_Nw.warmC hW (va_Nw.of rfl h))
  | _ => exact word_at hW (good_of_word hw) h
/-- the texts: of each a place in a pool -/
def cm_strs : List (String × Nat × String) := [("OnceVolume", 88, "the tape has not so many bytes"), ("OnceVolume", 173, "no such count"), ("OnceVolume", 197, "no such block"), ("OnceVolume", 199, "no such what"), ("OnceVolume", 192, "the block tells nothing such"), ("OnceVolume", 232, "no such file"), ("OnceVolume", 223, "no such cell"), ("OnceVolume", 252, "no such map"), ("OnceVolume", 257, "no such name"), ("OnceVolume", 375, "the disc has not so many blocks"), ("OnceVolume", 397, "spared is 0 to 5, tenths are 0 to 10"), ("OnceVolume", 405, "n is 0 to 60")]
def cm_lits : List (String × Nat × String) := [("OnceVolume$Reader", 74, "disc"), ("OnceVolume$Reader", 83, "bad"), ("OnceVolume$Reader", 87, "file"), ("OnceVolumeModel", 164, "disc"), ("OnceVolumeModel", 173, "bad"), ("OnceVolumeModel", 177, "file")]
def cm_len : List Nat := [4, 3, 4, 4, 3, 4]
def cm_byt : List (List Int32) := [[100, 105, 115, 99], [98, 97, 100], [102, 105, 108, 101], [100, 105, 115, 99], [98, 97, 100], [102, 105, 108, 101]]
end
section
def cm_cn (k : Nat) : String := match k with
  | 0 => RX0
  | 1 => RX1
  | 2 => RX2
  | 3 => RX3
  | 4 => RX4
  | 5 => RX5
  | 6 => RX6
  | 7 => RX7
  | 8 => RX8
  | 9 => RX9
  | 10 => RL
  | _ => RJ7
def cm_nm (y : Nat) : MethodName := (if y < 147 then (if y < 73 then (if y < 36 then (if y < 18 then (if y < 9 then (if y < 4 then (if y < 2 then (if y < 1 then yX0_init else yX0_forget) else (if y < 3 then yX0_keep else yX0_takeBack)) else (if y < 6 then (if y < 5 then yX0_takeFrom else yX1_init) else (if y < 7 then yX1_plan else (if y < 8 then yX1_addFile else yX1_add)))) else (if y < 13 then (if y < 11 then (if y < 10 then yX1_lay else yX1_placePacket) else (if y < 12 then yX1_writeBlock else yX1_writeEntry)) else (if y < 15 then (if y < 14 then yX1_writeDirectory else yX1_writeMap) else (if y < 16 then yX2_init else (if y < 17 then yX2_takeOver else yX2_takeBlocks))))) else (if y < 27 then (if y < 22 then (if y < 20 then (if y < 19 then yX2_isBlock else yX2_isFaulty) else (if y < 21 then yX2_hasFaulty else yX2_kindOf)) else (if y < 24 then (if y < 23 then yX2_lengthOf else yX2_toldBy) else (if y < 25 then yX2_write else (if y < 26 then yX2_tell else yX2_packetsFor)))) else (if y < 31 then (if y < 29 then (if y < 28 then yX2_costOf else yX2_hasRoomForPacket) else (if y < 30 then yX2_wouldSpare else yX2_foresee)) else (if y < 33 then (if y < 32 then yX2_isGoodMap else yX2_lastGoodMap) else (if y < 34 then yX2_goodMaps else (if y < 35 then yX2_mapAlong else yX2_mapsAlong)))))) else (if y < 54 then (if y < 45 then (if y < 40 then (if y < 38 then (if y < 37 then yX2_entryBy else yX2_numberBy) else (if y < 39 then yX2_tellAlike else yX2_reach)) else (if y < 42 then (if y < 41 then yX2_reachBlock else yX2_mapsReaching) else (if y < 43 then yX2_deadBlocks else (if y < 44 then yX2_badBlocks else yX3_init)))) else (if y < 49 then (if y < 47 then (if y < 46 then yX3_draw else yX4_init) else (if y < 48 then yX5_init else yX5_readText)) else (if y < 51 then (if y < 50 then yX5_forgetAll else yX5_readClause) else (if y < 52 then yX5_fail else (if y < 53 then yX5_readSemicolon else yX5_readDisc))))) else (if y < 63 then (if y < 58 then (if y < 56 then (if y < 55 then yX5_readNumber else yX5_isFit) else (if y < 57 then yX5_readBad else yX5_readBadBlock)) else (if y < 60 then (if y < 59 then yX5_readFile else yX5_isTold) else (if y < 61 then yX5_readCell else (if y < 62 then yX6_init else yX6_takeFrom)))) else (if y < 68 then (if y < 65 then (if y < 64 then yX6_takeOver else yX6_dropFiles) else (if y < 66 then yX6_settleChanges else (if y < 67 then yX6_settle else yX6_mountMap))) else (if y < 70 then (if y < 69 then yX6_takeCells else yX6_putCell) else (if y < 71 then yX6_has else (if y < 72 then yX6_blockOf else yX6_numberOf))))))) else (if y < 110 then (if y < 91 then (if y < 82 then (if y < 77 then (if y < 75 then (if y < 74 then yX6_entryOf else yX6_nameOf) else (if y < 76 then yX6_freeVirtual else yX6_fileCount)) else (if y < 79 then (if y < 78 then yX6_changedCount else yX6_anyChanged) else (if y < 80 then yX6_newCells else (if y < 81 then yX6_newCount else yX6_contentCount)))) else (if y < 86 then (if y < 84 then (if y < 83 then yX6_canSet else yX6_setCell) else (if y < 85 then yX6_beginFile else yX6_eraseFile)) else (if y < 88 then (if y < 87 then yX6_forget else yX6_canGoTo) else (if y < 89 then yX6_renameFile else (if y < 90 then yX6_copyFile else yX6_copyCells))))) else (if y < 100 then (if y < 95 then (if y < 93 then (if y < 92 then yX6_isLike else yX6_runs) else (if y < 94 then yX6_farthest else yX7_init)) else (if y < 97 then (if y < 96 then yX7_begin else yX7_advance) else (if y < 98 then yX7_endOfRow else (if y < 99 then yX7_takeValue else yX7_isWord)))) else (if y < 105 then (if y < 102 then (if y < 101 then yX8_init else yX8_feed) else (if y < 103 then yX8_feedNumber else (if y < 104 then yX8_disc else yX8_beginAnew))) else (if y < 107 then (if y < 106 then yX8_fault else yX8_count) else (if y < 108 then yX8_block else (if y < 109 then yX8_tells else yX8_checkBlock)))))) else (if y < 128 then (if y < 119 then (if y < 114 then (if y < 112 then (if y < 111 then yX8_checkWhat else yX8_file) else (if y < 113 then yX8_lie else yX8_read)) else (if y < 116 then (if y < 115 then yX8_checkFile else yX8_past) else (if y < 117 then yX8_mapOrThrow else (if y < 118 then yX8_checkName else yX8_checkCell)))) else (if y < 123 then (if y < 121 then (if y < 120 then yX8_versions else yX8_isLikeOneOf) else (if y < 122 then yX8_since else yX8_alike)) else (if y < 125 then (if y < 124 then yX8_set else yX8_refuse) else (if y < 126 then yX8_cut else (if y < 127 then yX8_erase else yX8_rename))))) else (if y < 137 then (if y < 132 then (if y < 130 then (if y < 129 then yX8_copy else yX8_revert) else (if y < 131 then yX8_sync else yX8_packetsNow)) else (if y < 134 then (if y < 133 then yX8_canBegin else yX8_writeAll) else (if y < 135 then yX8_mountLast else (if y < 136 then yX8_tear else yX8_canTear)))) else (if y < 142 then (if y < 139 then (if y < 138 then yX8_writeTorn else yX8_close) else (if y < 140 then yX8_canClose else (if y < 141 then yX8_closeSession else yX8_mount))) else (if y < 144 then (if y < 143 then yX8_undo else yX8_cost) else (if y < 145 then yX8_apart else (if y < 146 then yX8_found else yX8_left)))))))) else (if y < 221 then (if y < 184 then (if y < 165 then (if y < 156 then (if y < 151 then (if y < 149 then (if y < 148 then yX8_ends else yX8_endWith) else (if y < 150 then yX8_toPack else yX8_blocksBy)) else (if y < 153 then (if y < 152 then yX8_packetsBy else yX8_guess) else (if y < 154 then yX8_storms else (if y < 155 then yX8_power else yX8_years)))) else (if y < 160 then (if y < 158 then (if y < 157 then yX8_liveYear else yX8_setDrawn) else (if y < 159 then yX8_image else yX8_restore)) else (if y < 162 then (if y < 161 then yX8_isName else yX9_init) else (if y < 163 then yX9_thrown else (if y < 164 then yX9_fail else yX9_isIn))))) else (if y < 174 then (if y < 169 then (if y < 167 then (if y < 166 then yX9_noFiles else yX9_layNothing) else (if y < 168 then yX9_feed else yX9_byteAt)) else (if y < 171 then (if y < 170 then yX9_isLetter else yX9_isDigit) else (if y < 172 then yX9_stepOn else (if y < 173 then yX9_wrong else yX9_is)))) else (if y < 179 then (if y < 176 then (if y < 175 then yX9_numberNow else yX9_readNumber) else (if y < 177 then yX9_isNumberNext else (if y < 178 then yX9_readDisc else yX9_readBad))) else (if y < 181 then (if y < 180 then yX9_readFile else yX9_readClause) else (if y < 182 then yX9_disc else (if y < 183 then yX9_fault else yX9_isFaulty)))))) else (if y < 202 then (if y < 193 then (if y < 188 then (if y < 186 then (if y < 185 then yX9_kindOf else yX9_tellsAt) else (if y < 187 then yX9_isGood else yX9_lastGood)) else (if y < 190 then (if y < 189 then yX9_along else yX9_entryBy) else (if y < 191 then yX9_manyBy else (if y < 192 then yX9_cellBy else yX9_takeCells)))) else (if y < 197 then (if y < 195 then (if y < 194 then yX9_mountMap else yX9_filesNow) else (if y < 196 then yX9_changedFiles else yX9_hasChanged)) else (if y < 199 then (if y < 198 then yX9_newCells else yX9_newAll) else (if y < 200 then yX9_content else (if y < 201 then yX9_nameOf else yX9_up))))) else (if y < 211 then (if y < 206 then (if y < 204 then (if y < 203 then yX9_layContents else yX9_placeOf) else (if y < 205 then yX9_putBody else yX9_canBegin)) else (if y < 208 then (if y < 207 then yX9_isTorn else yX9_putBlock) else (if y < 209 then yX9_writePacket else (if y < 210 then yX9_writeAll else yX9_commit)))) else (if y < 216 then (if y < 213 then (if y < 212 then yX9_syncNow else yX9_wouldWrite) else (if y < 214 then yX9_tearNow else (if y < 215 then yX9_meet else yX9_goodMaps))) else (if y < 218 then (if y < 217 then yX9_chain else yX9_dead) else (if y < 219 then yX9_badMany else (if y < 220 then yX9_count else yX9_isBlock))))))) else (if y < 258 then (if y < 239 then (if y < 230 then (if y < 225 then (if y < 223 then (if y < 222 then yX9_block else yX9_tells) else (if y < 224 then yX9_isName else yX9_isFile)) else (if y < 227 then (if y < 226 then yX9_file else yX9_read) else (if y < 228 then yX9_whereOf else (if y < 229 then yX9_lie else yX9_mapBack)))) else (if y < 234 then (if y < 232 then (if y < 231 then yX9_past else yX9_areAlike) else (if y < 233 then yX9_versions else yX9_since)) else (if y < 236 then (if y < 235 then yX9_isAsInMind else yX9_alike) else (if y < 237 then yX9_refuse else (if y < 238 then yX9_copyTo else yX9_keep))))) else (if y < 248 then (if y < 243 then (if y < 241 then (if y < 240 then yX9_freeVirtual else yX9_canSet) else (if y < 242 then yX9_beginFile else yX9_setNow)) else (if y < 245 then (if y < 244 then yX9_set else yX9_cut) else (if y < 246 then yX9_eraseNow else (if y < 247 then yX9_erase else yX9_canName)))) else (if y < 253 then (if y < 250 then (if y < 249 then yX9_likeCells else yX9_rename) else (if y < 251 then yX9_copy else (if y < 252 then yX9_revert else yX9_sync))) else (if y < 255 then (if y < 254 then yX9_tear else yX9_canClose) else (if y < 256 then yX9_closeNow else (if y < 257 then yX9_close else yX9_mount)))))) else (if y < 276 then (if y < 267 then (if y < 262 then (if y < 260 then (if y < 259 then yX9_undo else yX9_costOf) else (if y < 261 then yX9_things else yX9_cost)) else (if y < 264 then (if y < 263 then yX9_apart else yX9_found) else (if y < 265 then yX9_left else (if y < 266 then yX9_endsNow else yX9_ends)))) else (if y < 271 then (if y < 269 then (if y < 268 then yX9_toPack else yX9_guess) else (if y < 270 then yX9_powerOf else yX9_storms)) else (if y < 273 then (if y < 272 then yX9_draw else yX9_happen) else (if y < 274 then yX9_years else (if y < 275 then yX9_image else yX9_restore))))) else (if y < 285 then (if y < 280 then (if y < 278 then (if y < 277 then yL_disc else yL_count) else (if y < 279 then yL_block else yL_tells)) else (if y < 282 then (if y < 281 then yL_file else yL_lie) else (if y < 283 then yL_read else (if y < 284 then yL_past else yL_versions)))) else (if y < 290 then (if y < 287 then (if y < 286 then yL_since else yL_alike) else (if y < 288 then yL_cost else (if y < 289 then yL_found else yL_toPack))) else (if y < 292 then (if y < 291 then yL_guess else yL_storms) else (if y < 293 then yL_years else (if y < 294 then yL_law else yJ7_fill_53178)))))))))
def cm_by (y : Nat) : ByteArray := (if y < 147 then (if y < 73 then (if y < 36 then (if y < 18 then (if y < 9 then (if y < 4 then (if y < 2 then (if y < 1 then cX0_init else cX0_forget) else (if y < 3 then cX0_keep else cX0_takeBack)) else (if y < 6 then (if y < 5 then cX0_takeFrom else cX1_init) else (if y < 7 then cX1_plan else (if y < 8 then cX1_addFile else cX1_add)))) else (if y < 13 then (if y < 11 then (if y < 10 then cX1_lay else cX1_placePacket) else (if y < 12 then cX1_writeBlock else cX1_writeEntry)) else (if y < 15 then (if y < 14 then cX1_writeDirectory else cX1_writeMap) else (if y < 16 then cX2_init else (if y < 17 then cX2_takeOver else cX2_takeBlocks))))) else (if y < 27 then (if y < 22 then (if y < 20 then (if y < 19 then cX2_isBlock else cX2_isFaulty) else (if y < 21 then cX2_hasFaulty else cX2_kindOf)) else (if y < 24 then (if y < 23 then cX2_lengthOf else cX2_toldBy) else (if y < 25 then cX2_write else (if y < 26 then cX2_tell else cX2_packetsFor)))) else (if y < 31 then (if y < 29 then (if y < 28 then cX2_costOf else cX2_hasRoomForPacket) else (if y < 30 then cX2_wouldSpare else cX2_foresee)) else (if y < 33 then (if y < 32 then cX2_isGoodMap else cX2_lastGoodMap) else (if y < 34 then cX2_goodMaps else (if y < 35 then cX2_mapAlong else cX2_mapsAlong)))))) else (if y < 54 then (if y < 45 then (if y < 40 then (if y < 38 then (if y < 37 then cX2_entryBy else cX2_numberBy) else (if y < 39 then cX2_tellAlike else cX2_reach)) else (if y < 42 then (if y < 41 then cX2_reachBlock else cX2_mapsReaching) else (if y < 43 then cX2_deadBlocks else (if y < 44 then cX2_badBlocks else cX3_init)))) else (if y < 49 then (if y < 47 then (if y < 46 then cX3_draw else cX4_init) else (if y < 48 then cX5_init else cX5_readText)) else (if y < 51 then (if y < 50 then cX5_forgetAll else cX5_readClause) else (if y < 52 then cX5_fail else (if y < 53 then cX5_readSemicolon else cX5_readDisc))))) else (if y < 63 then (if y < 58 then (if y < 56 then (if y < 55 then cX5_readNumber else cX5_isFit) else (if y < 57 then cX5_readBad else cX5_readBadBlock)) else (if y < 60 then (if y < 59 then cX5_readFile else cX5_isTold) else (if y < 61 then cX5_readCell else (if y < 62 then cX6_init else cX6_takeFrom)))) else (if y < 68 then (if y < 65 then (if y < 64 then cX6_takeOver else cX6_dropFiles) else (if y < 66 then cX6_settleChanges else (if y < 67 then cX6_settle else cX6_mountMap))) else (if y < 70 then (if y < 69 then cX6_takeCells else cX6_putCell) else (if y < 71 then cX6_has else (if y < 72 then cX6_blockOf else cX6_numberOf))))))) else (if y < 110 then (if y < 91 then (if y < 82 then (if y < 77 then (if y < 75 then (if y < 74 then cX6_entryOf else cX6_nameOf) else (if y < 76 then cX6_freeVirtual else cX6_fileCount)) else (if y < 79 then (if y < 78 then cX6_changedCount else cX6_anyChanged) else (if y < 80 then cX6_newCells else (if y < 81 then cX6_newCount else cX6_contentCount)))) else (if y < 86 then (if y < 84 then (if y < 83 then cX6_canSet else cX6_setCell) else (if y < 85 then cX6_beginFile else cX6_eraseFile)) else (if y < 88 then (if y < 87 then cX6_forget else cX6_canGoTo) else (if y < 89 then cX6_renameFile else (if y < 90 then cX6_copyFile else cX6_copyCells))))) else (if y < 100 then (if y < 95 then (if y < 93 then (if y < 92 then cX6_isLike else cX6_runs) else (if y < 94 then cX6_farthest else cX7_init)) else (if y < 97 then (if y < 96 then cX7_begin else cX7_advance) else (if y < 98 then cX7_endOfRow else (if y < 99 then cX7_takeValue else cX7_isWord)))) else (if y < 105 then (if y < 102 then (if y < 101 then cX8_init else cX8_feed) else (if y < 103 then cX8_feedNumber else (if y < 104 then cX8_disc else cX8_beginAnew))) else (if y < 107 then (if y < 106 then cX8_fault else cX8_count) else (if y < 108 then cX8_block else (if y < 109 then cX8_tells else cX8_checkBlock)))))) else (if y < 128 then (if y < 119 then (if y < 114 then (if y < 112 then (if y < 111 then cX8_checkWhat else cX8_file) else (if y < 113 then cX8_lie else cX8_read)) else (if y < 116 then (if y < 115 then cX8_checkFile else cX8_past) else (if y < 117 then cX8_mapOrThrow else (if y < 118 then cX8_checkName else cX8_checkCell)))) else (if y < 123 then (if y < 121 then (if y < 120 then cX8_versions else cX8_isLikeOneOf) else (if y < 122 then cX8_since else cX8_alike)) else (if y < 125 then (if y < 124 then cX8_set else cX8_refuse) else (if y < 126 then cX8_cut else (if y < 127 then cX8_erase else cX8_rename))))) else (if y < 137 then (if y < 132 then (if y < 130 then (if y < 129 then cX8_copy else cX8_revert) else (if y < 131 then cX8_sync else cX8_packetsNow)) else (if y < 134 then (if y < 133 then cX8_canBegin else cX8_writeAll) else (if y < 135 then cX8_mountLast else (if y < 136 then cX8_tear else cX8_canTear)))) else (if y < 142 then (if y < 139 then (if y < 138 then cX8_writeTorn else cX8_close) else (if y < 140 then cX8_canClose else (if y < 141 then cX8_closeSession else cX8_mount))) else (if y < 144 then (if y < 143 then cX8_undo else cX8_cost) else (if y < 145 then cX8_apart else (if y < 146 then cX8_found else cX8_left)))))))) else (if y < 221 then (if y < 184 then (if y < 165 then (if y < 156 then (if y < 151 then (if y < 149 then (if y < 148 then cX8_ends else cX8_endWith) else (if y < 150 then cX8_toPack else cX8_blocksBy)) else (if y < 153 then (if y < 152 then cX8_packetsBy else cX8_guess) else (if y < 154 then cX8_storms else (if y < 155 then cX8_power else cX8_years)))) else (if y < 160 then (if y < 158 then (if y < 157 then cX8_liveYear else cX8_setDrawn) else (if y < 159 then cX8_image else cX8_restore)) else (if y < 162 then (if y < 161 then cX8_isName else cX9_init) else (if y < 163 then cX9_thrown else (if y < 164 then cX9_fail else cX9_isIn))))) else (if y < 174 then (if y < 169 then (if y < 167 then (if y < 166 then cX9_noFiles else cX9_layNothing) else (if y < 168 then cX9_feed else cX9_byteAt)) else (if y < 171 then (if y < 170 then cX9_isLetter else cX9_isDigit) else (if y < 172 then cX9_stepOn else (if y < 173 then cX9_wrong else cX9_is)))) else (if y < 179 then (if y < 176 then (if y < 175 then cX9_numberNow else cX9_readNumber) else (if y < 177 then cX9_isNumberNext else (if y < 178 then cX9_readDisc else cX9_readBad))) else (if y < 181 then (if y < 180 then cX9_readFile else cX9_readClause) else (if y < 182 then cX9_disc else (if y < 183 then cX9_fault else cX9_isFaulty)))))) else (if y < 202 then (if y < 193 then (if y < 188 then (if y < 186 then (if y < 185 then cX9_kindOf else cX9_tellsAt) else (if y < 187 then cX9_isGood else cX9_lastGood)) else (if y < 190 then (if y < 189 then cX9_along else cX9_entryBy) else (if y < 191 then cX9_manyBy else (if y < 192 then cX9_cellBy else cX9_takeCells)))) else (if y < 197 then (if y < 195 then (if y < 194 then cX9_mountMap else cX9_filesNow) else (if y < 196 then cX9_changedFiles else cX9_hasChanged)) else (if y < 199 then (if y < 198 then cX9_newCells else cX9_newAll) else (if y < 200 then cX9_content else (if y < 201 then cX9_nameOf else cX9_up))))) else (if y < 211 then (if y < 206 then (if y < 204 then (if y < 203 then cX9_layContents else cX9_placeOf) else (if y < 205 then cX9_putBody else cX9_canBegin)) else (if y < 208 then (if y < 207 then cX9_isTorn else cX9_putBlock) else (if y < 209 then cX9_writePacket else (if y < 210 then cX9_writeAll else cX9_commit)))) else (if y < 216 then (if y < 213 then (if y < 212 then cX9_syncNow else cX9_wouldWrite) else (if y < 214 then cX9_tearNow else (if y < 215 then cX9_meet else cX9_goodMaps))) else (if y < 218 then (if y < 217 then cX9_chain else cX9_dead) else (if y < 219 then cX9_badMany else (if y < 220 then cX9_count else cX9_isBlock))))))) else (if y < 258 then (if y < 239 then (if y < 230 then (if y < 225 then (if y < 223 then (if y < 222 then cX9_block else cX9_tells) else (if y < 224 then cX9_isName else cX9_isFile)) else (if y < 227 then (if y < 226 then cX9_file else cX9_read) else (if y < 228 then cX9_whereOf else (if y < 229 then cX9_lie else cX9_mapBack)))) else (if y < 234 then (if y < 232 then (if y < 231 then cX9_past else cX9_areAlike) else (if y < 233 then cX9_versions else cX9_since)) else (if y < 236 then (if y < 235 then cX9_isAsInMind else cX9_alike) else (if y < 237 then cX9_refuse else (if y < 238 then cX9_copyTo else cX9_keep))))) else (if y < 248 then (if y < 243 then (if y < 241 then (if y < 240 then cX9_freeVirtual else cX9_canSet) else (if y < 242 then cX9_beginFile else cX9_setNow)) else (if y < 245 then (if y < 244 then cX9_set else cX9_cut) else (if y < 246 then cX9_eraseNow else (if y < 247 then cX9_erase else cX9_canName)))) else (if y < 253 then (if y < 250 then (if y < 249 then cX9_likeCells else cX9_rename) else (if y < 251 then cX9_copy else (if y < 252 then cX9_revert else cX9_sync))) else (if y < 255 then (if y < 254 then cX9_tear else cX9_canClose) else (if y < 256 then cX9_closeNow else (if y < 257 then cX9_close else cX9_mount)))))) else (if y < 276 then (if y < 267 then (if y < 262 then (if y < 260 then (if y < 259 then cX9_undo else cX9_costOf) else (if y < 261 then cX9_things else cX9_cost)) else (if y < 264 then (if y < 263 then cX9_apart else cX9_found) else (if y < 265 then cX9_left else (if y < 266 then cX9_endsNow else cX9_ends)))) else (if y < 271 then (if y < 269 then (if y < 268 then cX9_toPack else cX9_guess) else (if y < 270 then cX9_powerOf else cX9_storms)) else (if y < 273 then (if y < 272 then cX9_draw else cX9_happen) else (if y < 274 then cX9_years else (if y < 275 then cX9_image else cX9_restore))))) else (if y < 285 then (if y < 280 then (if y < 278 then (if y < 277 then cL_disc else cL_count) else (if y < 279 then cL_block else cL_tells)) else (if y < 282 then (if y < 281 then cL_file else cL_lie) else (if y < 283 then cL_read else (if y < 284 then cL_past else cL_versions)))) else (if y < 290 then (if y < 287 then (if y < 286 then cL_since else cL_alike) else (if y < 288 then cL_cost else (if y < 289 then cL_found else cL_toPack))) else (if y < 292 then (if y < 291 then cL_guess else cL_storms) else (if y < 293 then cL_years else (if y < 294 then cL_law else cJ7_fill_53178)))))))))
def cm_rt (y : Nat) : Option FieldType := (if y < 147 then (if y < 73 then (if y < 36 then (if y < 18 then (if y < 9 then (if y < 4 then (if y < 2 then (if y < 1 then none else none) else (if y < 3 then none else none)) else (if y < 6 then (if y < 5 then none else none) else (if y < 7 then none else (if y < 8 then none else none)))) else (if y < 13 then (if y < 11 then (if y < 10 then (some .boolean) else none) else (if y < 12 then none else none)) else (if y < 15 then (if y < 14 then none else none) else (if y < 16 then none else (if y < 17 then none else none))))) else (if y < 27 then (if y < 22 then (if y < 20 then (if y < 19 then (some .boolean) else (some .boolean)) else (if y < 21 then (some .boolean) else (some .int))) else (if y < 24 then (if y < 23 then (some .int) else (some .int)) else (if y < 25 then none else (if y < 26 then none else (some .int))))) else (if y < 31 then (if y < 29 then (if y < 28 then (some .int) else (some .boolean)) else (if y < 30 then (some .boolean) else (some .int))) else (if y < 33 then (if y < 32 then (some .boolean) else (some .int)) else (if y < 34 then (some .int) else (if y < 35 then (some .int) else (some .int))))))) else (if y < 54 then (if y < 45 then (if y < 40 then (if y < 38 then (if y < 37 then (some .int) else (some .int)) else (if y < 39 then (some .boolean) else none)) else (if y < 42 then (if y < 41 then none else (some .int)) else (if y < 43 then (some .int) else (if y < 44 then (some .int) else none)))) else (if y < 49 then (if y < 47 then (if y < 46 then (some .int) else none) else (if y < 48 then none else none)) else (if y < 51 then (if y < 50 then none else none) else (if y < 52 then none else (if y < 53 then none else none))))) else (if y < 63 then (if y < 58 then (if y < 56 then (if y < 55 then (some .int) else (some .boolean)) else (if y < 57 then none else none)) else (if y < 60 then (if y < 59 then none else (some .boolean)) else (if y < 61 then none else (if y < 62 then none else none)))) else (if y < 68 then (if y < 65 then (if y < 64 then none else none) else (if y < 66 then none else (if y < 67 then none else none))) else (if y < 70 then (if y < 69 then none else none) else (if y < 71 then (some .boolean) else (if y < 72 then (some .int) else (some .int)))))))) else (if y < 110 then (if y < 91 then (if y < 82 then (if y < 77 then (if y < 75 then (if y < 74 then (some .int) else (some .int)) else (if y < 76 then (some .int) else (some .int))) else (if y < 79 then (if y < 78 then (some .int) else (some .boolean)) else (if y < 80 then (some .int) else (if y < 81 then (some .int) else (some .int))))) else (if y < 86 then (if y < 84 then (if y < 83 then (some .boolean) else none) else (if y < 85 then none else none)) else (if y < 88 then (if y < 87 then none else (some .boolean)) else (if y < 89 then none else (if y < 90 then none else none))))) else (if y < 100 then (if y < 95 then (if y < 93 then (if y < 92 then (some .boolean) else (some .int)) else (if y < 94 then (some .int) else none)) else (if y < 97 then (if y < 96 then none else none) else (if y < 98 then (some .int) else (if y < 99 then none else (some .boolean))))) else (if y < 105 then (if y < 102 then (if y < 101 then none else (some .int)) else (if y < 103 then none else (if y < 104 then (some .int) else none))) else (if y < 107 then (if y < 106 then (some .int) else (some .int)) else (if y < 108 then (some .int) else (if y < 109 then (some .int) else none)))))) else (if y < 128 then (if y < 119 then (if y < 114 then (if y < 112 then (if y < 111 then none else (some .int)) else (if y < 113 then (some .int) else (some .int))) else (if y < 116 then (if y < 115 then none else (some .int)) else (if y < 117 then (some .int) else (if y < 118 then none else none)))) else (if y < 123 then (if y < 121 then (if y < 120 then (some .int) else (some .boolean)) else (if y < 122 then (some .int) else (some .int))) else (if y < 125 then (if y < 124 then (some .int) else (some .int)) else (if y < 126 then (some .int) else (if y < 127 then (some .int) else (some .boolean)))))) else (if y < 137 then (if y < 132 then (if y < 130 then (if y < 129 then (some .int) else (some .int)) else (if y < 131 then (some .int) else (some .int))) else (if y < 134 then (if y < 133 then (some .boolean) else (some .boolean)) else (if y < 135 then none else (if y < 136 then (some .int) else (some .boolean))))) else (if y < 142 then (if y < 139 then (if y < 138 then none else (some .int)) else (if y < 140 then (some .boolean) else (if y < 141 then none else (some .int)))) else (if y < 144 then (if y < 143 then (some .int) else (some .int)) else (if y < 145 then (some .int) else (if y < 146 then (some .int) else (some .int))))))))) else (if y < 221 then (if y < 184 then (if y < 165 then (if y < 156 then (if y < 151 then (if y < 149 then (if y < 148 then (some .int) else (some .int)) else (if y < 150 then (some .int) else (some .int))) else (if y < 153 then (if y < 152 then (some .int) else (some .int)) else (if y < 154 then (some .long) else (if y < 155 then (some .long) else (some .int))))) else (if y < 160 then (if y < 158 then (if y < 157 then none else none) else (if y < 159 then none else (some .boolean))) else (if y < 162 then (if y < 161 then (some .boolean) else none) else (if y < 163 then (some .int) else (if y < 164 then (some .int) else (some .boolean)))))) else (if y < 174 then (if y < 169 then (if y < 167 then (if y < 166 then none else none) else (if y < 168 then (some .int) else (some .int))) else (if y < 171 then (if y < 170 then (some .boolean) else (some .boolean)) else (if y < 172 then none else (if y < 173 then none else (some .boolean))))) else (if y < 179 then (if y < 176 then (if y < 175 then (some .int) else (some .int)) else (if y < 177 then (some .boolean) else (if y < 178 then none else none))) else (if y < 181 then (if y < 180 then none else none) else (if y < 182 then (some .int) else (if y < 183 then (some .int) else (some .boolean))))))) else (if y < 202 then (if y < 193 then (if y < 188 then (if y < 186 then (if y < 185 then (some .int) else (some .int)) else (if y < 187 then (some .boolean) else (some .int))) else (if y < 190 then (if y < 189 then (some .int) else (some .int)) else (if y < 191 then (some .int) else (if y < 192 then (some .int) else none)))) else (if y < 197 then (if y < 195 then (if y < 194 then none else (some .int)) else (if y < 196 then (some .int) else (some .boolean))) else (if y < 199 then (if y < 198 then (some .int) else (some .int)) else (if y < 200 then none else (if y < 201 then (some .int) else (some .int)))))) else (if y < 211 then (if y < 206 then (if y < 204 then (if y < 203 then none else (some .int)) else (if y < 205 then none else (some .boolean))) else (if y < 208 then (if y < 207 then (some .boolean) else none) else (if y < 209 then (some .boolean) else (if y < 210 then (some .int) else none)))) else (if y < 216 then (if y < 213 then (if y < 212 then (some .int) else (some .int)) else (if y < 214 then none else (if y < 215 then none else (some .int)))) else (if y < 218 then (if y < 217 then (some .int) else (some .int)) else (if y < 219 then (some .int) else (if y < 220 then (some .int) else (some .boolean)))))))) else (if y < 258 then (if y < 239 then (if y < 230 then (if y < 225 then (if y < 223 then (if y < 222 then (some .int) else (some .int)) else (if y < 224 then (some .boolean) else (some .boolean))) else (if y < 227 then (if y < 226 then (some .int) else (some .int)) else (if y < 228 then (some .int) else (if y < 229 then (some .int) else (some .int))))) else (if y < 234 then (if y < 232 then (if y < 231 then (some .int) else (some .boolean)) else (if y < 233 then (some .int) else (some .int))) else (if y < 236 then (if y < 235 then (some .boolean) else (some .int)) else (if y < 237 then (some .int) else (if y < 238 then none else none))))) else (if y < 248 then (if y < 243 then (if y < 241 then (if y < 240 then (some .int) else (some .boolean)) else (if y < 242 then none else none)) else (if y < 245 then (if y < 244 then (some .int) else (some .int)) else (if y < 246 then none else (if y < 247 then (some .int) else (some .boolean))))) else (if y < 253 then (if y < 250 then (if y < 249 then none else (some .boolean)) else (if y < 251 then (some .int) else (if y < 252 then (some .int) else (some .int)))) else (if y < 255 then (if y < 254 then (some .int) else (some .boolean)) else (if y < 256 then none else (if y < 257 then (some .int) else (some .int))))))) else (if y < 276 then (if y < 267 then (if y < 262 then (if y < 260 then (if y < 259 then (some .int) else (some .int)) else (if y < 261 then (some .int) else (some .int))) else (if y < 264 then (if y < 263 then (some .int) else (some .int)) else (if y < 265 then (some .int) else (if y < 266 then (some .int) else (some .int))))) else (if y < 271 then (if y < 269 then (if y < 268 then (some .int) else (some .int)) else (if y < 270 then (some .long) else (some .long))) else (if y < 273 then (if y < 272 then (some .int) else none) else (if y < 274 then (some .int) else (if y < 275 then none else (some .boolean)))))) else (if y < 285 then (if y < 280 then (if y < 278 then (if y < 277 then (some .int) else (some .int)) else (if y < 279 then (some .int) else (some .int))) else (if y < 282 then (if y < 281 then (some .int) else (some .int)) else (if y < 283 then (some .int) else (if y < 284 then (some .int) else (some .int))))) else (if y < 290 then (if y < 287 then (if y < 286 then (some .int) else (some .int)) else (if y < 288 then (some .int) else (if y < 289 then (some .int) else (some .int)))) else (if y < 292 then (if y < 291 then (some .int) else (some .int)) else (if y < 293 then (some .int) else (if y < 294 then (some .boolean) else none)))))))))
def cm_ow (y : Nat) : Nat := (if y < 147 then (if y < 73 then (if y < 36 then (if y < 18 then (if y < 9 then (if y < 4 then (if y < 2 then (if y < 1 then 0 else 0) else (if y < 3 then 0 else 0)) else (if y < 6 then (if y < 5 then 0 else 1) else (if y < 7 then 1 else (if y < 8 then 1 else 1)))) else (if y < 13 then (if y < 11 then (if y < 10 then 1 else 1) else (if y < 12 then 1 else 1)) else (if y < 15 then (if y < 14 then 1 else 1) else (if y < 16 then 2 else (if y < 17 then 2 else 2))))) else (if y < 27 then (if y < 22 then (if y < 20 then (if y < 19 then 2 else 2) else (if y < 21 then 2 else 2)) else (if y < 24 then (if y < 23 then 2 else 2) else (if y < 25 then 2 else (if y < 26 then 2 else 2)))) else (if y < 31 then (if y < 29 then (if y < 28 then 2 else 2) else (if y < 30 then 2 else 2)) else (if y < 33 then (if y < 32 then 2 else 2) else (if y < 34 then 2 else (if y < 35 then 2 else 2)))))) else (if y < 54 then (if y < 45 then (if y < 40 then (if y < 38 then (if y < 37 then 2 else 2) else (if y < 39 then 2 else 2)) else (if y < 42 then (if y < 41 then 2 else 2) else (if y < 43 then 2 else (if y < 44 then 2 else 3)))) else (if y < 49 then (if y < 47 then (if y < 46 then 3 else 4) else (if y < 48 then 5 else 5)) else (if y < 51 then (if y < 50 then 5 else 5) else (if y < 52 then 5 else (if y < 53 then 5 else 5))))) else (if y < 63 then (if y < 58 then (if y < 56 then (if y < 55 then 5 else 5) else (if y < 57 then 5 else 5)) else (if y < 60 then (if y < 59 then 5 else 5) else (if y < 61 then 5 else (if y < 62 then 6 else 6)))) else (if y < 68 then (if y < 65 then (if y < 64 then 6 else 6) else (if y < 66 then 6 else (if y < 67 then 6 else 6))) else (if y < 70 then (if y < 69 then 6 else 6) else (if y < 71 then 6 else (if y < 72 then 6 else 6))))))) else (if y < 110 then (if y < 91 then (if y < 82 then (if y < 77 then (if y < 75 then (if y < 74 then 6 else 6) else (if y < 76 then 6 else 6)) else (if y < 79 then (if y < 78 then 6 else 6) else (if y < 80 then 6 else (if y < 81 then 6 else 6)))) else (if y < 86 then (if y < 84 then (if y < 83 then 6 else 6) else (if y < 85 then 6 else 6)) else (if y < 88 then (if y < 87 then 6 else 6) else (if y < 89 then 6 else (if y < 90 then 6 else 6))))) else (if y < 100 then (if y < 95 then (if y < 93 then (if y < 92 then 6 else 6) else (if y < 94 then 6 else 7)) else (if y < 97 then (if y < 96 then 7 else 7) else (if y < 98 then 7 else (if y < 99 then 7 else 7)))) else (if y < 105 then (if y < 102 then (if y < 101 then 8 else 8) else (if y < 103 then 8 else (if y < 104 then 8 else 8))) else (if y < 107 then (if y < 106 then 8 else 8) else (if y < 108 then 8 else (if y < 109 then 8 else 8)))))) else (if y < 128 then (if y < 119 then (if y < 114 then (if y < 112 then (if y < 111 then 8 else 8) else (if y < 113 then 8 else 8)) else (if y < 116 then (if y < 115 then 8 else 8) else (if y < 117 then 8 else (if y < 118 then 8 else 8)))) else (if y < 123 then (if y < 121 then (if y < 120 then 8 else 8) else (if y < 122 then 8 else 8)) else (if y < 125 then (if y < 124 then 8 else 8) else (if y < 126 then 8 else (if y < 127 then 8 else 8))))) else (if y < 137 then (if y < 132 then (if y < 130 then (if y < 129 then 8 else 8) else (if y < 131 then 8 else 8)) else (if y < 134 then (if y < 133 then 8 else 8) else (if y < 135 then 8 else (if y < 136 then 8 else 8)))) else (if y < 142 then (if y < 139 then (if y < 138 then 8 else 8) else (if y < 140 then 8 else (if y < 141 then 8 else 8))) else (if y < 144 then (if y < 143 then 8 else 8) else (if y < 145 then 8 else (if y < 146 then 8 else 8)))))))) else (if y < 221 then (if y < 184 then (if y < 165 then (if y < 156 then (if y < 151 then (if y < 149 then (if y < 148 then 8 else 8) else (if y < 150 then 8 else 8)) else (if y < 153 then (if y < 152 then 8 else 8) else (if y < 154 then 8 else (if y < 155 then 8 else 8)))) else (if y < 160 then (if y < 158 then (if y < 157 then 8 else 8) else (if y < 159 then 8 else 8)) else (if y < 162 then (if y < 161 then 8 else 9) else (if y < 163 then 9 else (if y < 164 then 9 else 9))))) else (if y < 174 then (if y < 169 then (if y < 167 then (if y < 166 then 9 else 9) else (if y < 168 then 9 else 9)) else (if y < 171 then (if y < 170 then 9 else 9) else (if y < 172 then 9 else (if y < 173 then 9 else 9)))) else (if y < 179 then (if y < 176 then (if y < 175 then 9 else 9) else (if y < 177 then 9 else (if y < 178 then 9 else 9))) else (if y < 181 then (if y < 180 then 9 else 9) else (if y < 182 then 9 else (if y < 183 then 9 else 9)))))) else (if y < 202 then (if y < 193 then (if y < 188 then (if y < 186 then (if y < 185 then 9 else 9) else (if y < 187 then 9 else 9)) else (if y < 190 then (if y < 189 then 9 else 9) else (if y < 191 then 9 else (if y < 192 then 9 else 9)))) else (if y < 197 then (if y < 195 then (if y < 194 then 9 else 9) else (if y < 196 then 9 else 9)) else (if y < 199 then (if y < 198 then 9 else 9) else (if y < 200 then 9 else (if y < 201 then 9 else 9))))) else (if y < 211 then (if y < 206 then (if y < 204 then (if y < 203 then 9 else 9) else (if y < 205 then 9 else 9)) else (if y < 208 then (if y < 207 then 9 else 9) else (if y < 209 then 9 else (if y < 210 then 9 else 9)))) else (if y < 216 then (if y < 213 then (if y < 212 then 9 else 9) else (if y < 214 then 9 else (if y < 215 then 9 else 9))) else (if y < 218 then (if y < 217 then 9 else 9) else (if y < 219 then 9 else (if y < 220 then 9 else 9))))))) else (if y < 258 then (if y < 239 then (if y < 230 then (if y < 225 then (if y < 223 then (if y < 222 then 9 else 9) else (if y < 224 then 9 else 9)) else (if y < 227 then (if y < 226 then 9 else 9) else (if y < 228 then 9 else (if y < 229 then 9 else 9)))) else (if y < 234 then (if y < 232 then (if y < 231 then 9 else 9) else (if y < 233 then 9 else 9)) else (if y < 236 then (if y < 235 then 9 else 9) else (if y < 237 then 9 else (if y < 238 then 9 else 9))))) else (if y < 248 then (if y < 243 then (if y < 241 then (if y < 240 then 9 else 9) else (if y < 242 then 9 else 9)) else (if y < 245 then (if y < 244 then 9 else 9) else (if y < 246 then 9 else (if y < 247 then 9 else 9)))) else (if y < 253 then (if y < 250 then (if y < 249 then 9 else 9) else (if y < 251 then 9 else (if y < 252 then 9 else 9))) else (if y < 255 then (if y < 254 then 9 else 9) else (if y < 256 then 9 else (if y < 257 then 9 else 9)))))) else (if y < 276 then (if y < 267 then (if y < 262 then (if y < 260 then (if y < 259 then 9 else 9) else (if y < 261 then 9 else 9)) else (if y < 264 then (if y < 263 then 9 else 9) else (if y < 265 then 9 else (if y < 266 then 9 else 9)))) else (if y < 271 then (if y < 269 then (if y < 268 then 9 else 9) else (if y < 270 then 9 else 9)) else (if y < 273 then (if y < 272 then 9 else 9) else (if y < 274 then 9 else (if y < 275 then 9 else 9))))) else (if y < 285 then (if y < 280 then (if y < 278 then (if y < 277 then 10 else 10) else (if y < 279 then 10 else 10)) else (if y < 282 then (if y < 281 then 10 else 10) else (if y < 283 then 10 else (if y < 284 then 10 else 10)))) else (if y < 290 then (if y < 287 then (if y < 286 then 10 else 10) else (if y < 288 then 10 else (if y < 289 then 10 else 10))) else (if y < 292 then (if y < 291 then 10 else 10) else (if y < 293 then 10 else (if y < 294 then 10 else 11)))))))))
def cm_fm (y : Nat) : Nat := (if y < 147 then (if y < 73 then (if y < 36 then (if y < 18 then (if y < 9 then (if y < 4 then (if y < 2 then (if y < 1 then 2 else 1) else (if y < 3 then 2 else 2)) else (if y < 6 then (if y < 5 then 2 else 1) else (if y < 7 then 3 else (if y < 8 then 2 else 1)))) else (if y < 13 then (if y < 11 then (if y < 10 then 4 else 1) else (if y < 12 then 3 else 2)) else (if y < 15 then (if y < 14 then 2 else 2) else (if y < 16 then 1 else (if y < 17 then 1 else 1))))) else (if y < 27 then (if y < 22 then (if y < 20 then (if y < 19 then 1 else 2) else (if y < 21 then 1 else 2)) else (if y < 24 then (if y < 23 then 1 else 1) else (if y < 25 then 1 else (if y < 26 then 1 else 2)))) else (if y < 31 then (if y < 29 then (if y < 28 then 3 else 1) else (if y < 30 then 2 else 3)) else (if y < 33 then (if y < 32 then 1 else 2) else (if y < 34 then 2 else (if y < 35 then 2 else 2)))))) else (if y < 54 then (if y < 45 then (if y < 40 then (if y < 38 then (if y < 37 then 2 else 2) else (if y < 39 then 3 else 3)) else (if y < 42 then (if y < 41 then 2 else 4) else (if y < 43 then 4 else (if y < 44 then 1 else 1)))) else (if y < 49 then (if y < 47 then (if y < 46 then 1 else 3) else (if y < 48 then 2 else 8)) else (if y < 51 then (if y < 50 then 1 else 7) else (if y < 52 then 1 else (if y < 53 then 3 else 4))))) else (if y < 63 then (if y < 58 then (if y < 56 then (if y < 55 then 3 else 2) else (if y < 57 then 4 else 3)) else (if y < 60 then (if y < 59 then 4 else 1) else (if y < 61 then 3 else (if y < 62 then 1 else 1)))) else (if y < 68 then (if y < 65 then (if y < 64 then 3 else 2) else (if y < 66 then 1 else (if y < 67 then 2 else 3))) else (if y < 70 then (if y < 69 then 2 else 1) else (if y < 71 then 2 else (if y < 72 then 1 else 1))))))) else (if y < 110 then (if y < 91 then (if y < 82 then (if y < 77 then (if y < 75 then (if y < 74 then 1 else 1) else (if y < 76 then 2 else 3)) else (if y < 79 then (if y < 78 then 1 else 2) else (if y < 80 then 1 else (if y < 81 then 2 else 2)))) else (if y < 86 then (if y < 84 then (if y < 83 then 2 else 4) else (if y < 85 then 3 else 2)) else (if y < 88 then (if y < 87 then 1 else 3) else (if y < 89 then 3 else (if y < 90 then 4 else 2))))) else (if y < 100 then (if y < 95 then (if y < 93 then (if y < 92 then 3 else 2) else (if y < 94 then 2 else 1)) else (if y < 97 then (if y < 96 then 3 else 2) else (if y < 98 then 1 else (if y < 99 then 1 else 6)))) else (if y < 105 then (if y < 102 then (if y < 101 then 9 else 2) else (if y < 103 then 1 else (if y < 104 then 9 else 4))) else (if y < 107 then (if y < 106 then 1 else 6) else (if y < 108 then 7 else (if y < 109 then 7 else 6)))))) else (if y < 128 then (if y < 119 then (if y < 114 then (if y < 112 then (if y < 111 then 6 else 7) else (if y < 113 then 7 else 7)) else (if y < 116 then (if y < 115 then 6 else 7) else (if y < 117 then 6 else (if y < 118 then 6 else 6)))) else (if y < 123 then (if y < 121 then (if y < 120 then 7 else 4) else (if y < 122 then 7 else 7)) else (if y < 125 then (if y < 124 then 5 else 1) else (if y < 126 then 3 else (if y < 127 then 3 else 4))))) else (if y < 137 then (if y < 132 then (if y < 130 then (if y < 129 then 5 else 3) else (if y < 131 then 6 else 3)) else (if y < 134 then (if y < 133 then 4 else 5) else (if y < 135 then 4 else (if y < 136 then 6 else 5)))) else (if y < 142 then (if y < 139 then (if y < 138 then 5 else 4) else (if y < 140 then 3 else (if y < 141 then 3 else 4))) else (if y < 144 then (if y < 143 then 3 else 7) else (if y < 145 then 4 else (if y < 146 then 6 else 4)))))))) else (if y < 221 then (if y < 184 then (if y < 165 then (if y < 156 then (if y < 151 then (if y < 149 then (if y < 148 then 5 else 4) else (if y < 150 then 7 else 2)) else (if y < 153 then (if y < 152 then 1 else 7) else (if y < 154 then 6 else (if y < 155 then 1 else 7)))) else (if y < 160 then (if y < 158 then (if y < 157 then 6 else 5) else (if y < 159 then 3 else 3)) else (if y < 162 then (if y < 161 then 1 else 3) else (if y < 163 then 1 else (if y < 164 then 1 else 1))))) else (if y < 174 then (if y < 169 then (if y < 167 then (if y < 166 then 1 else 2) else (if y < 168 then 1 else 1)) else (if y < 171 then (if y < 170 then 1 else 1) else (if y < 172 then 2 else (if y < 173 then 1 else 6)))) else (if y < 179 then (if y < 176 then (if y < 175 then 2 else 3) else (if y < 177 then 1 else (if y < 178 then 4 else 3))) else (if y < 181 then (if y < 180 then 4 else 7) else (if y < 182 then 8 else (if y < 183 then 1 else 1)))))) else (if y < 202 then (if y < 193 then (if y < 188 then (if y < 186 then (if y < 185 then 1 else 1) else (if y < 187 then 2 else 3)) else (if y < 190 then (if y < 189 then 2 else 2) else (if y < 191 then 2 else (if y < 192 then 2 else 3)))) else (if y < 197 then (if y < 195 then (if y < 194 then 4 else 1) else (if y < 196 then 1 else 2)) else (if y < 199 then (if y < 198 then 1 else 2) else (if y < 200 then 1 else (if y < 201 then 1 else 1))))) else (if y < 211 then (if y < 206 then (if y < 204 then (if y < 203 then 2 else 1) else (if y < 205 then 2 else 3)) else (if y < 208 then (if y < 207 then 1 else 1) else (if y < 209 then 3 else (if y < 210 then 4 else 1)))) else (if y < 216 then (if y < 213 then (if y < 212 then 5 else 5) else (if y < 214 then 5 else (if y < 215 then 3 else 3))) else (if y < 218 then (if y < 217 then 2 else 4) else (if y < 219 then 1 else (if y < 220 then 5 else 2))))))) else (if y < 258 then (if y < 239 then (if y < 230 then (if y < 225 then (if y < 223 then (if y < 222 then 4 else 3) else (if y < 224 then 2 else 3)) else (if y < 227 then (if y < 226 then 4 else 4) else (if y < 228 then 1 else (if y < 229 then 4 else 3)))) else (if y < 234 then (if y < 232 then (if y < 231 then 4 else 3) else (if y < 233 then 4 else 3)) else (if y < 236 then (if y < 235 then 3 else 4) else (if y < 237 then 1 else (if y < 238 then 1 else 1))))) else (if y < 248 then (if y < 243 then (if y < 241 then (if y < 240 then 2 else 3) else (if y < 242 then 3 else 4)) else (if y < 245 then (if y < 244 then 5 else 4) else (if y < 246 then 1 else (if y < 247 then 4 else 4)))) else (if y < 253 then (if y < 250 then (if y < 249 then 1 else 5) else (if y < 251 then 5 else (if y < 252 then 4 else 6))) else (if y < 255 then (if y < 254 then 6 else 3) else (if y < 256 then 2 else (if y < 257 then 4 else 5)))))) else (if y < 276 then (if y < 267 then (if y < 262 then (if y < 260 then (if y < 259 then 1 else 2) else (if y < 261 then 2 else 3)) else (if y < 264 then (if y < 263 then 3 else 4) else (if y < 265 then 3 else (if y < 266 then 5 else 6)))) else (if y < 271 then (if y < 269 then (if y < 268 then 3 else 6) else (if y < 270 then 1 else 3)) else (if y < 273 then (if y < 272 then 1 else 6) else (if y < 274 then 7 else (if y < 275 then 2 else 2))))) else (if y < 285 then (if y < 280 then (if y < 278 then (if y < 277 then 10 else 7) else (if y < 279 then 8 else 8)) else (if y < 282 then (if y < 281 then 8 else 8) else (if y < 283 then 8 else (if y < 284 then 8 else 8)))) else (if y < 290 then (if y < 287 then (if y < 286 then 8 else 8) else (if y < 288 then 8 else (if y < 289 then 7 else 8))) else (if y < 292 then (if y < 291 then 8 else 7) else (if y < 293 then 8 else (if y < 294 then 11 else 1)))))))))
def cm_lo (y : Nat) : Nat := (if y < 147 then (if y < 73 then (if y < 36 then (if y < 18 then (if y < 9 then (if y < 4 then (if y < 2 then (if y < 1 then 120 else 100) else (if y < 3 then 122 else 122)) else (if y < 6 then (if y < 5 then 122 else 100) else (if y < 7 then 146 else (if y < 8 then 123 else 100)))) else (if y < 13 then (if y < 11 then (if y < 10 then 172 else 100) else (if y < 12 then 148 else 125)) else (if y < 15 then (if y < 14 then 125 else 125) else (if y < 16 then 100 else (if y < 17 then 100 else 100))))) else (if y < 27 then (if y < 22 then (if y < 20 then (if y < 19 then 100 else 121) else (if y < 21 then 100 else 121)) else (if y < 24 then (if y < 23 then 100 else 100) else (if y < 25 then 100 else (if y < 26 then 100 else 121)))) else (if y < 31 then (if y < 29 then (if y < 28 then 142 else 100) else (if y < 30 then 122 else 143)) else (if y < 33 then (if y < 32 then 100 else 122) else (if y < 34 then 122 else (if y < 35 then 122 else 122)))))) else (if y < 54 then (if y < 45 then (if y < 40 then (if y < 38 then (if y < 37 then 122 else 122) else (if y < 39 then 144 else 145)) else (if y < 42 then (if y < 41 then 121 else 169) else (if y < 43 then 169 else (if y < 44 then 100 else 100)))) else (if y < 49 then (if y < 47 then (if y < 46 then 100 else 141) else (if y < 48 then 120 else 206)) else (if y < 51 then (if y < 50 then 100 else 186) else (if y < 52 then 100 else (if y < 53 then 143 else 166))))) else (if y < 63 then (if y < 58 then (if y < 56 then (if y < 55 then 143 else 121) else (if y < 57 then 163 else 143)) else (if y < 60 then (if y < 59 then 163 else 100) else (if y < 61 then 143 else (if y < 62 then 100 else 100)))) else (if y < 68 then (if y < 65 then (if y < 64 then 143 else 123) else (if y < 66 then 100 else (if y < 67 then 121 else 149))) else (if y < 70 then (if y < 69 then 124 else 100) else (if y < 71 then 120 else (if y < 72 then 100 else 100))))))) else (if y < 110 then (if y < 91 then (if y < 82 then (if y < 77 then (if y < 75 then (if y < 74 then 100 else 100) else (if y < 76 then 122 else 141)) else (if y < 79 then (if y < 78 then 100 else 122) else (if y < 80 then 100 else (if y < 81 then 123 else 123)))) else (if y < 86 then (if y < 84 then (if y < 83 then 120 else 164) else (if y < 85 then 143 else 121)) else (if y < 88 then (if y < 87 then 100 else 141) else (if y < 89 then 147 else (if y < 90 then 164 else 124))))) else (if y < 100 then (if y < 95 then (if y < 93 then (if y < 92 then 144 else 122) else (if y < 94 then 122 else 100)) else (if y < 97 then (if y < 96 then 143 else 123) else (if y < 98 then 100 else (if y < 99 then 100 else 100)))) else (if y < 105 then (if y < 102 then (if y < 101 then 229 else 122) else (if y < 103 then 100 else (if y < 104 then 229 else 167))) else (if y < 107 then (if y < 106 then 100 else 193) else (if y < 108 then 193 else (if y < 109 then 122 else 100)))))) else (if y < 128 then (if y < 119 then (if y < 114 then (if y < 112 then (if y < 111 then 100 else 162) else (if y < 113 then 162 else 162)) else (if y < 116 then (if y < 115 then 141 else 168) else (if y < 117 then 146 else (if y < 118 then 120 else 100)))) else (if y < 123 then (if y < 121 then (if y < 120 then 190 else 167) else (if y < 122 then 145 else 168)) else (if y < 125 then (if y < 124 then 187 else 100) else (if y < 126 then 143 else (if y < 127 then 143 else 169))))) else (if y < 137 then (if y < 132 then (if y < 130 then (if y < 129 then 186 else 149) else (if y < 131 then 223 else 145)) else (if y < 134 then (if y < 133 then 165 else 202) else (if y < 135 then 173 else (if y < 136 then 223 else 186)))) else (if y < 142 then (if y < 139 then (if y < 138 then 202 else 165) else (if y < 140 then 142 else (if y < 141 then 143 else 173))) else (if y < 144 then (if y < 143 then 143 else 165) else (if y < 145 then 163 else (if y < 146 then 144 else 163)))))))) else (if y < 221 then (if y < 184 then (if y < 165 then (if y < 156 then (if y < 151 then (if y < 149 then (if y < 148 then 194 else 171) else (if y < 150 then 145 else 121)) else (if y < 153 then (if y < 152 then 100 else 194) else (if y < 154 then 165 else (if y < 155 then 100 else 245)))) else (if y < 160 then (if y < 158 then (if y < 157 then 223 else 187) else (if y < 159 then 144 else 144)) else (if y < 162 then (if y < 161 then 100 else 141) else (if y < 163 then 100 else (if y < 164 then 100 else 100))))) else (if y < 174 then (if y < 169 then (if y < 167 then (if y < 166 then 100 else 121) else (if y < 168 then 100 else 100)) else (if y < 171 then (if y < 170 then 100 else 100) else (if y < 172 then 121 else (if y < 173 then 100 else 100)))) else (if y < 179 then (if y < 176 then (if y < 175 then 121 else 143) else (if y < 177 then 100 else (if y < 178 then 166 else 143))) else (if y < 181 then (if y < 180 then 166 else 188) else (if y < 182 then 208 else (if y < 183 then 100 else 100)))))) else (if y < 202 then (if y < 193 then (if y < 188 then (if y < 186 then (if y < 185 then 100 else 100) else (if y < 187 then 121 else 143)) else (if y < 190 then (if y < 189 then 122 else 122) else (if y < 191 then 122 else (if y < 192 then 122 else 144)))) else (if y < 197 then (if y < 195 then (if y < 194 then 168 else 100) else (if y < 196 then 100 else 122)) else (if y < 199 then (if y < 198 then 100 else 123) else (if y < 200 then 100 else (if y < 201 then 100 else 100))))) else (if y < 211 then (if y < 206 then (if y < 204 then (if y < 203 then 122 else 100) else (if y < 205 then 124 else 145)) else (if y < 208 then (if y < 207 then 100 else 100) else (if y < 209 then 149 else (if y < 210 then 176 else 100)))) else (if y < 216 then (if y < 213 then (if y < 212 then 201 else 201) else (if y < 214 then 201 else (if y < 215 then 146 else 143))) else (if y < 218 then (if y < 217 then 122 else 170) else (if y < 219 then 100 else (if y < 220 then 192 else 122))))))) else (if y < 258 then (if y < 239 then (if y < 230 then (if y < 225 then (if y < 223 then (if y < 222 then 170 else 143) else (if y < 224 then 122 else 143)) else (if y < 227 then (if y < 226 then 164 else 164) else (if y < 228 then 100 else (if y < 229 then 164 else 146)))) else (if y < 234 then (if y < 232 then (if y < 231 then 167 else 144) else (if y < 233 then 167 else 146)) else (if y < 236 then (if y < 235 then 144 else 168) else (if y < 237 then 100 else (if y < 238 then 100 else 100))))) else (if y < 248 then (if y < 243 then (if y < 241 then (if y < 240 then 122 else 143) else (if y < 242 then 143 else 165)) else (if y < 245 then (if y < 244 then 188 else 164) else (if y < 246 then 100 else (if y < 247 then 164 else 164)))) else (if y < 253 then (if y < 250 then (if y < 249 then 100 else 186) else (if y < 251 then 186 else (if y < 252 then 168 else 222))) else (if y < 255 then (if y < 254 then 223 else 142) else (if y < 256 then 121 else (if y < 257 then 162 else 191)))))) else (if y < 276 then (if y < 267 then (if y < 262 then (if y < 260 then (if y < 259 then 100 else 121) else (if y < 261 then 123 else 145)) else (if y < 264 then (if y < 263 then 143 else 165) else (if y < 265 then 143 else (if y < 266 then 201 else 225)))) else (if y < 271 then (if y < 269 then (if y < 268 then 145 else 225) else (if y < 270 then 100 else 145)) else (if y < 273 then (if y < 272 then 100 else 223) else (if y < 274 then 247 else (if y < 275 then 122 else 122))))) else (if y < 285 then (if y < 280 then (if y < 278 then (if y < 277 then 250 else 214) else (if y < 279 then 215 else 144)) else (if y < 282 then (if y < 281 then 184 else 184) else (if y < 283 then 184 else (if y < 284 then 193 else 215)))) else (if y < 290 then (if y < 287 then (if y < 286 then 171 else 194) else (if y < 288 then 187 else (if y < 289 then 165 else 171))) else (if y < 292 then (if y < 291 then 221 else 193) else (if y < 293 then 271 else (if y < 294 then 296 else 100)))))))))
def cm_na_ (y : Nat) : Nat := (if y < 147 then (if y < 73 then (if y < 36 then (if y < 18 then (if y < 9 then (if y < 4 then (if y < 2 then (if y < 1 then 1 else 1) else (if y < 3 then 2 else 2)) else (if y < 6 then (if y < 5 then 2 else 1) else (if y < 7 then 3 else (if y < 8 then 3 else 4)))) else (if y < 13 then (if y < 11 then (if y < 10 then 4 else 5) else (if y < 12 then 4 else 3)) else (if y < 15 then (if y < 14 then 2 else 2) else (if y < 16 then 1 else (if y < 17 then 2 else 3))))) else (if y < 27 then (if y < 22 then (if y < 20 then (if y < 19 then 2 else 2) else (if y < 21 then 3 else 3)) else (if y < 24 then (if y < 23 then 2 else 3) else (if y < 25 then 4 else (if y < 26 then 4 else 2)))) else (if y < 31 then (if y < 29 then (if y < 28 then 2 else 2) else (if y < 30 then 2 else 4)) else (if y < 33 then (if y < 32 then 2 else 2) else (if y < 34 then 2 else (if y < 35 then 3 else 2)))))) else (if y < 54 then (if y < 45 then (if y < 40 then (if y < 38 then (if y < 37 then 3 else 3) else (if y < 39 then 3 else 2)) else (if y < 42 then (if y < 41 then 2 else 3) else (if y < 43 then 3 else (if y < 44 then 2 else 1)))) else (if y < 49 then (if y < 47 then (if y < 46 then 2 else 1) else (if y < 48 then 1 else 3)) else (if y < 51 then (if y < 50 then 1 else 1) else (if y < 52 then 2 else (if y < 53 then 1 else 1))))) else (if y < 63 then (if y < 58 then (if y < 56 then (if y < 55 then 3 else 3) else (if y < 57 then 1 else 1)) else (if y < 60 then (if y < 59 then 1 else 2) else (if y < 61 then 1 else (if y < 62 then 1 else 2)))) else (if y < 68 then (if y < 65 then (if y < 64 then 2 else 1) else (if y < 66 then 1 else (if y < 67 then 2 else 3))) else (if y < 70 then (if y < 69 then 4 else 5) else (if y < 71 then 2 else (if y < 72 then 3 else 3))))))) else (if y < 110 then (if y < 91 then (if y < 82 then (if y < 77 then (if y < 75 then (if y < 74 then 2 else 2) else (if y < 76 then 1 else 1)) else (if y < 79 then (if y < 78 then 1 else 1) else (if y < 80 then 2 else (if y < 81 then 1 else 1)))) else (if y < 86 then (if y < 84 then (if y < 83 then 3 else 4) else (if y < 85 then 2 else 2)) else (if y < 88 then (if y < 87 then 2 else 3) else (if y < 89 then 3 else (if y < 90 then 3 else 3))))) else (if y < 100 then (if y < 95 then (if y < 93 then (if y < 92 then 4 else 2) else (if y < 94 then 2 else 1)) else (if y < 97 then (if y < 96 then 3 else 1) else (if y < 98 then 3 else (if y < 99 then 1 else 2)))) else (if y < 105 then (if y < 102 then (if y < 101 then 1 else 6) else (if y < 103 then 2 else (if y < 104 then 2 else 1))) else (if y < 107 then (if y < 106 then 1 else 2) else (if y < 108 then 3 else (if y < 109 then 3 else 2)))))) else (if y < 128 then (if y < 119 then (if y < 114 then (if y < 112 then (if y < 111 then 2 else 3) else (if y < 113 then 3 else 3)) else (if y < 116 then (if y < 115 then 2 else 4) else (if y < 117 then 2 else (if y < 118 then 1 else 1)))) else (if y < 123 then (if y < 121 then (if y < 120 then 2 else 3) else (if y < 122 then 4 else 2)) else (if y < 125 then (if y < 124 then 4 else 1) else (if y < 126 then 3 else (if y < 127 then 2 else 3))))) else (if y < 137 then (if y < 132 then (if y < 130 then (if y < 129 then 3 else 3) else (if y < 131 then 1 else 1)) else (if y < 134 then (if y < 133 then 1 else 1) else (if y < 135 then 1 else (if y < 136 then 2 else 2)))) else (if y < 142 then (if y < 139 then (if y < 138 then 2 else 2) else (if y < 140 then 1 else (if y < 141 then 2 else 2))) else (if y < 144 then (if y < 143 then 1 else 2) else (if y < 145 then 1 else (if y < 146 then 2 else 1)))))))) else (if y < 221 then (if y < 184 then (if y < 165 then (if y < 156 then (if y < 151 then (if y < 149 then (if y < 148 then 1 else 3) else (if y < 150 then 2 else 3)) else (if y < 153 then (if y < 152 then 2 else 3) else (if y < 154 then 3 else (if y < 155 then 2 else 4)))) else (if y < 160 then (if y < 158 then (if y < 157 then 1 else 1) else (if y < 159 then 1 else 1)) else (if y < 162 then (if y < 161 then 1 else 1) else (if y < 163 then 1 else (if y < 164 then 2 else 3))))) else (if y < 174 then (if y < 169 then (if y < 167 then (if y < 166 then 1 else 1) else (if y < 168 then 6 else 2)) else (if y < 171 then (if y < 170 then 1 else 1) else (if y < 172 then 1 else (if y < 173 then 2 else 2)))) else (if y < 179 then (if y < 176 then (if y < 175 then 3 else 3) else (if y < 177 then 1 else (if y < 178 then 1 else 1))) else (if y < 181 then (if y < 180 then 1 else 1) else (if y < 182 then 2 else (if y < 183 then 1 else 2)))))) else (if y < 202 then (if y < 193 then (if y < 188 then (if y < 186 then (if y < 185 then 2 else 3) else (if y < 187 then 2 else 2)) else (if y < 190 then (if y < 189 then 3 else 3) else (if y < 191 then 2 else (if y < 192 then 3 else 3)))) else (if y < 197 then (if y < 195 then (if y < 194 then 2 else 1) else (if y < 196 then 1 else 1)) else (if y < 199 then (if y < 198 then 2 else 1) else (if y < 200 then 3 else (if y < 201 then 2 else 2))))) else (if y < 211 then (if y < 206 then (if y < 204 then (if y < 203 then 1 else 4) else (if y < 205 then 3 else 1)) else (if y < 208 then (if y < 207 then 2 else 2) else (if y < 209 then 3 else (if y < 210 then 2 else 1)))) else (if y < 216 then (if y < 213 then (if y < 212 then 1 else 1) else (if y < 214 then 2 else (if y < 215 then 2 else 1))) else (if y < 218 then (if y < 217 then 1 else 1) else (if y < 219 then 1 else (if y < 220 then 2 else 2))))))) else (if y < 258 then (if y < 239 then (if y < 230 then (if y < 225 then (if y < 223 then (if y < 222 then 3 else 3) else (if y < 224 then 2 else 2)) else (if y < 227 then (if y < 226 then 3 else 3) else (if y < 228 then 3 else (if y < 229 then 3 else 2)))) else (if y < 234 then (if y < 232 then (if y < 231 then 4 else 3) else (if y < 233 then 2 else 4)) else (if y < 236 then (if y < 235 then 3 else 2) else (if y < 237 then 1 else (if y < 238 then 2 else 1))))) else (if y < 248 then (if y < 243 then (if y < 241 then (if y < 240 then 1 else 4) else (if y < 242 then 2 else 4)) else (if y < 245 then (if y < 244 then 4 else 3) else (if y < 246 then 2 else (if y < 247 then 2 else 3)))) else (if y < 253 then (if y < 250 then (if y < 249 then 3 else 3) else (if y < 251 then 3 else (if y < 252 then 3 else 1))) else (if y < 255 then (if y < 254 then 2 else 1) else (if y < 256 then 2 else (if y < 257 then 2 else 2)))))) else (if y < 276 then (if y < 267 then (if y < 262 then (if y < 260 then (if y < 259 then 1 else 3) else (if y < 261 then 1 else 2)) else (if y < 264 then (if y < 263 then 1 else 2) else (if y < 265 then 1 else (if y < 266 then 1 else 1)))) else (if y < 271 then (if y < 269 then (if y < 268 then 2 else 3) else (if y < 270 then 2 else 3)) else (if y < 273 then (if y < 272 then 2 else 1) else (if y < 274 then 4 else (if y < 275 then 1 else 1))))) else (if y < 285 then (if y < 280 then (if y < 278 then (if y < 277 then 3 else 3) else (if y < 279 then 4 else 4)) else (if y < 282 then (if y < 281 then 4 else 4) else (if y < 283 then 4 else (if y < 284 then 5 else 3)))) else (if y < 290 then (if y < 287 then (if y < 286 then 5 else 3) else (if y < 288 then 3 else (if y < 289 then 3 else 3))) else (if y < 292 then (if y < 291 then 4 else 4) else (if y < 293 then 5 else (if y < 294 then 1 else 2)))))))))
def cm_sc (y : Nat) : Bool := (if y < 147 then (if y < 73 then (if y < 36 then (if y < 18 then (if y < 9 then (if y < 4 then (if y < 2 then (if y < 1 then false else false) else (if y < 3 then false else false)) else (if y < 6 then (if y < 5 then false else false) else (if y < 7 then false else (if y < 8 then false else false)))) else (if y < 13 then (if y < 11 then (if y < 10 then false else false) else (if y < 12 then false else true)) else (if y < 15 then (if y < 14 then true else true) else (if y < 16 then false else (if y < 17 then false else false))))) else (if y < 27 then (if y < 22 then (if y < 20 then (if y < 19 then false else false) else (if y < 21 then false else false)) else (if y < 24 then (if y < 23 then false else false) else (if y < 25 then false else (if y < 26 then false else false)))) else (if y < 31 then (if y < 29 then (if y < 28 then false else false) else (if y < 30 then false else false)) else (if y < 33 then (if y < 32 then false else false) else (if y < 34 then false else (if y < 35 then false else false)))))) else (if y < 54 then (if y < 45 then (if y < 40 then (if y < 38 then (if y < 37 then false else false) else (if y < 39 then false else false)) else (if y < 42 then (if y < 41 then false else false) else (if y < 43 then false else (if y < 44 then false else false)))) else (if y < 49 then (if y < 47 then (if y < 46 then false else false) else (if y < 48 then false else false)) else (if y < 51 then (if y < 50 then false else false) else (if y < 52 then false else (if y < 53 then false else false))))) else (if y < 63 then (if y < 58 then (if y < 56 then (if y < 55 then false else false) else (if y < 57 then false else false)) else (if y < 60 then (if y < 59 then false else false) else (if y < 61 then false else (if y < 62 then false else false)))) else (if y < 68 then (if y < 65 then (if y < 64 then false else false) else (if y < 66 then false else (if y < 67 then false else false))) else (if y < 70 then (if y < 69 then false else false) else (if y < 71 then false else (if y < 72 then false else false))))))) else (if y < 110 then (if y < 91 then (if y < 82 then (if y < 77 then (if y < 75 then (if y < 74 then false else false) else (if y < 76 then false else false)) else (if y < 79 then (if y < 78 then false else false) else (if y < 80 then false else (if y < 81 then false else false)))) else (if y < 86 then (if y < 84 then (if y < 83 then false else false) else (if y < 85 then false else false)) else (if y < 88 then (if y < 87 then false else false) else (if y < 89 then false else (if y < 90 then false else false))))) else (if y < 100 then (if y < 95 then (if y < 93 then (if y < 92 then false else false) else (if y < 94 then false else false)) else (if y < 97 then (if y < 96 then false else false) else (if y < 98 then false else (if y < 99 then false else false)))) else (if y < 105 then (if y < 102 then (if y < 101 then false else false) else (if y < 103 then false else (if y < 104 then false else false))) else (if y < 107 then (if y < 106 then false else false) else (if y < 108 then false else (if y < 109 then false else false)))))) else (if y < 128 then (if y < 119 then (if y < 114 then (if y < 112 then (if y < 111 then true else false) else (if y < 113 then false else false)) else (if y < 116 then (if y < 115 then false else false) else (if y < 117 then false else (if y < 118 then true else true)))) else (if y < 123 then (if y < 121 then (if y < 120 then false else false) else (if y < 122 then false else false)) else (if y < 125 then (if y < 124 then false else false) else (if y < 126 then false else (if y < 127 then false else false))))) else (if y < 137 then (if y < 132 then (if y < 130 then (if y < 129 then false else false) else (if y < 131 then false else false)) else (if y < 134 then (if y < 133 then false else false) else (if y < 135 then false else (if y < 136 then false else false)))) else (if y < 142 then (if y < 139 then (if y < 138 then false else false) else (if y < 140 then false else (if y < 141 then false else false))) else (if y < 144 then (if y < 143 then false else false) else (if y < 145 then false else (if y < 146 then false else false)))))))) else (if y < 221 then (if y < 184 then (if y < 165 then (if y < 156 then (if y < 151 then (if y < 149 then (if y < 148 then false else false) else (if y < 150 then false else false)) else (if y < 153 then (if y < 152 then true else false) else (if y < 154 then false else (if y < 155 then true else false)))) else (if y < 160 then (if y < 158 then (if y < 157 then false else false) else (if y < 159 then false else false)) else (if y < 162 then (if y < 161 then true else false) else (if y < 163 then false else (if y < 164 then false else true))))) else (if y < 174 then (if y < 169 then (if y < 167 then (if y < 166 then true else true) else (if y < 168 then false else false)) else (if y < 171 then (if y < 170 then true else true) else (if y < 172 then false else (if y < 173 then false else false)))) else (if y < 179 then (if y < 176 then (if y < 175 then false else false) else (if y < 177 then false else (if y < 178 then false else false))) else (if y < 181 then (if y < 180 then false else false) else (if y < 182 then false else (if y < 183 then false else false)))))) else (if y < 202 then (if y < 193 then (if y < 188 then (if y < 186 then (if y < 185 then false else false) else (if y < 187 then false else false)) else (if y < 190 then (if y < 189 then false else false) else (if y < 191 then false else (if y < 192 then false else false)))) else (if y < 197 then (if y < 195 then (if y < 194 then false else false) else (if y < 196 then false else false)) else (if y < 199 then (if y < 198 then false else false) else (if y < 200 then false else (if y < 201 then false else true))))) else (if y < 211 then (if y < 206 then (if y < 204 then (if y < 203 then false else false) else (if y < 205 then false else false)) else (if y < 208 then (if y < 207 then false else false) else (if y < 209 then false else (if y < 210 then false else false)))) else (if y < 216 then (if y < 213 then (if y < 212 then false else false) else (if y < 214 then false else (if y < 215 then false else false))) else (if y < 218 then (if y < 217 then false else false) else (if y < 219 then false else (if y < 220 then false else false))))))) else (if y < 258 then (if y < 239 then (if y < 230 then (if y < 225 then (if y < 223 then (if y < 222 then false else false) else (if y < 224 then false else false)) else (if y < 227 then (if y < 226 then false else false) else (if y < 228 then false else (if y < 229 then false else false)))) else (if y < 234 then (if y < 232 then (if y < 231 then false else false) else (if y < 233 then false else false)) else (if y < 236 then (if y < 235 then false else false) else (if y < 237 then false else (if y < 238 then true else false))))) else (if y < 248 then (if y < 243 then (if y < 241 then (if y < 240 then false else false) else (if y < 242 then false else false)) else (if y < 245 then (if y < 244 then false else false) else (if y < 246 then false else (if y < 247 then false else false)))) else (if y < 253 then (if y < 250 then (if y < 249 then false else false) else (if y < 251 then false else (if y < 252 then false else false))) else (if y < 255 then (if y < 254 then false else false) else (if y < 256 then false else (if y < 257 then false else false)))))) else (if y < 276 then (if y < 267 then (if y < 262 then (if y < 260 then (if y < 259 then false else false) else (if y < 261 then false else false)) else (if y < 264 then (if y < 263 then false else false) else (if y < 265 then false else (if y < 266 then false else false)))) else (if y < 271 then (if y < 269 then (if y < 268 then false else false) else (if y < 270 then true else false)) else (if y < 273 then (if y < 272 then false else false) else (if y < 274 then false else (if y < 275 then false else false))))) else (if y < 285 then (if y < 280 then (if y < 278 then (if y < 277 then true else true) else (if y < 279 then true else true)) else (if y < 282 then (if y < 281 then true else true) else (if y < 283 then true else (if y < 284 then true else true)))) else (if y < 290 then (if y < 287 then (if y < 286 then true else true) else (if y < 288 then true else (if y < 289 then true else true))) else (if y < 292 then (if y < 291 then true else true) else (if y < 293 then true else (if y < 294 then true else true)))))))))
def cm_hh (y : Nat) : List (Nat × Nat × Nat × Nat) := if y = 292 then [(0, 12, 15, 18), (0, 12, 19, 13)] else if y = 291 then [(0, 9, 12, 13)] else if y = 290 then [(0, 10, 13, 18)] else if y = 289 then [(0, 9, 12, 18)] else if y = 288 then [(0, 9, 12, 13)] else if y = 287 then [(0, 9, 12, 18)] else if y = 286 then [(0, 9, 12, 18)] else if y = 285 then [(0, 12, 15, 18)] else if y = 284 then [(0, 9, 12, 18)] else if y = 283 then [(0, 12, 15, 18)] else if y = 282 then [(0, 10, 13, 18)] else if y = 281 then [(0, 10, 13, 18)] else if y = 280 then [(0, 10, 13, 18)] else if y = 279 then [(0, 10, 13, 18)] else if y = 278 then [(0, 10, 13, 18)] else if y = 277 then [(0, 9, 12, 18)] else if y = 276 then [(0, 9, 12, 13)] else []
def cm_cw (y : Nat) : Jvm.Cond := match cm_hh y with
  | [] => .code (cm_nm y) (cm_by y) (cm_mL y) (cm_rt y)
  | hs => .codeWith (cm_nm y) (cm_by y) (cm_mL y) (cm_rt y) hs
def cm_mts : List (Nat × Nat × Nat × Nat × Nat) := [(0, 371, 125, 370, 0), (1, 589, 125, 587, 588), (2, 664, 125, 662, 663), (3, 938, 125, 936, 937), (4, 975, 125, 973, 974), (5, 352, 124, 351, 0), (6, 805, 124, 803, 804), (7, 810, 124, 809, 26), (8, 815, 124, 814, 27), (9, 820, 124, 818, 819), (10, 837, 124, 836, 29), (11, 841, 124, 840, 30), (12, 853, 124, 852, 0), (13, 856, 124, 855, 0), (14, 859, 124, 858, 0), (15, 247, 122, 246, 0), (16, 566, 122, 564, 565), (17, 969, 122, 967, 968), (18, 1090, 122, 1088, 1089), (19, 1287, 122, 1285, 1286), (20, 832, 122, 831, 28), (21, 1132, 122, 1130, 1131), (22, 768, 122, 766, 767), (23, 756, 122, 754, 755), (24, 845, 122, 843, 844), (25, 850, 122, 848, 849), (26, 794, 122, 792, 793), (27, 948, 122, 946, 947), (28, 824, 122, 822, 823), (29, 828, 122, 826, 827), (30, 894, 122, 892, 893), (31, 876, 122, 875, 32), (32, 871, 122, 869, 870), (33, 1070, 122, 1068, 1069), (34, 752, 122, 750, 751), (35, 1074, 122, 1072, 1073), (36, 760, 122, 758, 759), (37, 1213, 122, 1211, 1212), (38, 1228, 122, 1226, 1227), (39, 1082, 122, 1081, 39), (40, 1086, 122, 1085, 40), (41, 1136, 122, 1134, 1135), (42, 1078, 122, 1076, 1077), (43, 1096, 122, 1094, 1095), (44, 425, 127, 424, 0), (45, 1315, 127, 1313, 1314), (46, 391, 126, 390, 0), (47, 153, 120, 152, 0), (48, 435, 120, 433, 434), (49, 439, 120, 438, 0), (50, 462, 120, 461, 3), (51, 523, 120, 522, 5), (52, 558, 120, 557, 13), (53, 519, 120, 518, 4), (54, 528, 120, 527, 6), (55, 532, 120, 531, 7), (56, 537, 120, 536, 8), (57, 541, 120, 540, 9), (58, 546, 120, 545, 10), (59, 550, 120, 549, 11), (60, 554, 120, 553, 12), (61, 294, 123, 293, 0), (62, 668, 123, 666, 667), (63, 570, 123, 568, 569), (64, 574, 123, 572, 573), (65, 581, 123, 580, 15), (66, 863, 123, 861, 862), (67, 881, 123, 879, 880), (68, 764, 123, 762, 763), (69, 585, 123, 584, 16), (70, 680, 123, 678, 679), (71, 732, 123, 730, 731), (72, 736, 123, 734, 735), (73, 1162, 123, 1160, 1161), (74, 692, 123, 690, 691), (75, 688, 123, 687, 20), (76, 930, 123, 928, 929), (77, 916, 123, 914, 915), (78, 912, 123, 910, 911), (79, 790, 123, 788, 789), (80, 1066, 123, 1064, 1065), (81, 786, 123, 784, 785), (82, 653, 123, 651, 652), (83, 676, 123, 674, 675), (84, 684, 123, 683, 19), (85, 708, 123, 706, 707), (86, 712, 123, 711, 21), (87, 720, 123, 718, 719), (88, 724, 123, 722, 723), (89, 744, 123, 742, 743), (90, 728, 123, 727, 22), (91, 1247, 123, 1245, 1246), (92, 1173, 123, 1171, 1172), (93, 1177, 123, 1175, 1176), (94, 159, 121, 158, 0), (95, 443, 121, 441, 442), (96, 450, 121, 448, 449), (97, 454, 121, 453, 1), (98, 458, 121, 457, 2), (99, 467, 121, 465, 466), (100, 145, 119, 144, 0), (101, 637, 119, 635, 636), (102, 641, 119, 640, 17), (103, 987, 119, 985, 986), (104, 562, 119, 561, 14), (105, 645, 119, 643, 644), (106, 1061, 119, 1059, 1060), (107, 1119, 119, 1117, 1118), (108, 1143, 119, 1141, 1142), (109, 1123, 119, 1122, 41), (110, 1127, 119, 1126, 0), (111, 1153, 119, 1151, 1152), (112, 1169, 119, 1167, 1168), (113, 1187, 119, 1185, 1186), (114, 1157, 119, 1156, 42), (115, 1196, 119, 1194, 1195), (116, 1200, 119, 1199, 43), (117, 1204, 119, 1203, 0), (118, 1209, 119, 1208, 0), (119, 1220, 119, 1218, 1219), (120, 1224, 119, 1223, 44), (121, 1236, 119, 1234, 1235), (122, 1243, 119, 1241, 1242), (123, 649, 119, 647, 648), (124, 660, 119, 659, 18), (125, 699, 119, 697, 698), (126, 704, 119, 702, 703), (127, 716, 119, 714, 715), (128, 740, 119, 738, 739), (129, 748, 119, 746, 747), (130, 774, 119, 772, 773), (131, 782, 119, 781, 24), (132, 778, 119, 777, 23), (133, 801, 119, 800, 25), (134, 867, 119, 866, 31), (135, 886, 119, 884, 885), (136, 890, 119, 889, 33), (137, 900, 119, 899, 34), (138, 904, 119, 902, 903), (139, 908, 119, 907, 35), (140, 920, 119, 919, 36), (141, 926, 119, 924, 925), (142, 934, 119, 932, 933), (143, 1255, 119, 1253, 1254), (144, 942, 119, 940, 941), (145, 1262, 119, 1260, 1261), (146, 953, 119, 951, 952), (147, 957, 119, 955, 956), (148, 961, 119, 960, 37), (149, 1271, 119, 1269, 1270), (150, 1275, 119, 1274, 45), (151, 797, 119, 796, 0), (152, 1283, 119, 1281, 1282), (153, 1294, 119, 1292, 1293), (154, 1299, 119, 1298, 0), (155, 1306, 119, 1304, 1305), (156, 1311, 119, 1310, 46), (157, 1320, 119, 1319, 47), (158, 965, 119, 963, 964), (159, 979, 119, 977, 978), (160, 656, 119, 655, 0), (161, 1325, 134, 1324, 0), (162, 1457, 134, 1455, 1456), (163, 1469, 134, 1468, 48), (164, 1592, 134, 1591, 0), (165, 1332, 134, 1331, 0), (166, 1329, 134, 1328, 0), (167, 1461, 134, 1459, 1460), (168, 1477, 134, 1476, 50), (169, 1480, 134, 1479, 0), (170, 1483, 134, 1482, 0), (171, 1473, 134, 1472, 49), (172, 1504, 134, 1503, 54), (173, 1494, 134, 1493, 52), (174, 1512, 134, 1511, 56), (175, 1508, 134, 1507, 55), (176, 1521, 134, 1520, 58), (177, 1500, 134, 1499, 53), (178, 1517, 134, 1516, 57), (179, 1526, 134, 1525, 59), (180, 1489, 134, 1488, 51), (181, 1465, 134, 1463, 1464), (182, 1533, 134, 1531, 1532), (183, 1786, 134, 1785, 103), (184, 1565, 134, 1564, 66), (185, 1573, 134, 1572, 68), (186, 1561, 134, 1560, 65), (187, 1802, 134, 1801, 107), (188, 1646, 134, 1645, 79), (189, 1585, 134, 1584, 71), (190, 1589, 134, 1588, 72), (191, 1650, 134, 1649, 80), (192, 1738, 134, 1737, 93), (193, 1806, 134, 1805, 108), (194, 1541, 134, 1540, 60), (195, 1545, 134, 1544, 61), (196, 1761, 134, 1760, 97), (197, 1553, 134, 1552, 63), (198, 1549, 134, 1548, 62), (199, 1754, 134, 1753, 96), (200, 1702, 134, 1701, 89), (201, 1757, 134, 1756, 0), (202, 1750, 134, 1749, 95), (203, 1794, 134, 1793, 105), (204, 1790, 134, 1789, 104), (205, 1746, 134, 1745, 94), (206, 1774, 134, 1773, 100), (207, 1782, 134, 1781, 102), (208, 1778, 134, 1777, 101), (209, 1770, 134, 1769, 99), (210, 1798, 134, 1797, 106), (211, 1765, 134, 1764, 98), (212, 1814, 134, 1813, 109), (213, 1818, 134, 1817, 110), (214, 1581, 134, 1580, 70), (215, 1557, 134, 1556, 64), (216, 1569, 134, 1568, 67), (217, 1577, 134, 1576, 69), (218, 1596, 134, 1595, 73), (219, 1537, 134, 1535, 1536), (220, 1604, 134, 1603, 74), (221, 1600, 134, 1598, 1599), (222, 1608, 134, 1606, 1607), (223, 1620, 134, 1619, 76), (224, 1616, 134, 1615, 75), (225, 1612, 134, 1610, 1611), (226, 1624, 134, 1622, 1623), (227, 1632, 134, 1631, 77), (228, 1628, 134, 1626, 1627), (229, 1642, 134, 1641, 78), (230, 1638, 134, 1636, 1637), (231, 1658, 134, 1657, 81), (232, 1654, 134, 1652, 1653), (233, 1662, 134, 1660, 1661), (234, 1670, 134, 1669, 82), (235, 1666, 134, 1664, 1665), (236, 1682, 134, 1681, 84), (237, 1529, 134, 1528, 0), (238, 1686, 134, 1685, 85), (239, 1698, 134, 1697, 88), (240, 1678, 134, 1677, 83), (241, 1694, 134, 1693, 87), (242, 1690, 134, 1689, 86), (243, 1674, 134, 1672, 1673), (244, 1706, 134, 1704, 1705), (245, 1714, 134, 1713, 90), (246, 1710, 134, 1708, 1709), (247, 1722, 134, 1721, 91), (248, 1726, 134, 1725, 92), (249, 1718, 134, 1716, 1717), (250, 1730, 134, 1728, 1729), (251, 1734, 134, 1732, 1733), (252, 1742, 134, 1740, 1741), (253, 1810, 134, 1808, 1809), (254, 1826, 134, 1825, 111), (255, 1830, 134, 1829, 112), (256, 1822, 134, 1820, 1821), (257, 1834, 134, 1832, 1833), (258, 1838, 134, 1836, 1837), (259, 1850, 134, 1849, 114), (260, 1846, 134, 1845, 113), (261, 1842, 134, 1840, 1841), (262, 1854, 134, 1852, 1853), (263, 1858, 134, 1856, 1857), (264, 1862, 134, 1860, 1861), (265, 1870, 134, 1869, 115), (266, 1866, 134, 1864, 1865), (267, 1874, 134, 1872, 1873), (268, 1878, 134, 1876, 1877), (269, 1886, 134, 1885, 0), (270, 1882, 134, 1880, 1881), (271, 1898, 134, 1897, 117), (272, 1894, 134, 1893, 116), (273, 1890, 134, 1888, 1889), (274, 1903, 134, 1901, 1902), (275, 1907, 134, 1905, 1906), (276, 982, 118, 981, 0), (277, 1056, 118, 1055, 0), (278, 1115, 118, 1114, 0), (279, 1139, 118, 1138, 0), (280, 1149, 118, 1148, 0), (281, 1165, 118, 1164, 0), (282, 1183, 118, 1182, 0), (283, 1192, 118, 1191, 0), (284, 1216, 118, 1215, 0), (285, 1232, 118, 1231, 0), (286, 1239, 118, 1238, 0), (287, 1251, 118, 1250, 0), (288, 1258, 118, 1257, 0), (289, 1267, 118, 1266, 0), (290, 1279, 118, 1278, 0), (291, 1290, 118, 1289, 0), (292, 1302, 118, 1301, 0), (293, 0, 0, 0, 0), (294, 577, 133, 576, 0)]
def cm_okm (q : Nat × Nat × Nat × Nat × Nat) : Bool := decide (lw_tbl[q.2.2.1]? = some (.initialized (cm_nm q.1).cls)) &&
  (match cm_sc q.1 with
  | true => decide (lw_tbl[q.2.2.2.1]? = some (.static (cm_nm q.1)))
  | false => decide (lw_tbl[q.2.2.2.1]? = some (.instanceMethod (cm_nm q.1))) && (decide ((cm_nm q.1).name = "<init>") || decide (lw_tbl[q.2.2.2.2]? = some (.selects (cm_nm q.1).cls (cm_nm q.1) (cm_nm q.1))))) &&
  decide ((cm_nm q.1).cls = cm_cn (cm_ow q.1)) && plainName (cm_nm q.1).cls && decide ((cm_nm q.1).cls ≠ "java/lang/invoke/MethodHandle" ∧ (cm_nm q.1).cls ≠ "java/lang/invoke/VarHandle") &&
  decide ((parseMethodDescriptor (cm_nm q.1).desc).map (fun d => d.parameters.length) = some (cm_na_ q.1 - (match cm_sc q.1 with
    | true => 0
    | false => 1))) && decide (cm_na_ q.1 ≤ cm_mL q.1)
set_option maxRecDepth 100000 in
theorem cm_mts_0 : ((cm_mts.drop 0).take 50).all (fun q => (q.1 == 293) || cm_okm q) = true := by decide +kernel
set_option maxRecDepth 100000 in
theorem cm_mts_1 : ((cm_mts.drop 50).take 50).all (fun q => (q.1 == 293) || cm_okm q) = true := by decide +kernel
set_option maxRecDepth 100000 in
theorem cm_mts_2 : ((cm_mts.drop 100).take 50).all (fun q => (q.1 == 293) || cm_okm q) = true := by decide +kernel
set_option maxRecDepth 100000 in
theorem cm_mts_3 : ((cm_mts.drop 150).take 50).all (fun q => (q.1 == 293) || cm_okm q) = true := by decide +kernel
set_option maxRecDepth 100000 in
theorem cm_mts_4 : ((cm_mts.drop 200).take 50).all (fun q => (q.1 == 293) || cm_okm q) = true := by decide +kernel
set_option maxRecDepth 100000 in
theorem cm_mts_5 : ((cm_mts.drop 250).take 50).all (fun q => (q.1 == 293) || cm_okm q) = true := by decide +kernel
set_option maxRecDepth 100000 in
theorem cm_mts_at : ∀ y, y < 295 → (cm_mts[y]?).map (fun q => q.1) = some y := by decide +kernel
def cm_fls : List (Nat × Nat × Nat × Nat × Nat × Nat × Nat) := [(8, 9, 0, 2, 8, 0, 590), (8, 16, 0, 2, 8, 2, 592), (8, 20, 0, 0, 8, 3, 593), (8, 27, 0, 2, 8, 4, 594), (8, 34, 0, 2, 8, 5, 595), (8, 41, 0, 2, 8, 6, 596), (8, 48, 0, 2, 8, 7, 597), (8, 55, 0, 2, 8, 10, 600), (8, 59, 0, 2, 8, 11, 601), (8, 65, 0, 2, 8, 12, 602), (8, 69, 0, 2, 8, 13, 603), (8, 79, 0, 0, 8, 1, 591), (8, 93, 0, 0, 5, 2, 192), (8, 96, 0, 0, 5, 1, 190), (8, 99, 0, 0, 8, 8, 598), (8, 110, 0, 1, 4, 0, 399), (8, 114, 0, 0, 2, 0, 250), (8, 117, 0, 0, 2, 1, 253), (8, 120, 0, 0, 2, 2, 256), (8, 123, 0, 0, 2, 3, 258), (8, 126, 0, 0, 6, 9, 321), (8, 136, 0, 1, 6, 6, 312), (8, 142, 0, 0, 6, 7, 314), (8, 145, 0, 0, 6, 8, 317), (8, 159, 0, 0, 6, 10, 324), (8, 165, 0, 0, 0, 2, 379), (8, 168, 0, 0, 8, 9, 599), (8, 204, 0, 2, 6, 1, 301), (8, 207, 0, 2, 6, 0, 298), (8, 213, 0, 2, 6, 2, 304), (8, 385, 0, 1, 2, 4, 260), (8, 410, 0, 0, 3, 0, 428), (8, 422, 0, 2, 4, 1, 401), (8, 426, 0, 2, 4, 2, 403), (8, 427, 0, 2, 4, 3, 405), (8, 431, 0, 0, 4, 4, 406), (8, 432, 0, 0, 4, 5, 407), (0, 11, 0, 2, 0, 0, 376), (0, 18, 0, 0, 0, 1, 377), (0, 22, 0, 0, 0, 2, 378), (1, 9, 0, 2, 1, 0, 354), (1, 15, 0, 2, 1, 1, 355), (1, 18, 0, 2, 1, 2, 356), (1, 21, 0, 0, 1, 3, 357), (1, 31, 0, 2, 6, 2, 303), (1, 39, 0, 1, 6, 6, 310), (1, 51, 0, 2, 6, 1, 300), (1, 57, 0, 0, 6, 9, 320), (1, 69, 0, 0, 2, 2, 255), (1, 72, 0, 0, 2, 1, 252), (1, 88, 0, 0, 6, 10, 323), (1, 91, 1, 2, 6, 3, 306), (1, 94, 0, 2, 6, 5, 309), (1, 97, 0, 2, 6, 0, 297), (1, 119, 0, 0, 6, 7, 315), (1, 122, 0, 0, 6, 8, 318), (2, 9, 0, 2, 2, 5, 261), (2, 15, 0, 2, 2, 6, 262), (2, 18, 0, 2, 2, 7, 263), (2, 21, 0, 2, 2, 8, 264), (2, 24, 0, 2, 2, 9, 265), (2, 27, 0, 0, 5, 4, 194), (2, 33, 0, 0, 2, 0, 249), (2, 34, 0, 0, 5, 5, 196), (2, 37, 0, 0, 2, 1, 251), (2, 38, 0, 0, 5, 6, 198), (2, 41, 0, 0, 2, 2, 254), (2, 42, 0, 0, 5, 7, 200), (2, 45, 0, 0, 2, 3, 257), (2, 46, 0, 2, 5, 8, 203), (2, 72, 0, 1, 2, 4, 259), (2, 102, 0, 0, 2, 10, 266), (3, 7, 0, 0, 3, 0, 427), (4, 10, 0, 2, 4, 1, 400), (4, 19, 0, 2, 4, 2, 402), (4, 26, 0, 2, 4, 3, 404), (5, 12, 0, 2, 5, 0, 188), (5, 18, 0, 2, 5, 8, 202), (5, 22, 0, 2, 5, 10, 205), (5, 26, 0, 2, 5, 11, 207), (5, 29, 0, 2, 5, 12, 209), (5, 39, 0, 0, 5, 1, 189), (5, 43, 0, 0, 7, 4, 166), (5, 49, 0, 0, 5, 2, 191), (5, 52, 0, 1, 5, 3, 193), (5, 56, 0, 0, 5, 4, 195), (5, 59, 0, 0, 5, 5, 197), (5, 62, 0, 0, 5, 6, 199), (5, 65, 0, 0, 5, 7, 201), (5, 68, 0, 0, 5, 9, 204), (5, 71, 0, 0, 5, 13, 212), (5, 99, 0, 0, 7, 3, 165), (5, 113, 0, 0, 7, 5, 169), (5, 116, 0, 0, 7, 6, 171), (6, 9, 0, 2, 6, 0, 296), (6, 15, 0, 2, 6, 1, 299), (6, 18, 0, 2, 6, 2, 302), (6, 22, 0, 2, 6, 3, 305), (6, 25, 0, 2, 6, 4, 307), (6, 28, 0, 2, 6, 5, 308), (6, 37, 0, 1, 6, 6, 311), (6, 41, 0, 0, 6, 7, 313), (6, 45, 0, 0, 6, 8, 316), (6, 48, 0, 0, 6, 9, 319), (6, 51, 0, 0, 6, 10, 322), (6, 57, 0, 0, 5, 13, 211), (6, 62, 0, 2, 5, 10, 206), (6, 65, 0, 2, 5, 11, 208), (6, 66, 0, 2, 5, 12, 210), (7, 9, 0, 2, 7, 0, 161), (7, 21, 0, 0, 7, 1, 162), (7, 25, 0, 0, 7, 2, 163), (7, 31, 0, 0, 7, 3, 164), (7, 34, 0, 0, 7, 4, 167), (7, 43, 0, 0, 7, 6, 170), (7, 46, 0, 0, 7, 5, 168), (9, 7, 0, 2, 9, 1, 1334), (9, 13, 0, 2, 9, 2, 1335), (9, 16, 0, 2, 9, 3, 1336), (9, 19, 0, 2, 9, 4, 1337), (9, 22, 0, 2, 9, 5, 1338), (9, 25, 0, 2, 9, 6, 1339), (9, 28, 0, 2, 9, 7, 1340), (9, 31, 0, 2, 9, 8, 1341), (9, 34, 0, 0, 9, 18, 1351), (9, 38, 0, 0, 9, 21, 1354), (9, 41, 0, 2, 9, 22, 1355), (9, 44, 0, 2, 9, 23, 1356), (9, 47, 0, 2, 9, 24, 1357), (9, 50, 0, 2, 9, 28, 1361), (9, 54, 0, 2, 9, 30, 1363), (9, 57, 0, 2, 9, 32, 1365), (9, 60, 0, 2, 9, 35, 1368), (9, 63, 0, 2, 9, 36, 1369), (9, 66, 0, 2, 9, 37, 1370), (9, 69, 0, 2, 9, 38, 1371), (9, 72, 0, 2, 9, 39, 1372), (9, 79, 0, 0, 9, 0, 1333), (9, 85, 0, 0, 9, 9, 1342), (9, 88, 0, 0, 9, 11, 1344), (9, 91, 0, 0, 9, 10, 1343), (9, 98, 0, 0, 9, 14, 1347), (9, 101, 0, 0, 9, 12, 1345), (9, 111, 0, 0, 9, 13, 1346), (9, 121, 0, 0, 9, 15, 1348), (9, 124, 0, 0, 9, 16, 1349), (9, 127, 0, 0, 9, 17, 1350), (9, 150, 0, 1, 9, 19, 1352), (9, 161, 0, 0, 9, 20, 1353), (9, 192, 0, 0, 9, 29, 1362), (9, 195, 0, 1, 9, 33, 1366), (9, 226, 0, 0, 9, 25, 1358), (9, 238, 0, 0, 9, 26, 1359), (9, 251, 0, 0, 9, 27, 1360), (9, 400, 0, 0, 9, 31, 1364), (9, 410, 0, 0, 9, 34, 1367)]
def cm_mls : List (Nat × Nat × Nat × Nat × Nat) := [(8, 15, 1, 47, 151), (8, 26, 1, 15, 245), (8, 33, 1, 61, 292), (8, 40, 1, 5, 350), (8, 47, 0, 0, 369), (8, 54, 1, 46, 389), (8, 64, 1, 44, 423), (8, 72, 0, 48, 432), (8, 76, 0, 104, 559), (8, 82, 0, 102, 638), (8, 102, 0, 16, 563), (8, 106, 0, 63, 567), (8, 107, 0, 1, 586), (8, 129, 0, 76, 927), (8, 133, 0, 77, 1062), (8, 139, 0, 80, 1063), (8, 148, 0, 33, 1067), (8, 152, 0, 35, 1071), (8, 155, 0, 42, 1075), (8, 162, 0, 43, 1093), (8, 176, 0, 109, 1120), (8, 179, 0, 110, 1125), (8, 183, 0, 21, 1129), (8, 186, 0, 41, 1133), (8, 189, 0, 22, 1144), (8, 194, 0, 23, 1146), (8, 201, 0, 114, 1154), (8, 210, 0, 73, 1159), (8, 217, 0, 92, 1170), (8, 220, 0, 93, 1174), (8, 225, 0, 72, 1189), (8, 228, 0, 70, 700), (8, 234, 0, 116, 1197), (8, 237, 0, 117, 1202), (8, 240, 0, 118, 1207), (8, 243, 0, 36, 757), (8, 246, 0, 37, 1210), (8, 249, 0, 34, 749), (8, 254, 0, 160, 1205), (8, 259, 0, 120, 1221), (8, 263, 0, 38, 1225), (8, 266, 0, 91, 1244), (8, 270, 0, 82, 650), (8, 273, 0, 124, 657), (8, 276, 0, 2, 661), (8, 280, 0, 83, 673), (8, 284, 0, 85, 705), (8, 287, 0, 87, 717), (8, 290, 0, 88, 721), (8, 293, 0, 89, 741), (8, 296, 0, 68, 761), (8, 300, 0, 132, 775), (8, 304, 0, 133, 798), (8, 307, 0, 81, 783), (8, 310, 0, 26, 791), (8, 313, 0, 131, 779), (8, 316, 0, 6, 802), (8, 320, 0, 9, 817), (8, 324, 0, 66, 860), (8, 327, 0, 134, 864), (8, 330, 0, 32, 868), (8, 333, 0, 67, 878), (8, 337, 0, 136, 887), (8, 340, 0, 137, 897), (8, 343, 0, 30, 891), (8, 347, 0, 139, 905), (8, 350, 0, 140, 917), (8, 354, 0, 78, 909), (8, 357, 0, 24, 921), (8, 360, 0, 64, 922), (8, 363, 0, 3, 935), (8, 366, 0, 74, 943), (8, 369, 0, 79, 944), (8, 372, 0, 27, 945), (8, 382, 0, 148, 958), (8, 388, 0, 150, 1272), (8, 391, 0, 151, 1276), (8, 394, 0, 19, 1284), (8, 401, 0, 154, 1297), (8, 407, 0, 62, 971), (8, 413, 0, 156, 1308), (8, 416, 0, 45, 1312), (8, 419, 0, 157, 1317), (8, 423, 0, 17, 966), (8, 428, 0, 4, 972), (0, 17, 1, 61, 375), (0, 25, 0, 62, 665), (1, 25, 0, 74, 806), (1, 35, 0, 7, 807), (1, 43, 0, 8, 812), (1, 47, 1, 151, 816), (1, 54, 0, 71, 811), (1, 60, 0, 28, 821), (1, 66, 0, 29, 825), (1, 80, 0, 10, 834), (1, 84, 0, 11, 838), (1, 100, 0, 24, 842), (1, 103, 0, 72, 846), (1, 106, 0, 25, 847), (1, 109, 0, 12, 851), (1, 112, 0, 13, 854), (1, 116, 0, 14, 857), (2, 56, 0, 18, 1087), (2, 60, 1, 151, 795), (2, 64, 0, 26, 949), (2, 68, 0, 20, 829), (2, 76, 0, 28, 895), (2, 79, 0, 29, 896), (2, 90, 0, 31, 873), (2, 93, 0, 23, 753), (2, 96, 0, 22, 1092), (2, 99, 0, 37, 1229), (2, 105, 0, 40, 1083), (2, 109, 0, 36, 1091), (2, 112, 0, 39, 1079), (4, 9, 1, 15, 394), (4, 18, 1, 61, 396), (4, 25, 0, 0, 398), (5, 11, 1, 94, 157), (5, 32, 0, 49, 436), (5, 35, 0, 95, 440), (5, 46, 0, 50, 459), (5, 76, 0, 99, 464), (5, 80, 0, 53, 516), (5, 84, 0, 56, 534), (5, 89, 0, 58, 543), (5, 92, 0, 51, 520), (5, 96, 0, 52, 555), (5, 102, 0, 96, 524), (5, 105, 0, 54, 525), (5, 109, 0, 55, 529), (5, 119, 0, 57, 538), (5, 122, 0, 59, 547), (5, 126, 0, 60, 551), (6, 54, 0, 64, 571), (6, 67, 0, 69, 582), (6, 71, 0, 294, 575), (6, 77, 0, 65, 578), (6, 80, 0, 23, 770), (6, 86, 0, 68, 882), (6, 90, 0, 22, 765), (6, 99, 1, 160, 654), (6, 103, 0, 74, 689), (6, 106, 0, 70, 677), (6, 109, 0, 77, 913), (6, 113, 0, 79, 787), (6, 116, 0, 84, 681), (6, 123, 0, 75, 685), (6, 126, 0, 86, 709), (6, 129, 0, 90, 725), (6, 133, 0, 71, 729), (6, 136, 0, 72, 733), (6, 139, 0, 37, 1248), (7, 28, 0, 96, 447), (7, 37, 0, 97, 451), (7, 40, 0, 98, 455), (10, 7, 0, 103, 984), (10, 15, 0, 106, 1058), (10, 20, 0, 107, 1116), (10, 24, 0, 108, 1140), (10, 27, 0, 111, 1150), (10, 30, 0, 112, 1166), (10, 33, 0, 113, 1184), (10, 36, 0, 115, 1193), (10, 40, 0, 119, 1217), (10, 43, 0, 121, 1233), (10, 46, 0, 122, 1240), (10, 49, 0, 143, 1252), (10, 52, 0, 145, 1259), (10, 55, 0, 149, 1268), (10, 58, 0, 152, 1280), (10, 61, 0, 153, 1291), (10, 65, 0, 155, 1303), (10, 68, 0, 100, 143), (10, 71, 0, 161, 1323), (10, 72, 0, 101, 634), (10, 76, 0, 167, 1458), (10, 77, 0, 276, 980), (10, 82, 0, 181, 1462), (10, 83, 0, 162, 1454), (10, 87, 0, 105, 642), (10, 90, 0, 182, 1530), (10, 91, 0, 277, 1054), (10, 93, 0, 219, 1534), (10, 94, 0, 278, 1113), (10, 97, 0, 221, 1597), (10, 98, 0, 279, 1137), (10, 100, 0, 222, 1605), (10, 101, 0, 280, 1147), (10, 103, 0, 225, 1609), (10, 104, 0, 281, 1163), (10, 106, 0, 228, 1625), (10, 107, 0, 282, 1181), (10, 109, 0, 226, 1621), (10, 110, 0, 283, 1190), (10, 113, 0, 230, 1635), (10, 114, 0, 284, 1214), (10, 116, 0, 232, 1651), (10, 117, 0, 285, 1230), (10, 119, 0, 233, 1659), (10, 120, 0, 286, 1237), (10, 122, 0, 235, 1663), (10, 123, 0, 123, 646), (10, 126, 0, 243, 1671), (10, 127, 0, 125, 696), (10, 130, 0, 244, 1703), (10, 131, 0, 126, 701), (10, 134, 0, 246, 1707), (10, 135, 0, 127, 713), (10, 139, 0, 249, 1715), (10, 140, 0, 128, 737), (10, 143, 0, 250, 1727), (10, 144, 0, 129, 745), (10, 147, 0, 251, 1731), (10, 148, 0, 130, 771), (10, 151, 0, 252, 1739), (10, 152, 0, 135, 883), (10, 155, 0, 253, 1807), (10, 156, 0, 138, 901), (10, 160, 0, 256, 1819), (10, 161, 0, 141, 923), (10, 164, 0, 257, 1831), (10, 165, 0, 142, 931), (10, 168, 0, 258, 1835), (10, 169, 0, 287, 1249), (10, 171, 0, 261, 1839), (10, 172, 0, 144, 939), (10, 175, 0, 262, 1851), (10, 176, 0, 288, 1256), (10, 178, 0, 263, 1855), (10, 179, 0, 146, 950), (10, 182, 0, 264, 1859), (10, 183, 0, 147, 954), (10, 186, 0, 266, 1863), (10, 187, 0, 289, 1265), (10, 189, 0, 267, 1871), (10, 190, 0, 290, 1277), (10, 192, 0, 268, 1875), (10, 193, 0, 291, 1288), (10, 195, 0, 270, 1879), (10, 196, 0, 292, 1300), (10, 198, 0, 273, 1887), (10, 199, 0, 158, 962), (10, 202, 0, 274, 1900), (10, 203, 0, 159, 976), (10, 207, 0, 275, 1904), (9, 75, 0, 166, 1327), (9, 82, 0, 165, 1330), (9, 94, 0, 168, 1474), (9, 104, 0, 169, 1478), (9, 108, 0, 170, 1481), (9, 140, 0, 172, 1501), (9, 144, 0, 174, 1509), (9, 147, 0, 171, 1470), (9, 154, 0, 175, 1505), (9, 157, 0, 176, 1518), (9, 166, 0, 173, 1491), (9, 170, 0, 177, 1497), (9, 174, 0, 178, 1514), (9, 179, 0, 179, 1523), (9, 182, 0, 163, 1466), (9, 185, 0, 180, 1486), (9, 188, 0, 237, 1527), (9, 198, 0, 184, 1562), (9, 201, 0, 186, 1558), (9, 204, 0, 185, 1570), (9, 207, 0, 190, 1586), (9, 210, 0, 191, 1647), (9, 213, 0, 189, 1582), (9, 216, 0, 192, 1735), (9, 220, 0, 195, 1542), (9, 223, 0, 197, 1550), (9, 229, 0, 200, 1699), (9, 232, 0, 199, 1751), (9, 235, 0, 201, 1755), (9, 241, 0, 203, 1791), (9, 245, 0, 202, 1747), (9, 248, 0, 196, 1758), (9, 254, 0, 206, 1771), (9, 257, 0, 207, 1779), (9, 260, 0, 183, 1783), (9, 263, 0, 204, 1787), (9, 266, 0, 208, 1775), (9, 271, 0, 209, 1767), (9, 274, 0, 210, 1795), (9, 277, 0, 187, 1799), (9, 280, 0, 193, 1803), (9, 283, 0, 214, 1578), (9, 286, 0, 164, 1590), (9, 290, 0, 194, 1538), (9, 293, 0, 198, 1546), (9, 296, 0, 215, 1554), (9, 299, 0, 216, 1566), (9, 302, 0, 217, 1574), (9, 305, 0, 218, 1593), (9, 308, 0, 220, 1601), (9, 311, 0, 223, 1617), (9, 314, 0, 224, 1613), (9, 317, 0, 227, 1629), (9, 326, 0, 188, 1643), (9, 329, 0, 229, 1639), (9, 332, 0, 231, 1655), (9, 335, 0, 234, 1667), (9, 338, 0, 239, 1695), (9, 341, 0, 241, 1691), (9, 344, 0, 240, 1675), (9, 347, 0, 236, 1679), (9, 350, 0, 238, 1683), (9, 353, 0, 242, 1687), (9, 357, 0, 245, 1711), (9, 360, 0, 247, 1719), (9, 363, 0, 248, 1723), (9, 366, 0, 205, 1743), (9, 369, 0, 211, 1762), (9, 372, 0, 212, 1811), (9, 375, 0, 213, 1815), (9, 378, 0, 254, 1823), (9, 381, 0, 255, 1827), (9, 385, 0, 260, 1843), (9, 388, 0, 259, 1847), (9, 391, 0, 265, 1867), (9, 396, 0, 269, 1884), (9, 404, 0, 271, 1895), (9, 407, 0, 272, 1891)]
def cm_pls : List (Nat × Nat × Nat × Nat) := [(8, 3, 1, 146), (8, 377, 2, 1264), (0, 3, 1, 372), (0, 29, 2, 672), (1, 3, 1, 353), (1, 75, 2, 833), (2, 3, 1, 248), (2, 50, 5, 970), (2, 82, 3, 877), (2, 87, 2, 872), (3, 1, 1, 426), (4, 1, 1, 392), (5, 3, 1, 154), (6, 3, 1, 295), (6, 31, 5, 669), (6, 94, 2, 769), (6, 120, 3, 693), (6, 142, 4, 1178), (7, 3, 1, 160), (7, 15, 2, 444), (7, 49, 6, 468), (7, 55, 7, 478), (9, 1, 1, 1326), (9, 115, 2, 1485), (9, 130, 6, 1495), (9, 136, 7, 1496), (9, 320, 4, 1633), (9, 323, 3, 1634)]
def cm_cls : List (Nat × Nat × Nat × Nat × Nat) := [(8, 13, 5, 14, 149), (8, 24, 2, 11, 243), (8, 31, 6, 11, 290), (8, 38, 1, 4, 348), (8, 45, 0, 3, 367), (8, 52, 4, 6, 387), (8, 62, 3, 1, 421), (0, 9, 6, 11, 373), (4, 7, 2, 11, 393), (4, 16, 6, 11, 395), (4, 23, 0, 3, 397), (5, 9, 7, 7, 155), (10, 8, 8, 14, 141), (10, 69, 9, 40, 1321)]
def cm_xls : List (Nat × Nat × Nat × Nat) := [(8, 86, 1, 988), (8, 171, 0, 1097)]
def cm_kls : List (Nat × Nat × Nat × Nat) := [(3, 13, 1103515245, 1316), (9, 114, 100000, 1484), (9, 270, 1000000, 1766), (9, 403, 1103515245, 1899)]
def cm_okf (q : Nat × Nat × Nat × Nat × Nat × Nat × Nat) : Bool := match cm_vw[q.2.2.2.2.1]? with
  | some (_, T, N) => decide (q.2.2.2.2.2.1 < N) && decide (cm_tc (T q.2.2.2.2.2.1).2.2.1 = q.2.2.2.1) && decide (lw_tbl[q.2.2.2.2.2.2]? = some (match q.2.2.1 with
    | 0 => .fieldLink (cm_cn q.1) q.2.1 (T q.2.2.2.2.2.1).1 (T q.2.2.2.2.2.1).2.1 (T q.2.2.2.2.2.1).2.2.1
    | _ => .fieldLinkNest (cm_cn q.1) q.2.1 (T q.2.2.2.2.2.1).1 (T q.2.2.2.2.2.1).2.1 (T q.2.2.2.2.2.1).2.2.1 "OnceVolume")) && (decide (q.2.2.1 = 0) || decide (q.2.2.2.1 = 2))
  | none => false
def cm_okl (q : Nat × Nat × Nat × Nat × Nat) : Bool := decide (q.2.2.2.1 < 295) && decide (q.2.2.2.1 ≠ 293) && decide (lw_tbl[q.2.2.2.2]? = some (match q.2.2.1 with
    | 0 => .methodLink (cm_cn q.1) q.2.1 (cm_nm q.2.2.2.1)
    | _ => .methodLinkNest (cm_cn q.1) q.2.1 (cm_nm q.2.2.2.1) "OnceVolume"))
def cm_pn (a : Nat) : MethodName := match a with
  | 1 => objectInit
  | 2 => Lib.Math.min.name
  | 3 => Lib.Math.max.name
  | 4 => Lib.Math.abs.name
  | 5 => arraycopyName
  | 6 => yJ0_length_8abf5
  | _ => yJ0_charAt_5068e
def cm_okp (q : Nat × Nat × Nat × Nat) : Bool := decide (lw_tbl[q.2.2.2]? = some (.methodLink (cm_cn q.1) q.2.1 (cm_pn q.2.2.1)))
def cm_cis : List (Nat × Nat) := [(368, 125), (349, 124), (244, 122), (422, 127), (388, 126), (150, 120), (291, 123), (156, 121), (142, 119), (1322, 134)]
def cm_okc (q : Nat × Nat × Nat × Nat × Nat) : Bool := match cm_vw[q.2.2.1]?, cm_cis[q.2.2.1]? with
  | some (C, _, N), some (i, j) => decide (q.2.2.2.1 = N) && decide (lw_tbl[q.2.2.2.2]? = some (.classLink (cm_cn q.1) q.2.1 C)) && decide (lw_tbl[i]? = some (.instantiable C N)) && decide (lw_tbl[j]? = some (.initialized C))
  | _, _ => false
def cm_xn (e : Nat) : String := match e with
  | 0 => "java/util/NoSuchElementException"
  | _ => "java/lang/IllegalArgumentException"
def cm_okx (q : Nat × Nat × Nat × Nat) : Bool := decide (lw_tbl[q.2.2.2]? = some (.classLink (cm_cn q.1) q.2.1 (cm_xn q.2.2.1)))
def cm_okk (q : Nat × Nat × Nat × Nat) : Bool := decide (lw_tbl[q.2.2.2]? = some (.constant (cm_cn q.1) q.2.1 (Int32.ofNat q.2.2.1))) && decide (q.2.2.1 < 2147483648)
set_option maxRecDepth 100000 in
theorem cm_fls_ok : cm_fls.all cm_okf = true := by decide +kernel
set_option maxRecDepth 100000 in
theorem cm_mls_ok : cm_mls.all cm_okl = true := by decide +kernel
set_option maxRecDepth 100000 in
theorem cm_pls_ok : cm_pls.all cm_okp = true := by decide +kernel
set_option maxRecDepth 100000 in
theorem cm_cls_ok : cm_cls.all cm_okc = true := by decide +kernel
set_option maxRecDepth 100000 in
theorem cm_xls_ok : cm_xls.all cm_okx = true := by decide +kernel
set_option maxRecDepth 100000 in
theorem cm_kls_ok : cm_kls.all cm_okk = true := by decide +kernel
set_option maxRecDepth 100000 in
theorem cm_vw_in : ∀ ci, ci < 10 → ∀ w ∈ (match cm_vw[ci]? with
  | some (C, T, N) => u_ws C T N
  | none => []), w ∈ lw_tbl := by decide +kernel
def cm_ths : List (Nat × Nat × Nat × Nat × Nat × Nat × Nat) := [(103, 12, 0, 86, 88, 90, 1), (106, 324, 0, 171, 173, 175, 0), (108, 32, 0, 171, 192, 175, 0), (109, 15, 0, 171, 197, 175, 0), (110, 9, 0, 171, 199, 175, 0), (113, 22, 0, 171, 223, 175, 0), (114, 11, 0, 171, 232, 175, 0), (116, 21, 0, 171, 252, 175, 0), (117, 7, 1, 171, 257, 175, 0), (118, 10, 0, 171, 223, 175, 0), (145, 15, 1, 86, 375, 90, 1), (153, 19, 1, 86, 397, 90, 1), (155, 15, 1, 86, 405, 90, 1)]
end
section
set_option maxRecDepth 100000 in
theorem cm_cwin_0 : ∀ y, y < 25 → (y ≠ 293 → cm_cw y ∈ lw_tbl) := lt_s (lt_s (lt_s (lt_s (lt_s (lt_s (lt_s (lt_s (lt_s (lt_s (lt_s (lt_s (lt_s (lt_s (lt_s (lt_s (lt_s (lt_s (lt_s (lt_s (lt_s (lt_s (lt_s (lt_s (lt_s (lt_0) (fun _ => List.mem_of_getElem? (i := 371) rfl)) (fun _ => List.mem_of_getElem? (i := 589) rfl)) (fun _ => List.mem_of_getElem? (i := 664) rfl)) (fun _ => List.mem_of_getElem? (i := 938) rfl)) (fun _ => List.mem_of_getElem? (i := 975) rfl)) (fun _ => List.mem_of_getElem? (i := 352) rfl)) (fun _ => List.mem_of_getElem? (i := 805) rfl)) (fun _ => List.mem_of_getElem? (i := 810) rfl)) (fun _ => List.mem_of_getElem? (i := 815) rfl)) (fun _ => List.mem_of_getElem? (i := 820) rfl)) (fun _ => List.mem_of_getElem? (i := 837) rfl)) (fun _ => List.mem_of_getElem? (i := 841) rfl)) (fun _ => List.mem_of_getElem? (i := 853) rfl)) (fun _ => List.mem_of_getElem? (i := 856) rfl)) (fun _ => List.mem_of_getElem? (i := 859) rfl)) (fun _ => List.mem_of_getElem? (i := 247) rfl)) (fun _ => List.mem_of_getElem? (i := 566) rfl)) (fun _ => List.mem_of_getElem? (i := 969) rfl)) (fun _ => List.mem_of_getElem? (i := 1090) rfl)) (fun _ => List.mem_of_getElem? (i := 1287) rfl)) (fun _ => List.mem_of_getElem? (i := 832) rfl)) (fun _ => List.mem_of_getElem? (i := 1132) rfl)) (fun _ => List.mem_of_getElem? (i := 768) rfl)) (fun _ => List.mem_of_getElem? (i := 756) rfl)) (fun _ => List.mem_of_getElem? (i := 845) rfl)
set_option maxRecDepth 100000 in
theorem cm_cwin_1 : ∀ y, y < 50 → (y ≠ 293 → cm_cw y ∈ lw_tbl) := lt_s (lt_s (lt_s (lt_s (lt_s (lt_s (lt_s (lt_s (lt_s (lt_s (lt_s (lt_s (lt_s (lt_s (lt_s (lt_s (lt_s (lt_s (lt_s (lt_s (lt_s (lt_s (lt_s (lt_s (lt_s (cm_cwin_0) (fun _ => List.mem_of_getElem? (i := 850) rfl)) (fun _ => List.mem_of_getElem? (i := 794) rfl)) (fun _ => List.mem_of_getElem? (i := 948) rfl)) (fun _ => List.mem_of_getElem? (i := 824) rfl)) (fun _ => List.mem_of_getElem? (i := 828) rfl)) (fun _ => List.mem_of_getElem? (i := 894) rfl)) (fun _ => List.mem_of_getElem? (i := 876) rfl)) (fun _ => List.mem_of_getElem? (i := 871) rfl)) (fun _ => List.mem_of_getElem? (i := 1070) rfl)) (fun _ => List.mem_of_getElem? (i := 752) rfl)) (fun _ => List.mem_of_getElem? (i := 1074) rfl)) (fun _ => List.mem_of_getElem? (i := 760) rfl)) (fun _ => List.mem_of_getElem? (i := 1213) rfl)) (fun _ => List.mem_of_getElem? (i := 1228) rfl)) (fun _ => List.mem_of_getElem? (i := 1082) rfl)) (fun _ => List.mem_of_getElem? (i := 1086) rfl)) (fun _ => List.mem_of_getElem? (i := 1136) rfl)) (fun _ => List.mem_of_getElem? (i := 1078) rfl)) (fun _ => List.mem_of_getElem? (i := 1096) rfl)) (fun _ => List.mem_of_getElem? (i := 425) rfl)) (fun _ => List.mem_of_getElem? (i := 1315) rfl)) (fun _ => List.mem_of_getElem? (i := 391) rfl)) (fun _ => List.mem_of_getElem? (i := 153) rfl)) (fun _ => List.mem_of_getElem? (i := 435) rfl)) (fun _ => List.mem_of_getElem? (i := 439) rfl)
set_option maxRecDepth 100000 in
theorem cm_cwin_2 : ∀ y, y < 75 → (y ≠ 293 → cm_cw y ∈ lw_tbl) := lt_s (lt_s (lt_s (lt_s (lt_s (lt_s (lt_s (lt_s (lt_s (lt_s (lt_s (lt_s (lt_s (lt_s (lt_s (lt_s (lt_s (lt_s (lt_s (lt_s (lt_s (lt_s (lt_s (lt_s (lt_s (cm_cwin_1) (fun _ => List.mem_of_getElem? (i := 462) rfl)) (fun _ => List.mem_of_getElem? (i := 523) rfl)) (fun _ => List.mem_of_getElem? (i := 558) rfl)) (fun _ => List.mem_of_getElem? (i := 519) rfl)) (fun _ => List.mem_of_getElem? (i := 528) rfl)) (fun _ => List.mem_of_getElem? (i := 532) rfl)) (fun _ => List.mem_of_getElem? (i := 537) rfl)) (fun _ => List.mem_of_getElem? (i := 541) rfl)) (fun _ => List.mem_of_getElem? (i := 546) rfl)) (fun _ => List.mem_of_getElem? (i := 550) rfl)) (fun _ => List.mem_of_getElem? (i := 554) rfl)) (fun _ => List.mem_of_getElem? (i := 294) rfl)) (fun _ => List.mem_of_getElem? (i := 668) rfl)) (fun _ => List.mem_of_getElem? (i := 570) rfl)) (fun _ => List.mem_of_getElem? (i := 574) rfl)) (fun _ => List.mem_of_getElem? (i := 581) rfl)) (fun _ => List.mem_of_getElem? (i := 863) rfl)) (fun _ => List.mem_of_getElem? (i := 881) rfl)) (fun _ => List.mem_of_getElem? (i := 764) rfl)) (fun _ => List.mem_of_getElem? (i := 585) rfl)) (fun _ => List.mem_of_getElem? (i := 680) rfl)) (fun _ => List.mem_of_getElem? (i := 732) rfl)) (fun _ => List.mem_of_getElem? (i := 736) rfl)) (fun _ => List.mem_of_getElem? (i := 1162) rfl)) (fun _ => List.mem_of_getElem? (i := 692) rfl)
set_option maxRecDepth 100000 in
theorem cm_cwin_3 : ∀ y, y < 100 → (y ≠ 293 → cm_cw y ∈ lw_tbl) := lt_s (lt_s (lt_s (lt_s (lt_s (lt_s (lt_s (lt_s (lt_s (lt_s (lt_s (lt_s (lt_s (lt_s (lt_s (lt_s (lt_s (lt_s (lt_s (lt_s (lt_s (lt_s (lt_s (lt_s (lt_s (cm_cwin_2) (fun _ => List.mem_of_getElem? (i := 688) rfl)) (fun _ => List.mem_of_getElem? (i := 930) rfl)) (fun _ => List.mem_of_getElem? (i := 916) rfl)) (fun _ => List.mem_of_getElem? (i := 912) rfl)) (fun _ => List.mem_of_getElem? (i := 790) rfl)) (fun _ => List.mem_of_getElem? (i := 1066) rfl)) (fun _ => List.mem_of_getElem? (i := 786) rfl)) (fun _ => List.mem_of_getElem? (i := 653) rfl)) (fun _ => List.mem_of_getElem? (i := 676) rfl)) (fun _ => List.mem_of_getElem? (i := 684) rfl)) (fun _ => List.mem_of_getElem? (i := 708) rfl)) (fun _ => List.mem_of_getElem? (i := 712) rfl)) (fun _ => List.mem_of_getElem? (i := 720) rfl)) (fun _ => List.mem_of_getElem? (i := 724) rfl)) (fun _ => List.mem_of_getElem? (i := 744) rfl)) (fun _ => List.mem_of_getElem? (i := 728) rfl)) (fun _ => List.mem_of_getElem? (i := 1247) rfl)) (fun _ => List.mem_of_getElem? (i := 1173) rfl)) (fun _ => List.mem_of_getElem? (i := 1177) rfl)) (fun _ => List.mem_of_getElem? (i := 159) rfl)) (fun _ => List.mem_of_getElem? (i := 443) rfl)) (fun _ => List.mem_of_getElem? (i := 450) rfl)) (fun _ => List.mem_of_getElem? (i := 454) rfl)) (fun _ => List.mem_of_getElem? (i := 458) rfl)) (fun _ => List.mem_of_getElem? (i := 467) rfl)
set_option maxRecDepth 100000 in
theorem cm_cwin_4 : ∀ y, y < 125 → (y ≠ 293 → cm_cw y ∈ lw_tbl) := lt_s (lt_s (lt_s (lt_s (lt_s (lt_s (lt_s (lt_s (lt_s (lt_s (lt_s (lt_s (lt_s (lt_s (lt_s (lt_s (lt_s (lt_s (lt_s (lt_s (lt_s (lt_s (lt_s (lt_s (lt_s (cm_cwin_3) (fun _ => List.mem_of_getElem? (i := 145) rfl)) (fun _ => List.mem_of_getElem? (i := 637) rfl)) (fun _ => List.mem_of_getElem? (i := 641) rfl)) (fun _ => List.mem_of_getElem? (i := 987) rfl)) (fun _ => List.mem_of_getElem? (i := 562) rfl)) (fun _ => List.mem_of_getElem? (i := 645) rfl)) (fun _ => List.mem_of_getElem? (i := 1061) rfl)) (fun _ => List.mem_of_getElem? (i := 1119) rfl)) (fun _ => List.mem_of_getElem? (i := 1143) rfl)) (fun _ => List.mem_of_getElem? (i := 1123) rfl)) (fun _ => List.mem_of_getElem? (i := 1127) rfl)) (fun _ => List.mem_of_getElem? (i := 1153) rfl)) (fun _ => List.mem_of_getElem? (i := 1169) rfl)) (fun _ => List.mem_of_getElem? (i := 1187) rfl)) (fun _ => List.mem_of_getElem? (i := 1157) rfl)) (fun _ => List.mem_of_getElem? (i := 1196) rfl)) (fun _ => List.mem_of_getElem? (i := 1200) rfl)) (fun _ => List.mem_of_getElem? (i := 1204) rfl)) (fun _ => List.mem_of_getElem? (i := 1209) rfl)) (fun _ => List.mem_of_getElem? (i := 1220) rfl)) (fun _ => List.mem_of_getElem? (i := 1224) rfl)) (fun _ => List.mem_of_getElem? (i := 1236) rfl)) (fun _ => List.mem_of_getElem? (i := 1243) rfl)) (fun _ => List.mem_of_getElem? (i := 649) rfl)) (fun _ => List.mem_of_getElem? (i := 660) rfl)
set_option maxRecDepth 100000 in
theorem cm_cwin_5 : ∀ y, y < 150 → (y ≠ 293 → cm_cw y ∈ lw_tbl) := lt_s (lt_s (lt_s (lt_s (lt_s (lt_s (lt_s (lt_s (lt_s (lt_s (lt_s (lt_s (lt_s (lt_s (lt_s (lt_s (lt_s (lt_s (lt_s (lt_s (lt_s (lt_s (lt_s (lt_s (lt_s (cm_cwin_4) (fun _ => List.mem_of_getElem? (i := 699) rfl)) (fun _ => List.mem_of_getElem? (i := 704) rfl)) (fun _ => List.mem_of_getElem? (i := 716) rfl)) (fun _ => List.mem_of_getElem? (i := 740) rfl)) (fun _ => List.mem_of_getElem? (i := 748) rfl)) (fun _ => List.mem_of_getElem? (i := 774) rfl)) (fun _ => List.mem_of_getElem? (i := 782) rfl)) (fun _ => List.mem_of_getElem? (i := 778) rfl)) (fun _ => List.mem_of_getElem? (i := 801) rfl)) (fun _ => List.mem_of_getElem? (i := 867) rfl)) (fun _ => List.mem_of_getElem? (i := 886) rfl)) (fun _ => List.mem_of_getElem? (i := 890) rfl)) (fun _ => List.mem_of_getElem? (i := 900) rfl)) (fun _ => List.mem_of_getElem? (i := 904) rfl)) (fun _ => List.mem_of_getElem? (i := 908) rfl)) (fun _ => List.mem_of_getElem? (i := 920) rfl)) (fun _ => List.mem_of_getElem? (i := 926) rfl)) (fun _ => List.mem_of_getElem? (i := 934) rfl)) (fun _ => List.mem_of_getElem? (i := 1255) rfl)) (fun _ => List.mem_of_getElem? (i := 942) rfl)) (fun _ => List.mem_of_getElem? (i := 1262) rfl)) (fun _ => List.mem_of_getElem? (i := 953) rfl)) (fun _ => List.mem_of_getElem? (i := 957) rfl)) (fun _ => List.mem_of_getElem? (i := 961) rfl)) (fun _ => List.mem_of_getElem? (i := 1271) rfl)
set_option maxRecDepth 100000 in
theorem cm_cwin_6 : ∀ y, y < 175 → (y ≠ 293 → cm_cw y ∈ lw_tbl) := lt_s (lt_s (lt_s (lt_s (lt_s (lt_s (lt_s (lt_s (lt_s (lt_s (lt_s (lt_s (lt_s (lt_s (lt_s (lt_s (lt_s (lt_s (lt_s (lt_s (lt_s (lt_s (lt_s (lt_s (lt_s (cm_cwin_5) (fun _ => List.mem_of_getElem? (i := 1275) rfl)) (fun _ => List.mem_of_getElem? (i := 797) rfl)) (fun _ => List.mem_of_getElem? (i := 1283) rfl)) (fun _ => List.mem_of_getElem? (i := 1294) rfl)) (fun _ => List.mem_of_getElem? (i := 1299) rfl)) (fun _ => List.mem_of_getElem? (i := 1306) rfl)) (fun _ => List.mem_of_getElem? (i := 1311) rfl)) (fun _ => List.mem_of_getElem? (i := 1320) rfl)) (fun _ => List.mem_of_getElem? (i := 965) rfl)) (fun _ => List.mem_of_getElem? (i := 979) rfl)) (fun _ => List.mem_of_getElem? (i := 656) rfl)) (fun _ => List.mem_of_getElem? (i := 1325) rfl)) (fun _ => List.mem_of_getElem? (i := 1457) rfl)) (fun _ => List.mem_of_getElem? (i := 1469) rfl)) (fun _ => List.mem_of_getElem? (i := 1592) rfl)) (fun _ => List.mem_of_getElem? (i := 1332) rfl)) (fun _ => List.mem_of_getElem? (i := 1329) rfl)) (fun _ => List.mem_of_getElem? (i := 1461) rfl)) (fun _ => List.mem_of_getElem? (i := 1477) rfl)) (fun _ => List.mem_of_getElem? (i := 1480) rfl)) (fun _ => List.mem_of_getElem? (i := 1483) rfl)) (fun _ => List.mem_of_getElem? (i := 1473) rfl)) (fun _ => List.mem_of_getElem? (i := 1504) rfl)) (fun _ => List.mem_of_getElem? (i := 1494) rfl)) (fun _ => List.mem_of_getElem? (i := 1512) rfl)
set_option maxRecDepth 100000 in
theorem cm_cwin_7 : ∀ y, y < 200 → (y ≠ 293 → cm_cw y ∈ lw_tbl) := lt_s (lt_s (lt_s (lt_s (lt_s (lt_s (lt_s (lt_s (lt_s (lt_s (lt_s (lt_s (lt_s (lt_s (lt_s (lt_s (lt_s (lt_s (lt_s (lt_s (lt_s (lt_s (lt_s (lt_s (lt_s (cm_cwin_6) (fun _ => List.mem_of_getElem? (i := 1508) rfl)) (fun _ => List.mem_of_getElem? (i := 1521) rfl)) (fun _ => List.mem_of_getElem? (i := 1500) rfl)) (fun _ => List.mem_of_getElem? (i := 1517) rfl)) (fun _ => List.mem_of_getElem? (i := 1526) rfl)) (fun _ => List.mem_of_getElem? (i := 1489) rfl)) (fun _ => List.mem_of_getElem? (i := 1465) rfl)) (fun _ => List.mem_of_getElem? (i := 1533) rfl)) (fun _ => List.mem_of_getElem? (i := 1786) rfl)) (fun _ => List.mem_of_getElem? (i := 1565) rfl)) (fun _ => List.mem_of_getElem? (i := 1573) rfl)) (fun _ => List.mem_of_getElem? (i := 1561) rfl)) (fun _ => List.mem_of_getElem? (i := 1802) rfl)) (fun _ => List.mem_of_getElem? (i := 1646) rfl)) (fun _ => List.mem_of_getElem? (i := 1585) rfl)) (fun _ => List.mem_of_getElem? (i := 1589) rfl)) (fun _ => List.mem_of_getElem? (i := 1650) rfl)) (fun _ => List.mem_of_getElem? (i := 1738) rfl)) (fun _ => List.mem_of_getElem? (i := 1806) rfl)) (fun _ => List.mem_of_getElem? (i := 1541) rfl)) (fun _ => List.mem_of_getElem? (i := 1545) rfl)) (fun _ => List.mem_of_getElem? (i := 1761) rfl)) (fun _ => List.mem_of_getElem? (i := 1553) rfl)) (fun _ => List.mem_of_getElem? (i := 1549) rfl)) (fun _ => List.mem_of_getElem? (i := 1754) rfl)
set_option maxRecDepth 100000 in
theorem cm_cwin_8 : ∀ y, y < 225 → (y ≠ 293 → cm_cw y ∈ lw_tbl) := lt_s (lt_s (lt_s (lt_s (lt_s (lt_s (lt_s (lt_s (lt_s (lt_s (lt_s (lt_s (lt_s (lt_s (lt_s (lt_s (lt_s (lt_s (lt_s (lt_s (lt_s (lt_s (lt_s (lt_s (lt_s (cm_cwin_7) (fun _ => List.mem_of_getElem? (i := 1702) rfl)) (fun _ => List.mem_of_getElem? (i := 1757) rfl)) (fun _ => List.mem_of_getElem? (i := 1750) rfl)) (fun _ => List.mem_of_getElem? (i := 1794) rfl)) (fun _ => List.mem_of_getElem? (i := 1790) rfl)) (fun _ => List.mem_of_getElem? (i := 1746) rfl)) (fun _ => List.mem_of_getElem? (i := 1774) rfl)) (fun _ => List.mem_of_getElem? (i := 1782) rfl)) (fun _ => List.mem_of_getElem? (i := 1778) rfl)) (fun _ => List.mem_of_getElem? (i := 1770) rfl)) (fun _ => List.mem_of_getElem? (i := 1798) rfl)) (fun _ => List.mem_of_getElem? (i := 1765) rfl)) (fun _ => List.mem_of_getElem? (i := 1814) rfl)) (fun _ => List.mem_of_getElem? (i := 1818) rfl)) (fun _ => List.mem_of_getElem? (i := 1581) rfl)) (fun _ => List.mem_of_getElem? (i := 1557) rfl)) (fun _ => List.mem_of_getElem? (i := 1569) rfl)) (fun _ => List.mem_of_getElem? (i := 1577) rfl)) (fun _ => List.mem_of_getElem? (i := 1596) rfl)) (fun _ => List.mem_of_getElem? (i := 1537) rfl)) (fun _ => List.mem_of_getElem? (i := 1604) rfl)) (fun _ => List.mem_of_getElem? (i := 1600) rfl)) (fun _ => List.mem_of_getElem? (i := 1608) rfl)) (fun _ => List.mem_of_getElem? (i := 1620) rfl)) (fun _ => List.mem_of_getElem? (i := 1616) rfl)
set_option maxRecDepth 100000 in
theorem cm_cwin_9 : ∀ y, y < 250 → (y ≠ 293 → cm_cw y ∈ lw_tbl) := lt_s (lt_s (lt_s (lt_s (lt_s (lt_s (lt_s (lt_s (lt_s (lt_s (lt_s (lt_s (lt_s (lt_s (lt_s (lt_s (lt_s (lt_s (lt_s (lt_s (lt_s (lt_s (lt_s (lt_s (lt_s (cm_cwin_8) (fun _ => List.mem_of_getElem? (i := 1612) rfl)) (fun _ => List.mem_of_getElem? (i := 1624) rfl)) (fun _ => List.mem_of_getElem? (i := 1632) rfl)) (fun _ => List.mem_of_getElem? (i := 1628) rfl)) (fun _ => List.mem_of_getElem? (i := 1642) rfl)) (fun _ => List.mem_of_getElem? (i := 1638) rfl)) (fun _ => List.mem_of_getElem? (i := 1658) rfl)) (fun _ => List.mem_of_getElem? (i := 1654) rfl)) (fun _ => List.mem_of_getElem? (i := 1662) rfl)) (fun _ => List.mem_of_getElem? (i := 1670) rfl)) (fun _ => List.mem_of_getElem? (i := 1666) rfl)) (fun _ => List.mem_of_getElem? (i := 1682) rfl)) (fun _ => List.mem_of_getElem? (i := 1529) rfl)) (fun _ => List.mem_of_getElem? (i := 1686) rfl)) (fun _ => List.mem_of_getElem? (i := 1698) rfl)) (fun _ => List.mem_of_getElem? (i := 1678) rfl)) (fun _ => List.mem_of_getElem? (i := 1694) rfl)) (fun _ => List.mem_of_getElem? (i := 1690) rfl)) (fun _ => List.mem_of_getElem? (i := 1674) rfl)) (fun _ => List.mem_of_getElem? (i := 1706) rfl)) (fun _ => List.mem_of_getElem? (i := 1714) rfl)) (fun _ => List.mem_of_getElem? (i := 1710) rfl)) (fun _ => List.mem_of_getElem? (i := 1722) rfl)) (fun _ => List.mem_of_getElem? (i := 1726) rfl)) (fun _ => List.mem_of_getElem? (i := 1718) rfl)
set_option maxRecDepth 100000 in
theorem cm_cwin_10 : ∀ y, y < 275 → (y ≠ 293 → cm_cw y ∈ lw_tbl) := lt_s (lt_s (lt_s (lt_s (lt_s (lt_s (lt_s (lt_s (lt_s (lt_s (lt_s (lt_s (lt_s (lt_s (lt_s (lt_s (lt_s (lt_s (lt_s (lt_s (lt_s (lt_s (lt_s (lt_s (lt_s (cm_cwin_9) (fun _ => List.mem_of_getElem? (i := 1730) rfl)) (fun _ => List.mem_of_getElem? (i := 1734) rfl)) (fun _ => List.mem_of_getElem? (i := 1742) rfl)) (fun _ => List.mem_of_getElem? (i := 1810) rfl)) (fun _ => List.mem_of_getElem? (i := 1826) rfl)) (fun _ => List.mem_of_getElem? (i := 1830) rfl)) (fun _ => List.mem_of_getElem? (i := 1822) rfl)) (fun _ => List.mem_of_getElem? (i := 1834) rfl)) (fun _ => List.mem_of_getElem? (i := 1838) rfl)) (fun _ => List.mem_of_getElem? (i := 1850) rfl)) (fun _ => List.mem_of_getElem? (i := 1846) rfl)) (fun _ => List.mem_of_getElem? (i := 1842) rfl)) (fun _ => List.mem_of_getElem? (i := 1854) rfl)) (fun _ => List.mem_of_getElem? (i := 1858) rfl)) (fun _ => List.mem_of_getElem? (i := 1862) rfl)) (fun _ => List.mem_of_getElem? (i := 1870) rfl)) (fun _ => List.mem_of_getElem? (i := 1866) rfl)) (fun _ => List.mem_of_getElem? (i := 1874) rfl)) (fun _ => List.mem_of_getElem? (i := 1878) rfl)) (fun _ => List.mem_of_getElem? (i := 1886) rfl)) (fun _ => List.mem_of_getElem? (i := 1882) rfl)) (fun _ => List.mem_of_getElem? (i := 1898) rfl)) (fun _ => List.mem_of_getElem? (i := 1894) rfl)) (fun _ => List.mem_of_getElem? (i := 1890) rfl)) (fun _ => List.mem_of_getElem? (i := 1903) rfl)
set_option maxRecDepth 100000 in
theorem cm_cwin_11 : ∀ y, y < 295 → (y ≠ 293 → cm_cw y ∈ lw_tbl) := lt_s (lt_s (lt_s (lt_s (lt_s (lt_s (lt_s (lt_s (lt_s (lt_s (lt_s (lt_s (lt_s (lt_s (lt_s (lt_s (lt_s (lt_s (lt_s (lt_s (cm_cwin_10) (fun _ => List.mem_of_getElem? (i := 1907) rfl)) (fun _ => List.mem_of_getElem? (i := 982) rfl)) (fun _ => List.mem_of_getElem? (i := 1056) rfl)) (fun _ => List.mem_of_getElem? (i := 1115) rfl)) (fun _ => List.mem_of_getElem? (i := 1139) rfl)) (fun _ => List.mem_of_getElem? (i := 1149) rfl)) (fun _ => List.mem_of_getElem? (i := 1165) rfl)) (fun _ => List.mem_of_getElem? (i := 1183) rfl)) (fun _ => List.mem_of_getElem? (i := 1192) rfl)) (fun _ => List.mem_of_getElem? (i := 1216) rfl)) (fun _ => List.mem_of_getElem? (i := 1232) rfl)) (fun _ => List.mem_of_getElem? (i := 1239) rfl)) (fun _ => List.mem_of_getElem? (i := 1251) rfl)) (fun _ => List.mem_of_getElem? (i := 1258) rfl)) (fun _ => List.mem_of_getElem? (i := 1267) rfl)) (fun _ => List.mem_of_getElem? (i := 1279) rfl)) (fun _ => List.mem_of_getElem? (i := 1290) rfl)) (fun _ => List.mem_of_getElem? (i := 1302) rfl)) (fun h => absurd rfl h)) (fun _ => List.mem_of_getElem? (i := 577) rfl)
end
section
/-- what an instruction's row must be, for the two machines to go alike -/
def cm_jls : List (Nat × Nat × Nat) := [(8, 399, 1296), (9, 394, 1883)]
theorem cm_jls_ok : cm_jls.all (fun q => decide (lw_tbl[q.2.2]? = some (.constantLong (cm_cn q.1) q.2.1 (-1)))) = true := by decide +kernel
def cm_fnd {α : Type} (l : List α) (p : α → Bool) : Bool := l.any p
def cm_tg (pc : Nat) (o : Int) : Bool := decide (0 ≤ (pc : Int) + o)
def cm_okcl (y idx a b c v : Nat) : Bool := match a == 0 || (100).ble a with
  | true => cm_mls.any (fun q => q.1 == cm_ow y && (q.2.1 == idx && q.2.2.2.1 == b)) && (c == cm_na_ b && ((cm_fm b + 1).ble (cm_fm y) && ((19 + cm_mL b + cm_lo b).ble (cm_lo y) && (match v with
    | 0 => cm_sc b && a == 0
    | 1 => !cm_sc b && (a == 100 + cm_ow b && decide ((cm_nm b).name ≠ "<init>"))
    | _ => !cm_sc b && (a == 100 + cm_ow b && decide ((cm_nm b).name = "<init>"))))))
  | false => a == 99 || (cm_pls.any (fun q => q.1 == cm_ow y && (q.2.1 == idx && q.2.2.1 == a)) && (match v with
    | 0 => (2).ble a && a.ble 5
    | 1 => (6).ble a && (a.ble 7 && (6).ble (cm_fm y))
    | _ => a == 1))
def cm_okpf (y b c : Nat) : Bool := match cm_vw[b]? with
  | some (_, T, _) => !(T c).2.2.2 || (decide ((cm_nm y).name = "<init>") && decide ((T c).1 = cm_cn (cm_ow y)))
  | none => false
def cm_okk2 (y i a b : Nat) : Bool := match a with
  | 0 => cm_kls.any (fun q => q.1 == cm_ow y && (q.2.1 == i && q.2.2.1 == b))
  | 1 => (List.range 6).any (fun k => decide ((cm_lits[k]?).map (fun q => (q.1, q.2.1)) = some (cm_cn (cm_ow y), i)) && b == 200000 + k % 3)
  | _ => true
def cm_oki (y pc : Nat) (en : cm_E) : Bool := match en with
  | (.iconst n, l, _) => l == 1 && decide (-1 ≤ n ∧ n ≤ 5)
  | (.bipush n, l, _) => l == 2 && decide (-128 ≤ n ∧ n ≤ 127)
  | (.sipush n, l, _) => l == 3 && decide (-32768 ≤ n ∧ n ≤ 32767)
  | (.lconst _, l, _) => l == 1
  | (.ldc i, l, a, b, _) => l == 2 && cm_okk2 y i a b
  | (.ldc_w i, l, a, b, _) => l == 3 && cm_okk2 y i a b
  | (.ldc2_w i, l, _) => l == 3 && cm_jls.any (fun q => q.1 == cm_ow y && q.2.1 == i)
  | (.iload _, l, _) => l == 2
  | (.iload_n _, l, _) => l == 1
  | (.lload _, l, _) => l == 2
  | (.lload_n _, l, _) => l == 1
  | (.aload _, l, _) => l == 2
  | (.aload_n _, l, _) => l == 1
  | (.istore _, l, _) => l == 2
  | (.istore_n _, l, _) => l == 1
  | (.lstore _, l, _) => l == 2
  | (.lstore_n _, l, _) => l == 1
  | (.astore _, l, _) => l == 2
  | (.astore_n _, l, _) => l == 1
  | (.iinc _ n, l, _) => l == 3 && decide (-32768 ≤ n ∧ n ≤ 32767)
  | (.goto o, l, _) => l == 3 && cm_tg pc o
  | (.ifCond _ o, l, _) => l == 3 && cm_tg pc o
  | (.if_icmp _ o, l, _) => l == 3 && cm_tg pc o
  | (.tableswitch d lo hi os, _) => cm_tg pc d && (os.toList.all (cm_tg pc) && decide (hi - lo + 1 = (os.toList.length : Int)))
  | (.lookupswitch d ps, _) => cm_tg pc d && (ps.toList.all (fun q => cm_tg pc q.2) && (ps.toList.zip (ps.toList.drop 1)).all (fun (a, next) => a.1 < next.1))
  | (.getfield i, l, a, b, c) => l == 3 && cm_fls.any (fun q => q.1 == cm_ow y && (q.2.1 == i && (q.2.2.2.1 == a && (q.2.2.2.2.1 == b && q.2.2.2.2.2.1 == c))))
  | (.putfield i, l, a, b, c) => l == 3 && (cm_fls.any (fun q => q.1 == cm_ow y && (q.2.1 == i && (q.2.2.1 == 0 && (q.2.2.2.1 == a && (q.2.2.2.2.1 == b && q.2.2.2.2.2.1 == c))))) && cm_okpf y b c)
  | (.newarray t, l, _) => l == 2 && (cm_at_ t).blt 9
  | (.anewarray i, l, _) => l == 3 && cm_cls.any (fun q => q.1 == cm_ow y && (q.2.1 == i && q.2.2.1 == 6))
  | (.new i, l, a, b, c) => l == 3 && (match a with
    | 0 => cm_cls.any (fun q => q.1 == cm_ow y && (q.2.1 == i && (q.2.2.1 == b && q.2.2.2.1 == c)))
    | _ => cm_ths.any (fun q => q.1 == y && (q.2.1 == pc && (q.2.2.2.1 == i && q.2.2.2.2.2.2 == b))))
  | (.invokevirtual i, l, a, b, c) => l == 3 && cm_okcl y i a b c 1
  | (.invokestatic i, l, a, b, c) => l == 3 && cm_okcl y i a b c 0
  | (.invokespecial i, l, a, b, c) => l == 3 && cm_okcl y i a b c 2
  | (.ireturn, l, a, _) => l == 1 && decide (cm_rt y = some (match a with
    | 0 => .int
    | _ => .boolean))
  | (.lreturn, l, _) => l == 1 && decide (cm_rt y = some .long)
  | (.return_, l, _) => l == 1 && decide (cm_rt y = none)
  | (_, l, _) => l == 1
def cm_oke (y pc : Nat) (en : cm_E) : Bool := decide (decode (cm_by y) pc = .ok (en.1, en.2.1)) && cm_oki y pc en
theorem cm_chunks {α : Type} {p : α → Bool} {l : List α} (ls : List (List α)) (h : l = ls.flatten) (ha : ∀ x ∈ ls, x.all p = true) : l.all p = true := by
  rw [h, List.all_eq_true]
  intro a hm
  obtain ⟨x, hx, hax⟩ := List.mem_flatten.mp hm
  exact List.all_eq_true.mp (ha x hx) a hax
end
section
set_option maxRecDepth 100000 in
theorem ok_X0_init : (cd_X0_init).all (fun q => cm_oke 0 q.1 q.2) = true := by decide +kernel
set_option maxRecDepth 100000 in
theorem ok_X0_forget : (cd_X0_forget).all (fun q => cm_oke 1 q.1 q.2) = true := by decide +kernel
set_option maxRecDepth 100000 in
theorem ok_X0_keep : (cd_X0_keep).all (fun q => cm_oke 2 q.1 q.2) = true := by decide +kernel
set_option maxRecDepth 100000 in
theorem ok_X0_takeBack : (cd_X0_takeBack).all (fun q => cm_oke 3 q.1 q.2) = true := by decide +kernel
set_option maxRecDepth 100000 in
theorem ok_X0_takeFrom : (cd_X0_takeFrom).all (fun q => cm_oke 4 q.1 q.2) = true := by decide +kernel
set_option maxRecDepth 100000 in
theorem ok_X1_init : (cd_X1_init).all (fun q => cm_oke 5 q.1 q.2) = true := by decide +kernel
set_option maxRecDepth 100000 in
theorem ok_X1_plan : (cd_X1_plan).all (fun q => cm_oke 6 q.1 q.2) = true := by decide +kernel
set_option maxRecDepth 100000 in
theorem ok_X1_addFile : (cd_X1_addFile).all (fun q => cm_oke 7 q.1 q.2) = true := by decide +kernel
set_option maxRecDepth 100000 in
theorem ok_X1_add : (cd_X1_add).all (fun q => cm_oke 8 q.1 q.2) = true := by decide +kernel
set_option maxRecDepth 100000 in
theorem ok_X1_lay : (cd_X1_lay).all (fun q => cm_oke 9 q.1 q.2) = true := by decide +kernel
set_option maxRecDepth 100000 in
theorem ok_X1_placePacket : (cd_X1_placePacket).all (fun q => cm_oke 10 q.1 q.2) = true := by decide +kernel
set_option maxRecDepth 100000 in
theorem ok_X1_writeBlock : (cd_X1_writeBlock).all (fun q => cm_oke 11 q.1 q.2) = true := by decide +kernel
set_option maxRecDepth 100000 in
theorem ok_X1_writeEntry : (cd_X1_writeEntry).all (fun q => cm_oke 12 q.1 q.2) = true := by decide +kernel
set_option maxRecDepth 100000 in
theorem ok_X1_writeDirectory : (cd_X1_writeDirectory).all (fun q => cm_oke 13 q.1 q.2) = true := by decide +kernel
set_option maxRecDepth 100000 in
theorem ok_X1_writeMap : (cd_X1_writeMap).all (fun q => cm_oke 14 q.1 q.2) = true := by decide +kernel
set_option maxRecDepth 100000 in
theorem ok_X2_init : (cd_X2_init).all (fun q => cm_oke 15 q.1 q.2) = true := by decide +kernel
set_option maxRecDepth 100000 in
theorem ok_X2_takeOver : (cd_X2_takeOver).all (fun q => cm_oke 16 q.1 q.2) = true := by decide +kernel
set_option maxRecDepth 100000 in
theorem ok_X2_takeBlocks : (cd_X2_takeBlocks).all (fun q => cm_oke 17 q.1 q.2) = true := by decide +kernel
set_option maxRecDepth 100000 in
theorem ok_X2_isBlock : (cd_X2_isBlock).all (fun q => cm_oke 18 q.1 q.2) = true := by decide +kernel
set_option maxRecDepth 100000 in
theorem ok_X2_isFaulty : (cd_X2_isFaulty).all (fun q => cm_oke 19 q.1 q.2) = true := by decide +kernel
set_option maxRecDepth 100000 in
theorem ok_X2_hasFaulty : (cd_X2_hasFaulty).all (fun q => cm_oke 20 q.1 q.2) = true := by decide +kernel
set_option maxRecDepth 100000 in
theorem ok_X2_kindOf : (cd_X2_kindOf).all (fun q => cm_oke 21 q.1 q.2) = true := by decide +kernel
set_option maxRecDepth 100000 in
theorem ok_X2_lengthOf : (cd_X2_lengthOf).all (fun q => cm_oke 22 q.1 q.2) = true := by decide +kernel
set_option maxRecDepth 100000 in
theorem ok_X2_toldBy : (cd_X2_toldBy).all (fun q => cm_oke 23 q.1 q.2) = true := by decide +kernel
set_option maxRecDepth 100000 in
theorem ok_X2_write : (cd_X2_write).all (fun q => cm_oke 24 q.1 q.2) = true := by decide +kernel
set_option maxRecDepth 100000 in
theorem ok_X2_tell : (cd_X2_tell).all (fun q => cm_oke 25 q.1 q.2) = true := by decide +kernel
set_option maxRecDepth 100000 in
theorem ok_X2_packetsFor : (cd_X2_packetsFor).all (fun q => cm_oke 26 q.1 q.2) = true := by decide +kernel
set_option maxRecDepth 100000 in
theorem ok_X2_costOf : (cd_X2_costOf).all (fun q => cm_oke 27 q.1 q.2) = true := by decide +kernel
set_option maxRecDepth 100000 in
theorem ok_X2_hasRoomForPacket : (cd_X2_hasRoomForPacket).all (fun q => cm_oke 28 q.1 q.2) = true := by decide +kernel
set_option maxRecDepth 100000 in
theorem ok_X2_wouldSpare : (cd_X2_wouldSpare).all (fun q => cm_oke 29 q.1 q.2) = true := by decide +kernel
set_option maxRecDepth 100000 in
theorem ok_X2_foresee : (cd_X2_foresee).all (fun q => cm_oke 30 q.1 q.2) = true := by decide +kernel
end
section
set_option maxRecDepth 100000 in
theorem ok_X2_isGoodMap : (cd_X2_isGoodMap).all (fun q => cm_oke 31 q.1 q.2) = true := by decide +kernel
set_option maxRecDepth 100000 in
theorem ok_X2_lastGoodMap : (cd_X2_lastGoodMap).all (fun q => cm_oke 32 q.1 q.2) = true := by decide +kernel
set_option maxRecDepth 100000 in
theorem ok_X2_goodMaps : (cd_X2_goodMaps).all (fun q => cm_oke 33 q.1 q.2) = true := by decide +kernel
set_option maxRecDepth 100000 in
theorem ok_X2_mapAlong : (cd_X2_mapAlong).all (fun q => cm_oke 34 q.1 q.2) = true := by decide +kernel
set_option maxRecDepth 100000 in
theorem ok_X2_mapsAlong : (cd_X2_mapsAlong).all (fun q => cm_oke 35 q.1 q.2) = true := by decide +kernel
set_option maxRecDepth 100000 in
theorem ok_X2_entryBy : (cd_X2_entryBy).all (fun q => cm_oke 36 q.1 q.2) = true := by decide +kernel
set_option maxRecDepth 100000 in
theorem ok_X2_numberBy : (cd_X2_numberBy).all (fun q => cm_oke 37 q.1 q.2) = true := by decide +kernel
set_option maxRecDepth 100000 in
theorem ok_X2_tellAlike : (cd_X2_tellAlike).all (fun q => cm_oke 38 q.1 q.2) = true := by decide +kernel
set_option maxRecDepth 100000 in
theorem ok_X2_reach : (cd_X2_reach).all (fun q => cm_oke 39 q.1 q.2) = true := by decide +kernel
set_option maxRecDepth 100000 in
theorem ok_X2_reachBlock : (cd_X2_reachBlock).all (fun q => cm_oke 40 q.1 q.2) = true := by decide +kernel
set_option maxRecDepth 100000 in
theorem ok_X2_mapsReaching : (cd_X2_mapsReaching).all (fun q => cm_oke 41 q.1 q.2) = true := by decide +kernel
set_option maxRecDepth 100000 in
theorem ok_X2_deadBlocks : (cd_X2_deadBlocks).all (fun q => cm_oke 42 q.1 q.2) = true := by decide +kernel
set_option maxRecDepth 100000 in
theorem ok_X2_badBlocks : (cd_X2_badBlocks).all (fun q => cm_oke 43 q.1 q.2) = true := by decide +kernel
set_option maxRecDepth 100000 in
theorem ok_X3_init : (cd_X3_init).all (fun q => cm_oke 44 q.1 q.2) = true := by decide +kernel
set_option maxRecDepth 100000 in
theorem ok_X3_draw : (cd_X3_draw).all (fun q => cm_oke 45 q.1 q.2) = true := by decide +kernel
set_option maxRecDepth 100000 in
theorem ok_X4_init : (cd_X4_init).all (fun q => cm_oke 46 q.1 q.2) = true := by decide +kernel
set_option maxRecDepth 100000 in
theorem ok_X5_init : (cd_X5_init).all (fun q => cm_oke 47 q.1 q.2) = true := by decide +kernel
set_option maxRecDepth 100000 in
theorem ok_X5_readText : (cd_X5_readText).all (fun q => cm_oke 48 q.1 q.2) = true := by decide +kernel
set_option maxRecDepth 100000 in
theorem ok_X5_forgetAll : (cd_X5_forgetAll).all (fun q => cm_oke 49 q.1 q.2) = true := by decide +kernel
set_option maxRecDepth 100000 in
theorem ok_X5_readClause : (cd_X5_readClause).all (fun q => cm_oke 50 q.1 q.2) = true := by decide +kernel
set_option maxRecDepth 100000 in
theorem ok_X5_fail : (cd_X5_fail).all (fun q => cm_oke 51 q.1 q.2) = true := by decide +kernel
set_option maxRecDepth 100000 in
theorem ok_X5_readSemicolon : (cd_X5_readSemicolon).all (fun q => cm_oke 52 q.1 q.2) = true := by decide +kernel
set_option maxRecDepth 100000 in
theorem ok_X5_readDisc : (cd_X5_readDisc).all (fun q => cm_oke 53 q.1 q.2) = true := by decide +kernel
set_option maxRecDepth 100000 in
theorem ok_X5_readNumber : (cd_X5_readNumber).all (fun q => cm_oke 54 q.1 q.2) = true := by decide +kernel
set_option maxRecDepth 100000 in
theorem ok_X5_isFit : (cd_X5_isFit).all (fun q => cm_oke 55 q.1 q.2) = true := by decide +kernel
set_option maxRecDepth 100000 in
theorem ok_X5_readBad : (cd_X5_readBad).all (fun q => cm_oke 56 q.1 q.2) = true := by decide +kernel
set_option maxRecDepth 100000 in
theorem ok_X5_readBadBlock : (cd_X5_readBadBlock).all (fun q => cm_oke 57 q.1 q.2) = true := by decide +kernel
set_option maxRecDepth 100000 in
theorem ok_X5_readFile : (cd_X5_readFile).all (fun q => cm_oke 58 q.1 q.2) = true := by decide +kernel
set_option maxRecDepth 100000 in
theorem ok_X5_isTold : (cd_X5_isTold).all (fun q => cm_oke 59 q.1 q.2) = true := by decide +kernel
set_option maxRecDepth 100000 in
theorem ok_X5_readCell : (cd_X5_readCell).all (fun q => cm_oke 60 q.1 q.2) = true := by decide +kernel
set_option maxRecDepth 100000 in
theorem ok_X6_init : (cd_X6_init).all (fun q => cm_oke 61 q.1 q.2) = true := by decide +kernel
set_option maxRecDepth 100000 in
theorem ok_X6_takeFrom : (cd_X6_takeFrom).all (fun q => cm_oke 62 q.1 q.2) = true := by decide +kernel
end
section
set_option maxRecDepth 100000 in
theorem ok_X6_takeOver : (cd_X6_takeOver).all (fun q => cm_oke 63 q.1 q.2) = true := by decide +kernel
set_option maxRecDepth 100000 in
theorem ok_X6_dropFiles : (cd_X6_dropFiles).all (fun q => cm_oke 64 q.1 q.2) = true := by decide +kernel
set_option maxRecDepth 100000 in
theorem ok_X6_settleChanges : (cd_X6_settleChanges).all (fun q => cm_oke 65 q.1 q.2) = true := by decide +kernel
set_option maxRecDepth 100000 in
theorem ok_X6_settle : (cd_X6_settle).all (fun q => cm_oke 66 q.1 q.2) = true := by decide +kernel
set_option maxRecDepth 100000 in
theorem ok_X6_mountMap : (cd_X6_mountMap).all (fun q => cm_oke 67 q.1 q.2) = true := by decide +kernel
set_option maxRecDepth 100000 in
theorem ok_X6_takeCells : (cd_X6_takeCells).all (fun q => cm_oke 68 q.1 q.2) = true := by decide +kernel
set_option maxRecDepth 100000 in
theorem ok_X6_putCell : (cd_X6_putCell).all (fun q => cm_oke 69 q.1 q.2) = true := by decide +kernel
set_option maxRecDepth 100000 in
theorem ok_X6_has : (cd_X6_has).all (fun q => cm_oke 70 q.1 q.2) = true := by decide +kernel
set_option maxRecDepth 100000 in
theorem ok_X6_blockOf : (cd_X6_blockOf).all (fun q => cm_oke 71 q.1 q.2) = true := by decide +kernel
set_option maxRecDepth 100000 in
theorem ok_X6_numberOf : (cd_X6_numberOf).all (fun q => cm_oke 72 q.1 q.2) = true := by decide +kernel
set_option maxRecDepth 100000 in
theorem ok_X6_entryOf : (cd_X6_entryOf).all (fun q => cm_oke 73 q.1 q.2) = true := by decide +kernel
set_option maxRecDepth 100000 in
theorem ok_X6_nameOf : (cd_X6_nameOf).all (fun q => cm_oke 74 q.1 q.2) = true := by decide +kernel
set_option maxRecDepth 100000 in
theorem ok_X6_freeVirtual : (cd_X6_freeVirtual).all (fun q => cm_oke 75 q.1 q.2) = true := by decide +kernel
set_option maxRecDepth 100000 in
theorem ok_X6_fileCount : (cd_X6_fileCount).all (fun q => cm_oke 76 q.1 q.2) = true := by decide +kernel
set_option maxRecDepth 100000 in
theorem ok_X6_changedCount : (cd_X6_changedCount).all (fun q => cm_oke 77 q.1 q.2) = true := by decide +kernel
set_option maxRecDepth 100000 in
theorem ok_X6_anyChanged : (cd_X6_anyChanged).all (fun q => cm_oke 78 q.1 q.2) = true := by decide +kernel
set_option maxRecDepth 100000 in
theorem ok_X6_newCells : (cd_X6_newCells).all (fun q => cm_oke 79 q.1 q.2) = true := by decide +kernel
set_option maxRecDepth 100000 in
theorem ok_X6_newCount : (cd_X6_newCount).all (fun q => cm_oke 80 q.1 q.2) = true := by decide +kernel
set_option maxRecDepth 100000 in
theorem ok_X6_contentCount : (cd_X6_contentCount).all (fun q => cm_oke 81 q.1 q.2) = true := by decide +kernel
set_option maxRecDepth 100000 in
theorem ok_X6_canSet : (cd_X6_canSet).all (fun q => cm_oke 82 q.1 q.2) = true := by decide +kernel
set_option maxRecDepth 100000 in
theorem ok_X6_setCell : (cd_X6_setCell).all (fun q => cm_oke 83 q.1 q.2) = true := by decide +kernel
set_option maxRecDepth 100000 in
theorem ok_X6_beginFile : (cd_X6_beginFile).all (fun q => cm_oke 84 q.1 q.2) = true := by decide +kernel
set_option maxRecDepth 100000 in
theorem ok_X6_eraseFile : (cd_X6_eraseFile).all (fun q => cm_oke 85 q.1 q.2) = true := by decide +kernel
set_option maxRecDepth 100000 in
theorem ok_X6_forget : (cd_X6_forget).all (fun q => cm_oke 86 q.1 q.2) = true := by decide +kernel
set_option maxRecDepth 100000 in
theorem ok_X6_canGoTo : (cd_X6_canGoTo).all (fun q => cm_oke 87 q.1 q.2) = true := by decide +kernel
set_option maxRecDepth 100000 in
theorem ok_X6_renameFile : (cd_X6_renameFile).all (fun q => cm_oke 88 q.1 q.2) = true := by decide +kernel
set_option maxRecDepth 100000 in
theorem ok_X6_copyFile : (cd_X6_copyFile).all (fun q => cm_oke 89 q.1 q.2) = true := by decide +kernel
set_option maxRecDepth 100000 in
theorem ok_X6_copyCells : (cd_X6_copyCells).all (fun q => cm_oke 90 q.1 q.2) = true := by decide +kernel
set_option maxRecDepth 100000 in
theorem ok_X6_isLike : (cd_X6_isLike).all (fun q => cm_oke 91 q.1 q.2) = true := by decide +kernel
set_option maxRecDepth 100000 in
theorem ok_X6_runs : (cd_X6_runs).all (fun q => cm_oke 92 q.1 q.2) = true := by decide +kernel
set_option maxRecDepth 100000 in
theorem ok_X6_farthest : (cd_X6_farthest).all (fun q => cm_oke 93 q.1 q.2) = true := by decide +kernel
set_option maxRecDepth 100000 in
theorem ok_X7_init : (cd_X7_init).all (fun q => cm_oke 94 q.1 q.2) = true := by decide +kernel
set_option maxRecDepth 100000 in
theorem ok_X7_begin : (cd_X7_begin).all (fun q => cm_oke 95 q.1 q.2) = true := by decide +kernel
set_option maxRecDepth 100000 in
theorem ok_X7_advance : (cd_X7_advance).all (fun q => cm_oke 96 q.1 q.2) = true := by decide +kernel
set_option maxRecDepth 100000 in
theorem ok_X7_endOfRow : (cd_X7_endOfRow).all (fun q => cm_oke 97 q.1 q.2) = true := by decide +kernel
set_option maxRecDepth 100000 in
theorem ok_X7_takeValue : (cd_X7_takeValue).all (fun q => cm_oke 98 q.1 q.2) = true := by decide +kernel
end
section
set_option maxRecDepth 100000 in
theorem ok_X7_isWord : (cd_X7_isWord).all (fun q => cm_oke 99 q.1 q.2) = true := by decide +kernel
set_option maxRecDepth 100000 in
theorem ok_X8_init : (cd_X8_init).all (fun q => cm_oke 100 q.1 q.2) = true := by decide +kernel
set_option maxRecDepth 100000 in
theorem ok_X8_feed : (cd_X8_feed).all (fun q => cm_oke 101 q.1 q.2) = true := by decide +kernel
set_option maxRecDepth 100000 in
theorem ok_X8_feedNumber : (cd_X8_feedNumber).all (fun q => cm_oke 102 q.1 q.2) = true := by decide +kernel
set_option maxRecDepth 100000 in
theorem ok_X8_disc : (cd_X8_disc).all (fun q => cm_oke 103 q.1 q.2) = true := by decide +kernel
set_option maxRecDepth 100000 in
theorem ok_X8_beginAnew : (cd_X8_beginAnew).all (fun q => cm_oke 104 q.1 q.2) = true := by decide +kernel
set_option maxRecDepth 100000 in
theorem ok_X8_fault : (cd_X8_fault).all (fun q => cm_oke 105 q.1 q.2) = true := by decide +kernel
set_option maxRecDepth 100000 in
theorem ok_X8_count_p0 : (((cd_X8_count).drop 0).take 100).all (fun q => cm_oke 106 q.1 q.2) = true := by decide +kernel
set_option maxRecDepth 100000 in
theorem ok_X8_count_p1 : (((cd_X8_count).drop 100).take 100).all (fun q => cm_oke 106 q.1 q.2) = true := by decide +kernel
set_option maxRecDepth 100000 in
theorem ok_X8_count : (cd_X8_count).all (fun q => cm_oke 106 q.1 q.2) = true := cm_chunks [((cd_X8_count).drop 0).take 100, ((cd_X8_count).drop 100).take 100] rfl (by simp only [List.forall_mem_cons, List.not_mem_nil, false_implies, implies_true, and_true]; exact ⟨ok_X8_count_p0, ok_X8_count_p1⟩)
set_option maxRecDepth 100000 in
theorem ok_X8_block : (cd_X8_block).all (fun q => cm_oke 107 q.1 q.2) = true := by decide +kernel
set_option maxRecDepth 100000 in
theorem ok_X8_tells : (cd_X8_tells).all (fun q => cm_oke 108 q.1 q.2) = true := by decide +kernel
set_option maxRecDepth 100000 in
theorem ok_X8_checkBlock : (cd_X8_checkBlock).all (fun q => cm_oke 109 q.1 q.2) = true := by decide +kernel
set_option maxRecDepth 100000 in
theorem ok_X8_checkWhat : (cd_X8_checkWhat).all (fun q => cm_oke 110 q.1 q.2) = true := by decide +kernel
set_option maxRecDepth 100000 in
theorem ok_X8_file : (cd_X8_file).all (fun q => cm_oke 111 q.1 q.2) = true := by decide +kernel
set_option maxRecDepth 100000 in
theorem ok_X8_lie : (cd_X8_lie).all (fun q => cm_oke 112 q.1 q.2) = true := by decide +kernel
set_option maxRecDepth 100000 in
theorem ok_X8_read : (cd_X8_read).all (fun q => cm_oke 113 q.1 q.2) = true := by decide +kernel
set_option maxRecDepth 100000 in
theorem ok_X8_checkFile : (cd_X8_checkFile).all (fun q => cm_oke 114 q.1 q.2) = true := by decide +kernel
set_option maxRecDepth 100000 in
theorem ok_X8_past : (cd_X8_past).all (fun q => cm_oke 115 q.1 q.2) = true := by decide +kernel
set_option maxRecDepth 100000 in
theorem ok_X8_mapOrThrow : (cd_X8_mapOrThrow).all (fun q => cm_oke 116 q.1 q.2) = true := by decide +kernel
set_option maxRecDepth 100000 in
theorem ok_X8_checkName : (cd_X8_checkName).all (fun q => cm_oke 117 q.1 q.2) = true := by decide +kernel
set_option maxRecDepth 100000 in
theorem ok_X8_checkCell : (cd_X8_checkCell).all (fun q => cm_oke 118 q.1 q.2) = true := by decide +kernel
set_option maxRecDepth 100000 in
theorem ok_X8_versions : (cd_X8_versions).all (fun q => cm_oke 119 q.1 q.2) = true := by decide +kernel
set_option maxRecDepth 100000 in
theorem ok_X8_isLikeOneOf : (cd_X8_isLikeOneOf).all (fun q => cm_oke 120 q.1 q.2) = true := by decide +kernel
set_option maxRecDepth 100000 in
theorem ok_X8_since : (cd_X8_since).all (fun q => cm_oke 121 q.1 q.2) = true := by decide +kernel
set_option maxRecDepth 100000 in
theorem ok_X8_alike : (cd_X8_alike).all (fun q => cm_oke 122 q.1 q.2) = true := by decide +kernel
set_option maxRecDepth 100000 in
theorem ok_X8_set : (cd_X8_set).all (fun q => cm_oke 123 q.1 q.2) = true := by decide +kernel
set_option maxRecDepth 100000 in
theorem ok_X8_refuse : (cd_X8_refuse).all (fun q => cm_oke 124 q.1 q.2) = true := by decide +kernel
set_option maxRecDepth 100000 in
theorem ok_X8_cut : (cd_X8_cut).all (fun q => cm_oke 125 q.1 q.2) = true := by decide +kernel
set_option maxRecDepth 100000 in
theorem ok_X8_erase : (cd_X8_erase).all (fun q => cm_oke 126 q.1 q.2) = true := by decide +kernel
set_option maxRecDepth 100000 in
theorem ok_X8_rename : (cd_X8_rename).all (fun q => cm_oke 127 q.1 q.2) = true := by decide +kernel
set_option maxRecDepth 100000 in
theorem ok_X8_copy : (cd_X8_copy).all (fun q => cm_oke 128 q.1 q.2) = true := by decide +kernel
set_option maxRecDepth 100000 in
theorem ok_X8_revert : (cd_X8_revert).all (fun q => cm_oke 129 q.1 q.2) = true := by decide +kernel
end
section
set_option maxRecDepth 100000 in
theorem ok_X8_sync : (cd_X8_sync).all (fun q => cm_oke 130 q.1 q.2) = true := by decide +kernel
set_option maxRecDepth 100000 in
theorem ok_X8_packetsNow : (cd_X8_packetsNow).all (fun q => cm_oke 131 q.1 q.2) = true := by decide +kernel
set_option maxRecDepth 100000 in
theorem ok_X8_canBegin : (cd_X8_canBegin).all (fun q => cm_oke 132 q.1 q.2) = true := by decide +kernel
set_option maxRecDepth 100000 in
theorem ok_X8_writeAll : (cd_X8_writeAll).all (fun q => cm_oke 133 q.1 q.2) = true := by decide +kernel
set_option maxRecDepth 100000 in
theorem ok_X8_mountLast : (cd_X8_mountLast).all (fun q => cm_oke 134 q.1 q.2) = true := by decide +kernel
set_option maxRecDepth 100000 in
theorem ok_X8_tear : (cd_X8_tear).all (fun q => cm_oke 135 q.1 q.2) = true := by decide +kernel
set_option maxRecDepth 100000 in
theorem ok_X8_canTear : (cd_X8_canTear).all (fun q => cm_oke 136 q.1 q.2) = true := by decide +kernel
set_option maxRecDepth 100000 in
theorem ok_X8_writeTorn : (cd_X8_writeTorn).all (fun q => cm_oke 137 q.1 q.2) = true := by decide +kernel
set_option maxRecDepth 100000 in
theorem ok_X8_close : (cd_X8_close).all (fun q => cm_oke 138 q.1 q.2) = true := by decide +kernel
set_option maxRecDepth 100000 in
theorem ok_X8_canClose : (cd_X8_canClose).all (fun q => cm_oke 139 q.1 q.2) = true := by decide +kernel
set_option maxRecDepth 100000 in
theorem ok_X8_closeSession : (cd_X8_closeSession).all (fun q => cm_oke 140 q.1 q.2) = true := by decide +kernel
set_option maxRecDepth 100000 in
theorem ok_X8_mount : (cd_X8_mount).all (fun q => cm_oke 141 q.1 q.2) = true := by decide +kernel
set_option maxRecDepth 100000 in
theorem ok_X8_undo : (cd_X8_undo).all (fun q => cm_oke 142 q.1 q.2) = true := by decide +kernel
set_option maxRecDepth 100000 in
theorem ok_X8_cost : (cd_X8_cost).all (fun q => cm_oke 143 q.1 q.2) = true := by decide +kernel
set_option maxRecDepth 100000 in
theorem ok_X8_apart : (cd_X8_apart).all (fun q => cm_oke 144 q.1 q.2) = true := by decide +kernel
set_option maxRecDepth 100000 in
theorem ok_X8_found : (cd_X8_found).all (fun q => cm_oke 145 q.1 q.2) = true := by decide +kernel
set_option maxRecDepth 100000 in
theorem ok_X8_left : (cd_X8_left).all (fun q => cm_oke 146 q.1 q.2) = true := by decide +kernel
set_option maxRecDepth 100000 in
theorem ok_X8_ends : (cd_X8_ends).all (fun q => cm_oke 147 q.1 q.2) = true := by decide +kernel
set_option maxRecDepth 100000 in
theorem ok_X8_endWith : (cd_X8_endWith).all (fun q => cm_oke 148 q.1 q.2) = true := by decide +kernel
set_option maxRecDepth 100000 in
theorem ok_X8_toPack : (cd_X8_toPack).all (fun q => cm_oke 149 q.1 q.2) = true := by decide +kernel
set_option maxRecDepth 100000 in
theorem ok_X8_blocksBy : (cd_X8_blocksBy).all (fun q => cm_oke 150 q.1 q.2) = true := by decide +kernel
set_option maxRecDepth 100000 in
theorem ok_X8_packetsBy : (cd_X8_packetsBy).all (fun q => cm_oke 151 q.1 q.2) = true := by decide +kernel
set_option maxRecDepth 100000 in
theorem ok_X8_guess : (cd_X8_guess).all (fun q => cm_oke 152 q.1 q.2) = true := by decide +kernel
set_option maxRecDepth 100000 in
theorem ok_X8_storms : (cd_X8_storms).all (fun q => cm_oke 153 q.1 q.2) = true := by decide +kernel
set_option maxRecDepth 100000 in
theorem ok_X8_power : (cd_X8_power).all (fun q => cm_oke 154 q.1 q.2) = true := by decide +kernel
set_option maxRecDepth 100000 in
theorem ok_X8_years : (cd_X8_years).all (fun q => cm_oke 155 q.1 q.2) = true := by decide +kernel
set_option maxRecDepth 100000 in
theorem ok_X8_liveYear : (cd_X8_liveYear).all (fun q => cm_oke 156 q.1 q.2) = true := by decide +kernel
set_option maxRecDepth 100000 in
theorem ok_X8_setDrawn : (cd_X8_setDrawn).all (fun q => cm_oke 157 q.1 q.2) = true := by decide +kernel
set_option maxRecDepth 100000 in
theorem ok_X8_image : (cd_X8_image).all (fun q => cm_oke 158 q.1 q.2) = true := by decide +kernel
set_option maxRecDepth 100000 in
theorem ok_X8_restore : (cd_X8_restore).all (fun q => cm_oke 159 q.1 q.2) = true := by decide +kernel
end
section
set_option maxRecDepth 100000 in
theorem ok_X8_isName : (cd_X8_isName).all (fun q => cm_oke 160 q.1 q.2) = true := by decide +kernel
set_option maxRecDepth 100000 in
theorem ok_X9_init_p0 : (((cd_X9_init).drop 0).take 100).all (fun q => cm_oke 161 q.1 q.2) = true := by decide +kernel
set_option maxRecDepth 100000 in
theorem ok_X9_init_p1 : (((cd_X9_init).drop 100).take 100).all (fun q => cm_oke 161 q.1 q.2) = true := by decide +kernel
set_option maxRecDepth 100000 in
theorem ok_X9_init : (cd_X9_init).all (fun q => cm_oke 161 q.1 q.2) = true := cm_chunks [((cd_X9_init).drop 0).take 100, ((cd_X9_init).drop 100).take 100] rfl (by simp only [List.forall_mem_cons, List.not_mem_nil, false_implies, implies_true, and_true]; exact ⟨ok_X9_init_p0, ok_X9_init_p1⟩)
set_option maxRecDepth 100000 in
theorem ok_X9_thrown : (cd_X9_thrown).all (fun q => cm_oke 162 q.1 q.2) = true := by decide +kernel
set_option maxRecDepth 100000 in
theorem ok_X9_fail : (cd_X9_fail).all (fun q => cm_oke 163 q.1 q.2) = true := by decide +kernel
set_option maxRecDepth 100000 in
theorem ok_X9_isIn : (cd_X9_isIn).all (fun q => cm_oke 164 q.1 q.2) = true := by decide +kernel
set_option maxRecDepth 100000 in
theorem ok_X9_noFiles : (cd_X9_noFiles).all (fun q => cm_oke 165 q.1 q.2) = true := by decide +kernel
set_option maxRecDepth 100000 in
theorem ok_X9_layNothing : (cd_X9_layNothing).all (fun q => cm_oke 166 q.1 q.2) = true := by decide +kernel
set_option maxRecDepth 100000 in
theorem ok_X9_feed : (cd_X9_feed).all (fun q => cm_oke 167 q.1 q.2) = true := by decide +kernel
set_option maxRecDepth 100000 in
theorem ok_X9_byteAt : (cd_X9_byteAt).all (fun q => cm_oke 168 q.1 q.2) = true := by decide +kernel
set_option maxRecDepth 100000 in
theorem ok_X9_isLetter : (cd_X9_isLetter).all (fun q => cm_oke 169 q.1 q.2) = true := by decide +kernel
set_option maxRecDepth 100000 in
theorem ok_X9_isDigit : (cd_X9_isDigit).all (fun q => cm_oke 170 q.1 q.2) = true := by decide +kernel
set_option maxRecDepth 100000 in
theorem ok_X9_stepOn_p0 : (((cd_X9_stepOn).drop 0).take 100).all (fun q => cm_oke 171 q.1 q.2) = true := by decide +kernel
set_option maxRecDepth 100000 in
theorem ok_X9_stepOn_p1 : (((cd_X9_stepOn).drop 100).take 100).all (fun q => cm_oke 171 q.1 q.2) = true := by decide +kernel
set_option maxRecDepth 100000 in
theorem ok_X9_stepOn : (cd_X9_stepOn).all (fun q => cm_oke 171 q.1 q.2) = true := cm_chunks [((cd_X9_stepOn).drop 0).take 100, ((cd_X9_stepOn).drop 100).take 100] rfl (by simp only [List.forall_mem_cons, List.not_mem_nil, false_implies, implies_true, and_true]; exact ⟨ok_X9_stepOn_p0, ok_X9_stepOn_p1⟩)
set_option maxRecDepth 100000 in
theorem ok_X9_wrong : (cd_X9_wrong).all (fun q => cm_oke 172 q.1 q.2) = true := by decide +kernel
set_option maxRecDepth 100000 in
theorem ok_X9_is : (cd_X9_is).all (fun q => cm_oke 173 q.1 q.2) = true := by decide +kernel
set_option maxRecDepth 100000 in
theorem ok_X9_numberNow : (cd_X9_numberNow).all (fun q => cm_oke 174 q.1 q.2) = true := by decide +kernel
set_option maxRecDepth 100000 in
theorem ok_X9_readNumber : (cd_X9_readNumber).all (fun q => cm_oke 175 q.1 q.2) = true := by decide +kernel
set_option maxRecDepth 100000 in
theorem ok_X9_isNumberNext : (cd_X9_isNumberNext).all (fun q => cm_oke 176 q.1 q.2) = true := by decide +kernel
set_option maxRecDepth 100000 in
theorem ok_X9_readDisc : (cd_X9_readDisc).all (fun q => cm_oke 177 q.1 q.2) = true := by decide +kernel
set_option maxRecDepth 100000 in
theorem ok_X9_readBad : (cd_X9_readBad).all (fun q => cm_oke 178 q.1 q.2) = true := by decide +kernel
set_option maxRecDepth 100000 in
theorem ok_X9_readFile : (cd_X9_readFile).all (fun q => cm_oke 179 q.1 q.2) = true := by decide +kernel
set_option maxRecDepth 100000 in
theorem ok_X9_readClause : (cd_X9_readClause).all (fun q => cm_oke 180 q.1 q.2) = true := by decide +kernel
set_option maxRecDepth 100000 in
theorem ok_X9_disc_p0 : (((cd_X9_disc).drop 0).take 100).all (fun q => cm_oke 181 q.1 q.2) = true := by decide +kernel
set_option maxRecDepth 100000 in
theorem ok_X9_disc_p1 : (((cd_X9_disc).drop 100).take 100).all (fun q => cm_oke 181 q.1 q.2) = true := by decide +kernel
set_option maxRecDepth 100000 in
theorem ok_X9_disc : (cd_X9_disc).all (fun q => cm_oke 181 q.1 q.2) = true := cm_chunks [((cd_X9_disc).drop 0).take 100, ((cd_X9_disc).drop 100).take 100] rfl (by simp only [List.forall_mem_cons, List.not_mem_nil, false_implies, implies_true, and_true]; exact ⟨ok_X9_disc_p0, ok_X9_disc_p1⟩)
end
section
set_option maxRecDepth 100000 in
theorem ok_X9_fault : (cd_X9_fault).all (fun q => cm_oke 182 q.1 q.2) = true := by decide +kernel
set_option maxRecDepth 100000 in
theorem ok_X9_isFaulty : (cd_X9_isFaulty).all (fun q => cm_oke 183 q.1 q.2) = true := by decide +kernel
set_option maxRecDepth 100000 in
theorem ok_X9_kindOf : (cd_X9_kindOf).all (fun q => cm_oke 184 q.1 q.2) = true := by decide +kernel
set_option maxRecDepth 100000 in
theorem ok_X9_tellsAt : (cd_X9_tellsAt).all (fun q => cm_oke 185 q.1 q.2) = true := by decide +kernel
set_option maxRecDepth 100000 in
theorem ok_X9_isGood : (cd_X9_isGood).all (fun q => cm_oke 186 q.1 q.2) = true := by decide +kernel
set_option maxRecDepth 100000 in
theorem ok_X9_lastGood : (cd_X9_lastGood).all (fun q => cm_oke 187 q.1 q.2) = true := by decide +kernel
set_option maxRecDepth 100000 in
theorem ok_X9_along : (cd_X9_along).all (fun q => cm_oke 188 q.1 q.2) = true := by decide +kernel
set_option maxRecDepth 100000 in
theorem ok_X9_entryBy : (cd_X9_entryBy).all (fun q => cm_oke 189 q.1 q.2) = true := by decide +kernel
set_option maxRecDepth 100000 in
theorem ok_X9_manyBy : (cd_X9_manyBy).all (fun q => cm_oke 190 q.1 q.2) = true := by decide +kernel
set_option maxRecDepth 100000 in
theorem ok_X9_cellBy : (cd_X9_cellBy).all (fun q => cm_oke 191 q.1 q.2) = true := by decide +kernel
set_option maxRecDepth 100000 in
theorem ok_X9_takeCells : (cd_X9_takeCells).all (fun q => cm_oke 192 q.1 q.2) = true := by decide +kernel
set_option maxRecDepth 100000 in
theorem ok_X9_mountMap : (cd_X9_mountMap).all (fun q => cm_oke 193 q.1 q.2) = true := by decide +kernel
set_option maxRecDepth 100000 in
theorem ok_X9_filesNow : (cd_X9_filesNow).all (fun q => cm_oke 194 q.1 q.2) = true := by decide +kernel
set_option maxRecDepth 100000 in
theorem ok_X9_changedFiles : (cd_X9_changedFiles).all (fun q => cm_oke 195 q.1 q.2) = true := by decide +kernel
set_option maxRecDepth 100000 in
theorem ok_X9_hasChanged : (cd_X9_hasChanged).all (fun q => cm_oke 196 q.1 q.2) = true := by decide +kernel
set_option maxRecDepth 100000 in
theorem ok_X9_newCells : (cd_X9_newCells).all (fun q => cm_oke 197 q.1 q.2) = true := by decide +kernel
set_option maxRecDepth 100000 in
theorem ok_X9_newAll : (cd_X9_newAll).all (fun q => cm_oke 198 q.1 q.2) = true := by decide +kernel
set_option maxRecDepth 100000 in
theorem ok_X9_content : (cd_X9_content).all (fun q => cm_oke 199 q.1 q.2) = true := by decide +kernel
set_option maxRecDepth 100000 in
theorem ok_X9_nameOf : (cd_X9_nameOf).all (fun q => cm_oke 200 q.1 q.2) = true := by decide +kernel
set_option maxRecDepth 100000 in
theorem ok_X9_up : (cd_X9_up).all (fun q => cm_oke 201 q.1 q.2) = true := by decide +kernel
set_option maxRecDepth 100000 in
theorem ok_X9_layContents : (cd_X9_layContents).all (fun q => cm_oke 202 q.1 q.2) = true := by decide +kernel
set_option maxRecDepth 100000 in
theorem ok_X9_placeOf : (cd_X9_placeOf).all (fun q => cm_oke 203 q.1 q.2) = true := by decide +kernel
set_option maxRecDepth 100000 in
theorem ok_X9_putBody_p0 : (((cd_X9_putBody).drop 0).take 100).all (fun q => cm_oke 204 q.1 q.2) = true := by decide +kernel
set_option maxRecDepth 100000 in
theorem ok_X9_putBody_p1 : (((cd_X9_putBody).drop 100).take 100).all (fun q => cm_oke 204 q.1 q.2) = true := by decide +kernel
set_option maxRecDepth 100000 in
theorem ok_X9_putBody_p2 : (((cd_X9_putBody).drop 200).take 100).all (fun q => cm_oke 204 q.1 q.2) = true := by decide +kernel
set_option maxRecDepth 100000 in
theorem ok_X9_putBody : (cd_X9_putBody).all (fun q => cm_oke 204 q.1 q.2) = true := cm_chunks [((cd_X9_putBody).drop 0).take 100, ((cd_X9_putBody).drop 100).take 100, ((cd_X9_putBody).drop 200).take 100] rfl (by simp only [List.forall_mem_cons, List.not_mem_nil, false_implies, implies_true, and_true]; exact ⟨ok_X9_putBody_p0, ok_X9_putBody_p1, ok_X9_putBody_p2⟩)
set_option maxRecDepth 100000 in
theorem ok_X9_canBegin : (cd_X9_canBegin).all (fun q => cm_oke 205 q.1 q.2) = true := by decide +kernel
set_option maxRecDepth 100000 in
theorem ok_X9_isTorn : (cd_X9_isTorn).all (fun q => cm_oke 206 q.1 q.2) = true := by decide +kernel
set_option maxRecDepth 100000 in
theorem ok_X9_putBlock : (cd_X9_putBlock).all (fun q => cm_oke 207 q.1 q.2) = true := by decide +kernel
set_option maxRecDepth 100000 in
theorem ok_X9_writePacket_p0 : (((cd_X9_writePacket).drop 0).take 100).all (fun q => cm_oke 208 q.1 q.2) = true := by decide +kernel
set_option maxRecDepth 100000 in
theorem ok_X9_writePacket_p1 : (((cd_X9_writePacket).drop 100).take 100).all (fun q => cm_oke 208 q.1 q.2) = true := by decide +kernel
set_option maxRecDepth 100000 in
theorem ok_X9_writePacket : (cd_X9_writePacket).all (fun q => cm_oke 208 q.1 q.2) = true := cm_chunks [((cd_X9_writePacket).drop 0).take 100, ((cd_X9_writePacket).drop 100).take 100] rfl (by simp only [List.forall_mem_cons, List.not_mem_nil, false_implies, implies_true, and_true]; exact ⟨ok_X9_writePacket_p0, ok_X9_writePacket_p1⟩)
end
section
set_option maxRecDepth 100000 in
theorem ok_X9_writeAll : (cd_X9_writeAll).all (fun q => cm_oke 209 q.1 q.2) = true := by decide +kernel
set_option maxRecDepth 100000 in
theorem ok_X9_commit : (cd_X9_commit).all (fun q => cm_oke 210 q.1 q.2) = true := by decide +kernel
set_option maxRecDepth 100000 in
theorem ok_X9_syncNow : (cd_X9_syncNow).all (fun q => cm_oke 211 q.1 q.2) = true := by decide +kernel
set_option maxRecDepth 100000 in
theorem ok_X9_wouldWrite : (cd_X9_wouldWrite).all (fun q => cm_oke 212 q.1 q.2) = true := by decide +kernel
set_option maxRecDepth 100000 in
theorem ok_X9_tearNow : (cd_X9_tearNow).all (fun q => cm_oke 213 q.1 q.2) = true := by decide +kernel
set_option maxRecDepth 100000 in
theorem ok_X9_meet : (cd_X9_meet).all (fun q => cm_oke 214 q.1 q.2) = true := by decide +kernel
set_option maxRecDepth 100000 in
theorem ok_X9_goodMaps : (cd_X9_goodMaps).all (fun q => cm_oke 215 q.1 q.2) = true := by decide +kernel
set_option maxRecDepth 100000 in
theorem ok_X9_chain : (cd_X9_chain).all (fun q => cm_oke 216 q.1 q.2) = true := by decide +kernel
set_option maxRecDepth 100000 in
theorem ok_X9_dead : (cd_X9_dead).all (fun q => cm_oke 217 q.1 q.2) = true := by decide +kernel
set_option maxRecDepth 100000 in
theorem ok_X9_badMany : (cd_X9_badMany).all (fun q => cm_oke 218 q.1 q.2) = true := by decide +kernel
set_option maxRecDepth 100000 in
theorem ok_X9_count : (cd_X9_count).all (fun q => cm_oke 219 q.1 q.2) = true := by decide +kernel
set_option maxRecDepth 100000 in
theorem ok_X9_isBlock : (cd_X9_isBlock).all (fun q => cm_oke 220 q.1 q.2) = true := by decide +kernel
set_option maxRecDepth 100000 in
theorem ok_X9_block : (cd_X9_block).all (fun q => cm_oke 221 q.1 q.2) = true := by decide +kernel
set_option maxRecDepth 100000 in
theorem ok_X9_tells : (cd_X9_tells).all (fun q => cm_oke 222 q.1 q.2) = true := by decide +kernel
set_option maxRecDepth 100000 in
theorem ok_X9_isName : (cd_X9_isName).all (fun q => cm_oke 223 q.1 q.2) = true := by decide +kernel
set_option maxRecDepth 100000 in
theorem ok_X9_isFile : (cd_X9_isFile).all (fun q => cm_oke 224 q.1 q.2) = true := by decide +kernel
set_option maxRecDepth 100000 in
theorem ok_X9_file : (cd_X9_file).all (fun q => cm_oke 225 q.1 q.2) = true := by decide +kernel
set_option maxRecDepth 100000 in
theorem ok_X9_read : (cd_X9_read).all (fun q => cm_oke 226 q.1 q.2) = true := by decide +kernel
set_option maxRecDepth 100000 in
theorem ok_X9_whereOf : (cd_X9_whereOf).all (fun q => cm_oke 227 q.1 q.2) = true := by decide +kernel
set_option maxRecDepth 100000 in
theorem ok_X9_lie : (cd_X9_lie).all (fun q => cm_oke 228 q.1 q.2) = true := by decide +kernel
set_option maxRecDepth 100000 in
theorem ok_X9_mapBack : (cd_X9_mapBack).all (fun q => cm_oke 229 q.1 q.2) = true := by decide +kernel
set_option maxRecDepth 100000 in
theorem ok_X9_past : (cd_X9_past).all (fun q => cm_oke 230 q.1 q.2) = true := by decide +kernel
set_option maxRecDepth 100000 in
theorem ok_X9_areAlike : (cd_X9_areAlike).all (fun q => cm_oke 231 q.1 q.2) = true := by decide +kernel
end
section
set_option maxRecDepth 100000 in
theorem ok_X9_versions : (cd_X9_versions).all (fun q => cm_oke 232 q.1 q.2) = true := by decide +kernel
set_option maxRecDepth 100000 in
theorem ok_X9_since : (cd_X9_since).all (fun q => cm_oke 233 q.1 q.2) = true := by decide +kernel
set_option maxRecDepth 100000 in
theorem ok_X9_isAsInMind : (cd_X9_isAsInMind).all (fun q => cm_oke 234 q.1 q.2) = true := by decide +kernel
set_option maxRecDepth 100000 in
theorem ok_X9_alike : (cd_X9_alike).all (fun q => cm_oke 235 q.1 q.2) = true := by decide +kernel
set_option maxRecDepth 100000 in
theorem ok_X9_refuse : (cd_X9_refuse).all (fun q => cm_oke 236 q.1 q.2) = true := by decide +kernel
set_option maxRecDepth 100000 in
theorem ok_X9_copyTo : (cd_X9_copyTo).all (fun q => cm_oke 237 q.1 q.2) = true := by decide +kernel
set_option maxRecDepth 100000 in
theorem ok_X9_keep : (cd_X9_keep).all (fun q => cm_oke 238 q.1 q.2) = true := by decide +kernel
set_option maxRecDepth 100000 in
theorem ok_X9_freeVirtual : (cd_X9_freeVirtual).all (fun q => cm_oke 239 q.1 q.2) = true := by decide +kernel
set_option maxRecDepth 100000 in
theorem ok_X9_canSet : (cd_X9_canSet).all (fun q => cm_oke 240 q.1 q.2) = true := by decide +kernel
set_option maxRecDepth 100000 in
theorem ok_X9_beginFile : (cd_X9_beginFile).all (fun q => cm_oke 241 q.1 q.2) = true := by decide +kernel
set_option maxRecDepth 100000 in
theorem ok_X9_setNow : (cd_X9_setNow).all (fun q => cm_oke 242 q.1 q.2) = true := by decide +kernel
set_option maxRecDepth 100000 in
theorem ok_X9_set : (cd_X9_set).all (fun q => cm_oke 243 q.1 q.2) = true := by decide +kernel
set_option maxRecDepth 100000 in
theorem ok_X9_cut : (cd_X9_cut).all (fun q => cm_oke 244 q.1 q.2) = true := by decide +kernel
set_option maxRecDepth 100000 in
theorem ok_X9_eraseNow : (cd_X9_eraseNow).all (fun q => cm_oke 245 q.1 q.2) = true := by decide +kernel
set_option maxRecDepth 100000 in
theorem ok_X9_erase : (cd_X9_erase).all (fun q => cm_oke 246 q.1 q.2) = true := by decide +kernel
set_option maxRecDepth 100000 in
theorem ok_X9_canName : (cd_X9_canName).all (fun q => cm_oke 247 q.1 q.2) = true := by decide +kernel
set_option maxRecDepth 100000 in
theorem ok_X9_likeCells : (cd_X9_likeCells).all (fun q => cm_oke 248 q.1 q.2) = true := by decide +kernel
set_option maxRecDepth 100000 in
theorem ok_X9_rename : (cd_X9_rename).all (fun q => cm_oke 249 q.1 q.2) = true := by decide +kernel
set_option maxRecDepth 100000 in
theorem ok_X9_copy : (cd_X9_copy).all (fun q => cm_oke 250 q.1 q.2) = true := by decide +kernel
set_option maxRecDepth 100000 in
theorem ok_X9_revert : (cd_X9_revert).all (fun q => cm_oke 251 q.1 q.2) = true := by decide +kernel
set_option maxRecDepth 100000 in
theorem ok_X9_sync : (cd_X9_sync).all (fun q => cm_oke 252 q.1 q.2) = true := by decide +kernel
set_option maxRecDepth 100000 in
theorem ok_X9_tear : (cd_X9_tear).all (fun q => cm_oke 253 q.1 q.2) = true := by decide +kernel
end
section
set_option maxRecDepth 100000 in
theorem ok_X9_canClose : (cd_X9_canClose).all (fun q => cm_oke 254 q.1 q.2) = true := by decide +kernel
set_option maxRecDepth 100000 in
theorem ok_X9_closeNow : (cd_X9_closeNow).all (fun q => cm_oke 255 q.1 q.2) = true := by decide +kernel
set_option maxRecDepth 100000 in
theorem ok_X9_close : (cd_X9_close).all (fun q => cm_oke 256 q.1 q.2) = true := by decide +kernel
set_option maxRecDepth 100000 in
theorem ok_X9_mount : (cd_X9_mount).all (fun q => cm_oke 257 q.1 q.2) = true := by decide +kernel
set_option maxRecDepth 100000 in
theorem ok_X9_undo : (cd_X9_undo).all (fun q => cm_oke 258 q.1 q.2) = true := by decide +kernel
set_option maxRecDepth 100000 in
theorem ok_X9_costOf : (cd_X9_costOf).all (fun q => cm_oke 259 q.1 q.2) = true := by decide +kernel
set_option maxRecDepth 100000 in
theorem ok_X9_things : (cd_X9_things).all (fun q => cm_oke 260 q.1 q.2) = true := by decide +kernel
set_option maxRecDepth 100000 in
theorem ok_X9_cost : (cd_X9_cost).all (fun q => cm_oke 261 q.1 q.2) = true := by decide +kernel
set_option maxRecDepth 100000 in
theorem ok_X9_apart : (cd_X9_apart).all (fun q => cm_oke 262 q.1 q.2) = true := by decide +kernel
set_option maxRecDepth 100000 in
theorem ok_X9_found : (cd_X9_found).all (fun q => cm_oke 263 q.1 q.2) = true := by decide +kernel
set_option maxRecDepth 100000 in
theorem ok_X9_left : (cd_X9_left).all (fun q => cm_oke 264 q.1 q.2) = true := by decide +kernel
set_option maxRecDepth 100000 in
theorem ok_X9_endsNow : (cd_X9_endsNow).all (fun q => cm_oke 265 q.1 q.2) = true := by decide +kernel
set_option maxRecDepth 100000 in
theorem ok_X9_ends : (cd_X9_ends).all (fun q => cm_oke 266 q.1 q.2) = true := by decide +kernel
set_option maxRecDepth 100000 in
theorem ok_X9_toPack : (cd_X9_toPack).all (fun q => cm_oke 267 q.1 q.2) = true := by decide +kernel
set_option maxRecDepth 100000 in
theorem ok_X9_guess : (cd_X9_guess).all (fun q => cm_oke 268 q.1 q.2) = true := by decide +kernel
set_option maxRecDepth 100000 in
theorem ok_X9_powerOf : (cd_X9_powerOf).all (fun q => cm_oke 269 q.1 q.2) = true := by decide +kernel
set_option maxRecDepth 100000 in
theorem ok_X9_storms : (cd_X9_storms).all (fun q => cm_oke 270 q.1 q.2) = true := by decide +kernel
set_option maxRecDepth 100000 in
theorem ok_X9_draw : (cd_X9_draw).all (fun q => cm_oke 271 q.1 q.2) = true := by decide +kernel
set_option maxRecDepth 100000 in
theorem ok_X9_happen : (cd_X9_happen).all (fun q => cm_oke 272 q.1 q.2) = true := by decide +kernel
set_option maxRecDepth 100000 in
theorem ok_X9_years : (cd_X9_years).all (fun q => cm_oke 273 q.1 q.2) = true := by decide +kernel
set_option maxRecDepth 100000 in
theorem ok_X9_image : (cd_X9_image).all (fun q => cm_oke 274 q.1 q.2) = true := by decide +kernel
set_option maxRecDepth 100000 in
theorem ok_X9_restore : (cd_X9_restore).all (fun q => cm_oke 275 q.1 q.2) = true := by decide +kernel
set_option maxRecDepth 100000 in
theorem ok_L_disc : (cd_L_disc).all (fun q => cm_oke 276 q.1 q.2) = true := by decide +kernel
set_option maxRecDepth 100000 in
theorem ok_L_count : (cd_L_count).all (fun q => cm_oke 277 q.1 q.2) = true := by decide +kernel
set_option maxRecDepth 100000 in
theorem ok_L_block : (cd_L_block).all (fun q => cm_oke 278 q.1 q.2) = true := by decide +kernel
end
section
set_option maxRecDepth 100000 in
theorem ok_L_tells : (cd_L_tells).all (fun q => cm_oke 279 q.1 q.2) = true := by decide +kernel
set_option maxRecDepth 100000 in
theorem ok_L_file : (cd_L_file).all (fun q => cm_oke 280 q.1 q.2) = true := by decide +kernel
set_option maxRecDepth 100000 in
theorem ok_L_lie : (cd_L_lie).all (fun q => cm_oke 281 q.1 q.2) = true := by decide +kernel
set_option maxRecDepth 100000 in
theorem ok_L_read : (cd_L_read).all (fun q => cm_oke 282 q.1 q.2) = true := by decide +kernel
set_option maxRecDepth 100000 in
theorem ok_L_past : (cd_L_past).all (fun q => cm_oke 283 q.1 q.2) = true := by decide +kernel
set_option maxRecDepth 100000 in
theorem ok_L_versions : (cd_L_versions).all (fun q => cm_oke 284 q.1 q.2) = true := by decide +kernel
set_option maxRecDepth 100000 in
theorem ok_L_since : (cd_L_since).all (fun q => cm_oke 285 q.1 q.2) = true := by decide +kernel
set_option maxRecDepth 100000 in
theorem ok_L_alike : (cd_L_alike).all (fun q => cm_oke 286 q.1 q.2) = true := by decide +kernel
set_option maxRecDepth 100000 in
theorem ok_L_cost : (cd_L_cost).all (fun q => cm_oke 287 q.1 q.2) = true := by decide +kernel
set_option maxRecDepth 100000 in
theorem ok_L_found : (cd_L_found).all (fun q => cm_oke 288 q.1 q.2) = true := by decide +kernel
set_option maxRecDepth 100000 in
theorem ok_L_toPack : (cd_L_toPack).all (fun q => cm_oke 289 q.1 q.2) = true := by decide +kernel
set_option maxRecDepth 100000 in
theorem ok_L_guess : (cd_L_guess).all (fun q => cm_oke 290 q.1 q.2) = true := by decide +kernel
set_option maxRecDepth 100000 in
theorem ok_L_storms : (cd_L_storms).all (fun q => cm_oke 291 q.1 q.2) = true := by decide +kernel
set_option maxRecDepth 100000 in
theorem ok_L_years : (cd_L_years).all (fun q => cm_oke 292 q.1 q.2) = true := by decide +kernel
set_option maxRecDepth 100000 in
theorem ok_L_law_p0 : (((cd_L_law).drop 0).take 100).all (fun q => cm_oke 293 q.1 q.2) = true := by decide +kernel
set_option maxRecDepth 100000 in
theorem ok_L_law_p1 : (((cd_L_law).drop 100).take 100).all (fun q => cm_oke 293 q.1 q.2) = true := by decide +kernel
set_option maxRecDepth 100000 in
theorem ok_L_law_p2 : (((cd_L_law).drop 200).take 100).all (fun q => cm_oke 293 q.1 q.2) = true := by decide +kernel
set_option maxRecDepth 100000 in
theorem ok_L_law_p3 : (((cd_L_law).drop 300).take 100).all (fun q => cm_oke 293 q.1 q.2) = true := by decide +kernel
set_option maxRecDepth 100000 in
theorem ok_L_law_p4 : (((cd_L_law).drop 400).take 100).all (fun q => cm_oke 293 q.1 q.2) = true := by decide +kernel
set_option maxRecDepth 100000 in
theorem ok_L_law_p5 : (((cd_L_law).drop 500).take 100).all (fun q => cm_oke 293 q.1 q.2) = true := by decide +kernel
set_option maxRecDepth 100000 in
theorem ok_L_law_p6 : (((cd_L_law).drop 600).take 100).all (fun q => cm_oke 293 q.1 q.2) = true := by decide +kernel
set_option maxRecDepth 100000 in
theorem ok_L_law_p7 : (((cd_L_law).drop 700).take 100).all (fun q => cm_oke 293 q.1 q.2) = true := by decide +kernel
set_option maxRecDepth 100000 in
theorem ok_L_law_p8 : (((cd_L_law).drop 800).take 100).all (fun q => cm_oke 293 q.1 q.2) = true := by decide +kernel
set_option maxRecDepth 100000 in
theorem ok_L_law_p9 : (((cd_L_law).drop 900).take 100).all (fun q => cm_oke 293 q.1 q.2) = true := by decide +kernel
set_option maxRecDepth 100000 in
theorem ok_L_law_p10 : (((cd_L_law).drop 1000).take 100).all (fun q => cm_oke 293 q.1 q.2) = true := by decide +kernel
set_option maxRecDepth 100000 in
theorem ok_L_law : (cd_L_law).all (fun q => cm_oke 293 q.1 q.2) = true := cm_chunks [((cd_L_law).drop 0).take 100, ((cd_L_law).drop 100).take 100, ((cd_L_law).drop 200).take 100, ((cd_L_law).drop 300).take 100, ((cd_L_law).drop 400).take 100, ((cd_L_law).drop 500).take 100, ((cd_L_law).drop 600).take 100, ((cd_L_law).drop 700).take 100, ((cd_L_law).drop 800).take 100, ((cd_L_law).drop 900).take 100, ((cd_L_law).drop 1000).take 100] rfl (by simp only [List.forall_mem_cons, List.not_mem_nil, false_implies, implies_true, and_true]; exact ⟨ok_L_law_p0, ok_L_law_p1, ok_L_law_p2, ok_L_law_p3, ok_L_law_p4, ok_L_law_p5, ok_L_law_p6, ok_L_law_p7, ok_L_law_p8, ok_L_law_p9, ok_L_law_p10⟩)
end
section
set_option maxRecDepth 100000 in
theorem ok_J7_fill_53178 : (cd_J7_fill_53178).all (fun q => cm_oke 294 q.1 q.2) = true := by decide +kernel
end
section
set_option maxRecDepth 100000 in
theorem cm_okall_0 : ∀ y, y < 25 → (cm_cd y).all (fun q => cm_oke y q.1 q.2) = true := lt_s (lt_s (lt_s (lt_s (lt_s (lt_s (lt_s (lt_s (lt_s (lt_s (lt_s (lt_s (lt_s (lt_s (lt_s (lt_s (lt_s (lt_s (lt_s (lt_s (lt_s (lt_s (lt_s (lt_s (lt_s (lt_0) (ok_X0_init)) (ok_X0_forget)) (ok_X0_keep)) (ok_X0_takeBack)) (ok_X0_takeFrom)) (ok_X1_init)) (ok_X1_plan)) (ok_X1_addFile)) (ok_X1_add)) (ok_X1_lay)) (ok_X1_placePacket)) (ok_X1_writeBlock)) (ok_X1_writeEntry)) (ok_X1_writeDirectory)) (ok_X1_writeMap)) (ok_X2_init)) (ok_X2_takeOver)) (ok_X2_takeBlocks)) (ok_X2_isBlock)) (ok_X2_isFaulty)) (ok_X2_hasFaulty)) (ok_X2_kindOf)) (ok_X2_lengthOf)) (ok_X2_toldBy)) (ok_X2_write)
set_option maxRecDepth 100000 in
theorem cm_okall_1 : ∀ y, y < 50 → (cm_cd y).all (fun q => cm_oke y q.1 q.2) = true := lt_s (lt_s (lt_s (lt_s (lt_s (lt_s (lt_s (lt_s (lt_s (lt_s (lt_s (lt_s (lt_s (lt_s (lt_s (lt_s (lt_s (lt_s (lt_s (lt_s (lt_s (lt_s (lt_s (lt_s (lt_s (cm_okall_0) (ok_X2_tell)) (ok_X2_packetsFor)) (ok_X2_costOf)) (ok_X2_hasRoomForPacket)) (ok_X2_wouldSpare)) (ok_X2_foresee)) (ok_X2_isGoodMap)) (ok_X2_lastGoodMap)) (ok_X2_goodMaps)) (ok_X2_mapAlong)) (ok_X2_mapsAlong)) (ok_X2_entryBy)) (ok_X2_numberBy)) (ok_X2_tellAlike)) (ok_X2_reach)) (ok_X2_reachBlock)) (ok_X2_mapsReaching)) (ok_X2_deadBlocks)) (ok_X2_badBlocks)) (ok_X3_init)) (ok_X3_draw)) (ok_X4_init)) (ok_X5_init)) (ok_X5_readText)) (ok_X5_forgetAll)
set_option maxRecDepth 100000 in
theorem cm_okall_2 : ∀ y, y < 75 → (cm_cd y).all (fun q => cm_oke y q.1 q.2) = true := lt_s (lt_s (lt_s (lt_s (lt_s (lt_s (lt_s (lt_s (lt_s (lt_s (lt_s (lt_s (lt_s (lt_s (lt_s (lt_s (lt_s (lt_s (lt_s (lt_s (lt_s (lt_s (lt_s (lt_s (lt_s (cm_okall_1) (ok_X5_readClause)) (ok_X5_fail)) (ok_X5_readSemicolon)) (ok_X5_readDisc)) (ok_X5_readNumber)) (ok_X5_isFit)) (ok_X5_readBad)) (ok_X5_readBadBlock)) (ok_X5_readFile)) (ok_X5_isTold)) (ok_X5_readCell)) (ok_X6_init)) (ok_X6_takeFrom)) (ok_X6_takeOver)) (ok_X6_dropFiles)) (ok_X6_settleChanges)) (ok_X6_settle)) (ok_X6_mountMap)) (ok_X6_takeCells)) (ok_X6_putCell)) (ok_X6_has)) (ok_X6_blockOf)) (ok_X6_numberOf)) (ok_X6_entryOf)) (ok_X6_nameOf)
set_option maxRecDepth 100000 in
theorem cm_okall_3 : ∀ y, y < 100 → (cm_cd y).all (fun q => cm_oke y q.1 q.2) = true := lt_s (lt_s (lt_s (lt_s (lt_s (lt_s (lt_s (lt_s (lt_s (lt_s (lt_s (lt_s (lt_s (lt_s (lt_s (lt_s (lt_s (lt_s (lt_s (lt_s (lt_s (lt_s (lt_s (lt_s (lt_s (cm_okall_2) (ok_X6_freeVirtual)) (ok_X6_fileCount)) (ok_X6_changedCount)) (ok_X6_anyChanged)) (ok_X6_newCells)) (ok_X6_newCount)) (ok_X6_contentCount)) (ok_X6_canSet)) (ok_X6_setCell)) (ok_X6_beginFile)) (ok_X6_eraseFile)) (ok_X6_forget)) (ok_X6_canGoTo)) (ok_X6_renameFile)) (ok_X6_copyFile)) (ok_X6_copyCells)) (ok_X6_isLike)) (ok_X6_runs)) (ok_X6_farthest)) (ok_X7_init)) (ok_X7_begin)) (ok_X7_advance)) (ok_X7_endOfRow)) (ok_X7_takeValue)) (ok_X7_isWord)
set_option maxRecDepth 100000 in
theorem cm_okall_4 : ∀ y, y < 125 → (cm_cd y).all (fun q => cm_oke y q.1 q.2) = true := lt_s (lt_s (lt_s (lt_s (lt_s (lt_s (lt_s (lt_s (lt_s (lt_s (lt_s (lt_s (lt_s (lt_s (lt_s (lt_s (lt_s (lt_s (lt_s (lt_s (lt_s (lt_s (lt_s (lt_s (lt_s (cm_okall_3) (ok_X8_init)) (ok_X8_feed)) (ok_X8_feedNumber)) (ok_X8_disc)) (ok_X8_beginAnew)) (ok_X8_fault)) (ok_X8_count)) (ok_X8_block)) (ok_X8_tells)) (ok_X8_checkBlock)) (ok_X8_checkWhat)) (ok_X8_file)) (ok_X8_lie)) (ok_X8_read)) (ok_X8_checkFile)) (ok_X8_past)) (ok_X8_mapOrThrow)) (ok_X8_checkName)) (ok_X8_checkCell)) (ok_X8_versions)) (ok_X8_isLikeOneOf)) (ok_X8_since)) (ok_X8_alike)) (ok_X8_set)) (ok_X8_refuse)
set_option maxRecDepth 100000 in
theorem cm_okall_5 : ∀ y, y < 150 → (cm_cd y).all (fun q => cm_oke y q.1 q.2) = true := lt_s (lt_s (lt_s (lt_s (lt_s (lt_s (lt_s (lt_s (lt_s (lt_s (lt_s (lt_s (lt_s (lt_s (lt_s (lt_s (lt_s (lt_s (lt_s (lt_s (lt_s (lt_s (lt_s (lt_s (lt_s (cm_okall_4) (ok_X8_cut)) (ok_X8_erase)) (ok_X8_rename)) (ok_X8_copy)) (ok_X8_revert)) (ok_X8_sync)) (ok_X8_packetsNow)) (ok_X8_canBegin)) (ok_X8_writeAll)) (ok_X8_mountLast)) (ok_X8_tear)) (ok_X8_canTear)) (ok_X8_writeTorn)) (ok_X8_close)) (ok_X8_canClose)) (ok_X8_closeSession)) (ok_X8_mount)) (ok_X8_undo)) (ok_X8_cost)) (ok_X8_apart)) (ok_X8_found)) (ok_X8_left)) (ok_X8_ends)) (ok_X8_endWith)) (ok_X8_toPack)
set_option maxRecDepth 100000 in
theorem cm_okall_6 : ∀ y, y < 175 → (cm_cd y).all (fun q => cm_oke y q.1 q.2) = true := lt_s (lt_s (lt_s (lt_s (lt_s (lt_s (lt_s (lt_s (lt_s (lt_s (lt_s (lt_s (lt_s (lt_s (lt_s (lt_s (lt_s (lt_s (lt_s (lt_s (lt_s (lt_s (lt_s (lt_s (lt_s (cm_okall_5) (ok_X8_blocksBy)) (ok_X8_packetsBy)) (ok_X8_guess)) (ok_X8_storms)) (ok_X8_power)) (ok_X8_years)) (ok_X8_liveYear)) (ok_X8_setDrawn)) (ok_X8_image)) (ok_X8_restore)) (ok_X8_isName)) (ok_X9_init)) (ok_X9_thrown)) (ok_X9_fail)) (ok_X9_isIn)) (ok_X9_noFiles)) (ok_X9_layNothing)) (ok_X9_feed)) (ok_X9_byteAt)) (ok_X9_isLetter)) (ok_X9_isDigit)) (ok_X9_stepOn)) (ok_X9_wrong)) (ok_X9_is)) (ok_X9_numberNow)
set_option maxRecDepth 100000 in
theorem cm_okall_7 : ∀ y, y < 200 → (cm_cd y).all (fun q => cm_oke y q.1 q.2) = true := lt_s (lt_s (lt_s (lt_s (lt_s (lt_s (lt_s (lt_s (lt_s (lt_s (lt_s (lt_s (lt_s (lt_s (lt_s (lt_s (lt_s (lt_s (lt_s (lt_s (lt_s (lt_s (lt_s (lt_s (lt_s (cm_okall_6) (ok_X9_readNumber)) (ok_X9_isNumberNext)) (ok_X9_readDisc)) (ok_X9_readBad)) (ok_X9_readFile)) (ok_X9_readClause)) (ok_X9_disc)) (ok_X9_fault)) (ok_X9_isFaulty)) (ok_X9_kindOf)) (ok_X9_tellsAt)) (ok_X9_isGood)) (ok_X9_lastGood)) (ok_X9_along)) (ok_X9_entryBy)) (ok_X9_manyBy)) (ok_X9_cellBy)) (ok_X9_takeCells)) (ok_X9_mountMap)) (ok_X9_filesNow)) (ok_X9_changedFiles)) (ok_X9_hasChanged)) (ok_X9_newCells)) (ok_X9_newAll)) (ok_X9_content)
set_option maxRecDepth 100000 in
theorem cm_okall_8 : ∀ y, y < 225 → (cm_cd y).all (fun q => cm_oke y q.1 q.2) = true := lt_s (lt_s (lt_s (lt_s (lt_s (lt_s (lt_s (lt_s (lt_s (lt_s (lt_s (lt_s (lt_s (lt_s (lt_s (lt_s (lt_s (lt_s (lt_s (lt_s (lt_s (lt_s (lt_s (lt_s (lt_s (cm_okall_7) (ok_X9_nameOf)) (ok_X9_up)) (ok_X9_layContents)) (ok_X9_placeOf)) (ok_X9_putBody)) (ok_X9_canBegin)) (ok_X9_isTorn)) (ok_X9_putBlock)) (ok_X9_writePacket)) (ok_X9_writeAll)) (ok_X9_commit)) (ok_X9_syncNow)) (ok_X9_wouldWrite)) (ok_X9_tearNow)) (ok_X9_meet)) (ok_X9_goodMaps)) (ok_X9_chain)) (ok_X9_dead)) (ok_X9_badMany)) (ok_X9_count)) (ok_X9_isBlock)) (ok_X9_block)) (ok_X9_tells)) (ok_X9_isName)) (ok_X9_isFile)
set_option maxRecDepth 100000 in
theorem cm_okall_9 : ∀ y, y < 250 → (cm_cd y).all (fun q => cm_oke y q.1 q.2) = true := lt_s (lt_s (lt_s (lt_s (lt_s (lt_s (lt_s (lt_s (lt_s (lt_s (lt_s (lt_s (lt_s (lt_s (lt_s (lt_s (lt_s (lt_s (lt_s (lt_s (lt_s (lt_s (lt_s (lt_s (lt_s (cm_okall_8) (ok_X9_file)) (ok_X9_read)) (ok_X9_whereOf)) (ok_X9_lie)) (ok_X9_mapBack)) (ok_X9_past)) (ok_X9_areAlike)) (ok_X9_versions)) (ok_X9_since)) (ok_X9_isAsInMind)) (ok_X9_alike)) (ok_X9_refuse)) (ok_X9_copyTo)) (ok_X9_keep)) (ok_X9_freeVirtual)) (ok_X9_canSet)) (ok_X9_beginFile)) (ok_X9_setNow)) (ok_X9_set)) (ok_X9_cut)) (ok_X9_eraseNow)) (ok_X9_erase)) (ok_X9_canName)) (ok_X9_likeCells)) (ok_X9_rename)
set_option maxRecDepth 100000 in
theorem cm_okall_10 : ∀ y, y < 275 → (cm_cd y).all (fun q => cm_oke y q.1 q.2) = true := lt_s (lt_s (lt_s (lt_s (lt_s (lt_s (lt_s (lt_s (lt_s (lt_s (lt_s (lt_s (lt_s (lt_s (lt_s (lt_s (lt_s (lt_s (lt_s (lt_s (lt_s (lt_s (lt_s (lt_s (lt_s (cm_okall_9) (ok_X9_copy)) (ok_X9_revert)) (ok_X9_sync)) (ok_X9_tear)) (ok_X9_canClose)) (ok_X9_closeNow)) (ok_X9_close)) (ok_X9_mount)) (ok_X9_undo)) (ok_X9_costOf)) (ok_X9_things)) (ok_X9_cost)) (ok_X9_apart)) (ok_X9_found)) (ok_X9_left)) (ok_X9_endsNow)) (ok_X9_ends)) (ok_X9_toPack)) (ok_X9_guess)) (ok_X9_powerOf)) (ok_X9_storms)) (ok_X9_draw)) (ok_X9_happen)) (ok_X9_years)) (ok_X9_image)
set_option maxRecDepth 100000 in
theorem cm_okall_11 : ∀ y, y < 295 → (cm_cd y).all (fun q => cm_oke y q.1 q.2) = true := lt_s (lt_s (lt_s (lt_s (lt_s (lt_s (lt_s (lt_s (lt_s (lt_s (lt_s (lt_s (lt_s (lt_s (lt_s (lt_s (lt_s (lt_s (lt_s (lt_s (cm_okall_10) (ok_X9_restore)) (ok_L_disc)) (ok_L_count)) (ok_L_block)) (ok_L_tells)) (ok_L_file)) (ok_L_lie)) (ok_L_read)) (ok_L_past)) (ok_L_versions)) (ok_L_since)) (ok_L_alike)) (ok_L_cost)) (ok_L_found)) (ok_L_toPack)) (ok_L_guess)) (ok_L_storms)) (ok_L_years)) (ok_L_law)) (ok_J7_fill_53178)
end
section
set_option maxRecDepth 100000 in
/-- methods with handlers are called by the law alone -/
theorem cm_hcall : ∀ y, y < 295 → y ≠ 293 → (cm_cd y).all (fun q => match q.2.2.2.1 == 0 with
  | true => (cm_hs q.2.2.2.2.1).isEmpty || !(match q.2.1 with
    | .invokestatic _ => true
    | _ => false)
  | false => true) = true := by decide +kernel
set_option maxRecDepth 100000 in
/-- no text comes by ldc_w -/
theorem cm_noldcw : ∀ y, y < 295 → (cm_cd y).all (fun q => match q.2.1 with
  | .ldc_w _ => !(q.2.2.2.1 == 1)
  | _ => true) = true := by decide +kernel
end
section
/-! ===== BEGIN a constructor that throws (launches without stack traces) ===== -/
section VXIA
variable {p : Program} {l : Launch} {e : Env} {R : Room} {s : State} {m : MethodId} {args : Array Value} {below : List Frame} {meth : Method} {c : Code} {T : State} {locs : List Loc} {cells slots : Nat}
theorem vx_callI (X : Stand p l e R s m args below meth c T locs cells slots) (hexec : p.tables.exec = Jvm.exec) {own : String} {index : Nat} {y : MethodName} {bytes : ByteArray} {maxL : Nat}
    (hown : s.vm.findClass own = some m.cls) (hy1 : y.name = "<init>") (hlink : (Cond.methodLink own index y).before args s = true) (hinst : (Cond.instanceMethod y).before args s = true)
    (hcode : (Cond.code y bytes maxL none).before args s = true) (hy : y.cls ≠ "java/lang/invoke/MethodHandle" ∧ y.cls ≠ "java/lang/invoke/VarHandle")
    {W9 : Nat} {Pre : Pt → Array Value → Prop} {Post : Pt → Array Value → Option Value → Pt → Prop} {PostX : Pt → Array Value → Addr → Pt → Prop} (hK : vx_Back l R p e below s args y 3 W9 Pre Post PostX)
    {g : JFrame} (hg : g.method = m) (hsize : g.locals.size = c.maxLocals) {a : Addr} {argsL rest : List Value} (hlen : ∀ sig, parseMethodDescriptor y.desc = some sig → argsL.length = sig.parameters.length)
    (hstack : g.stack = argsL.reverse ++ .ref a :: rest) (hW : 2 * g.monitorRoom + (rest.map fun v => v.category).sum ≤ W9) (hdg : decode c.code g.pc = .ok (.invokespecial index, 3))
    (hpre : ∀ vm₁, s.WarmedH vm₁ → Pre ⟨T.setVm vm₁, locs, cells, slots⟩ (Value.ref a :: argsL).toArray) :
    (∃ (v : Option Value) (vm₁ : Vm) (B : Pt), s.WarmedH vm₁ ∧ Stand p l e R s m args below meth c B.U B.locs B.cells B.slots ∧ Post ⟨T.setVm vm₁, locs, cells, slots⟩ (Value.ref a :: argsL).toArray v B ∧
      ∀ target, Steps p.tables e below (B.U.setTop { g with pc := g.pc + 3, stack := v.toList ++ rest }) target → Steps p.tables e below (T.setTop g) target) ∨
    (∃ (q : Addr) (vm₁ : Vm) (B : Pt), s.WarmedH vm₁ ∧ Stand p l e R s m args below meth c B.U B.locs B.cells B.slots ∧ PostX ⟨T.setVm vm₁, locs, cells, slots⟩ (Value.ref a :: argsL).toArray q B ∧
      Steps p.tables e below (T.setTop g) ((B.U.setTop { g with stack := rest }).pushFrame (.throwing q))) := by
  subst hg
  have hpl : e.platform.magicAccessors = ({} : Platform).magicAccessors := by rw [X.admits.platform]
  obtain ⟨mk, methM, cM, kP, vm₁, hnamed, hmethM, hcodeM, -, hlocalsM, -, hkP, -, hW₁, hstep₁⟩ := Steps.initColdArgs (e := e) X.here hexec X.warmed hpl hown hy1 hy hlink hinst hcode (f := g) rfl hlen hstack hdg
  have X₁ := X.noted hW₁
  rcases hK g.method meth c ⟨T.setVm vm₁, locs, cells, slots⟩ { g with stack := rest } (.invokespecial index) mk (Value.ref a :: argsL).toArray X₁ rfl hsize hdg hW (X₁.named hnamed) (hpre vm₁ X₁.warmed) with ⟨v, B, X', hpost, hsteps⟩ | ⟨q, B, X', hpost, hsteps⟩
  · exact Or.inl ⟨v, vm₁, B, X₁.warmed, X', hpost, fun target h => hstep₁ _ fun acts => by rw [doInvoke_state]; exact hsteps.trans h⟩
  · exact Or.inr ⟨q, vm₁, B, X₁.warmed, X', hpost, hstep₁ _ fun acts => by rw [doInvoke_state]; exact hsteps⟩
end VXIA
section VXIB
variable {p : Program} {l : Launch} {e : Env} {R : Room} {s : State} {m : MethodId} {args : Array Value} {below : List Frame} {meth : Method} {c : Code} {H : Heap} {locs : List Loc} {cells slots : Nat}
variable {y : MethodName} {bytes cc : ByteArray} {maxL nL mc ms n index : Nat} {ret : Option FieldType} {ws : List Cond} {rm : Room} {Pc : Array Value → State → Prop} {Qc : Array Value → State → Outcome → State → Prop} {XC : String → State → State → Prop} {free : Addr → Prop} {Ts : List Cond} {own C : String} {b : Addr} {As rest : List Value} {g : JFrame}
theorem vx_runI (S : CallFix p m c cc nL s args Ts own) (hM : vx_Met l y ws rm Pc Qc XC mc ms free) (cw : CallB R s args own index y bytes maxL none ws rm mc ms n ∧ y.name = "<init>" ∧ (Cond.instanceMethod y).before args s = true) (hp : PreS s H Pc (.ref b :: As))
    (hg : g.method = m) (hn : As.length = n) (hsize : g.locals.size = nL) (hstack : g.stack = As.reverse ++ .ref b :: rest) (hW : 2 * g.monitorRoom + (rest.map fun v => v.category).sum ≤ 8) (hdg : decode cc g.pc = .ok (.invokespecial index, 3)) (hf : cells + mc ≤ R.cells ∧ slots + ms ≤ R.slots) :
    vx_Run p l e R s m args below meth c H locs cells slots mc ms g rest (Qc (Value.ref b :: As).toArray) XC free := by
  have hK : vx_Back l R p e below s args y 3 8 (PreOf R mc ms Pc) (PostOf Qc mc ms free) (vx_Post XC mc ms free) := vx_callBack cw.1 hM hp.1
  obtain ⟨⟨-, -, -, -, -, -, hcode, -, hy, hlen, hl⟩, hy1, hin⟩ := cw
  obtain ⟨hx, hb, hml, ho, -⟩ := S
  have hPc := hp.2
  intro T hT X
  rcases vx_callI X hx (bytes := bytes) (maxL := maxL) ho hy1 hl hin hcode hy hK hg (hsize.trans hml.symm) (a := b) (argsL := As) (rest := rest) (fun sig h => hn.trans (hlen sig h)) hstack hW (by rw [hb]; exact hdg)
    (fun vm₁ hW₁ => ⟨hf.1, hf.2, hPc (T.setVm vm₁) hT hW₁⟩) with ⟨v, vm₁, ⟨U', l2, c2, s2⟩, hW₁, X', ⟨g', mk, t, L, e1, e2, hq, h1, hL, h2, h3⟩, st⟩ | ⟨q, vm₁, ⟨U', l2, c2, s2⟩, hW₁, X', ⟨g', mk, t, L, E, ce, e1, e2, hq, hce, hcv, hcl, h1, hL, h2, h3⟩, st⟩
  · dsimp only [Pt.U, Pt.locs, Pt.cells, Pt.slots] at X' e1 e2 h1 h2 h3 st
    subst h1; subst h2; subst h3
    exact Or.inl ⟨v, (T.setVm vm₁).calling g' mk (Value.ref b :: As).toArray, t, U', L, hT, X', hL, e1, e2, hq, st⟩
  · dsimp only [Pt.U, Pt.locs, Pt.cells, Pt.slots] at X' e1 e2 h1 h2 h3 st hcl
    subst h1; subst h2; subst h3
    exact Or.inr ⟨q, (T.setVm vm₁).calling g' mk (Value.ref b :: As).toArray, t, U', L, E, ce, hT, X', hL, e1, e2, hq, hce, hcv, vx_cls hW₁ hcl, st⟩
end VXIB
/-! ===== END ===== -/
/-! ===== BEGIN a private constructor of a nest mate that throws ===== -/
section VXIC
variable {p : Program} {l : Launch} {e : Env} {R : Room} {s : State} {m : MethodId} {args : Array Value} {below : List Frame} {meth : Method} {c : Code} {T : State} {locs : List Loc} {cells slots : Nat}
theorem vx_callIN (X : Stand p l e R s m args below meth c T locs cells slots) (hexec : p.tables.exec = Jvm.exec) {own : String} {index : Nat} {host : String} {y : MethodName} {bytes : ByteArray} {maxL : Nat}
    (hown : s.vm.findClass own = some m.cls) (hy1 : y.name = "<init>") (hlink : (Cond.methodLinkNest own index y host).before args s = true) (hinst : (Cond.instanceMethod y).before args s = true)
    (hcode : (Cond.code y bytes maxL none).before args s = true) (hy : y.cls ≠ "java/lang/invoke/MethodHandle" ∧ y.cls ≠ "java/lang/invoke/VarHandle")
    {W9 : Nat} {Pre : Pt → Array Value → Prop} {Post : Pt → Array Value → Option Value → Pt → Prop} {PostX : Pt → Array Value → Addr → Pt → Prop} (hK : vx_Back l R p e below s args y 3 W9 Pre Post PostX)
    {g : JFrame} (hg : g.method = m) (hsize : g.locals.size = c.maxLocals) {a : Addr} {argsL rest : List Value} (hlen : ∀ sig, parseMethodDescriptor y.desc = some sig → argsL.length = sig.parameters.length)
    (hstack : g.stack = argsL.reverse ++ .ref a :: rest) (hW : 2 * g.monitorRoom + (rest.map fun v => v.category).sum ≤ W9) (hdg : decode c.code g.pc = .ok (.invokespecial index, 3))
    (hpre : ∀ vm₁, s.WarmedH vm₁ → Pre ⟨T.setVm vm₁, locs, cells, slots⟩ (Value.ref a :: argsL).toArray) :
    (∃ (v : Option Value) (vm₁ : Vm) (B : Pt), s.WarmedH vm₁ ∧ Stand p l e R s m args below meth c B.U B.locs B.cells B.slots ∧ Post ⟨T.setVm vm₁, locs, cells, slots⟩ (Value.ref a :: argsL).toArray v B ∧
      ∀ target, Steps p.tables e below (B.U.setTop { g with pc := g.pc + 3, stack := v.toList ++ rest }) target → Steps p.tables e below (T.setTop g) target) ∨
    (∃ (q : Addr) (vm₁ : Vm) (B : Pt), s.WarmedH vm₁ ∧ Stand p l e R s m args below meth c B.U B.locs B.cells B.slots ∧ PostX ⟨T.setVm vm₁, locs, cells, slots⟩ (Value.ref a :: argsL).toArray q B ∧
      Steps p.tables e below (T.setTop g) ((B.U.setTop { g with stack := rest }).pushFrame (.throwing q))) := by
  subst hg
  have hpl : e.platform.magicAccessors = ({} : Platform).magicAccessors := by rw [X.admits.platform]
  obtain ⟨mk, methM, cM, kP, vm₁, hnamed, hmethM, hcodeM, -, hlocalsM, -, hkP, -, hW₁, hstep₁⟩ := Steps.initColdArgsNest (e := e) X.here hexec X.warmed hpl hown hy1 hy hlink hinst hcode (f := g) rfl hlen hstack hdg
  have X₁ := X.noted hW₁
  rcases hK g.method meth c ⟨T.setVm vm₁, locs, cells, slots⟩ { g with stack := rest } (.invokespecial index) mk (Value.ref a :: argsL).toArray X₁ rfl hsize hdg hW (X₁.named hnamed) (hpre vm₁ X₁.warmed) with ⟨v, B, X', hpost, hsteps⟩ | ⟨q, B, X', hpost, hsteps⟩
  · exact Or.inl ⟨v, vm₁, B, X₁.warmed, X', hpost, fun target h => hstep₁ _ fun acts => by rw [doInvoke_state]; exact hsteps.trans h⟩
  · exact Or.inr ⟨q, vm₁, B, X₁.warmed, X', hpost, hstep₁ _ fun acts => by rw [doInvoke_state]; exact hsteps⟩
end VXIC
section VXID
variable {p : Program} {l : Launch} {e : Env} {R : Room} {s : State} {m : MethodId} {args : Array Value} {below : List Frame} {meth : Method} {c : Code} {H : Heap} {locs : List Loc} {cells slots : Nat}
theorem vx_runIN {y : MethodName} {bytes cc : ByteArray} {maxL nL mc ms n index : Nat} {ws : List Cond} {rm : Room} {Pc : Array Value → State → Prop} {Qc : Array Value → State → Outcome → State → Prop} {XC : String → State → State → Prop} {free : Addr → Prop} {Ts : List Cond} {own host : String} {b : Addr} {As rest : List Value} {g : JFrame}
    (S : CallFix p m c cc nL s args Ts own) (hM : vx_Met l y ws rm Pc Qc XC mc ms free) (cw : va_CN R s args own index y host bytes maxL none ws rm mc ms n ∧ y.name = "<init>" ∧ (Cond.instanceMethod y).before args s = true) (hp : PreS s H Pc (.ref b :: As))
    (hg : g.method = m) (hn : As.length = n) (hsize : g.locals.size = nL) (hstack : g.stack = As.reverse ++ .ref b :: rest) (hW : 2 * g.monitorRoom + (rest.map fun v => v.category).sum ≤ 8) (hdg : decode cc g.pc = .ok (.invokespecial index, 3)) (hf : cells + mc ≤ R.cells ∧ slots + ms ≤ R.slots) :
    vx_Run p l e R s m args below meth c H locs cells slots mc ms g rest (Qc (Value.ref b :: As).toArray) XC free := by
  obtain ⟨⟨⟨hrc, hrs, hfr, hlo, hws, hcw⟩, hcode, hini, hy, hlen, hl⟩, hx1, hx2⟩ := cw
  have hK : vx_Back l R p e below s args y 3 8 (PreOf R mc ms Pc) (PostOf Qc mc ms free) (vx_Post XC mc ms free) := vx_back (bytes := bytes) (maxL := maxL) (ret := none) hM hp.1 hrc hrs hfr hlo hws hcw (fun a' U hW => word_at hW (Or.inl (by first | rfl | simp [Cond.onTables, Cond.keeps, Cond.steady])) hini)
  obtain ⟨hx, hb, hml, ho, -⟩ := S
  have hPc := hp.2
  intro T hT X
  rcases vx_callIN X hx (bytes := bytes) (maxL := maxL) ho hx1 hl hx2 hcode hy hK hg (hsize.trans hml.symm) (a := b) (argsL := As) (rest := rest) (fun sig h => hn.trans (hlen sig h)) hstack hW (by rw [hb]; exact hdg)
    (fun vm₁ hW₁ => ⟨hf.1, hf.2, hPc (T.setVm vm₁) hT hW₁⟩) with ⟨v, vm₁, ⟨U', l2, c2, s2⟩, hW₁, X', ⟨g', mk, t, L, e1, e2, hq, h1, hL, h2, h3⟩, st⟩ | ⟨q, vm₁, ⟨U', l2, c2, s2⟩, hW₁, X', ⟨g', mk, t, L, E, ce, e1, e2, hq, hce, hcv, hcl, h1, hL, h2, h3⟩, st⟩
  · dsimp only [Pt.U, Pt.locs, Pt.cells, Pt.slots] at X' e1 e2 h1 h2 h3 st
    subst h1; subst h2; subst h3
    exact Or.inl ⟨v, (T.setVm vm₁).calling g' mk (Value.ref b :: As).toArray, t, U', L, hT, X', hL, e1, e2, hq, st⟩
  · dsimp only [Pt.U, Pt.locs, Pt.cells, Pt.slots] at X' e1 e2 h1 h2 h3 st hcl
    subst h1; subst h2; subst h3
    exact Or.inr ⟨q, (T.setVm vm₁).calling g' mk (Value.ref b :: As).toArray, t, U', L, E, ce, hT, X', hL, e1, e2, hq, hce, hcv, vx_cls hW₁ hcl, st⟩
end VXID
/-! ===== END ===== -/
/-! ===== BEGIN a private method of a nest mate that may throw (follows va_callVN, va_callSN, va_runVN, va_runSN) ===== -/
section
variable {p : Program} {l : Launch} {e : Env} {R : Room} {s : State} {m : MethodId} {args : Array Value} {below : List Frame} {meth : Method} {c : Code} {H : Heap} {locs : List Loc} {cells slots : Nat}
variable {T : State}
theorem vx_callVN (X : Stand p l e R s m args below meth c T locs cells slots) (hexec : p.tables.exec = Jvm.exec) {own C : String} {index : Nat} {host : String} {y : MethodName} {bytes : ByteArray} {maxL : Nat} {ret : Option FieldType}
    (hown : s.vm.findClass own = some m.cls) (hlink : (Cond.methodLinkNest own index y host).before args s = true) (hinst : (Cond.instanceMethod y).before args s = true) (hsel : (Cond.selects C y y).before args s = true)
    (hcode : (Cond.code y bytes maxL ret).before args s = true) (hy : y.cls ≠ "java/lang/invoke/MethodHandle" ∧ y.cls ≠ "java/lang/invoke/VarHandle")
    {W : Nat} {Pre : Pt → Array Value → Prop} {Post : Pt → Array Value → Option Value → Pt → Prop} {PostX : Pt → Array Value → Addr → Pt → Prop} (hK : vx_Back l R p e below s args y 3 W Pre Post PostX)
    {b : Addr} {cellB : Cell} (hcell : T.heap[b]? = some cellB) (hobj : cellB.vm.isStatics = false) (hcls : s.vm.findClass C = some cellB.cls)
    {g : JFrame} (hg : g.method = m) (hsize : g.locals.size = c.maxLocals) {argsL rest : List Value} (hlen : ∀ sig, parseMethodDescriptor y.desc = some sig → argsL.length = sig.parameters.length)
    (hstack : g.stack = argsL.reverse ++ .ref b :: rest) (hW : 2 * g.monitorRoom + (rest.map fun v => v.category).sum ≤ W) (hdg : decode c.code g.pc = .ok (.invokevirtual index, 3))
    (hpre : ∀ vm₁, s.WarmedH vm₁ → Pre ⟨T.setVm vm₁, locs, cells, slots⟩ (Value.ref b :: argsL).toArray) :
    (∃ (v : Option Value) (vm₁ : Vm) (B : Pt), s.WarmedH vm₁ ∧ Stand p l e R s m args below meth c B.U B.locs B.cells B.slots ∧ Post ⟨T.setVm vm₁, locs, cells, slots⟩ (Value.ref b :: argsL).toArray v B ∧
      ∀ target, Steps p.tables e below (B.U.setTop { g with pc := g.pc + 3, stack := v.toList ++ rest }) target → Steps p.tables e below (T.setTop g) target) ∨
    (∃ (q : Addr) (vm₁ : Vm) (B : Pt), s.WarmedH vm₁ ∧ Stand p l e R s m args below meth c B.U B.locs B.cells B.slots ∧ PostX ⟨T.setVm vm₁, locs, cells, slots⟩ (Value.ref b :: argsL).toArray q B ∧
      Steps p.tables e below (T.setTop g) ((B.U.setTop { g with stack := rest }).pushFrame (.throwing q))) := by
  obtain ⟨mk, methM, hnamed, hmethM, hstM, habM⟩ := Cond.instanceMethod_spec hinst
  obtain ⟨methM', cM, hmethM', -, -, -, -, -, -, hsigM⟩ := Cond.code_spec hnamed hcode
  cases hmethM.symm.trans hmethM'
  obtain ⟨c2, r2, m2, q1, q2, q3, q4, kP, hkP, hkPi⟩ := Cond.selects_spec hsel
  cases hcls.symm.trans q1
  cases (State.methodFound?_of_named hnamed hy).symm.trans q2
  cases hnamed.symm.trans q3
  have hselP : selectMethod e.platform s.vm cellB.cls mk = .method mk := by rw [Launch.admits_selectMethod X.admits]; exact q4
  obtain ⟨vm₁, X₁, hstep₁⟩ := X.invokevirtualNest hexec hown hlink hnamed hmethM hstM hkP hkPi hy (a := b) (cell := cellB) hcell
    (fun z h => by rw [h] at hobj; cases hobj) hselP hmethM habM hkP hkPi (g := g) hg (argsL := argsL) (rest := rest) (hlen _ hsigM) hstack hdg
  rcases hK m meth c ⟨T.setVm vm₁, locs, cells, slots⟩ { g with stack := rest } (.invokevirtual index) mk (Value.ref b :: argsL).toArray X₁ hg hsize hdg hW (X₁.named hnamed) (hpre vm₁ X₁.warmed) with ⟨v, B, X', hpost, hsteps⟩ | ⟨q, B, X', hpost, hsteps⟩
  · exact Or.inl ⟨v, vm₁, B, X₁.warmed, X', hpost, fun target h => hstep₁ _ fun acts => by rw [doInvoke_state]; exact hsteps.trans h⟩
  · exact Or.inr ⟨q, vm₁, B, X₁.warmed, X', hpost, hstep₁ _ fun acts => by rw [doInvoke_state]; exact hsteps⟩
theorem vx_callSN (X : Stand p l e R s m args below meth c T locs cells slots) (hexec : p.tables.exec = Jvm.exec) {own : String} {index : Nat} {host : String} {y : MethodName} {bytes : ByteArray} {maxL : Nat} {ret : Option FieldType}
    (hown : s.vm.findClass own = some m.cls) (hlink : (Cond.methodLinkNest own index y host).before args s = true) (hstat : (Cond.static y).before args s = true) (hinit : (Cond.initialized y.cls).before args s = true)
    (hcode : (Cond.code y bytes maxL ret).before args s = true) (hy : y.cls ≠ "java/lang/invoke/MethodHandle" ∧ y.cls ≠ "java/lang/invoke/VarHandle")
    {W : Nat} {Pre : Pt → Array Value → Prop} {Post : Pt → Array Value → Option Value → Pt → Prop} {PostX : Pt → Array Value → Addr → Pt → Prop} (hK : vx_Back l R p e below s args y 3 W Pre Post PostX)
    {g : JFrame} (hg : g.method = m) (hsize : g.locals.size = c.maxLocals) {argsL rest : List Value} (hlen : ∀ sig, parseMethodDescriptor y.desc = some sig → argsL.length = sig.parameters.length)
    (hstack : g.stack = argsL.reverse ++ rest) (hW : 2 * g.monitorRoom + (rest.map fun v => v.category).sum ≤ W) (hdg : decode c.code g.pc = .ok (.invokestatic index, 3))
    (hpre : ∀ vm₁, s.WarmedH vm₁ → Pre ⟨T.setVm vm₁, locs, cells, slots⟩ argsL.toArray) :
    (∃ (v : Option Value) (vm₁ : Vm) (B : Pt), s.WarmedH vm₁ ∧ Stand p l e R s m args below meth c B.U B.locs B.cells B.slots ∧ Post ⟨T.setVm vm₁, locs, cells, slots⟩ argsL.toArray v B ∧
      ∀ target, Steps p.tables e below (B.U.setTop { g with pc := g.pc + 3, stack := v.toList ++ rest }) target → Steps p.tables e below (T.setTop g) target) ∨
    (∃ (q : Addr) (vm₁ : Vm) (B : Pt), s.WarmedH vm₁ ∧ Stand p l e R s m args below meth c B.U B.locs B.cells B.slots ∧ PostX ⟨T.setVm vm₁, locs, cells, slots⟩ argsL.toArray q B ∧
      Steps p.tables e below (T.setTop g) ((B.U.setTop { g with stack := rest }).pushFrame (.throwing q))) := by
  obtain ⟨mk, hnamed⟩ := Cond.code_named hcode
  obtain ⟨methM, cM, hmethM, -, -, -, -, -, -, hsigM⟩ := Cond.code_spec hnamed hcode
  have hstatic : methM.isStatic = true := Cond.static_spec hnamed hmethM hstat
  obtain ⟨kP, hkP, -⟩ := className_of_methodNamed hnamed
  have hinitP : kP.init = .initialized := Cond.initialized_spec (findClass_of_methodNamed hnamed) hkP hinit
  obtain ⟨vm₁, X₁, hstep₁⟩ := X.invokestaticNest hexec hown hlink hnamed hmethM hstatic hkP hinitP hy (g := g) hg (argsL := argsL) (rest := rest) (hlen _ hsigM) hstack hdg
  rcases hK m meth c ⟨T.setVm vm₁, locs, cells, slots⟩ { g with stack := rest } (.invokestatic index) mk argsL.toArray X₁ hg hsize hdg hW (X₁.named hnamed) (hpre vm₁ X₁.warmed) with ⟨v, B, X', hpost, hsteps⟩ | ⟨q, B, X', hpost, hsteps⟩
  · exact Or.inl ⟨v, vm₁, B, X₁.warmed, X', hpost, fun target h => hstep₁ _ fun acts => by rw [doInvoke_state]; exact hsteps.trans h⟩
  · exact Or.inr ⟨q, vm₁, B, X₁.warmed, X', hpost, hstep₁ _ fun acts => by rw [doInvoke_state]; exact hsteps⟩
theorem vx_runVN {y : MethodName} {bytes cc : ByteArray} {maxL nL mc ms n index : Nat} {ret : Option FieldType} {ws : List Cond} {rm : Room} {Pc : Array Value → State → Prop} {Qc : Array Value → State → Outcome → State → Prop} {XC : String → State → State → Prop} {free : Addr → Prop} {Ts : List Cond} {own C host : String} {b : Addr} {As rest : List Value} {g : JFrame}
    (S : CallFix p m c cc nL s args Ts own) (hM : vx_Met l y ws rm Pc Qc XC mc ms free) (cw : va_CN R s args own index y host bytes maxL ret ws rm mc ms n ∧ (Cond.instanceMethod y).before args s = true ∧ (Cond.selects C y y).before args s = true) (hp : PreV s H C b Pc As)
    (hg : g.method = m) (hn : As.length = n) (hsize : g.locals.size = nL) (hstack : g.stack = As.reverse ++ .ref b :: rest) (hW : 2 * g.monitorRoom + (rest.map fun v => v.category).sum ≤ 8) (hdg : decode cc g.pc = .ok (.invokevirtual index, 3)) (hf : cells + mc ≤ R.cells ∧ slots + ms ≤ R.slots) :
    vx_Run p l e R s m args below meth c H locs cells slots mc ms g rest (Qc (Value.ref b :: As).toArray) XC free := by
  obtain ⟨⟨⟨hrc, hrs, hfr, hlo, hws, hcw⟩, hcode, hini, hy, hlen, hl⟩, hx1, hx2⟩ := cw
  have hK : vx_Back l R p e below s args y 3 8 (PreOf R mc ms Pc) (PostOf Qc mc ms free) (vx_Post XC mc ms free) := vx_back (bytes := bytes) (maxL := maxL) (ret := ret) hM hp.1 hrc hrs hfr hlo hws hcw (fun a' U hW => word_at hW (Or.inl (by first | rfl | simp [Cond.onTables, Cond.keeps, Cond.steady])) hini)
  obtain ⟨hx, hb, hml, ho, -⟩ := S
  obtain ⟨-, ⟨cellB, hcB, hoB, hclB⟩, hPc⟩ := hp
  intro T hT X
  rcases vx_callVN X hx (C := C) (bytes := bytes) (maxL := maxL) (ret := ret) ho hl hx1 hx2 hcode hy hK (by rw [hT]; exact hcB) hoB hclB hg (hsize.trans hml.symm) (argsL := As) (rest := rest) (fun sig h => hn.trans (hlen sig h)) hstack hW (by rw [hb]; exact hdg)
    (fun vm₁ hW₁ => ⟨hf.1, hf.2, hPc (T.setVm vm₁) hT hW₁⟩) with ⟨v, vm₁, ⟨U', l2, c2, s2⟩, hW₁, X', ⟨g', mk, t, L, e1, e2, hq, h1, hL, h2, h3⟩, st⟩ | ⟨q, vm₁, ⟨U', l2, c2, s2⟩, hW₁, X', ⟨g', mk, t, L, E, ce, e1, e2, hq, hce, hcv, hcl, h1, hL, h2, h3⟩, st⟩
  · dsimp only [Pt.U, Pt.locs, Pt.cells, Pt.slots] at X' e1 e2 h1 h2 h3 st
    subst h1; subst h2; subst h3
    exact Or.inl ⟨v, (T.setVm vm₁).calling g' mk (Value.ref b :: As).toArray, t, U', L, hT, X', hL, e1, e2, hq, st⟩
  · dsimp only [Pt.U, Pt.locs, Pt.cells, Pt.slots] at X' e1 e2 h1 h2 h3 st hcl
    subst h1; subst h2; subst h3
    exact Or.inr ⟨q, (T.setVm vm₁).calling g' mk (Value.ref b :: As).toArray, t, U', L, E, ce, hT, X', hL, e1, e2, hq, hce, hcv, vx_cls hW₁ hcl, st⟩
theorem vx_runSN {y : MethodName} {bytes cc : ByteArray} {maxL nL mc ms n index : Nat} {ret : Option FieldType} {ws : List Cond} {rm : Room} {Pc : Array Value → State → Prop} {Qc : Array Value → State → Outcome → State → Prop} {XC : String → State → State → Prop} {free : Addr → Prop} {Ts : List Cond} {own host : String} {As rest : List Value} {g : JFrame}
    (S : CallFix p m c cc nL s args Ts own) (hM : vx_Met l y ws rm Pc Qc XC mc ms free) (cw : va_CN R s args own index y host bytes maxL ret ws rm mc ms n ∧ (Cond.static y).before args s = true ∧ True) (hp : PreS s H Pc As)
    (hg : g.method = m) (hn : As.length = n) (hsize : g.locals.size = nL) (hstack : g.stack = As.reverse ++ rest) (hW : 2 * g.monitorRoom + (rest.map fun v => v.category).sum ≤ 8) (hdg : decode cc g.pc = .ok (.invokestatic index, 3)) (hf : cells + mc ≤ R.cells ∧ slots + ms ≤ R.slots) :
    vx_Run p l e R s m args below meth c H locs cells slots mc ms g rest (Qc As.toArray) XC free := by
  obtain ⟨⟨⟨hrc, hrs, hfr, hlo, hws, hcw⟩, hcode, hini, hy, hlen, hl⟩, hx1, hx2⟩ := cw
  have hK : vx_Back l R p e below s args y 3 8 (PreOf R mc ms Pc) (PostOf Qc mc ms free) (vx_Post XC mc ms free) := vx_back (bytes := bytes) (maxL := maxL) (ret := ret) hM hp.1 hrc hrs hfr hlo hws hcw (fun a' U hW => word_at hW (Or.inl (by first | rfl | simp [Cond.onTables, Cond.keeps, Cond.steady])) hini)
  obtain ⟨hx, hb, hml, ho, -⟩ := S
  have hPc := hp.2
  intro T hT X
  rcases vx_callSN X hx (bytes := bytes) (maxL := maxL) (ret := ret) ho hl hx1 hini hcode hy hK hg (hsize.trans hml.symm) (argsL := As) (rest := rest) (fun sig h => hn.trans (hlen sig h)) hstack hW (by rw [hb]; exact hdg)
    (fun vm₁ hW₁ => ⟨hf.1, hf.2, hPc (T.setVm vm₁) hT hW₁⟩) with ⟨v, vm₁, ⟨U', l2, c2, s2⟩, hW₁, X', ⟨g', mk, t, L, e1, e2, hq, h1, hL, h2, h3⟩, st⟩ | ⟨q, vm₁, ⟨U', l2, c2, s2⟩, hW₁, X', ⟨g', mk, t, L, E, ce, e1, e2, hq, hce, hcv, hcl, h1, hL, h2, h3⟩, st⟩
  · dsimp only [Pt.U, Pt.locs, Pt.cells, Pt.slots] at X' e1 e2 h1 h2 h3 st
    subst h1; subst h2; subst h3
    exact Or.inl ⟨v, (T.setVm vm₁).calling g' mk As.toArray, t, U', L, hT, X', hL, e1, e2, hq, st⟩
  · dsimp only [Pt.U, Pt.locs, Pt.cells, Pt.slots] at X' e1 e2 h1 h2 h3 st hcl
    subst h1; subst h2; subst h3
    exact Or.inr ⟨q, (T.setVm vm₁).calling g' mk As.toArray, t, U', L, E, ce, hT, X', hL, e1, e2, hq, hce, hcv, vx_cls hW₁ hcl, st⟩
end
/-! ===== END ===== -/
end
section
/-! THE PLAIN MACHINE AND THE REAL ONE: what is held against what -/
/-- base, script's cell, its length; the script; the classes' numbers, their slots; the rows' classes (int, boolean, long, State); where the six texts are, and their bytes -/
abbrev cm_Z : Type := (Nat × Nat × Nat) × (Nat → Int32) × ((Nat → ClassId) × (Nat → Nat → Nat)) × (ClassId × ClassId × ClassId × ClassId) × ((Nat → Nat) × (Nat → Nat))
abbrev zB (Z : cm_Z) : Nat := Z.1.1
abbrev zS (Z : cm_Z) : Nat := Z.1.2.1
abbrev zL (Z : cm_Z) : Nat := Z.1.2.2
abbrev zX (Z : cm_Z) : Nat → Int32 := Z.2.1
abbrev zD (Z : cm_Z) : va_G := Z.2.2.1
abbrev zI (Z : cm_Z) : ClassId := Z.2.2.2.1.1
abbrev zO (Z : cm_Z) : ClassId := Z.2.2.2.1.2.1
abbrev zJ (Z : cm_Z) : ClassId := Z.2.2.2.1.2.2.1
abbrev zR (Z : cm_Z) : ClassId := Z.2.2.2.1.2.2.2
abbrev zK (Z : cm_Z) : Nat → Nat := Z.2.2.2.2.1
abbrev zV (Z : cm_Z) : Nat → Nat := Z.2.2.2.2.2
abbrev zT (Z : cm_Z) : List (ClassId × FieldType) := [(zI Z, .int), (zO Z, .boolean), (zJ Z, .long), (zR Z, .object RX6)]
abbrev zA (Z : cm_Z) : Nat → Prop := fun q => zB Z ≤ q
/-- a value -/
def cm_vr (Z : cm_Z) (v : Value) (a : cm_V) : Prop := match a with
  | .inl x => ∃ i : Int32, v = .int i ∧ i.toInt = x
  | .inr (.inl x) => v = .long x
  | .inr (.inr n) => if n < 100000 then v = .ref (zB Z + n) else if n = 100000 then v = .ref (zS Z) else if n < 300000 then ∃ k, k < 6 ∧ k % 3 = n - 200000 ∧ v = .ref (zK Z k) else ∃ q, v = .ref q
def cm_sr (Z : cm_Z) (st : List cm_V) (rst : List Value) : Prop := match st, rst with
  | [], [] => True
  | a :: st, v :: rst => cm_vr Z v a ∧ cm_sr Z st rst
  | _, _ => False
def cm_lr (Z : cm_Z) (L : cm_L) (rls : Array Slot) : Prop := ∃ lv, lv_has rls L.length lv ∧ ∀ (i : Nat) (a : cm_V), L[i]? = some (some a) → ∃ v, (i, v) ∈ lv ∧ cm_vr Z v a
def cm_fr (Z : cm_Z) (h : cm_H) (k j t : Nat) (fs : List Value) : Prop := if t = 2 then (h.2.1 k (j : Int) < 300000 → h.2.1 k (j : Int) < 100000 ∧ fs[j]? = some (.ref (zB Z + h.2.1 k (j : Int)))) else ∃ i : Int32, fs[j]? = some (.int i) ∧ i.toInt = h.2.2.1 k (j : Int)
/-- a cell -/
def cm_ce (Z : cm_Z) (h : cm_H) (k : Nat) (e : va_E) : Prop := match e with
  | .inr (ci, fs) => h.1 k = (0, ci) ∧ ∃ q, cm_vw[ci]? = some q ∧ fs.length = q.2.2 ∧ ∀ j, j < q.2.2 → cm_fr Z h k j (cm_tc (q.2.1 j).2.2.1) fs
  | .inl (cA, n, .inl f) => ((cA = zI Z ∧ h.1 k = (1, n)) ∨ (cA = zO Z ∧ h.1 k = (2, n))) ∧ ∀ j, j < n → (f j).toInt = h.2.2.1 k (j : Int)
  | .inl (cA, n, .inr (.inl f)) => cA = zJ Z ∧ h.1 k = (3, n) ∧ ∀ j, j < n → f j = h.2.2.2.1 k (j : Int)
  | .inl (cA, n, .inr (.inr (.inr (.inr f)))) => cA = zR Z ∧ h.1 k = (4, n) ∧ ∀ j, j < n → h.2.1 k (j : Int) < 300000 → h.2.1 k (j : Int) < 100000 ∧ f j = some (zB Z + h.2.1 k (j : Int))
  | _ => False
/-- the heap -/
def cm_hr (Z : cm_Z) (h : cm_H) (H : Heap) : Prop := ∃ ws : va_W, va_P (zD Z) cm_vw ws H ∧ va_D (zA Z) ws ∧ ws.length = h.2.2.2.2.1 ∧ h.2.2.2.2.1 ≤ 100000 ∧ h.2.2.2.2.1 ≤ h.2.2.2.2.2.1 ∧
  (∀ k, k < h.2.2.2.2.1 → ∃ e, ws[k]? = some (zB Z + k, e) ∧ cm_ce Z h k e) ∧ (∀ a, h.2.2.2.2.1 ≤ a → a ≠ 100000 → h.1 a = (9, 0)) ∧ h.1 100000 = (1, zL Z) ∧ (∀ j, j < zL Z → (zX Z j).toInt = h.2.2.1 100000 (j : Int)) ∧ ∀ a, (h.1 a).1 = 1 → (h.1 a).2 < 2147483648
/-- what is known of the tables and of what lies below the base -/
def cm_cx (Z : cm_Z) (s : State) : Prop := (∀ w ∈ lw_tbl, cm_two w = true → w.before #[] s = true) ∧ va_AO RX6 s ∧ va_K (zD Z) cm_vw (zT Z) s ∧ va_X (zS Z) (zL Z) (zX Z) s s.heap ∧ zS Z < zB Z ∧ zB Z ≤ s.heap.size ∧
  vx_Zq Bundle.tN "UNASSIGNED_STACK" Bundle.steD (zA Z) s s.heap ∧ vx_Zq Bundle.tN "SUPPRESSED_SENTINEL" Bundle.listD (zA Z) s s.heap ∧ (∀ q ∈ cm_strs, ∃ a, vk_R q.1 q.2.1 q.2.2 a s) ∧ (∀ i q, cm_lits[i]? = some q → vk_R q.1 q.2.1 q.2.2 (zK Z i) s) ∧
  vk_S 6 cm_len cm_byt (zK Z) (zV Z) (zA Z) s s.heap ∧ va_Z "java/lang/String" "COMPACT_STRINGS" "Z" (.int 1) (zA Z) s s.heap ∧ va_Nc "java/lang/IllegalArgumentException" "java/util/NoSuchElementException" s
theorem cm_vr_i {Z : cm_Z} {v : Value} {x : Int} (h : cm_vr Z v (.inl x)) : ∃ i : Int32, v = .int i ∧ i.toInt = x := h
theorem cm_vr_l {Z : cm_Z} {v : Value} {x : Int64} (h : cm_vr Z v (.inr (.inl x))) : v = .long x := h
theorem cm_vr_r {Z : cm_Z} {v : Value} {n : Nat} (h : cm_vr Z v (.inr (.inr n))) : ∃ q, v = .ref q := by
  unfold cm_vr at h
  simp only at h
  split at h
  · exact ⟨_, h⟩
  · split at h
    · exact ⟨_, h⟩
    · split at h
      · obtain ⟨k, -, -, h⟩ := h; exact ⟨_, h⟩
      · exact h
theorem cm_vr_c {Z : cm_Z} {v : Value} {n : Nat} (h : cm_vr Z v (.inr (.inr n))) (hn : n < 100000) : v = .ref (zB Z + n) := by
  unfold cm_vr at h
  simp only [hn, if_true] at h
  exact h
theorem cm_vr_cI {Z : cm_Z} {n : Nat} (hn : n < 100000) : cm_vr Z (.ref (zB Z + n)) (.inr (.inr n)) := by
  unfold cm_vr
  simp only [hn, if_true]
theorem cm_cat_eq {Z : cm_Z} {v : Value} {a : cm_V} (h : cm_vr Z v a) : v.category = cm_cat a := by
  rcases a with x | x | x
  · obtain ⟨i, rfl, -⟩ := cm_vr_i h; rfl
  · rw [cm_vr_l h]; rfl
  · obtain ⟨q, rfl⟩ := cm_vr_r h; rfl
theorem cm_sr_cons {Z : cm_Z} {a : cm_V} {st : List cm_V} {rst : List Value} (h : cm_sr Z (a :: st) rst) : ∃ v r, rst = v :: r ∧ cm_vr Z v a ∧ cm_sr Z st r := by
  cases rst with
  | nil => exact h.elim
  | cons v r => exact ⟨v, r, rfl, h.1, h.2⟩
theorem cm_sr_nil {Z : cm_Z} {rst : List Value} (h : cm_sr Z [] rst) : rst = [] := by
  cases rst with
  | nil => rfl
  | cons v r => exact h.elim
theorem cm_sr_i {Z : cm_Z} {x : Int} {st : List cm_V} {rst : List Value} (h : cm_sr Z (.inl x :: st) rst) : ∃ (i : Int32) (r : List Value), rst = .int i :: r ∧ i.toInt = x ∧ cm_sr Z st r := by
  obtain ⟨v, r, rfl, hv, hs⟩ := cm_sr_cons h
  obtain ⟨i, rfl, hi⟩ := cm_vr_i hv
  exact ⟨i, r, rfl, hi, hs⟩
theorem cm_sr_l {Z : cm_Z} {x : Int64} {st : List cm_V} {rst : List Value} (h : cm_sr Z (.inr (.inl x) :: st) rst) : ∃ (r : List Value), rst = .long x :: r ∧ cm_sr Z st r := by
  obtain ⟨v, r, rfl, hv, hs⟩ := cm_sr_cons h
  rw [cm_vr_l hv]
  exact ⟨r, rfl, hs⟩
theorem cm_sr_r {Z : cm_Z} {x : Nat} {st : List cm_V} {rst : List Value} (h : cm_sr Z (.inr (.inr x) :: st) rst) : ∃ (q : Nat) (r : List Value), rst = .ref q :: r ∧ cm_vr Z (.ref q) (.inr (.inr x)) ∧ cm_sr Z st r := by
  obtain ⟨v, r, rfl, hv, hs⟩ := cm_sr_cons h
  obtain ⟨q, rfl⟩ := cm_vr_r hv
  exact ⟨q, r, rfl, hv, hs⟩
theorem cm_sr_wd {Z : cm_Z} {st : List cm_V} : ∀ {rst : List Value}, cm_sr Z st rst → (rst.map fun v => v.category).sum = cm_wd st := by
  induction st with
  | nil => intro rst h; rw [cm_sr_nil h]; rfl
  | cons a st ih =>
    intro rst h
    obtain ⟨v, r, rfl, hv, hs⟩ := cm_sr_cons h
    simp only [List.map_cons, List.sum_cons, cm_wd]
    rw [cm_cat_eq hv, ih hs]
    rfl
/-- locals -/
theorem cm_lr_at {Z : cm_Z} {L : cm_L} {rls : Array Slot} (h : cm_lr Z L rls) {i : Nat} {a : cm_V} (hi : L[i]? = some (some a)) : ∃ v, rls[i]? = some (.val v) ∧ cm_vr Z v a := by
  obtain ⟨lv, h1, h2⟩ := h
  obtain ⟨v, hm, hv⟩ := h2 i a hi
  exact ⟨v, h1.2.2 _ hm, hv⟩
theorem cm_lr_size {Z : cm_Z} {L : cm_L} {rls : Array Slot} (h : cm_lr Z L rls) : rls.size = L.length := by
  obtain ⟨lv, h1, -⟩ := h
  exact h1.1
/-- fewer are known -/
theorem cm_lr_less {Z : cm_Z} {L L' : cm_L} {rls : Array Slot} (h : cm_lr Z L rls) (hl : L'.length = L.length) (hs : ∀ (i : Nat) (a : cm_V), L'[i]? = some (some a) → L[i]? = some (some a)) : cm_lr Z L' rls := by
  obtain ⟨lv, h1, h2⟩ := h
  exact ⟨lv, by rw [hl]; exact h1, fun i a hi => h2 i a (hs i a hi)⟩
theorem cm_fg_len (a : Nat) (L : cm_L) : (cm_fg a L).length = L.length := by
  unfold cm_fg
  split
  · rfl
  · rename_i n
    simp only [List.length_append, List.length_take, List.length_replicate]
    omega
theorem cm_lr_fg {Z : cm_Z} {L : cm_L} {rls : Array Slot} (h : cm_lr Z L rls) (a : Nat) : cm_lr Z (cm_fg a L) rls := by
  refine cm_lr_less h (cm_fg_len a L) ?_
  intro i v hi
  unfold cm_fg at hi
  split at hi
  · exact hi
  · rename_i n
    by_cases hn : i < (L.take n).length
    · rw [List.getElem?_append_left hn] at hi
      rw [List.length_take] at hn
      rw [List.getElem?_take_of_lt (by omega)] at hi
      exact hi
    · rw [List.getElem?_append_right (by omega)] at hi
      have := List.mem_of_getElem? hi
      rw [List.mem_replicate] at this
      exact absurd this.2 (by simp)
theorem cm_kl_len (L : cm_L) (i : Nat) : (cm_kl L i).length = L.length := by
  unfold cm_kl
  split
  · rfl
  · split
    · simp
    · rfl
theorem cm_kl_le {L : cm_L} {i j : Nat} {a : cm_V} (h : (cm_kl L i)[j]? = some (some a)) : L[j]? = some (some a) ∧ ¬ (j + 1 = i ∧ cm_cat a = 2) := by
  unfold cm_kl at h
  split at h
  · exact ⟨h, by omega⟩
  · rename_i k
    split at h
    · rename_i x e
      by_cases hj : k = j
      · subst hj
        rw [List.getElem?_set] at h
        simp only [if_true] at h
        split at h <;> cases h
      · rw [List.getElem?_set_ne hj] at h
        exact ⟨h, by omega⟩
    · rename_i e
      refine ⟨h, ?_⟩
      rintro ⟨h1, h2⟩
      have : j = k := by omega
      subst this
      rcases a with x | x | x
      · cases h2
      · exact e _ h
      · cases h2
theorem cm_st1 {Z : cm_Z} {L : cm_L} {lv : List (Nat × Value)} (h2 : ∀ (i : Nat) (a : cm_V), L[i]? = some (some a) → ∃ v, (i, v) ∈ lv ∧ cm_vr Z v a) {i : Nat} (hi : i < L.length) {v : Value} {a : cm_V} (hv : cm_vr Z v a) {rls' : Array Slot} (h' : lv_has rls' L.length ((i, v) :: lv.filter (fun q => !(q.1 == i) && !(q.1 + 1 == i && q.2.category == 2)))) : cm_lr Z ((cm_kl L i).set i (some a)) rls' := by
  refine ⟨_, by rw [List.length_set, cm_kl_len]; exact h', fun j b hj => ?_⟩
  by_cases hji : i = j
  · subst hji
    rw [List.getElem?_set] at hj
    simp only [if_true, cm_kl_len, hi] at hj
    cases hj
    exact ⟨v, List.mem_cons_self, hv⟩
  · rw [List.getElem?_set_ne hji] at hj
    obtain ⟨hj, hk⟩ := cm_kl_le hj
    obtain ⟨w, hm, hw⟩ := h2 j b hj
    refine ⟨w, List.mem_cons_of_mem _ (List.mem_filter.mpr ⟨hm, ?_⟩), hw⟩
    have e1 : (j == i) = false := by simpa using fun e => hji e.symm
    have e2 : (j + 1 == i && w.category == 2) = false := by
      rw [cm_cat_eq hw]
      cases e3 : (j + 1 == i) with
      | false => rfl
      | true =>
        have e4 : j + 1 = i := by simpa using e3
        have : ¬ cm_cat b = 2 := fun e => hk ⟨e4, e⟩
        simpa using this
    simp [e1, e2]
theorem cm_st2 {Z : cm_Z} {L : cm_L} {lv : List (Nat × Value)} (h2 : ∀ (i : Nat) (a : cm_V), L[i]? = some (some a) → ∃ v, (i, v) ∈ lv ∧ cm_vr Z v a) {i : Nat} (hi : i + 1 < L.length) {v : Value} {a : cm_V} (hv : cm_vr Z v a) {rls' : Array Slot} (h' : lv_has rls' L.length ((i, v) :: lv.filter (fun q => !(q.1 == i) && (!(q.1 == i + 1) && !(q.1 + 1 == i && q.2.category == 2))))) : cm_lr Z (((cm_kl L i).set i (some a)).set (i + 1) none) rls' := by
  refine ⟨_, by rw [List.length_set, List.length_set, cm_kl_len]; exact h', fun j b hj => ?_⟩
  by_cases hj1 : i + 1 = j
  · subst hj1
    rw [List.getElem?_set] at hj
    simp only [if_true] at hj
    split at hj <;> cases hj
  · rw [List.getElem?_set_ne hj1] at hj
    by_cases hji : i = j
    · subst hji
      rw [List.getElem?_set] at hj
      simp only [if_true, cm_kl_len, show i < L.length by omega] at hj
      cases hj
      exact ⟨v, List.mem_cons_self, hv⟩
    · rw [List.getElem?_set_ne hji] at hj
      obtain ⟨hj, hk⟩ := cm_kl_le hj
      obtain ⟨w, hm, hw⟩ := h2 j b hj
      refine ⟨w, List.mem_cons_of_mem _ (List.mem_filter.mpr ⟨hm, ?_⟩), hw⟩
      have e1 : (j == i) = false := by simpa using fun e => hji e.symm
      have e0 : (j == i + 1) = false := by simpa using fun e => hj1 e.symm
      have e2 : (j + 1 == i && w.category == 2) = false := by
        rw [cm_cat_eq hw]
        cases e3 : (j + 1 == i) with
        | false => rfl
        | true =>
          have e4 : j + 1 = i := by simpa using e3
          have : ¬ cm_cat b = 2 := fun e => hk ⟨e4, e⟩
          simpa using this
      simp [e1, e2, e0]
/-- numbers -/
theorem cm_wr_b (x : Int) : x.bmod (2 ^ 32) = cm_wr x := by
  unfold cm_wr
  rw [Int.bmod_def]
  simp only [show (((2 ^ 32 : Nat) : Int)) = 4294967296 by decide]
  split <;> omega
theorem cm_add (x y : Int32) : (x + y).toInt = cm_wr (x.toInt + y.toInt) := by rw [Int32.toInt_add, cm_wr_b]
theorem cm_sub (x y : Int32) : (x - y).toInt = cm_wr (x.toInt - y.toInt) := by rw [Int32.toInt_sub, cm_wr_b]
theorem cm_mul (x y : Int32) : (x * y).toInt = cm_wr (x.toInt * y.toInt) := by rw [Int32.toInt_mul, cm_wr_b]
theorem cm_div (x y : Int32) : (x / y).toInt = cm_wr (x.toInt.tdiv y.toInt) := by rw [Int32.toInt_div, cm_wr_b]
theorem cm_rng (x : Int32) : -2147483648 ≤ x.toInt ∧ x.toInt < 2147483648 := by
  have h1 := x.le_toInt
  have h2 := x.toInt_lt
  omega
theorem cm_wr_id {x : Int} (h : -2147483648 ≤ x) (h' : x < 2147483648) : cm_wr x = x := by unfold cm_wr; omega
theorem cm_wr_e (x : Int) : ∃ k : Int, cm_wr x = x + k * 4294967296 := ⟨-((x + 2147483648) / 4294967296), by unfold cm_wr; omega⟩
theorem cm_rem (x y : Int32) (hy : ¬ y.toInt = 0) : (x - x / y * y).toInt = x.toInt.tmod y.toInt := by
  rw [cm_sub, cm_mul, cm_div]
  have hx := cm_rng x
  have hY := cm_rng y
  generalize x.toInt = a at hx ⊢
  generalize y.toInt = b at hY hy ⊢
  obtain ⟨k1, e1⟩ := cm_wr_e (a.tdiv b)
  obtain ⟨k2, e2⟩ := cm_wr_e (cm_wr (a.tdiv b) * b)
  have hd : a.tmod b = a - b * a.tdiv b := Int.tmod_def a b
  have hr : -2147483648 ≤ a.tmod b ∧ a.tmod b < 2147483648 := by
    have h1 : (a.tmod b).natAbs ≤ a.natAbs := by
      rw [Int.natAbs_tmod]
      exact Nat.mod_le _ _
    by_cases h2 : a = -2147483648
    · have h3 : (a.tmod b).natAbs < b.natAbs := by
        rw [Int.natAbs_tmod]
        exact Nat.mod_lt _ (by omega)
      omega
    · omega
  have e3 : a - cm_wr (cm_wr (a.tdiv b) * b) = a.tmod b + (-(k1 * b) - k2) * 4294967296 := by
    rw [e2, e1, hd, Int.add_mul, Int.sub_mul, Int.neg_mul, Int.mul_assoc k1, Int.mul_comm 4294967296 b, ← Int.mul_assoc k1, Int.mul_comm b]
    omega
  rw [e3]
  have : cm_wr (a.tmod b + (-(k1 * b) - k2) * 4294967296) = a.tmod b := by
    generalize -(k1 * b) - k2 = k
    unfold cm_wr
    omega
  exact this
theorem cm_toI (x : Int32) : Int32.ofInt x.toInt = x := Int32.ofInt_toInt x
theorem cm_ieq (x y : Int32) : x = y ↔ x.toInt = y.toInt := Int32.toInt_inj.symm
theorem cm_i64 (x : Int32) : x.toInt64 = Int64.ofInt x.toInt := by
  rw [← Int64.toInt_inj, Int32.toInt_toInt64, Int64.toInt_ofInt_of_le] <;> have := cm_rng x <;> omega
end
section
/-- from here on, with any heap and frame that are as told: the machine comes to Q -/
def cm_Go (Z : cm_Z) (p : Program) (l : Launch) (e : Env) (R : Room) (s : State) (m : MethodId) (args : Array Value) (below : List Frame) (meth : Method) (c : Code) (Q : State → Prop) (CC SS y : Nat) (hf : cm_H) (pc : Nat) (L : cm_L) (st : List cm_V) (h : cm_H) : Prop :=
  ∀ (H : Heap) (locs : List Loc) (cells slots : Nat) (rls : Array Slot) (rst : List Value), cm_hr Z h H → va_S (zA Z) s.heap H locs → L.length = cm_mL y → cm_lr Z L rls → cm_sr Z st rst → s.heap.size + cells ≤ zB Z + h.2.2.2.2.2.1 → cells + hf.2.2.2.2.2.1 ≤ CC + h.2.2.2.2.2.1 → slots + hf.2.2.2.2.2.2 ≤ SS + h.2.2.2.2.2.2 → W p l e R s m args below meth c H locs cells slots Q (F0 m pc rls rst)
theorem cm_ofI {n : Int} (h : -2147483648 ≤ n) (h' : n < 2147483648) : (Int32.ofInt n).toInt = n := by rw [Int32.toInt_ofInt, cm_wr_b, cm_wr_id h h']
section SO
variable {Z : cm_Z} {p : Program} {l : Launch} {e : Env} {R : Room} {s : State} {m : MethodId} {args : Array Value} {below : List Frame} {meth : Method} {c : Code} {Q : State → Prop} {CC SS y pc : Nat} {hf h : cm_H} {L : cm_L} {st : List cm_V}
theorem so_iconst (hx : p.tables.exec = Jvm.exec) (hb : c.code = cm_by y) {n : Int} (hv : -1 ≤ n ∧ n ≤ 5) (hd : decode (cm_by y) pc = .ok (.iconst n, 1)) (k : cm_Go Z p l e R s m args below meth c Q CC SS y hf (pc + 1) L (.inl n :: st) h) : cm_Go Z p l e R s m args below meth c Q CC SS y hf pc L st h := by
  intro H locs cells slots rls rst hH hS hn hL hs hz hc hq
  exact lv_iconst hx hb hd rfl (k H locs cells slots rls _ hH hS hn hL ⟨⟨_, rfl, cm_ofI (by omega) (by omega)⟩, hs⟩ hz hc hq)
theorem so_bipush (hx : p.tables.exec = Jvm.exec) (hb : c.code = cm_by y) {n : Int} (hv : -128 ≤ n ∧ n ≤ 127) (hd : decode (cm_by y) pc = .ok (.bipush n, 2)) (k : cm_Go Z p l e R s m args below meth c Q CC SS y hf (pc + 2) L (.inl n :: st) h) : cm_Go Z p l e R s m args below meth c Q CC SS y hf pc L st h := by
  intro H locs cells slots rls rst hH hS hn hL hs hz hc hq
  refine lv_bipush hx hb hd rfl (k H locs cells slots rls _ hH hS hn hL ⟨⟨_, rfl, ?_⟩, hs⟩ hz hc hq)
  rw [Int8.toInt_toInt32, Int8.toInt_ofInt, Int.bmod_def]
  simp only [show (((2 ^ 8 : Nat) : Int)) = 256 by decide]
  split <;> omega
theorem so_sipush (hx : p.tables.exec = Jvm.exec) (hb : c.code = cm_by y) {n : Int} (hv : -32768 ≤ n ∧ n ≤ 32767) (hd : decode (cm_by y) pc = .ok (.sipush n, 3)) (k : cm_Go Z p l e R s m args below meth c Q CC SS y hf (pc + 3) L (.inl n :: st) h) : cm_Go Z p l e R s m args below meth c Q CC SS y hf pc L st h := by
  intro H locs cells slots rls rst hH hS hn hL hs hz hc hq
  refine lv_sipush hx hb hd rfl (k H locs cells slots rls _ hH hS hn hL ⟨⟨_, rfl, ?_⟩, hs⟩ hz hc hq)
  rw [Int16.toInt_toInt32, Int16.toInt_ofInt, Int.bmod_def]
  simp only [show (((2 ^ 16 : Nat) : Int)) = 65536 by decide]
  split <;> omega
theorem so_lconst (hx : p.tables.exec = Jvm.exec) (hb : c.code = cm_by y) {n : Fin 2} (hd : decode (cm_by y) pc = .ok (.lconst n, 1)) (k : cm_Go Z p l e R s m args below meth c Q CC SS y hf (pc + 1) L (.inr (.inl (Int64.ofNat n.val)) :: st) h) : cm_Go Z p l e R s m args below meth c Q CC SS y hf pc L st h := by
  intro H locs cells slots rls rst hH hS hn hL hs hz hc hq
  exact lv_lconst hx hb hd rfl (k H locs cells slots rls _ hH hS hn hL ⟨rfl, hs⟩ hz hc hq)
theorem so_iload (hx : p.tables.exec = Jvm.exec) (hb : c.code = cm_by y) {i : Nat} {x : Int} (hl : L[i]? = some (some (.inl x))) (hd : decode (cm_by y) pc = .ok (.iload i, 2)) (k : cm_Go Z p l e R s m args below meth c Q CC SS y hf (pc + 2) L (.inl x :: st) h) : cm_Go Z p l e R s m args below meth c Q CC SS y hf pc L st h := by
  intro H locs cells slots rls rst hH hS hn hL hs hz hc hq
  obtain ⟨v, h1, h2⟩ := cm_lr_at hL hl
  obtain ⟨j, rfl, hj⟩ := cm_vr_i h2
  exact lv_iload hx hb hd h1 (k H locs cells slots rls _ hH hS hn hL ⟨h2, hs⟩ hz hc hq)
theorem so_iload_n (hx : p.tables.exec = Jvm.exec) (hb : c.code = cm_by y) {i : Fin 4} {x : Int} (hl : L[i.val]? = some (some (.inl x))) (hd : decode (cm_by y) pc = .ok (.iload_n i, 1)) (k : cm_Go Z p l e R s m args below meth c Q CC SS y hf (pc + 1) L (.inl x :: st) h) : cm_Go Z p l e R s m args below meth c Q CC SS y hf pc L st h := by
  intro H locs cells slots rls rst hH hS hn hL hs hz hc hq
  obtain ⟨v, h1, h2⟩ := cm_lr_at hL hl
  obtain ⟨j, rfl, hj⟩ := cm_vr_i h2
  exact lv_iload_n hx hb hd rfl h1 (k H locs cells slots rls _ hH hS hn hL ⟨h2, hs⟩ hz hc hq)
theorem so_lload (hx : p.tables.exec = Jvm.exec) (hb : c.code = cm_by y) {i : Nat} {x : Int64} (hl : L[i]? = some (some (.inr (.inl x)))) (hd : decode (cm_by y) pc = .ok (.lload i, 2)) (k : cm_Go Z p l e R s m args below meth c Q CC SS y hf (pc + 2) L (.inr (.inl x) :: st) h) : cm_Go Z p l e R s m args below meth c Q CC SS y hf pc L st h := by
  intro H locs cells slots rls rst hH hS hn hL hs hz hc hq
  obtain ⟨v, h1, h2⟩ := cm_lr_at hL hl
  have e := cm_vr_l h2
  subst e
  exact lv_lload hx hb hd h1 (k H locs cells slots rls _ hH hS hn hL ⟨h2, hs⟩ hz hc hq)
theorem so_lload_n (hx : p.tables.exec = Jvm.exec) (hb : c.code = cm_by y) {i : Fin 4} {x : Int64} (hl : L[i.val]? = some (some (.inr (.inl x)))) (hd : decode (cm_by y) pc = .ok (.lload_n i, 1)) (k : cm_Go Z p l e R s m args below meth c Q CC SS y hf (pc + 1) L (.inr (.inl x) :: st) h) : cm_Go Z p l e R s m args below meth c Q CC SS y hf pc L st h := by
  intro H locs cells slots rls rst hH hS hn hL hs hz hc hq
  obtain ⟨v, h1, h2⟩ := cm_lr_at hL hl
  have e := cm_vr_l h2
  subst e
  exact lv_lload_n hx hb hd rfl h1 (k H locs cells slots rls _ hH hS hn hL ⟨h2, hs⟩ hz hc hq)
theorem so_aload (hx : p.tables.exec = Jvm.exec) (hb : c.code = cm_by y) {i : Nat} {x : Nat} (hl : L[i]? = some (some (.inr (.inr x)))) (hd : decode (cm_by y) pc = .ok (.aload i, 2)) (k : cm_Go Z p l e R s m args below meth c Q CC SS y hf (pc + 2) L (.inr (.inr x) :: st) h) : cm_Go Z p l e R s m args below meth c Q CC SS y hf pc L st h := by
  intro H locs cells slots rls rst hH hS hn hL hs hz hc hq
  obtain ⟨v, h1, h2⟩ := cm_lr_at hL hl
  obtain ⟨j, rfl⟩ := cm_vr_r h2
  exact lv_aload hx hb hd h1 (k H locs cells slots rls _ hH hS hn hL ⟨h2, hs⟩ hz hc hq)
theorem so_aload_n (hx : p.tables.exec = Jvm.exec) (hb : c.code = cm_by y) {i : Fin 4} {x : Nat} (hl : L[i.val]? = some (some (.inr (.inr x)))) (hd : decode (cm_by y) pc = .ok (.aload_n i, 1)) (k : cm_Go Z p l e R s m args below meth c Q CC SS y hf (pc + 1) L (.inr (.inr x) :: st) h) : cm_Go Z p l e R s m args below meth c Q CC SS y hf pc L st h := by
  intro H locs cells slots rls rst hH hS hn hL hs hz hc hq
  obtain ⟨v, h1, h2⟩ := cm_lr_at hL hl
  obtain ⟨j, rfl⟩ := cm_vr_r h2
  exact lv_aload_n hx hb hd rfl h1 (k H locs cells slots rls _ hH hS hn hL ⟨h2, hs⟩ hz hc hq)
theorem cm_setl (L : cm_L) (i : Nat) (a : Option cm_V) : ((cm_kl L i).set i a).length = L.length := by rw [List.length_set, cm_kl_len]
theorem cm_setl2 (L : cm_L) (i : Nat) (a b : Option cm_V) : (((cm_kl L i).set i a).set (i + 1) b).length = L.length := by rw [List.length_set, List.length_set, cm_kl_len]
theorem so_istore (hx : p.tables.exec = Jvm.exec) (hb : c.code = cm_by y) {i : Nat} {x : Int} (hi : i < L.length) (hd : decode (cm_by y) pc = .ok (.istore i, 2)) (k : cm_Go Z p l e R s m args below meth c Q CC SS y hf (pc + 2) ((cm_kl L i).set i (some (.inl x))) st h) : cm_Go Z p l e R s m args below meth c Q CC SS y hf pc L (.inl x :: st) h := by
  intro H locs cells slots rls rst hH hS hn hL hs hz hc hq
  obtain ⟨j, r, rfl, hj, hs⟩ := cm_sr_i hs
  obtain ⟨lv, h1, h2⟩ := hL
  refine lv_istore hx hb hd h1 hi rfl (fun ls' hl' => ?_)
  exact k H locs cells slots ls' _ hH hS ((cm_setl _ _ _).trans hn) (cm_st1 h2 hi (v := .int j) (a := .inl x) ⟨j, rfl, hj⟩ hl') hs hz hc hq
theorem so_istore_n (hx : p.tables.exec = Jvm.exec) (hb : c.code = cm_by y) {i : Fin 4} {x : Int} (hi : i.val < L.length) (hd : decode (cm_by y) pc = .ok (.istore_n i, 1)) (k : cm_Go Z p l e R s m args below meth c Q CC SS y hf (pc + 1) ((cm_kl L i.val).set i.val (some (.inl x))) st h) : cm_Go Z p l e R s m args below meth c Q CC SS y hf pc L (.inl x :: st) h := by
  intro H locs cells slots rls rst hH hS hn hL hs hz hc hq
  obtain ⟨j, r, rfl, hj, hs⟩ := cm_sr_i hs
  obtain ⟨lv, h1, h2⟩ := hL
  refine lv_istore_n hx hb hd rfl h1 hi rfl (fun ls' hl' => ?_)
  exact k H locs cells slots ls' _ hH hS ((cm_setl _ _ _).trans hn) (cm_st1 h2 hi (v := .int j) (a := .inl x) ⟨j, rfl, hj⟩ hl') hs hz hc hq
theorem so_astore (hx : p.tables.exec = Jvm.exec) (hb : c.code = cm_by y) {i : Nat} {x : Nat} (hi : i < L.length) (hd : decode (cm_by y) pc = .ok (.astore i, 2)) (k : cm_Go Z p l e R s m args below meth c Q CC SS y hf (pc + 2) ((cm_kl L i).set i (some (.inr (.inr x)))) st h) : cm_Go Z p l e R s m args below meth c Q CC SS y hf pc L (.inr (.inr x) :: st) h := by
  intro H locs cells slots rls rst hH hS hn hL hs hz hc hq
  obtain ⟨j, r, rfl, hj, hs⟩ := cm_sr_r hs
  obtain ⟨lv, h1, h2⟩ := hL
  refine lv_astore hx hb hd h1 hi rfl (fun ls' hl' => ?_)
  exact k H locs cells slots ls' _ hH hS ((cm_setl _ _ _).trans hn) (cm_st1 h2 hi (v := .ref j) (a := .inr (.inr x)) hj hl') hs hz hc hq
theorem so_astore_n (hx : p.tables.exec = Jvm.exec) (hb : c.code = cm_by y) {i : Fin 4} {x : Nat} (hi : i.val < L.length) (hd : decode (cm_by y) pc = .ok (.astore_n i, 1)) (k : cm_Go Z p l e R s m args below meth c Q CC SS y hf (pc + 1) ((cm_kl L i.val).set i.val (some (.inr (.inr x)))) st h) : cm_Go Z p l e R s m args below meth c Q CC SS y hf pc L (.inr (.inr x) :: st) h := by
  intro H locs cells slots rls rst hH hS hn hL hs hz hc hq
  obtain ⟨j, r, rfl, hj, hs⟩ := cm_sr_r hs
  obtain ⟨lv, h1, h2⟩ := hL
  refine lv_astore_n hx hb hd rfl h1 hi rfl (fun ls' hl' => ?_)
  exact k H locs cells slots ls' _ hH hS ((cm_setl _ _ _).trans hn) (cm_st1 h2 hi (v := .ref j) (a := .inr (.inr x)) hj hl') hs hz hc hq
theorem so_lstore (hx : p.tables.exec = Jvm.exec) (hb : c.code = cm_by y) {i : Nat} {x : Int64} (hi : i + 1 < L.length) (hd : decode (cm_by y) pc = .ok (.lstore i, 2)) (k : cm_Go Z p l e R s m args below meth c Q CC SS y hf (pc + 2) (((cm_kl L i).set i (some (.inr (.inl x)))).set (i + 1) none) st h) : cm_Go Z p l e R s m args below meth c Q CC SS y hf pc L (.inr (.inl x) :: st) h := by
  intro H locs cells slots rls rst hH hS hn hL hs hz hc hq
  obtain ⟨r, rfl, hs2⟩ := cm_sr_l hs
  obtain ⟨lv, h1, h2⟩ := hL
  refine lv_lstore hx hb hd h1 hi rfl (fun ls' hl' => ?_)
  exact k H locs cells slots ls' _ hH hS ((cm_setl2 _ _ _ _).trans hn) (cm_st2 h2 hi (v := .long x) (a := .inr (.inl x)) rfl hl') hs2 hz hc hq
theorem so_lstore_n (hx : p.tables.exec = Jvm.exec) (hb : c.code = cm_by y) {i : Fin 4} {x : Int64} (hi : i.val + 1 < L.length) (hd : decode (cm_by y) pc = .ok (.lstore_n i, 1)) (k : cm_Go Z p l e R s m args below meth c Q CC SS y hf (pc + 1) (((cm_kl L i.val).set i.val (some (.inr (.inl x)))).set (i.val + 1) none) st h) : cm_Go Z p l e R s m args below meth c Q CC SS y hf pc L (.inr (.inl x) :: st) h := by
  intro H locs cells slots rls rst hH hS hn hL hs hz hc hq
  obtain ⟨r, rfl, hs2⟩ := cm_sr_l hs
  obtain ⟨lv, h1, h2⟩ := hL
  refine lv_lstore_n hx hb hd rfl h1 hi rfl (fun ls' hl' => ?_)
  exact k H locs cells slots ls' _ hH hS ((cm_setl2 _ _ _ _).trans hn) (cm_st2 h2 hi (v := .long x) (a := .inr (.inl x)) rfl hl') hs2 hz hc hq
theorem so_iinc (hx : p.tables.exec = Jvm.exec) (hb : c.code = cm_by y) {i : Nat} {n x : Int} (hv : -32768 ≤ n ∧ n ≤ 32767) (hl : L[i]? = some (some (.inl x))) (hd : decode (cm_by y) pc = .ok (.iinc i n, 3)) (k : cm_Go Z p l e R s m args below meth c Q CC SS y hf (pc + 3) (L.set i (some (.inl (cm_wr (x + n))))) st h) : cm_Go Z p l e R s m args below meth c Q CC SS y hf pc L st h := by
  intro H locs cells slots rls rst hH hS hn hL hs hz hc hq
  have hi : i < L.length := (List.getElem?_eq_some_iff.mp hl).1
  obtain ⟨lv, h1, h2⟩ := hL
  obtain ⟨v, hm, h3⟩ := h2 i _ hl
  obtain ⟨j, rfl, hj⟩ := cm_vr_i h3
  obtain ⟨q, hq1⟩ := List.getElem?_of_mem hm
  refine lv_iinc hx hb hd h1 hq1 rfl hi rfl (fun ls' hl' => ?_)
  have hkl : (cm_kl L i).set i (some (.inl (cm_wr (x + n)))) = L.set i (some (.inl (cm_wr (x + n)))) ∨ True := Or.inr trivial
  refine k H locs cells slots ls' _ hH hS ((List.length_set ..).trans hn) ?_ hs hz hc hq
  have hadd : (j + Int32.ofInt n).toInt = cm_wr (x + n) := by rw [cm_add, hj, cm_ofI (by omega) (by omega)]
  refine ⟨_, by rw [List.length_set]; exact hl', fun t b ht => ?_⟩
  by_cases hti : i = t
  · subst hti
    rw [List.getElem?_set] at ht
    simp only [if_true, hi] at ht
    cases ht
    exact ⟨_, List.mem_cons_self, _, rfl, hadd⟩
  · rw [List.getElem?_set_ne hti] at ht
    obtain ⟨w, hm2, hw⟩ := h2 t b ht
    refine ⟨w, List.mem_cons_of_mem _ (List.mem_filter.mpr ⟨hm2, ?_⟩), hw⟩
    have e1 : (t == i) = false := by simpa using fun e => hti e.symm
    have e2 : (t + 1 == i && w.category == 2) = false := by
      cases e3 : (t + 1 == i) with
      | false => rfl
      | true =>
        have e4 : t + 1 = i := by simpa using e3
        have hw1 : ls'.size = L.length := hl'.1
        have h5 := h1.2.2 _ hm2
        have h6 := h1.2.2 _ hm
        by_cases h7 : w.category = 2
        · have h8 := h1.2.1.1 t w h5 h7
          rw [e4] at h8
          have h9 : some (Slot.val (Value.int j)) = some Slot.second := h6.symm.trans h8
          cases h9
        · simpa using h7
    simp [e1, e2]
theorem so_iadd (hx : p.tables.exec = Jvm.exec) (hb : c.code = cm_by y) {a b : Int} (hd : decode (cm_by y) pc = .ok (.iadd, 1)) (k : cm_Go Z p l e R s m args below meth c Q CC SS y hf (pc + 1) L (.inl (cm_wr (a + b)) :: st) h) : cm_Go Z p l e R s m args below meth c Q CC SS y hf pc L (.inl b :: .inl a :: st) h := by
  intro H locs cells slots rls rst hH hS hn hL hs hz hc hq
  obtain ⟨i, r, rfl, hi, hs⟩ := cm_sr_i hs
  obtain ⟨j, r, rfl, hj, hs⟩ := cm_sr_i hs
  exact lv_iadd hx hb hd (k H locs cells slots rls _ hH hS hn hL ⟨⟨_, rfl, by rw [cm_add, hi, hj]⟩, hs⟩ hz hc hq)
theorem so_isub (hx : p.tables.exec = Jvm.exec) (hb : c.code = cm_by y) {a b : Int} (hd : decode (cm_by y) pc = .ok (.isub, 1)) (k : cm_Go Z p l e R s m args below meth c Q CC SS y hf (pc + 1) L (.inl (cm_wr (a - b)) :: st) h) : cm_Go Z p l e R s m args below meth c Q CC SS y hf pc L (.inl b :: .inl a :: st) h := by
  intro H locs cells slots rls rst hH hS hn hL hs hz hc hq
  obtain ⟨i, r, rfl, hi, hs⟩ := cm_sr_i hs
  obtain ⟨j, r, rfl, hj, hs⟩ := cm_sr_i hs
  exact lv_isub hx hb hd (k H locs cells slots rls _ hH hS hn hL ⟨⟨_, rfl, by rw [cm_sub, hi, hj]⟩, hs⟩ hz hc hq)
theorem so_imul (hx : p.tables.exec = Jvm.exec) (hb : c.code = cm_by y) {a b : Int} (hd : decode (cm_by y) pc = .ok (.imul, 1)) (k : cm_Go Z p l e R s m args below meth c Q CC SS y hf (pc + 1) L (.inl (cm_wr (a * b)) :: st) h) : cm_Go Z p l e R s m args below meth c Q CC SS y hf pc L (.inl b :: .inl a :: st) h := by
  intro H locs cells slots rls rst hH hS hn hL hs hz hc hq
  obtain ⟨i, r, rfl, hi, hs⟩ := cm_sr_i hs
  obtain ⟨j, r, rfl, hj, hs⟩ := cm_sr_i hs
  exact lv_imul hx hb hd (k H locs cells slots rls _ hH hS hn hL ⟨⟨_, rfl, by rw [cm_mul, hi, hj]⟩, hs⟩ hz hc hq)
theorem so_iand (hx : p.tables.exec = Jvm.exec) (hb : c.code = cm_by y) {a b : Int} (hd : decode (cm_by y) pc = .ok (.iand, 1)) (k : cm_Go Z p l e R s m args below meth c Q CC SS y hf (pc + 1) L (.inl (cm_and a b) :: st) h) : cm_Go Z p l e R s m args below meth c Q CC SS y hf pc L (.inl b :: .inl a :: st) h := by
  intro H locs cells slots rls rst hH hS hn hL hs hz hc hq
  obtain ⟨i, r, rfl, hi, hs⟩ := cm_sr_i hs
  obtain ⟨j, r, rfl, hj, hs⟩ := cm_sr_i hs
  exact lv_iand hx hb hd (k H locs cells slots rls _ hH hS hn hL ⟨⟨_, rfl, by rw [cm_and, ← hi, ← hj, cm_toI, cm_toI]⟩, hs⟩ hz hc hq)
theorem so_ior (hx : p.tables.exec = Jvm.exec) (hb : c.code = cm_by y) {a b : Int} (hd : decode (cm_by y) pc = .ok (.ior, 1)) (k : cm_Go Z p l e R s m args below meth c Q CC SS y hf (pc + 1) L (.inl (cm_or a b) :: st) h) : cm_Go Z p l e R s m args below meth c Q CC SS y hf pc L (.inl b :: .inl a :: st) h := by
  intro H locs cells slots rls rst hH hS hn hL hs hz hc hq
  obtain ⟨i, r, rfl, hi, hs⟩ := cm_sr_i hs
  obtain ⟨j, r, rfl, hj, hs⟩ := cm_sr_i hs
  exact lv_ior hx hb hd (k H locs cells slots rls _ hH hS hn hL ⟨⟨_, rfl, by rw [cm_or, ← hi, ← hj, cm_toI, cm_toI]⟩, hs⟩ hz hc hq)
theorem so_ishl (hx : p.tables.exec = Jvm.exec) (hb : c.code = cm_by y) {a b : Int} (hd : decode (cm_by y) pc = .ok (.ishl, 1)) (k : cm_Go Z p l e R s m args below meth c Q CC SS y hf (pc + 1) L (.inl (cm_shl a b) :: st) h) : cm_Go Z p l e R s m args below meth c Q CC SS y hf pc L (.inl b :: .inl a :: st) h := by
  intro H locs cells slots rls rst hH hS hn hL hs hz hc hq
  obtain ⟨i, r, rfl, hi, hs⟩ := cm_sr_i hs
  obtain ⟨j, r, rfl, hj, hs⟩ := cm_sr_i hs
  exact lv_ishl hx hb hd (k H locs cells slots rls _ hH hS hn hL ⟨⟨_, rfl, by rw [cm_shl, ← hi, ← hj, cm_toI, cm_toI]⟩, hs⟩ hz hc hq)
theorem so_ishr (hx : p.tables.exec = Jvm.exec) (hb : c.code = cm_by y) {a b : Int} (hd : decode (cm_by y) pc = .ok (.ishr, 1)) (k : cm_Go Z p l e R s m args below meth c Q CC SS y hf (pc + 1) L (.inl (cm_shr a b) :: st) h) : cm_Go Z p l e R s m args below meth c Q CC SS y hf pc L (.inl b :: .inl a :: st) h := by
  intro H locs cells slots rls rst hH hS hn hL hs hz hc hq
  obtain ⟨i, r, rfl, hi, hs⟩ := cm_sr_i hs
  obtain ⟨j, r, rfl, hj, hs⟩ := cm_sr_i hs
  exact lv_ishr hx hb hd (k H locs cells slots rls _ hH hS hn hL ⟨⟨_, rfl, by rw [cm_shr, ← hi, ← hj, cm_toI, cm_toI]⟩, hs⟩ hz hc hq)
theorem so_iushr (hx : p.tables.exec = Jvm.exec) (hb : c.code = cm_by y) {a b : Int} (hd : decode (cm_by y) pc = .ok (.iushr, 1)) (k : cm_Go Z p l e R s m args below meth c Q CC SS y hf (pc + 1) L (.inl (cm_ushr a b) :: st) h) : cm_Go Z p l e R s m args below meth c Q CC SS y hf pc L (.inl b :: .inl a :: st) h := by
  intro H locs cells slots rls rst hH hS hn hL hs hz hc hq
  obtain ⟨i, r, rfl, hi, hs⟩ := cm_sr_i hs
  obtain ⟨j, r, rfl, hj, hs⟩ := cm_sr_i hs
  exact lv_iushr hx hb hd rfl (k H locs cells slots rls _ hH hS hn hL ⟨⟨_, rfl, by rw [cm_ushr, ← hi, ← hj, cm_toI, cm_toI]⟩, hs⟩ hz hc hq)
theorem so_idiv (hx : p.tables.exec = Jvm.exec) (hb : c.code = cm_by y) {a b : Int} (h0 : b ≠ 0) (hd : decode (cm_by y) pc = .ok (.idiv, 1)) (k : cm_Go Z p l e R s m args below meth c Q CC SS y hf (pc + 1) L (.inl (cm_wr (a.tdiv b)) :: st) h) : cm_Go Z p l e R s m args below meth c Q CC SS y hf pc L (.inl b :: .inl a :: st) h := by
  intro H locs cells slots rls rst hH hS hn hL hs hz hc hq
  obtain ⟨i, r, rfl, hi, hs⟩ := cm_sr_i hs
  obtain ⟨j, r, rfl, hj, hs⟩ := cm_sr_i hs
  exact lv_idiv hx hb hd (fun e => h0 (by rw [← hi, e]; rfl)) (k H locs cells slots rls _ hH hS hn hL ⟨⟨_, rfl, by rw [cm_div, hi, hj]⟩, hs⟩ hz hc hq)
theorem so_irem (hx : p.tables.exec = Jvm.exec) (hb : c.code = cm_by y) {a b : Int} (h0 : b ≠ 0) (hd : decode (cm_by y) pc = .ok (.irem, 1)) (k : cm_Go Z p l e R s m args below meth c Q CC SS y hf (pc + 1) L (.inl (a.tmod b) :: st) h) : cm_Go Z p l e R s m args below meth c Q CC SS y hf pc L (.inl b :: .inl a :: st) h := by
  intro H locs cells slots rls rst hH hS hn hL hs hz hc hq
  obtain ⟨i, r, rfl, hi, hs⟩ := cm_sr_i hs
  obtain ⟨j, r, rfl, hj, hs⟩ := cm_sr_i hs
  exact lv_irem hx hb hd (fun e => h0 (by rw [← hi, e]; rfl)) (k H locs cells slots rls _ hH hS hn hL ⟨⟨_, rfl, by rw [cm_rem _ _ (by rw [hi]; exact h0), hi, hj]⟩, hs⟩ hz hc hq)
theorem so_ladd (hx : p.tables.exec = Jvm.exec) (hb : c.code = cm_by y) {a b : Int64} (hd : decode (cm_by y) pc = .ok (.ladd, 1)) (k : cm_Go Z p l e R s m args below meth c Q CC SS y hf (pc + 1) L (.inr (.inl (a + b)) :: st) h) : cm_Go Z p l e R s m args below meth c Q CC SS y hf pc L (.inr (.inl b) :: .inr (.inl a) :: st) h := by
  intro H locs cells slots rls rst hH hS hn hL hs hz hc hq
  obtain ⟨r1, rfl, hs1⟩ := cm_sr_l hs
  obtain ⟨r, rfl, hs2⟩ := cm_sr_l hs1
  exact lv_ladd hx hb hd (k H locs cells slots rls _ hH hS hn hL ⟨rfl, hs2⟩ hz hc hq)
theorem so_lmul (hx : p.tables.exec = Jvm.exec) (hb : c.code = cm_by y) {a b : Int64} (hd : decode (cm_by y) pc = .ok (.lmul, 1)) (k : cm_Go Z p l e R s m args below meth c Q CC SS y hf (pc + 1) L (.inr (.inl (a * b)) :: st) h) : cm_Go Z p l e R s m args below meth c Q CC SS y hf pc L (.inr (.inl b) :: .inr (.inl a) :: st) h := by
  intro H locs cells slots rls rst hH hS hn hL hs hz hc hq
  obtain ⟨r1, rfl, hs1⟩ := cm_sr_l hs
  obtain ⟨r, rfl, hs2⟩ := cm_sr_l hs1
  exact lv_lmul hx hb hd (k H locs cells slots rls _ hH hS hn hL ⟨rfl, hs2⟩ hz hc hq)
theorem so_ldiv (hx : p.tables.exec = Jvm.exec) (hb : c.code = cm_by y) {a b : Int64} (h0 : b ≠ 0) (hd : decode (cm_by y) pc = .ok (.ldiv, 1)) (k : cm_Go Z p l e R s m args below meth c Q CC SS y hf (pc + 1) L (.inr (.inl (a / b)) :: st) h) : cm_Go Z p l e R s m args below meth c Q CC SS y hf pc L (.inr (.inl b) :: .inr (.inl a) :: st) h := by
  intro H locs cells slots rls rst hH hS hn hL hs hz hc hq
  obtain ⟨r1, rfl, hs1⟩ := cm_sr_l hs
  obtain ⟨r, rfl, hs2⟩ := cm_sr_l hs1
  exact lv_ldiv hx hb hd h0 (k H locs cells slots rls _ hH hS hn hL ⟨rfl, hs2⟩ hz hc hq)
theorem cm_lcc (a b : Int64) : (lg_cmp a b).toInt = cm_lc a b := by
  unfold lg_cmp cm_lc
  by_cases h1 : a = b
  · subst h1
    have : ¬ a > a := by simp [Int64.lt_iff_toInt_lt]
    simp [this]
  · by_cases h2 : a < b
    · have h3 : ¬ b < a := by simp only [Int64.lt_iff_toInt_lt] at h2 ⊢; omega
      simp only [h1, h2, gt_iff_lt, h3, if_false, if_true]
      rfl
    · have h3 : b < a := by
        rw [← Int64.toInt_inj] at h1
        simp only [Int64.lt_iff_toInt_lt] at h2 ⊢
        omega
      simp only [h1, h2, gt_iff_lt, h3, if_false, if_true]
      rfl
theorem so_lcmp (hx : p.tables.exec = Jvm.exec) (hb : c.code = cm_by y) {a b : Int64} (hd : decode (cm_by y) pc = .ok (.lcmp, 1)) (k : cm_Go Z p l e R s m args below meth c Q CC SS y hf (pc + 1) L (.inl (cm_lc a b) :: st) h) : cm_Go Z p l e R s m args below meth c Q CC SS y hf pc L (.inr (.inl b) :: .inr (.inl a) :: st) h := by
  intro H locs cells slots rls rst hH hS hn hL hs hz hc hq
  obtain ⟨r1, rfl, hs1⟩ := cm_sr_l hs
  obtain ⟨r, rfl, hs2⟩ := cm_sr_l hs1
  exact W.lcmp hx hb hd (k H locs cells slots rls _ hH hS hn hL ⟨⟨_, rfl, cm_lcc a b⟩, hs2⟩ hz hc hq)
theorem so_i2l (hx : p.tables.exec = Jvm.exec) (hb : c.code = cm_by y) {a : Int} (hd : decode (cm_by y) pc = .ok (.i2l, 1)) (k : cm_Go Z p l e R s m args below meth c Q CC SS y hf (pc + 1) L (.inr (.inl (Int64.ofInt a)) :: st) h) : cm_Go Z p l e R s m args below meth c Q CC SS y hf pc L (.inl a :: st) h := by
  intro H locs cells slots rls rst hH hS hn hL hs hz hc hq
  obtain ⟨i, r, rfl, hi, hs⟩ := cm_sr_i hs
  exact lv_i2l hx hb hd rfl (k H locs cells slots rls _ hH hS hn hL ⟨by rw [cm_i64, hi]; rfl, hs⟩ hz hc hq)
theorem so_dup (hx : p.tables.exec = Jvm.exec) (hb : c.code = cm_by y) {a : cm_V} (h1 : cm_cat a = 1) (hd : decode (cm_by y) pc = .ok (.dup, 1)) (k : cm_Go Z p l e R s m args below meth c Q CC SS y hf (pc + 1) L (a :: a :: st) h) : cm_Go Z p l e R s m args below meth c Q CC SS y hf pc L (a :: st) h := by
  intro H locs cells slots rls rst hH hS hn hL hs hz hc hq
  obtain ⟨v, r, rfl, hv, hs⟩ := cm_sr_cons hs
  exact lv_dup hx hb hd ((cm_cat_eq hv).trans h1) (k H locs cells slots rls _ hH hS hn hL ⟨hv, hv, hs⟩ hz hc hq)
theorem so_pop (hx : p.tables.exec = Jvm.exec) (hb : c.code = cm_by y) {a : cm_V} (h1 : cm_cat a = 1) (hd : decode (cm_by y) pc = .ok (.pop, 1)) (k : cm_Go Z p l e R s m args below meth c Q CC SS y hf (pc + 1) L st h) : cm_Go Z p l e R s m args below meth c Q CC SS y hf pc L (a :: st) h := by
  intro H locs cells slots rls rst hH hS hn hL hs hz hc hq
  obtain ⟨v, r, rfl, hv, hs⟩ := cm_sr_cons hs
  exact lv_pop hx hb hd ((cm_cat_eq hv).trans h1) (k H locs cells slots rls _ hH hS hn hL hs hz hc hq)
theorem so_dup2 (hx : p.tables.exec = Jvm.exec) (hb : c.code = cm_by y) {a b : cm_V} (h1 : cm_cat a = 1) (h2 : cm_cat b = 1) (hd : decode (cm_by y) pc = .ok (.dup2, 1)) (k : cm_Go Z p l e R s m args below meth c Q CC SS y hf (pc + 1) L (b :: a :: b :: a :: st) h) : cm_Go Z p l e R s m args below meth c Q CC SS y hf pc L (b :: a :: st) h := by
  intro H locs cells slots rls rst hH hS hn hL hs hz hc hq
  obtain ⟨v, r, rfl, hv, hs⟩ := cm_sr_cons hs
  obtain ⟨w, r, rfl, hw, hs⟩ := cm_sr_cons hs
  exact lv_dup2_11 hx hb hd ((cm_cat_eq hv).trans h2) ((cm_cat_eq hw).trans h1) (k H locs cells slots rls _ hH hS hn hL ⟨hv, hw, hv, hw, hs⟩ hz hc hq)
theorem cm_tgI {pc : Nat} {o : Int} (h : cm_tg pc o = true) : (pc : Int) + o = ((cm_tgt pc o : Nat) : Int) := by
  unfold cm_tg at h
  unfold cm_tgt
  have := of_decide_eq_true h
  omega
theorem so_goto (hx : p.tables.exec = Jvm.exec) (hb : c.code = cm_by y) {o : Int} {a : Nat} (ht : cm_tg pc o = true) (hd : decode (cm_by y) pc = .ok (.goto o, 3)) (k : cm_Go Z p l e R s m args below meth c Q CC SS y hf (cm_tgt pc o) (cm_fg a L) st h) : cm_Go Z p l e R s m args below meth c Q CC SS y hf pc L st h := by
  intro H locs cells slots rls rst hH hS hn hL hs hz hc hq
  exact lv_goto hx hb hd (cm_tgI ht) (k H locs cells slots rls _ hH hS ((cm_fg_len _ _).trans hn) (cm_lr_fg hL a) hs hz hc hq)
def cm_tst (c : ClassFile.Cond) (a b : Int) : Prop := match c with
  | .eq => a = b
  | .ne => ¬ a = b
  | .lt => a < b
  | .ge => ¬ a < b
  | .gt => b < a
  | .le => ¬ b < a
theorem cm_br_inv {c : ClassFile.Cond} {a b : Int} {t e : cm_R} {q} (h : cm_br c a b t e = some q) : (cm_tst c a b ∧ t = some q) ∨ (¬ cm_tst c a b ∧ e = some q) := by
  cases c <;> (unfold cm_br at h; unfold cm_tst; simp only at h ⊢; split at h <;> rename_i hh) <;> first | exact Or.inl ⟨hh, h⟩ | exact Or.inr ⟨hh, h⟩ | exact Or.inr ⟨fun z => z hh, h⟩
theorem cm_ltI (x y : Int32) : x < y ↔ x.toInt < y.toInt := Int32.lt_iff_toInt_lt
theorem cm_leI (x y : Int32) : x ≤ y ↔ x.toInt ≤ y.toInt := Int32.le_iff_toInt_le
theorem so_if (hx : p.tables.exec = Jvm.exec) (hb : c.code = cm_by y) {cd : ClassFile.Cond} {o a : Int} (ht : cm_tg pc o = true) (hd : decode (cm_by y) pc = .ok (.ifCond cd o, 3)) (kt : cm_tst cd a 0 → cm_Go Z p l e R s m args below meth c Q CC SS y hf (cm_tgt pc o) L st h) (kf : ¬ cm_tst cd a 0 → cm_Go Z p l e R s m args below meth c Q CC SS y hf (pc + 3) L st h) : cm_Go Z p l e R s m args below meth c Q CC SS y hf pc L (.inl a :: st) h := by
  intro H locs cells slots rls rst hH hS hn hL hs hz hc hq
  obtain ⟨i, r, rfl, hi, hs⟩ := cm_sr_i hs
  have e0 : (0 : Int32).toInt = 0 := rfl
  cases cd with
  | eq => exact lv_if_eq hx hb hd (cm_tgI ht) (fun z => kt (by show a = 0; rw [← hi, z]; rfl) H locs cells slots rls _ hH hS hn hL hs hz hc hq) (fun z => kf (fun w => z (by rw [cm_ieq, hi, e0]; exact w)) H locs cells slots rls _ hH hS hn hL hs hz hc hq)
  | ne => exact lv_if_ne hx hb hd (cm_tgI ht) (fun z => kt (fun w => z (by rw [cm_ieq, hi, e0]; exact w)) H locs cells slots rls _ hH hS hn hL hs hz hc hq) (fun z => kf (fun w => w (by rw [← hi, z]; rfl)) H locs cells slots rls _ hH hS hn hL hs hz hc hq)
  | lt => exact lv_if_lt hx hb hd (cm_tgI ht) (fun z => kt (by rw [cm_ltI, hi, e0] at z; exact z) H locs cells slots rls _ hH hS hn hL hs hz hc hq) (fun z => kf (by rw [cm_ltI, hi, e0] at z; exact z) H locs cells slots rls _ hH hS hn hL hs hz hc hq)
  | ge => exact lv_if_ge hx hb hd (cm_tgI ht) (fun z => kt (by rw [cm_leI, hi, e0] at z; exact Int.not_lt.mpr z) H locs cells slots rls _ hH hS hn hL hs hz hc hq) (fun z => kf (by rw [cm_leI, hi, e0] at z; exact fun w => z (Int.not_lt.mp w)) H locs cells slots rls _ hH hS hn hL hs hz hc hq)
  | gt => exact lv_if_gt hx hb hd (cm_tgI ht) (fun z => kt (by rw [cm_ltI, hi, e0] at z; exact z) H locs cells slots rls _ hH hS hn hL hs hz hc hq) (fun z => kf (by rw [cm_ltI, hi, e0] at z; exact z) H locs cells slots rls _ hH hS hn hL hs hz hc hq)
  | le => exact lv_if_le hx hb hd (cm_tgI ht) (fun z => kt (by rw [cm_leI, hi, e0] at z; exact Int.not_lt.mpr z) H locs cells slots rls _ hH hS hn hL hs hz hc hq) (fun z => kf (by rw [cm_leI, hi, e0] at z; exact fun w => z (Int.not_lt.mp w)) H locs cells slots rls _ hH hS hn hL hs hz hc hq)
theorem so_icmp (hx : p.tables.exec = Jvm.exec) (hb : c.code = cm_by y) {cd : ClassFile.Cond} {o a b : Int} (ht : cm_tg pc o = true) (hd : decode (cm_by y) pc = .ok (.if_icmp cd o, 3)) (kt : cm_tst cd a b → cm_Go Z p l e R s m args below meth c Q CC SS y hf (cm_tgt pc o) L st h) (kf : ¬ cm_tst cd a b → cm_Go Z p l e R s m args below meth c Q CC SS y hf (pc + 3) L st h) : cm_Go Z p l e R s m args below meth c Q CC SS y hf pc L (.inl b :: .inl a :: st) h := by
  intro H locs cells slots rls rst hH hS hn hL hs hz hc hq
  obtain ⟨j, r, rfl, hj, hs⟩ := cm_sr_i hs
  obtain ⟨i, r, rfl, hi, hs⟩ := cm_sr_i hs
  cases cd with
  | eq => exact lv_icmp_eq hx hb hd (cm_tgI ht) (fun z => kt (by rw [cm_ieq, hi, hj] at z; exact z) H locs cells slots rls _ hH hS hn hL hs hz hc hq) (fun z => kf (by rw [cm_ieq, hi, hj] at z; exact z) H locs cells slots rls _ hH hS hn hL hs hz hc hq)
  | ne => exact lv_icmp_ne hx hb hd (cm_tgI ht) (fun z => kt (fun w => z (by rw [cm_ieq, hi, hj]; exact w)) H locs cells slots rls _ hH hS hn hL hs hz hc hq) (fun z => kf (fun w => w (by rw [cm_ieq, hi, hj] at z; exact z)) H locs cells slots rls _ hH hS hn hL hs hz hc hq)
  | lt => exact lv_icmp_lt hx hb hd (cm_tgI ht) (fun z => kt (by rw [cm_ltI, hi, hj] at z; exact z) H locs cells slots rls _ hH hS hn hL hs hz hc hq) (fun z => kf (by rw [cm_ltI, hi, hj] at z; exact z) H locs cells slots rls _ hH hS hn hL hs hz hc hq)
  | ge => exact lv_icmp_ge hx hb hd (cm_tgI ht) (fun z => kt (by rw [cm_leI, hi, hj] at z; exact Int.not_lt.mpr z) H locs cells slots rls _ hH hS hn hL hs hz hc hq) (fun z => kf (by rw [cm_leI, hi, hj] at z; exact fun w => z (Int.not_lt.mp w)) H locs cells slots rls _ hH hS hn hL hs hz hc hq)
  | gt => exact lv_icmp_gt hx hb hd (cm_tgI ht) (fun z => kt (by rw [cm_ltI, hi, hj] at z; exact z) H locs cells slots rls _ hH hS hn hL hs hz hc hq) (fun z => kf (by rw [cm_ltI, hi, hj] at z; exact z) H locs cells slots rls _ hH hS hn hL hs hz hc hq)
  | le => exact lv_icmp_le hx hb hd (cm_tgI ht) (fun z => kt (by rw [cm_leI, hi, hj] at z; exact Int.not_lt.mpr z) H locs cells slots rls _ hH hS hn hL hs hz hc hq) (fun z => kf (by rw [cm_leI, hi, hj] at z; exact fun w => z (Int.not_lt.mp w)) H locs cells slots rls _ hH hS hn hL hs hz hc hq)
theorem cm_tsw_inv {r : (Option cm_V ⊕ Nat) × cm_H} {x : Int} {d : cm_R} {j : Int → cm_R} : ∀ (os : List Int) (a : Int), cm_tsw os x a d j = some r → ((x < a ∨ a + (os.length : Int) ≤ x) ∧ d = some r) ∨ (∃ o, a ≤ x ∧ x < a + (os.length : Int) ∧ os[(x - a).toNat]? = some o ∧ j o = some r) := by
  intro os
  induction os with
  | nil => intro a h; exact Or.inl ⟨by simp only [List.length_nil]; omega, h⟩
  | cons o os ih =>
    intro a h
    unfold cm_tsw at h
    split at h
    · rename_i e
      subst e
      exact Or.inr ⟨o, by omega, by simp only [List.length_cons]; omega, by simp, h⟩
    · rename_i e
      rcases ih (a + 1) h with ⟨h1, h2⟩ | ⟨o', h1, h2, h3, h4⟩
      · refine Or.inl ⟨?_, h2⟩
        simp only [List.length_cons]
        omega
      · refine Or.inr ⟨o', by omega, by simp only [List.length_cons]; omega, ?_, h4⟩
        have e1 : (x - a).toNat = (x - (a + 1)).toNat + 1 := by omega
        rw [e1, List.getElem?_cons_succ]
        exact h3
theorem so_tsw (hx : p.tables.exec = Jvm.exec) (hb : c.code = cm_by y) {d lo hi x : Int} {os : Array Int} {ln : Nat} (h0 : cm_tg pc d = true) (h1 : os.toList.all (cm_tg pc) = true) (h2 : hi - lo + 1 = (os.toList.length : Int)) (hd : decode (cm_by y) pc = .ok (.tableswitch d lo hi os, ln)) (kd : (x < lo ∨ lo + (os.toList.length : Int) ≤ x) → cm_Go Z p l e R s m args below meth c Q CC SS y hf (cm_tgt pc d) L st h) (kj : ∀ o, lo ≤ x → x < lo + (os.toList.length : Int) → os.toList[(x - lo).toNat]? = some o → cm_Go Z p l e R s m args below meth c Q CC SS y hf (cm_tgt pc o) L st h) : cm_Go Z p l e R s m args below meth c Q CC SS y hf pc L (.inl x :: st) h := by
  intro H locs cells slots rls rst hH hS hn hL hs hz hc hq
  obtain ⟨i, r, rfl, hi', hs⟩ := cm_sr_i hs
  by_cases hin : x < lo ∨ hi < x
  · exact lv_tableOut hx hb hd (by rw [hi']; exact hin) (cm_tgI h0) (kd (by omega) H locs cells slots rls _ hH hS hn hL hs hz hc hq)
  · have h3 : (x - lo).toNat < os.toList.length := by omega
    have h4 : os.toList[(x - lo).toNat]? = some os.toList[(x - lo).toNat] := List.getElem?_eq_getElem h3
    refine lv_tableIn hx hb hd (by rw [hi']; omega) (by rw [hi']; omega) (off := os.toList[(x - lo).toNat]) ?_ (cm_tgI (List.all_eq_true.mp h1 _ (List.getElem_mem h3))) (kj _ (by omega) (by omega) h4 H locs cells slots rls _ hH hS hn hL hs hz hc hq)
    rw [hi', ← h4, Array.getElem?_toList]
theorem cm_lsw_inv {r : (Option cm_V ⊕ Nat) × cm_H} {x : Int} {d : cm_R} {j : Int → cm_R} {df : Int} : ∀ (ps : List (Int × Int)), (ps.zip (ps.drop 1)).all (fun (a, next) => a.1 < next.1) = true → cm_lsw ps x d j = some r → (Op.lookupswitch.offset ps df x = df ∧ d = some r) ∨ (∃ q ∈ ps, Op.lookupswitch.offset ps df x = q.2 ∧ j q.2 = some r) := by
  intro ps hsort
  induction ps with
  | nil => intro h; exact Or.inl ⟨by simp [Op.lookupswitch.offset], h⟩
  | cons q ps ih =>
    intro h
    unfold cm_lsw at h
    split at h
    · rename_i e
      exact Or.inr ⟨q, List.mem_cons_self, by simp [Op.lookupswitch.offset, e], h⟩
    · rename_i e
      have hsort' : (ps.zip (ps.drop 1)).all (fun (a, next) => a.1 < next.1) = true := by
        cases ps with
        | nil => rfl
        | cons q2 ps => simp only [List.drop_one, List.tail_cons, List.zip_cons_cons, List.all_cons, Bool.and_eq_true] at hsort ⊢; exact hsort.2
      have e1 : Op.lookupswitch.offset (q :: ps) df x = Op.lookupswitch.offset ps df x := by
        simp [Op.lookupswitch.offset, show ¬ q.1 = x from fun z => e z.symm]
      rw [e1]
      rcases ih hsort' h with ⟨h1, h2⟩ | ⟨q', h1, h2, h3⟩
      · exact Or.inl ⟨h1, h2⟩
      · exact Or.inr ⟨q', List.mem_cons_of_mem _ h1, h2, h3⟩
theorem so_lsw (hx : p.tables.exec = Jvm.exec) (hb : c.code = cm_by y) {d x off : Int} {ps : Array (Int × Int)} {ln : Nat} (h0 : cm_tg pc off = true) (h2 : (ps.toList.zip (ps.toList.drop 1)).all (fun (a, next) => a.1 < next.1) = true) (ho : Op.lookupswitch.offset ps.toList d x = off) (hd : decode (cm_by y) pc = .ok (.lookupswitch d ps, ln)) (k : cm_Go Z p l e R s m args below meth c Q CC SS y hf (cm_tgt pc off) L st h) : cm_Go Z p l e R s m args below meth c Q CC SS y hf pc L (.inl x :: st) h := by
  intro H locs cells slots rls rst hH hS hn hL hs hz hc hq
  obtain ⟨i, r, rfl, hi', hs⟩ := cm_sr_i hs
  exact lv_lookup hx hb hd h2 (by rw [hi']; exact ho) (cm_tgI h0) (k H locs cells slots rls _ hH hS hn hL hs hz hc hq)
end SO
end
section
theorem cm_hts {Z : cm_Z} {s : State} (hcx : cm_cx Z s) (args : Array Value) : ∀ w ∈ lw_tbl.filter cm_two, w.before args s = true := fun w hw => by
  obtain ⟨h1, h2⟩ := List.mem_filter.mp hw
  exact cm_two_at (State.WarmedH.refl s) h2 (hcx.1 w h1 h2)
theorem cm_w {Z : cm_Z} {s : State} (hcx : cm_cx Z s) (args : Array Value) {w : Cond} (h : w ∈ lw_tbl) (h2 : cm_two w = true) : w.before args s = true := cm_hts hcx args w (List.mem_filter.mpr ⟨h, h2⟩)
theorem cm_two_lay (C : String) (T : u_T) (N : Nat) : ∀ w ∈ u_ws C T N, cm_two w = true := by
  intro w hw
  obtain ⟨k, -, rfl⟩ := List.mem_map.mp hw
  unfold u_lay
  split <;> rfl
theorem cm_lays {ci : Nat} {C : String} {T : u_T} {N : Nat} (hc : cm_vw[ci]? = some (C, T, N)) : ∀ w ∈ u_ws C T N, w ∈ lw_tbl.filter cm_two := by
  have h1 : ci < 10 := (List.getElem?_eq_some_iff.mp hc).1
  have h2 := cm_vw_in ci h1
  rw [hc] at h2
  exact fun w hw => List.mem_filter.mpr ⟨h2 w hw, cm_two_lay C T N w hw⟩
theorem cm_vw_ty {ci : Nat} {q : vw_C} (hc : cm_vw[ci]? = some q) : (∃ ty : Nat → FieldType, (∀ k, k < q.2.2 → parseFieldDescriptor (q.2.1 k).2.2.1 = some (ty k)) ∧ ∀ k, k < q.2.2 → cm_tc (q.2.1 k).2.2.1 = 2 → ∀ a, narrow (ty k) (.ref a) = .ref a ∧ fits (ty k) (.ref a) = true) ∧ ∀ a, a < q.2.2 → ∀ b, b < q.2.2 → a ≠ b → (q.2.1 a).2.1 ≠ (q.2.1 b).2.1 := by
  have h1 : ci < 10 := (List.getElem?_eq_some_iff.mp hc).1
  have key : ∀ {N : Nat} {T : u_T} {ty : Nat → FieldType}, (∀ k, k < N → parseFieldDescriptor (T k).2.2.1 = some (ty k)) → (∀ k, k < N → cm_tc (T k).2.2.1 = 2 → (match ty k with
      | .object _ => true
      | .array _ => true
      | _ => false) = true) → ∃ ty : Nat → FieldType, (∀ k, k < N → parseFieldDescriptor (T k).2.2.1 = some (ty k)) ∧ ∀ k, k < N → cm_tc (T k).2.2.1 = 2 → ∀ a, narrow (ty k) (.ref a) = .ref a ∧ fits (ty k) (.ref a) = true := by
    intro N T ty h1 h2
    refine ⟨ty, h1, fun k hk ht a => ?_⟩
    have h3 := h2 k hk ht
    cases e : ty k <;> rw [e] at h3 <;> first | exact ⟨rfl, rfl⟩ | cases h3
  rcases ci with _ | _ | _ | _ | _ | _ | _ | _ | _ | _ | ci
  · cases hc; exact ⟨key tyX0_ok (by decide +kernel), nmX0⟩
  · cases hc; exact ⟨key tyX1_ok (by decide +kernel), nmX1⟩
  · cases hc; exact ⟨key tyX2_ok (by decide +kernel), nmX2⟩
  · cases hc; exact ⟨key tyX3_ok (by decide +kernel), nmX3⟩
  · cases hc; exact ⟨key tyX4_ok (by decide +kernel), nmX4⟩
  · cases hc; exact ⟨key tyX5_ok (by decide +kernel), nmX5⟩
  · cases hc; exact ⟨key tyX6_ok (by decide +kernel), nmX6⟩
  · cases hc; exact ⟨key tyX7_ok (by decide +kernel), nmX7⟩
  · cases hc; exact ⟨key tyX8_ok (by decide +kernel), nmX8⟩
  · cases hc; exact ⟨key tyX9_ok (by decide +kernel), nmX9⟩
  · omega
theorem cm_tc_0 {d : String} (h : cm_tc d = 0) : d = "I" := by
  unfold cm_tc at h
  split at h
  · assumption
  · split at h <;> omega
theorem cm_tc_1 {d : String} (h : cm_tc d = 1) : d = "Z" := by
  unfold cm_tc at h
  split at h
  · omega
  · split at h
    · assumption
    · omega
theorem cm_kdI {h : cm_H} {a t n : Nat} (hk : cm_kd h a t n = true) : h.1 a = (t, n) := by
  unfold cm_kd at hk
  simp only [Bool.and_eq_true, beq_iff_eq] at hk
  exact Prod.ext hk.1 hk.2
/-- what lies at a place of a kind -/
theorem cm_ce_o {Z : cm_Z} {h : cm_H} {a ci : Nat} {e : va_E} (hce : cm_ce Z h a e) (hk : h.1 a = (0, ci)) : ∃ fs, e = .inr (ci, fs) := by
  rcases e with ⟨cA, n, f | f | f | f | f⟩ | ⟨ci', fs⟩
  · rcases hce.1 with ⟨-, h1⟩ | ⟨-, h1⟩ <;> rw [hk] at h1 <;> cases h1
  · have h1 := hce.2.1; rw [hk] at h1; cases h1
  · exact hce.elim
  · exact hce.elim
  · have h1 := hce.2.1; rw [hk] at h1; cases h1
  · have h1 := hce.1; rw [hk] at h1; cases h1; exact ⟨fs, rfl⟩
theorem cm_ce_i {Z : cm_Z} {h : cm_H} {a n : Nat} {e : va_E} (hce : cm_ce Z h a e) (hk : h.1 a = (1, n)) : ∃ f, e = .inl (zI Z, n, .inl f) ∧ ∀ j, j < n → (f j).toInt = h.2.2.1 a (j : Int) := by
  rcases e with ⟨cA, n', f | f | f | f | f⟩ | ⟨ci', fs⟩
  · rcases hce.1 with ⟨h0, h1⟩ | ⟨-, h1⟩
    · rw [hk] at h1; cases h1; rw [h0]; exact ⟨f, rfl, hce.2⟩
    · rw [hk] at h1; cases h1
  · have h1 := hce.2.1; rw [hk] at h1; cases h1
  · exact hce.elim
  · exact hce.elim
  · have h1 := hce.2.1; rw [hk] at h1; cases h1
  · have h1 := hce.1; rw [hk] at h1; cases h1
theorem cm_ce_z {Z : cm_Z} {h : cm_H} {a n : Nat} {e : va_E} (hce : cm_ce Z h a e) (hk : h.1 a = (2, n)) : ∃ f, e = .inl (zO Z, n, .inl f) ∧ ∀ j, j < n → (f j).toInt = h.2.2.1 a (j : Int) := by
  rcases e with ⟨cA, n', f | f | f | f | f⟩ | ⟨ci', fs⟩
  · rcases hce.1 with ⟨-, h1⟩ | ⟨h0, h1⟩
    · rw [hk] at h1; cases h1
    · rw [hk] at h1; cases h1; rw [h0]; exact ⟨f, rfl, hce.2⟩
  · have h1 := hce.2.1; rw [hk] at h1; cases h1
  · exact hce.elim
  · exact hce.elim
  · have h1 := hce.2.1; rw [hk] at h1; cases h1
  · have h1 := hce.1; rw [hk] at h1; cases h1
theorem cm_ce_j {Z : cm_Z} {h : cm_H} {a n : Nat} {e : va_E} (hce : cm_ce Z h a e) (hk : h.1 a = (3, n)) : ∃ f, e = .inl (zJ Z, n, .inr (.inl f)) ∧ ∀ j, j < n → f j = h.2.2.2.1 a (j : Int) := by
  rcases e with ⟨cA, n', f | f | f | f | f⟩ | ⟨ci', fs⟩
  · rcases hce.1 with ⟨-, h1⟩ | ⟨-, h1⟩ <;> rw [hk] at h1 <;> cases h1
  · obtain ⟨h0, h1, h2⟩ := hce; rw [hk] at h1; cases h1; rw [h0]; exact ⟨f, rfl, h2⟩
  · exact hce.elim
  · exact hce.elim
  · have h1 := hce.2.1; rw [hk] at h1; cases h1
  · have h1 := hce.1; rw [hk] at h1; cases h1
theorem cm_ce_r {Z : cm_Z} {h : cm_H} {a n : Nat} {e : va_E} (hce : cm_ce Z h a e) (hk : h.1 a = (4, n)) : ∃ f, e = .inl (zR Z, n, .inr (.inr (.inr (.inr f)))) ∧ ∀ j, j < n → h.2.1 a (j : Int) < 300000 → h.2.1 a (j : Int) < 100000 ∧ f j = some (zB Z + h.2.1 a (j : Int)) := by
  rcases e with ⟨cA, n', f | f | f | f | f⟩ | ⟨ci', fs⟩
  · rcases hce.1 with ⟨-, h1⟩ | ⟨-, h1⟩ <;> rw [hk] at h1 <;> cases h1
  · have h1 := hce.2.1; rw [hk] at h1; cases h1
  · exact hce.elim
  · exact hce.elim
  · obtain ⟨h0, h1, h2⟩ := hce; rw [hk] at h1; cases h1; rw [h0]; exact ⟨f, rfl, h2⟩
  · have h1 := hce.1; rw [hk] at h1; cases h1
theorem cm_ce_same {Z : cm_Z} {h h1 : cm_H} {k : Nat} {e : va_E} (e1 : h1.1 k = h.1 k) (e2 : h1.2.1 k = h.2.1 k) (e3 : h1.2.2.1 k = h.2.2.1 k) (e4 : h1.2.2.2.1 k = h.2.2.2.1 k) (hc : cm_ce Z h k e) : cm_ce Z h1 k e := by
  rcases e with ⟨cA, n', f | f | f | f | f⟩ | ⟨ci', fs⟩
  · exact ⟨by rw [e1]; exact hc.1, fun j hj => by rw [e3]; exact hc.2 j hj⟩
  · exact ⟨hc.1, by rw [e1]; exact hc.2.1, fun j hj => by rw [e4]; exact hc.2.2 j hj⟩
  · exact hc.elim
  · exact hc.elim
  · exact ⟨hc.1, by rw [e1]; exact hc.2.1, fun j hj => by rw [e2]; exact hc.2.2 j hj⟩
  · obtain ⟨h2, q, h3, h4, h5⟩ := hc
    refine ⟨by rw [e1]; exact h2, q, h3, h4, fun j hj => ?_⟩
    have := h5 j hj
    unfold cm_fr at this ⊢
    rw [e2, e3]
    exact this
/-- one cell has changed -/
theorem cm_hr_up {Z : cm_Z} {h h1 : cm_H} {H1 : Heap} {ws : va_W} {a : Nat} {e' : va_E} (hP1 : va_P (zD Z) cm_vw (ws.set a (zB Z + a, e')) H1) (hD1 : va_D (zA Z) (ws.set a (zB Z + a, e'))) (hwl : ws.length = h.2.2.2.2.1) (h5 : h.2.2.2.2.1 ≤ 100000) (h6 : h.2.2.2.2.1 ≤ h.2.2.2.2.2.1)
    (hcell : ∀ k, k < h.2.2.2.2.1 → ∃ e, ws[k]? = some (zB Z + k, e) ∧ cm_ce Z h k e) (hout : ∀ a, h.2.2.2.2.1 ≤ a → a ≠ 100000 → h.1 a = (9, 0)) (hscr : h.1 100000 = (1, zL Z)) (hxs : (∀ j, j < zL Z → (zX Z j).toInt = h.2.2.1 100000 (j : Int)) ∧ ∀ a, (h.1 a).1 = 1 → (h.1 a).2 < 2147483648)
    (ha : a < h.2.2.2.2.1) (hk : h1.1 = h.1) (hn : h1.2.2.2.2 = h.2.2.2.2) (he' : cm_ce Z h1 a e') (ho : ∀ k, k ≠ a → h1.2.1 k = h.2.1 k ∧ h1.2.2.1 k = h.2.2.1 k ∧ h1.2.2.2.1 k = h.2.2.2.1 k) : cm_hr Z h1 H1 := by
  refine ⟨_, hP1, hD1, by rw [List.length_set, hwl, hn], by rw [hn]; exact h5, by rw [hn]; exact h6, ?_, ?_, by rw [hk]; exact hscr, ?_⟩
  · rw [hn]
    intro k hkl
    by_cases hka : k = a
    · subst hka
      exact ⟨e', by rw [List.getElem?_set]; simp [hwl, hkl], he'⟩
    · obtain ⟨e, h7, h8⟩ := hcell k hkl
      refine ⟨e, by rw [List.getElem?_set_ne (Ne.symm hka)]; exact h7, ?_⟩
      obtain ⟨o1, o2, o3⟩ := ho k hka
      exact cm_ce_same (by rw [hk]) o1 o2 o3 h8
  · rw [hn, hk]
    exact hout
  · refine ⟨fun j hj => ?_, by rw [hk]; exact hxs.2⟩
    rw [(ho 100000 (by omega)).2.1]
    exact hxs.1 j hj
theorem cm_lt_of {h : cm_H} {a t n : Nat} (hout : ∀ a, h.2.2.2.2.1 ≤ a → a ≠ 100000 → h.1 a = (9, 0)) (hk : h.1 a = (t, n)) (ht : t ≠ 9) (ha : a ≠ 100000) : a < h.2.2.2.2.1 := by
  rcases Nat.lt_or_ge a h.2.2.2.2.1 with h1 | h1
  · exact h1
  · have := hout a h1 ha
    rw [hk] at this
    cases this
    exact absurd rfl ht
theorem cm_fl_inv {y i t ci f : Nat} (h : cm_fls.any (fun q => q.1 == cm_ow y && (q.2.1 == i && (q.2.2.2.1 == t && (q.2.2.2.2.1 == ci && q.2.2.2.2.2.1 == f)))) = true) : ∃ (C : String) (T : u_T) (N : Nat), cm_vw[ci]? = some (C, T, N) ∧ f < N ∧ cm_tc (T f).2.2.1 = t ∧ (Jvm.Cond.fieldLink (cm_cn (cm_ow y)) i (T f).1 (T f).2.1 (T f).2.2.1 ∈ lw_tbl ∨ (t = 2 ∧ Jvm.Cond.fieldLinkNest (cm_cn (cm_ow y)) i (T f).1 (T f).2.1 (T f).2.2.1 "OnceVolume" ∈ lw_tbl)) := by
  obtain ⟨⟨q1, q2, q3, q4, q5, q6, q7⟩, hm, hq⟩ := List.any_eq_true.mp h
  simp only [Bool.and_eq_true, beq_iff_eq] at hq
  obtain ⟨rfl, rfl, rfl, rfl, rfl⟩ := hq
  have h1 := List.all_eq_true.mp cm_fls_ok _ hm
  unfold cm_okf at h1
  simp only at h1
  cases e : cm_vw[q5]? with
  | none => rw [e] at h1; cases h1
  | some z =>
    obtain ⟨C, T, N⟩ := z
    rw [e] at h1
    simp only [Bool.and_eq_true, Bool.or_eq_true, decide_eq_true_eq] at h1
    obtain ⟨⟨⟨h2, h3⟩, h4⟩, h5⟩ := h1
    refine ⟨C, T, N, rfl, h2, h3, ?_⟩
    rcases q3 with _ | q3
    · exact Or.inl (List.mem_of_getElem? h4)
    · refine Or.inr ⟨?_, List.mem_of_getElem? h4⟩
      rcases h5 with h5 | h5
      · omega
      · exact h5
section SOH
variable {Z : cm_Z} {p : Program} {l : Launch} {e : Env} {R : Room} {s : State} {m : MethodId} {args : Array Value} {below : List Frame} {meth : Method} {c : Code} {Q : State → Prop} {CC SS y pc : Nat} {hf h : cm_H} {L : cm_L} {st : List cm_V}
theorem so_getI (hx : p.tables.exec = Jvm.exec) (hb : c.code = cm_by y) (hown : s.vm.findClass (cm_cn (cm_ow y)) = some m.cls) (hcx : cm_cx Z s) {i t ci f a : Nat} (ht : t ≠ 2) (hfl : cm_fls.any (fun q => q.1 == cm_ow y && (q.2.1 == i && (q.2.2.2.1 == t && (q.2.2.2.2.1 == ci && q.2.2.2.2.2.1 == f)))) = true) (hk : cm_kd h a 0 ci = true) (hd : decode (cm_by y) pc = .ok (.getfield i, 3)) (k : cm_Go Z p l e R s m args below meth c Q CC SS y hf (pc + 3) L (.inl (h.2.2.1 a (f : Int)) :: st) h) : cm_Go Z p l e R s m args below meth c Q CC SS y hf pc L (.inr (.inr a) :: st) h := by
  intro H locs cells slots rls rst hH hS hn hL hs hz hc hq
  have hk := cm_kdI hk
  obtain ⟨q, r, rfl, hv, hs_1⟩ := cm_sr_r hs
  obtain ⟨C, T, N, hvw, hfN, htc, hln⟩ := cm_fl_inv hfl
  have hln : Jvm.Cond.fieldLink (cm_cn (cm_ow y)) i (T f).1 (T f).2.1 (T f).2.2.1 ∈ lw_tbl := by
    rcases hln with h1 | ⟨h1, -⟩
    · exact h1
    · exact absurd h1 ht
  have hH0 := hH
  obtain ⟨ws, hP, hD, hwl, h5, h6, hcell, hout, hscr, hxs⟩ := hH
  have ha : a < h.2.2.2.2.1 := cm_lt_of hout hk (by omega) (fun e => by subst e; rw [hscr] at hk; cases hk)
  have e1 := cm_vr_c hv (by omega)
  cases e1
  obtain ⟨e0, he, hce⟩ := hcell a ha
  obtain ⟨fs, rfl⟩ := cm_ce_o hce hk
  obtain ⟨-, q, hq1, hq2, hq3⟩ := hce
  cases hvw.symm.trans hq1
  have h7 := hq3 f hfN
  unfold cm_fr at h7
  rw [if_neg (by rw [htc]; exact ht)] at h7
  obtain ⟨x, hx1, hx2⟩ := h7
  exact va_get hx hb (cm_hts hcx args) (cm_lays hvw) hown hcx.2.2.1 hP a he hvw f hfN (cm_w hcx args hln rfl) (fun _ z => z) hx1 hd (k H locs cells slots rls _ hH0 hS hn hL ⟨⟨x, rfl, hx2⟩, hs_1⟩ hz hc hq)
theorem so_getR (hx : p.tables.exec = Jvm.exec) (hb : c.code = cm_by y) (hown : s.vm.findClass (cm_cn (cm_ow y)) = some m.cls) (hcx : cm_cx Z s) {i ci f a : Nat} (hlt : h.2.1 a (f : Int) < 300000) (hfl : cm_fls.any (fun q => q.1 == cm_ow y && (q.2.1 == i && (q.2.2.2.1 == 2 && (q.2.2.2.2.1 == ci && q.2.2.2.2.2.1 == f)))) = true) (hk : cm_kd h a 0 ci = true) (hd : decode (cm_by y) pc = .ok (.getfield i, 3)) (k : cm_Go Z p l e R s m args below meth c Q CC SS y hf (pc + 3) L (.inr (.inr (h.2.1 a (f : Int))) :: st) h) : cm_Go Z p l e R s m args below meth c Q CC SS y hf pc L (.inr (.inr a) :: st) h := by
  intro H locs cells slots rls rst hH hS hn hL hs hz hc hq
  have hk := cm_kdI hk
  obtain ⟨q, r, rfl, hv, hs_1⟩ := cm_sr_r hs
  obtain ⟨C, T, N, hvw, hfN, htc, hln⟩ := cm_fl_inv hfl
  have hH0 := hH
  obtain ⟨ws, hP, hD, hwl, h5, h6, hcell, hout, hscr, hxs⟩ := hH
  have ha : a < h.2.2.2.2.1 := cm_lt_of hout hk (by omega) (fun e => by subst e; rw [hscr] at hk; cases hk)
  have e1 := cm_vr_c hv (by omega)
  cases e1
  obtain ⟨e0, he, hce⟩ := hcell a ha
  obtain ⟨fs, rfl⟩ := cm_ce_o hce hk
  obtain ⟨-, q, hq1, hq2, hq3⟩ := hce
  cases hvw.symm.trans hq1
  have h7 := hq3 f hfN
  unfold cm_fr at h7
  rw [if_pos htc] at h7
  obtain ⟨hsm, hx1⟩ := h7 hlt
  have kk := k H locs cells slots rls (.ref (zB Z + h.2.1 a (f : Int)) :: r) hH0 hS hn hL ⟨cm_vr_cI hsm, hs_1⟩ hz hc hq
  rcases hln with hln | ⟨-, hln⟩
  · exact va_get hx hb (cm_hts hcx args) (cm_lays hvw) hown hcx.2.2.1 hP a he hvw f hfN (cm_w hcx args hln rfl) (fun _ z => z) hx1 hd kk
  · exact va_getN hx hb (cm_hts hcx args) (cm_lays hvw) hown hcx.2.2.1 hP a he hvw f hfN (cm_w hcx args hln rfl) (fun _ z => z) hx1 hd kk
theorem cm_pf_inv {y i t ci f : Nat} (h : (cm_fls.any (fun q => q.1 == cm_ow y && (q.2.1 == i && (q.2.2.1 == 0 && (q.2.2.2.1 == t && (q.2.2.2.2.1 == ci && q.2.2.2.2.2.1 == f))))) && cm_okpf y ci f) = true) : ∃ (C : String) (T : u_T) (N : Nat), cm_vw[ci]? = some (C, T, N) ∧ f < N ∧ cm_tc (T f).2.2.1 = t ∧ Jvm.Cond.fieldLink (cm_cn (cm_ow y)) i (T f).1 (T f).2.1 (T f).2.2.1 ∈ lw_tbl ∧ ((T f).2.2.2 = false ∨ ((T f).2.2.2 = true ∧ (cm_nm y).name = "<init>" ∧ (T f).1 = cm_cn (cm_ow y))) := by
  simp only [Bool.and_eq_true] at h
  obtain ⟨h, hpf⟩ := h
  obtain ⟨⟨q1, q2, q3, q4, q5, q6, q7⟩, hm, hq⟩ := List.any_eq_true.mp h
  simp only [Bool.and_eq_true, beq_iff_eq] at hq
  obtain ⟨rfl, rfl, rfl, rfl, rfl, rfl⟩ := hq
  have h1 := List.all_eq_true.mp cm_fls_ok _ hm
  unfold cm_okf at h1
  unfold cm_okpf at hpf
  simp only at h1
  cases e : cm_vw[q5]? with
  | none => rw [e] at h1; cases h1
  | some z =>
    obtain ⟨C, T, N⟩ := z
    rw [e] at h1 hpf
    simp only [Bool.and_eq_true, Bool.or_eq_true, decide_eq_true_eq] at h1
    obtain ⟨⟨⟨h2, h3⟩, h4⟩, h5⟩ := h1
    refine ⟨C, T, N, rfl, h2, h3, List.mem_of_getElem? h4, ?_⟩
    simp only [Bool.or_eq_true, Bool.and_eq_true, Bool.not_eq_true', decide_eq_true_eq] at hpf
    cases hfin : (T q6).2.2.2 with
    | false => exact Or.inl rfl
    | true =>
      rcases hpf with h6 | h6
      · rw [hfin] at h6; cases h6
      · exact Or.inr ⟨rfl, h6⟩
theorem cm_up_ne {α : Type} {f : Nat → Int → α} {a b : Nat} {i : Int} {v : α} (h : b ≠ a) : cm_up f a i v b = f b := by unfold cm_up; rw [if_neg h]
theorem cm_up_eq {α : Type} {f : Nat → Int → α} {a : Nat} {i : Int} {v : α} : cm_up f a i v a = cm_u1 (f a) i v := by unfold cm_up; rw [if_pos rfl]
theorem so_put (hx : p.tables.exec = Jvm.exec) (hb : c.code = cm_by y) (hown : s.vm.findClass (cm_cn (cm_ow y)) = some m.cls) (hcx : cm_cx Z s) (hin : (cm_nm y).name = "<init>" → meth.name = "<init>") {i t ci f a : Nat} {v : cm_V} {h1 : cm_H} (hfl : (cm_fls.any (fun q => q.1 == cm_ow y && (q.2.1 == i && (q.2.2.1 == 0 && (q.2.2.2.1 == t && (q.2.2.2.2.1 == ci && q.2.2.2.2.2.1 == f))))) && cm_okpf y ci f) = true) (hk : cm_kd h a 0 ci = true)
    (hv : (∃ x, v = .inl x ∧ (t = 0 ∨ (t = 1 ∧ (x = 0 ∨ x = 1))) ∧ h1 = cm_sI h a (f : Int) x) ∨ (∃ n, v = .inr (.inr n) ∧ t = 2 ∧ n < h.2.2.2.2.1 ∧ h1 = cm_sR h a (f : Int) n)) (hd : decode (cm_by y) pc = .ok (.putfield i, 3)) (k : cm_Go Z p l e R s m args below meth c Q CC SS y hf (pc + 3) L st h1) : cm_Go Z p l e R s m args below meth c Q CC SS y hf pc L (v :: .inr (.inr a) :: st) h := by
  intro H locs cells slots rls rst hH hS hn hL hs hz hc hq
  have hk := cm_kdI hk
  obtain ⟨rv, r, rfl, hrv, hs_1⟩ := cm_sr_cons hs
  obtain ⟨q, r, rfl, hvq, hs_2⟩ := cm_sr_r hs_1
  obtain ⟨C, T, N, hvw, hfN, htc, hln, hfin⟩ := cm_pf_inv hfl
  obtain ⟨⟨ty, hty, htr⟩, hnm⟩ := cm_vw_ty hvw
  obtain ⟨ws, hP, hD, hwl, h5, h6, hcell, hout, hscr, hxs⟩ := hH
  have ha : a < h.2.2.2.2.1 := cm_lt_of hout hk (by omega) (fun e => by subst e; rw [hscr] at hk; cases hk)
  have e1 := cm_vr_c hvq (by omega)
  cases e1
  obtain ⟨e0, he, hce⟩ := hcell a ha
  obtain ⟨fs, rfl⟩ := cm_ce_o hce hk
  obtain ⟨-, q, hq1, hq2, hq3⟩ := hce
  cases hvw.symm.trans hq1
  have hpd := hty f hfN
  have hfits : narrow (ty f) rv = rv ∧ fits (ty f) rv = true := by
    rcases hv with ⟨x, rfl, hx1, -⟩ | ⟨n, rfl, hx1, -, -⟩
    · obtain ⟨j, rfl, hj⟩ := cm_vr_i hrv
      rcases hx1 with hx1 | ⟨hx1, hx2⟩
      · have hd1 := cm_tc_0 (htc.trans hx1)
        have hpd' := hpd
        simp only at hpd'
        rw [hd1] at hpd'
        have : ty f = .int := Option.some.inj (hpd'.symm.trans (show parseFieldDescriptor "I" = some .int by decide +kernel))
        rw [this]
        exact ⟨rfl, rfl⟩
      · have hd1 := cm_tc_1 (htc.trans hx1)
        have hpd' := hpd
        simp only at hpd'
        rw [hd1] at hpd'
        have : ty f = .boolean := Option.some.inj (hpd'.symm.trans (show parseFieldDescriptor "Z" = some .boolean by decide +kernel))
        rw [this]
        have hj2 : j = 0 ∨ j = 1 := by
          rcases hx2 with hx2 | hx2
          · exact Or.inl (by rw [cm_ieq, hj, hx2]; rfl)
          · exact Or.inr (by rw [cm_ieq, hj, hx2]; rfl)
        rcases hj2 with rfl | rfl <;> exact ⟨rfl, rfl⟩
    · obtain ⟨z, rfl⟩ := cm_vr_r hrv
      exact htr f hfN (htc.trans hx1) z
  have hfl2 : f < fs.length := by rw [hq2]; exact hfN
  have hkn : h1.1 = h.1 ∧ h1.2.2.2.2 = h.2.2.2.2 ∧ (∀ k, k ≠ a → h1.2.1 k = h.2.1 k ∧ h1.2.2.1 k = h.2.2.1 k ∧ h1.2.2.2.1 k = h.2.2.2.1 k) := by
    rcases hv with ⟨x, -, -, rfl⟩ | ⟨n, -, -, -, rfl⟩
    · exact ⟨rfl, rfl, fun k hka => ⟨rfl, cm_up_ne hka, rfl⟩⟩
    · exact ⟨rfl, rfl, fun k hka => ⟨cm_up_ne hka, rfl, rfl⟩⟩
  have hce1 : cm_ce Z h1 a (.inr (ci, fs.set f rv)) := by
    refine ⟨by rw [hkn.1]; exact hk, (C, T, N), hvw, by rw [List.length_set]; exact hq2, fun j hj => ?_⟩
    have h8 := hq3 j hj
    unfold cm_fr at h8 ⊢
    by_cases hjf : j = f
    · subst hjf
      rw [htc] at h8 ⊢
      rcases hv with ⟨x, rfl, hx1, rfl⟩ | ⟨n, rfl, hx1, hn1, rfl⟩
      · rw [if_neg (by omega)]
        obtain ⟨jj, rfl, hjj⟩ := cm_vr_i hrv
        refine ⟨jj, by rw [List.getElem?_set]; simp [hfl2], ?_⟩
        show jj.toInt = cm_up h.2.2.1 a (j : Int) x a (j : Int)
        rw [cm_up_eq]
        unfold cm_u1
        rw [if_pos rfl]
        exact hjj
      · rw [if_pos hx1]
        intro _
        have e9 : (cm_sR h a (j : Int) n).2.1 a (j : Int) = n := by
          show cm_up h.2.1 a (j : Int) n a (j : Int) = n
          rw [cm_up_eq]
          unfold cm_u1
          rw [if_pos rfl]
        rw [e9]
        have h10 := cm_vr_c hrv (by omega)
        refine ⟨by omega, ?_⟩
        rw [List.getElem?_set]
        simp [hfl2, h10]
    · have e9 : (fs.set f rv)[j]? = fs[j]? := List.getElem?_set_ne (Ne.symm hjf)
      have e10 : h1.2.1 a (j : Int) = h.2.1 a (j : Int) ∧ h1.2.2.1 a (j : Int) = h.2.2.1 a (j : Int) := by
        have hji : ¬ (j : Int) = (f : Int) := by omega
        rcases hv with ⟨x, -, -, rfl⟩ | ⟨n, -, -, -, rfl⟩
        · refine ⟨rfl, ?_⟩
          show cm_up h.2.2.1 a (f : Int) x a (j : Int) = _
          rw [cm_up_eq]; unfold cm_u1; rw [if_neg hji]
        · refine ⟨?_, rfl⟩
          show cm_up h.2.1 a (f : Int) n a (j : Int) = _
          rw [cm_up_eq]; unfold cm_u1; rw [if_neg hji]
      rw [e9, e10.1, e10.2]
      exact h8
  have kk : ∀ (H1 : Heap) (locs1 : List Loc), va_P (zD Z) cm_vw (ws.set a (zB Z + a, .inr (ci, fs.set f rv))) H1 → va_D (zA Z) (ws.set a (zB Z + a, .inr (ci, fs.set f rv))) → va_S (zA Z) s.heap H1 locs1 → W p l e R s m args below meth c H1 locs1 cells slots Q (F0 m (pc + 3) rls r) := by
    intro H1 locs1 hP1 hD1 hS1
    refine k H1 locs1 cells slots rls r (cm_hr_up hP1 hD1 hwl h5 h6 hcell hout hscr hxs ha hkn.1 hkn.2.1 hce1 hkn.2.2) hS1 hn hL hs_2 ?_ ?_ ?_
    · rw [hkn.2.1]; exact hz
    · rw [hkn.2.1]; exact hc
    · rw [hkn.2.1]; exact hq
  rcases hfin with hfin | ⟨hfin, hi1, hi2⟩
  · exact va_put hx hb (cm_hts hcx args) (cm_lays hvw) ty hty hnm hown hcx.2.2.1 hP hD hS a he hvw f hfN (cm_w hcx args hln rfl) (fun _ z => z) hfin hpd hfits.1 hfits.2 hfl2 hd kk
  · exact va_putF hx hb (cm_hts hcx args) (cm_lays hvw) ty hty hnm hown hcx.2.2.1 hP hD hS a he hvw f hfN (cm_w hcx args hln rfl) (fun _ z => z) hfin (hin hi1) hi2 hpd hfits.1 hfits.2 hfl2 hd kk
end SOH
end
section
theorem cm_in_smin : Jvm.Cond.static Lib.Math.min.name ∈ lw_tbl := List.mem_of_getElem? (i := 445) (by decide +kernel)
theorem cm_in_smax : Jvm.Cond.static Lib.Math.max.name ∈ lw_tbl := List.mem_of_getElem? (i := 694) (by decide +kernel)
theorem cm_in_sabs : Jvm.Cond.static Lib.Math.abs.name ∈ lw_tbl := List.mem_of_getElem? (i := 1179) (by decide +kernel)
theorem cm_in_imath : Jvm.Cond.initialized "java/lang/Math" ∈ lw_tbl := List.mem_of_getElem? (i := 128) (by decide +kernel)
theorem cm_in_cmin : Jvm.Cond.code Lib.Math.min.name Lib.Math.min.code 2 (some .int) ∈ lw_tbl := List.mem_of_getElem? (i := 446) (by decide +kernel)
theorem cm_in_cmax : Jvm.Cond.code Lib.Math.max.name Lib.Math.max.code 2 (some .int) ∈ lw_tbl := List.mem_of_getElem? (i := 695) (by decide +kernel)
theorem cm_in_cabs : Jvm.Cond.code Lib.Math.abs.name Lib.Math.abs.code 1 (some .int) ∈ lw_tbl := List.mem_of_getElem? (i := 1180) (by decide +kernel)
theorem cm_in_ncpy : Jvm.Cond.native arraycopyName ∈ lw_tbl := List.mem_of_getElem? (i := 671) (by decide +kernel)
theorem cm_in_scpy : Jvm.Cond.static arraycopyName ∈ lw_tbl := List.mem_of_getElem? (i := 670) (by decide +kernel)
theorem cm_in_isys : Jvm.Cond.initialized "java/lang/System" ∈ lw_tbl := List.mem_of_getElem? (i := 140) (by decide +kernel)
theorem cm_in_iobj : Jvm.Cond.instanceMethod objectInit ∈ lw_tbl := List.mem_of_getElem? (i := 147) (by decide +kernel)
theorem cm_in_cobj : Jvm.Cond.code objectInit ⟨#[0xb1]⟩ 1 none ∈ lw_tbl := List.mem_of_getElem? (i := 148) (by decide +kernel)
theorem cm_in_aint : Jvm.Cond.arrayClass .int ∈ lw_tbl := List.mem_of_getElem? (i := 187) (by decide +kernel)
theorem cm_in_abool : Jvm.Cond.arrayClass .boolean ∈ lw_tbl := List.mem_of_getElem? (i := 242) (by decide +kernel)
theorem cm_in_along : Jvm.Cond.arrayClass .long ∈ lw_tbl := List.mem_of_getElem? (i := 1908) (by decide +kernel)

theorem cm_ix {i : Int32} {x : Int} (hi : i.toInt = x) {n : Nat} (h : 0 ≤ x ∧ x < (n : Int)) : vp_in i n ∧ i.toNatClampNeg = x.toNat ∧ x.toNat < n ∧ ((x.toNat : Nat) : Int) = x := by
  refine ⟨vp_in_iff.mpr (by rw [hi]; exact h), ?_, by omega, by omega⟩
  rw [← hi]
  rfl
section SOA
variable {Z : cm_Z} {p : Program} {l : Launch} {e : Env} {R : Room} {s : State} {m : MethodId} {args : Array Value} {below : List Frame} {meth : Method} {c : Code} {Q : State → Prop} {CC SS y pc : Nat} {hf h : cm_H} {L : cm_L} {st : List cm_V}
theorem so_al (hx : p.tables.exec = Jvm.exec) (hb : c.code = cm_by y) (hcx : cm_cx Z s) {a n : Nat} {x : Int} (hk : h.1 a = (1, n)) (hi : 0 ≤ x ∧ x < (n : Int)) (hd : decode (cm_by y) pc = .ok (.iaload, 1)) (k : cm_Go Z p l e R s m args below meth c Q CC SS y hf (pc + 1) L (.inl (h.2.2.1 a x) :: st) h) : cm_Go Z p l e R s m args below meth c Q CC SS y hf pc L (.inl x :: .inr (.inr a) :: st) h := by
  intro H locs cells slots rls rst hH hS hn hL hs hz hc hq
  obtain ⟨j, r, rfl, hj, hs_1⟩ := cm_sr_i hs
  obtain ⟨q, r, rfl, hv, hs_2⟩ := cm_sr_r hs_1
  have hH0 := hH
  obtain ⟨ws, hP, hD, hwl, h5, h6, hcell, hout, hscr, hxs⟩ := hH
  by_cases ha0 : a = 100000
  · subst ha0
    have hv : Value.ref q = .ref (zS Z) := by
      unfold cm_vr at hv
      simp only [show ¬ (100000 < 100000) by omega, if_false, if_true] at hv
      exact hv
    cases hv
    rw [hscr] at hk
    cases hk
    obtain ⟨i1, i2, i3, i4⟩ := cm_ix hj hi
    refine va_sld hx hb hcx.2.2.2.1 (Nat.lt_of_lt_of_le hcx.2.2.2.2.1 hcx.2.2.2.2.2.1) (fun z => Nat.lt_irrefl _ (Nat.lt_of_lt_of_le hcx.2.2.2.2.1 z)) hS i1 hd (k H locs cells slots rls _ hH0 hS hn hL ⟨⟨_, rfl, ?_⟩, hs_2⟩ hz hc hq)
    rw [i2, hxs.1 _ i3, i4]
  · have ha : a < h.2.2.2.2.1 := cm_lt_of hout hk (by omega) ha0
    have e1 := cm_vr_c hv (by omega)
    cases e1
    obtain ⟨e0, he, hce⟩ := hcell a ha
    obtain ⟨f, rfl, hf1⟩ := cm_ce_i hce hk
    obtain ⟨i1, i2, i3, i4⟩ := cm_ix hj hi
    refine va_iald hx hb hcx.2.2.1 hP a 0 he rfl i1 hd (k H locs cells slots rls _ hH0 hS hn hL ⟨⟨_, rfl, ?_⟩, hs_2⟩ hz hc hq)
    rw [i2, hf1 _ i3, i4]
theorem so_zl (hx : p.tables.exec = Jvm.exec) (hb : c.code = cm_by y) (hcx : cm_cx Z s) {a n : Nat} {x : Int} (hk : h.1 a = (2, n)) (hi : 0 ≤ x ∧ x < (n : Int)) (hd : decode (cm_by y) pc = .ok (.baload, 1)) (k : cm_Go Z p l e R s m args below meth c Q CC SS y hf (pc + 1) L (.inl (h.2.2.1 a x) :: st) h) : cm_Go Z p l e R s m args below meth c Q CC SS y hf pc L (.inl x :: .inr (.inr a) :: st) h := by
  intro H locs cells slots rls rst hH hS hn hL hs hz hc hq
  obtain ⟨j, r, rfl, hj, hs_1⟩ := cm_sr_i hs
  obtain ⟨q, r, rfl, hv, hs_2⟩ := cm_sr_r hs_1
  have hH0 := hH
  obtain ⟨ws, hP, hD, hwl, h5, h6, hcell, hout, hscr, hxs⟩ := hH
  have ha : a < h.2.2.2.2.1 := cm_lt_of hout hk (by omega) (fun e => by subst e; rw [hscr] at hk; cases hk)
  have e1 := cm_vr_c hv (by omega)
  cases e1
  obtain ⟨e0, he, hce⟩ := hcell a ha
  obtain ⟨f, rfl, hf1⟩ := cm_ce_z hce hk
  obtain ⟨i1, i2, i3, i4⟩ := cm_ix hj hi
  refine va_zald hx hb hcx.2.2.1 hP a 1 he rfl i1 hd (k H locs cells slots rls _ hH0 hS hn hL ⟨⟨_, rfl, ?_⟩, hs_2⟩ hz hc hq)
  rw [i2, hf1 _ i3, i4]
theorem so_jl (hx : p.tables.exec = Jvm.exec) (hb : c.code = cm_by y) (hcx : cm_cx Z s) {a n : Nat} {x : Int} (hk : h.1 a = (3, n)) (hi : 0 ≤ x ∧ x < (n : Int)) (hd : decode (cm_by y) pc = .ok (.laload, 1)) (k : cm_Go Z p l e R s m args below meth c Q CC SS y hf (pc + 1) L (.inr (.inl (h.2.2.2.1 a x)) :: st) h) : cm_Go Z p l e R s m args below meth c Q CC SS y hf pc L (.inl x :: .inr (.inr a) :: st) h := by
  intro H locs cells slots rls rst hH hS hn hL hs hz hc hq
  obtain ⟨j, r, rfl, hj, hs_1⟩ := cm_sr_i hs
  obtain ⟨q, r, rfl, hv, hs_2⟩ := cm_sr_r hs_1
  have hH0 := hH
  obtain ⟨ws, hP, hD, hwl, h5, h6, hcell, hout, hscr, hxs⟩ := hH
  have ha : a < h.2.2.2.2.1 := cm_lt_of hout hk (by omega) (fun e => by subst e; rw [hscr] at hk; cases hk)
  have e1 := cm_vr_c hv (by omega)
  cases e1
  obtain ⟨e0, he, hce⟩ := hcell a ha
  obtain ⟨f, rfl, hf1⟩ := cm_ce_j hce hk
  obtain ⟨i1, i2, i3, i4⟩ := cm_ix hj hi
  refine va_lald hx hb hcx.2.2.1 hP a 2 he rfl i1 hd (k H locs cells slots rls _ hH0 hS hn hL ⟨?_, hs_2⟩ hz hc hq)
  show Value.long _ = .long _
  rw [i2, hf1 _ i3, i4]
theorem so_rl (hx : p.tables.exec = Jvm.exec) (hb : c.code = cm_by y) (hcx : cm_cx Z s) {a n : Nat} {x : Int} (hk : h.1 a = (4, n)) (hi : 0 ≤ x ∧ x < (n : Int)) (hlt : h.2.1 a x < 300000) (hd : decode (cm_by y) pc = .ok (.aaload, 1)) (k : cm_Go Z p l e R s m args below meth c Q CC SS y hf (pc + 1) L (.inr (.inr (h.2.1 a x)) :: st) h) : cm_Go Z p l e R s m args below meth c Q CC SS y hf pc L (.inl x :: .inr (.inr a) :: st) h := by
  intro H locs cells slots rls rst hH hS hn hL hs hz hc hq
  obtain ⟨j, r, rfl, hj, hs_1⟩ := cm_sr_i hs
  obtain ⟨q, r, rfl, hv, hs_2⟩ := cm_sr_r hs_1
  have hH0 := hH
  obtain ⟨ws, hP, hD, hwl, h5, h6, hcell, hout, hscr, hxs⟩ := hH
  have ha : a < h.2.2.2.2.1 := cm_lt_of hout hk (by omega) (fun e => by subst e; rw [hscr] at hk; cases hk)
  have e1 := cm_vr_c hv (by omega)
  cases e1
  obtain ⟨e0, he, hce⟩ := hcell a ha
  obtain ⟨f, rfl, hf1⟩ := cm_ce_r hce hk
  obtain ⟨i1, i2, i3, i4⟩ := cm_ix hj hi
  obtain ⟨f1, f2⟩ := hf1 _ i3 (by rw [i4]; exact hlt)
  rw [i4] at f1 f2
  refine va_aldq hx hb hcx.2.2.1 hP a 3 he rfl i1 hd (k H locs cells slots rls _ hH0 hS hn hL ⟨?_, hs_2⟩ hz hc hq)
  rw [i2, f2]
  exact cm_vr_cI f1
theorem so_ln (hx : p.tables.exec = Jvm.exec) (hb : c.code = cm_by y) (hcx : cm_cx Z s) {a n : Nat} (hk : h.1 a = (1, n)) (hd : decode (cm_by y) pc = .ok (.arraylength, 1)) (k : cm_Go Z p l e R s m args below meth c Q CC SS y hf (pc + 1) L (.inl (n : Int) :: st) h) : cm_Go Z p l e R s m args below meth c Q CC SS y hf pc L (.inr (.inr a) :: st) h := by
  intro H locs cells slots rls rst hH hS hn hL hs hz hc hq
  obtain ⟨q, r, rfl, hv, hs_1⟩ := cm_sr_r hs
  have hH0 := hH
  obtain ⟨ws, hP, hD, hwl, h5, h6, hcell, hout, hscr, hxs⟩ := hH
  have hsm : n < 2147483648 := by have h7 := hxs.2 a (by rw [hk]); rw [hk] at h7; exact h7
  have hnn : (Int32.ofNat n).toInt = (n : Int) := nI_toInt hsm
  by_cases ha0 : a = 100000
  · subst ha0
    have hv : Value.ref q = .ref (zS Z) := by
      unfold cm_vr at hv
      simp only [show ¬ (100000 < 100000) by omega, if_false, if_true] at hv
      exact hv
    cases hv
    rw [hscr] at hk
    cases hk
    exact va_slen hx hb hcx.2.2.2.1 (Nat.lt_of_lt_of_le hcx.2.2.2.2.1 hcx.2.2.2.2.2.1) (fun z => Nat.lt_irrefl _ (Nat.lt_of_lt_of_le hcx.2.2.2.2.1 z)) hS hd (k H locs cells slots rls _ hH0 hS hn hL ⟨⟨_, rfl, hnn⟩, hs_1⟩ hz hc hq)
  · have ha : a < h.2.2.2.2.1 := cm_lt_of hout hk (by omega) ha0
    have e1 := cm_vr_c hv (by omega)
    cases e1
    obtain ⟨e0, he, hce⟩ := hcell a ha
    obtain ⟨f, rfl, hf1⟩ := cm_ce_i hce hk
    exact va_alen hx hb hcx.2.2.1 hP a 0 he (ty := .int) rfl rfl hd (k H locs cells slots rls _ hH0 hS hn hL ⟨⟨_, rfl, hnn⟩, hs_1⟩ hz hc hq)
theorem cm_sI_keep (h : cm_H) (a : Nat) (i v : Int) : (cm_sI h a i v).1 = h.1 ∧ (cm_sI h a i v).2.2.2.2 = h.2.2.2.2 ∧ ∀ k, k ≠ a → (cm_sI h a i v).2.1 k = h.2.1 k ∧ (cm_sI h a i v).2.2.1 k = h.2.2.1 k ∧ (cm_sI h a i v).2.2.2.1 k = h.2.2.2.1 k := ⟨rfl, rfl, fun k hka => ⟨rfl, cm_up_ne hka, rfl⟩⟩
theorem cm_u1_at {f : Nat → Int32} {g : Int → Int} {n : Nat} {i : Int} {w : Int32} {v : Int} (hi : 0 ≤ i ∧ i < (n : Int)) (hf : ∀ j, j < n → (f j).toInt = g (j : Int)) (hw : w.toInt = v) : ∀ j, j < n → (upd f i.toNat w j).toInt = cm_u1 g i v (j : Int) := by
  intro j hj
  unfold upd cm_u1
  by_cases hji : j = i.toNat
  · rw [if_pos hji, if_pos (by omega)]
    exact hw
  · rw [if_neg hji, if_neg (by omega)]
    exact hf j hj
theorem cm_b2 (w : Int32) : (vp_nar .boolean w).toInt = w.toInt % 2 := by
  show (w &&& 1).toInt = w.toInt % 2
  have h1 : (w &&& 1).toBitVec = w.toBitVec &&& 1#32 := rfl
  have h2 : (w &&& 1).toInt = ((w.toBitVec &&& 1#32)).toInt := rfl
  have h3 : w.toInt = w.toBitVec.toInt := rfl
  rw [h2, h3]
  generalize w.toBitVec = b
  have h4 : (b &&& 1#32).toNat = b.toNat % 2 := by
    rw [BitVec.toNat_and]
    exact Nat.and_one_is_mod _
  rw [BitVec.toInt_eq_toNat_cond, h4, BitVec.toInt_eq_toNat_cond]
  have := b.isLt
  split <;> split <;> omega
theorem so_as (hx : p.tables.exec = Jvm.exec) (hb : c.code = cm_by y) (hcx : cm_cx Z s) {a n : Nat} {x v : Int} (hk : h.1 a = (1, n)) (han : a < h.2.2.2.2.1) (hi : 0 ≤ x ∧ x < (n : Int)) (hd : decode (cm_by y) pc = .ok (.iastore, 1)) (k : cm_Go Z p l e R s m args below meth c Q CC SS y hf (pc + 1) L st (cm_sI h a x v)) : cm_Go Z p l e R s m args below meth c Q CC SS y hf pc L (.inl v :: .inl x :: .inr (.inr a) :: st) h := by
  intro H locs cells slots rls rst hH hS hn hL hs hz hc hq
  obtain ⟨w, r, rfl, hw, hs_1⟩ := cm_sr_i hs
  obtain ⟨j, r, rfl, hj, hs_2⟩ := cm_sr_i hs_1
  obtain ⟨q, r, rfl, hv, hs_3⟩ := cm_sr_r hs_2
  obtain ⟨ws, hP, hD, hwl, h5, h6, hcell, hout, hscr, hxs⟩ := hH
  have e1 := cm_vr_c hv (by omega)
  cases e1
  obtain ⟨e0, he, hce⟩ := hcell a han
  obtain ⟨f, rfl, hf1⟩ := cm_ce_i hce hk
  obtain ⟨i1, i2, i3, i4⟩ := cm_ix hj hi
  obtain ⟨k1, k2, k3⟩ := cm_sI_keep h a x v
  refine va_iast hx hb hcx.2.2.1 hP hD hS a 0 he rfl i1 hd (fun H1 locs1 hP1 hD1 hS1 => ?_)
  refine k H1 locs1 cells slots rls r (cm_hr_up hP1 hD1 hwl h5 h6 hcell hout hscr hxs han k1 k2 ?_ k3) hS1 hn hL hs_3 (by rw [k2]; exact hz) (by rw [k2]; exact hc) (by rw [k2]; exact hq)
  refine ⟨Or.inl ⟨rfl, by rw [k1]; exact hk⟩, ?_⟩
  rw [i2]
  show ∀ j, j < n → _ = cm_up h.2.2.1 a x v a (j : Int)
  rw [cm_up_eq]
  exact cm_u1_at hi hf1 hw
theorem so_zs (hx : p.tables.exec = Jvm.exec) (hb : c.code = cm_by y) (hcx : cm_cx Z s) {a n : Nat} {x v : Int} (hk : h.1 a = (2, n)) (hi : 0 ≤ x ∧ x < (n : Int)) (hd : decode (cm_by y) pc = .ok (.bastore, 1)) (k : cm_Go Z p l e R s m args below meth c Q CC SS y hf (pc + 1) L st (cm_sI h a x (v % 2))) : cm_Go Z p l e R s m args below meth c Q CC SS y hf pc L (.inl v :: .inl x :: .inr (.inr a) :: st) h := by
  intro H locs cells slots rls rst hH hS hn hL hs hz hc hq
  obtain ⟨w, r, rfl, hw, hs_1⟩ := cm_sr_i hs
  obtain ⟨j, r, rfl, hj, hs_2⟩ := cm_sr_i hs_1
  obtain ⟨q, r, rfl, hv, hs_3⟩ := cm_sr_r hs_2
  obtain ⟨ws, hP, hD, hwl, h5, h6, hcell, hout, hscr, hxs⟩ := hH
  have han : a < h.2.2.2.2.1 := cm_lt_of hout hk (by omega) (fun e => by subst e; rw [hscr] at hk; cases hk)
  have e1 := cm_vr_c hv (by omega)
  cases e1
  obtain ⟨e0, he, hce⟩ := hcell a han
  obtain ⟨f, rfl, hf1⟩ := cm_ce_z hce hk
  obtain ⟨i1, i2, i3, i4⟩ := cm_ix hj hi
  obtain ⟨k1, k2, k3⟩ := cm_sI_keep h a x (v % 2)
  refine va_zast hx hb hcx.2.2.1 hP hD hS a 1 he rfl i1 hd (fun H1 locs1 hP1 hD1 hS1 => ?_)
  refine k H1 locs1 cells slots rls r (cm_hr_up hP1 hD1 hwl h5 h6 hcell hout hscr hxs han k1 k2 ?_ k3) hS1 hn hL hs_3 (by rw [k2]; exact hz) (by rw [k2]; exact hc) (by rw [k2]; exact hq)
  refine ⟨Or.inr ⟨rfl, by rw [k1]; exact hk⟩, ?_⟩
  rw [i2]
  show ∀ j, j < n → _ = cm_up h.2.2.1 a x (v % 2) a (j : Int)
  rw [cm_up_eq]
  exact cm_u1_at hi hf1 (by rw [cm_b2, hw])
theorem so_js (hx : p.tables.exec = Jvm.exec) (hb : c.code = cm_by y) (hcx : cm_cx Z s) {a n : Nat} {x : Int} {v : Int64} (hk : h.1 a = (3, n)) (hi : 0 ≤ x ∧ x < (n : Int)) (hd : decode (cm_by y) pc = .ok (.lastore, 1)) (k : cm_Go Z p l e R s m args below meth c Q CC SS y hf (pc + 1) L st (cm_sJ h a x v)) : cm_Go Z p l e R s m args below meth c Q CC SS y hf pc L (.inr (.inl v) :: .inl x :: .inr (.inr a) :: st) h := by
  intro H locs cells slots rls rst hH hS hn hL hs hz hc hq
  obtain ⟨r0, rfl, hs0⟩ := cm_sr_l hs
  obtain ⟨j, r1, rfl, hj, hs1⟩ := cm_sr_i hs0
  obtain ⟨q, r, rfl, hv, hs2⟩ := cm_sr_r hs1
  obtain ⟨ws, hP, hD, hwl, h5, h6, hcell, hout, hscr, hxs⟩ := hH
  have han : a < h.2.2.2.2.1 := cm_lt_of hout hk (by omega) (fun e => by subst e; rw [hscr] at hk; cases hk)
  have e1 := cm_vr_c hv (by omega)
  cases e1
  obtain ⟨e0, he, hce⟩ := hcell a han
  obtain ⟨f, rfl, hf1⟩ := cm_ce_j hce hk
  obtain ⟨i1, i2, i3, i4⟩ := cm_ix hj hi
  refine va_last hx hb hcx.2.2.1 hP hD hS a 2 he rfl i1 hd (fun H1 locs1 hP1 hD1 hS1 => ?_)
  refine k H1 locs1 cells slots rls r (cm_hr_up hP1 hD1 hwl h5 h6 hcell hout hscr hxs han rfl rfl ?_ (fun k hka => ⟨rfl, rfl, cm_up_ne hka⟩)) hS1 hn hL hs2 hz hc hq
  refine ⟨rfl, hk, fun j2 hj2 => ?_⟩
  show vp_updL f j.toNatClampNeg v j2 = cm_up h.2.2.2.1 a x v a (j2 : Int)
  rw [cm_up_eq, i2]
  unfold vp_updL cm_u1
  by_cases hji : j2 = x.toNat
  · rw [if_pos hji, if_pos (by omega)]
  · rw [if_neg hji, if_neg (by omega)]
    exact hf1 j2 hj2
theorem so_rs (hx : p.tables.exec = Jvm.exec) (hb : c.code = cm_by y) (hcx : cm_cx Z s) {a n v : Nat} {x : Int} (hk : h.1 a = (4, n)) (hkv : h.1 v = (0, 6)) (hi : 0 ≤ x ∧ x < (n : Int)) (hd : decode (cm_by y) pc = .ok (.aastore, 1)) (k : cm_Go Z p l e R s m args below meth c Q CC SS y hf (pc + 1) L st (cm_sR h a x v)) : cm_Go Z p l e R s m args below meth c Q CC SS y hf pc L (.inr (.inr v) :: .inl x :: .inr (.inr a) :: st) h := by
  intro H locs cells slots rls rst hH hS hn hL hs hz hc hq
  obtain ⟨w, r, rfl, hw, hs_1⟩ := cm_sr_r hs
  obtain ⟨j, r, rfl, hj, hs_2⟩ := cm_sr_i hs_1
  obtain ⟨q, r, rfl, hv, hs_3⟩ := cm_sr_r hs_2
  obtain ⟨ws, hP, hD, hwl, h5, h6, hcell, hout, hscr, hxs⟩ := hH
  have han : a < h.2.2.2.2.1 := cm_lt_of hout hk (by omega) (fun e => by subst e; rw [hscr] at hk; cases hk)
  have hvn : v < h.2.2.2.2.1 := cm_lt_of hout hkv (by omega) (fun e => by subst e; rw [hscr] at hkv; cases hkv)
  have e1 := cm_vr_c hv (by omega)
  cases e1
  have e2 := cm_vr_c hw (by omega)
  cases e2
  obtain ⟨e0, he, hce⟩ := hcell a han
  obtain ⟨f, rfl, hf1⟩ := cm_ce_r hce hk
  obtain ⟨e3, he3, hce3⟩ := hcell v hvn
  obtain ⟨fs, rfl⟩ := cm_ce_o hce3 hkv
  obtain ⟨i1, i2, i3, i4⟩ := cm_ix hj hi
  refine va_astq hx hb hcx.2.2.1 hP hD hS a 3 v 6 (r := (RX6, TX6, 11)) he rfl he3 rfl i1 hd (fun H1 locs1 hP1 hD1 hS1 => ?_)
  refine k H1 locs1 cells slots rls r (cm_hr_up hP1 hD1 hwl h5 h6 hcell hout hscr hxs han rfl rfl ?_ (fun k hka => ⟨cm_up_ne hka, rfl, rfl⟩)) hS1 hn hL hs_3 hz hc hq
  refine ⟨rfl, hk, fun j2 hj2 => ?_⟩
  show cm_up h.2.1 a x v a (j2 : Int) < 300000 → cm_up h.2.1 a x v a (j2 : Int) < 100000 ∧ va_up f j.toNatClampNeg (some (zB Z + v)) j2 = some (zB Z + cm_up h.2.1 a x v a (j2 : Int))
  rw [cm_up_eq, i2]
  unfold cm_u1
  by_cases hji : j2 = x.toNat
  · rw [if_pos (show (j2 : Int) = x by omega)]
    intro _
    refine ⟨by omega, ?_⟩
    rw [hji]
    simp [va_up]
  · rw [if_neg (show ¬ (j2 : Int) = x by omega)]
    intro hlt
    obtain ⟨g1, g2⟩ := hf1 j2 hj2 hlt
    refine ⟨g1, ?_⟩
    simp [va_up, hji, g2]
theorem cm_pl_inv {y i a : Nat} (h : cm_pls.any (fun q => q.1 == cm_ow y && (q.2.1 == i && q.2.2.1 == a)) = true) : Jvm.Cond.methodLink (cm_cn (cm_ow y)) i (cm_pn a) ∈ lw_tbl := by
  obtain ⟨⟨q1, q2, q3, q4⟩, hm, hq⟩ := List.any_eq_true.mp h
  simp only [Bool.and_eq_true, beq_iff_eq] at hq
  obtain ⟨rfl, rfl, rfl⟩ := hq
  have h1 := List.all_eq_true.mp cm_pls_ok _ hm
  exact List.mem_of_getElem? (of_decide_eq_true h1)
theorem so_oi (hx : p.tables.exec = Jvm.exec) (hb : c.code = cm_by y) (hown : s.vm.findClass (cm_cn (cm_ow y)) = some m.cls) (hcx : cm_cx Z s) (hml : c.maxLocals = cm_mL y) (hfr : 1 ≤ R.frames) (hlo : 100 ≤ R.locals) (hCC : CC ≤ R.cells) (hSS : SS ≤ R.slots) (hle : cm_hle h hf) {i a : Nat} (hpl : cm_pls.any (fun q => q.1 == cm_ow y && (q.2.1 == i && q.2.2.1 == 1)) = true) (hw : cm_wd (.inr (.inr a) :: st) ≤ 16) (hd : decode (cm_by y) pc = .ok (.invokespecial i, 3)) (k : cm_Go Z p l e R s m args below meth c Q CC SS y hf (pc + 3) L st h) : cm_Go Z p l e R s m args below meth c Q CC SS y hf pc L (.inr (.inr a) :: st) h := by
  intro H locs cells slots rls rst hH hS hn hL hs hz hc hq
  have hsz := cm_lr_size hL
  have hwd := cm_sr_wd hs
  obtain ⟨q, r, rfl, hv, hs_1⟩ := cm_sr_r hs
  refine W.objInit hx hb hown (cm_w hcx args (cm_pl_inv hpl) rfl) (cm_w hcx args cm_in_iobj rfl) (cm_w hcx args cm_in_cobj rfl) rfl (hsz.trans (hn.trans hml.symm)) rfl hd hfr ?_ (k H locs cells slots rls _ hH hS hn hL hs_1 hz hc hq)
  simp only [List.map_cons, List.sum_cons] at hwd
  show 2 * 0 + _ + 12 ≤ R.locals
  omega
theorem so_min (hx : p.tables.exec = Jvm.exec) (hb : c.code = cm_by y) (hown : s.vm.findClass (cm_cn (cm_ow y)) = some m.cls) (hcx : cm_cx Z s) (hml : c.maxLocals = cm_mL y) (hfr : 1 ≤ R.frames) (hlo : 100 ≤ R.locals) (hCC : CC ≤ R.cells) (hSS : SS ≤ R.slots) (hle : cm_hle h hf) {i : Nat} {a b : Int} (hpl : cm_pls.any (fun q => q.1 == cm_ow y && (q.2.1 == i && q.2.2.1 == 2)) = true) (hw : cm_wd (.inl b :: .inl a :: st) ≤ 16) (hd : decode (cm_by y) pc = .ok (.invokestatic i, 3)) (k : cm_Go Z p l e R s m args below meth c Q CC SS y hf (pc + 3) L (.inl (cm_mn a b) :: st) h) : cm_Go Z p l e R s m args below meth c Q CC SS y hf pc L (.inl b :: .inl a :: st) h := by
  intro H locs cells slots rls rst hH hS hn hL hs hz hc hq
  have hsz := cm_lr_size hL
  have hwd := cm_sr_wd hs
  obtain ⟨j, r, rfl, hj, hs_1⟩ := cm_sr_i hs
  obtain ⟨q, r, rfl, hv, hs_2⟩ := cm_sr_i hs_1
  simp only [List.map_cons, List.sum_cons] at hwd
  refine va_mmin hx hb (hml.trans (hn.symm.trans hsz.symm)) hown (cm_w hcx args (cm_pl_inv hpl) rfl) (cm_w hcx args cm_in_smin rfl) (cm_w hcx args cm_in_imath rfl) (cm_w hcx args cm_in_cmin rfl) hfr (by omega) (by have := hle.1; omega) (by have := hle.2; omega) hd (k H locs cells slots rls _ hH hS hn hL ⟨⟨_, rfl, ?_⟩, hs_2⟩ hz hc hq)
  unfold cm_mn
  rw [← hj, ← hv]
  by_cases hlt : j < q
  · rw [if_pos hlt, if_pos ((cm_ltI _ _).mp hlt)]
  · rw [if_neg hlt, if_neg (fun z => hlt ((cm_ltI _ _).mpr z))]
theorem so_max (hx : p.tables.exec = Jvm.exec) (hb : c.code = cm_by y) (hown : s.vm.findClass (cm_cn (cm_ow y)) = some m.cls) (hcx : cm_cx Z s) (hml : c.maxLocals = cm_mL y) (hfr : 1 ≤ R.frames) (hlo : 100 ≤ R.locals) (hCC : CC ≤ R.cells) (hSS : SS ≤ R.slots) (hle : cm_hle h hf) {i : Nat} {a b : Int} (hpl : cm_pls.any (fun q => q.1 == cm_ow y && (q.2.1 == i && q.2.2.1 == 3)) = true) (hw : cm_wd (.inl b :: .inl a :: st) ≤ 16) (hd : decode (cm_by y) pc = .ok (.invokestatic i, 3)) (k : cm_Go Z p l e R s m args below meth c Q CC SS y hf (pc + 3) L (.inl (cm_mx a b) :: st) h) : cm_Go Z p l e R s m args below meth c Q CC SS y hf pc L (.inl b :: .inl a :: st) h := by
  intro H locs cells slots rls rst hH hS hn hL hs hz hc hq
  have hsz := cm_lr_size hL
  have hwd := cm_sr_wd hs
  obtain ⟨j, r, rfl, hj, hs_1⟩ := cm_sr_i hs
  obtain ⟨q, r, rfl, hv, hs_2⟩ := cm_sr_i hs_1
  simp only [List.map_cons, List.sum_cons] at hwd
  refine va_mmax hx hb (hml.trans (hn.symm.trans hsz.symm)) hown (cm_w hcx args (cm_pl_inv hpl) rfl) (cm_w hcx args cm_in_smax rfl) (cm_w hcx args cm_in_imath rfl) (cm_w hcx args cm_in_cmax rfl) hfr (by omega) (by have := hle.1; omega) (by have := hle.2; omega) hd (k H locs cells slots rls _ hH hS hn hL ⟨⟨_, rfl, ?_⟩, hs_2⟩ hz hc hq)
  unfold cm_mx
  rw [← hj, ← hv]
  by_cases hlt : q < j
  · rw [if_pos hlt, if_pos ((cm_ltI _ _).mp hlt)]
  · rw [if_neg hlt, if_neg (fun z => hlt ((cm_ltI _ _).mpr z))]
theorem so_abs (hx : p.tables.exec = Jvm.exec) (hb : c.code = cm_by y) (hown : s.vm.findClass (cm_cn (cm_ow y)) = some m.cls) (hcx : cm_cx Z s) (hml : c.maxLocals = cm_mL y) (hfr : 1 ≤ R.frames) (hlo : 100 ≤ R.locals) (hCC : CC ≤ R.cells) (hSS : SS ≤ R.slots) (hle : cm_hle h hf) {i : Nat} {a : Int} (hpl : cm_pls.any (fun q => q.1 == cm_ow y && (q.2.1 == i && q.2.2.1 == 4)) = true) (hw : cm_wd (.inl a :: st) ≤ 16) (hd : decode (cm_by y) pc = .ok (.invokestatic i, 3)) (k : cm_Go Z p l e R s m args below meth c Q CC SS y hf (pc + 3) L (.inl (if 0 ≤ a then a else cm_wr (0 - a)) :: st) h) : cm_Go Z p l e R s m args below meth c Q CC SS y hf pc L (.inl a :: st) h := by
  intro H locs cells slots rls rst hH hS hn hL hs hz hc hq
  have hsz := cm_lr_size hL
  have hwd := cm_sr_wd hs
  obtain ⟨q, r, rfl, hv, hs_1⟩ := cm_sr_i hs
  simp only [List.map_cons, List.sum_cons] at hwd
  refine va_mabs hx hb (hml.trans (hn.symm.trans hsz.symm)) hown (cm_w hcx args (cm_pl_inv hpl) rfl) (cm_w hcx args cm_in_sabs rfl) (cm_w hcx args cm_in_imath rfl) (cm_w hcx args cm_in_cabs rfl) hfr (by omega) (by have := hle.1; omega) (by have := hle.2; omega) hd (k H locs cells slots rls _ hH hS hn hL ⟨⟨_, rfl, ?_⟩, hs_1⟩ hz hc hq)
  rw [← hv]
  have h0 : 0 ≤ q ↔ 0 ≤ q.toInt := cm_leI 0 q
  by_cases hlt : 0 ≤ q
  · rw [if_pos hlt, if_pos (h0.mp hlt)]
  · rw [if_neg hlt, if_neg (fun z => hlt (h0.mpr z)), cm_sub]
    rfl
theorem so_cpy (hx : p.tables.exec = Jvm.exec) (hb : c.code = cm_by y) (hown : s.vm.findClass (cm_cn (cm_ow y)) = some m.cls) (hcx : cm_cx Z s) (hml : c.maxLocals = cm_mL y) (hfr : 1 ≤ R.frames) (hlo : 100 ≤ R.locals) (hCC : CC ≤ R.cells) (hSS : SS ≤ R.slots) (hle : cm_hle h hf) {i a b na nb : Nat} {n dp sp : Int} (hpl : cm_pls.any (fun q => q.1 == cm_ow y && (q.2.1 == i && q.2.2.1 == 5)) = true) (hw : cm_wd (.inl n :: .inl dp :: .inr (.inr a) :: .inl sp :: .inr (.inr b) :: st) ≤ 16) (hka : h.1 a = (1, na)) (hkb : h.1 b = (1, nb)) (han : a < h.2.2.2.2.1) (hbn : b < h.2.2.2.2.1) (h0 : 0 ≤ n ∧ 0 ≤ dp ∧ 0 ≤ sp) (h1 : sp + n ≤ (nb : Int)) (h2 : dp + n ≤ (na : Int)) (hd : decode (cm_by y) pc = .ok (.invokestatic i, 3))
    (k : cm_Go Z p l e R s m args below meth c Q CC SS y hf (pc + 3) L st (cm_sA h a (cm_cp (h.2.2.1 b) (h.2.2.1 a) sp dp n))) : cm_Go Z p l e R s m args below meth c Q CC SS y hf pc L (.inl n :: .inl dp :: .inr (.inr a) :: .inl sp :: .inr (.inr b) :: st) h := by
  intro H locs cells slots rls rst hH hS hn hL hs hz hc hq
  have hsz := cm_lr_size hL
  have hwd := cm_sr_wd hs
  obtain ⟨jn, r, rfl, hjn, hs_1⟩ := cm_sr_i hs
  obtain ⟨jd, r, rfl, hjd, hs_2⟩ := cm_sr_i hs_1
  obtain ⟨qa, r, rfl, hva, hs_3⟩ := cm_sr_r hs_2
  obtain ⟨js, r, rfl, hjs, hs_4⟩ := cm_sr_i hs_3
  obtain ⟨qb, r, rfl, hvb, hs_5⟩ := cm_sr_r hs_4
  simp only [List.map_cons, List.sum_cons] at hwd
  obtain ⟨ws, hP, hD, hwl, h5, h6, hcell, hout, hscr, hxs⟩ := hH
  have e1 := cm_vr_c hva (by omega)
  cases e1
  have e2 := cm_vr_c hvb (by omega)
  cases e2
  obtain ⟨ea, hea, hca⟩ := hcell a han
  obtain ⟨fa, rfl, hfa⟩ := cm_ce_i hca hka
  obtain ⟨eb, heb, hcb⟩ := hcell b hbn
  obtain ⟨fb, rfl, hfb⟩ := cm_ce_i hcb hkb
  have cn : jn.toNatClampNeg = n.toNat := by rw [← hjn]; rfl
  have cd : jd.toNatClampNeg = dp.toNat := by rw [← hjd]; rfl
  have cs : js.toNatClampNeg = sp.toNat := by rw [← hjs]; rfl
  have z0 : (0 : Int32).toInt = 0 := rfl
  refine va_copyi hx hb (hml.trans (hn.symm.trans hsz.symm)) hown (cm_w hcx args (cm_pl_inv hpl) rfl) (cm_w hcx args cm_in_ncpy rfl) (cm_w hcx args cm_in_scpy rfl) (cm_w hcx args cm_in_isys rfl) hcx.2.2.1 hP hD hS b a 0 0 heb hea rfl rfl rfl (by rw [cm_ltI, hjs, z0]; omega) (by rw [cm_ltI, hjd, z0]; omega) (by rw [cm_ltI, hjn, z0]; omega) (by rw [cs, cn]; omega) (by rw [cd, cn]; omega) (fun _ _ => rfl) hfr ?_ hd (fun H1 locs1 hP1 hD1 hS1 => ?_)
  · have : nativeFrameWords "java/lang/System" "arraycopy" 5 = 7 := by decide
    rw [this]
    omega
  · refine k H1 locs1 cells slots rls r (cm_hr_up hP1 hD1 hwl h5 h6 hcell hout hscr hxs han rfl rfl ?_ (fun k hka => ⟨rfl, by show cm_ua _ _ _ _ = _; unfold cm_ua; rw [if_neg hka], rfl⟩)) hS1 hn hL hs_5 hz hc hq
    refine ⟨Or.inl ⟨rfl, hka⟩, fun j hj => ?_⟩
    show (va_cpy fb fa js.toNatClampNeg jd.toNatClampNeg jn.toNatClampNeg j).toInt = cm_ua h.2.2.1 a (cm_cp (h.2.2.1 b) (h.2.2.1 a) sp dp n) a (j : Int)
    unfold cm_ua
    rw [if_pos rfl, cs, cd, cn]
    unfold cm_cp
    by_cases hin : dp ≤ (j : Int) ∧ (j : Int) < dp + n
    · rw [if_pos hin, pk_cpy_in (by omega) (by omega), hfb _ (by omega)]
      have e9 : ((sp.toNat + (j - dp.toNat) : Nat) : Int) = sp + ((j : Int) - dp) := by omega
      rw [e9]
    · rw [if_neg hin, pk_cpy_out (by omega)]
      exact hfa j hj
theorem cm_kl_inv {y i b : Nat} (h : cm_kls.any (fun q => q.1 == cm_ow y && (q.2.1 == i && q.2.2.1 == b)) = true) : Jvm.Cond.constant (cm_cn (cm_ow y)) i (Int32.ofNat b) ∈ lw_tbl ∧ b < 2147483648 := by
  obtain ⟨⟨q1, q2, q3, q4⟩, hm, hq⟩ := List.any_eq_true.mp h
  simp only [Bool.and_eq_true, beq_iff_eq] at hq
  obtain ⟨rfl, rfl, rfl⟩ := hq
  have h1 := List.all_eq_true.mp cm_kls_ok _ hm
  unfold cm_okk at h1
  simp only [Bool.and_eq_true, decide_eq_true_eq] at h1
  exact ⟨List.mem_of_getElem? h1.1, h1.2⟩
theorem so_ldcI (hx : p.tables.exec = Jvm.exec) (hb : c.code = cm_by y) (hown : s.vm.findClass (cm_cn (cm_ow y)) = some m.cls) (hcx : cm_cx Z s) {i b len : Nat} (hkl : cm_kls.any (fun q => q.1 == cm_ow y && (q.2.1 == i && q.2.2.1 == b)) = true) (hd : (decode (cm_by y) pc = .ok (.ldc i, 2) ∧ len = 2) ∨ (decode (cm_by y) pc = .ok (.ldc_w i, 3) ∧ len = 3)) (k : cm_Go Z p l e R s m args below meth c Q CC SS y hf (pc + len) L (.inl (b : Int) :: st) h) : cm_Go Z p l e R s m args below meth c Q CC SS y hf pc L st h := by
  intro H locs cells slots rls rst hH hS hn hL hs hz hc hq
  obtain ⟨h1, h2⟩ := cm_kl_inv hkl
  have kk := k H locs cells slots rls (.int (Int32.ofNat b) :: rst) hH hS hn hL ⟨⟨_, rfl, nI_toInt h2⟩, hs⟩ hz hc hq
  rcases hd with ⟨hd, rfl⟩ | ⟨hd, rfl⟩
  · exact lv_ldc hx hb hown (cm_w hcx args h1 rfl) hd kk
  · exact lv_ldcw hx hb hown (cm_w hcx args h1 rfl) hd kk
theorem so_ldc2 (hx : p.tables.exec = Jvm.exec) (hb : c.code = cm_by y) (hown : s.vm.findClass (cm_cn (cm_ow y)) = some m.cls) (hcx : cm_cx Z s) {i : Nat} (hjl : cm_jls.any (fun q => q.1 == cm_ow y && q.2.1 == i) = true) (hd : decode (cm_by y) pc = .ok (.ldc2_w i, 3)) (k : cm_Go Z p l e R s m args below meth c Q CC SS y hf (pc + 3) L (.inr (.inl (-1)) :: st) h) : cm_Go Z p l e R s m args below meth c Q CC SS y hf pc L st h := by
  intro H locs cells slots rls rst hH hS hn hL hs hz hc hq
  obtain ⟨⟨q1, q2, q3⟩, hm, hq1⟩ := List.any_eq_true.mp hjl
  simp only [Bool.and_eq_true, beq_iff_eq] at hq1
  obtain ⟨rfl, rfl⟩ := hq1
  have h1 := List.all_eq_true.mp cm_jls_ok _ hm
  have h2 : Jvm.Cond.constantLong (cm_cn (cm_ow y)) q2 (-1) ∈ lw_tbl := List.mem_of_getElem? (of_decide_eq_true h1)
  exact lv_ldc2 hx hb hown (cm_w hcx args h2 rfl) hd (k H locs cells slots rls _ hH hS hn hL ⟨rfl, hs⟩ hz hc hq)
theorem so_ldcS (hx : p.tables.exec = Jvm.exec) (hb : c.code = cm_by y) (hown : s.vm.findClass (cm_cn (cm_ow y)) = some m.cls) (hcx : cm_cx Z s) {i b k0 : Nat} (hk0 : k0 < 6) (hli : (cm_lits[k0]?).map (fun q => (q.1, q.2.1)) = some (cm_cn (cm_ow y), i)) (hb0 : b = 200000 + k0 % 3) (hd : decode (cm_by y) pc = .ok (.ldc i, 2)) (k : cm_Go Z p l e R s m args below meth c Q CC SS y hf (pc + 2) L (.inr (.inr b) :: st) h) : cm_Go Z p l e R s m args below meth c Q CC SS y hf pc L st h := by
  intro H locs cells slots rls rst hH hS hn hL hs hz hc hq
  cases e1 : cm_lits[k0]? with
  | none => rw [e1] at hli; cases hli
  | some q =>
    rw [e1] at hli
    obtain ⟨q1, q2, q3⟩ := q
    simp only [Option.map_some, Option.some.injEq, Prod.mk.injEq] at hli
    obtain ⟨rfl, rfl⟩ := hli
    have h1 := hcx.2.2.2.2.2.2.2.2.2.1 k0 _ e1
    have kk := k H locs cells slots rls (.ref (zK Z k0) :: rst) hH hS hn hL ⟨by
      unfold cm_vr
      simp only
      rw [if_neg (by omega), if_neg (by omega), if_pos (by omega)]
      exact ⟨k0, hk0, by omega, rfl⟩, hs⟩ hz hc hq
    exact va_ldcS hx hb hown h1 hd kk
end SOA
end
section
section SON
variable {Z : cm_Z} {p : Program} {l : Launch} {e : Env} {R : Room} {s : State} {m : MethodId} {args : Array Value} {below : List Frame} {meth : Method} {c : Code} {Q : State → Prop} {CC SS y pc : Nat} {hf h : cm_H} {L : cm_L} {st : List cm_V}
theorem cm_szW {H : Heap} {locs : List Loc} {cells slots : Nat} {g : JFrame} (k : H.size ≤ s.heap.size + cells → W p l e R s m args below meth c H locs cells slots Q g) : W p l e R s m args below meth c H locs cells slots Q g := fun T hT X => k (by rw [← hT]; exact X.heapSize) T hT X
theorem cm_size_eq {H : Heap} {locs : List Loc} {cells : Nat} (hcx : cm_cx Z s) (hH : cm_hr Z h H) (hS : va_S (zA Z) s.heap H locs) (hz : s.heap.size + cells ≤ zB Z + h.2.2.2.2.2.1) (he : h.2.2.2.2.1 = h.2.2.2.2.2.1) (hs : H.size ≤ s.heap.size + cells) : H.size = zB Z + h.2.2.2.2.1 := by
  obtain ⟨ws, hP, hD, hwl, h5, h6, hcell, hout, hscr, hxs⟩ := hH
  have h1 : zB Z + h.2.2.2.2.1 ≤ H.size := by
    cases e0 : h.2.2.2.2.1 with
    | zero =>
      have := hcx.2.2.2.2.2.1
      have := hS.1
      omega
    | succ n =>
      obtain ⟨e1, he1, -⟩ := hcell n (by omega)
      have h2 : zB Z + n < H.size := (hP n _ he1).lt
      omega
  omega
theorem cm_ua_ne {α : Type} {f : Nat → α} {a b : Nat} {g : α} (hh : b ≠ a) : cm_ua f a g b = f b := by unfold cm_ua; rw [if_neg hh]
theorem cm_ua_eq {α : Type} {f : Nat → α} {a : Nat} {g : α} : cm_ua f a g a = g := by unfold cm_ua; rw [if_pos rfl]
theorem cm_hr_mk {H1 : Heap} {ws : va_W} {e' : va_E} {kd : Nat × Nat} {n : Nat} (hP1 : va_P (zD Z) cm_vw (ws ++ [(zB Z + h.2.2.2.2.1, e')]) H1) (hD1 : va_D (zA Z) (ws ++ [(zB Z + h.2.2.2.2.1, e')])) (hwl : ws.length = h.2.2.2.2.1) (h5 : h.2.2.2.2.1 < 99999) (h6 : h.2.2.2.2.1 ≤ h.2.2.2.2.2.1)
    (hcell : ∀ k, k < h.2.2.2.2.1 → ∃ e, ws[k]? = some (zB Z + k, e) ∧ cm_ce Z h k e) (hout : ∀ a, h.2.2.2.2.1 ≤ a → a ≠ 100000 → h.1 a = (9, 0)) (hscr : h.1 100000 = (1, zL Z)) (hxs : (∀ j, j < zL Z → (zX Z j).toInt = h.2.2.1 100000 (j : Int)) ∧ ∀ a, (h.1 a).1 = 1 → (h.1 a).2 < 2147483648) (hkb : kd.1 = 1 → kd.2 < 2147483648) (he' : cm_ce Z (cm_mk h kd n) h.2.2.2.2.1 e') : cm_hr Z (cm_mk h kd n) H1 := by
  refine ⟨_, hP1, hD1, by rw [List.length_append, hwl]; rfl, by show h.2.2.2.2.1 + 1 ≤ 100000; omega, Nat.succ_le_succ h6, ?_, ?_, ?_, ?_⟩
  · intro k hk
    have hk : k < h.2.2.2.2.1 + 1 := hk
    by_cases hkn : k = h.2.2.2.2.1
    · subst hkn
      refine ⟨e', ?_, he'⟩
      rw [List.getElem?_append_right (by omega), hwl]
      simp
    · obtain ⟨e0, h7, h8⟩ := hcell k (by omega)
      refine ⟨e0, by rw [List.getElem?_append_left (by omega)]; exact h7, cm_ce_same ?_ ?_ ?_ ?_ h8⟩
      · exact cm_ua_ne hkn
      · exact cm_ua_ne hkn
      · exact cm_ua_ne hkn
      · exact cm_ua_ne hkn
  · intro a ha ha2
    have ha : h.2.2.2.2.1 + 1 ≤ a := ha
    show cm_ua h.1 h.2.2.2.2.1 kd a = (9, 0)
    rw [cm_ua_ne (by omega)]
    exact hout a (by omega) ha2
  · show cm_ua h.1 h.2.2.2.2.1 kd 100000 = _
    rw [cm_ua_ne (by omega)]
    exact hscr
  · refine ⟨fun j hj => ?_, fun a ha => ?_⟩
    · show _ = cm_ua h.2.2.1 h.2.2.2.2.1 (fun _ => 0) 100000 (j : Int)
      rw [cm_ua_ne (by omega)]
      exact hxs.1 j hj
    · have ha : (cm_ua h.1 h.2.2.2.2.1 kd a).1 = 1 := ha
      show (cm_ua h.1 h.2.2.2.2.1 kd a).2 < 2147483648
      by_cases hae : a = h.2.2.2.2.1
      · rw [hae, cm_ua_eq] at ha ⊢
        exact hkb ha
      · rw [cm_ua_ne hae] at ha ⊢
        exact hxs.2 a ha
theorem cm_cl_inv {i b n : Nat} (hh : cm_cls.any (fun q => q.1 == cm_ow y && (q.2.1 == i && (q.2.2.1 == b && q.2.2.2.1 == n))) = true) : ∃ (C : String) (T : u_T), cm_vw[b]? = some (C, T, n) ∧ Jvm.Cond.classLink (cm_cn (cm_ow y)) i C ∈ lw_tbl ∧ Jvm.Cond.instantiable C n ∈ lw_tbl ∧ Jvm.Cond.initialized C ∈ lw_tbl := by
  obtain ⟨⟨q1, q2, q3, q4, q5⟩, hm, hq⟩ := List.any_eq_true.mp hh
  simp only [Bool.and_eq_true, beq_iff_eq] at hq
  obtain ⟨rfl, rfl, rfl, rfl⟩ := hq
  have h1 := List.all_eq_true.mp cm_cls_ok _ hm
  unfold cm_okc at h1
  simp only at h1
  cases e1 : cm_vw[q3]? with
  | none => rw [e1] at h1; simp at h1
  | some z =>
    cases e2 : cm_cis[q3]? with
    | none => rw [e1, e2] at h1; simp at h1
    | some w =>
      obtain ⟨C, T, N⟩ := z
      obtain ⟨i1, j1⟩ := w
      rw [e1, e2] at h1
      simp only [Bool.and_eq_true, decide_eq_true_eq] at h1
      obtain ⟨⟨⟨rfl, h2⟩, h3⟩, h4⟩ := h1
      exact ⟨C, T, rfl, List.mem_of_getElem? h2, List.mem_of_getElem? h3, List.mem_of_getElem? h4⟩
theorem so_new (hx : p.tables.exec = Jvm.exec) (hb : c.code = cm_by y) (hown : s.vm.findClass (cm_cn (cm_ow y)) = some m.cls) (hcx : cm_cx Z s) (hml : c.maxLocals = cm_mL y) (hfr : 1 ≤ R.frames) (hlo : 100 ≤ R.locals) (hCC : CC ≤ R.cells) (hSS : SS ≤ R.slots) {i b n : Nat} (hcl : cm_cls.any (fun q => q.1 == cm_ow y && (q.2.1 == i && (q.2.2.1 == b && q.2.2.2.1 == n))) = true) (he : h.2.2.2.2.1 = h.2.2.2.2.2.1) (h9 : h.2.2.2.2.1 < 99999) (hle : cm_hle (cm_mk h (0, b) n) hf) (hd : decode (cm_by y) pc = .ok (.new i, 3)) (k : cm_Go Z p l e R s m args below meth c Q CC SS y hf (pc + 3) L (.inr (.inr h.2.2.2.2.1) :: st) (cm_mk h (0, b) n)) : cm_Go Z p l e R s m args below meth c Q CC SS y hf pc L st h := by
  intro H locs cells slots rls rst hH hS hn hL hs hz hc hq
  refine cm_szW (fun hsz => ?_)
  have hHs := cm_size_eq hcx hH hS hz he hsz
  obtain ⟨C, T, hvw, hl1, hl2, hl3⟩ := cm_cl_inv hcl
  obtain ⟨⟨ty, hty, htr⟩, hnm⟩ := cm_vw_ty hvw
  obtain ⟨ws, hP, hD, hwl, h5, h6, hcell, hout, hscr, hxs⟩ := hH
  have hKn := hcx.2.2.1.1 b _ hvw
  have hle1 : h.2.2.2.2.2.1 + 1 ≤ hf.2.2.2.2.2.1 := hle.1
  have hle2 : h.2.2.2.2.2.2 + n ≤ hf.2.2.2.2.2.2 := hle.2
  refine W.newcK hx hb hown (cm_w hcx args hl1 rfl) (cm_w hcx args hl2 rfl) (cm_w hcx args hl3 rfl) rfl hd (by omega) (by omega) hKn.2.1 rfl fun H1 kC hkC e1 z1 o1 => ?_
  have hk : ∀ (k : Nat) (x : Nat × va_E), ws[k]? = some x → H1[x.1]? = H[x.1]? := fun k x hx => o1 x.1 ((hP k x hx).lt)
  have hfs : ∀ j, j < n → defaultValue (ty j) = vp_V ((List.range n).map (fun j => defaultValue (ty j))) j := by
    intro j hj
    unfold vp_V
    simp [hj]
  have hP1 : va_P (zD Z) cm_vw (ws ++ [(zB Z + h.2.2.2.2.1, .inr (b, (List.range n).map (fun j => defaultValue (ty j))))]) H1 := by
    refine (hP.kept hk).app (fun k x hx => ?_)
    have hz2 : k < 1 := (List.getElem?_eq_some_iff.mp hx).1
    rw [show k = 0 by omega] at hx
    cases hx
    rw [← hHs]
    exact ⟨_, hvw, (u_born ty (cm_hts hcx args) (cm_lays hvw) hKn hkC e1 hty).to hfs⟩
  have hD1 : va_D (zA Z) (ws ++ [(zB Z + h.2.2.2.2.1, .inr (b, (List.range n).map (fun j => defaultValue (ty j))))]) := hD.push hP hHs.symm (by show zB Z ≤ _; omega)
  have hS1 : va_S (zA Z) s.heap H1 locs := ⟨Nat.le_trans hS.1 (by omega), fun x h1 h2 => (o1 x (Nat.lt_of_lt_of_le h1 hS.1)).trans (hS.2.1 x h1 h2), hS.2.2⟩
  have hR := cm_hr_mk (kd := (0, b)) (n := n) hP1 hD1 hwl h9 h6 hcell hout hscr hxs (fun h7 => by cases h7) ?_
  · have kk := k H1 locs (cells + 1) (slots + n) rls (.ref (zB Z + h.2.2.2.2.1) :: rst) hR hS1 hn hL ⟨cm_vr_cI (by omega), hs⟩ (by show _ ≤ zB Z + (h.2.2.2.2.2.1 + 1); omega) (by show _ ≤ CC + (h.2.2.2.2.2.1 + 1); omega) (by show _ ≤ SS + (h.2.2.2.2.2.2 + n); omega)
    rw [← hHs] at kk
    exact kk
  · refine ⟨cm_ua_eq, (C, T, n), hvw, by simp, fun j hj => ?_⟩
    unfold cm_fr
    have hj : j < n := hj
    by_cases h2 : cm_tc (T j).2.2.1 = 2
    · rw [if_pos h2]
      intro hlt
      have : (cm_mk h (0, b) n).2.1 h.2.2.2.2.1 (j : Int) = 400000 := by
        show cm_ua h.2.1 h.2.2.2.2.1 (fun _ => 400000) h.2.2.2.2.1 (j : Int) = 400000
        rw [cm_ua_eq]
      omega
    · rw [if_neg h2]
      refine ⟨0, ?_, ?_⟩
      · have hpd := hty j hj
        have h3 : cm_tc (T j).2.2.1 = 0 ∨ cm_tc (T j).2.2.1 = 1 := by
          unfold cm_tc at h2 ⊢
          split
          · exact Or.inl rfl
          · rename_i h4
            rw [if_neg h4] at h2
            split
            · exact Or.inr rfl
            · rename_i h5
              rw [if_neg h5] at h2
              exact absurd rfl h2
        have h4 : defaultValue (ty j) = .int 0 := by
          simp only at hpd
          rcases h3 with h3 | h3
          · rw [cm_tc_0 h3] at hpd
            have : ty j = .int := Option.some.inj (hpd.symm.trans (show parseFieldDescriptor "I" = some .int by decide +kernel))
            rw [this]; rfl
          · rw [cm_tc_1 h3] at hpd
            have : ty j = .boolean := Option.some.inj (hpd.symm.trans (show parseFieldDescriptor "Z" = some .boolean by decide +kernel))
            rw [this]; rfl
        simp [hj, h4]
      · show (0 : Int32).toInt = cm_ua h.2.2.1 h.2.2.2.2.1 (fun _ => 0) h.2.2.2.2.1 (j : Int)
        rw [cm_ua_eq]
        rfl
theorem so_newa (hx : p.tables.exec = Jvm.exec) (hb : c.code = cm_by y) (hcx : cm_cx Z s) (hml : c.maxLocals = cm_mL y) (hfr : 1 ≤ R.frames) (hlo : 100 ≤ R.locals) (hCC : CC ≤ R.cells) (hSS : SS ≤ R.slots) {t : ArrayType} {n : Int} (ht : (cm_at_ t).blt 9 = true) (he : h.2.2.2.2.1 = h.2.2.2.2.2.1) (h9 : h.2.2.2.2.1 < 99999) (h0 : 0 ≤ n ∧ n ≤ 100000) (hle : cm_hle (cm_mk h (cm_at_ t, n.toNat) n.toNat) hf) (hd : decode (cm_by y) pc = .ok (.newarray t, 2)) (k : cm_Go Z p l e R s m args below meth c Q CC SS y hf (pc + 2) L (.inr (.inr h.2.2.2.2.1) :: st) (cm_mk h (cm_at_ t, n.toNat) n.toNat)) : cm_Go Z p l e R s m args below meth c Q CC SS y hf pc L (.inl n :: st) h := by
  intro H locs cells slots rls rst hH hS hn hL hs hz hc hq
  refine cm_szW (fun hsz => ?_)
  have hHs := cm_size_eq hcx hH hS hz he hsz
  obtain ⟨jn, r, rfl, hjn, hs_1⟩ := cm_sr_i hs
  obtain ⟨ws, hP, hD, hwl, h5, h6, hcell, hout, hscr, hxs⟩ := hH
  have hle1 : h.2.2.2.2.2.1 + 1 ≤ hf.2.2.2.2.2.1 := hle.1
  have hle2 : h.2.2.2.2.2.2 + n.toNat ≤ hf.2.2.2.2.2.2 := hle.2
  have cn : jn.toNatClampNeg = n.toNat := by rw [← hjn]; rfl
  have hneg : ¬ jn < 0 := by rw [cm_ltI, hjn]; show ¬ n < 0; omega
  have key : ∀ (e' : va_E) (ty : FieldType) (cA0 : ClassId), newarray.typeOf t = ty → (Cond.arrayClass ty).before args s = true → n.toNat * componentBytes ty ≤ 536870912 → (∀ cA, s.vm.findClass ("[" ++ ty.toString) = some cA → cA = cA0) → (∀ H1 : Heap, H1[H.size]? = some (arrV cA0 n.toNat (fun _ => defaultValue ty)) → va_at (zD Z) cm_vw (H.size, e') H1) → cm_ce Z (cm_mk h (cm_at_ t, n.toNat) n.toNat) h.2.2.2.2.1 e' → W p l e R s m args below meth c H locs cells slots Q (F0 m pc rls (.int jn :: r)) := by
    intro e' ty cA0 hty harr hby hcA hat hce
    subst hty
    refine va_newaK hx hb harr rfl hd rfl hneg cn hby (by omega) (by omega) rfl fun H1 cA e1 z1 o1 hAr hNm => ?_
    have hcA1 := hcA cA hNm
    subst hcA1
    have hk : ∀ (k : Nat) (x : Nat × va_E), ws[k]? = some x → H1[x.1]? = H[x.1]? := fun k x hx => o1 x.1 ((hP k x hx).lt)
    have hP1 : va_P (zD Z) cm_vw (ws ++ [(zB Z + h.2.2.2.2.1, e')]) H1 := by
      refine (hP.kept hk).app (fun k x hx => ?_)
      have hz2 : k < 1 := (List.getElem?_eq_some_iff.mp hx).1
      rw [show k = 0 by omega] at hx
      cases hx
      rw [← hHs]
      exact hat H1 e1
    have hD1 : va_D (zA Z) (ws ++ [(zB Z + h.2.2.2.2.1, e')]) := hD.push hP hHs.symm (by show zB Z ≤ _; omega)
    have hS1 : va_S (zA Z) s.heap H1 locs := ⟨Nat.le_trans hS.1 (by omega), fun x h1 h2 => (o1 x (Nat.lt_of_lt_of_le h1 hS.1)).trans (hS.2.1 x h1 h2), hS.2.2⟩
    have hR := cm_hr_mk (kd := (cm_at_ t, n.toNat)) (n := n.toNat) hP1 hD1 hwl h9 h6 hcell hout hscr hxs (fun _ => by show n.toNat < 2147483648; omega) hce
    have kk := k H1 locs (cells + 1) (slots + n.toNat) rls (.ref (zB Z + h.2.2.2.2.1) :: r) hR hS1 hn hL ⟨cm_vr_cI (by omega), hs_1⟩ (by show _ ≤ zB Z + (h.2.2.2.2.2.1 + 1); omega) (by show _ ≤ CC + (h.2.2.2.2.2.1 + 1); omega) (by show _ ≤ SS + (h.2.2.2.2.2.2 + n.toNat); omega)
    rw [← hHs] at kk
    exact kk
  cases t with
  | int =>
    refine key (.inl (zI Z, n.toNat, .inl (fun _ => 0))) .int (zI Z) rfl (cm_w hcx args cm_in_aint rfl) (by show n.toNat * 4 ≤ _; omega) (fun cA hc1 => Option.some.inj (hc1.symm.trans (hcx.2.2.1.2 0 _ rfl).2)) (fun H1 e1 => e1) ⟨Or.inl ⟨rfl, cm_ua_eq⟩, fun j hj => ?_⟩
    show (0 : Int32).toInt = cm_ua h.2.2.1 h.2.2.2.2.1 (fun _ => 0) h.2.2.2.2.1 (j : Int)
    rw [cm_ua_eq]; rfl
  | boolean =>
    refine key (.inl (zO Z, n.toNat, .inl (fun _ => 0))) .boolean (zO Z) rfl (cm_w hcx args cm_in_abool rfl) (by show n.toNat * 1 ≤ _; omega) (fun cA hc1 => Option.some.inj (hc1.symm.trans (hcx.2.2.1.2 1 _ rfl).2)) (fun H1 e1 => e1) ⟨Or.inr ⟨rfl, cm_ua_eq⟩, fun j hj => ?_⟩
    show (0 : Int32).toInt = cm_ua h.2.2.1 h.2.2.2.2.1 (fun _ => 0) h.2.2.2.2.1 (j : Int)
    rw [cm_ua_eq]; rfl
  | long =>
    refine key (.inl (zJ Z, n.toNat, .inr (.inl (fun _ => 0)))) .long (zJ Z) rfl (cm_w hcx args cm_in_along rfl) (by show n.toNat * 8 ≤ _; omega) (fun cA hc1 => Option.some.inj (hc1.symm.trans (hcx.2.2.1.2 2 _ rfl).2)) (fun H1 e1 => e1) ⟨rfl, cm_ua_eq, fun j hj => ?_⟩
    show (0 : Int64) = cm_ua h.2.2.2.1 h.2.2.2.2.1 (fun _ => 0) h.2.2.2.2.1 (j : Int)
    rw [cm_ua_eq]
  | _ => cases ht
theorem so_anew (hx : p.tables.exec = Jvm.exec) (hb : c.code = cm_by y) (hown : s.vm.findClass (cm_cn (cm_ow y)) = some m.cls) (hcx : cm_cx Z s) (hml : c.maxLocals = cm_mL y) (hfr : 1 ≤ R.frames) (hlo : 100 ≤ R.locals) (hCC : CC ≤ R.cells) (hSS : SS ≤ R.slots) {i : Nat} {n : Int} (hcl : cm_cls.any (fun q => q.1 == cm_ow y && (q.2.1 == i && q.2.2.1 == 6)) = true) (he : h.2.2.2.2.1 = h.2.2.2.2.2.1) (h9 : h.2.2.2.2.1 < 99999) (h0 : 0 ≤ n ∧ n ≤ 100000) (hle : cm_hle (cm_mk h (4, n.toNat) n.toNat) hf) (hd : decode (cm_by y) pc = .ok (.anewarray i, 3)) (k : cm_Go Z p l e R s m args below meth c Q CC SS y hf (pc + 3) L (.inr (.inr h.2.2.2.2.1) :: st) (cm_mk h (4, n.toNat) n.toNat)) : cm_Go Z p l e R s m args below meth c Q CC SS y hf pc L (.inl n :: st) h := by
  intro H locs cells slots rls rst hH hS hn hL hs hz hc hq
  refine cm_szW (fun hsz => ?_)
  have hHs := cm_size_eq hcx hH hS hz he hsz
  obtain ⟨jn, r, rfl, hjn, hs_1⟩ := cm_sr_i hs
  have hcl2 : ∃ nn, cm_cls.any (fun q => q.1 == cm_ow y && (q.2.1 == i && (q.2.2.1 == 6 && q.2.2.2.1 == nn))) = true := by
    obtain ⟨⟨q1, q2, q3, q4, q5⟩, hm, hq1⟩ := List.any_eq_true.mp hcl
    refine ⟨q4, List.any_eq_true.mpr ⟨_, hm, ?_⟩⟩
    simp only [Bool.and_eq_true, beq_iff_eq] at hq1 ⊢
    exact ⟨hq1.1, hq1.2.1, hq1.2.2, trivial⟩
  obtain ⟨nn, hcl3⟩ := hcl2
  obtain ⟨C, T, hvw, hl1, hl2, hl3⟩ := cm_cl_inv hcl3
  cases hvw
  obtain ⟨ws, hP, hD, hwl, h5, h6, hcell, hout, hscr, hxs⟩ := hH
  have hle1 : h.2.2.2.2.2.1 + 1 ≤ hf.2.2.2.2.2.1 := hle.1
  have hle2 : h.2.2.2.2.2.2 + n.toNat ≤ hf.2.2.2.2.2.2 := hle.2
  have cn : jn.toNatClampNeg = n.toNat := by rw [← hjn]; rfl
  have hneg : ¬ jn < 0 := by rw [cm_ltI, hjn]; show ¬ n < 0; omega
  refine W.anew hx hb hown (cm_w hcx args hl1 rfl) (va_AO.use hcx.2.1) rfl hd rfl hneg (by rw [cn]; omega) (by omega) (by rw [cn]; omega) fun cA kA comp f1 f2 f3 f4 => ?_
  rw [cn]
  generalize hH1 : H.push ({ cls := cA, slots := Array.replicate n.toNat .null, vm := .none } : Cell) = H1
  have z1 : H1.size = H.size + 1 := by rw [← hH1, Array.size_push]
  have e1 : H1[H.size]? = some (arrV cA n.toNat (fun _ => .null)) := by rw [← hH1, Array.getElem?_push_size, ← arrV_new]
  have o1 : ∀ q : Nat, q < H.size → H1[q]? = H[q]? := fun q hq => by rw [← hH1, Array.getElem?_push, if_neg (Nat.ne_of_lt hq)]
  have hcA1 : cA = zR Z := by
    obtain ⟨kB, cB, g1, g2, g3, g4⟩ := (hcx.2.2.1.2 3 _ rfl).2
    exact Option.some.inj (f1.symm.trans g4)
  subst hcA1
  have hk : ∀ (k : Nat) (x : Nat × va_E), ws[k]? = some x → H1[x.1]? = H[x.1]? := fun k x hx => o1 x.1 ((hP k x hx).lt)
  have hP1 : va_P (zD Z) cm_vw (ws ++ [(zB Z + h.2.2.2.2.1, .inl (zR Z, n.toNat, .inr (.inr (.inr (.inr (fun _ => none))))))]) H1 := by
    refine (hP.kept hk).app (fun k x hx => ?_)
    have hz2 : k < 1 := (List.getElem?_eq_some_iff.mp hx).1
    rw [show k = 0 by omega] at hx
    cases hx
    rw [← hHs]
    exact e1
  have hD1 : va_D (zA Z) (ws ++ [(zB Z + h.2.2.2.2.1, .inl (zR Z, n.toNat, .inr (.inr (.inr (.inr (fun _ => none))))))]) := hD.push hP hHs.symm (by show zB Z ≤ _; omega)
  have hS1 : va_S (zA Z) s.heap H1 locs := ⟨Nat.le_trans hS.1 (by omega), fun x h1 h2 => (o1 x (Nat.lt_of_lt_of_le h1 hS.1)).trans (hS.2.1 x h1 h2), hS.2.2⟩
  have hR := cm_hr_mk (kd := (4, n.toNat)) (n := n.toNat) hP1 hD1 hwl h9 h6 hcell hout hscr hxs (fun h7 => by cases h7) ⟨rfl, cm_ua_eq, fun j hj hlt => by
    have : (cm_mk h (4, n.toNat) n.toNat).2.1 h.2.2.2.2.1 (j : Int) = 400000 := by
      show cm_ua h.2.1 h.2.2.2.2.1 (fun _ => 400000) h.2.2.2.2.1 (j : Int) = 400000
      rw [cm_ua_eq]
    omega⟩
  have kk := k H1 locs (cells + 1) (slots + n.toNat) rls (.ref (zB Z + h.2.2.2.2.1) :: r) hR hS1 hn hL ⟨cm_vr_cI (by omega), hs_1⟩ (by show _ ≤ zB Z + (h.2.2.2.2.2.1 + 1); omega) (by show _ ≤ CC + (h.2.2.2.2.2.1 + 1); omega) (by show _ ≤ SS + (h.2.2.2.2.2.2 + n.toNat); omega)
  rw [← hHs] at kk
  exact kk
end SON
end
section
/-- what is known of the tables stays -/
theorem cm_cx_at {Z : cm_Z} {s U : State} (hcx : cm_cx Z s) (hW : s.WarmedH U.vm) (hz : s.heap.size ≤ U.heap.size) (hk : ∀ q : Nat, q < zB Z → U.heap[q]? = s.heap[q]?) : cm_cx Z U := by
  obtain ⟨c1, c2, c3, c4, c5, c6, c7, c8, c9, c10, c11, c12, c13⟩ := hcx
  have hA := hW.alike
  have hkk : ∀ a : Nat, a < s.heap.size → ¬ zA Z a → U.heap[a]? = s.heap[a]? := fun a _ h2 => hk a (Nat.lt_of_not_le h2)
  exact ⟨fun w hw h2 => cm_two_at hW h2 (c1 w hw h2), c2.moved hA, c3.moved hA, (c4.moved hA).kept (hk _ c5), c5, Nat.le_trans c6 hz, (c7.moved hA).kept hkk, (c8.moved hA).kept hkk, fun q hq => (c9 q hq).elim fun a h => ⟨a, h.warm hW⟩, fun i q hq => (c10 i q hq).warm hW, (c11.moved hA).kept hkk, (c12.moved hA).kept hkk, c13.moved hA⟩
def cm_Qc (Z : cm_Z) (h1 : cm_H) (r : Option cm_V ⊕ Nat) : Array Value → State → Outcome → State → Prop := fun _ st oc t => (match r with
  | .inl none => oc = .returned none
  | .inl (some a) => ∃ v, oc = .returned (some v) ∧ cm_vr Z v a
  | .inr _ => False) ∧ cm_hr Z h1 t.heap ∧ va_F (zA Z) st t
def cm_XC (Z : cm_Z) (h1 : cm_H) (r : Option cm_V ⊕ Nat) : String → State → State → Prop := fun E st t => (∃ e, r = .inr e ∧ E = cm_xn e) ∧ cm_hr Z h1 t.heap ∧ va_F (zA Z) st t
def cm_Pc (Z : cm_Z) (h : cm_H) (as_ : List cm_V) : Array Value → State → Prop := fun v U => (∃ vs : List Value, v = vs.toArray ∧ cm_sr Z as_ vs) ∧ cm_hr Z h U.heap ∧ cm_cx Z U ∧ U.heap.size ≤ zB Z + h.2.2.2.2.2.1
/-- a method's contract: from h, with these values, it ends so, with h1 -/
def cm_Met (Z : cm_Z) (l : Launch) (y : Nat) (h : cm_H) (as_ : List cm_V) (r : Option cm_V ⊕ Nat) (h1 : cm_H) : Prop :=
  vx_Met l (cm_nm y) [cm_cw y] { frames := cm_fm y, cells := h1.2.2.2.2.2.1 - h.2.2.2.2.2.1, slots := h1.2.2.2.2.2.2 - h.2.2.2.2.2.2, locals := cm_lo y } (cm_Pc Z h as_) (cm_Qc Z h1 r) (cm_XC Z h1 r) (h1.2.2.2.2.2.1 - h.2.2.2.2.2.1) (h1.2.2.2.2.2.2 - h.2.2.2.2.2.2) (zA Z)
theorem cm_Pc_blind {Z : cm_Z} {h : cm_H} {as_ : List cm_V} : FrameBlind (cm_Pc Z h as_) := by
  intro a U g mk hp
  obtain ⟨h1, h2, h3, h4⟩ := hp
  exact ⟨h1, h2, cm_cx_at h3 (State.WarmedH.refl U) (Nat.le_refl _) (fun _ _ => rfl), h4⟩
theorem cm_sr_len {Z : cm_Z} : ∀ {st : List cm_V} {rst : List Value}, cm_sr Z st rst → rst.length = st.length := by
  intro st
  induction st with
  | nil => intro rst h; rw [cm_sr_nil h]; rfl
  | cons a st ih =>
    intro rst h
    obtain ⟨v, r, rfl, -, hs⟩ := cm_sr_cons h
    rw [List.length_cons, List.length_cons, ih hs]
theorem cm_sr_app {Z : cm_Z} : ∀ {a b : List cm_V} {ra rb : List Value}, cm_sr Z a ra → cm_sr Z b rb → cm_sr Z (a ++ b) (ra ++ rb) := by
  intro a
  induction a with
  | nil => intro b ra rb h1 h2; rw [cm_sr_nil h1]; exact h2
  | cons x a ih =>
    intro b ra rb h1 h2
    obtain ⟨v, r, rfl, hv, hs⟩ := cm_sr_cons h1
    exact ⟨hv, ih hs h2⟩
theorem cm_sr_split {Z : cm_Z} : ∀ {a b : List cm_V} {r : List Value}, cm_sr Z (a ++ b) r → ∃ ra rb, r = ra ++ rb ∧ cm_sr Z a ra ∧ cm_sr Z b rb := by
  intro a
  induction a with
  | nil => intro b r h; exact ⟨[], r, rfl, trivial, h⟩
  | cons x a ih =>
    intro b r h
    obtain ⟨v, r1, rfl, hv, hs⟩ := cm_sr_cons h
    obtain ⟨ra, rb, rfl, h1, h2⟩ := ih hs
    exact ⟨v :: ra, rb, rfl, ⟨hv, h1⟩, h2⟩
theorem cm_sr_rev {Z : cm_Z} : ∀ {a : List cm_V} {ra : List Value}, cm_sr Z a ra → cm_sr Z a.reverse ra.reverse := by
  intro a
  induction a with
  | nil => intro ra h; rw [cm_sr_nil h]; trivial
  | cons x a ih =>
    intro ra h
    obtain ⟨v, r, rfl, hv, hs⟩ := cm_sr_cons h
    rw [List.reverse_cons, List.reverse_cons]
    exact cm_sr_app (ih hs) ⟨hv, trivial⟩
set_option maxRecDepth 100000 in
theorem cm_mts_ok : cm_mts.all (fun q => (q.1 == 293) || cm_okm q) = true := cm_chunks [(cm_mts.drop 0).take 50, (cm_mts.drop 50).take 50, (cm_mts.drop 100).take 50, (cm_mts.drop 150).take 50, (cm_mts.drop 200).take 50, (cm_mts.drop 250).take 50] rfl (by
  simp only [List.forall_mem_cons, List.not_mem_nil, false_implies, implies_true, and_true]
  exact ⟨cm_mts_0, cm_mts_1, cm_mts_2, cm_mts_3, cm_mts_4, cm_mts_5⟩)
theorem cm_mt {b : Nat} (hb : b < 295) (hne : b ≠ 293) : Jvm.Cond.initialized (cm_nm b).cls ∈ lw_tbl ∧ (cm_sc b = true → Jvm.Cond.static (cm_nm b) ∈ lw_tbl) ∧ (cm_sc b = false → Jvm.Cond.instanceMethod (cm_nm b) ∈ lw_tbl ∧ ((cm_nm b).name ≠ "<init>" → Jvm.Cond.selects (cm_nm b).cls (cm_nm b) (cm_nm b) ∈ lw_tbl)) ∧ (cm_nm b).cls = cm_cn (cm_ow b) ∧ plainName (cm_nm b).cls = true ∧ ((cm_nm b).cls ≠ "java/lang/invoke/MethodHandle" ∧ (cm_nm b).cls ≠ "java/lang/invoke/VarHandle") ∧ (parseMethodDescriptor (cm_nm b).desc).map (fun d => d.parameters.length) = some (cm_na_ b - (match cm_sc b with
    | true => 0
    | false => 1)) ∧ cm_na_ b ≤ cm_mL b := by
  have h1 := cm_mts_at b hb
  cases e1 : cm_mts[b]? with
  | none => rw [e1] at h1; cases h1
  | some q =>
    rw [e1] at h1
    have h2 : q.1 = b := Option.some.inj h1
    have h3 := List.all_eq_true.mp cm_mts_ok q (List.mem_of_getElem? e1)
    rw [h2] at h3
    have h4 : cm_okm q = true := by
      rcases Bool.or_eq_true_iff.mp h3 with h4 | h4
      · exact absurd (by simpa using h4) hne
      · exact h4
    unfold cm_okm at h4
    rw [h2] at h4
    simp only [Bool.and_eq_true, decide_eq_true_eq] at h4
    obtain ⟨⟨⟨⟨⟨⟨h5, h6⟩, h7⟩, h8⟩, h9⟩, h10⟩, h11⟩ := h4
    refine ⟨List.mem_of_getElem? h5, fun hs => ?_, fun hs => ?_, h7, h8, h9, h10, h11⟩
    · rw [hs] at h6
      exact List.mem_of_getElem? (of_decide_eq_true h6)
    · rw [hs] at h6
      simp only [Bool.and_eq_true, Bool.or_eq_true, decide_eq_true_eq] at h6
      refine ⟨List.mem_of_getElem? h6.1, fun hi => ?_⟩
      rcases h6.2 with h12 | h12
      · exact absurd h12 hi
      · exact List.mem_of_getElem? h12
theorem cm_two_cw (b : Nat) : cm_two (cm_cw b) = true := by
  unfold cm_cw
  split <;> rfl
theorem cm_vw_cn {ci : Nat} {q : vw_C} (h : cm_vw[ci]? = some q) : q.1 = cm_cn ci := by
  have h1 : ci < 10 := (List.getElem?_eq_some_iff.mp h).1
  rcases ci with _ | _ | _ | _ | _ | _ | _ | _ | _ | _ | ci
  all_goals first | (cases h; rfl) | omega
set_option maxRecDepth 100000 in
theorem cm_hh_d : ∀ b, b < 295 → (cm_sc b = false → cm_hh b = []) ∧ ((cm_nm b).name = "<init>" → cm_rt b = none) := by decide +kernel
theorem cm_hh_v {b : Nat} (hb : b < 295) (h : cm_sc b = false) : cm_hh b = [] := (cm_hh_d b hb).1 h
theorem cm_rt_i {b : Nat} (hb : b < 295) (h : (cm_nm b).name = "<init>") : cm_rt b = none := (cm_hh_d b hb).2 h
set_option maxRecDepth 100000 in
theorem cm_nonest_d : lw_tbl.all (fun w => match w with
  | .methodLinkNest _ _ x _ => !(x.cls == RL)
  | _ => true) = true := by decide +kernel
set_option maxRecDepth 100000 in
theorem cm_hh_L : ∀ b, b < 295 → cm_hh b = [] ∨ (cm_nm b).cls = RL := by decide +kernel
theorem cm_nonest (b : Nat) (hb : b < 295) (q0 : Nat × Nat × Nat × Nat) (hs0 : List (Nat × Nat × Nat × Nat)) (h : cm_hh b = q0 :: hs0) (o : String) (i : Nat) : ¬ Jvm.Cond.methodLinkNest o i (cm_nm b) "OnceVolume" ∈ lw_tbl := by
  intro hm
  have h1 := List.all_eq_true.mp cm_nonest_d _ hm
  rcases cm_hh_L b hb with h2 | h2
  · rw [h] at h2; cases h2
  · simp [h2] at h1
section SOC
variable {Z : cm_Z} {p : Program} {l : Launch} {e : Env} {R : Room} {s : State} {m : MethodId} {args : Array Value} {below : List Frame} {meth : Method} {c : Code} {Q : State → Prop} {CC SS y pc : Nat} {hf h : cm_H} {L : cm_L} {st : List cm_V}
/-- behind a call, by vx_Run -/
theorem cm_callW {H : Heap} {locs : List Loc} {cells slots mc ms : Nat} {ls : Array Slot} {st0 rest : List Value} {h1 : cm_H} {r : Option cm_V ⊕ Nat} {a : Array Value} (hr : vx_Run p l e R s m args below meth c H locs cells slots mc ms (F0 m pc ls st0) rest (cm_Qc Z h1 r a) (cm_XC Z h1 r) (zA Z)) (hS : va_S (zA Z) s.heap H locs)
    (k0 : r = .inl none → ∀ (H1 : Heap) (locs1 : List Loc), cm_hr Z h1 H1 → va_S (zA Z) s.heap H1 locs1 → W p l e R s m args below meth c H1 locs1 (cells + mc) (slots + ms) Q (F0 m (pc + 3) ls rest))
    (k1 : ∀ x, r = .inl (some x) → ∀ (v : Value) (H1 : Heap) (locs1 : List Loc), cm_vr Z v x → cm_hr Z h1 H1 → va_S (zA Z) s.heap H1 locs1 → W p l e R s m args below meth c H1 locs1 (cells + mc) (slots + ms) Q (F0 m (pc + 3) ls (v :: rest)))
    (kx : ∀ x, r = .inr x → ∀ (q : Addr) (ce : Cell) (H1 : Heap) (locs1 : List Loc), cm_hr Z h1 H1 → va_S (zA Z) s.heap H1 locs1 → H1[q]? = some ce → ce.vm = .none → s.vm.findClass (cm_xn x) = some ce.cls → vx_W p l e R s m args below meth c H1 locs1 (cells + mc) (slots + ms) Q (F0 m pc ls rest) q) :
    W p l e R s m args below meth c H locs cells slots Q (F0 m pc ls st0) := by
  intro T hT X
  rcases hr T hT X with ⟨v, st₀, t, T', L1, h0, X', hL, e1, e2, ⟨hq1, hq2, hq3⟩, st⟩ | ⟨q, st₀, t, T', L1, E, ce, h0, X', hL, e1, e2, ⟨⟨x, hx1, hx2⟩, hq2, hq3⟩, hce, hcv, hcl, st⟩
  · obtain ⟨-, -, hS1⟩ := vx_keep h0 e1 hS (fun q _ h => h) (fun q h => h) hL hq3
    rcases r with (_ | x) | x
    · have hv : v = none := by
        have h2 : Outcome.returned v = .returned none := hq1
        cases h2
        rfl
      subst hv
      obtain ⟨t2, a1, b1⟩ := k0 rfl T'.heap _ (by rw [e1]; exact hq2) hS1 T' rfl X'
      exact ⟨t2, st t2 a1, b1⟩
    · obtain ⟨w, hw1, hw2⟩ := hq1
      cases hw1
      obtain ⟨t2, a1, b1⟩ := k1 x rfl w T'.heap _ hw2 (by rw [e1]; exact hq2) hS1 T' rfl X'
      exact ⟨t2, st t2 a1, b1⟩
    · exact hq1.elim
  · obtain ⟨-, -, hS1⟩ := vx_keep h0 e1 hS (fun q _ h => h) (fun q h => h) hL hq3
    obtain ⟨t2, a1, b1⟩ := kx x hx1 q ce T'.heap _ (by rw [e1]; exact hq2) hS1 (by rw [e1]; exact hce) hcv (by rw [← hx2]; exact hcl) T' rfl X'
    exact ⟨t2, st.trans a1, b1⟩
/-- an exception flies, at pc -/
def cm_GX (Z : cm_Z) (p : Program) (l : Launch) (e : Env) (R : Room) (s : State) (m : MethodId) (args : Array Value) (below : List Frame) (meth : Method) (c : Code) (Q : State → Prop) (CC SS y : Nat) (hf : cm_H) (pc : Nat) (L : cm_L) (x : Nat) (h : cm_H) : Prop :=
  ∀ (H : Heap) (locs : List Loc) (cells slots : Nat) (rls : Array Slot) (rest : List Value) (q : Addr) (ce : Cell), cm_hr Z h H → va_S (zA Z) s.heap H locs → L.length = cm_mL y → cm_lr Z L rls → s.heap.size + cells ≤ zB Z + h.2.2.2.2.2.1 → cells + hf.2.2.2.2.2.1 ≤ CC + h.2.2.2.2.2.1 → slots + hf.2.2.2.2.2.2 ≤ SS + h.2.2.2.2.2.2 → H[q]? = some ce → ce.vm = .none → s.vm.findClass (cm_xn x) = some ce.cls → vx_W p l e R s m args below meth c H locs cells slots Q (F0 m pc rls rest) q
theorem cm_ml_inv {i b : Nat} (hh : cm_mls.any (fun q => q.1 == cm_ow y && (q.2.1 == i && q.2.2.2.1 == b)) = true) : b < 295 ∧ b ≠ 293 ∧ (Jvm.Cond.methodLink (cm_cn (cm_ow y)) i (cm_nm b) ∈ lw_tbl ∨ Jvm.Cond.methodLinkNest (cm_cn (cm_ow y)) i (cm_nm b) "OnceVolume" ∈ lw_tbl) := by
  obtain ⟨⟨q1, q2, q3, q4, q5⟩, hm, hq⟩ := List.any_eq_true.mp hh
  simp only [Bool.and_eq_true, beq_iff_eq] at hq
  obtain ⟨rfl, rfl, rfl⟩ := hq
  have h1 := List.all_eq_true.mp cm_mls_ok _ hm
  unfold cm_okl at h1
  simp only [Bool.and_eq_true, decide_eq_true_eq] at h1
  obtain ⟨⟨h2, h3⟩, h4⟩ := h1
  refine ⟨h2, h3, ?_⟩
  rcases q3 with _ | q3
  · exact Or.inl (List.mem_of_getElem? h4)
  · exact Or.inr (List.mem_of_getElem? h4)
theorem so_own (hx : p.tables.exec = Jvm.exec) (hb : c.code = cm_by y) (hown : s.vm.findClass (cm_cn (cm_ow y)) = some m.cls) (hcx : cm_cx Z s) (hml : c.maxLocals = cm_mL y) (hfm : cm_fm y ≤ R.frames) (hlo : cm_lo y ≤ R.locals) (hCC : CC ≤ R.cells) (hSS : SS ≤ R.slots) {i a b n v : Nat} {as_ rest : List cm_V} {h1 : cm_H} {r : Option cm_V ⊕ Nat} (hst : st = as_.reverse ++ rest) (hln : as_.length = n) (hwd : cm_wd rest ≤ 8) (hok : cm_okcl y i a b n v = true) (ha : (a == 0 || (100).ble a) = true) (hrc : a = 0 ∨ ∃ q as1, as_ = .inr (.inr q) :: as1 ∧ cm_kd h q 0 (a - 100) = true)
    (hd : decode (cm_by y) pc = .ok ((match v with
      | 0 => .invokestatic i
      | 1 => .invokevirtual i
      | _ => .invokespecial i), 3)) (hle0 : cm_hle h h1) (hle : cm_hle h1 hf) (M : cm_Met Z l b h as_ r h1)
    (k0 : r = .inl none → cm_Go Z p l e R s m args below meth c Q CC SS y hf (pc + 3) L rest h1) (k1 : ∀ x, r = .inl (some x) → cm_Go Z p l e R s m args below meth c Q CC SS y hf (pc + 3) L (x :: rest) h1) (kx : ∀ x, r = .inr x → cm_GX Z p l e R s m args below meth c Q CC SS y hf pc L x h1) : cm_Go Z p l e R s m args below meth c Q CC SS y hf pc L st h := by
  intro H locs cells slots rls rst hH hS hn hL hs hz hc hq
  unfold cm_okcl at hok
  rw [ha] at hok
  simp only [Bool.and_eq_true, beq_iff_eq, Nat.ble_eq] at hok
  obtain ⟨hml1, hn1, hf1, hl1, hv1⟩ := hok
  obtain ⟨hb5, hb6, hlk⟩ := cm_ml_inv hml1
  obtain ⟨t1, t2, t3, t4, t5, t6, t7, t8⟩ := cm_mt hb5 hb6
  have hcw : cm_cw b ∈ lw_tbl := cm_cwin_11 b hb5 hb6
  subst hst
  obtain ⟨ra, rb, rfl, hsa, hsb⟩ := cm_sr_split hs
  have hsr := cm_sr_rev hsa
  rw [List.reverse_reverse] at hsr
  generalize hvs : ra.reverse = vs at hsr
  have hra : ra = vs.reverse := by rw [← hvs, List.reverse_reverse]
  subst hra
  have hvl : vs.length = n := (cm_sr_len hsr).trans hln
  have hsz := cm_lr_size hL
  have hwr : (rb.map fun v => v.category).sum ≤ 8 := by rw [cm_sr_wd hsb]; exact hwd
  have hc1 : cells + (h1.2.2.2.2.2.1 - h.2.2.2.2.2.1) ≤ R.cells := by have h2 := hle0.1; have h3 := hle.1; omega
  have hs1 : slots + (h1.2.2.2.2.2.2 - h.2.2.2.2.2.2) ≤ R.slots := by have h2 := hle0.2; have h3 := hle.2; omega
  refine cm_szW (fun hsz2 => ?_)
  have hpre : ∀ U : State, U.heap = H → s.WarmedH U.vm → cm_Pc Z h as_ vs.toArray U := by
    intro U hU hW
    refine ⟨⟨vs, rfl, hsr⟩, by rw [hU]; exact hH, cm_cx_at hcx hW (by rw [hU]; exact hS.1) (fun q hq => ?_), by rw [hU]; omega⟩
    rw [hU]
    exact hS.2.1 q (Nat.lt_of_lt_of_le hq hcx.2.2.2.2.2.1) (Nat.not_le.mpr hq)
  have hwords : ∀ w ∈ [cm_cw b], ∀ (a' : Array Value) (U : State), s.WarmedH U.vm → w.before a' U = true := by
    intro w hw a' U hW
    rw [List.mem_singleton] at hw
    subst hw
    exact cm_two_at hW (cm_two_cw b) (hcx.1 _ hcw (cm_two_cw b))
  have hfix : CallFix p m c (cm_by y) (cm_mL y) s args (lw_tbl.filter cm_two) (cm_cn (cm_ow y)) := ⟨hx, hb, hml, hown, cm_hts hcx args⟩
  have hsz3 : (F0 m pc rls (vs.reverse ++ rb)).locals.size = cm_mL y := hsz.trans hn
  have hlen : ∀ sig, parseMethodDescriptor (cm_nm b).desc = some sig → cm_na_ b - (match cm_sc b with
    | true => 0
    | false => 1) = sig.parameters.length := by
    intro sig hsig
    rw [hsig] at t7
    exact (Option.some.inj t7).symm
  -- what follows the call
  have fin : ∀ {aa : Array Value}, vx_Run p l e R s m args below meth c H locs cells slots (h1.2.2.2.2.2.1 - h.2.2.2.2.2.1) (h1.2.2.2.2.2.2 - h.2.2.2.2.2.2) (F0 m pc rls (vs.reverse ++ rb)) rb (cm_Qc Z h1 r aa) (cm_XC Z h1 r) (zA Z) → W p l e R s m args below meth c H locs cells slots Q (F0 m pc rls (vs.reverse ++ rb)) := by
    intro aa hrun
    have g1 := hle0.1
    have g2 := hle0.2
    refine cm_callW hrun hS ?_ ?_ ?_
    · intro hr H1 locs1 hH1 hS1
      exact k0 hr H1 locs1 _ _ rls rb hH1 hS1 hn hL hsb (by omega) (by omega) (by omega)
    · intro x hr w H1 locs1 hw hH1 hS1
      exact k1 x hr H1 locs1 _ _ rls (w :: rb) hH1 hS1 hn hL ⟨hw, hsb⟩ (by omega) (by omega) (by omega)
    · intro x hr q ce H1 locs1 hH1 hS1 q1 q2 q3
      exact kx x hr H1 locs1 _ _ rls rb q ce hH1 hS1 hn hL (by omega) (by omega) (by omega) q1 q2 q3
  have hini := cm_w hcx args t1 rfl
  rcases v with _ | _ | v
  · -- static
    simp only [Bool.and_eq_true, beq_iff_eq] at hv1
    obtain ⟨hsc, ha0⟩ := hv1
    have hstat := cm_w hcx args (t2 hsc) rfl
    rw [hsc] at hlen
    have hn2 : vs.length = cm_na_ b - 0 := by omega
    cases hhh : cm_hh b with
    | nil =>
      have ecw : cm_cw b = .code (cm_nm b) (cm_by b) (cm_mL b) (cm_rt b) := by unfold cm_cw; rw [hhh]
      rw [ecw] at hwords
      have M2 := M
      unfold cm_Met at M2
      rw [ecw] at M2
      have hcode := hwords _ List.mem_cons_self args s (State.WarmedH.refl s)
      rcases hlk with hlk | hlk
      · exact fin (vx_runS hfix M2 ⟨⟨rfl, rfl, by show cm_fm b + 1 ≤ _; omega, by show 8 + (cm_mL b + 11) + cm_lo b ≤ _; omega, hwords, List.mem_cons_self, hcode, hini, t6, hlen, cm_w hcx args hlk rfl⟩, hstat⟩ ⟨cm_Pc_blind, hpre⟩ rfl hn2 hsz3 rfl (lv_room hwr) hd ⟨hc1, hs1⟩)
      · exact fin (vx_runSN (host := "OnceVolume") hfix M2 ⟨⟨⟨rfl, rfl, by show cm_fm b + 1 ≤ _; omega, by show 8 + (cm_mL b + 11) + cm_lo b ≤ _; omega, hwords, List.mem_cons_self⟩, hcode, hini, t6, hlen, cm_w hcx args hlk rfl⟩, hstat, trivial⟩ ⟨cm_Pc_blind, hpre⟩ rfl hn2 hsz3 rfl (lv_room hwr) hd ⟨hc1, hs1⟩)
    | cons q0 hs0 =>
      have ecw : cm_cw b = .codeWith (cm_nm b) (cm_by b) (cm_mL b) (cm_rt b) (q0 :: hs0) := by unfold cm_cw; rw [hhh]
      rw [ecw] at hwords
      have M2 := M
      unfold cm_Met at M2
      rw [ecw] at M2
      have hcode := hwords _ List.mem_cons_self args s (State.WarmedH.refl s)
      rcases hlk with hlk | hlk
      · exact fin (vx_runSX hfix M2 ⟨⟨rfl, rfl, by show cm_fm b + 1 ≤ _; omega, by show 8 + (cm_mL b + 11) + cm_lo b ≤ _; omega, hwords, List.mem_cons_self⟩, hcode, hini, t6, hlen, cm_w hcx args hlk rfl, hstat⟩ ⟨cm_Pc_blind, hpre⟩ rfl hn2 hsz3 rfl (lv_room hwr) hd ⟨hc1, hs1⟩)
      · exact absurd hlk (cm_nonest b hb5 q0 hs0 hhh _ _)
  · -- virtual
    simp only [Bool.and_eq_true, beq_iff_eq, Bool.not_eq_true', decide_eq_true_eq] at hv1
    obtain ⟨hsc, ha0, hni⟩ := hv1
    obtain ⟨hin, hsel⟩ := t3 hsc
    have hsel := cm_w hcx args (hsel hni) rfl
    have hin := cm_w hcx args hin rfl
    rw [hsc] at hlen
    rcases hrc with hrc | ⟨q, as1, rfl, hkd⟩
    · omega
    obtain ⟨w, r1, hvs1, hw, hs2⟩ := cm_sr_cons hsr
    subst hvs1
    have hkq := cm_kdI hkd
    have hcells := hH
    obtain ⟨ws, hP, hD, hwl, h5, h6, hcell, hout, hscr, hxs⟩ := hcells
    have hqn : q < h.2.2.2.2.1 := cm_lt_of hout hkq (by omega) (fun e => by subst e; rw [hscr] at hkq; cases hkq)
    have e1 := cm_vr_c hw (by omega)
    subst e1
    obtain ⟨e0, he, hce⟩ := hcell q hqn
    obtain ⟨fs, rfl⟩ := cm_ce_o hce hkq
    obtain ⟨-, qv, hqv, -, -⟩ := hce
    have hcn : qv.1 = (cm_nm b).cls := by
      rw [t4]
      have : a - 100 = cm_ow b := by omega
      rw [this] at hqv
      exact cm_vw_cn hqv
    have hrecv := va_recv hcx.2.2.1 hP hqv he
    rw [hcn] at hrecv
    have ecw : cm_cw b = .code (cm_nm b) (cm_by b) (cm_mL b) (cm_rt b) := by unfold cm_cw; rw [cm_hh_v hb5 hsc]
    rw [ecw] at hwords
    have M2 := M
    unfold cm_Met at M2
    rw [ecw] at M2
    have hcode := hwords _ List.mem_cons_self args s (State.WarmedH.refl s)
    have hn2 : r1.length = cm_na_ b - 1 := by simp only [List.length_cons] at hvl; omega
    have hstk : (F0 m pc rls ((Value.ref (zB Z + q) :: r1).reverse ++ rb)).stack = r1.reverse ++ .ref (zB Z + q) :: rb := by
      show (Value.ref (zB Z + q) :: r1).reverse ++ rb = _
      simp
    rcases hlk with hlk | hlk
    · exact fin (vx_runV (C := (cm_nm b).cls) (b := zB Z + q) (As := r1) hfix M2 ⟨⟨rfl, rfl, by show cm_fm b + 1 ≤ _; omega, by show 8 + (cm_mL b + 11) + cm_lo b ≤ _; omega, hwords, List.mem_cons_self, hcode, hini, t6, hlen, cm_w hcx args hlk rfl⟩, hin, hsel⟩ ⟨cm_Pc_blind, hrecv, hpre⟩ rfl hn2 hsz3 hstk (lv_room hwr) hd ⟨hc1, hs1⟩)
    · exact fin (vx_runVN (host := "OnceVolume") (C := (cm_nm b).cls) (b := zB Z + q) (As := r1) hfix M2 ⟨⟨⟨rfl, rfl, by show cm_fm b + 1 ≤ _; omega, by show 8 + (cm_mL b + 11) + cm_lo b ≤ _; omega, hwords, List.mem_cons_self⟩, hcode, hini, t6, hlen, cm_w hcx args hlk rfl⟩, hin, hsel⟩ ⟨cm_Pc_blind, hrecv, hpre⟩ rfl hn2 hsz3 hstk (lv_room hwr) hd ⟨hc1, hs1⟩)
  · -- special
    simp only [Bool.and_eq_true, beq_iff_eq, Bool.not_eq_true', decide_eq_true_eq] at hv1
    obtain ⟨hsc, ha0, hni⟩ := hv1
    obtain ⟨hin, -⟩ := t3 hsc
    have hin := cm_w hcx args hin rfl
    rw [hsc] at hlen
    rcases hrc with hrc | ⟨q, as1, rfl, hkd⟩
    · omega
    obtain ⟨w, r1, hvs1, hw, hs2⟩ := cm_sr_cons hsr
    subst hvs1
    obtain ⟨q1, rfl⟩ := cm_vr_r hw
    have ecw : cm_cw b = .code (cm_nm b) (cm_by b) (cm_mL b) none := by unfold cm_cw; rw [cm_hh_v hb5 hsc, cm_rt_i hb5 hni]
    rw [ecw] at hwords
    have M2 := M
    unfold cm_Met at M2
    rw [ecw] at M2
    have hcode := hwords _ List.mem_cons_self args s (State.WarmedH.refl s)
    have hn2 : r1.length = cm_na_ b - 1 := by simp only [List.length_cons] at hvl; omega
    have hstk : (F0 m pc rls ((Value.ref q1 :: r1).reverse ++ rb)).stack = r1.reverse ++ .ref q1 :: rb := by
      show (Value.ref q1 :: r1).reverse ++ rb = _
      simp
    rcases hlk with hlk | hlk
    · exact fin (vx_runI (b := q1) (As := r1) hfix M2 ⟨⟨rfl, rfl, by show cm_fm b + 1 ≤ _; omega, by show 8 + (cm_mL b + 11) + cm_lo b ≤ _; omega, hwords, List.mem_cons_self, hcode, hini, t6, hlen, cm_w hcx args hlk rfl⟩, hni, hin⟩ ⟨cm_Pc_blind, hpre⟩ rfl hn2 hsz3 hstk (lv_room hwr) hd ⟨hc1, hs1⟩)
    · exact fin (vx_runIN (host := "OnceVolume") (b := q1) (As := r1) hfix M2 ⟨⟨⟨rfl, rfl, by show cm_fm b + 1 ≤ _; omega, by show 8 + (cm_mL b + 11) + cm_lo b ≤ _; omega, hwords, List.mem_cons_self⟩, hcode, hini, t6, hlen, cm_w hcx args hlk rfl⟩, hni, hin⟩ ⟨cm_Pc_blind, hpre⟩ rfl hn2 hsz3 hstk (lv_room hwr) hd ⟨hc1, hs1⟩)
end SOC
end
section
/-! what a step that goes on must have met -/
theorem iv_ild {ls : cm_L} {i : Nat} {k : cm_V → cm_R} {q} (h : cm_ild ls i k = some q) : ∃ x, ls[i]? = some (some (.inl x)) ∧ k (.inl x) = some q := by
  unfold cm_ild at h
  split at h
  · rename_i x e; exact ⟨x, e, h⟩
  · cases h
theorem iv_lld {ls : cm_L} {i : Nat} {k : cm_V → cm_R} {q} (h : cm_lld ls i k = some q) : ∃ x, ls[i]? = some (some (.inr (.inl x))) ∧ k (.inr (.inl x)) = some q := by
  unfold cm_lld at h
  split at h
  · rename_i x e; exact ⟨x, e, h⟩
  · cases h
theorem iv_ald {ls : cm_L} {i : Nat} {k : cm_V → cm_R} {q} (h : cm_ald ls i k = some q) : ∃ x, ls[i]? = some (some (.inr (.inr x))) ∧ k (.inr (.inr x)) = some q := by
  unfold cm_ald at h
  split at h
  · rename_i x e; exact ⟨x, e, h⟩
  · cases h
theorem iv_ist {ls : cm_L} {i : Nat} {st : List cm_V} {k : cm_L → List cm_V → cm_R} {q} (h : cm_ist ls i st k = some q) : ∃ x st1, st = .inl x :: st1 ∧ i < ls.length ∧ k ((cm_kl ls i).set i (some (.inl x))) st1 = some q := by
  unfold cm_ist at h
  split at h
  · rename_i x st1
    split at h
    · rename_i hl; exact ⟨x, st1, rfl, hl, h⟩
    · cases h
  · cases h
theorem iv_ast {ls : cm_L} {i : Nat} {st : List cm_V} {k : cm_L → List cm_V → cm_R} {q} (h : cm_ast ls i st k = some q) : ∃ x st1, st = .inr (.inr x) :: st1 ∧ i < ls.length ∧ k ((cm_kl ls i).set i (some (.inr (.inr x)))) st1 = some q := by
  unfold cm_ast at h
  split at h
  · rename_i x st1
    split at h
    · rename_i hl; exact ⟨x, st1, rfl, hl, h⟩
    · cases h
  · cases h
theorem iv_lst {ls : cm_L} {i : Nat} {st : List cm_V} {k : cm_L → List cm_V → cm_R} {q} (h : cm_lst ls i st k = some q) : ∃ x st1, st = .inr (.inl x) :: st1 ∧ i + 1 < ls.length ∧ k (((cm_kl ls i).set i (some (.inr (.inl x)))).set (i + 1) none) st1 = some q := by
  unfold cm_lst at h
  split at h
  · rename_i x st1
    split at h
    · rename_i hl; exact ⟨x, st1, rfl, hl, h⟩
    · cases h
  · cases h
theorem iv_inc {ls : cm_L} {i : Nat} {n : Int} {k : cm_L → cm_R} {q} (h : cm_inc ls i n k = some q) : ∃ x, ls[i]? = some (some (.inl x)) ∧ k (ls.set i (some (.inl (cm_wr (x + n))))) = some q := by
  unfold cm_inc at h
  split at h
  · rename_i x e; exact ⟨x, e, h⟩
  · cases h
theorem iv_i2 {f : Int → Int → Int} {st : List cm_V} {k : List cm_V → cm_R} {q} (h : cm_i2 f st k = some q) : ∃ a b st1, st = .inl b :: .inl a :: st1 ∧ k (.inl (f a b) :: st1) = some q := by
  unfold cm_i2 at h
  split at h
  · rename_i b a st1; exact ⟨a, b, st1, rfl, h⟩
  · cases h
theorem iv_l2 {f : Int64 → Int64 → Int64} {st : List cm_V} {k : List cm_V → cm_R} {q} (h : cm_l2 f st k = some q) : ∃ a b st1, st = .inr (.inl b) :: .inr (.inl a) :: st1 ∧ k (.inr (.inl (f a b)) :: st1) = some q := by
  unfold cm_l2 at h
  split at h
  · rename_i b a st1; exact ⟨a, b, st1, rfl, h⟩
  · cases h
theorem iv_ck {p : Prop} [Decidable p] {r : cm_R} {q} (h : cm_ck p r = some q) : p ∧ r = some q := by
  unfold cm_ck at h
  split at h
  · rename_i hp; exact ⟨hp, h⟩
  · cases h
theorem iv_dv {st : List cm_V} {k : List cm_V → cm_R} {q} (h : cm_dv st k = some q) : ∃ a b st1, st = .inl b :: .inl a :: st1 ∧ b ≠ 0 ∧ k (.inl (cm_wr (a.tdiv b)) :: st1) = some q := by
  unfold cm_dv at h
  split at h
  · rename_i b a st1; obtain ⟨h1, h2⟩ := iv_ck h; exact ⟨a, b, st1, rfl, h1, h2⟩
  · cases h
theorem iv_rm {st : List cm_V} {k : List cm_V → cm_R} {q} (h : cm_rm st k = some q) : ∃ a b st1, st = .inl b :: .inl a :: st1 ∧ b ≠ 0 ∧ k (.inl (a.tmod b) :: st1) = some q := by
  unfold cm_rm at h
  split at h
  · rename_i b a st1; obtain ⟨h1, h2⟩ := iv_ck h; exact ⟨a, b, st1, rfl, h1, h2⟩
  · cases h
theorem iv_ldv {st : List cm_V} {k : List cm_V → cm_R} {q} (h : cm_ldv st k = some q) : ∃ a b st1, st = .inr (.inl b) :: .inr (.inl a) :: st1 ∧ b ≠ 0 ∧ k (.inr (.inl (a / b)) :: st1) = some q := by
  unfold cm_ldv at h
  split at h
  · rename_i b a st1; obtain ⟨h1, h2⟩ := iv_ck h; exact ⟨a, b, st1, rfl, h1, h2⟩
  · cases h
theorem iv_lcm {st : List cm_V} {k : List cm_V → cm_R} {q} (h : cm_lcm st k = some q) : ∃ a b st1, st = .inr (.inl b) :: .inr (.inl a) :: st1 ∧ k (.inl (cm_lc a b) :: st1) = some q := by
  unfold cm_lcm at h
  split at h
  · rename_i b a st1; exact ⟨a, b, st1, rfl, h⟩
  · cases h
theorem iv_i2l {st : List cm_V} {k : List cm_V → cm_R} {q} (h : cm_i2l st k = some q) : ∃ a st1, st = .inl a :: st1 ∧ k (.inr (.inl (Int64.ofInt a)) :: st1) = some q := by
  unfold cm_i2l at h
  split at h
  · rename_i a st1; exact ⟨a, st1, rfl, h⟩
  · cases h
theorem iv_dup {st : List cm_V} {k : List cm_V → cm_R} {q} (h : cm_dup st k = some q) : ∃ a st1, st = a :: st1 ∧ cm_cat a = 1 ∧ k (a :: a :: st1) = some q := by
  unfold cm_dup at h
  split at h
  · rename_i a st1; exact ⟨_, st1, rfl, rfl, h⟩
  · rename_i a st1; exact ⟨_, st1, rfl, rfl, h⟩
  · cases h
theorem iv_pop {st : List cm_V} {k : List cm_V → cm_R} {q} (h : cm_pop st k = some q) : ∃ a st1, st = a :: st1 ∧ cm_cat a = 1 ∧ k st1 = some q := by
  unfold cm_pop at h
  split at h
  · rename_i a st1; exact ⟨_, st1, rfl, rfl, h⟩
  · rename_i a st1; exact ⟨_, st1, rfl, rfl, h⟩
  · cases h
theorem iv_dp2 {st : List cm_V} {k : List cm_V → cm_R} {q} (h : cm_dp2 st k = some q) : ∃ a b st1, st = b :: a :: st1 ∧ cm_cat a = 1 ∧ cm_cat b = 1 ∧ k (b :: a :: b :: a :: st1) = some q := by
  unfold cm_dp2 at h
  split at h
  · rename_i b a st1; exact ⟨_, _, st1, rfl, rfl, rfl, h⟩
  · cases h
theorem iv_if1 {c : ClassFile.Cond} {st : List cm_V} {t e : List cm_V → cm_R} {q} (h : cm_if1 c st t e = some q) : ∃ a st1, st = .inl a :: st1 ∧ ((cm_tst c a 0 ∧ t st1 = some q) ∨ (¬ cm_tst c a 0 ∧ e st1 = some q)) := by
  unfold cm_if1 at h
  split at h
  · rename_i a st1; exact ⟨a, st1, rfl, cm_br_inv h⟩
  · cases h
theorem iv_if2 {c : ClassFile.Cond} {st : List cm_V} {t e : List cm_V → cm_R} {q} (h : cm_if2 c st t e = some q) : ∃ a b st1, st = .inl b :: .inl a :: st1 ∧ ((cm_tst c a b ∧ t st1 = some q) ∨ (¬ cm_tst c a b ∧ e st1 = some q)) := by
  unfold cm_if2 at h
  split at h
  · rename_i b a st1; exact ⟨a, b, st1, rfl, cm_br_inv h⟩
  · cases h
theorem iv_gf {h0 : cm_H} {t ci f : Nat} {st : List cm_V} {k : List cm_V → cm_R} {q} (h : cm_gf h0 t ci f st k = some q) : ∃ a st1, st = .inr (.inr a) :: st1 ∧ cm_kd h0 a 0 ci = true ∧ ((t ≠ 2 ∧ k (.inl (h0.2.2.1 a (f : Int)) :: st1) = some q) ∨ (t = 2 ∧ h0.2.1 a (f : Int) < 300000 ∧ k (.inr (.inr (h0.2.1 a (f : Int))) :: st1) = some q)) := by
  unfold cm_gf at h
  split at h
  · rename_i a st1
    split at h
    · rename_i hk
      refine ⟨a, st1, rfl, hk, ?_⟩
      split at h
      · split at h
        · rename_i hb; exact Or.inr ⟨rfl, of_decide_eq_true (by simpa using hb), h⟩
        · cases h
      · rename_i hne; exact Or.inl ⟨fun e => hne e, h⟩
    · cases h
  · cases h
theorem iv_pf {h0 : cm_H} {t ci f : Nat} {st : List cm_V} {k : List cm_V → cm_H → cm_R} {q} (h : cm_pf h0 t ci f st k = some q) : ∃ v a st1 h1, st = v :: .inr (.inr a) :: st1 ∧ cm_kd h0 a 0 ci = true ∧ ((∃ x, v = .inl x ∧ (t = 0 ∨ (t = 1 ∧ (x = 0 ∨ x = 1))) ∧ h1 = cm_sI h0 a (f : Int) x) ∨ (∃ n, v = .inr (.inr n) ∧ t = 2 ∧ n < h0.2.2.2.2.1 ∧ h1 = cm_sR h0 a (f : Int) n)) ∧ k st1 h1 = some q := by
  unfold cm_pf at h
  split at h
  · rename_i v a st1
    split at h
    · rename_i hk
      split at h
      · exact ⟨_, a, st1, _, rfl, hk, Or.inl ⟨v, rfl, Or.inl rfl, rfl⟩, h⟩
      · obtain ⟨h1, h2⟩ := iv_ck h
        exact ⟨_, a, st1, _, rfl, hk, Or.inl ⟨v, rfl, Or.inr ⟨rfl, h1⟩, rfl⟩, h2⟩
      · cases h
    · cases h
  · rename_i v a st1
    split at h
    · rename_i hk
      split at h
      · split at h
        · rename_i hb; exact ⟨_, a, st1, _, rfl, hk, Or.inr ⟨v, rfl, rfl, of_decide_eq_true (by simpa using hb), rfl⟩, h⟩
        · cases h
      · cases h
    · cases h
  · cases h
theorem iv_kp {h0 : cm_H} {a t : Nat} (h : ((h0.1 a).1 == t) = true) : h0.1 a = (t, (h0.1 a).2) := Prod.ext (by simpa using h) rfl
theorem iv_al {h0 : cm_H} {t : Nat} {st : List cm_V} {k : List cm_V → cm_R} {q} (h : cm_al h0 t st k = some q) : ∃ a i st1, st = .inl i :: .inr (.inr a) :: st1 ∧ h0.1 a = (t, (h0.1 a).2) ∧ (0 ≤ i ∧ i < ((h0.1 a).2 : Int)) ∧ k (.inl (h0.2.2.1 a i) :: st1) = some q := by
  unfold cm_al at h
  split at h
  · rename_i i a st1
    split at h
    · rename_i hk
      obtain ⟨h1, h2⟩ := iv_ck h
      exact ⟨a, i, st1, rfl, iv_kp hk, h1, h2⟩
    · cases h
  · cases h
theorem iv_as1 {h0 : cm_H} {st : List cm_V} {k : List cm_V → cm_H → cm_R} {q} (h : cm_as h0 1 st k = some q) : ∃ a i v st1, st = .inl v :: .inl i :: .inr (.inr a) :: st1 ∧ h0.1 a = (1, (h0.1 a).2) ∧ a < h0.2.2.2.2.1 ∧ (0 ≤ i ∧ i < ((h0.1 a).2 : Int)) ∧ k st1 (cm_sI h0 a i (v)) = some q := by
  rcases st with _ | ⟨v | v | v, _ | ⟨i | i | i, _ | ⟨a | a | a, st1⟩⟩⟩
  all_goals first | (exfalso; cases h; done) | skip
  have h : (match (h0.1 a).1 == 1 && a.blt h0.2.2.2.2.1 with
    | true => cm_ck (0 ≤ i ∧ i < ((h0.1 a).2 : Int)) (k st1 (cm_sI h0 a i (v)))
    | false => none) = some q := h
  cases hk : ((h0.1 a).1 == 1 && a.blt h0.2.2.2.2.1) with
  | false => rw [hk] at h; cases h
  | true =>
    rw [hk] at h
    obtain ⟨h1, h2⟩ := iv_ck h
    simp only [Bool.and_eq_true] at hk
    exact ⟨a, i, v, st1, rfl, iv_kp hk.1, of_decide_eq_true (by simpa using hk.2), h1, h2⟩
theorem iv_as2 {h0 : cm_H} {st : List cm_V} {k : List cm_V → cm_H → cm_R} {q} (h : cm_as h0 2 st k = some q) : ∃ a i v st1, st = .inl v :: .inl i :: .inr (.inr a) :: st1 ∧ h0.1 a = (2, (h0.1 a).2) ∧ a < h0.2.2.2.2.1 ∧ (0 ≤ i ∧ i < ((h0.1 a).2 : Int)) ∧ k st1 (cm_sI h0 a i (v % 2)) = some q := by
  rcases st with _ | ⟨v | v | v, _ | ⟨i | i | i, _ | ⟨a | a | a, st1⟩⟩⟩
  all_goals first | (exfalso; cases h; done) | skip
  have h : (match (h0.1 a).1 == 2 && a.blt h0.2.2.2.2.1 with
    | true => cm_ck (0 ≤ i ∧ i < ((h0.1 a).2 : Int)) (k st1 (cm_sI h0 a i (v % 2)))
    | false => none) = some q := h
  cases hk : ((h0.1 a).1 == 2 && a.blt h0.2.2.2.2.1) with
  | false => rw [hk] at h; cases h
  | true =>
    rw [hk] at h
    obtain ⟨h1, h2⟩ := iv_ck h
    simp only [Bool.and_eq_true] at hk
    exact ⟨a, i, v, st1, rfl, iv_kp hk.1, of_decide_eq_true (by simpa using hk.2), h1, h2⟩
theorem iv_jl {h0 : cm_H} {st : List cm_V} {k : List cm_V → cm_R} {q} (h : cm_jl h0 st k = some q) : ∃ a i st1, st = .inl i :: .inr (.inr a) :: st1 ∧ h0.1 a = (3, (h0.1 a).2) ∧ (0 ≤ i ∧ i < ((h0.1 a).2 : Int)) ∧ k (.inr (.inl (h0.2.2.2.1 a i)) :: st1) = some q := by
  unfold cm_jl at h
  split at h
  · rename_i i a st1
    split at h
    · rename_i hk
      obtain ⟨h1, h2⟩ := iv_ck h
      exact ⟨a, i, st1, rfl, iv_kp hk, h1, h2⟩
    · cases h
  · cases h
theorem iv_js {h0 : cm_H} {st : List cm_V} {k : List cm_V → cm_H → cm_R} {q} (h : cm_js h0 st k = some q) : ∃ a i v st1, st = .inr (.inl v) :: .inl i :: .inr (.inr a) :: st1 ∧ h0.1 a = (3, (h0.1 a).2) ∧ (0 ≤ i ∧ i < ((h0.1 a).2 : Int)) ∧ k st1 (cm_sJ h0 a i v) = some q := by
  unfold cm_js at h
  split at h
  · rename_i v i a st1
    split at h
    · rename_i hk
      obtain ⟨h1, h2⟩ := iv_ck h
      exact ⟨a, i, v, st1, rfl, iv_kp hk, h1, h2⟩
    · cases h
  · cases h
theorem iv_rl {h0 : cm_H} {st : List cm_V} {k : List cm_V → cm_R} {q} (h : cm_rl h0 st k = some q) : ∃ a i st1, st = .inl i :: .inr (.inr a) :: st1 ∧ h0.1 a = (4, (h0.1 a).2) ∧ (0 ≤ i ∧ i < ((h0.1 a).2 : Int)) ∧ h0.2.1 a i < 300000 ∧ k (.inr (.inr (h0.2.1 a i)) :: st1) = some q := by
  unfold cm_rl at h
  split at h
  · rename_i i a st1
    split at h
    · rename_i hk
      obtain ⟨h1, h2⟩ := iv_ck h
      obtain ⟨h3, h4⟩ := iv_ck h2
      exact ⟨a, i, st1, rfl, iv_kp hk, h1, h3, h4⟩
    · cases h
  · cases h
theorem iv_rs {h0 : cm_H} {st : List cm_V} {k : List cm_V → cm_H → cm_R} {q} (h : cm_rs h0 st k = some q) : ∃ a i v st1, st = .inr (.inr v) :: .inl i :: .inr (.inr a) :: st1 ∧ h0.1 a = (4, (h0.1 a).2) ∧ h0.1 v = (0, 6) ∧ (0 ≤ i ∧ i < ((h0.1 a).2 : Int)) ∧ k st1 (cm_sR h0 a i v) = some q := by
  unfold cm_rs at h
  split at h
  · rename_i v i a st1
    split at h
    · rename_i hk
      obtain ⟨h1, h2⟩ := iv_ck h
      simp only [Bool.and_eq_true] at hk
      exact ⟨a, i, v, st1, rfl, iv_kp hk.1, cm_kdI hk.2, h1, h2⟩
    · cases h
  · cases h
theorem iv_ln {h0 : cm_H} {st : List cm_V} {k : List cm_V → cm_R} {q} (h : cm_ln h0 st k = some q) : ∃ a st1, st = .inr (.inr a) :: st1 ∧ h0.1 a = (1, (h0.1 a).2) ∧ k (.inl ((h0.1 a).2 : Int) :: st1) = some q := by
  unfold cm_ln at h
  split at h
  · rename_i a st1
    split at h
    · rename_i hk; exact ⟨a, st1, rfl, iv_kp hk, h⟩
    · cases h
  · cases h
theorem iv_na {h0 : cm_H} {t : Nat} {st : List cm_V} {k : List cm_V → cm_H → cm_R} {q} (h : cm_na h0 t st k = some q) : ∃ n st1, st = .inl n :: st1 ∧ h0.2.2.2.2.1 = h0.2.2.2.2.2.1 ∧ h0.2.2.2.2.1 < 99999 ∧ (0 ≤ n ∧ n ≤ 100000) ∧ k (.inr (.inr h0.2.2.2.2.1) :: st1) (cm_mk h0 (t, n.toNat) n.toNat) = some q := by
  unfold cm_na at h
  split at h
  · rename_i n st1
    split at h
    · rename_i hk
      obtain ⟨h1, h2⟩ := iv_ck h
      simp only [Bool.and_eq_true, beq_iff_eq] at hk
      exact ⟨n, st1, rfl, hk.1, of_decide_eq_true (by simpa using hk.2), h1, h2⟩
    · cases h
  · cases h
theorem iv_nw {h0 : cm_H} {ci n : Nat} {st : List cm_V} {k : List cm_V → cm_H → cm_R} {q} (h : cm_nw h0 ci n st k = some q) : h0.2.2.2.2.1 = h0.2.2.2.2.2.1 ∧ h0.2.2.2.2.1 < 99999 ∧ k (.inr (.inr h0.2.2.2.2.1) :: st) (cm_mk h0 (0, ci) n) = some q := by
  unfold cm_nw at h
  split at h
  · rename_i hk
    simp only [Bool.and_eq_true, beq_iff_eq] at hk
    exact ⟨hk.1, of_decide_eq_true (by simpa using hk.2), h⟩
  · cases h
theorem iv_cpy {h0 : cm_H} {st : List cm_V} {k : List cm_V → cm_H → cm_R} {q} (h : cm_cpy h0 st k = some q) : ∃ n dp a sp b st1, st = .inl n :: .inl dp :: .inr (.inr a) :: .inl sp :: .inr (.inr b) :: st1 ∧ h0.1 a = (1, (h0.1 a).2) ∧ h0.1 b = (1, (h0.1 b).2) ∧ a < h0.2.2.2.2.1 ∧ b < h0.2.2.2.2.1 ∧ (0 ≤ n ∧ 0 ≤ dp ∧ 0 ≤ sp) ∧ sp + n ≤ ((h0.1 b).2 : Int) ∧ dp + n ≤ ((h0.1 a).2 : Int) ∧ k st1 (cm_sA h0 a (cm_cp (h0.2.2.1 b) (h0.2.2.1 a) sp dp n)) = some q := by
  unfold cm_cpy at h
  split at h
  · rename_i n dp a sp b st1
    split at h
    · rename_i hk
      obtain ⟨⟨h1, h2, h3⟩, h4⟩ := iv_ck h
      simp only [Bool.and_eq_true] at hk
      exact ⟨n, dp, a, sp, b, st1, rfl, iv_kp hk.1, iv_kp hk.2.1, of_decide_eq_true (by simpa using hk.2.2.1), of_decide_eq_true (by simpa using hk.2.2.2), h1, h2, h3, h4⟩
    · cases h
  · cases h
theorem iv_ab {st : List cm_V} {k : List cm_V → cm_R} {q} (h : cm_ab st k = some q) : ∃ a st1, st = .inl a :: st1 ∧ k (.inl (if 0 ≤ a then a else cm_wr (0 - a)) :: st1) = some q := by
  unfold cm_ab at h
  split at h
  · rename_i a st1; exact ⟨a, st1, rfl, h⟩
  · cases h
theorem iv_oi {st : List cm_V} {k : List cm_V → cm_R} {q} (h : cm_oi st k = some q) : ∃ a st1, st = .inr (.inr a) :: st1 ∧ k st1 = some q := by
  unfold cm_oi at h
  split at h
  · rename_i a st1; exact ⟨a, st1, rfl, h⟩
  · cases h
theorem iv_sln {st : List cm_V} {k : List cm_V → cm_R} {q} (h : cm_sln st k = some q) : ∃ a st1, st = .inr (.inr a) :: st1 ∧ 200000 ≤ a ∧ a < 200003 ∧ k (.inl ((cm_tx (a - 200000)).length : Int) :: st1) = some q := by
  unfold cm_sln at h
  split at h
  · rename_i a st1
    split at h
    · rename_i hk
      simp only [Bool.and_eq_true] at hk
      exact ⟨a, st1, rfl, Nat.le_of_ble_eq_true hk.1, of_decide_eq_true (by simpa using hk.2), h⟩
    · cases h
  · cases h
theorem iv_sch {st : List cm_V} {k : List cm_V → cm_R} {q} (h : cm_sch st k = some q) : ∃ a i st1, st = .inl i :: .inr (.inr a) :: st1 ∧ 200000 ≤ a ∧ a < 200003 ∧ (0 ≤ i ∧ i < ((cm_tx (a - 200000)).length : Int)) ∧ k (.inl ((cm_tx (a - 200000)).getD i.toNat 0) :: st1) = some q := by
  unfold cm_sch at h
  split at h
  · rename_i i a st1
    split at h
    · rename_i hk
      obtain ⟨h1, h2⟩ := iv_ck h
      simp only [Bool.and_eq_true] at hk
      exact ⟨a, i, st1, rfl, Nat.le_of_ble_eq_true hk.1, of_decide_eq_true (by simpa using hk.2), h1, h2⟩
    · cases h
  · cases h
theorem iv_fd {pc : Nat} {en : cm_E} : ∀ {l : List (Nat × cm_E)}, cm_fd l pc = some en → (pc, en) ∈ l := by
  intro l
  induction l with
  | nil => intro h; cases h
  | cons q l ih =>
    intro h
    obtain ⟨p0, e0⟩ := q
    unfold cm_fd at h
    split at h
    · rename_i e1; cases h; rw [e1]; exact List.mem_cons_self
    · exact List.mem_cons_of_mem _ (ih h)
theorem iv_own {k : cm_K} {y pc l b c : Nat} {ls : cm_L} {st : List cm_V} {h : cm_H} {q} (hh : cm_own k y pc l b c ls st h = some q) : ∃ as_ rest r1 h1, st = as_.reverse ++ rest ∧ as_.length = c ∧ cm_wd rest ≤ 8 ∧ k b 0 (cm_en as_ (cm_mL b)) [] h = some (r1, h1) ∧ ((r1 = .inl none ∧ k y (pc + l) ls rest h1 = some q) ∨ (∃ v, r1 = .inl (some v) ∧ k y (pc + l) ls (v :: rest) h1 = some q) ∨ (∃ x, r1 = .inr x ∧ ((cm_hn (cm_hs y) pc x = none ∧ q = (.inr x, h1)) ∨ ∃ t, cm_hn (cm_hs y) pc x = some t ∧ k y t ls [.inr (.inr 300000)] h1 = some q))) := by
  unfold cm_own at hh
  split at hh
  · rename_i hk
    simp only [Bool.and_eq_true, Nat.ble_eq] at hk
    cases e1 : k b 0 (cm_en (st.take c).reverse (cm_mL b)) [] h with
    | none => rw [e1] at hh; cases hh
    | some z =>
      obtain ⟨r1, h1⟩ := z
      rw [e1] at hh
      refine ⟨(st.take c).reverse, st.drop c, r1, h1, by rw [List.reverse_reverse, List.take_append_drop], by rw [List.length_reverse, List.length_take]; omega, hk.2, e1, ?_⟩
      rcases r1 with (_ | v) | x
      · exact Or.inl ⟨rfl, hh⟩
      · exact Or.inr (Or.inl ⟨v, rfl, hh⟩)
      · refine Or.inr (Or.inr ⟨x, rfl, ?_⟩)
        have hh : (match cm_hn (cm_hs y) pc x with
          | none => some (.inr x, h1)
          | some t => k y t ls [.inr (.inr 300000)] h1) = some q := hh
        cases e2 : cm_hn (cm_hs y) pc x with
        | none => rw [e2] at hh; exact Or.inl ⟨rfl, (Option.some.inj hh).symm⟩
        | some t => rw [e2] at hh; exact Or.inr ⟨t, rfl, hh⟩
  · cases hh
theorem iv_rc {h : cm_H} {ci n : Nat} {as_ rest : List cm_V} (hn : as_.length = n) (h0 : 0 < n) (hh : cm_rc h ci ((as_.reverse ++ rest).drop (n - 1)) = true) : ∃ q as1, as_ = .inr (.inr q) :: as1 ∧ cm_kd h q 0 ci = true := by
  cases as_ with
  | nil => simp at hn; omega
  | cons a as1 =>
    simp only [List.length_cons] at hn
    have e1 : ((a :: as1).reverse ++ rest).drop (n - 1) = a :: rest := by
      have : (n - 1) = as1.reverse.length := by simp; omega
      rw [List.reverse_cons, List.append_assoc, this, List.drop_left]
      rfl
    rw [e1] at hh
    unfold cm_rc at hh
    split at hh
    · rename_i q _ e2
      cases e2
      exact ⟨_, as1, rfl, hh⟩
    · cases hh
end
section
/-! 'throw new E(text)' where E's own constructor calls that of the class above by any index (the kit's vx_throwS wants 7; java.util.NoSuchElementException has 13): the same road as the library's ctorThrowS and the kit's vx_throwS, with another first link -/
def cm_atX (own : String) (ic : Nat) (X : String) (ix : Nat) (rx : ByteArray) (Y : String) (r : List String) : List Cond :=
  Bundle.throwableAtoms ++ Bundle.throwableSAtoms ++ (Bundle.passSAtoms X Y ix rx ++ Bundle.chainSAtoms Y r) ++
  [.methodLink own ic (Bundle.initS X), .instantiable X 6, .castable X X, .selects X Bundle.tFill0 Bundle.tFill0, .selects X Bundle.tFill Bundle.tFill,
   .lays X Bundle.tN "cause" "Ljava/lang/Throwable;", .lays X Bundle.tN "stackTrace" Bundle.steD, .lays X Bundle.tN "suppressedExceptions" Bundle.listD, .lays X Bundle.tN "detailMessage" "Ljava/lang/String;",
   .isRef (.static Bundle.tN "UNASSIGNED_STACK" Bundle.steD), .isRef (.static Bundle.tN "SUPPRESSED_SENTINEL" Bundle.listD),
   .fieldLink Bundle.tN 198 Bundle.tN "backtrace" "Ljava/lang/Object;", .lays Bundle.tN Bundle.tN "backtrace" "Ljava/lang/Object;", .lays X Bundle.tN "backtrace" "Ljava/lang/Object;"]
section EXN
variable {p : Program} {l : Launch} {e : Env} {R : Room} {s : State} {m₀ : MethodId} {args : Array Value} {below : List Frame} {meth : Method} {c : Code} {U0 : State} {locs : List Loc} {cells slots : Nat}
set_option maxHeartbeats 4000000 in
theorem cm_ctorT (X : Stand p l e R s m₀ args below meth c U0 locs cells slots) (hexec : p.tables.exec = Jvm.exec) (htr : e.platform.stackTraces = false) {own cls Y : String} {r : List String} {ic ix : Nat} {rx : ByteArray}
    (x0 : decode rx 0 = .ok (.aload_n 0, 1)) (x1 : decode rx 1 = .ok (.aload_n 1, 1)) (x2 : decode rx 2 = .ok (.invokespecial ix, 3)) (x5 : decode rx 5 = .ok (.return_, 1))
    (hown : s.vm.findClass own = some m₀.cls) (hcls : Bundle.fit cls = true) (hY : Bundle.fit Y = true) (hnames : ∀ n ∈ r, Bundle.fit n = true)
    (h : ∀ a ∈ cm_atX own ic cls ix rx Y r, a.before args s = true)
    (hlocs : ∀ x ∈ locs, ∀ cell, s.heap[x.base]? = some cell → cell.vm.isStatics = false)
    {a : Addr} {cX : ClassId} {kX : Class} (hfoundX : s.vm.findClass cls = some cX) (hkX : s.vm.classes[cX]? = some kX) (hcell : U0.heap[a]? = some (freshCell cX kX)) (hnew : s.heap.size ≤ a)
    {msg : Value} (hmsg : msg.isRef = true)
    {g : JFrame} (hg : g.method = m₀) (hsize : g.locals.size = c.maxLocals) (hlocked : g.locked = none) (hentered : g.entered = []) {rest : List Value} (hstack : g.stack = msg :: .ref a :: .ref a :: rest)
    (hd6 : decode c.code g.pc = .ok (.invokespecial ic, 3)) (hd9 : decode c.code (g.pc + 3) = .ok (.athrow, 1)) (hout : ∀ x ∈ c.exceptionTable.toList, covers x (g.pc + 3) = false)
    (hRframes : r.length + 1 + 3 < R.frames) (hRlocals : 2 * g.monitorRoom + ((Value.ref a :: rest).map fun v => v.category).sum + (13 * (r.length + 1 + 1) + 42) ≤ R.locals) (hlocks : meth.locks = false) :
    ∃ U : State, Steps p.tables e below (U0.setTop g) U ∧ U.status = .running ∧ Ended U below (.threw a) ∧ s.WarmedH U.vm ∧ s.sameButNew ({ U with vm := s.vm } : State) locs cells slots ∧
      ∃ ce, U.heap[a]? = some ce ∧ ce.vm = .none ∧ s.vm.findClass cls = some ce.cls := by
  have howns : e.platform.frameOwnsMonitors = true := by rw [X.admits.platform]
  have hfin : e.platform.finalization = false := by rw [X.admits.platform]
  have hpl : e.platform.magicAccessors = ({} : Platform).magicAccessors := by rw [X.admits.platform]
  have a' : ∀ x, x ∈ cm_atX own ic cls ix rx Y r → x.holds args s none s [] = true := fun x hx => h x hx
  obtain ⟨T, Z0, L, -, V⟩ := ThrowableC.of_atoms (args := args) howns hfin hpl (fun x hx => h x (by simp [cm_atX, hx]))
  obtain ⟨Z, M, LZ, LM, hnZ⟩ := Init0T.ofS_atoms (args := args) hpl L V (fun x hx => h x (by simp [cm_atX, hx]))
  obtain ⟨P1, L1, hP1m, hsup1⟩ := PassC.ofS_atoms (args := args) (s := s) hpl (X := cls) (Y := Y) (Bundle.fit_spec hcls).1 (Bundle.fit_spec hY).2 x0 x1 x2 x5 (fun x hx => h x (by simp [cm_atX, hx]))
  obtain ⟨P2, Ps, hlen, L2, hL, hm2, hsup2, hlink2⟩ := Bundle.chainS (args := args) hpl hnZ r Y hY hnames (fun x hx => h x (by simp [cm_atX, hx]))
  have hfound : s.vm.findClass cls = some P1.m.cls := findClass_of_methodNamed hP1m
  cases Option.some.inj (hfoundX.symm.trans hfound)
  obtain ⟨c1, kX', hc1, hk, hord, -, -, hn6⟩ := Cond.instantiable_spec (a' (.instantiable cls 6) (by simp [cm_atX]))
  cases Option.some.inj (hc1.symm.trans hfound)
  cases Option.some.inj (hkX.symm.trans hk)
  have hsel0 : selectMethod e.platform s.vm P1.m.cls T.fill0 = .method T.fill0 := by
    obtain ⟨c2, r2, m2, q1, q2, q3, q4, -⟩ := Cond.selects_spec (a' (.selects cls Bundle.tFill0 Bundle.tFill0) (by simp [cm_atX]))
    cases Option.some.inj (q1.symm.trans hfound)
    cases Option.some.inj (q2.symm.trans (State.methodFound?_of_named V.fill0 (by decide)))
    cases Option.some.inj (q3.symm.trans V.fill0)
    rw [Launch.admits_selectMethod X.admits]; exact q4
  have hselF : selectMethod e.platform s.vm P1.m.cls T.fill = .method T.fill := by
    obtain ⟨c2, r2, m2, q1, q2, q3, q4, -⟩ := Cond.selects_spec (a' (.selects cls Bundle.tFill Bundle.tFill) (by simp [cm_atX]))
    cases Option.some.inj (q1.symm.trans hfound)
    cases Option.some.inj (q2.symm.trans (State.methodFound?_of_named V.fill (by decide)))
    cases Option.some.inj (q3.symm.trans V.fill)
    rw [Launch.admits_selectMethod X.admits]; exact q4
  obtain ⟨cellS0, hcS0, hiss⟩ := V.statics
  obtain ⟨u0, hu0⟩ := Cond.staticRefV V.unassigned L.unassignedStatic L.statics hcS0 hiss (a' (.isRef (.static Bundle.tN "UNASSIGNED_STACK" Bundle.steD)) (by simp [cm_atX]))
  obtain ⟨sen, hsen⟩ := Cond.staticRefV V.sentinel L.sentinelStatic L.statics hcS0 hiss (a' (.isRef (.static Bundle.tN "SUPPRESSED_SENTINEL" Bundle.listD)) (by simp [cm_atX]))
  obtain ⟨ci198, i198, fB, hk198, hg198, ha198, hsB, -, hnB, htB, hffB⟩ := Cond.ownField (t := .object "java/lang/Object") V.found L.cls (by decide +kernel) (a' (.fieldLink Bundle.tN 198 Bundle.tN "backtrace" "Ljava/lang/Object;") (by simp [cm_atX])) (a' (.lays Bundle.tN Bundle.tN "backtrace" "Ljava/lang/Object;") (by simp [cm_atX])) e.platform hpl
  obtain ⟨cellS, hcS', heS, -, hkeep⟩ := X.same.2.2.2.2.2 T.aS cellS0 hcS0
  have hcellS : U0.heap[T.aS]? = some cellS := hcS'
  have hout' : ∀ i, (⟨T.aS, i⟩ : Loc) ∉ locs := fun i hmem => by
    have := hlocs _ hmem cellS0 hcS0
    rw [hiss] at this; cases this
  have hknownS : cellS.vm ≠ .unknown := by
    rw [heS]; intro hu
    rw [show cellS0.vm = .unknown from hu] at hiss
    cases hiss
  have hneS : T.aS ≠ a := Nat.ne_of_lt (Nat.lt_of_lt_of_le (Array.getElem?_eq_some_iff.mp hcS0).1 hnew)
  obtain ⟨iM, hffM⟩ := V.msg
  obtain ⟨tyC, dC, hdC, hdnC⟩ := Cond.laysAt hfound hk V.cause (a' (.lays cls Bundle.tN "cause" "Ljava/lang/Throwable;") (by simp [cm_atX]))
  obtain ⟨tyS, dS, hdS, hdnS⟩ := Cond.laysAt hfound hk V.stack (a' (.lays cls Bundle.tN "stackTrace" Bundle.steD) (by simp [cm_atX]))
  obtain ⟨tyP, dP, hdP, hdnP⟩ := Cond.laysAt hfound hk V.supp (a' (.lays cls Bundle.tN "suppressedExceptions" Bundle.listD) (by simp [cm_atX]))
  obtain ⟨tyM, dM, hdM, hdnM⟩ := Cond.laysAt hfound hk hffM (a' (.lays cls Bundle.tN "detailMessage" "Ljava/lang/String;") (by simp [cm_atX]))
  obtain ⟨tyB, dB, hdB, hdnB⟩ := Cond.laysAt hfound hk hffB (a' (.lays cls Bundle.tN "backtrace" "Ljava/lang/Object;") (by simp [cm_atX]))
  have bC := Cond.laysApart hdB hdC hdnB hdnC (by rw [hnB, V.causeName]; decide)
  have bS := Cond.laysApart hdB hdS hdnB hdnS (by rw [hnB, V.stackName]; decide)
  have bP := Cond.laysApart hdB hdP hdnB hdnP (by rw [hnB, V.suppName]; decide)
  have hskip : SkipFacts T e.platform s (fun u => u) u0 ((preparedCellV T.toThrowableT (freshCell P1.m.cls kX) a u0 sen).withEntry U0.cur) :=
    ⟨{ ci198 := ci198, i198 := i198, fBack := fB }, ⟨hk198, hg198, ha198, hsB⟩, by
      have := fresh_default (c := P1.m.cls) tyB
      rw [htB] at this
      simpa [preparedCellV, Cell.setSlot, Cell.withEntry, Array.getElem?_setIfInBounds, bC, bS, bP, bC.symm, bS.symm, bP.symm, defaultValue] using this, fun _ _ => rfl⟩
  obtain ⟨tm, methC, cdC, kC, vm₁, hnC, -, -, -, -, -, -, -, hW₁, st1⟩ := Steps.initColdS (tb := p.tables) (e := e) (below := below) (s := s) (U := U0) X.here hexec X.warmed hpl hown (t := Bundle.initS cls) rfl rfl (Bundle.fit_spec hcls).2
    (a' (.methodLink own ic (Bundle.initS cls)) (by simp [cm_atX])) (h (.instanceMethod (Bundle.initS cls)) (by simp [cm_atX, Bundle.passSAtoms])) (bytes := rx) (maxL := 2) (h (.code (Bundle.initS cls) rx 2 none) (by simp [cm_atX, Bundle.passSAtoms]))
    (f := g) hg (a := a) (msg := msg) (rest := .ref a :: rest) hstack hd6
  cases Option.some.inj (hnC.symm.trans hP1m)
  have X₁ := X.noted hW₁
  obtain ⟨vm₂, X₂, st2⟩ := X₁.ctorMessageOffV hexec (g := { g with stack := .ref a :: rest }) hg hsize T L Z LZ M LM (P1 :: P2 :: Ps)
    (fun P hP => by
      rcases List.mem_cons.mp hP with rfl | hP
      · exact L1
      · rcases List.mem_cons.mp hP with rfl | hP
        · exact L2
        · exact hL P hP) ⟨Option.some.inj (hsup1.symm.trans hm2), hsup2, hlink2⟩ (u0 := u0) (sen := sen) (self := a) hmsg (cell := freshCell P1.m.cls kX) (cellS := cellS)
    hcell (fun _ => by simp) (by simp) rfl rfl hsel0 hselF hcellS hneS hknownS (by rw [hkeep _ (hout' _)]; exact hu0) (by rw [hkeep _ (hout' _)]; exact hsen)
    (Takes.of_laid hk hord tyC (by rw [V.causeType]; rfl)) (Takes.of_laid hk hord tyS (by rw [V.stackType]; exact fits_refV_array _ u0)) (Takes.of_laid hk hord tyP (by rw [V.suppType]; exact fits_refV_object _ sen))
    (Takes.of_laid hk hord tyM (by rw [V.msgType]; exact fits_refV_object _ ⟨msg, hmsg⟩)) V.objLocals hskip htr [] hd6
    (by simp only [List.length_cons, hlen]; omega) (by simp only [List.length_cons, hlen]; exact hRlocals)
  obtain ⟨hwalk, hrun, hended, hWU, hsame⟩ := X₂.athrowLeaves hexec (g := { g with stack := .ref a :: rest, pc := g.pc + 3 }) hg hlocked hentered hout (a := a) (rest := rest) rfl hd9 hlocks
  have hlt : a < ((U0.setVm vm₁).setVm vm₂).heap.size := (Array.getElem?_eq_some_iff.mp hcell).1
  have hU := heapAt_setCell_self (s := (U0.setVm vm₁).setVm vm₂) (plainBareV T.toThrowableT (freshCell P1.m.cls kX) a u0 sen msg) hlt
  refine ⟨_, st1 _ (fun acts => ?_), hrun, hended, hWU, hsame.weaken (fun y hy hlt' => ?_) (Nat.le_refl _) (Nat.le_refl _), _, hU, rfl, hfound⟩
  · rw [doInvoke_state]
    exact st2 _ hwalk
  · rcases List.mem_append.mp hy with h1 | h1
    · exact h1
    · exfalso
      have hb : y.base = a := by
        simp only [List.mem_cons, List.not_mem_nil, or_false] at h1
        rcases h1 with rfl | rfl | rfl | rfl | rfl <;> rfl
      rw [hb] at hlt'
      exact Nat.not_lt.mpr hnew hlt'
end EXN
def cm_atXn (own : String) (ic : Nat) (X : String) (ix : Nat) (rx : ByteArray) (Y : String) (r : List String) : List Cond := (cm_atX own ic X ix rx Y r).filter vx_no
section EXT
variable {p : Program} {l : Launch} {e : Env} {R : Room} {s : State} {m : MethodId} {args : Array Value} {below : List Frame} {meth : Method} {c : Code} {H : Heap} {locs : List Loc} {cells slots : Nat} {Qc : Array Value → State → Outcome → State → Prop} {XC : String → State → State → Prop} {free : Addr → Prop} {ls : Array Slot}
set_option maxHeartbeats 4000000 in
theorem cm_throwX {cc : ByteArray} {pc wd : Nat} (hexec : p.tables.exec = Jvm.exec) (hb : c.code = cc) (hl : l.stackTraces = false) {own cls text Y : String} {r : List String} {ik is ic ix mc ms sa : Nat} {rx : ByteArray} {A : Nat → Prop}
    (x0 : decode rx 0 = .ok (.aload_n 0, 1)) (x1 : decode rx 1 = .ok (.aload_n 1, 1)) (x2 : decode rx 2 = .ok (.invokespecial ix, 3)) (x5 : decode rx 5 = .ok (.return_, 1))
    (hown : s.vm.findClass own = some m.cls) (hcls : Bundle.fit cls = true) (hY : Bundle.fit Y = true) (hnames : ∀ n ∈ r, Bundle.fit n = true)
    (hk : (Cond.classLink own ik cls).before args s = true) (hini : (Cond.initialized cls).before args s = true) (hstr : vk_R own is text sa s) (hat : ∀ w ∈ cm_atXn own ic cls ix rx Y r, w.before args s = true)
    (hgood : ∀ w ∈ Cond.classLink own ik cls :: Cond.initialized cls :: cm_atXn own ic cls ix rx Y r, vx_ot w = true)
    (hU : vx_Zq Bundle.tN "UNASSIGNED_STACK" Bundle.steD A s s.heap) (hN : vx_Zq Bundle.tN "SUPPRESSED_SENTINEL" Bundle.listD A s s.heap) (hS : va_S A s.heap H locs) (hsize : ls.size = c.maxLocals)
    (d0 : decode cc pc = .ok (.new ik, 3)) (d3 : decode cc (pc + 3) = .ok (.dup, 1)) (d4 : (wd = 2 ∧ decode cc (pc + 4) = .ok (.ldc is, 2)) ∨ (wd = 3 ∧ decode cc (pc + 4) = .ok (.ldc_w is, 3))) (d6 : decode cc (pc + 4 + wd) = .ok (.invokespecial ic, 3)) (d9 : decode cc (pc + 4 + wd + 3) = .ok (.athrow, 1))
    (hout : ∀ x ∈ c.exceptionTable.toList, False)
    (hRframes : r.length + 1 + 3 < R.frames) (hRlocals : 13 * (r.length + 1 + 1) + 43 ≤ R.locals) (hRcells : cells + 1 ≤ R.cells) (hRslots : slots + 6 ≤ R.slots) (hlocks : meth.locks = false)
    (hx : ∀ t : State, s.vm.Alike t.vm → H.size ≤ t.heap.size → (∀ q : Nat, q < H.size → t.heap[q]? = H[q]?) → XC cls s t)
    (hf : ∀ z ∈ locs, free z.base) (hc : cells + 1 ≤ mc) (hs : slots + 6 ≤ ms) :
    W p l e R s m args below meth c H locs cells slots (vx_MQ below Qc XC args s mc ms free) (F0 m pc ls []) := by
  intro T hT X
  have htr : e.platform.stackTraces = false := (show e.platform.stackTraces = l.stackTraces by rw [X.admits.platform]).trans hl
  have V := vx_rebase X (R' := { frames := R.frames, locals := R.locals, cells := 1, slots := 6 }) (Nat.le_refl _) (Nat.le_refl _) hRcells hRslots
  obtain ⟨s', hA⟩ : ∃ z, z = (T.setVm s.vm).setFrames (.invoking m args :: below) := ⟨_, rfl⟩
  rw [← hA] at V
  have hvm : s'.vm = s.vm := by rw [hA]; rfl
  have hhp : s'.heap = H := by rw [hA]; exact hT
  have hW0 : s.WarmedH s'.vm := by rw [hvm]; exact State.WarmedH.refl s
  have hat' : ∀ w ∈ cm_atXn own ic cls ix rx Y r, w.before args s' = true := fun w hw => vx_ot_at hW0 hvm.symm (hgood w (List.mem_cons_of_mem _ (List.mem_cons_of_mem _ hw))) (hat w hw)
  have hk' : (Cond.classLink own ik cls).before args s' = true := vx_ot_at hW0 hvm.symm (hgood _ List.mem_cons_self) hk
  have hini' : (Cond.initialized cls).before args s' = true := vx_ot_at hW0 hvm.symm (hgood _ (List.mem_cons_of_mem _ List.mem_cons_self)) hini
  have hU' : vx_Zq Bundle.tN "UNASSIGNED_STACK" Bundle.steD A s' s'.heap := by rw [hhp]; exact vx_Zq.moved hW0.alike (hU.kept hS.2.1)
  have hN' : vx_Zq Bundle.tN "SUPPRESSED_SENTINEL" Bundle.listD A s' s'.heap := by rw [hhp]; exact vx_Zq.moved hW0.alike (hN.kept hS.2.1)
  have h : ∀ w ∈ cm_atX own ic cls ix rx Y r, w.before args s' = true := vx_own hat' (vx_isRefq hU'.1) (vx_isRefq hN'.1) hU'.2.word hN'.2.word
  have hown' : s'.vm.findClass own = some m.cls := by rw [hvm]; exact hown
  have hins : (Cond.instantiable cls 6).before args s' = true := h _ (by simp [cm_atX])
  obtain ⟨vm₁, cX, kX, hfX, hkX, -, -, X₁, st1⟩ := V.newCold hexec (own := own) (C := cls) (index := ik) (n := 6) hown' hk' hins hini'
    (g := F0 m pc ls []) rfl (by rw [hb]; exact d0) (Nat.le_refl _) (Nat.le_refl _)
  generalize hT1 : (T.setVm vm₁).pushCell { cls := cX, slots := kX.instanceTypes.map defaultValue, vm := .none } = T1 at X₁ st1
  have hcat : (Value.ref T.heap.size).category = 1 := rfl
  have hcellA : T1.heap[T.heap.size]? = some (freshCell cX kX) := by rw [← hT1]; exact State.heap_pushCell_size _ _
  have d3' : decode c.code (pc + 3) = .ok (.dup, 1) := by rw [hb]; exact d3
  have hstr' : vk_R own is text sa s' := vk_R.warm hW0 hstr
  obtain ⟨U, hsteps, hrun, hend, hW, hsame, ce, hce, hcv, hcl1⟩ := cm_ctorT X₁ hexec htr (own := own) (cls := cls) (Y := Y) (r := r) (ic := ic) x0 x1 x2 x5 hown' hcls hY hnames h (fun x hx => nomatch hx) hfX hkX hcellA (by rw [hhp, hT]; exact Nat.le_refl _) (msg := .ref sa) rfl
    (g := { method := m, pc := pc + 4 + wd, locals := ls, stack := [.ref sa, .ref T.heap.size, .ref T.heap.size], locked := none }) rfl hsize rfl rfl (rest := []) rfl
    (by rw [hb]; exact d6) (by rw [hb]; exact d9) (fun z hz => (hout z hz).elim) hRframes (by simp only [List.map_cons, List.sum_cons, hcat]; show 2 * 0 + (1 + 0) + _ ≤ R.locals; omega) hlocks
  obtain ⟨f1, f2⟩ := vx_frame hsame
  rw [hhp] at f1 f2
  have hWs : s.WarmedH U.vm := State.WarmedH.trans hW0 hW
  have hcl : s.vm.findClass cls = some ce.cls := by rw [hvm] at hcl1; exact hcl1
  have hall : s.sameButNew ({ U with vm := s.vm } : State) locs mc ms := by
    subst hA
    obtain ⟨e1, e2⟩ := hsame
    rw [State.setFrames_setFrames] at e1
    have h2 : (T.setVm s.vm).sameButNew ({ U with vm := s.vm } : State) [] (0 + 1) (0 + 6) := ⟨e1, e2⟩
    have h3 := X.same.trans h2
    rw [List.append_nil] at h3
    exact h3.mono hc hs
  refine ⟨U, ?_, .threw T.heap.size, hrun, hend, Or.inr ⟨T.heap.size, rfl, cls, ce, locs, hx U hWs.alike f1 (fun q hq => f2 q hq (fun z hz => nomatch hz)), hce, hcv, hcl, hWs, hall, hf⟩⟩
  refine st1 _ ?_
  show Steps p.tables e below (T1.setTop { method := m, pc := pc + 3, locals := ls, stack := [.ref T.heap.size], locked := none }) _
  jvm_step X₁.here [X₁.here.top, hexec, d3', Value.category]
  rcases d4 with ⟨rfl, d4⟩ | ⟨rfl, d4⟩
  · exact X₁.ldcString hexec (own := own) (text := text) (index := is) (a := sa) hown' hstr'.1 hstr'.2
      (g := { method := m, pc := pc + 4, locals := ls, stack := [.ref T.heap.size, .ref T.heap.size], locked := none }) rfl (by rw [hb]; exact d4) _ hsteps
  · exact X₁.ldcStringW hexec (own := own) (text := text) (index := is) (a := sa) hown' hstr'.1 hstr'.2
      (g := { method := m, pc := pc + 4, locals := ls, stack := [.ref T.heap.size, .ref T.heap.size], locked := none }) rfl (by rw [hb]; exact d4) _ hsteps
end EXT
end
section
def cm_okth (q : Nat × Nat × Nat × Nat × Nat × Nat × Nat) : Bool := cm_ow q.1 == 8 && decide (decode (cm_by q.1) q.2.1 = .ok (.new q.2.2.2.1, 3)) && decide (decode (cm_by q.1) (q.2.1 + 3) = .ok (.dup, 1)) && (match q.2.2.1 with
  | 0 => decide (decode (cm_by q.1) (q.2.1 + 4) = .ok (.ldc q.2.2.2.2.1, 2)) && decide (decode (cm_by q.1) (q.2.1 + 6) = .ok (.invokespecial q.2.2.2.2.2.1, 3)) && decide (decode (cm_by q.1) (q.2.1 + 9) = .ok (.athrow, 1))
  | _ => decide (decode (cm_by q.1) (q.2.1 + 4) = .ok (.ldc_w q.2.2.2.2.1, 3)) && decide (decode (cm_by q.1) (q.2.1 + 7) = .ok (.invokespecial q.2.2.2.2.2.1, 3)) && decide (decode (cm_by q.1) (q.2.1 + 10) = .ok (.athrow, 1))) && cm_strs.any (fun z => z.1 == RX8 && z.2.1 == q.2.2.2.2.1) && ((q.2.2.2.2.2.2 == 0 && q.2.2.2.2.2.1 == 175) || (q.2.2.2.2.2.2 == 1 && q.2.2.2.2.2.1 == 90)) && cm_xls.any (fun z => z.1 == 8 && (z.2.1 == q.2.2.2.1 && z.2.2.1 == q.2.2.2.2.2.2)) && (6).ble (cm_fm q.1) && (cm_hh q.1).isEmpty
set_option maxRecDepth 100000 in
theorem cm_ths_ok : cm_ths.all cm_okth = true := by decide +kernel
set_option maxRecDepth 100000 in
theorem cm_atX_0 : ∀ w ∈ cm_atXn RX8 175 "java/util/NoSuchElementException" 13 prog_27_method_4_code "java/lang/RuntimeException" ["java/lang/Exception"], w ∈ lw_tbl ∧ cm_two w = true := by decide +kernel
set_option maxRecDepth 100000 in
theorem cm_atX_1 : ∀ w ∈ cm_atXn RX8 90 "java/lang/IllegalArgumentException" 7 prog_16_method_2_code "java/lang/RuntimeException" ["java/lang/Exception"], w ∈ lw_tbl ∧ cm_two w = true := by decide +kernel
theorem cm_in_x0 : Jvm.Cond.initialized "java/util/NoSuchElementException" ∈ lw_tbl := by decide +kernel
theorem cm_in_x1 : Jvm.Cond.initialized "java/lang/IllegalArgumentException" ∈ lw_tbl := by decide +kernel
theorem cm_hr_ex {Z : cm_Z} {h : cm_H} {H H1 : Heap} (hH : cm_hr Z h H) (hk : ∀ q : Nat, q < H.size → H1[q]? = H[q]?) : cm_hr Z (cm_ex h) H1 := by
  obtain ⟨ws, hP, hD, hwl, h5, h6, hcell, hout, hscr, hxs⟩ := hH
  exact ⟨ws, hP.kept (fun k q hq => hk q.1 ((hP k q hq).lt)), hD, hwl, h5, Nat.le_succ_of_le h6, fun k hkl => (hcell k hkl).elim fun e he => ⟨e, he.1, cm_ce_same rfl rfl rfl rfl he.2⟩, hout, hscr, hxs⟩
theorem cm_vot {w : Cond} (h : cm_two w = true) : vx_ot w = true := by
  unfold vx_ot
  rcases cm_two_ot h with h1 | ⟨ty, rfl⟩
  · rw [h1]; rfl
  · rfl
section ENDS
variable {Z : cm_Z} {p : Program} {l : Launch} {e : Env} {R : Room} {s : State} {m : MethodId} {args : Array Value} {below : List Frame} {meth : Method} {c : Code} {CC SS y pc : Nat} {hf h : cm_H} {L : cm_L} {st : List cm_V} {r : Option cm_V ⊕ Nat}
theorem so_throw (hx : p.tables.exec = Jvm.exec) (hb : c.code = cm_by y) (hml : c.maxLocals = cm_mL y) (hown : s.vm.findClass (cm_cn (cm_ow y)) = some m.cls) (hcx : cm_cx Z s) (hl : l.stackTraces = false) (hlocks : meth.locks = false) (hexc : cm_hh y = [] → ∀ x ∈ c.exceptionTable.toList, False) (hfm : cm_fm y ≤ R.frames) (hlo : 100 ≤ R.locals) (hCC : CC ≤ R.cells) (hSS : SS ≤ R.slots) {i x : Nat} (hth : cm_ths.any (fun q => q.1 == y && (q.2.1 == pc && (q.2.2.2.1 == i && q.2.2.2.2.2.2 == x))) = true) (hr : r = .inr x) (hfe : hf = cm_ex h) :
    cm_Go Z p l e R s m args below meth c (vx_MQ below (cm_Qc Z hf r) (cm_XC Z hf r) args s CC SS (zA Z)) CC SS y hf pc L [] h := by
  intro H locs cells slots rls rst hH hS hn hL hs hz hc hq
  have hrst := cm_sr_nil hs
  subst hrst
  obtain ⟨⟨q1, q2, q3, q4, q5, q6, q7⟩, hm, hq1⟩ := List.any_eq_true.mp hth
  simp only [Bool.and_eq_true, beq_iff_eq] at hq1
  obtain ⟨rfl, rfl, rfl, rfl⟩ := hq1
  have hok := List.all_eq_true.mp cm_ths_ok _ hm
  unfold cm_okth at hok
  simp only [Bool.and_eq_true, beq_iff_eq, decide_eq_true_eq, Bool.or_eq_true, Nat.ble_eq] at hok
  obtain ⟨⟨⟨⟨⟨⟨⟨⟨o1, o2⟩, o3⟩, o4⟩, o5⟩, o6⟩, o7⟩, o8⟩, o9⟩ := hok
  have hhh : cm_hh q1 = [] := by simpa using o9
  have hown8 : s.vm.findClass RX8 = some m.cls := by rw [o1] at hown; exact hown
  obtain ⟨⟨t1, t2, t3⟩, tm, tq⟩ := List.any_eq_true.mp o5
  simp only [Bool.and_eq_true, beq_iff_eq] at tq
  obtain ⟨rfl, rfl⟩ := tq
  obtain ⟨sa, hsa⟩ := hcx.2.2.2.2.2.2.2.2.1 _ tm
  obtain ⟨⟨u1, u2, u3, u4⟩, um, uq⟩ := List.any_eq_true.mp o7
  simp only [Bool.and_eq_true, beq_iff_eq] at uq
  obtain ⟨rfl, rfl, rfl⟩ := uq
  have hxl := List.mem_of_getElem? (of_decide_eq_true (List.all_eq_true.mp cm_xls_ok _ um))
  have hini : Jvm.Cond.initialized (cm_xn u3) ∈ lw_tbl := by
    rcases o6 with ⟨h1, -⟩ | ⟨h1, -⟩
    · subst h1; exact cm_in_x0
    · subst h1; exact cm_in_x1
  have hc2 : cells + 1 ≤ CC := by rw [hfe] at hc; have : cells + (h.2.2.2.2.2.1 + 1) ≤ CC + h.2.2.2.2.2.1 := hc; omega
  have hs2 : slots + 6 ≤ SS := by rw [hfe] at hq; have : slots + (h.2.2.2.2.2.2 + 6) ≤ SS + h.2.2.2.2.2.2 := hq; omega
  have hXC : ∀ t : State, s.vm.Alike t.vm → H.size ≤ t.heap.size → (∀ q : Nat, q < H.size → t.heap[q]? = H[q]?) → cm_XC Z hf r (cm_xn u3) s t := by
    intro t _ hz1 hk1
    refine ⟨⟨u3, hr, rfl⟩, by rw [hfe]; exact cm_hr_ex hH hk1, Nat.le_trans hS.1 hz1, fun q h1 h2 => ?_⟩
    rw [hk1 q (Nat.lt_of_lt_of_le h1 hS.1)]
    exact hS.2.1 q h1 h2
  have hsz : rls.size = c.maxLocals := (cm_lr_size hL).trans (hn.trans hml.symm)
  have d4 : ∃ wd, ((wd = 2 ∧ decode (cm_by q1) (q2 + 4) = .ok (.ldc t2, 2)) ∨ (wd = 3 ∧ decode (cm_by q1) (q2 + 4) = .ok (.ldc_w t2, 3))) ∧ decode (cm_by q1) (q2 + 4 + wd) = .ok (.invokespecial q6, 3) ∧ decode (cm_by q1) (q2 + 4 + wd + 3) = .ok (.athrow, 1) := by
    rcases q3 with _ | q3
    · simp only [Bool.and_eq_true, decide_eq_true_eq] at o4
      exact ⟨2, Or.inl ⟨rfl, o4.1.1⟩, o4.1.2, o4.2⟩
    · simp only [Bool.and_eq_true, decide_eq_true_eq] at o4
      exact ⟨3, Or.inr ⟨rfl, o4.1.1⟩, o4.1.2, o4.2⟩
  obtain ⟨wd, d4, d6, d9⟩ := d4
  have fin : ∀ (ix : Nat) (rx : ByteArray), decode rx 0 = .ok (.aload_n 0, 1) → decode rx 1 = .ok (.aload_n 1, 1) → decode rx 2 = .ok (.invokespecial ix, 3) → decode rx 5 = .ok (.return_, 1) → Bundle.fit (cm_xn u3) = true → (∀ w ∈ cm_atXn RX8 q6 (cm_xn u3) ix rx "java/lang/RuntimeException" ["java/lang/Exception"], w ∈ lw_tbl ∧ cm_two w = true) → W p l e R s m args below meth c H locs cells slots (vx_MQ below (cm_Qc Z hf r) (cm_XC Z hf r) args s CC SS (zA Z)) (F0 m q2 rls []) := by
    intro ix rx x0 x1 x2 x5 hfit hat
    have hgood : ∀ w ∈ Jvm.Cond.classLink RX8 u2 (cm_xn u3) :: Jvm.Cond.initialized (cm_xn u3) :: cm_atXn RX8 q6 (cm_xn u3) ix rx "java/lang/RuntimeException" ["java/lang/Exception"], vx_ot w = true := by
      intro w hw
      rcases List.mem_cons.mp hw with rfl | hw
      · rfl
      · rcases List.mem_cons.mp hw with rfl | hw
        · rfl
        · exact cm_vot (hat w hw).2
    exact cm_throwX (Y := "java/lang/RuntimeException") (r := ["java/lang/Exception"]) hx hb hl x0 x1 x2 x5 hown8 hfit (by decide +kernel) (by decide +kernel) (cm_w hcx args hxl rfl) (cm_w hcx args hini rfl) hsa (fun w hw => cm_w hcx args (hat w hw).1 (hat w hw).2) hgood hcx.2.2.2.2.2.2.1 hcx.2.2.2.2.2.2.2.1 hS hsz o2 o3 d4 d6 d9 (fun z hz => (hexc hhh z hz).elim) (by show 1 + 1 + 3 < _; omega) (by show 13 * (1 + 1 + 1) + 43 ≤ _; omega) (by omega) (by omega) hlocks hXC (fun z hz => hS.2.2 z hz) hc2 hs2
  rcases o6 with ⟨h1, h2⟩ | ⟨h1, h2⟩
  · subst h1; subst h2
    exact fin 13 prog_27_method_4_code (by decide +kernel) (by decide +kernel) (by decide +kernel) (by decide +kernel) (by decide +kernel) cm_atX_0
  · subst h1; subst h2
    exact fin 7 prog_16_method_2_code (by decide +kernel) (by decide +kernel) (by decide +kernel) (by decide +kernel) (by decide +kernel) cm_atX_1
/-- the end of a method with an answer -/
def cm_rq (y : Nat) (v : Option cm_V) (rst : List Value) (pc : Nat) : Prop := match v with
  | none => rst = [] ∧ decode (cm_by y) pc = .ok (.return_, 1) ∧ cm_rt y = none
  | some (.inl x) => ∃ i : Int32, rst = [.int i] ∧ i.toInt = x ∧ decode (cm_by y) pc = .ok (.ireturn, 1) ∧ (cm_rt y = some .int ∨ (cm_rt y = some .boolean ∧ (x = 0 ∨ x = 1)))
  | some (.inr (.inl x)) => rst = [.long x] ∧ decode (cm_by y) pc = .ok (.lreturn, 1) ∧ cm_rt y = some .long
  | _ => False
theorem so_ret (hx : p.tables.exec = Jvm.exec) (hb : c.code = cm_by y) (hlocks : meth.locks = false) (hrt : meth.sig.returnType = cm_rt y) {v : Option cm_V} (hr : r = .inl v) {H : Heap} {locs : List Loc} {cells slots : Nat} {rls : Array Slot} {rst : List Value} (hH : cm_hr Z hf H) (hS : va_S (zA Z) s.heap H locs) (h1 : cells ≤ CC) (h2 : slots ≤ SS) (hq : cm_rq y v rst pc) : W p l e R s m args below meth c H locs cells slots (vx_MQ below (cm_Qc Z hf r) (cm_XC Z hf r) args s CC SS (zA Z)) (F0 m pc rls rst) := by
  subst hr
  refine vx_ret (W.widen h1 h2 ?_)
  rcases v with _ | x | x | x
  · obtain ⟨rfl, hd, h3⟩ := hq
    exact W.vret hx hb (hrt.trans h3) (fun t ht _ => ⟨rfl, by rw [ht]; exact hH, hS.F ht⟩) (fun q hq => hS.2.2 q hq) hd hlocks
  · obtain ⟨i, rfl, hi, hd, h3⟩ := hq
    rcases h3 with h3 | ⟨h3, h4⟩
    · exact W.iret hx hb (hrt.trans h3) (fun t ht _ => ⟨⟨_, rfl, _, rfl, hi⟩, by rw [ht]; exact hH, hS.F ht⟩) (fun q hq => hS.2.2 q hq) hd hlocks
    · refine W.zret hx hb (hrt.trans h3) ?_ (fun t ht _ => ⟨⟨_, rfl, _, rfl, hi⟩, by rw [ht]; exact hH, hS.F ht⟩) (fun q hq => hS.2.2 q hq) hd hlocks
      have hj2 : i = 0 ∨ i = 1 := by
        rcases h4 with h4 | h4
        · exact Or.inl (by rw [cm_ieq, hi, h4]; rfl)
        · exact Or.inr (by rw [cm_ieq, hi, h4]; rfl)
      rcases hj2 with rfl | rfl <;> rfl
  · obtain ⟨rfl, hd, h3⟩ := hq
    exact W.lret hx hb (hrt.trans h3) (fun t ht _ => ⟨⟨_, rfl, rfl⟩, by rw [ht]; exact hH, hS.F ht⟩) (fun q hq => hS.2.2 q hq) hd hlocks
  · exact hq.elim
theorem so_exc (hlocks : meth.locks = false) (hexc : ∀ x ∈ c.exceptionTable.toList, False) {x : Nat} (hr : r = .inr x) : cm_GX Z p l e R s m args below meth c (vx_MQ below (cm_Qc Z hf r) (cm_XC Z hf r) args s CC SS (zA Z)) CC SS y hf pc L x hf := by
  intro H locs cells slots rls rest q ce hH hS hn hL hz hc hq h1 h2 h3
  exact vx_out (fun z hz => (hexc z hz).elim) hlocks h1 h2 h3 (fun t ht _ => ⟨⟨x, hr, rfl⟩, by rw [ht]; exact hH, hS.F ht⟩) (fun z hz => hS.2.2 z hz) (by omega) (by omega)
end ENDS
end
section
theorem zz_last : True := trivial
end
