section
-- ===== PART A: goes FIRST, ahead of the names: the tables' words, and 'selects' of the private methods out of them =====
/-- a private method of a class that the tables say can be made, by its rows of tables_1 -/
def lw_okq (q : MethodName × Nat) : Prop := (q.1.cls ≠ "java/lang/invoke/MethodHandle" ∧ q.1.cls ≠ "java/lang/invoke/VarHandle") ∧ Cond.instantiable q.1.cls q.2 ∈ tables_1 ∧ Cond.privateMethod q.1 ∈ tables_1 ∧ Cond.instanceMethod q.1 ∈ tables_1
theorem lw_p0 : lw_okq (⟨"CellEvents$World", "waitingIn", "(I)I"⟩, 7) := ⟨⟨by decide +kernel, by decide +kernel⟩, List.mem_of_getElem? (i := 31) (by decide +kernel), List.mem_of_getElem? (i := 258) (by decide +kernel), List.mem_of_getElem? (i := 259) (by decide +kernel)⟩
theorem lw_p1 : lw_okq (⟨"CellEvents$CommandText", "skipSpaces", "()V"⟩, 6) := ⟨⟨by decide +kernel, by decide +kernel⟩, List.mem_of_getElem? (i := 209) (by decide +kernel), List.mem_of_getElem? (i := 286) (by decide +kernel), List.mem_of_getElem? (i := 287) (by decide +kernel)⟩
theorem lw_p2 : lw_okq (⟨"CellEvents$CommandText", "readWord", "()Z"⟩, 6) := ⟨⟨by decide +kernel, by decide +kernel⟩, List.mem_of_getElem? (i := 209) (by decide +kernel), List.mem_of_getElem? (i := 290) (by decide +kernel), List.mem_of_getElem? (i := 291) (by decide +kernel)⟩
theorem lw_p3 : lw_okq (⟨"CellEvents$CommandText", "isWithin", "(CC)Z"⟩, 6) := ⟨⟨by decide +kernel, by decide +kernel⟩, List.mem_of_getElem? (i := 209) (by decide +kernel), List.mem_of_getElem? (i := 294) (by decide +kernel), List.mem_of_getElem? (i := 295) (by decide +kernel)⟩
theorem lw_p4 : lw_okq (⟨"CellEvents$CommandText", "kindOf", "(II)I"⟩, 6) := ⟨⟨by decide +kernel, by decide +kernel⟩, List.mem_of_getElem? (i := 209) (by decide +kernel), List.mem_of_getElem? (i := 298) (by decide +kernel), List.mem_of_getElem? (i := 299) (by decide +kernel)⟩
theorem lw_p5 : lw_okq (⟨"CellEvents$CommandText", "stands", "(Ljava/lang/String;II)Z"⟩, 6) := ⟨⟨by decide +kernel, by decide +kernel⟩, List.mem_of_getElem? (i := 209) (by decide +kernel), List.mem_of_getElem? (i := 312) (by decide +kernel), List.mem_of_getElem? (i := 313) (by decide +kernel)⟩
theorem lw_p6 : lw_okq (⟨"CellEvents$CommandText", "failAt", "(I)Z"⟩, 6) := ⟨⟨by decide +kernel, by decide +kernel⟩, List.mem_of_getElem? (i := 209) (by decide +kernel), List.mem_of_getElem? (i := 364) (by decide +kernel), List.mem_of_getElem? (i := 365) (by decide +kernel)⟩
theorem lw_p7 : lw_okq (⟨"CellEvents$CommandText", "readNumbers", "()Z"⟩, 6) := ⟨⟨by decide +kernel, by decide +kernel⟩, List.mem_of_getElem? (i := 209) (by decide +kernel), List.mem_of_getElem? (i := 368) (by decide +kernel), List.mem_of_getElem? (i := 369) (by decide +kernel)⟩
theorem lw_p8 : lw_okq (⟨"CellEvents$CommandText", "readNumber", "(I)Z"⟩, 6) := ⟨⟨by decide +kernel, by decide +kernel⟩, List.mem_of_getElem? (i := 209) (by decide +kernel), List.mem_of_getElem? (i := 375) (by decide +kernel), List.mem_of_getElem? (i := 376) (by decide +kernel)⟩
theorem lw_p9 : lw_okq (⟨"CellEvents$CommandText", "isAt", "(C)Z"⟩, 6) := ⟨⟨by decide +kernel, by decide +kernel⟩, List.mem_of_getElem? (i := 209) (by decide +kernel), List.mem_of_getElem? (i := 379) (by decide +kernel), List.mem_of_getElem? (i := 380) (by decide +kernel)⟩
theorem lw_p10 : lw_okq (⟨"CellEvents$CommandText", "readSemicolon", "()Z"⟩, 6) := ⟨⟨by decide +kernel, by decide +kernel⟩, List.mem_of_getElem? (i := 209) (by decide +kernel), List.mem_of_getElem? (i := 383) (by decide +kernel), List.mem_of_getElem? (i := 384) (by decide +kernel)⟩
theorem lw_p11 : lw_okq (⟨"CellEvents", "carryOutCommands", "()I"⟩, 4) := ⟨⟨by decide +kernel, by decide +kernel⟩, List.mem_of_getElem? (i := 23) (by decide +kernel), List.mem_of_getElem? (i := 420) (by decide +kernel), List.mem_of_getElem? (i := 421) (by decide +kernel)⟩
theorem lw_p12 : lw_okq (⟨"CellEvents$World", "againstJoining", "(III)I"⟩, 7) := ⟨⟨by decide +kernel, by decide +kernel⟩, List.mem_of_getElem? (i := 31) (by decide +kernel), List.mem_of_getElem? (i := 430) (by decide +kernel), List.mem_of_getElem? (i := 431) (by decide +kernel)⟩
theorem lw_p13 : lw_okq (⟨"CellEvents$World", "againstMoving", "(II)I"⟩, 7) := ⟨⟨by decide +kernel, by decide +kernel⟩, List.mem_of_getElem? (i := 31) (by decide +kernel), List.mem_of_getElem? (i := 437) (by decide +kernel), List.mem_of_getElem? (i := 438) (by decide +kernel)⟩
theorem lw_p14 : lw_okq (⟨"CellEvents$World", "againstLeaving", "(I)I"⟩, 7) := ⟨⟨by decide +kernel, by decide +kernel⟩, List.mem_of_getElem? (i := 31) (by decide +kernel), List.mem_of_getElem? (i := 449) (by decide +kernel), List.mem_of_getElem? (i := 450) (by decide +kernel)⟩
theorem lw_p15 : lw_okq (⟨"CellEvents$World", "againstPublishing", "(III)I"⟩, 7) := ⟨⟨by decide +kernel, by decide +kernel⟩, List.mem_of_getElem? (i := 31) (by decide +kernel), List.mem_of_getElem? (i := 453) (by decide +kernel), List.mem_of_getElem? (i := 454) (by decide +kernel)⟩
def lw_privs_1 : List (MethodName × Nat) := [(⟨"CellEvents$World", "waitingIn", "(I)I"⟩, 7), (⟨"CellEvents$CommandText", "skipSpaces", "()V"⟩, 6), (⟨"CellEvents$CommandText", "readWord", "()Z"⟩, 6), (⟨"CellEvents$CommandText", "isWithin", "(CC)Z"⟩, 6), (⟨"CellEvents$CommandText", "kindOf", "(II)I"⟩, 6), (⟨"CellEvents$CommandText", "stands", "(Ljava/lang/String;II)Z"⟩, 6), (⟨"CellEvents$CommandText", "failAt", "(I)Z"⟩, 6), (⟨"CellEvents$CommandText", "readNumbers", "()Z"⟩, 6), (⟨"CellEvents$CommandText", "readNumber", "(I)Z"⟩, 6), (⟨"CellEvents$CommandText", "isAt", "(C)Z"⟩, 6), (⟨"CellEvents$CommandText", "readSemicolon", "()Z"⟩, 6), (⟨"CellEvents", "carryOutCommands", "()I"⟩, 4), (⟨"CellEvents$World", "againstJoining", "(III)I"⟩, 7), (⟨"CellEvents$World", "againstMoving", "(II)I"⟩, 7), (⟨"CellEvents$World", "againstLeaving", "(I)I"⟩, 7), (⟨"CellEvents$World", "againstPublishing", "(III)I"⟩, 7)]
theorem lw_r1 : ∀ q ∈ lw_privs_1, lw_okq q := List.forall_mem_cons.mpr ⟨lw_p0, List.forall_mem_cons.mpr ⟨lw_p1, List.forall_mem_cons.mpr ⟨lw_p2, List.forall_mem_cons.mpr ⟨lw_p3, List.forall_mem_cons.mpr ⟨lw_p4, List.forall_mem_cons.mpr ⟨lw_p5, List.forall_mem_cons.mpr ⟨lw_p6, List.forall_mem_cons.mpr ⟨lw_p7, List.forall_mem_cons.mpr ⟨lw_p8, List.forall_mem_cons.mpr ⟨lw_p9, List.forall_mem_cons.mpr ⟨lw_p10, List.forall_mem_cons.mpr ⟨lw_p11, List.forall_mem_cons.mpr ⟨lw_p12, List.forall_mem_cons.mpr ⟨lw_p13, List.forall_mem_cons.mpr ⟨lw_p14, List.forall_mem_cons.mpr ⟨lw_p15, fun _ h => absurd h List.not_mem_nil⟩⟩⟩⟩⟩⟩⟩⟩⟩⟩⟩⟩⟩⟩⟩⟩
theorem lw_p16 : lw_okq (⟨"CellEvents$World", "againstSetting", "(II)I"⟩, 7) := ⟨⟨by decide +kernel, by decide +kernel⟩, List.mem_of_getElem? (i := 31) (by decide +kernel), List.mem_of_getElem? (i := 461) (by decide +kernel), List.mem_of_getElem? (i := 462) (by decide +kernel)⟩
theorem lw_p17 : lw_okq (⟨"CellEvents$World", "againstPassing", "(I)I"⟩, 7) := ⟨⟨by decide +kernel, by decide +kernel⟩, List.mem_of_getElem? (i := 31) (by decide +kernel), List.mem_of_getElem? (i := 469) (by decide +kernel), List.mem_of_getElem? (i := 470) (by decide +kernel)⟩
theorem lw_p18 : lw_okq (⟨"CellEvents$World", "againstRelevelling", "(II)I"⟩, 7) := ⟨⟨by decide +kernel, by decide +kernel⟩, List.mem_of_getElem? (i := 31) (by decide +kernel), List.mem_of_getElem? (i := 473) (by decide +kernel), List.mem_of_getElem? (i := 474) (by decide +kernel)⟩
theorem lw_p19 : lw_okq (⟨"CellEvents$World", "join", "(III)I"⟩, 7) := ⟨⟨by decide +kernel, by decide +kernel⟩, List.mem_of_getElem? (i := 31) (by decide +kernel), List.mem_of_getElem? (i := 481) (by decide +kernel), List.mem_of_getElem? (i := 482) (by decide +kernel)⟩
theorem lw_p20 : lw_okq (⟨"CellEvents$World", "publishEvent", "(III)I"⟩, 7) := ⟨⟨by decide +kernel, by decide +kernel⟩, List.mem_of_getElem? (i := 31) (by decide +kernel), List.mem_of_getElem? (i := 509) (by decide +kernel), List.mem_of_getElem? (i := 510) (by decide +kernel)⟩
theorem lw_p21 : lw_okq (⟨"CellEvents$World", "changeSetting", "(II)I"⟩, 7) := ⟨⟨by decide +kernel, by decide +kernel⟩, List.mem_of_getElem? (i := 31) (by decide +kernel), List.mem_of_getElem? (i := 546) (by decide +kernel), List.mem_of_getElem? (i := 547) (by decide +kernel)⟩
theorem lw_p22 : lw_okq (⟨"CellEvents$World", "passTicks", "(I)I"⟩, 7) := ⟨⟨by decide +kernel, by decide +kernel⟩, List.mem_of_getElem? (i := 31) (by decide +kernel), List.mem_of_getElem? (i := 550) (by decide +kernel), List.mem_of_getElem? (i := 551) (by decide +kernel)⟩
theorem lw_p23 : lw_okq (⟨"CellEvents$World", "passTick", "()I"⟩, 7) := ⟨⟨by decide +kernel, by decide +kernel⟩, List.mem_of_getElem? (i := 31) (by decide +kernel), List.mem_of_getElem? (i := 554) (by decide +kernel), List.mem_of_getElem? (i := 555) (by decide +kernel)⟩
theorem lw_p24 : lw_okq (⟨"CellEvents$World", "deliverTo", "(I)I"⟩, 7) := ⟨⟨by decide +kernel, by decide +kernel⟩, List.mem_of_getElem? (i := 31) (by decide +kernel), List.mem_of_getElem? (i := 570) (by decide +kernel), List.mem_of_getElem? (i := 571) (by decide +kernel)⟩
theorem lw_p25 : lw_okq (⟨"CellEvents", "valueOfWhole", "(I)I"⟩, 4) := ⟨⟨by decide +kernel, by decide +kernel⟩, List.mem_of_getElem? (i := 23) (by decide +kernel), List.mem_of_getElem? (i := 598) (by decide +kernel), List.mem_of_getElem? (i := 599) (by decide +kernel)⟩
theorem lw_p26 : lw_okq (⟨"CellEvents$World", "sumOf", "(I)I"⟩, 7) := ⟨⟨by decide +kernel, by decide +kernel⟩, List.mem_of_getElem? (i := 31) (by decide +kernel), List.mem_of_getElem? (i := 606) (by decide +kernel), List.mem_of_getElem? (i := 607) (by decide +kernel)⟩
theorem lw_p27 : lw_okq (⟨"CellEvents", "mixSubscriber", "(JI)J"⟩, 4) := ⟨⟨by decide +kernel, by decide +kernel⟩, List.mem_of_getElem? (i := 23) (by decide +kernel), List.mem_of_getElem? (i := 614) (by decide +kernel), List.mem_of_getElem? (i := 615) (by decide +kernel)⟩
theorem lw_p28 : lw_okq (⟨"CellEvents$World", "inboxesWith", "(I)I"⟩, 7) := ⟨⟨by decide +kernel, by decide +kernel⟩, List.mem_of_getElem? (i := 31) (by decide +kernel), List.mem_of_getElem? (i := 644) (by decide +kernel), List.mem_of_getElem? (i := 645) (by decide +kernel)⟩
theorem lw_p29 : lw_okq (⟨"CellEvents$World", "servedBy", "(I)I"⟩, 7) := ⟨⟨by decide +kernel, by decide +kernel⟩, List.mem_of_getElem? (i := 31) (by decide +kernel), List.mem_of_getElem? (i := 656) (by decide +kernel), List.mem_of_getElem? (i := 657) (by decide +kernel)⟩
theorem lw_p30 : lw_okq (⟨"CellEvents$World", "standingIn", "(I)I"⟩, 7) := ⟨⟨by decide +kernel, by decide +kernel⟩, List.mem_of_getElem? (i := 31) (by decide +kernel), List.mem_of_getElem? (i := 660) (by decide +kernel), List.mem_of_getElem? (i := 661) (by decide +kernel)⟩
theorem lw_p31 : lw_okq (⟨"CellEvents", "act", "(IIII)I"⟩, 4) := ⟨⟨by decide +kernel, by decide +kernel⟩, List.mem_of_getElem? (i := 23) (by decide +kernel), List.mem_of_getElem? (i := 674) (by decide +kernel), List.mem_of_getElem? (i := 675) (by decide +kernel)⟩
def lw_privs_2 : List (MethodName × Nat) := [(⟨"CellEvents$World", "againstSetting", "(II)I"⟩, 7), (⟨"CellEvents$World", "againstPassing", "(I)I"⟩, 7), (⟨"CellEvents$World", "againstRelevelling", "(II)I"⟩, 7), (⟨"CellEvents$World", "join", "(III)I"⟩, 7), (⟨"CellEvents$World", "publishEvent", "(III)I"⟩, 7), (⟨"CellEvents$World", "changeSetting", "(II)I"⟩, 7), (⟨"CellEvents$World", "passTicks", "(I)I"⟩, 7), (⟨"CellEvents$World", "passTick", "()I"⟩, 7), (⟨"CellEvents$World", "deliverTo", "(I)I"⟩, 7), (⟨"CellEvents", "valueOfWhole", "(I)I"⟩, 4), (⟨"CellEvents$World", "sumOf", "(I)I"⟩, 7), (⟨"CellEvents", "mixSubscriber", "(JI)J"⟩, 4), (⟨"CellEvents$World", "inboxesWith", "(I)I"⟩, 7), (⟨"CellEvents$World", "servedBy", "(I)I"⟩, 7), (⟨"CellEvents$World", "standingIn", "(I)I"⟩, 7), (⟨"CellEvents", "act", "(IIII)I"⟩, 4)]
theorem lw_r2 : ∀ q ∈ lw_privs_2, lw_okq q := List.forall_mem_cons.mpr ⟨lw_p16, List.forall_mem_cons.mpr ⟨lw_p17, List.forall_mem_cons.mpr ⟨lw_p18, List.forall_mem_cons.mpr ⟨lw_p19, List.forall_mem_cons.mpr ⟨lw_p20, List.forall_mem_cons.mpr ⟨lw_p21, List.forall_mem_cons.mpr ⟨lw_p22, List.forall_mem_cons.mpr ⟨lw_p23, List.forall_mem_cons.mpr ⟨lw_p24, List.forall_mem_cons.mpr ⟨lw_p25, List.forall_mem_cons.mpr ⟨lw_p26, List.forall_mem_cons.mpr ⟨lw_p27, List.forall_mem_cons.mpr ⟨lw_p28, List.forall_mem_cons.mpr ⟨lw_p29, List.forall_mem_cons.mpr ⟨lw_p30, List.forall_mem_cons.mpr ⟨lw_p31, fun _ h => absurd h List.not_mem_nil⟩⟩⟩⟩⟩⟩⟩⟩⟩⟩⟩⟩⟩⟩⟩⟩
theorem lw_p32 : lw_okq (⟨"java/lang/Throwable", "fillInStackTrace", "(I)Ljava/lang/Throwable;"⟩, 6) := ⟨⟨by decide +kernel, by decide +kernel⟩, List.mem_of_getElem? (i := 719) (by decide +kernel), List.mem_of_getElem? (i := 717) (by decide +kernel), List.mem_of_getElem? (i := 718) (by decide +kernel)⟩
theorem lw_p33 : lw_okq (⟨"CellEventsModel", "laysAside", "()V"⟩, 13) := ⟨⟨by decide +kernel, by decide +kernel⟩, List.mem_of_getElem? (i := 939) (by decide +kernel), List.mem_of_getElem? (i := 993) (by decide +kernel), List.mem_of_getElem? (i := 994) (by decide +kernel)⟩
theorem lw_p34 : lw_okq (⟨"CellEventsModel", "subscribes", "(III)I"⟩, 13) := ⟨⟨by decide +kernel, by decide +kernel⟩, List.mem_of_getElem? (i := 939) (by decide +kernel), List.mem_of_getElem? (i := 997) (by decide +kernel), List.mem_of_getElem? (i := 998) (by decide +kernel)⟩
theorem lw_p35 : lw_okq (⟨"CellEventsModel", "put", "(III)V"⟩, 13) := ⟨⟨by decide +kernel, by decide +kernel⟩, List.mem_of_getElem? (i := 939) (by decide +kernel), List.mem_of_getElem? (i := 1010) (by decide +kernel), List.mem_of_getElem? (i := 1011) (by decide +kernel)⟩
theorem lw_p36 : lw_okq (⟨"CellEventsModel", "beginsStay", "(II)V"⟩, 13) := ⟨⟨by decide +kernel, by decide +kernel⟩, List.mem_of_getElem? (i := 939) (by decide +kernel), List.mem_of_getElem? (i := 1014) (by decide +kernel), List.mem_of_getElem? (i := 1015) (by decide +kernel)⟩
theorem lw_p37 : lw_okq (⟨"CellEventsModel", "of", "(II)I"⟩, 13) := ⟨⟨by decide +kernel, by decide +kernel⟩, List.mem_of_getElem? (i := 939) (by decide +kernel), List.mem_of_getElem? (i := 1018) (by decide +kernel), List.mem_of_getElem? (i := 1019) (by decide +kernel)⟩
theorem lw_p38 : lw_okq (⟨"CellEventsModel", "adds", "(III)V"⟩, 13) := ⟨⟨by decide +kernel, by decide +kernel⟩, List.mem_of_getElem? (i := 939) (by decide +kernel), List.mem_of_getElem? (i := 1022) (by decide +kernel), List.mem_of_getElem? (i := 1023) (by decide +kernel)⟩
theorem lw_p39 : lw_okq (⟨"CellEventsModel", "ends", "(II)I"⟩, 13) := ⟨⟨by decide +kernel, by decide +kernel⟩, List.mem_of_getElem? (i := 939) (by decide +kernel), List.mem_of_getElem? (i := 1026) (by decide +kernel), List.mem_of_getElem? (i := 1027) (by decide +kernel)⟩
theorem lw_p40 : lw_okq (⟨"CellEventsModel", "bringsBack", "()V"⟩, 13) := ⟨⟨by decide +kernel, by decide +kernel⟩, List.mem_of_getElem? (i := 939) (by decide +kernel), List.mem_of_getElem? (i := 1030) (by decide +kernel), List.mem_of_getElem? (i := 1031) (by decide +kernel)⟩
theorem lw_p41 : lw_okq (⟨"CellEventsModel", "fails", "(I)I"⟩, 13) := ⟨⟨by decide +kernel, by decide +kernel⟩, List.mem_of_getElem? (i := 939) (by decide +kernel), List.mem_of_getElem? (i := 1034) (by decide +kernel), List.mem_of_getElem? (i := 1035) (by decide +kernel)⟩
theorem lw_p42 : lw_okq (⟨"CellEventsModel", "keeps", "()V"⟩, 13) := ⟨⟨by decide +kernel, by decide +kernel⟩, List.mem_of_getElem? (i := 939) (by decide +kernel), List.mem_of_getElem? (i := 1038) (by decide +kernel), List.mem_of_getElem? (i := 1039) (by decide +kernel)⟩
theorem lw_p43 : lw_okq (⟨"CellEventsModel", "tells", "(I)I"⟩, 13) := ⟨⟨by decide +kernel, by decide +kernel⟩, List.mem_of_getElem? (i := 939) (by decide +kernel), List.mem_of_getElem? (i := 1042) (by decide +kernel), List.mem_of_getElem? (i := 1043) (by decide +kernel)⟩
theorem lw_p44 : lw_okq (⟨"CellEventsModel", "goes", "(II)I"⟩, 13) := ⟨⟨by decide +kernel, by decide +kernel⟩, List.mem_of_getElem? (i := 939) (by decide +kernel), List.mem_of_getElem? (i := 1050) (by decide +kernel), List.mem_of_getElem? (i := 1051) (by decide +kernel)⟩
theorem lw_p45 : lw_okq (⟨"CellEventsModel", "isOne", "(I)Z"⟩, 13) := ⟨⟨by decide +kernel, by decide +kernel⟩, List.mem_of_getElem? (i := 939) (by decide +kernel), List.mem_of_getElem? (i := 1054) (by decide +kernel), List.mem_of_getElem? (i := 1055) (by decide +kernel)⟩
theorem lw_p46 : lw_okq (⟨"CellEventsModel", "quits", "(I)I"⟩, 13) := ⟨⟨by decide +kernel, by decide +kernel⟩, List.mem_of_getElem? (i := 939) (by decide +kernel), List.mem_of_getElem? (i := 1062) (by decide +kernel), List.mem_of_getElem? (i := 1063) (by decide +kernel)⟩
theorem lw_p47 : lw_okq (⟨"CellEventsModel", "endsStay", "(I)V"⟩, 13) := ⟨⟨by decide +kernel, by decide +kernel⟩, List.mem_of_getElem? (i := 939) (by decide +kernel), List.mem_of_getElem? (i := 1066) (by decide +kernel), List.mem_of_getElem? (i := 1067) (by decide +kernel)⟩
def lw_privs_3 : List (MethodName × Nat) := [(⟨"java/lang/Throwable", "fillInStackTrace", "(I)Ljava/lang/Throwable;"⟩, 6), (⟨"CellEventsModel", "laysAside", "()V"⟩, 13), (⟨"CellEventsModel", "subscribes", "(III)I"⟩, 13), (⟨"CellEventsModel", "put", "(III)V"⟩, 13), (⟨"CellEventsModel", "beginsStay", "(II)V"⟩, 13), (⟨"CellEventsModel", "of", "(II)I"⟩, 13), (⟨"CellEventsModel", "adds", "(III)V"⟩, 13), (⟨"CellEventsModel", "ends", "(II)I"⟩, 13), (⟨"CellEventsModel", "bringsBack", "()V"⟩, 13), (⟨"CellEventsModel", "fails", "(I)I"⟩, 13), (⟨"CellEventsModel", "keeps", "()V"⟩, 13), (⟨"CellEventsModel", "tells", "(I)I"⟩, 13), (⟨"CellEventsModel", "goes", "(II)I"⟩, 13), (⟨"CellEventsModel", "isOne", "(I)Z"⟩, 13), (⟨"CellEventsModel", "quits", "(I)I"⟩, 13), (⟨"CellEventsModel", "endsStay", "(I)V"⟩, 13)]
theorem lw_r3 : ∀ q ∈ lw_privs_3, lw_okq q := List.forall_mem_cons.mpr ⟨lw_p32, List.forall_mem_cons.mpr ⟨lw_p33, List.forall_mem_cons.mpr ⟨lw_p34, List.forall_mem_cons.mpr ⟨lw_p35, List.forall_mem_cons.mpr ⟨lw_p36, List.forall_mem_cons.mpr ⟨lw_p37, List.forall_mem_cons.mpr ⟨lw_p38, List.forall_mem_cons.mpr ⟨lw_p39, List.forall_mem_cons.mpr ⟨lw_p40, List.forall_mem_cons.mpr ⟨lw_p41, List.forall_mem_cons.mpr ⟨lw_p42, List.forall_mem_cons.mpr ⟨lw_p43, List.forall_mem_cons.mpr ⟨lw_p44, List.forall_mem_cons.mpr ⟨lw_p45, List.forall_mem_cons.mpr ⟨lw_p46, List.forall_mem_cons.mpr ⟨lw_p47, fun _ h => absurd h List.not_mem_nil⟩⟩⟩⟩⟩⟩⟩⟩⟩⟩⟩⟩⟩⟩⟩⟩
theorem lw_p48 : lw_okq (⟨"CellEventsModel", "sets", "(II)I"⟩, 13) := ⟨⟨by decide +kernel, by decide +kernel⟩, List.mem_of_getElem? (i := 939) (by decide +kernel), List.mem_of_getElem? (i := 1078) (by decide +kernel), List.mem_of_getElem? (i := 1079) (by decide +kernel)⟩
theorem lw_p49 : lw_okq (⟨"CellEventsModel", "setting", "(I)I"⟩, 13) := ⟨⟨by decide +kernel, by decide +kernel⟩, List.mem_of_getElem? (i := 939) (by decide +kernel), List.mem_of_getElem? (i := 1082) (by decide +kernel), List.mem_of_getElem? (i := 1083) (by decide +kernel)⟩
theorem lw_p50 : lw_okq (⟨"CellEventsModel", "publishes", "(III)I"⟩, 13) := ⟨⟨by decide +kernel, by decide +kernel⟩, List.mem_of_getElem? (i := 939) (by decide +kernel), List.mem_of_getElem? (i := 1090) (by decide +kernel), List.mem_of_getElem? (i := 1091) (by decide +kernel)⟩
theorem lw_p51 : lw_okq (⟨"CellEventsModel", "isTooLate", "(I)Z"⟩, 13) := ⟨⟨by decide +kernel, by decide +kernel⟩, List.mem_of_getElem? (i := 939) (by decide +kernel), List.mem_of_getElem? (i := 1094) (by decide +kernel), List.mem_of_getElem? (i := 1095) (by decide +kernel)⟩
theorem lw_p52 : lw_okq (⟨"CellEventsModel", "reachedBy", "(III)I"⟩, 13) := ⟨⟨by decide +kernel, by decide +kernel⟩, List.mem_of_getElem? (i := 939) (by decide +kernel), List.mem_of_getElem? (i := 1098) (by decide +kernel), List.mem_of_getElem? (i := 1099) (by decide +kernel)⟩
theorem lw_p53 : lw_okq (⟨"CellEventsModel", "reaches", "(IIII)Z"⟩, 13) := ⟨⟨by decide +kernel, by decide +kernel⟩, List.mem_of_getElem? (i := 939) (by decide +kernel), List.mem_of_getElem? (i := 1102) (by decide +kernel), List.mem_of_getElem? (i := 1103) (by decide +kernel)⟩
theorem lw_p54 : lw_okq (⟨"CellEventsModel", "leafAt", "(II)I"⟩, 13) := ⟨⟨by decide +kernel, by decide +kernel⟩, List.mem_of_getElem? (i := 939) (by decide +kernel), List.mem_of_getElem? (i := 1106) (by decide +kernel), List.mem_of_getElem? (i := 1107) (by decide +kernel)⟩
theorem lw_p55 : lw_okq (⟨"CellEventsModel", "stayAt", "(III)I"⟩, 13) := ⟨⟨by decide +kernel, by decide +kernel⟩, List.mem_of_getElem? (i := 939) (by decide +kernel), List.mem_of_getElem? (i := 1110) (by decide +kernel), List.mem_of_getElem? (i := 1111) (by decide +kernel)⟩
theorem lw_p56 : lw_okq (⟨"CellEventsModel", "arrives", "(II)V"⟩, 13) := ⟨⟨by decide +kernel, by decide +kernel⟩, List.mem_of_getElem? (i := 939) (by decide +kernel), List.mem_of_getElem? (i := 1120) (by decide +kernel), List.mem_of_getElem? (i := 1121) (by decide +kernel)⟩
theorem lw_p57 : lw_okq (⟨"CellEventsModel", "passes", "(I)I"⟩, 13) := ⟨⟨by decide +kernel, by decide +kernel⟩, List.mem_of_getElem? (i := 939) (by decide +kernel), List.mem_of_getElem? (i := 1128) (by decide +kernel), List.mem_of_getElem? (i := 1129) (by decide +kernel)⟩
theorem lw_p58 : lw_okq (⟨"CellEventsModel", "ticks", "()I"⟩, 13) := ⟨⟨by decide +kernel, by decide +kernel⟩, List.mem_of_getElem? (i := 939) (by decide +kernel), List.mem_of_getElem? (i := 1132) (by decide +kernel), List.mem_of_getElem? (i := 1133) (by decide +kernel)⟩
theorem lw_p59 : lw_okq (⟨"CellEventsModel", "mayChange", "(I)Z"⟩, 13) := ⟨⟨by decide +kernel, by decide +kernel⟩, List.mem_of_getElem? (i := 939) (by decide +kernel), List.mem_of_getElem? (i := 1136) (by decide +kernel), List.mem_of_getElem? (i := 1137) (by decide +kernel)⟩
theorem lw_p60 : lw_okq (⟨"CellEventsModel", "dwellOf", "(I)I"⟩, 13) := ⟨⟨by decide +kernel, by decide +kernel⟩, List.mem_of_getElem? (i := 939) (by decide +kernel), List.mem_of_getElem? (i := 1140) (by decide +kernel), List.mem_of_getElem? (i := 1141) (by decide +kernel)⟩
theorem lw_p61 : lw_okq (⟨"CellEventsModel", "delivers", "(I)V"⟩, 13) := ⟨⟨by decide +kernel, by decide +kernel⟩, List.mem_of_getElem? (i := 939) (by decide +kernel), List.mem_of_getElem? (i := 1144) (by decide +kernel), List.mem_of_getElem? (i := 1145) (by decide +kernel)⟩
theorem lw_p62 : lw_okq (⟨"CellEventsModel", "told", "(II)I"⟩, 13) := ⟨⟨by decide +kernel, by decide +kernel⟩, List.mem_of_getElem? (i := 939) (by decide +kernel), List.mem_of_getElem? (i := 1152) (by decide +kernel), List.mem_of_getElem? (i := 1153) (by decide +kernel)⟩
theorem lw_p63 : lw_okq (⟨"CellEventsModel", "routedTo", "(I)I"⟩, 13) := ⟨⟨by decide +kernel, by decide +kernel⟩, List.mem_of_getElem? (i := 939) (by decide +kernel), List.mem_of_getElem? (i := 1156) (by decide +kernel), List.mem_of_getElem? (i := 1157) (by decide +kernel)⟩
def lw_privs_4 : List (MethodName × Nat) := [(⟨"CellEventsModel", "sets", "(II)I"⟩, 13), (⟨"CellEventsModel", "setting", "(I)I"⟩, 13), (⟨"CellEventsModel", "publishes", "(III)I"⟩, 13), (⟨"CellEventsModel", "isTooLate", "(I)Z"⟩, 13), (⟨"CellEventsModel", "reachedBy", "(III)I"⟩, 13), (⟨"CellEventsModel", "reaches", "(IIII)Z"⟩, 13), (⟨"CellEventsModel", "leafAt", "(II)I"⟩, 13), (⟨"CellEventsModel", "stayAt", "(III)I"⟩, 13), (⟨"CellEventsModel", "arrives", "(II)V"⟩, 13), (⟨"CellEventsModel", "passes", "(I)I"⟩, 13), (⟨"CellEventsModel", "ticks", "()I"⟩, 13), (⟨"CellEventsModel", "mayChange", "(I)Z"⟩, 13), (⟨"CellEventsModel", "dwellOf", "(I)I"⟩, 13), (⟨"CellEventsModel", "delivers", "(I)V"⟩, 13), (⟨"CellEventsModel", "told", "(II)I"⟩, 13), (⟨"CellEventsModel", "routedTo", "(I)I"⟩, 13)]
theorem lw_r4 : ∀ q ∈ lw_privs_4, lw_okq q := List.forall_mem_cons.mpr ⟨lw_p48, List.forall_mem_cons.mpr ⟨lw_p49, List.forall_mem_cons.mpr ⟨lw_p50, List.forall_mem_cons.mpr ⟨lw_p51, List.forall_mem_cons.mpr ⟨lw_p52, List.forall_mem_cons.mpr ⟨lw_p53, List.forall_mem_cons.mpr ⟨lw_p54, List.forall_mem_cons.mpr ⟨lw_p55, List.forall_mem_cons.mpr ⟨lw_p56, List.forall_mem_cons.mpr ⟨lw_p57, List.forall_mem_cons.mpr ⟨lw_p58, List.forall_mem_cons.mpr ⟨lw_p59, List.forall_mem_cons.mpr ⟨lw_p60, List.forall_mem_cons.mpr ⟨lw_p61, List.forall_mem_cons.mpr ⟨lw_p62, List.forall_mem_cons.mpr ⟨lw_p63, fun _ h => absurd h List.not_mem_nil⟩⟩⟩⟩⟩⟩⟩⟩⟩⟩⟩⟩⟩⟩⟩⟩
theorem lw_p64 : lw_okq (⟨"CellEventsModel", "ofEvent", "(II)I"⟩, 13) := ⟨⟨by decide +kernel, by decide +kernel⟩, List.mem_of_getElem? (i := 939) (by decide +kernel), List.mem_of_getElem? (i := 1160) (by decide +kernel), List.mem_of_getElem? (i := 1161) (by decide +kernel)⟩
theorem lw_p65 : lw_okq (⟨"CellEventsModel", "eventTold", "(II)I"⟩, 13) := ⟨⟨by decide +kernel, by decide +kernel⟩, List.mem_of_getElem? (i := 939) (by decide +kernel), List.mem_of_getElem? (i := 1176) (by decide +kernel), List.mem_of_getElem? (i := 1177) (by decide +kernel)⟩
theorem lw_p66 : lw_okq (⟨"CellEventsModel", "inBoxes", "(I)I"⟩, 13) := ⟨⟨by decide +kernel, by decide +kernel⟩, List.mem_of_getElem? (i := 939) (by decide +kernel), List.mem_of_getElem? (i := 1180) (by decide +kernel), List.mem_of_getElem? (i := 1181) (by decide +kernel)⟩
theorem lw_p67 : lw_okq (⟨"CellEventsModel", "leafTold", "(II)I"⟩, 13) := ⟨⟨by decide +kernel, by decide +kernel⟩, List.mem_of_getElem? (i := 939) (by decide +kernel), List.mem_of_getElem? (i := 1188) (by decide +kernel), List.mem_of_getElem? (i := 1189) (by decide +kernel)⟩
theorem lw_p68 : lw_okq (⟨"CellEventsModel", "wholeTold", "(I)I"⟩, 13) := ⟨⟨by decide +kernel, by decide +kernel⟩, List.mem_of_getElem? (i := 939) (by decide +kernel), List.mem_of_getElem? (i := 1196) (by decide +kernel), List.mem_of_getElem? (i := 1197) (by decide +kernel)⟩
theorem lw_p69 : lw_okq (⟨"CellEventsModel", "sumOf", "(I)I"⟩, 13) := ⟨⟨by decide +kernel, by decide +kernel⟩, List.mem_of_getElem? (i := 939) (by decide +kernel), List.mem_of_getElem? (i := 1200) (by decide +kernel), List.mem_of_getElem? (i := 1201) (by decide +kernel)⟩
theorem lw_p70 : lw_okq (⟨"CellEventsModel", "why", "(III)I"⟩, 13) := ⟨⟨by decide +kernel, by decide +kernel⟩, List.mem_of_getElem? (i := 939) (by decide +kernel), List.mem_of_getElem? (i := 1212) (by decide +kernel), List.mem_of_getElem? (i := 1213) (by decide +kernel)⟩
theorem lw_p71 : lw_okq (⟨"CellEventsModel", "changesIn", "(I)I"⟩, 13) := ⟨⟨by decide +kernel, by decide +kernel⟩, List.mem_of_getElem? (i := 939) (by decide +kernel), List.mem_of_getElem? (i := 1220) (by decide +kernel), List.mem_of_getElem? (i := 1221) (by decide +kernel)⟩
theorem lw_p72 : lw_okq (⟨"CellEventsModel", "coveredBy", "(I)I"⟩, 13) := ⟨⟨by decide +kernel, by decide +kernel⟩, List.mem_of_getElem? (i := 939) (by decide +kernel), List.mem_of_getElem? (i := 1232) (by decide +kernel), List.mem_of_getElem? (i := 1233) (by decide +kernel)⟩
theorem lw_p73 : lw_okq (⟨"CellEventsModel", "busiestLeaf", "()I"⟩, 13) := ⟨⟨by decide +kernel, by decide +kernel⟩, List.mem_of_getElem? (i := 939) (by decide +kernel), List.mem_of_getElem? (i := 1240) (by decide +kernel), List.mem_of_getElem? (i := 1241) (by decide +kernel)⟩
theorem lw_p74 : lw_okq (⟨"CellEventsModel", "skips", "()V"⟩, 13) := ⟨⟨by decide +kernel, by decide +kernel⟩, List.mem_of_getElem? (i := 939) (by decide +kernel), List.mem_of_getElem? (i := 1256) (by decide +kernel), List.mem_of_getElem? (i := 1257) (by decide +kernel)⟩
theorem lw_p75 : lw_okq (⟨"CellEventsModel", "isAt", "(II)Z"⟩, 13) := ⟨⟨by decide +kernel, by decide +kernel⟩, List.mem_of_getElem? (i := 939) (by decide +kernel), List.mem_of_getElem? (i := 1260) (by decide +kernel), List.mem_of_getElem? (i := 1261) (by decide +kernel)⟩
theorem lw_p76 : lw_okq (⟨"CellEventsModel", "takesCommand", "()Z"⟩, 13) := ⟨⟨by decide +kernel, by decide +kernel⟩, List.mem_of_getElem? (i := 939) (by decide +kernel), List.mem_of_getElem? (i := 1264) (by decide +kernel), List.mem_of_getElem? (i := 1265) (by decide +kernel)⟩
theorem lw_p77 : lw_okq (⟨"CellEventsModel", "takesNumber", "(I)Z"⟩, 13) := ⟨⟨by decide +kernel, by decide +kernel⟩, List.mem_of_getElem? (i := 939) (by decide +kernel), List.mem_of_getElem? (i := 1272) (by decide +kernel), List.mem_of_getElem? (i := 1273) (by decide +kernel)⟩
theorem lw_p78 : lw_okq (⟨"CellEventsModel", "carriesOut", "()I"⟩, 13) := ⟨⟨by decide +kernel, by decide +kernel⟩, List.mem_of_getElem? (i := 939) (by decide +kernel), List.mem_of_getElem? (i := 1276) (by decide +kernel), List.mem_of_getElem? (i := 1277) (by decide +kernel)⟩
theorem lw_p79 : lw_okq (⟨"CellEventsModel", "mix", "(I)V"⟩, 13) := ⟨⟨by decide +kernel, by decide +kernel⟩, List.mem_of_getElem? (i := 939) (by decide +kernel), List.mem_of_getElem? (i := 1289) (by decide +kernel), List.mem_of_getElem? (i := 1290) (by decide +kernel)⟩
def lw_privs_5 : List (MethodName × Nat) := [(⟨"CellEventsModel", "ofEvent", "(II)I"⟩, 13), (⟨"CellEventsModel", "eventTold", "(II)I"⟩, 13), (⟨"CellEventsModel", "inBoxes", "(I)I"⟩, 13), (⟨"CellEventsModel", "leafTold", "(II)I"⟩, 13), (⟨"CellEventsModel", "wholeTold", "(I)I"⟩, 13), (⟨"CellEventsModel", "sumOf", "(I)I"⟩, 13), (⟨"CellEventsModel", "why", "(III)I"⟩, 13), (⟨"CellEventsModel", "changesIn", "(I)I"⟩, 13), (⟨"CellEventsModel", "coveredBy", "(I)I"⟩, 13), (⟨"CellEventsModel", "busiestLeaf", "()I"⟩, 13), (⟨"CellEventsModel", "skips", "()V"⟩, 13), (⟨"CellEventsModel", "isAt", "(II)Z"⟩, 13), (⟨"CellEventsModel", "takesCommand", "()Z"⟩, 13), (⟨"CellEventsModel", "takesNumber", "(I)Z"⟩, 13), (⟨"CellEventsModel", "carriesOut", "()I"⟩, 13), (⟨"CellEventsModel", "mix", "(I)V"⟩, 13)]
theorem lw_r5 : ∀ q ∈ lw_privs_5, lw_okq q := List.forall_mem_cons.mpr ⟨lw_p64, List.forall_mem_cons.mpr ⟨lw_p65, List.forall_mem_cons.mpr ⟨lw_p66, List.forall_mem_cons.mpr ⟨lw_p67, List.forall_mem_cons.mpr ⟨lw_p68, List.forall_mem_cons.mpr ⟨lw_p69, List.forall_mem_cons.mpr ⟨lw_p70, List.forall_mem_cons.mpr ⟨lw_p71, List.forall_mem_cons.mpr ⟨lw_p72, List.forall_mem_cons.mpr ⟨lw_p73, List.forall_mem_cons.mpr ⟨lw_p74, List.forall_mem_cons.mpr ⟨lw_p75, List.forall_mem_cons.mpr ⟨lw_p76, List.forall_mem_cons.mpr ⟨lw_p77, List.forall_mem_cons.mpr ⟨lw_p78, List.forall_mem_cons.mpr ⟨lw_p79, fun _ h => absurd h List.not_mem_nil⟩⟩⟩⟩⟩⟩⟩⟩⟩⟩⟩⟩⟩⟩⟩⟩
theorem lw_p80 : lw_okq (⟨"CellEventsModel", "mixOne", "(I)V"⟩, 13) := ⟨⟨by decide +kernel, by decide +kernel⟩, List.mem_of_getElem? (i := 939) (by decide +kernel), List.mem_of_getElem? (i := 1294) (by decide +kernel), List.mem_of_getElem? (i := 1295) (by decide +kernel)⟩
def lw_privs_6 : List (MethodName × Nat) := [(⟨"CellEventsModel", "mixOne", "(I)V"⟩, 13)]
theorem lw_r6 : ∀ q ∈ lw_privs_6, lw_okq q := List.forall_mem_cons.mpr ⟨lw_p80, fun _ h => absurd h List.not_mem_nil⟩
def lw_privs : List (MethodName × Nat) := lw_privs_1 ++ (lw_privs_2 ++ (lw_privs_3 ++ (lw_privs_4 ++ (lw_privs_5 ++ (lw_privs_6)))))
def lw_tbl : List Cond := k2_sels lw_privs ++ tables_1
theorem lw_privs_ok : ∀ q ∈ lw_privs, lw_okq q := by
  show ∀ q ∈ lw_privs_1 ++ (lw_privs_2 ++ (lw_privs_3 ++ (lw_privs_4 ++ (lw_privs_5 ++ (lw_privs_6))))), lw_okq q
  exact List.forall_mem_append.mpr ⟨lw_r1, List.forall_mem_append.mpr ⟨lw_r2, List.forall_mem_append.mpr ⟨lw_r3, List.forall_mem_append.mpr ⟨lw_r4, List.forall_mem_append.mpr ⟨lw_r5, lw_r6⟩⟩⟩⟩⟩
-- ===== end of PART A; then your names; then what follows =====
end
section
/-! ===== BEGIN words of one list among another's, by their places ===== -/
theorem goodIn_r {big : List Cond} (ws : List Cond) (ps : List Nat) (hp : ws = ps.filterMap (fun i => big[i]?)) (h : ws.all goodWord = true) : GoodIn big ws := by
  intro w hw
  have h1 := List.all_eq_true.mp h w hw
  rw [hp] at hw
  obtain ⟨i, -, hi⟩ := List.mem_filterMap.mp hw
  have hm : w ∈ big := by first | exact List.mem_of_getElem? hi | exact List.getElem?_mem hi
  exact ⟨hm, good_of_word h1⟩
theorem goodIn_app {big a b : List Cond} (ha : GoodIn big a) (hb : GoodIn big b) : GoodIn big (a ++ b) := fun w h => (List.mem_append.mp h).elim (ha w) (hb w)
theorem goodIn_ca {big a b : List Cond} {c : Cond} (ha : GoodIn big (c :: a)) (hb : GoodIn big b) : GoodIn big (c :: (a ++ b)) := fun w h => (List.mem_cons.mp h).elim (fun e => ha w (List.mem_cons.mpr (Or.inl e))) (fun h => (List.mem_append.mp h).elim (fun h => ha w (List.mem_cons.mpr (Or.inr h))) (hb w))
theorem goodIn_sub {big ws : List Cond} (hm : ∀ w ∈ ws, w ∈ big) (h : ws.all goodWord = true) : GoodIn big ws := fun w hw => ⟨hm w hw, good_of_word (List.all_eq_true.mp h w hw)⟩
/-! ===== END ===== -/

/-! ===== BEGIN exceptions that leave a method, and their catching by the caller (launches without stack traces) ===== -/
section VXA
/-! The laws vx_back, vx_callV, vx_callS, vx_callSW, vx_throw0, vx_throwS follow proofs of the library, with one case more: JvmDerived/Free/Laws.lean (Back.of_free), Shelf42/LK1.lean (callV, callS), Shelf/KitTraced.lean (throwNew0V, throwNewS). -/
/-- where a method has thrown q: the class by its name, the cell, what was written, the world -/
def vx_T (XC : String → State → State → Prop) (st : State) (q : Addr) (t : State) (mc ms : Nat) (free : Addr → Prop) : Prop :=
  ∃ (E : String) (ce : Cell) (L : List Loc), XC E st t ∧ t.heap[q]? = some ce ∧ ce.vm = .none ∧ st.vm.findClass E = some ce.cls ∧ st.WarmedH t.vm ∧ st.sameButNew ({ t with vm := st.vm } : State) L mc ms ∧ ∀ z ∈ L, free z.base
def vx_Q (Qc : Array Value → State → Outcome → State → Prop) (XC : String → State → State → Prop) (mc ms : Nat) (free : Addr → Prop) : Array Value → State → Outcome → State → Prop := fun a st o t =>
  (Qc a st o t ∧ ∃ L, FrameEnd st o t L mc ms ∧ ∀ q ∈ L, free q.base) ∨ ∃ q, o = .threw q ∧ vx_T XC st q t mc ms free
/-- a callee that returns or throws -/
def vx_Met (l : Launch) (y : MethodName) (ws : List Cond) (rm : Room) (Pc : Array Value → State → Prop) (Qc : Array Value → State → Outcome → State → Prop) (XC : String → State → State → Prop) (mc ms : Nat) (free : Addr → Prop) : Prop :=
  MetFree l y (headSpec ws rm) Pc (fun _ _ _ _ _ => True) (vx_Q Qc XC mc ms free)
def vx_Post (XC : String → State → State → Prop) (mc ms : Nat) (free : Addr → Prop) : Pt → Array Value → Addr → Pt → Prop := fun A a q B =>
  ∃ (g : JFrame) (mk : MethodId) (t : State) (L : List Loc) (E : String) (ce : Cell), B.U.heap = t.heap ∧ B.U.vm = t.vm ∧ XC E (A.U.calling g mk a) t ∧ t.heap[q]? = some ce ∧ ce.vm = .none ∧ A.U.vm.findClass E = some ce.cls ∧ B.locs = A.locs ++ L ∧ (∀ z ∈ L, free z.base) ∧ B.cells = A.cells + mc ∧ B.slots = A.slots + ms
def vx_Back (l : Launch) (R : Room) (p : Program) (e : Env) (below : List Frame) (s : State) (sargs : Array Value) (y : MethodName) (len W9 : Nat)
    (Pre : Pt → Array Value → Prop) (Post : Pt → Array Value → Option Value → Pt → Prop) (PostX : Pt → Array Value → Addr → Pt → Prop) : Prop :=
  ∀ (m : MethodId) (meth : Method) (c : Code) (A : Pt) (g : JFrame) (ig : Instr) (mk : MethodId) (a : Array Value),
    Stand p l e R s m sargs below meth c A.U A.locs A.cells A.slots → g.method = m → g.locals.size = c.maxLocals → decode c.code g.pc = .ok (ig, len) →
    2 * g.monitorRoom + (g.stack.map fun v => v.category).sum ≤ W9 → A.U.methodNamed? y = some mk → Pre A a →
    (∃ (v : Option Value) (B : Pt), Stand p l e R s m sargs below meth c B.U B.locs B.cells B.slots ∧ Post A a v B ∧
      Steps p.tables e below (doInvoke e (A.U.setTop g) [] mk a).1 (B.U.setTop { g with pc := g.pc + len, stack := v.toList ++ g.stack })) ∨
    (∃ (q : Addr) (B : Pt), Stand p l e R s m sargs below meth c B.U B.locs B.cells B.slots ∧ PostX A a q B ∧
      Steps p.tables e below (doInvoke e (A.U.setTop g) [] mk a).1 ((B.U.setTop g).pushFrame (.throwing q)))
section Payer
variable {l : Launch} {R : Room} {p : Program} {e : Env} {below : List Frame} {s : State} {sargs : Array Value} {y : MethodName} {len W9 : Nat}
theorem vx_back {ws : List Cond} {rm : Room} {Pc : Array Value → State → Prop} {Qc : Array Value → State → Outcome → State → Prop} {XC : String → State → State → Prop} {mc ms : Nat} {free : Addr → Prop} {bytes : ByteArray} {maxL : Nat} {ret : Option FieldType}
    (hM : vx_Met l y ws rm Pc Qc XC mc ms free) (hblind : FrameBlind Pc) (hrc : rm.cells = mc) (hrs : rm.slots = ms)
    (hframes : rm.frames + 1 ≤ R.frames) (hlocals : W9 + (maxL + 11) + rm.locals ≤ R.locals)
    (hws : ∀ w ∈ ws, ∀ a' U, s.WarmedH U.vm → w.before a' U = true) (hcode : Cond.code y bytes maxL ret ∈ ws) (hinit : ∀ a' U, s.WarmedH U.vm → (Cond.initialized y.cls).before a' U = true) :
    vx_Back l R p e below s sargs y len W9 (PreOf R mc ms Pc) (PostOf Qc mc ms free) (vx_Post XC mc ms free) := by
  intro m meth c A g ig mk a X hg hsize hdg hW hn hp
  have h1 : (headSpec ws rm).pre.before a A.U = true := atoms_intro fun w hw => hws w hw _ _ X.warmed
  have h2 : (Cond.code y bytes maxL ret).before a A.U = true := hws _ hcode _ _ X.warmed
  have h3 : (Cond.initialized y.cls).before a A.U = true := hinit _ _ X.warmed
  have h4 : A.cells + (headSpec ws rm).room.cells ≤ R.cells := by rw [show (headSpec ws rm).room.cells = mc from hrc]; exact hp.1
  have h5 : A.slots + (headSpec ws rm).room.slots ≤ R.slots := by rw [show (headSpec ws rm).room.slots = ms from hrs]; exact hp.2.1
  have hPc : Pc a (A.U.calling g mk a) := hblind _ _ _ _ hp.2.2
  obtain ⟨U, Ls, c0, s0⟩ := A
  dsimp only [Pt.U, Pt.locs, Pt.cells, Pt.slots] at h1 h2 h3 h4 h5 X hn hPc ⊢
  obtain ⟨methY, cY, hmY, hcY, -, hlY, -, -, -, -⟩ := Cond.code_spec hn h2
  obtain ⟨kY, hkY, -⟩ := className_of_methodNamed hn
  have hinitY : kY.init = .initialized := Cond.initialized_spec (findClass_of_methodNamed hn) hkY h3
  have h : At U g.method c below := by rw [hg]; exact X.here
  have hlocals9 : W9 + (maxL + 11) + (headSpec ws rm).room.locals ≤ R.locals := hlocals
  have happ : (headSpec ws rm).appliesLoose y e.platform (U.calling g mk a) = true :=
    Spec.appliesLoose_calling (g := g) h hdg hn hkY hinitY
      (X.room_calling (g := g) (R' := (headSpec ws rm).room) hsize hmY hcY hframes (by rw [hlY]; omega) h4 h5) h1
  obtain ⟨mid, hmid⟩ := h.above
  have hfr : (U.setTop g).frames = (.java g :: mid) ++ below := by rw [State.frames_setTop' g h.top, hmid]; rfl
  obtain ⟨o, s₂, hsteps, -, hend, hq⟩ := Steps.callFree hM p X.admits X.cas X.clock (acts := []) hfr happ hPc trivial
  have hq' : vx_Q Qc XC mc ms free a (U.calling g mk a) o s₂ := hq
  rw [State.frames_setTop' g h.top] at hend
  obtain ⟨g₀, hg0⟩ := Option.isSome_iff_exists.mp h.top
  obtain ⟨r, hr⟩ := State.topJava?_eq_some.mp hg0
  have hr' : (({ U with heap := s₂.heap, slotsUsed := s₂.slotsUsed } : State).setVm s₂.vm).frames = .java g₀ :: r := hr
  rcases hq' with ⟨hqc, L, hfe, hL⟩ | ⟨q, rfl, E, ce, L, hx, hce, hcv, hcl, hW₂, hsm, hL⟩
  · obtain ⟨⟨v, rfl⟩, hW₂, e2, q2, q3, q4, q5, q6⟩ := id hfe
    have e3 : s₂ = ({ (U.calling g mk a).setFrames s₂.frames with heap := s₂.heap, slotsUsed := s₂.slotsUsed } : State).setVm s₂.vm := by
      have : s₂ = ({ s₂ with vm := (U.calling g mk a).vm } : State).setVm s₂.vm := rfl
      rw [e2] at this
      exact this
    obtain ⟨c₂, i₂, len₂, hc₂, hd₂, hf₂⟩ := hend
    have hW' : U.WarmedH s₂.vm := hW₂
    have hcc : c₂ = c := by
      have h1 : s₂.code? g.method = U.code? g.method := by
        rw [State.code?_eq, State.code?_eq, hW'.alike.method?]
      exact Option.some.inj (hc₂.symm.trans (h1.trans h.code))
    subst hcc
    have hlen : len₂ = len := by rw [hdg] at hd₂; cases hd₂; rfl
    subst hlen
    have hs₂ : s₂ = (({ U with heap := s₂.heap, slotsUsed := s₂.slotsUsed } : State).setVm s₂.vm).setTop { g with pc := g.pc + len₂, stack := v.toList ++ g.stack } := by
      refine e3.trans ?_
      rw [hf₂, State.calling_eq h.top, State.setFrames_setFrames, State.setTop_of_frames _ hr', hr]
      rfl
    have hsame : U.sameButNew ({ U with heap := s₂.heap, slotsUsed := s₂.slotsUsed } : State) L mc ms := by
      refine ⟨?_, q2, q3, q4, q5, q6⟩
      obtain ⟨t, ht, -⟩ := State.frames_cons hr
      show ({ U with heap := s₂.heap, slotsUsed := s₂.slotsUsed } : State) = { U.setFrames U.frames with heap := s₂.heap, slotsUsed := s₂.slotsUsed }
      rw [State.setFrames_self ht]
    subst hg
    refine Or.inl ⟨v, ⟨(({ U with heap := s₂.heap, slotsUsed := s₂.slotsUsed } : State).setVm s₂.vm), Ls ++ L, c0 + mc, s0 + ms⟩,
      ⟨X.admits, X.cas, X.clock, X.frames, X.room, X.hears, X.method, X.code, (X.here.setHeapUsed s₂.heap s₂.slotsUsed).setVm hW'.alike, X.tail, State.WarmedH.trans X.warmed hW', X.limits, X.bytes, X.same.trans (hsame.setVm s.vm)⟩,
      ⟨g, mk, s₂, L, rfl, rfl, hqc, rfl, hL, rfl, rfl⟩, ?_⟩
    show Steps p.tables e below _ ((({ U with heap := s₂.heap, slotsUsed := s₂.slotsUsed } : State).setVm s₂.vm).setTop { g with pc := g.pc + len₂, stack := v.toList ++ g.stack })
    rw [← hs₂]
    exact hsteps
  · obtain ⟨e2, q2, q3, q4, q5, q6⟩ := id hsm
    have e3 : s₂ = ({ (U.calling g mk a).setFrames s₂.frames with heap := s₂.heap, slotsUsed := s₂.slotsUsed } : State).setVm s₂.vm := by
      have : s₂ = ({ s₂ with vm := (U.calling g mk a).vm } : State).setVm s₂.vm := rfl
      rw [e2] at this
      exact this
    have hf₂ : s₂.frames = .throwing q :: .java g :: U.frames.tail := hend
    have hW' : U.WarmedH s₂.vm := hW₂
    have hs₂ : s₂ = ((({ U with heap := s₂.heap, slotsUsed := s₂.slotsUsed } : State).setVm s₂.vm).setTop g).pushFrame (.throwing q) := by
      refine e3.trans ?_
      rw [hf₂, State.calling_eq h.top, State.setFrames_setFrames, State.pushFrame, State.frames_setTop _ hr', State.setTop_of_frames _ hr', State.setFrames_setFrames, hr]
      rfl
    have hsame : U.sameButNew ({ U with heap := s₂.heap, slotsUsed := s₂.slotsUsed } : State) L mc ms := by
      refine ⟨?_, q2, q3, q4, q5, q6⟩
      obtain ⟨t, ht, -⟩ := State.frames_cons hr
      show ({ U with heap := s₂.heap, slotsUsed := s₂.slotsUsed } : State) = { U.setFrames U.frames with heap := s₂.heap, slotsUsed := s₂.slotsUsed }
      rw [State.setFrames_self ht]
    subst hg
    refine Or.inr ⟨q, ⟨(({ U with heap := s₂.heap, slotsUsed := s₂.slotsUsed } : State).setVm s₂.vm), Ls ++ L, c0 + mc, s0 + ms⟩,
      ⟨X.admits, X.cas, X.clock, X.frames, X.room, X.hears, X.method, X.code, (X.here.setHeapUsed s₂.heap s₂.slotsUsed).setVm hW'.alike, X.tail, State.WarmedH.trans X.warmed hW', X.limits, X.bytes, X.same.trans (hsame.setVm s.vm)⟩,
      ⟨g, mk, s₂, L, E, ce, rfl, rfl, hx, hce, hcv, hcl, rfl, hL, rfl, rfl⟩, ?_⟩
    show Steps p.tables e below _ (((({ U with heap := s₂.heap, slotsUsed := s₂.slotsUsed } : State).setVm s₂.vm).setTop g).pushFrame (.throwing q))
    rw [← hs₂]
    exact hsteps
end Payer
section Calls
variable {p : Program} {l : Launch} {e : Env} {R : Room} {s : State} {m : MethodId} {args : Array Value} {below : List Frame} {meth : Method} {c : Code} {T : State} {locs : List Loc} {cells slots : Nat}
theorem vx_callV (X : Stand p l e R s m args below meth c T locs cells slots) (hexec : p.tables.exec = Jvm.exec) {own C : String} {index : Nat} {y : MethodName} {bytes : ByteArray} {maxL : Nat} {ret : Option FieldType}
    (hown : s.vm.findClass own = some m.cls) (hlink : (Cond.methodLink own index y).before args s = true) (hinst : (Cond.instanceMethod y).before args s = true) (hsel : (Cond.selects C y y).before args s = true)
    (hcode : (Cond.code y bytes maxL ret).before args s = true) (hy : y.cls ≠ "java/lang/invoke/MethodHandle" ∧ y.cls ≠ "java/lang/invoke/VarHandle")
    {W9 : Nat} {Pre : Pt → Array Value → Prop} {Post : Pt → Array Value → Option Value → Pt → Prop} {PostX : Pt → Array Value → Addr → Pt → Prop} (hK : vx_Back l R p e below s args y 3 W9 Pre Post PostX)
    {b : Addr} {cellB : Cell} (hcell : T.heap[b]? = some cellB) (hobj : cellB.vm.isStatics = false) (hcls : s.vm.findClass C = some cellB.cls)
    {g : JFrame} (hg : g.method = m) (hsize : g.locals.size = c.maxLocals) {argsL rest : List Value} (hlen : ∀ sig, parseMethodDescriptor y.desc = some sig → argsL.length = sig.parameters.length)
    (hstack : g.stack = argsL.reverse ++ .ref b :: rest) (hW : 2 * g.monitorRoom + (rest.map fun v => v.category).sum ≤ W9) (hdg : decode c.code g.pc = .ok (.invokevirtual index, 3))
    (hpre : ∀ vm₁, s.WarmedH vm₁ → Pre ⟨T.setVm vm₁, locs, cells, slots⟩ (Value.ref b :: argsL).toArray) :
    (∃ (v : Option Value) (vm₁ : Vm) (B : Pt), s.WarmedH vm₁ ∧ Stand p l e R s m args below meth c B.U B.locs B.cells B.slots ∧ Post ⟨T.setVm vm₁, locs, cells, slots⟩ (Value.ref b :: argsL).toArray v B ∧
      ∀ target, Steps p.tables e below (B.U.setTop { g with pc := g.pc + 3, stack := v.toList ++ rest }) target → Steps p.tables e below (T.setTop g) target) ∨
    (∃ (q : Addr) (vm₁ : Vm) (B : Pt), s.WarmedH vm₁ ∧ Stand p l e R s m args below meth c B.U B.locs B.cells B.slots ∧ PostX ⟨T.setVm vm₁, locs, cells, slots⟩ (Value.ref b :: argsL).toArray q B ∧
      Steps p.tables e below (T.setTop g) ((B.U.setTop { g with stack := rest }).pushFrame (.throwing q))) := by
  obtain ⟨mk, methM, hnamed, hmethM, hstM, habM⟩ := Cond.instanceMethod_spec hinst
  obtain ⟨methM', cM, hmethM', -, -, -, -, -, -, hsigM⟩ := Cond.code_spec hnamed hcode
  cases hmethM.symm.trans hmethM'
  obtain ⟨c2, r2, m2, q1, q2, q3, q4, kP, hkP, hkPi⟩ := Cond.selects_spec hsel
  cases hcls.symm.trans q1
  cases (State.methodFound?_of_named hnamed hy).symm.trans q2
  cases hnamed.symm.trans q3
  have hselP : selectMethod e.platform s.vm cellB.cls mk = .method mk := by rw [Launch.admits_selectMethod X.admits]; exact q4
  obtain ⟨vm₁, X₁, hstep₁⟩ := X.invokevirtual hexec hown hlink hnamed hmethM hstM hkP hkPi hy (a := b) (cell := cellB) hcell
    (fun z h => by rw [h] at hobj; cases hobj) hselP hmethM habM hkP hkPi (g := g) hg (argsL := argsL) (rest := rest) (hlen _ hsigM) hstack hdg
  rcases hK m meth c ⟨T.setVm vm₁, locs, cells, slots⟩ { g with stack := rest } (.invokevirtual index) mk (Value.ref b :: argsL).toArray X₁ hg hsize hdg hW (X₁.named hnamed) (hpre vm₁ X₁.warmed) with ⟨v, B, X', hpost, hsteps⟩ | ⟨q, B, X', hpost, hsteps⟩
  · exact Or.inl ⟨v, vm₁, B, X₁.warmed, X', hpost, fun target h => hstep₁ _ fun acts => by rw [doInvoke_state]; exact hsteps.trans h⟩
  · exact Or.inr ⟨q, vm₁, B, X₁.warmed, X', hpost, hstep₁ _ fun acts => by rw [doInvoke_state]; exact hsteps⟩
theorem vx_callS (X : Stand p l e R s m args below meth c T locs cells slots) (hexec : p.tables.exec = Jvm.exec) {own : String} {index : Nat} {y : MethodName} {bytes : ByteArray} {maxL : Nat} {ret : Option FieldType}
    (hown : s.vm.findClass own = some m.cls) (hlink : (Cond.methodLink own index y).before args s = true) (hstat : (Cond.static y).before args s = true) (hinit : (Cond.initialized y.cls).before args s = true)
    (hcode : (Cond.code y bytes maxL ret).before args s = true) (hy : y.cls ≠ "java/lang/invoke/MethodHandle" ∧ y.cls ≠ "java/lang/invoke/VarHandle")
    {W9 : Nat} {Pre : Pt → Array Value → Prop} {Post : Pt → Array Value → Option Value → Pt → Prop} {PostX : Pt → Array Value → Addr → Pt → Prop} (hK : vx_Back l R p e below s args y 3 W9 Pre Post PostX)
    {g : JFrame} (hg : g.method = m) (hsize : g.locals.size = c.maxLocals) {argsL rest : List Value} (hlen : ∀ sig, parseMethodDescriptor y.desc = some sig → argsL.length = sig.parameters.length)
    (hstack : g.stack = argsL.reverse ++ rest) (hW : 2 * g.monitorRoom + (rest.map fun v => v.category).sum ≤ W9) (hdg : decode c.code g.pc = .ok (.invokestatic index, 3))
    (hpre : ∀ vm₁, s.WarmedH vm₁ → Pre ⟨T.setVm vm₁, locs, cells, slots⟩ argsL.toArray) :
    (∃ (v : Option Value) (vm₁ : Vm) (B : Pt), s.WarmedH vm₁ ∧ Stand p l e R s m args below meth c B.U B.locs B.cells B.slots ∧ Post ⟨T.setVm vm₁, locs, cells, slots⟩ argsL.toArray v B ∧
      ∀ target, Steps p.tables e below (B.U.setTop { g with pc := g.pc + 3, stack := v.toList ++ rest }) target → Steps p.tables e below (T.setTop g) target) ∨
    (∃ (q : Addr) (vm₁ : Vm) (B : Pt), s.WarmedH vm₁ ∧ Stand p l e R s m args below meth c B.U B.locs B.cells B.slots ∧ PostX ⟨T.setVm vm₁, locs, cells, slots⟩ argsL.toArray q B ∧
      Steps p.tables e below (T.setTop g) ((B.U.setTop { g with stack := rest }).pushFrame (.throwing q))) := by
  obtain ⟨mk, hnamed⟩ := Cond.code_named hcode
  obtain ⟨methM, cM, hmethM, -, -, -, -, -, -, hsigM⟩ := Cond.code_spec hnamed hcode
  have hstatic : methM.isStatic = true := Cond.static_spec hnamed hmethM hstat
  obtain ⟨kP, hkP, -⟩ := className_of_methodNamed hnamed
  have hinitP : kP.init = .initialized := Cond.initialized_spec (findClass_of_methodNamed hnamed) hkP hinit
  obtain ⟨vm₁, X₁, hstep₁⟩ := X.invokestatic hexec hown hlink hnamed hmethM hstatic hkP hinitP hy (g := g) hg (argsL := argsL) (rest := rest) (hlen _ hsigM) hstack hdg
  rcases hK m meth c ⟨T.setVm vm₁, locs, cells, slots⟩ { g with stack := rest } (.invokestatic index) mk argsL.toArray X₁ hg hsize hdg hW (X₁.named hnamed) (hpre vm₁ X₁.warmed) with ⟨v, B, X', hpost, hsteps⟩ | ⟨q, B, X', hpost, hsteps⟩
  · exact Or.inl ⟨v, vm₁, B, X₁.warmed, X', hpost, fun target h => hstep₁ _ fun acts => by rw [doInvoke_state]; exact hsteps.trans h⟩
  · exact Or.inr ⟨q, vm₁, B, X₁.warmed, X', hpost, hstep₁ _ fun acts => by rw [doInvoke_state]; exact hsteps⟩
end Calls
theorem vx_cls {s : State} {T : State} {vm₁ : Vm} {E : String} {k : ClassId} (hW : s.WarmedH vm₁) (h : (T.setVm vm₁).vm.findClass E = some k) : s.vm.findClass E = some k := by
  have h1 : vm₁.findClass E = some k := h
  rw [hW.alike.findClass] at h1
  exact h1
/-- the method's frame g, with q thrown over it -/
def vx_W (p : Program) (l : Launch) (e : Env) (R : Room) (s : State) (m : MethodId) (args : Array Value) (below : List Frame) (meth : Method) (c : Code) (H : Heap) (locs : List Loc) (cells slots : Nat) (Q : State → Prop) (g : JFrame) (q : Addr) : Prop :=
  ∀ T : State, T.heap = H → Stand p l e R s m args below meth c T locs cells slots → ∃ t, Steps p.tables e below ((T.setTop g).pushFrame (.throwing q)) t ∧ Q t
def vx_Run (p : Program) (l : Launch) (e : Env) (R : Room) (s : State) (m : MethodId) (args : Array Value) (below : List Frame) (meth : Method) (c : Code) (H : Heap) (locs : List Loc) (cells slots mc ms : Nat) (g : JFrame) (rest : List Value) (Qa : State → Outcome → State → Prop) (XC : String → State → State → Prop) (free : Addr → Prop) : Prop :=
  ∀ T : State, T.heap = H → Stand p l e R s m args below meth c T locs cells slots →
    (∃ (v : Option Value) (st₀ t T' : State) (L : List Loc), st₀.heap = H ∧ Stand p l e R s m args below meth c T' (locs ++ L) (cells + mc) (slots + ms) ∧ (∀ q ∈ L, free q.base) ∧ T'.heap = t.heap ∧ T'.vm = t.vm ∧ Qa st₀ (.returned v) t ∧
      Goes p e below T g T' { g with pc := g.pc + 3, stack := v.toList ++ rest }) ∨
    (∃ (q : Addr) (st₀ t T' : State) (L : List Loc) (E : String) (ce : Cell), st₀.heap = H ∧ Stand p l e R s m args below meth c T' (locs ++ L) (cells + mc) (slots + ms) ∧ (∀ z ∈ L, free z.base) ∧ T'.heap = t.heap ∧ T'.vm = t.vm ∧ XC E st₀ t ∧ t.heap[q]? = some ce ∧ ce.vm = .none ∧ s.vm.findClass E = some ce.cls ∧
      Steps p.tables e below (T.setTop g) ((T'.setTop { g with stack := rest }).pushFrame (.throwing q)))
def vx_X {S : Type} (px : S → Prop) (B : String → S → State → Prop) (A : Nat → Prop) : String → State → State → Prop := fun E st t => ∃ u : S, px u ∧ B E u t ∧ va_F A st t
section Runs
variable {p : Program} {l : Launch} {e : Env} {R : Room} {s : State} {m : MethodId} {args : Array Value} {below : List Frame} {meth : Method} {c : Code} {H : Heap} {locs : List Loc} {cells slots : Nat}
variable {y : MethodName} {bytes cc : ByteArray} {maxL nL mc ms n index : Nat} {ret : Option FieldType} {ws : List Cond} {rm : Room} {Pc : Array Value → State → Prop} {Qc : Array Value → State → Outcome → State → Prop} {XC : String → State → State → Prop} {free : Addr → Prop} {Ts : List Cond} {own C : String} {b : Addr} {As rest : List Value} {g : JFrame}
theorem vx_callBack (cb : CallB R s args own index y bytes maxL ret ws rm mc ms n) (hM : vx_Met l y ws rm Pc Qc XC mc ms free) (hbl : FrameBlind Pc) : vx_Back l R p e below s args y 3 8 (PreOf R mc ms Pc) (PostOf Qc mc ms free) (vx_Post XC mc ms free) := by
  obtain ⟨hrc, hrs, hfr, hlo, hws, hcw, -, hini, -⟩ := cb
  exact vx_back (bytes := bytes) (maxL := maxL) (ret := ret) hM hbl hrc hrs hfr hlo hws hcw (fun a' U hW => word_at hW (Or.inl (by first | rfl | simp [Cond.onTables, Cond.keeps, Cond.steady])) hini)
theorem vx_runV (S : CallFix p m c cc nL s args Ts own) (hM : vx_Met l y ws rm Pc Qc XC mc ms free) (cw : CallW R s args own C index y bytes maxL ret ws rm mc ms n) (hp : PreV s H C b Pc As)
    (hg : g.method = m) (hn : As.length = n) (hsize : g.locals.size = nL) (hstack : g.stack = As.reverse ++ .ref b :: rest) (hW : 2 * g.monitorRoom + (rest.map fun v => v.category).sum ≤ 8) (hdg : decode cc g.pc = .ok (.invokevirtual index, 3)) (hf : cells + mc ≤ R.cells ∧ slots + ms ≤ R.slots) :
    vx_Run p l e R s m args below meth c H locs cells slots mc ms g rest (Qc (Value.ref b :: As).toArray) XC free := by
  have hK : vx_Back l R p e below s args y 3 8 (PreOf R mc ms Pc) (PostOf Qc mc ms free) (vx_Post XC mc ms free) := vx_callBack cw.1 hM hp.1
  obtain ⟨⟨-, -, -, -, -, -, hcode, -, hy, hlen, hl⟩, hin, hse⟩ := cw
  obtain ⟨hx, hb, hml, ho, -⟩ := S
  obtain ⟨-, ⟨cellB, hcB, hoB, hclB⟩, hPc⟩ := hp
  intro T hT X
  rcases vx_callV X hx (C := C) (bytes := bytes) (maxL := maxL) (ret := ret) ho hl hin hse hcode hy hK (by rw [hT]; exact hcB) hoB hclB hg (hsize.trans hml.symm) (argsL := As) (rest := rest) (fun sig h => hn.trans (hlen sig h)) hstack hW (by rw [hb]; exact hdg)
    (fun vm₁ hW₁ => ⟨hf.1, hf.2, hPc (T.setVm vm₁) hT hW₁⟩) with ⟨v, vm₁, ⟨U', l2, c2, s2⟩, hW₁, X', ⟨g', mk, t, L, e1, e2, hq, h1, hL, h2, h3⟩, st⟩ | ⟨q, vm₁, ⟨U', l2, c2, s2⟩, hW₁, X', ⟨g', mk, t, L, E, ce, e1, e2, hq, hce, hcv, hcl, h1, hL, h2, h3⟩, st⟩
  · dsimp only [Pt.U, Pt.locs, Pt.cells, Pt.slots] at X' e1 e2 h1 h2 h3 st
    subst h1; subst h2; subst h3
    exact Or.inl ⟨v, (T.setVm vm₁).calling g' mk (Value.ref b :: As).toArray, t, U', L, hT, X', hL, e1, e2, hq, st⟩
  · dsimp only [Pt.U, Pt.locs, Pt.cells, Pt.slots] at X' e1 e2 h1 h2 h3 st hcl
    subst h1; subst h2; subst h3
    exact Or.inr ⟨q, (T.setVm vm₁).calling g' mk (Value.ref b :: As).toArray, t, U', L, E, ce, hT, X', hL, e1, e2, hq, hce, hcv, vx_cls hW₁ hcl, st⟩
theorem vx_runS (S : CallFix p m c cc nL s args Ts own) (hM : vx_Met l y ws rm Pc Qc XC mc ms free) (cw : CallB R s args own index y bytes maxL ret ws rm mc ms n ∧ (Cond.static y).before args s = true) (hp : PreS s H Pc As)
    (hg : g.method = m) (hn : As.length = n) (hsize : g.locals.size = nL) (hstack : g.stack = As.reverse ++ rest) (hW : 2 * g.monitorRoom + (rest.map fun v => v.category).sum ≤ 8) (hdg : decode cc g.pc = .ok (.invokestatic index, 3)) (hf : cells + mc ≤ R.cells ∧ slots + ms ≤ R.slots) :
    vx_Run p l e R s m args below meth c H locs cells slots mc ms g rest (Qc As.toArray) XC free := by
  have hK : vx_Back l R p e below s args y 3 8 (PreOf R mc ms Pc) (PostOf Qc mc ms free) (vx_Post XC mc ms free) := vx_callBack cw.1 hM hp.1
  obtain ⟨⟨-, -, -, -, -, -, hcode, hini, hy, hlen, hl⟩, hstt⟩ := cw
  obtain ⟨hx, hb, hml, ho, -⟩ := S
  intro T hT X
  rcases vx_callS X hx (bytes := bytes) (maxL := maxL) (ret := ret) ho hl hstt hini hcode hy hK hg (hsize.trans hml.symm) (argsL := As) (rest := rest) (fun sig h => hn.trans (hlen sig h)) hstack hW (by rw [hb]; exact hdg)
    (fun vm₁ hW₁ => ⟨hf.1, hf.2, hp.2 (T.setVm vm₁) hT hW₁⟩) with ⟨v, vm₁, ⟨U', l2, c2, s2⟩, hW₁, X', ⟨g', mk, t, L, e1, e2, hq, h1, hL, h2, h3⟩, st⟩ | ⟨q, vm₁, ⟨U', l2, c2, s2⟩, hW₁, X', ⟨g', mk, t, L, E, ce, e1, e2, hq, hce, hcv, hcl, h1, hL, h2, h3⟩, st⟩
  · dsimp only [Pt.U, Pt.locs, Pt.cells, Pt.slots] at X' e1 e2 h1 h2 h3 st
    subst h1; subst h2; subst h3
    exact Or.inl ⟨v, (T.setVm vm₁).calling g' mk As.toArray, t, U', L, hT, X', hL, e1, e2, hq, st⟩
  · dsimp only [Pt.U, Pt.locs, Pt.cells, Pt.slots] at X' e1 e2 h1 h2 h3 st hcl
    subst h1; subst h2; subst h3
    exact Or.inr ⟨q, (T.setVm vm₁).calling g' mk As.toArray, t, U', L, E, ce, hT, X', hL, e1, e2, hq, hce, hcv, vx_cls hW₁ hcl, st⟩
end Runs
section Rows
variable {p : Program} {l : Launch} {e : Env} {R : Room} {s : State} {m : MethodId} {args : Array Value} {below : List Frame} {meth : Method} {c : Code} {H : Heap} {locs : List Loc} {cells slots : Nat} {Q : State → Prop}
variable {mc ms : Nat} {free : Addr → Prop} {A0 A1 : Nat → Prop} {H0 : Heap} {a : Array Value} {pc : Nat} {ls : Array Slot} {st0 rest : List Value}
theorem vx_keep {st₀ t T' : State} {L : List Loc} (h0 : st₀.heap = H) (e1 : T'.heap = t.heap) (hS : va_S A0 H0 H locs) (hA : ∀ q, q < H.size → A1 q → A0 q) (hf : ∀ q, free q → A0 q) (hL : ∀ q ∈ L, free q.base) (hF : va_F A1 st₀ t) :
    H.size ≤ T'.heap.size ∧ (∀ q : Nat, q < H.size → ¬ A1 q → T'.heap[q]? = H[q]?) ∧ va_S A0 H0 T'.heap (locs ++ L) := by
  obtain ⟨hz, hk⟩ := hF
  rw [h0] at hz hk
  exact ⟨by rw [e1]; exact hz, fun q h1 h2 => by rw [e1]; exact hk q h1 h2,
    ⟨Nat.le_trans hS.1 (by rw [e1]; exact hz), fun q h1 h2 => by rw [e1, hk q (Nat.lt_of_lt_of_le h1 hS.1) (fun z => h2 (hA q (Nat.lt_of_lt_of_le h1 hS.1) z))]; exact hS.2.1 q h1 h2, fun q hq => by
      rcases List.mem_append.mp hq with h | h
      · exact hS.2.2 q h
      · exact hf _ (hL q h)⟩⟩
theorem vx_calli {S SX : Type} {post : Int32 → S → Prop} {px : SX → Prop} {B : S → State → Prop} {BX : String → SX → State → Prop} {AX : Nat → Prop} (hr : vx_Run p l e R s m args below meth c H locs cells slots mc ms (F0 m pc ls st0) rest (va_Qi post B A1 a) (vx_X px BX AX) free) (hS : va_S A0 H0 H locs) (hA : ∀ q, q < H.size → A1 q → A0 q) (hf : ∀ q, free q → A0 q) (hAX : ∀ q, q < H.size → AX q → A0 q)
    (kx : ∀ (E : String) (ce : Cell) (q9 : Addr) (u : SX) (t : State) (H1 : Heap) (locs1 : List Loc), t.heap = H1 → s.vm.Alike t.vm → px u → BX E u t → H.size ≤ H1.size → (∀ q : Nat, q < H.size → ¬ AX q → H1[q]? = H[q]?) → va_S A0 H0 H1 locs1 → H1[q9]? = some ce → ce.vm = .none → s.vm.findClass E = some ce.cls → vx_W p l e R s m args below meth c H1 locs1 (cells + mc) (slots + ms) Q (F0 m pc ls rest) q9)
    (kk : ∀ (r : Int32) (u : S) (t : State) (H1 : Heap) (locs1 : List Loc), t.heap = H1 → s.vm.Alike t.vm → post r u → B u t → H.size ≤ H1.size → (∀ q : Nat, q < H.size → ¬ A1 q → H1[q]? = H[q]?) → va_S A0 H0 H1 locs1 → W p l e R s m args below meth c H1 locs1 (cells + mc) (slots + ms) Q (F0 m (pc + 3) ls (.int r :: rest))) : W p l e R s m args below meth c H locs cells slots Q (F0 m pc ls st0) := by
  intro T hT X
  rcases hr T hT X with ⟨v, st₀, t, T', L, h0, X', hL, e1, e2, ⟨⟨r, u, hv, hp, hb⟩, hF⟩, st⟩ | ⟨q, st₀, t, T', L, E, ce, h0, X', hL, e1, e2, ⟨u, hp, hb, hF⟩, hce, hcv, hcl, st⟩
  · cases hv
    obtain ⟨k1, k2, k3⟩ := vx_keep h0 e1 hS hA hf hL hF
    obtain ⟨t2, a1, b1⟩ := kk r u t T'.heap (locs ++ L) e1.symm (by rw [← e2]; exact X'.warmed.alike) hp hb k1 k2 k3 T' rfl X'
    exact ⟨t2, st t2 a1, b1⟩
  · obtain ⟨k1, k2, k3⟩ := vx_keep h0 e1 hS hAX hf hL hF
    obtain ⟨t2, a1, b1⟩ := kx E ce q u t T'.heap (locs ++ L) e1.symm (by rw [← e2]; exact X'.warmed.alike) hp hb k1 k2 k3 (by rw [e1]; exact hce) hcv hcl T' rfl X'
    exact ⟨t2, st.trans a1, b1⟩
theorem vx_calll {S SX : Type} {post : Int64 → S → Prop} {px : SX → Prop} {B : S → State → Prop} {BX : String → SX → State → Prop} {AX : Nat → Prop} (hr : vx_Run p l e R s m args below meth c H locs cells slots mc ms (F0 m pc ls st0) rest (va_Ql post B A1 a) (vx_X px BX AX) free) (hS : va_S A0 H0 H locs) (hA : ∀ q, q < H.size → A1 q → A0 q) (hf : ∀ q, free q → A0 q) (hAX : ∀ q, q < H.size → AX q → A0 q)
    (kx : ∀ (E : String) (ce : Cell) (q9 : Addr) (u : SX) (t : State) (H1 : Heap) (locs1 : List Loc), t.heap = H1 → s.vm.Alike t.vm → px u → BX E u t → H.size ≤ H1.size → (∀ q : Nat, q < H.size → ¬ AX q → H1[q]? = H[q]?) → va_S A0 H0 H1 locs1 → H1[q9]? = some ce → ce.vm = .none → s.vm.findClass E = some ce.cls → vx_W p l e R s m args below meth c H1 locs1 (cells + mc) (slots + ms) Q (F0 m pc ls rest) q9)
    (kk : ∀ (r : Int64) (u : S) (t : State) (H1 : Heap) (locs1 : List Loc), t.heap = H1 → s.vm.Alike t.vm → post r u → B u t → H.size ≤ H1.size → (∀ q : Nat, q < H.size → ¬ A1 q → H1[q]? = H[q]?) → va_S A0 H0 H1 locs1 → W p l e R s m args below meth c H1 locs1 (cells + mc) (slots + ms) Q (F0 m (pc + 3) ls (.long r :: rest))) : W p l e R s m args below meth c H locs cells slots Q (F0 m pc ls st0) := by
  intro T hT X
  rcases hr T hT X with ⟨v, st₀, t, T', L, h0, X', hL, e1, e2, ⟨⟨r, u, hv, hp, hb⟩, hF⟩, st⟩ | ⟨q, st₀, t, T', L, E, ce, h0, X', hL, e1, e2, ⟨u, hp, hb, hF⟩, hce, hcv, hcl, st⟩
  · cases hv
    obtain ⟨k1, k2, k3⟩ := vx_keep h0 e1 hS hA hf hL hF
    obtain ⟨t2, a1, b1⟩ := kk r u t T'.heap (locs ++ L) e1.symm (by rw [← e2]; exact X'.warmed.alike) hp hb k1 k2 k3 T' rfl X'
    exact ⟨t2, st t2 a1, b1⟩
  · obtain ⟨k1, k2, k3⟩ := vx_keep h0 e1 hS hAX hf hL hF
    obtain ⟨t2, a1, b1⟩ := kx E ce q u t T'.heap (locs ++ L) e1.symm (by rw [← e2]; exact X'.warmed.alike) hp hb k1 k2 k3 (by rw [e1]; exact hce) hcv hcl T' rfl X'
    exact ⟨t2, st.trans a1, b1⟩
theorem vx_callf {S SX : Type} {post : UInt32 → S → Prop} {px : SX → Prop} {B : S → State → Prop} {BX : String → SX → State → Prop} {AX : Nat → Prop} (hr : vx_Run p l e R s m args below meth c H locs cells slots mc ms (F0 m pc ls st0) rest (va_Qf post B A1 a) (vx_X px BX AX) free) (hS : va_S A0 H0 H locs) (hA : ∀ q, q < H.size → A1 q → A0 q) (hf : ∀ q, free q → A0 q) (hAX : ∀ q, q < H.size → AX q → A0 q)
    (kx : ∀ (E : String) (ce : Cell) (q9 : Addr) (u : SX) (t : State) (H1 : Heap) (locs1 : List Loc), t.heap = H1 → s.vm.Alike t.vm → px u → BX E u t → H.size ≤ H1.size → (∀ q : Nat, q < H.size → ¬ AX q → H1[q]? = H[q]?) → va_S A0 H0 H1 locs1 → H1[q9]? = some ce → ce.vm = .none → s.vm.findClass E = some ce.cls → vx_W p l e R s m args below meth c H1 locs1 (cells + mc) (slots + ms) Q (F0 m pc ls rest) q9)
    (kk : ∀ (r : UInt32) (u : S) (t : State) (H1 : Heap) (locs1 : List Loc), t.heap = H1 → s.vm.Alike t.vm → post r u → B u t → H.size ≤ H1.size → (∀ q : Nat, q < H.size → ¬ A1 q → H1[q]? = H[q]?) → va_S A0 H0 H1 locs1 → W p l e R s m args below meth c H1 locs1 (cells + mc) (slots + ms) Q (F0 m (pc + 3) ls (.float r :: rest))) : W p l e R s m args below meth c H locs cells slots Q (F0 m pc ls st0) := by
  intro T hT X
  rcases hr T hT X with ⟨v, st₀, t, T', L, h0, X', hL, e1, e2, ⟨⟨r, u, hv, hp, hb⟩, hF⟩, st⟩ | ⟨q, st₀, t, T', L, E, ce, h0, X', hL, e1, e2, ⟨u, hp, hb, hF⟩, hce, hcv, hcl, st⟩
  · cases hv
    obtain ⟨k1, k2, k3⟩ := vx_keep h0 e1 hS hA hf hL hF
    obtain ⟨t2, a1, b1⟩ := kk r u t T'.heap (locs ++ L) e1.symm (by rw [← e2]; exact X'.warmed.alike) hp hb k1 k2 k3 T' rfl X'
    exact ⟨t2, st t2 a1, b1⟩
  · obtain ⟨k1, k2, k3⟩ := vx_keep h0 e1 hS hAX hf hL hF
    obtain ⟨t2, a1, b1⟩ := kx E ce q u t T'.heap (locs ++ L) e1.symm (by rw [← e2]; exact X'.warmed.alike) hp hb k1 k2 k3 (by rw [e1]; exact hce) hcv hcl T' rfl X'
    exact ⟨t2, st.trans a1, b1⟩
theorem vx_calld {S SX : Type} {post : UInt64 → S → Prop} {px : SX → Prop} {B : S → State → Prop} {BX : String → SX → State → Prop} {AX : Nat → Prop} (hr : vx_Run p l e R s m args below meth c H locs cells slots mc ms (F0 m pc ls st0) rest (va_Qd post B A1 a) (vx_X px BX AX) free) (hS : va_S A0 H0 H locs) (hA : ∀ q, q < H.size → A1 q → A0 q) (hf : ∀ q, free q → A0 q) (hAX : ∀ q, q < H.size → AX q → A0 q)
    (kx : ∀ (E : String) (ce : Cell) (q9 : Addr) (u : SX) (t : State) (H1 : Heap) (locs1 : List Loc), t.heap = H1 → s.vm.Alike t.vm → px u → BX E u t → H.size ≤ H1.size → (∀ q : Nat, q < H.size → ¬ AX q → H1[q]? = H[q]?) → va_S A0 H0 H1 locs1 → H1[q9]? = some ce → ce.vm = .none → s.vm.findClass E = some ce.cls → vx_W p l e R s m args below meth c H1 locs1 (cells + mc) (slots + ms) Q (F0 m pc ls rest) q9)
    (kk : ∀ (r : UInt64) (u : S) (t : State) (H1 : Heap) (locs1 : List Loc), t.heap = H1 → s.vm.Alike t.vm → post r u → B u t → H.size ≤ H1.size → (∀ q : Nat, q < H.size → ¬ A1 q → H1[q]? = H[q]?) → va_S A0 H0 H1 locs1 → W p l e R s m args below meth c H1 locs1 (cells + mc) (slots + ms) Q (F0 m (pc + 3) ls (.double r :: rest))) : W p l e R s m args below meth c H locs cells slots Q (F0 m pc ls st0) := by
  intro T hT X
  rcases hr T hT X with ⟨v, st₀, t, T', L, h0, X', hL, e1, e2, ⟨⟨r, u, hv, hp, hb⟩, hF⟩, st⟩ | ⟨q, st₀, t, T', L, E, ce, h0, X', hL, e1, e2, ⟨u, hp, hb, hF⟩, hce, hcv, hcl, st⟩
  · cases hv
    obtain ⟨k1, k2, k3⟩ := vx_keep h0 e1 hS hA hf hL hF
    obtain ⟨t2, a1, b1⟩ := kk r u t T'.heap (locs ++ L) e1.symm (by rw [← e2]; exact X'.warmed.alike) hp hb k1 k2 k3 T' rfl X'
    exact ⟨t2, st t2 a1, b1⟩
  · obtain ⟨k1, k2, k3⟩ := vx_keep h0 e1 hS hAX hf hL hF
    obtain ⟨t2, a1, b1⟩ := kx E ce q u t T'.heap (locs ++ L) e1.symm (by rw [← e2]; exact X'.warmed.alike) hp hb k1 k2 k3 (by rw [e1]; exact hce) hcv hcl T' rfl X'
    exact ⟨t2, st.trans a1, b1⟩
theorem vx_callv {S SX : Type} {post : S → Prop} {px : SX → Prop} {B : S → State → Prop} {BX : String → SX → State → Prop} {AX : Nat → Prop} (hr : vx_Run p l e R s m args below meth c H locs cells slots mc ms (F0 m pc ls st0) rest (va_Qv post B A1 a) (vx_X px BX AX) free) (hS : va_S A0 H0 H locs) (hA : ∀ q, q < H.size → A1 q → A0 q) (hf : ∀ q, free q → A0 q) (hAX : ∀ q, q < H.size → AX q → A0 q)
    (kx : ∀ (E : String) (ce : Cell) (q9 : Addr) (u : SX) (t : State) (H1 : Heap) (locs1 : List Loc), t.heap = H1 → s.vm.Alike t.vm → px u → BX E u t → H.size ≤ H1.size → (∀ q : Nat, q < H.size → ¬ AX q → H1[q]? = H[q]?) → va_S A0 H0 H1 locs1 → H1[q9]? = some ce → ce.vm = .none → s.vm.findClass E = some ce.cls → vx_W p l e R s m args below meth c H1 locs1 (cells + mc) (slots + ms) Q (F0 m pc ls rest) q9)
    (kk : ∀ (u : S) (t : State) (H1 : Heap) (locs1 : List Loc), t.heap = H1 → s.vm.Alike t.vm → post u → B u t → H.size ≤ H1.size → (∀ q : Nat, q < H.size → ¬ A1 q → H1[q]? = H[q]?) → va_S A0 H0 H1 locs1 → W p l e R s m args below meth c H1 locs1 (cells + mc) (slots + ms) Q (F0 m (pc + 3) ls (rest))) : W p l e R s m args below meth c H locs cells slots Q (F0 m pc ls st0) := by
  intro T hT X
  rcases hr T hT X with ⟨v, st₀, t, T', L, h0, X', hL, e1, e2, ⟨⟨u, hv, hp, hb⟩, hF⟩, st⟩ | ⟨q, st₀, t, T', L, E, ce, h0, X', hL, e1, e2, ⟨u, hp, hb, hF⟩, hce, hcv, hcl, st⟩
  · cases hv
    obtain ⟨k1, k2, k3⟩ := vx_keep h0 e1 hS hA hf hL hF
    obtain ⟨t2, a1, b1⟩ := kk u t T'.heap (locs ++ L) e1.symm (by rw [← e2]; exact X'.warmed.alike) hp hb k1 k2 k3 T' rfl X'
    exact ⟨t2, st t2 a1, b1⟩
  · obtain ⟨k1, k2, k3⟩ := vx_keep h0 e1 hS hAX hf hL hF
    obtain ⟨t2, a1, b1⟩ := kx E ce q u t T'.heap (locs ++ L) e1.symm (by rw [← e2]; exact X'.warmed.alike) hp hb k1 k2 k3 (by rw [e1]; exact hce) hcv hcl T' rfl X'
    exact ⟨t2, st.trans a1, b1⟩
/-- caught by the row x of this method's table; the rows ahead don't take it -/
theorem vx_catch {own name : String} {E : String} {ce : Cell} {q : Addr} (hown : s.vm.findClass own = some m.cls) (pre : List ExceptionTableEntry) (x : ExceptionTableEntry) (suf : List ExceptionTableEntry) (hsplit : c.exceptionTable.toList = pre ++ x :: suf)
    (hpass : ∀ z ∈ pre, covers z pc = false ∨ (z.catchType ≠ 0 ∧ ∃ nm : String, (Cond.classLink own z.catchType nm).before args s = true ∧ va_Nc E nm s)) (hx : covers x pc = true) (h0 : x.catchType ≠ 0)
    (hlink : (Cond.classLink own x.catchType name).before args s = true) (hcast : (Cond.castable E name).before args s = true) (hcell : H[q]? = some ce) (hv : ce.vm = .none) (hcl : s.vm.findClass E = some ce.cls)
    (kk : W p l e R s m args below meth c H locs cells slots Q (F0 m x.handlerPc ls [.ref q])) : vx_W p l e R s m args below meth c H locs cells slots Q (F0 m pc ls rest) q := by
  intro T hT X
  have hpl : e.platform.magicAccessors = ({} : Platform).magicAccessors := by rw [X.admits.platform]
  obtain ⟨c3, c4, hc3, hc4, hasg⟩ := Cond.castable_spec hcast
  cases Option.some.inj (hc3.symm.trans hcl)
  obtain ⟨c5, hc5, hcl5⟩ := Cond.classLink_spec hown hlink e.platform hpl
  cases Option.some.inj (hc4.symm.trans hc5)
  obtain ⟨vm', X', st⟩ := X.thenCaughtThrough q (g := F0 m pc ls rest) rfl (Steps.refl _) (by rw [hT]; exact hcell) (by rw [hv]; rfl) (by obtain ⟨k9, h9, -⟩ := Vm.findClass_spec hcl; exact ⟨k9, h9⟩) pre x suf hsplit
    (fun z hz => by
      rcases hpass z hz with h | ⟨hz0, nm, hl1, hn1⟩
      · exact Or.inl h
      · obtain ⟨c6, hc6, hcl6⟩ := Cond.classLink_spec hown hl1 e.platform hpl
        obtain ⟨a8, b8, h1, h2, h3⟩ := hn1
        cases Option.some.inj (h1.symm.trans hcl)
        cases Option.some.inj (h2.symm.trans hc6)
        exact Or.inr ⟨hz0, _, hcl6, h3⟩) hx (Or.inr ⟨h0, c4, hcl5, hasg⟩)
  obtain ⟨t, a1, b1⟩ := kk (T.setVm vm') hT X'
  exact ⟨t, st.trans a1, b1⟩
end Rows
section Ends
variable {p : Program} {l : Launch} {e : Env} {R : Room} {s : State} {m : MethodId} {args : Array Value} {below : List Frame} {meth : Method} {c : Code} {H : Heap} {locs : List Loc} {cells slots : Nat} {Q : State → Prop}
variable {mc ms : Nat} {free : Addr → Prop} {A0 A1 : Nat → Prop} {H0 : Heap} {a : Array Value} {ls : Array Slot} {st0 rest : List Value}
variable {Qc : Array Value → State → Outcome → State → Prop} {XC : String → State → State → Prop}
/-- what a body that may throw owes at its end -/
def vx_MQ (below : List Frame) (Qc : Array Value → State → Outcome → State → Prop) (XC : String → State → State → Prop) (a : Array Value) (s : State) (mc ms : Nat) (free : Addr → Prop) : State → Prop := fun t =>
  ∃ o, t.status = .running ∧ Ended t below o ∧ vx_Q Qc XC mc ms free a s o t
theorem vx_ret {g : JFrame} {mc ms : Nat} (k : W p l e R s m args below meth c H locs cells slots (MQ below Qc args s mc ms free) g) : W p l e R s m args below meth c H locs cells slots (vx_MQ below Qc XC args s mc ms free) g := by
  intro T hT X
  obtain ⟨t, a1, o, b1, b2, b3, b4⟩ := k T hT X
  exact ⟨t, a1, o, b1, b2, Or.inl ⟨b3, b4⟩⟩
/-- not caught here: it goes on to the caller -/
theorem vx_widen {g : JFrame} {q : Addr} {k n : Nat} (h1 : cells ≤ k) (h2 : slots ≤ n) (kk : vx_W p l e R s m args below meth c H locs k n Q g q) : vx_W p l e R s m args below meth c H locs cells slots Q g q := fun T hT X => kk T hT (stand_widen X h1 h2)
theorem vx_out {pc : Nat} {E : String} {ce : Cell} {q : Addr} {mc ms : Nat} (hout : ∀ x ∈ c.exceptionTable.toList, covers x pc = false) (hlocks : meth.locks = false) (hcell : H[q]? = some ce) (hv : ce.vm = .none) (hcl : s.vm.findClass E = some ce.cls)
    (hx : ∀ t : State, t.heap = H → s.vm.Alike t.vm → XC E s t) (hf : ∀ z ∈ locs, free z.base) (hc : cells ≤ mc) (hs : slots ≤ ms) :
    vx_W p l e R s m args below meth c H locs cells slots (vx_MQ below Qc XC args s mc ms free) (F0 m pc ls rest) q := by
  intro T hT X
  obtain ⟨st1, hrun, hend, hW, hsm⟩ := X.leaveThrown q (g := F0 m pc ls rest) rfl rfl rfl hout hlocks
  have hcell9 : (T.setFrames (.throwing q :: below)).heap[q]? = some ce := by
    show T.heap[q]? = some ce
    rw [hT]; exact hcell
  exact ⟨_, st1, .threw q, hrun, hend, Or.inr ⟨q, rfl, E, ce, locs, hx _ hT hW.alike, hcell9, hv, hcl, hW, hsm.mono hc hs, hf⟩⟩
theorem vx_frame {U : State} {k n : Nat} (h : s.sameButNew ({ U with vm := s.vm } : State) locs k n) : s.heap.size ≤ U.heap.size ∧ ∀ q : Nat, q < s.heap.size → (∀ z ∈ locs, z.base ≠ q) → U.heap[q]? = s.heap[q]? := by
  obtain ⟨-, h2, -, -, -, h6⟩ := h
  refine ⟨h2, fun q hq hz => ?_⟩
  obtain ⟨c9, e1, e2, e3, e4⟩ := h6 q _ (Array.getElem?_eq_getElem hq)
  have hs : c9.slots = (s.heap[q]).slots := Array.ext_getElem? fun i => e4 i fun hm => hz _ hm rfl
  have h9 : c9 = s.heap[q] := by
    rw [hs] at e2
    exact e2
  have e5 : U.heap[q]? = some c9 := e1
  rw [e5, h9, Array.getElem?_eq_getElem hq]
/-- the words of a throw but the four that speak of the heap -/
def vx_no (w : Cond) : Bool := decide (w ≠ .isRef (.static Bundle.tN "UNASSIGNED_STACK" Bundle.steD)) && decide (w ≠ .isRef (.static Bundle.tN "SUPPRESSED_SENTINEL" Bundle.listD)) && decide (w ≠ .laysStatic Bundle.tN "UNASSIGNED_STACK" Bundle.steD) && decide (w ≠ .laysStatic Bundle.tN "SUPPRESSED_SENTINEL" Bundle.listD)
def vx_at0 (own : String) (ic : Nat) (X : String) (names : List String) : List Cond := (Bundle.ownAtoms0 own ic X names).filter vx_no
def vx_atS (own : String) (ic : Nat) (X : String) (names : List String) : List Cond := (Bundle.ownAtoms own ic X names).filter vx_no
/-- a word that the tables alone decide, or a good one -/
def vx_ot (w : Cond) : Bool := w.onTables || goodWord w
theorem vx_ot_at {args a' : Array Value} {s U : State} {w : Cond} (hW : s.WarmedH U.vm) (hvm : s.vm = U.vm) (hg : vx_ot w = true) (h : w.before args s = true) : w.before a' U = true := by
  simp only [vx_ot, Bool.or_eq_true] at hg
  rcases hg with hg | hg
  · exact va_tabs hg hvm h
  · exact word_at hW (good_of_word hg) h
/-- a list's words: the good ones out of the method's own list, the others by premises of their own -/
theorem vx_hat {args : Array Value} {s : State} {L B : List Cond} (h1 : ∀ w ∈ L.filter goodWord, w.before args s = true) (h2 : ∀ w ∈ L.filter (fun w => !goodWord w), w ∈ B) (h3 : ∀ w ∈ B, w.before args s = true) : ∀ w ∈ L, w.before args s = true := by
  intro w hw
  by_cases g : goodWord w = true
  · exact h1 w (List.mem_filter.mpr ⟨hw, g⟩)
  · refine h3 w (h2 w (List.mem_filter.mpr ⟨hw, ?_⟩))
    show (!goodWord w) = true
    cases hgw : goodWord w
    · rfl
    · exact absurd hgw g
theorem vx_c {args : Array Value} {s : State} {w : Cond} {B : List Cond} (h : w.before args s = true) (t : ∀ w ∈ B, w.before args s = true) : ∀ w' ∈ w :: B, w'.before args s = true := fun w' h' => (List.mem_cons.mp h').elim (fun e => by rw [e]; exact h) (t w')
theorem vx_n {args : Array Value} {s : State} : ∀ w ∈ ([] : List Cond), w.before args s = true := fun _ h => nomatch h
theorem vx_own {args : Array Value} {s : State} {L : List Cond} (h1 : ∀ w ∈ L.filter vx_no, w.before args s = true)
    (hU : (Cond.isRef (.static Bundle.tN "UNASSIGNED_STACK" Bundle.steD)).before args s = true) (hN : (Cond.isRef (.static Bundle.tN "SUPPRESSED_SENTINEL" Bundle.listD)).before args s = true)
    (lU : (Cond.laysStatic Bundle.tN "UNASSIGNED_STACK" Bundle.steD).before args s = true) (lN : (Cond.laysStatic Bundle.tN "SUPPRESSED_SENTINEL" Bundle.listD).before args s = true) : ∀ w ∈ L, w.before args s = true := by
  intro w hw
  by_cases e1 : w = .isRef (.static Bundle.tN "UNASSIGNED_STACK" Bundle.steD)
  · rw [e1]; exact hU
  · by_cases e2 : w = .isRef (.static Bundle.tN "SUPPRESSED_SENTINEL" Bundle.listD)
    · rw [e2]; exact hN
    · by_cases e3 : w = .laysStatic Bundle.tN "UNASSIGNED_STACK" Bundle.steD
      · rw [e3]; exact lU
      · by_cases e4 : w = .laysStatic Bundle.tN "SUPPRESSED_SENTINEL" Bundle.listD
        · rw [e4]; exact lN
        · exact h1 w (List.mem_filter.mpr ⟨hw, by unfold vx_no; rw [decide_eq_true e1, decide_eq_true e2, decide_eq_true e3, decide_eq_true e4]; rfl⟩)
/-- where a static field lies, its class's statics cell in H -/
def vx_L (C n d : String) (A : Nat → Prop) (U : State) (H : Heap) : Prop := ∃ (c : ClassId) (k : Class) (i : Nat) (f : Field) (a : Nat) (cell : Cell), U.vm.findClass C = some c ∧ U.fieldFound? C n d = some (c, k, i, f) ∧ f.isStatic = true ∧ k.statics = some a ∧ H[a]? = some cell ∧ cell.vm.isStatics = true ∧ cell.cls = c ∧ f.slot < cell.slots.size ∧ k.staticTypes[f.slot]? = some f.type ∧ ¬ A a
theorem vx_L.moved {C n d : String} {A : Nat → Prop} {u U : State} {H : Heap} (hvm : u.vm.Alike U.vm) (h : vx_L C n d A u H) : vx_L C n d A U H := by
  obtain ⟨c, k, i, f, a, cell, h1, h2, h3, h4, h5, h6, h7, h8, h9, h10⟩ := h
  obtain ⟨k', hi', he⟩ := State.fieldFound?_setVm hvm h2
  exact ⟨c, k', i, f, a, cell, by rw [hvm.findClass]; exact h1, hi', h3, by rw [he]; exact h4, h5, h6, h7, h8, by rw [he]; exact h9, h10⟩
theorem vx_L.kept {C n d : String} {A : Nat → Prop} {U : State} {H H1 : Heap} (h : vx_L C n d A U H) (hq : ∀ a : Nat, a < H.size → ¬ A a → H1[a]? = H[a]?) : vx_L C n d A U H1 := by
  obtain ⟨c, k, i, f, a, cell, h1, h2, h3, h4, h5, h6, h7, h8, h9, h10⟩ := h
  exact ⟨c, k, i, f, a, cell, h1, h2, h3, h4, by rw [hq a (Array.getElem?_eq_some_iff.mp h5).1 h10]; exact h5, h6, h7, h8, h9, h10⟩
theorem vx_L.narrow {C n d : String} {A B : Nat → Prop} {U : State} {H : Heap} (h : vx_L C n d A U H) (hAB : ∀ q, B q → A q) : vx_L C n d B U H := by
  obtain ⟨c, k, i, f, a, cell, h1, h2, h3, h4, h5, h6, h7, h8, h9, h10⟩ := h
  exact ⟨c, k, i, f, a, cell, h1, h2, h3, h4, h5, h6, h7, h8, h9, fun z => h10 (hAB _ z)⟩
theorem vx_L.word {C n d : String} {A : Nat → Prop} {s : State} {args : Array Value} (h : vx_L C n d A s s.heap) : (Cond.laysStatic C n d).before args s = true := by
  obtain ⟨c, k, i, f, a, cell, h1, h2, h3, h4, h5, h6, h7, h8, h9, -⟩ := h
  show (Cond.laysStatic C n d).holds args s none s [] = true
  exact Cond.laysStatic_of h1 h2 h3 h4 h5 h6 h7 h8 h9
/-- .. and what it holds: null or some reference -/
def vx_Zq (C n d : String) (A : Nat → Prop) (U : State) (H : Heap) : Prop := va_Zq C n d A U H ∧ vx_L C n d A U H
theorem vx_Zq.moved {C n d : String} {A : Nat → Prop} {u U : State} {H : Heap} (hvm : u.vm.Alike U.vm) (h : vx_Zq C n d A u H) : vx_Zq C n d A U H := ⟨va_Zq.moved hvm h.1, vx_L.moved hvm h.2⟩
theorem vx_Zq.kept {C n d : String} {A : Nat → Prop} {U : State} {H H1 : Heap} (h : vx_Zq C n d A U H) (hq : ∀ a : Nat, a < H.size → ¬ A a → H1[a]? = H[a]?) : vx_Zq C n d A U H1 := ⟨va_Zq.kept h.1 hq, vx_L.kept h.2 hq⟩
theorem vx_Zq.narrow {C n d : String} {A B : Nat → Prop} {U : State} {H : Heap} (h : vx_Zq C n d A U H) (hAB : ∀ q, B q → A q) : vx_Zq C n d B U H := ⟨va_Zq.narrow h.1 hAB, vx_L.narrow h.2 hAB⟩
theorem vx_Zqof {args : Array Value} {s : State} {C n d : String} {A : Nat → Prop} (hl : (Cond.laysStatic C n d).before args s = true) (hini : (Cond.initialized C).before args s = true) (h : (Cond.isRef (.static C n d)).before args s = true) (hA : ∀ a : Nat, a < s.heap.size → ¬ A a) : vx_Zq C n d A s s.heap := by
  refine ⟨va_Zqof hl hini h hA, ?_⟩
  obtain ⟨c, k, i, f, a, cell, h1, h2, h3, h4, h5, h6, h7, h8, h9⟩ := Cond.laysStatic_spec hl
  exact ⟨c, k, i, f, a, cell, h1, h2, h3, h4, h5, h6, h7, h8, h9, hA a (Array.getElem?_eq_some_iff.mp h5).1⟩
theorem vx_isRef {C n d : String} {v : Value} {A : Nat → Prop} {s : State} {args : Array Value} (h : va_Z C n d v A s s.heap) (hv : v.isRef = true) : (Cond.isRef (.static C n d)).before args s = true := by
  obtain ⟨cf, kf, fi, f, a, cell, h1, h2, h3, h4, h5, h6, h7, -⟩ := h
  have he : (Term.static C n d).eval args s none [] s = some v := by
    simp [Term.eval, State.fieldNamed?, h1, h2, h4, h5, h6, h7]
  simp only [Cond.before, Cond.holds, Cond.value, he]
  cases v <;> simp_all [Value.isRef]
theorem vx_isRefq {C n d : String} {A : Nat → Prop} {s : State} {args : Array Value} (h : va_Zq C n d A s s.heap) : (Cond.isRef (.static C n d)).before args s = true := by
  rcases h with h | ⟨t, h⟩
  · exact vx_isRef h rfl
  · exact vx_isRef h rfl
/-- the same frame, seen from here: as if the method were called anew in this heap -/
theorem vx_rebase {T : State} (X : Stand p l e R s m args below meth c T locs cells slots) {R' : Room} (hf : R'.frames ≤ R.frames) (hl : R'.locals ≤ R.locals) (hc : cells + R'.cells ≤ R.cells) (hs : slots + R'.slots ≤ R.slots) :
    Stand p l e R' ((T.setVm s.vm).setFrames (.invoking m args :: below)) m args below meth c T [] 0 0 := by
  have htop : (T.setVm s.vm).topJava?.isSome := X.here.top
  have hF : ((T.setVm s.vm).setFrames (.invoking m args :: below)).frames = .invoking m args :: below := State.frames_setFrames _ (State.cur_lt_of_top htop)
  obtain ⟨g₀, hg0⟩ := Option.isSome_iff_exists.mp htop
  obtain ⟨r, hr⟩ := State.topJava?_eq_some.mp hg0
  have hl9 : e.platform.stackLimits (T.setVm s.vm).me = e.platform.stackLimits s.me := X.limits
  have hb9 : (T.setVm s.vm).me.stackBytes = s.me.stackBytes := X.bytes
  refine ⟨X.admits, X.cas, X.clock, hF, ?_, X.hears, X.method, X.code, X.here, X.tail, X.warmed, ?_, ?_, ?_⟩
  · have h := X.room
    have hU : ((T.setVm s.vm).setFrames (.invoking m args :: below)).localsInUse = s.localsInUse := by
      rw [State.localsInUse_invoking hF (meth := meth) (c := c) X.method X.code, State.localsInUse_invoking X.frames X.method X.code]
    simp only [State.hasRoom, Bool.and_eq_true, decide_eq_true_eq] at h ⊢
    obtain ⟨⟨⟨⟨h1, h2, h3, h4, h5, h6⟩, h7⟩, h8⟩, h9⟩ := h
    rw [X.frames, List.length_cons] at h2 h3
    have q1 := X.heapSize
    have q2 := X.used
    simp only [hF, hU, List.length_cons, State.stackLimits_setFrames, State.stackBytes_setFrames, hl9, hb9]
    refine ⟨⟨⟨⟨by omega, by omega, by omega, by omega, by omega, h6⟩, ?_⟩, ?_⟩, X.book⟩
    · show T.heap.size + R'.cells ≤ e.platform.maxCells
      omega
    · show T.slotsUsed + R'.slots ≤ e.platform.maxSlots
      omega
  · rw [State.stackLimits_setFrames]; rfl
  · rw [State.stackBytes_setFrames]; rfl
  · refine ⟨?_, Nat.le_refl _, Nat.le_refl _, ?_, ?_, fun a c9 h9 => ⟨c9, h9, rfl, rfl, fun _ _ => rfl⟩⟩
    · obtain ⟨t, ht, -⟩ := State.frames_cons hr
      show T.setVm s.vm = { ((T.setVm s.vm).setFrames (.invoking m args :: below)).setFrames (T.setVm s.vm).frames with heap := T.heap, slotsUsed := T.slotsUsed }
      rw [State.setFrames_setFrames, State.setFrames_self ht]
      rfl
    · show T.slotsUsed = T.slotsUsed + ((T.heap.toList.drop T.heap.size).map (·.slots.size)).sum
      rw [List.drop_eq_nil_of_le (Nat.le_of_eq Array.length_toList)]
      rfl
    · show ((T.heap.toList.drop T.heap.size).map (·.slots.size)).sum ≤ 0
      rw [List.drop_eq_nil_of_le (Nat.le_of_eq Array.length_toList)]
      exact Nat.le_refl _
/-- 'throw new E()': new; dup; invokespecial; athrow -/
theorem vx_throw0 {cc : ByteArray} {pc : Nat} (hexec : p.tables.exec = Jvm.exec) (hb : c.code = cc) (hl : l.stackTraces = false) {own cls : String} {names : List String} {ik ic mc ms : Nat} {A : Nat → Prop}
    (hown : s.vm.findClass own = some m.cls) (hcls : Bundle.fit cls = true) (hnames : ∀ n ∈ names, Bundle.fit n = true)
    (hk : (Cond.classLink own ik cls).before args s = true) (hini : (Cond.initialized cls).before args s = true) (hat : ∀ w ∈ vx_at0 own ic cls names, w.before args s = true)
    (hgood : ∀ w ∈ Cond.classLink own ik cls :: Cond.initialized cls :: vx_at0 own ic cls names, vx_ot w = true)
    (hU : vx_Zq Bundle.tN "UNASSIGNED_STACK" Bundle.steD A s s.heap) (hN : vx_Zq Bundle.tN "SUPPRESSED_SENTINEL" Bundle.listD A s s.heap) (hS : va_S A s.heap H locs) (hsize : ls.size = c.maxLocals)
    (d0 : decode cc pc = .ok (.new ik, 3)) (d3 : decode cc (pc + 3) = .ok (.dup, 1)) (d4 : decode cc (pc + 4) = .ok (.invokespecial ic, 3)) (d7 : decode cc (pc + 7) = .ok (.athrow, 1))
    (hout : ∀ x ∈ c.exceptionTable.toList, covers x (pc + 7) = false)
    (hRframes : names.length + 3 < R.frames) (hRlocals : (rest.map fun v => v.category).sum + (13 * (names.length + 1) + 42) ≤ R.locals) (hRcells : cells + 1 ≤ R.cells) (hRslots : slots + 6 ≤ R.slots) (hlocks : meth.locks = false)
    (hx : ∀ t : State, s.vm.Alike t.vm → H.size ≤ t.heap.size → (∀ q : Nat, q < H.size → t.heap[q]? = H[q]?) → XC cls s t)
    (hf : ∀ z ∈ locs, free z.base) (hc : cells + 1 ≤ mc) (hs : slots + 6 ≤ ms) :
    W p l e R s m args below meth c H locs cells slots (vx_MQ below Qc XC args s mc ms free) (F0 m pc ls rest) := by
  intro T hT X
  have htr : e.platform.stackTraces = false := (show e.platform.stackTraces = l.stackTraces by rw [X.admits.platform]).trans hl
  have Y := vx_rebase X (R' := { frames := R.frames, locals := R.locals, cells := 1, slots := 6 }) (Nat.le_refl _) (Nat.le_refl _) hRcells hRslots
  obtain ⟨s', hA⟩ : ∃ z, z = (T.setVm s.vm).setFrames (.invoking m args :: below) := ⟨_, rfl⟩
  rw [← hA] at Y
  have hvm : s'.vm = s.vm := by rw [hA]; rfl
  have hhp : s'.heap = H := by rw [hA]; exact hT
  have hW0 : s.WarmedH s'.vm := by rw [hvm]; exact State.WarmedH.refl s
  have hat' : ∀ w ∈ vx_at0 own ic cls names, w.before args s' = true := fun w hw => vx_ot_at hW0 hvm.symm (hgood w (List.mem_cons_of_mem _ (List.mem_cons_of_mem _ hw))) (hat w hw)
  have hk' : (Cond.classLink own ik cls).before args s' = true := vx_ot_at hW0 hvm.symm (hgood _ List.mem_cons_self) hk
  have hini' : (Cond.initialized cls).before args s' = true := vx_ot_at hW0 hvm.symm (hgood _ (List.mem_cons_of_mem _ List.mem_cons_self)) hini
  have hU' : vx_Zq Bundle.tN "UNASSIGNED_STACK" Bundle.steD A s' s'.heap := by rw [hhp]; exact vx_Zq.moved hW0.alike (hU.kept hS.2.1)
  have hN' : vx_Zq Bundle.tN "SUPPRESSED_SENTINEL" Bundle.listD A s' s'.heap := by rw [hhp]; exact vx_Zq.moved hW0.alike (hN.kept hS.2.1)
  have h : ∀ w ∈ Bundle.ownAtoms0 own ic cls names, w.before args s' = true := vx_own hat' (vx_isRefq hU'.1) (vx_isRefq hN'.1) hU'.2.word hN'.2.word
  have hown' : s'.vm.findClass own = some m.cls := by rw [hvm]; exact hown
  have hins : (Cond.instantiable cls 6).before args s' = true := h _ (by simp [Bundle.ownAtoms0])
  obtain ⟨vm₁, cX, kX, hfX, hkX, -, -, X₁, st1⟩ := Y.newCold hexec (own := own) (C := cls) (index := ik) (n := 6) hown' hk' hins hini'
    (g := F0 m pc ls rest) rfl (by rw [hb]; exact d0) (Nat.le_refl _) (Nat.le_refl _)
  generalize hT1 : (T.setVm vm₁).pushCell { cls := cX, slots := kX.instanceTypes.map defaultValue, vm := .none } = T1 at X₁ st1
  have hcat : (Value.ref T.heap.size).category = 1 := rfl
  have hcellA : T1.heap[T.heap.size]? = some (freshCell cX kX) := by rw [← hT1]; exact State.heap_pushCell_size _ _
  have d3' : decode c.code (pc + 3) = .ok (.dup, 1) := by rw [hb]; exact d3
  obtain ⟨U, hsteps, hrun, hend, hW, hsame, ce, hce, hO⟩ := X₁.ctorThrow0 hexec htr (own := own) (cls := cls) (names := names) (ic := ic) hown' hcls hnames h (fun x hx => nomatch hx) hfX hkX hcellA (by rw [hhp, hT]; exact Nat.le_refl _)
    (g := { method := m, pc := pc + 4, locals := ls, stack := .ref T.heap.size :: .ref T.heap.size :: rest, locked := none }) rfl hsize rfl rfl (rest := rest) rfl
    (by rw [hb]; exact d4) (by rw [hb]; exact d7) hout hRframes (by simp only [List.map_cons, List.sum_cons, hcat]; omega) hlocks
  obtain ⟨f1, f2⟩ := vx_frame hsame
  rw [hhp] at f1 f2
  have hWs : s.WarmedH U.vm := State.WarmedH.trans hW0 hW
  have hcl : s.vm.findClass cls = some ce.cls := by
    have h9 := hO.cls
    rw [hvm] at h9
    exact h9
  have hall : s.sameButNew ({ U with vm := s.vm } : State) locs mc ms := by
    subst hA
    obtain ⟨e1, e2⟩ := hsame
    rw [State.setFrames_setFrames] at e1
    have h2 : (T.setVm s.vm).sameButNew ({ U with vm := s.vm } : State) [] (0 + 1) (0 + 6) := ⟨e1, e2⟩
    have h3 := X.same.trans h2
    rw [List.append_nil] at h3
    exact h3.mono hc hs
  refine ⟨U, ?_, .threw T.heap.size, hrun, hend, Or.inr ⟨T.heap.size, rfl, cls, ce, locs, hx U hWs.alike f1 (fun q hq => f2 q hq (fun z hz => nomatch hz)), hce, hO.vm, hcl, hWs, hall, hf⟩⟩
  refine st1 _ ?_
  show Steps p.tables e below (T1.setTop { method := m, pc := pc + 3, locals := ls, stack := .ref T.heap.size :: rest, locked := none }) _
  jvm_step X₁.here [X₁.here.top, hexec, d3', Value.category]
  exact hsteps
/-- 'throw new E("text")': new; dup; ldc; invokespecial; athrow -/
theorem vx_throwS {cc : ByteArray} {pc : Nat} (hexec : p.tables.exec = Jvm.exec) (hb : c.code = cc) (hl : l.stackTraces = false) {own cls text : String} {names : List String} {ik is ic mc ms sa : Nat} {A : Nat → Prop}
    (hown : s.vm.findClass own = some m.cls) (hcls : Bundle.fit cls = true) (hnames : ∀ n ∈ names, Bundle.fit n = true)
    (hk : (Cond.classLink own ik cls).before args s = true) (hini : (Cond.initialized cls).before args s = true) (hstr : vk_R own is text sa s) (hat : ∀ w ∈ vx_atS own ic cls names, w.before args s = true)
    (hgood : ∀ w ∈ Cond.classLink own ik cls :: Cond.initialized cls :: vx_atS own ic cls names, vx_ot w = true)
    (hU : vx_Zq Bundle.tN "UNASSIGNED_STACK" Bundle.steD A s s.heap) (hN : vx_Zq Bundle.tN "SUPPRESSED_SENTINEL" Bundle.listD A s s.heap) (hS : va_S A s.heap H locs) (hsize : ls.size = c.maxLocals)
    (d0 : decode cc pc = .ok (.new ik, 3)) (d3 : decode cc (pc + 3) = .ok (.dup, 1)) (d4 : decode cc (pc + 4) = .ok (.ldc is, 2)) (d6 : decode cc (pc + 6) = .ok (.invokespecial ic, 3)) (d9 : decode cc (pc + 9) = .ok (.athrow, 1))
    (hout : ∀ x ∈ c.exceptionTable.toList, covers x (pc + 9) = false)
    (hRframes : names.length + 3 < R.frames) (hRlocals : (rest.map fun v => v.category).sum + (13 * (names.length + 1) + 43) ≤ R.locals) (hRcells : cells + 1 ≤ R.cells) (hRslots : slots + 6 ≤ R.slots) (hlocks : meth.locks = false)
    (hx : ∀ t : State, s.vm.Alike t.vm → H.size ≤ t.heap.size → (∀ q : Nat, q < H.size → t.heap[q]? = H[q]?) → XC cls s t)
    (hf : ∀ z ∈ locs, free z.base) (hc : cells + 1 ≤ mc) (hs : slots + 6 ≤ ms) :
    W p l e R s m args below meth c H locs cells slots (vx_MQ below Qc XC args s mc ms free) (F0 m pc ls rest) := by
  intro T hT X
  have htr : e.platform.stackTraces = false := (show e.platform.stackTraces = l.stackTraces by rw [X.admits.platform]).trans hl
  have Y := vx_rebase X (R' := { frames := R.frames, locals := R.locals, cells := 1, slots := 6 }) (Nat.le_refl _) (Nat.le_refl _) hRcells hRslots
  obtain ⟨s', hA⟩ : ∃ z, z = (T.setVm s.vm).setFrames (.invoking m args :: below) := ⟨_, rfl⟩
  rw [← hA] at Y
  have hvm : s'.vm = s.vm := by rw [hA]; rfl
  have hhp : s'.heap = H := by rw [hA]; exact hT
  have hW0 : s.WarmedH s'.vm := by rw [hvm]; exact State.WarmedH.refl s
  have hat' : ∀ w ∈ vx_atS own ic cls names, w.before args s' = true := fun w hw => vx_ot_at hW0 hvm.symm (hgood w (List.mem_cons_of_mem _ (List.mem_cons_of_mem _ hw))) (hat w hw)
  have hk' : (Cond.classLink own ik cls).before args s' = true := vx_ot_at hW0 hvm.symm (hgood _ List.mem_cons_self) hk
  have hini' : (Cond.initialized cls).before args s' = true := vx_ot_at hW0 hvm.symm (hgood _ (List.mem_cons_of_mem _ List.mem_cons_self)) hini
  have hU' : vx_Zq Bundle.tN "UNASSIGNED_STACK" Bundle.steD A s' s'.heap := by rw [hhp]; exact vx_Zq.moved hW0.alike (hU.kept hS.2.1)
  have hN' : vx_Zq Bundle.tN "SUPPRESSED_SENTINEL" Bundle.listD A s' s'.heap := by rw [hhp]; exact vx_Zq.moved hW0.alike (hN.kept hS.2.1)
  have h : ∀ w ∈ Bundle.ownAtoms own ic cls names, w.before args s' = true := vx_own hat' (vx_isRefq hU'.1) (vx_isRefq hN'.1) hU'.2.word hN'.2.word
  have hown' : s'.vm.findClass own = some m.cls := by rw [hvm]; exact hown
  have hins : (Cond.instantiable cls 6).before args s' = true := h _ (by simp [Bundle.ownAtoms])
  obtain ⟨vm₁, cX, kX, hfX, hkX, -, -, X₁, st1⟩ := Y.newCold hexec (own := own) (C := cls) (index := ik) (n := 6) hown' hk' hins hini'
    (g := F0 m pc ls rest) rfl (by rw [hb]; exact d0) (Nat.le_refl _) (Nat.le_refl _)
  generalize hT1 : (T.setVm vm₁).pushCell { cls := cX, slots := kX.instanceTypes.map defaultValue, vm := .none } = T1 at X₁ st1
  have hcat : (Value.ref T.heap.size).category = 1 := rfl
  have hcellA : T1.heap[T.heap.size]? = some (freshCell cX kX) := by rw [← hT1]; exact State.heap_pushCell_size _ _
  have d3' : decode c.code (pc + 3) = .ok (.dup, 1) := by rw [hb]; exact d3
  have d4' : decode c.code (pc + 4) = .ok (.ldc is, 2) := by rw [hb]; exact d4
  have hstr' : vk_R own is text sa s' := vk_R.warm hW0 hstr
  obtain ⟨U, hsteps, hrun, hend, hW, hsame, ce, hce, hO⟩ := X₁.ctorThrowS hexec htr (own := own) (cls := cls) (names := names) (ic := ic) hown' hcls hnames h (fun x hx => nomatch hx) hfX hkX hcellA (by rw [hhp, hT]; exact Nat.le_refl _) (msg := .ref sa) rfl
    (g := { method := m, pc := pc + 6, locals := ls, stack := .ref sa :: .ref T.heap.size :: .ref T.heap.size :: rest, locked := none }) rfl hsize rfl rfl (rest := rest) rfl
    (by rw [hb]; exact d6) (by rw [hb]; exact d9) hout hRframes (by simp only [List.map_cons, List.sum_cons, hcat]; omega) hlocks
  obtain ⟨f1, f2⟩ := vx_frame hsame
  rw [hhp] at f1 f2
  have hWs : s.WarmedH U.vm := State.WarmedH.trans hW0 hW
  have hcl : s.vm.findClass cls = some ce.cls := by
    have h9 := hO.cls
    rw [hvm] at h9
    exact h9
  have hall : s.sameButNew ({ U with vm := s.vm } : State) locs mc ms := by
    subst hA
    obtain ⟨e1, e2⟩ := hsame
    rw [State.setFrames_setFrames] at e1
    have h2 : (T.setVm s.vm).sameButNew ({ U with vm := s.vm } : State) [] (0 + 1) (0 + 6) := ⟨e1, e2⟩
    have h3 := X.same.trans h2
    rw [List.append_nil] at h3
    exact h3.mono hc hs
  refine ⟨U, ?_, .threw T.heap.size, hrun, hend, Or.inr ⟨T.heap.size, rfl, cls, ce, locs, hx U hWs.alike f1 (fun q hq => f2 q hq (fun z hz => nomatch hz)), hce, hO.vm, hcl, hWs, hall, hf⟩⟩
  refine st1 _ ?_
  show Steps p.tables e below (T1.setTop { method := m, pc := pc + 3, locals := ls, stack := .ref T.heap.size :: rest, locked := none }) _
  jvm_step X₁.here [X₁.here.top, hexec, d3', Value.category]
  exact X₁.ldcString hexec (own := own) (text := text) (index := is) (a := sa) hown' hstr'.1 hstr'.2
    (g := { method := m, pc := pc + 4, locals := ls, stack := .ref T.heap.size :: .ref T.heap.size :: rest, locked := none }) rfl d4' _ hsteps
/-- 'throw new E("text")', the text by a wide index -/
theorem vx_throwSW {cc : ByteArray} {pc : Nat} (hexec : p.tables.exec = Jvm.exec) (hb : c.code = cc) (hl : l.stackTraces = false) {own cls text : String} {names : List String} {ik is ic mc ms sa : Nat} {A : Nat → Prop}
    (hown : s.vm.findClass own = some m.cls) (hcls : Bundle.fit cls = true) (hnames : ∀ n ∈ names, Bundle.fit n = true)
    (hk : (Cond.classLink own ik cls).before args s = true) (hini : (Cond.initialized cls).before args s = true) (hstr : vk_R own is text sa s) (hat : ∀ w ∈ vx_atS own ic cls names, w.before args s = true)
    (hgood : ∀ w ∈ Cond.classLink own ik cls :: Cond.initialized cls :: vx_atS own ic cls names, vx_ot w = true)
    (hU : vx_Zq Bundle.tN "UNASSIGNED_STACK" Bundle.steD A s s.heap) (hN : vx_Zq Bundle.tN "SUPPRESSED_SENTINEL" Bundle.listD A s s.heap) (hS : va_S A s.heap H locs) (hsize : ls.size = c.maxLocals)
    (d0 : decode cc pc = .ok (.new ik, 3)) (d3 : decode cc (pc + 3) = .ok (.dup, 1)) (d4 : decode cc (pc + 4) = .ok (.ldc_w is, 3)) (d7 : decode cc (pc + 7) = .ok (.invokespecial ic, 3)) (d10 : decode cc (pc + 10) = .ok (.athrow, 1))
    (hout : ∀ x ∈ c.exceptionTable.toList, covers x (pc + 10) = false)
    (hRframes : names.length + 3 < R.frames) (hRlocals : (rest.map fun v => v.category).sum + (13 * (names.length + 1) + 43) ≤ R.locals) (hRcells : cells + 1 ≤ R.cells) (hRslots : slots + 6 ≤ R.slots) (hlocks : meth.locks = false)
    (hx : ∀ t : State, s.vm.Alike t.vm → H.size ≤ t.heap.size → (∀ q : Nat, q < H.size → t.heap[q]? = H[q]?) → XC cls s t)
    (hf : ∀ z ∈ locs, free z.base) (hc : cells + 1 ≤ mc) (hs : slots + 6 ≤ ms) :
    W p l e R s m args below meth c H locs cells slots (vx_MQ below Qc XC args s mc ms free) (F0 m pc ls rest) := by
  intro T hT X
  have htr : e.platform.stackTraces = false := (show e.platform.stackTraces = l.stackTraces by rw [X.admits.platform]).trans hl
  have Y := vx_rebase X (R' := { frames := R.frames, locals := R.locals, cells := 1, slots := 6 }) (Nat.le_refl _) (Nat.le_refl _) hRcells hRslots
  obtain ⟨s', hA⟩ : ∃ z, z = (T.setVm s.vm).setFrames (.invoking m args :: below) := ⟨_, rfl⟩
  rw [← hA] at Y
  have hvm : s'.vm = s.vm := by rw [hA]; rfl
  have hhp : s'.heap = H := by rw [hA]; exact hT
  have hW0 : s.WarmedH s'.vm := by rw [hvm]; exact State.WarmedH.refl s
  have hat' : ∀ w ∈ vx_atS own ic cls names, w.before args s' = true := fun w hw => vx_ot_at hW0 hvm.symm (hgood w (List.mem_cons_of_mem _ (List.mem_cons_of_mem _ hw))) (hat w hw)
  have hk' : (Cond.classLink own ik cls).before args s' = true := vx_ot_at hW0 hvm.symm (hgood _ List.mem_cons_self) hk
  have hini' : (Cond.initialized cls).before args s' = true := vx_ot_at hW0 hvm.symm (hgood _ (List.mem_cons_of_mem _ List.mem_cons_self)) hini
  have hU' : vx_Zq Bundle.tN "UNASSIGNED_STACK" Bundle.steD A s' s'.heap := by rw [hhp]; exact vx_Zq.moved hW0.alike (hU.kept hS.2.1)
  have hN' : vx_Zq Bundle.tN "SUPPRESSED_SENTINEL" Bundle.listD A s' s'.heap := by rw [hhp]; exact vx_Zq.moved hW0.alike (hN.kept hS.2.1)
  have h : ∀ w ∈ Bundle.ownAtoms own ic cls names, w.before args s' = true := vx_own hat' (vx_isRefq hU'.1) (vx_isRefq hN'.1) hU'.2.word hN'.2.word
  have hown' : s'.vm.findClass own = some m.cls := by rw [hvm]; exact hown
  have hins : (Cond.instantiable cls 6).before args s' = true := h _ (by simp [Bundle.ownAtoms])
  obtain ⟨vm₁, cX, kX, hfX, hkX, -, -, X₁, st1⟩ := Y.newCold hexec (own := own) (C := cls) (index := ik) (n := 6) hown' hk' hins hini'
    (g := F0 m pc ls rest) rfl (by rw [hb]; exact d0) (Nat.le_refl _) (Nat.le_refl _)
  generalize hT1 : (T.setVm vm₁).pushCell { cls := cX, slots := kX.instanceTypes.map defaultValue, vm := .none } = T1 at X₁ st1
  have hcat : (Value.ref T.heap.size).category = 1 := rfl
  have hcellA : T1.heap[T.heap.size]? = some (freshCell cX kX) := by rw [← hT1]; exact State.heap_pushCell_size _ _
  have d3' : decode c.code (pc + 3) = .ok (.dup, 1) := by rw [hb]; exact d3
  have d4' : decode c.code (pc + 4) = .ok (.ldc_w is, 3) := by rw [hb]; exact d4
  have hstr' : vk_R own is text sa s' := vk_R.warm hW0 hstr
  obtain ⟨U, hsteps, hrun, hend, hW, hsame, ce, hce, hO⟩ := X₁.ctorThrowS hexec htr (own := own) (cls := cls) (names := names) (ic := ic) hown' hcls hnames h (fun x hx => nomatch hx) hfX hkX hcellA (by rw [hhp, hT]; exact Nat.le_refl _) (msg := .ref sa) rfl
    (g := { method := m, pc := pc + 7, locals := ls, stack := .ref sa :: .ref T.heap.size :: .ref T.heap.size :: rest, locked := none }) rfl hsize rfl rfl (rest := rest) rfl
    (by rw [hb]; exact d7) (by rw [hb]; exact d10) hout hRframes (by simp only [List.map_cons, List.sum_cons, hcat]; omega) hlocks
  obtain ⟨f1, f2⟩ := vx_frame hsame
  rw [hhp] at f1 f2
  have hWs : s.WarmedH U.vm := State.WarmedH.trans hW0 hW
  have hcl : s.vm.findClass cls = some ce.cls := by
    have h9 := hO.cls
    rw [hvm] at h9
    exact h9
  have hall : s.sameButNew ({ U with vm := s.vm } : State) locs mc ms := by
    subst hA
    obtain ⟨e1, e2⟩ := hsame
    rw [State.setFrames_setFrames] at e1
    have h2 : (T.setVm s.vm).sameButNew ({ U with vm := s.vm } : State) [] (0 + 1) (0 + 6) := ⟨e1, e2⟩
    have h3 := X.same.trans h2
    rw [List.append_nil] at h3
    exact h3.mono hc hs
  refine ⟨U, ?_, .threw T.heap.size, hrun, hend, Or.inr ⟨T.heap.size, rfl, cls, ce, locs, hx U hWs.alike f1 (fun q hq => f2 q hq (fun z hz => nomatch hz)), hce, hO.vm, hcl, hWs, hall, hf⟩⟩
  refine st1 _ ?_
  show Steps p.tables e below (T1.setTop { method := m, pc := pc + 3, locals := ls, stack := .ref T.heap.size :: rest, locked := none }) _
  jvm_step X₁.here [X₁.here.top, hexec, d3', Value.category]
  exact X₁.ldcStringW hexec (own := own) (text := text) (index := is) (a := sa) hown' hstr'.1 hstr'.2
    (g := { method := m, pc := pc + 4, locals := ls, stack := .ref T.heap.size :: .ref T.heap.size :: rest, locked := none }) rfl d4' _ hsteps
end Ends
section Bodies
variable {l : Launch}
theorem vx_ofW {y : MethodName} {ws ws' : List Cond} {rm : Room} {Pc : Array Value → State → Prop} {Qc : Array Value → State → Outcome → State → Prop} {XC : String → State → State → Prop} {mc ms : Nat} {free : Addr → Prop} {cc : ByteArray} {maxL : Nat} {ret : Option FieldType}
    (hy : plainName y.cls = true) (hw : ws = Cond.code y cc maxL ret :: ws')
    (body : ∀ p e s m args below meth c s₁, BodyLoose p l y (headSpec ws rm) cc maxL ret e s m args below meth c s₁ → c.maxLocals = maxL → (∀ x ∈ c.exceptionTable.toList, False) → Pc args s →
      W p l e (headSpec ws rm).room s m args below meth c s.heap [] 0 0 (vx_MQ below Qc XC args s mc ms free) (entryFrame m args maxL)) : vx_Met l y ws rm Pc Qc XC mc ms free := by
  refine MetFree.of_bodyS (code := cc) (maxLocals := maxL) (ret := ret) hy ?_ ?_
  · intro args s m h hn
    obtain ⟨meth, c, h1, h2, h3, h4, h5, h6, -, -⟩ := Cond.code_spec hn (atoms_spec (ws := ws) h _ (by rw [hw]; exact List.mem_cons_self))
    exact ⟨meth, c, h1, h2, h3, h4, h5, h6⟩
  · intro p e s m args below meth c s₁ B hml hP _
    have hh0 : s₁.heap = s.heap := by rw [B.state]; rfl
    have ht : ∀ x ∈ c.exceptionTable.toList, False := by
      obtain ⟨meth9, c9, h1, h2, -, -, -, -, h7, -⟩ := Cond.code_spec B.named (atoms_spec (ws := ws) B.pre _ (by rw [hw]; exact List.mem_cons_self))
      cases Option.some.inj (h1.symm.trans B.method)
      cases Option.some.inj (h2.symm.trans (Stand.of_body B).code)
      intro x hx
      rw [Array.isEmpty_iff.mp h7] at hx
      cases hx
    obtain ⟨t, a1, o, b1, b2, b3⟩ := body p e s m args below meth c s₁ B hml ht hP s₁ hh0 (Stand.of_body B)
    exact ⟨t, o, a1, b1, b2, b3⟩
/-- the table of a body with handlers -/
theorem vx_table {p : Program} {x y : MethodName} {S : Spec} {cc bytes : ByteArray} {maxL maxL' : Nat} {ret ret' : Option FieldType} {e : Env} {s s₁ : State} {m : MethodId} {args : Array Value} {below : List Frame} {meth : Method} {c : Code} {hh : List (Nat × Nat × Nat × Nat)}
    (B : BodyLoose p l y S cc maxL ret e s m args below meth c s₁) (h : (Cond.codeWith y bytes maxL' ret' hh).before args s = true) : c.exceptionTable.toList = tableOf hh := by
  obtain ⟨m9, meth9, c9, hn9, h1, h2, -, -, h6, -⟩ := Cond.codeWith_spec h
  cases Option.some.inj (hn9.symm.trans B.named)
  cases Option.some.inj (h1.symm.trans B.method)
  cases Option.some.inj (h2.symm.trans (Stand.of_body B).code)
  rw [← h6, table_eq]
end Bodies
end VXA
/-! ===== END ===== -/
/-! ===== BEGIN a static call of a method with an exception table ===== -/
section VXS
variable {p : Program} {l : Launch} {e : Env} {R : Room} {s : State} {m : MethodId} {args : Array Value} {below : List Frame} {meth : Method} {c : Code} {T : State} {H : Heap} {locs : List Loc} {cells slots : Nat}
abbrev vx_CSW (R : Room) (s : State) (args : Array Value) (own : String) (index : Nat) (y : MethodName) (bytes : ByteArray) (maxL : Nat) (ret : Option FieldType) (hh : List (Nat × Nat × Nat × Nat)) (ws : List Cond) (rm : Room) (mc ms n : Nat) : Prop :=
  (rm.cells = mc ∧ rm.slots = ms ∧ rm.frames + 1 ≤ R.frames ∧ 8 + (maxL + 11) + rm.locals ≤ R.locals ∧ (∀ w ∈ ws, ∀ (a' : Array Value) (U : State), s.WarmedH U.vm → w.before a' U = true) ∧ Cond.codeWith y bytes maxL ret hh ∈ ws) ∧
  (Cond.codeWith y bytes maxL ret hh).before args s = true ∧ (Cond.initialized y.cls).before args s = true ∧ (y.cls ≠ "java/lang/invoke/MethodHandle" ∧ y.cls ≠ "java/lang/invoke/VarHandle") ∧
  (∀ sig, parseMethodDescriptor y.desc = some sig → n = sig.parameters.length) ∧ (Cond.methodLink own index y).before args s = true ∧ (Cond.static y).before args s = true
theorem vx_cwSW {own : String} {index maxL mc ms : Nat} {y : MethodName} {bytes : ByteArray} {ret : Option FieldType} {hh : List (Nat × Nat × Nat × Nat)} {Ts ws ws' : List Cond} {rm : Room} (n : Nat) (ht : ∀ w ∈ Ts, w.before args s = true) (hT : GoodIn Ts (va_wsS own index y ws)) (hw : ws = Cond.codeWith y bytes maxL ret hh :: ws') (hrc : rm.cells = mc) (hrs : rm.slots = ms)
    (hd : y.cls ≠ "java/lang/invoke/MethodHandle" ∧ y.cls ≠ "java/lang/invoke/VarHandle" ∧ (parseMethodDescriptor y.desc).map (fun d => d.parameters.length) = some n) (hR : rm.frames + 1 ≤ R.frames ∧ 8 + (maxL + 11) + rm.locals ≤ R.locals) :
    vx_CSW R s args own index y bytes maxL ret hh ws rm mc ms n := by
  have ok : ∀ w ∈ va_wsS own index y ws, w.before args s = true := fun w h => ht w (hT w h).1
  have hG : GoodIn Ts ws := fun w h => hT w (by unfold va_wsS; exact List.mem_append_right _ h)
  have hc : Cond.codeWith y bytes maxL ret hh ∈ ws := by rw [hw]; exact List.mem_cons_self
  refine ⟨⟨hrc, hrs, hR.1, hR.2, pay_in ht hG, hc⟩, ht _ (hG _ hc).1, ok _ (by simp [va_wsS]), ⟨hd.1, hd.2.1⟩, fun sig h => ?_, ok _ (by simp [va_wsS]), ok _ (by simp [va_wsS])⟩
  have h2 := hd.2.2
  rw [h] at h2
  exact (Option.some.inj h2).symm
theorem vx_callSW (X : Stand p l e R s m args below meth c T locs cells slots) (hexec : p.tables.exec = Jvm.exec) {own : String} {index : Nat} {y : MethodName} {bytes : ByteArray} {maxL : Nat} {ret : Option FieldType} {hh : List (Nat × Nat × Nat × Nat)}
    (hown : s.vm.findClass own = some m.cls) (hlink : (Cond.methodLink own index y).before args s = true) (hstat : (Cond.static y).before args s = true) (hinit : (Cond.initialized y.cls).before args s = true)
    (hcode : (Cond.codeWith y bytes maxL ret hh).before args s = true) (hy : y.cls ≠ "java/lang/invoke/MethodHandle" ∧ y.cls ≠ "java/lang/invoke/VarHandle")
    {W9 : Nat} {Pre : Pt → Array Value → Prop} {Post : Pt → Array Value → Option Value → Pt → Prop} (hK : Back l R p e below s args y 3 W9 Pre Post)
    {g : JFrame} (hg : g.method = m) (hsize : g.locals.size = c.maxLocals) {argsL rest : List Value} (hlen : ∀ sig, parseMethodDescriptor y.desc = some sig → argsL.length = sig.parameters.length)
    (hstack : g.stack = argsL.reverse ++ rest) (hW : 2 * g.monitorRoom + (rest.map fun v => v.category).sum ≤ W9) (hdg : decode c.code g.pc = .ok (.invokestatic index, 3))
    (hpre : ∀ vm₁, s.WarmedH vm₁ → Pre ⟨T.setVm vm₁, locs, cells, slots⟩ argsL.toArray) :
    ∃ (v : Option Value) (vm₁ : Vm) (B : Pt), s.WarmedH vm₁ ∧ Stand p l e R s m args below meth c B.U B.locs B.cells B.slots ∧ Post ⟨T.setVm vm₁, locs, cells, slots⟩ argsL.toArray v B ∧
      ∀ target, Steps p.tables e below (B.U.setTop { g with pc := g.pc + 3, stack := v.toList ++ rest }) target → Steps p.tables e below (T.setTop g) target := by
  obtain ⟨mk, methM, cM, hnamed, hmethM, -, -, -, -, -, -, hsigM⟩ := Cond.codeWith_spec hcode
  have hstatic : methM.isStatic = true := Cond.static_spec hnamed hmethM hstat
  obtain ⟨kP, hkP, -⟩ := className_of_methodNamed hnamed
  have hinitP : kP.init = .initialized := Cond.initialized_spec (findClass_of_methodNamed hnamed) hkP hinit
  obtain ⟨vm₁, X₁, hstep₁⟩ := X.invokestatic hexec hown hlink hnamed hmethM hstatic hkP hinitP hy (g := g) hg (argsL := argsL) (rest := rest) (hlen _ hsigM) hstack hdg
  obtain ⟨v, B, X', hpost, hsteps⟩ := hK m meth c ⟨T.setVm vm₁, locs, cells, slots⟩ { g with stack := rest } (.invokestatic index) mk argsL.toArray X₁ hg hsize hdg hW (X₁.named hnamed) (hpre vm₁ X₁.warmed)
  exact ⟨v, vm₁, B, X₁.warmed, X', hpost, fun target h => hstep₁ _ fun acts => by rw [doInvoke_state]; exact hsteps.trans h⟩
theorem vx_runSW {y : MethodName} {bytes cc : ByteArray} {maxL nL mc ms n index : Nat} {ret : Option FieldType} {hh : List (Nat × Nat × Nat × Nat)} {ws : List Cond} {rm : Room} {Pc : Array Value → State → Prop} {Qc : Array Value → State → Outcome → State → Prop} {free : Addr → Prop} {Ts : List Cond} {own : String} {As rest : List Value} {g : JFrame}
    (S : CallFix p m c cc nL s args Ts own) (hM : Met l y ws rm Pc Qc mc ms free) (cw : vx_CSW R s args own index y bytes maxL ret hh ws rm mc ms n) (hp : PreS s H Pc As)
    (hg : g.method = m) (hn : As.length = n) (hsize : g.locals.size = nL) (hstack : g.stack = As.reverse ++ rest) (hW : 2 * g.monitorRoom + (rest.map fun v => v.category).sum ≤ 8) (hdg : decode cc g.pc = .ok (.invokestatic index, 3)) (hf : cells + mc ≤ R.cells ∧ slots + ms ≤ R.slots) :
    va_Run p l e R s m args below meth c H locs cells slots mc ms g rest (Qc As.toArray) (free) := by
  obtain ⟨⟨hrc, hrs, hfr, hlo, hws, hcw⟩, hcode, hini, hy, hlen, hl, hstt⟩ := cw
  have hK : Back l R p e below s args y 3 8 (PreOf R mc ms Pc) (PostOf Qc mc ms free) := va_backW (hh := hh) (bytes := bytes) (maxL := maxL) (ret := ret) hM hp.1 hrc hrs hfr hlo hws hcw (fun a' U hW => word_at hW (Or.inl (by first | rfl | simp [Cond.onTables, Cond.keeps, Cond.steady])) hini)
  obtain ⟨hx, hb, hml, ho, -⟩ := S
  intro T hT X
  obtain ⟨v, vm₁, ⟨U', l2, c2, s2⟩, hW₁, X', ⟨g', mk, t, L, e1, e2, hq, h1, hL, h2, h3⟩, st⟩ := vx_callSW X hx (hh := hh) (bytes := bytes) (maxL := maxL) (ret := ret) ho hl hstt hini hcode hy hK hg (hsize.trans hml.symm) (argsL := As) (rest := rest) (fun sig h => hn.trans (hlen sig h)) hstack hW (by rw [hb]; exact hdg)
    (fun vm₁ hW₁ => ⟨hf.1, hf.2, hp.2 (T.setVm vm₁) hT hW₁⟩)
  dsimp only [Pt.U, Pt.locs, Pt.cells, Pt.slots] at X' e1 e2 h1 h2 h3 st
  subst h1; subst h2; subst h3
  exact ⟨v, (T.setVm vm₁).calling g' mk As.toArray, t, U', L, hT, X', hL, e1, e2, hq, st⟩
/-- not caught here, past rows that name other classes: it goes on to the caller -/
theorem vx_outP {p : Program} {l : Launch} {e : Env} {R : Room} {s : State} {m : MethodId} {args : Array Value} {below : List Frame} {meth : Method} {c : Code} {H : Heap} {locs : List Loc} {cells slots : Nat} {free : Addr → Prop} {ls : Array Slot} {rest : List Value} {Qc : Array Value → State → Outcome → State → Prop} {XC : String → State → State → Prop}
    {pc : Nat} {own E : String} {ce : Cell} {q : Addr} {mc ms : Nat} (hown : s.vm.findClass own = some m.cls) (hlocks : meth.locks = false)
    (hpass : ∀ z ∈ c.exceptionTable.toList, covers z pc = false ∨ (z.catchType ≠ 0 ∧ ∃ nm : String, (Cond.classLink own z.catchType nm).before args s = true ∧ va_Nc E nm s)) (hcell : H[q]? = some ce) (hv : ce.vm = .none) (hcl : s.vm.findClass E = some ce.cls)
    (hx : ∀ t : State, t.heap = H → s.vm.Alike t.vm → XC E s t) (hf : ∀ z ∈ locs, free z.base) (hc : cells ≤ mc) (hs : slots ≤ ms) :
    vx_W p l e R s m args below meth c H locs cells slots (vx_MQ below Qc XC args s mc ms free) (F0 m pc ls rest) q := by
  intro T hT X
  have hpl : e.platform.magicAccessors = ({} : Platform).magicAccessors := by rw [X.admits.platform]
  obtain ⟨vm', hW', X', st⟩ := X.outThrough hlocks q (g := F0 m pc ls rest) rfl rfl rfl (cell := ce) (by rw [hT]; exact hcell) (by rw [hv]; rfl)
    (by obtain ⟨k9, h9, -⟩ := Vm.findClass_spec hcl; exact ⟨k9, h9⟩) (fun z hz => by
      rcases hpass z hz with h | ⟨hz0, nm, hl1, hn1⟩
      · exact Or.inl h
      · obtain ⟨c6, hc6, hcl6⟩ := Cond.classLink_spec hown hl1 e.platform hpl
        obtain ⟨a8, b8, h1, h2, h3⟩ := hn1
        cases Option.some.inj (h1.symm.trans hcl)
        cases Option.some.inj (h2.symm.trans hc6)
        exact Or.inr ⟨hz0, _, hcl6, h3⟩)
  obtain ⟨g₀, hfr⟩ := X'.frames_eq
  have hcell9 : ((T.setVm vm').setFrames (.throwing q :: below)).heap[q]? = some ce := by
    show T.heap[q]? = some ce
    rw [hT]; exact hcell
  have hend : Ended ((T.setVm vm').setFrames (.throwing q :: below)) below (.threw q) := State.frames_setFrames _ (State.cur_lt_of_frames hfr)
  refine ⟨(T.setVm vm').setFrames (.throwing q :: below), ?_, .threw q, X'.here.running, hend, Or.inr ⟨q, rfl, E, ce, locs, hx _ hT (X'.ends _).1.alike, hcell9, hv, hcl, (X'.ends _).1, (X'.ends _).2.mono hc hs, hf⟩⟩
  rw [X.pushThrowing_eq]
  exact st
/-- a thing of a world lies in the heap -/
theorem vx_lt {D : va_G} {cl : List vw_C} {ws : va_W} {H1 : Heap} (h : va_P D cl ws H1) {k : Nat} {q : Nat × va_E} (hk : ws[k]? = some q) : q.1 < H1.size := (h k q hk).lt
end VXS
/-! ===== END ===== -/
/-! ===== BEGIN methods with a table of their own: called by a name, returning or throwing ===== -/
section VXH
/-! vx_backW, vx_callVX, vx_callSX, vx_callVW, vx_runVW, vx_runVX, vx_runSX, vx_ofWH follow the same proofs as their sisters above (Free/Laws.lean, Shelf42/LK1.lean); vx_outP calls Shelf42/NT130.lean (outThrough). -/
section
variable {l : Launch} {R : Room} {p : Program} {e : Env} {below : List Frame} {s : State} {sargs : Array Value} {y : MethodName} {len W9 : Nat}
theorem vx_backW {ws : List Cond} {rm : Room} {Pc : Array Value → State → Prop} {Qc : Array Value → State → Outcome → State → Prop} {XC : String → State → State → Prop} {mc ms : Nat} {free : Addr → Prop} {bytes : ByteArray} {maxL : Nat} {ret : Option FieldType} {hh : List (Nat × Nat × Nat × Nat)}
    (hM : vx_Met l y ws rm Pc Qc XC mc ms free) (hblind : FrameBlind Pc) (hrc : rm.cells = mc) (hrs : rm.slots = ms)
    (hframes : rm.frames + 1 ≤ R.frames) (hlocals : W9 + (maxL + 11) + rm.locals ≤ R.locals)
    (hws : ∀ w ∈ ws, ∀ a' U, s.WarmedH U.vm → w.before a' U = true) (hcode : Cond.codeWith y bytes maxL ret hh ∈ ws) (hinit : ∀ a' U, s.WarmedH U.vm → (Cond.initialized y.cls).before a' U = true) :
    vx_Back l R p e below s sargs y len W9 (PreOf R mc ms Pc) (PostOf Qc mc ms free) (vx_Post XC mc ms free) := by
  intro m meth c A g ig mk a X hg hsize hdg hW hn hp
  have h1 : (headSpec ws rm).pre.before a A.U = true := atoms_intro fun w hw => hws w hw _ _ X.warmed
  have h2 : (Cond.codeWith y bytes maxL ret hh).before a A.U = true := hws _ hcode _ _ X.warmed
  have h3 : (Cond.initialized y.cls).before a A.U = true := hinit _ _ X.warmed
  have h4 : A.cells + (headSpec ws rm).room.cells ≤ R.cells := by rw [show (headSpec ws rm).room.cells = mc from hrc]; exact hp.1
  have h5 : A.slots + (headSpec ws rm).room.slots ≤ R.slots := by rw [show (headSpec ws rm).room.slots = ms from hrs]; exact hp.2.1
  have hPc : Pc a (A.U.calling g mk a) := hblind _ _ _ _ hp.2.2
  obtain ⟨U, Ls, c0, s0⟩ := A
  dsimp only [Pt.U, Pt.locs, Pt.cells, Pt.slots] at h1 h2 h3 h4 h5 X hn hPc ⊢
  obtain ⟨m9, methY, cY, hn9, hmY, hcY, -, hlY, -⟩ := Cond.codeWith_spec h2
  cases Option.some.inj (hn9.symm.trans hn)
  obtain ⟨kY, hkY, -⟩ := className_of_methodNamed hn
  have hinitY : kY.init = .initialized := Cond.initialized_spec (findClass_of_methodNamed hn) hkY h3
  have h : At U g.method c below := by rw [hg]; exact X.here
  have hlocals9 : W9 + (maxL + 11) + (headSpec ws rm).room.locals ≤ R.locals := hlocals
  have happ : (headSpec ws rm).appliesLoose y e.platform (U.calling g mk a) = true :=
    Spec.appliesLoose_calling (g := g) h hdg hn hkY hinitY
      (X.room_calling (g := g) (R' := (headSpec ws rm).room) hsize hmY hcY hframes (by rw [hlY]; omega) h4 h5) h1
  obtain ⟨mid, hmid⟩ := h.above
  have hfr : (U.setTop g).frames = (.java g :: mid) ++ below := by rw [State.frames_setTop' g h.top, hmid]; rfl
  obtain ⟨o, s₂, hsteps, -, hend, hq⟩ := Steps.callFree hM p X.admits X.cas X.clock (acts := []) hfr happ hPc trivial
  have hq' : vx_Q Qc XC mc ms free a (U.calling g mk a) o s₂ := hq
  rw [State.frames_setTop' g h.top] at hend
  obtain ⟨g₀, hg0⟩ := Option.isSome_iff_exists.mp h.top
  obtain ⟨r, hr⟩ := State.topJava?_eq_some.mp hg0
  have hr' : (({ U with heap := s₂.heap, slotsUsed := s₂.slotsUsed } : State).setVm s₂.vm).frames = .java g₀ :: r := hr
  rcases hq' with ⟨hqc, L, hfe, hL⟩ | ⟨q, rfl, E, ce, L, hx, hce, hcv, hcl, hW₂, hsm, hL⟩
  · obtain ⟨⟨v, rfl⟩, hW₂, e2, q2, q3, q4, q5, q6⟩ := id hfe
    have e3 : s₂ = ({ (U.calling g mk a).setFrames s₂.frames with heap := s₂.heap, slotsUsed := s₂.slotsUsed } : State).setVm s₂.vm := by
      have : s₂ = ({ s₂ with vm := (U.calling g mk a).vm } : State).setVm s₂.vm := rfl
      rw [e2] at this
      exact this
    obtain ⟨c₂, i₂, len₂, hc₂, hd₂, hf₂⟩ := hend
    have hW' : U.WarmedH s₂.vm := hW₂
    have hcc : c₂ = c := by
      have h1 : s₂.code? g.method = U.code? g.method := by
        rw [State.code?_eq, State.code?_eq, hW'.alike.method?]
      exact Option.some.inj (hc₂.symm.trans (h1.trans h.code))
    subst hcc
    have hlen : len₂ = len := by rw [hdg] at hd₂; cases hd₂; rfl
    subst hlen
    have hs₂ : s₂ = (({ U with heap := s₂.heap, slotsUsed := s₂.slotsUsed } : State).setVm s₂.vm).setTop { g with pc := g.pc + len₂, stack := v.toList ++ g.stack } := by
      refine e3.trans ?_
      rw [hf₂, State.calling_eq h.top, State.setFrames_setFrames, State.setTop_of_frames _ hr', hr]
      rfl
    have hsame : U.sameButNew ({ U with heap := s₂.heap, slotsUsed := s₂.slotsUsed } : State) L mc ms := by
      refine ⟨?_, q2, q3, q4, q5, q6⟩
      obtain ⟨t, ht, -⟩ := State.frames_cons hr
      show ({ U with heap := s₂.heap, slotsUsed := s₂.slotsUsed } : State) = { U.setFrames U.frames with heap := s₂.heap, slotsUsed := s₂.slotsUsed }
      rw [State.setFrames_self ht]
    subst hg
    refine Or.inl ⟨v, ⟨(({ U with heap := s₂.heap, slotsUsed := s₂.slotsUsed } : State).setVm s₂.vm), Ls ++ L, c0 + mc, s0 + ms⟩,
      ⟨X.admits, X.cas, X.clock, X.frames, X.room, X.hears, X.method, X.code, (X.here.setHeapUsed s₂.heap s₂.slotsUsed).setVm hW'.alike, X.tail, State.WarmedH.trans X.warmed hW', X.limits, X.bytes, X.same.trans (hsame.setVm s.vm)⟩,
      ⟨g, mk, s₂, L, rfl, rfl, hqc, rfl, hL, rfl, rfl⟩, ?_⟩
    show Steps p.tables e below _ ((({ U with heap := s₂.heap, slotsUsed := s₂.slotsUsed } : State).setVm s₂.vm).setTop { g with pc := g.pc + len₂, stack := v.toList ++ g.stack })
    rw [← hs₂]
    exact hsteps
  · obtain ⟨e2, q2, q3, q4, q5, q6⟩ := id hsm
    have e3 : s₂ = ({ (U.calling g mk a).setFrames s₂.frames with heap := s₂.heap, slotsUsed := s₂.slotsUsed } : State).setVm s₂.vm := by
      have : s₂ = ({ s₂ with vm := (U.calling g mk a).vm } : State).setVm s₂.vm := rfl
      rw [e2] at this
      exact this
    have hf₂ : s₂.frames = .throwing q :: .java g :: U.frames.tail := hend
    have hW' : U.WarmedH s₂.vm := hW₂
    have hs₂ : s₂ = ((({ U with heap := s₂.heap, slotsUsed := s₂.slotsUsed } : State).setVm s₂.vm).setTop g).pushFrame (.throwing q) := by
      refine e3.trans ?_
      rw [hf₂, State.calling_eq h.top, State.setFrames_setFrames, State.pushFrame, State.frames_setTop _ hr', State.setTop_of_frames _ hr', State.setFrames_setFrames, hr]
      rfl
    have hsame : U.sameButNew ({ U with heap := s₂.heap, slotsUsed := s₂.slotsUsed } : State) L mc ms := by
      refine ⟨?_, q2, q3, q4, q5, q6⟩
      obtain ⟨t, ht, -⟩ := State.frames_cons hr
      show ({ U with heap := s₂.heap, slotsUsed := s₂.slotsUsed } : State) = { U.setFrames U.frames with heap := s₂.heap, slotsUsed := s₂.slotsUsed }
      rw [State.setFrames_self ht]
    subst hg
    refine Or.inr ⟨q, ⟨(({ U with heap := s₂.heap, slotsUsed := s₂.slotsUsed } : State).setVm s₂.vm), Ls ++ L, c0 + mc, s0 + ms⟩,
      ⟨X.admits, X.cas, X.clock, X.frames, X.room, X.hears, X.method, X.code, (X.here.setHeapUsed s₂.heap s₂.slotsUsed).setVm hW'.alike, X.tail, State.WarmedH.trans X.warmed hW', X.limits, X.bytes, X.same.trans (hsame.setVm s.vm)⟩,
      ⟨g, mk, s₂, L, E, ce, rfl, rfl, hx, hce, hcv, hcl, rfl, hL, rfl, rfl⟩, ?_⟩
    show Steps p.tables e below _ (((({ U with heap := s₂.heap, slotsUsed := s₂.slotsUsed } : State).setVm s₂.vm).setTop g).pushFrame (.throwing q))
    rw [← hs₂]
    exact hsteps
end
variable {p : Program} {l : Launch} {e : Env} {R : Room} {s : State} {m : MethodId} {args : Array Value} {below : List Frame} {meth : Method} {c : Code} {T : State} {H : Heap} {locs : List Loc} {cells slots : Nat}
theorem vx_callVX (X : Stand p l e R s m args below meth c T locs cells slots) (hexec : p.tables.exec = Jvm.exec) {own C : String} {index : Nat} {y : MethodName} {bytes : ByteArray} {maxL : Nat} {ret : Option FieldType} {hh : List (Nat × Nat × Nat × Nat)}
    (hown : s.vm.findClass own = some m.cls) (hlink : (Cond.methodLink own index y).before args s = true) (hinst : (Cond.instanceMethod y).before args s = true) (hsel : (Cond.selects C y y).before args s = true)
    (hcode : (Cond.codeWith y bytes maxL ret hh).before args s = true) (hy : y.cls ≠ "java/lang/invoke/MethodHandle" ∧ y.cls ≠ "java/lang/invoke/VarHandle")
    {W9 : Nat} {Pre : Pt → Array Value → Prop} {Post : Pt → Array Value → Option Value → Pt → Prop} {PostX : Pt → Array Value → Addr → Pt → Prop} (hK : vx_Back l R p e below s args y 3 W9 Pre Post PostX)
    {b : Addr} {cellB : Cell} (hcell : T.heap[b]? = some cellB) (hobj : cellB.vm.isStatics = false) (hcls : s.vm.findClass C = some cellB.cls)
    {g : JFrame} (hg : g.method = m) (hsize : g.locals.size = c.maxLocals) {argsL rest : List Value} (hlen : ∀ sig, parseMethodDescriptor y.desc = some sig → argsL.length = sig.parameters.length)
    (hstack : g.stack = argsL.reverse ++ .ref b :: rest) (hW : 2 * g.monitorRoom + (rest.map fun v => v.category).sum ≤ W9) (hdg : decode c.code g.pc = .ok (.invokevirtual index, 3))
    (hpre : ∀ vm₁, s.WarmedH vm₁ → Pre ⟨T.setVm vm₁, locs, cells, slots⟩ (Value.ref b :: argsL).toArray) :
    (∃ (v : Option Value) (vm₁ : Vm) (B : Pt), s.WarmedH vm₁ ∧ Stand p l e R s m args below meth c B.U B.locs B.cells B.slots ∧ Post ⟨T.setVm vm₁, locs, cells, slots⟩ (Value.ref b :: argsL).toArray v B ∧
      ∀ target, Steps p.tables e below (B.U.setTop { g with pc := g.pc + 3, stack := v.toList ++ rest }) target → Steps p.tables e below (T.setTop g) target) ∨
    (∃ (q : Addr) (vm₁ : Vm) (B : Pt), s.WarmedH vm₁ ∧ Stand p l e R s m args below meth c B.U B.locs B.cells B.slots ∧ PostX ⟨T.setVm vm₁, locs, cells, slots⟩ (Value.ref b :: argsL).toArray q B ∧
      Steps p.tables e below (T.setTop g) ((B.U.setTop { g with stack := rest }).pushFrame (.throwing q))) := by
  obtain ⟨mk, methM, hnamed, hmethM, hstM, habM⟩ := Cond.instanceMethod_spec hinst
  obtain ⟨m8, methM', cM, hn8, hmethM', -, -, -, -, -, -, hsigM⟩ := Cond.codeWith_spec hcode
  cases Option.some.inj (hn8.symm.trans hnamed)
  cases hmethM.symm.trans hmethM'
  obtain ⟨c2, r2, m2, q1, q2, q3, q4, kP, hkP, hkPi⟩ := Cond.selects_spec hsel
  cases hcls.symm.trans q1
  cases (State.methodFound?_of_named hnamed hy).symm.trans q2
  cases hnamed.symm.trans q3
  have hselP : selectMethod e.platform s.vm cellB.cls mk = .method mk := by rw [Launch.admits_selectMethod X.admits]; exact q4
  obtain ⟨vm₁, X₁, hstep₁⟩ := X.invokevirtual hexec hown hlink hnamed hmethM hstM hkP hkPi hy (a := b) (cell := cellB) hcell
    (fun z h => by rw [h] at hobj; cases hobj) hselP hmethM habM hkP hkPi (g := g) hg (argsL := argsL) (rest := rest) (hlen _ hsigM) hstack hdg
  rcases hK m meth c ⟨T.setVm vm₁, locs, cells, slots⟩ { g with stack := rest } (.invokevirtual index) mk (Value.ref b :: argsL).toArray X₁ hg hsize hdg hW (X₁.named hnamed) (hpre vm₁ X₁.warmed) with ⟨v, B, X', hpost, hsteps⟩ | ⟨q, B, X', hpost, hsteps⟩
  · exact Or.inl ⟨v, vm₁, B, X₁.warmed, X', hpost, fun target h => hstep₁ _ fun acts => by rw [doInvoke_state]; exact hsteps.trans h⟩
  · exact Or.inr ⟨q, vm₁, B, X₁.warmed, X', hpost, hstep₁ _ fun acts => by rw [doInvoke_state]; exact hsteps⟩
theorem vx_callSX (X : Stand p l e R s m args below meth c T locs cells slots) (hexec : p.tables.exec = Jvm.exec) {own : String} {index : Nat} {y : MethodName} {bytes : ByteArray} {maxL : Nat} {ret : Option FieldType} {hh : List (Nat × Nat × Nat × Nat)}
    (hown : s.vm.findClass own = some m.cls) (hlink : (Cond.methodLink own index y).before args s = true) (hstat : (Cond.static y).before args s = true) (hinit : (Cond.initialized y.cls).before args s = true)
    (hcode : (Cond.codeWith y bytes maxL ret hh).before args s = true) (hy : y.cls ≠ "java/lang/invoke/MethodHandle" ∧ y.cls ≠ "java/lang/invoke/VarHandle")
    {W9 : Nat} {Pre : Pt → Array Value → Prop} {Post : Pt → Array Value → Option Value → Pt → Prop} {PostX : Pt → Array Value → Addr → Pt → Prop} (hK : vx_Back l R p e below s args y 3 W9 Pre Post PostX)
    {g : JFrame} (hg : g.method = m) (hsize : g.locals.size = c.maxLocals) {argsL rest : List Value} (hlen : ∀ sig, parseMethodDescriptor y.desc = some sig → argsL.length = sig.parameters.length)
    (hstack : g.stack = argsL.reverse ++ rest) (hW : 2 * g.monitorRoom + (rest.map fun v => v.category).sum ≤ W9) (hdg : decode c.code g.pc = .ok (.invokestatic index, 3))
    (hpre : ∀ vm₁, s.WarmedH vm₁ → Pre ⟨T.setVm vm₁, locs, cells, slots⟩ argsL.toArray) :
    (∃ (v : Option Value) (vm₁ : Vm) (B : Pt), s.WarmedH vm₁ ∧ Stand p l e R s m args below meth c B.U B.locs B.cells B.slots ∧ Post ⟨T.setVm vm₁, locs, cells, slots⟩ argsL.toArray v B ∧
      ∀ target, Steps p.tables e below (B.U.setTop { g with pc := g.pc + 3, stack := v.toList ++ rest }) target → Steps p.tables e below (T.setTop g) target) ∨
    (∃ (q : Addr) (vm₁ : Vm) (B : Pt), s.WarmedH vm₁ ∧ Stand p l e R s m args below meth c B.U B.locs B.cells B.slots ∧ PostX ⟨T.setVm vm₁, locs, cells, slots⟩ argsL.toArray q B ∧
      Steps p.tables e below (T.setTop g) ((B.U.setTop { g with stack := rest }).pushFrame (.throwing q))) := by
  obtain ⟨mk, methM, cM, hnamed, hmethM, -, -, -, -, -, -, hsigM⟩ := Cond.codeWith_spec hcode
  have hstatic : methM.isStatic = true := Cond.static_spec hnamed hmethM hstat
  obtain ⟨kP, hkP, -⟩ := className_of_methodNamed hnamed
  have hinitP : kP.init = .initialized := Cond.initialized_spec (findClass_of_methodNamed hnamed) hkP hinit
  obtain ⟨vm₁, X₁, hstep₁⟩ := X.invokestatic hexec hown hlink hnamed hmethM hstatic hkP hinitP hy (g := g) hg (argsL := argsL) (rest := rest) (hlen _ hsigM) hstack hdg
  rcases hK m meth c ⟨T.setVm vm₁, locs, cells, slots⟩ { g with stack := rest } (.invokestatic index) mk argsL.toArray X₁ hg hsize hdg hW (X₁.named hnamed) (hpre vm₁ X₁.warmed) with ⟨v, B, X', hpost, hsteps⟩ | ⟨q, B, X', hpost, hsteps⟩
  · exact Or.inl ⟨v, vm₁, B, X₁.warmed, X', hpost, fun target h => hstep₁ _ fun acts => by rw [doInvoke_state]; exact hsteps.trans h⟩
  · exact Or.inr ⟨q, vm₁, B, X₁.warmed, X', hpost, hstep₁ _ fun acts => by rw [doInvoke_state]; exact hsteps⟩
theorem vx_callVW (X : Stand p l e R s m args below meth c T locs cells slots) (hexec : p.tables.exec = Jvm.exec) {own C : String} {index : Nat} {y : MethodName} {bytes : ByteArray} {maxL : Nat} {ret : Option FieldType} {hh : List (Nat × Nat × Nat × Nat)}
    (hown : s.vm.findClass own = some m.cls) (hlink : (Cond.methodLink own index y).before args s = true) (hinst : (Cond.instanceMethod y).before args s = true) (hsel : (Cond.selects C y y).before args s = true)
    (hcode : (Cond.codeWith y bytes maxL ret hh).before args s = true) (hy : y.cls ≠ "java/lang/invoke/MethodHandle" ∧ y.cls ≠ "java/lang/invoke/VarHandle")
    {W9 : Nat} {Pre : Pt → Array Value → Prop} {Post : Pt → Array Value → Option Value → Pt → Prop} (hK : Back l R p e below s args y 3 W9 Pre Post)
    {b : Addr} {cellB : Cell} (hcell : T.heap[b]? = some cellB) (hobj : cellB.vm.isStatics = false) (hcls : s.vm.findClass C = some cellB.cls)
    {g : JFrame} (hg : g.method = m) (hsize : g.locals.size = c.maxLocals) {argsL rest : List Value} (hlen : ∀ sig, parseMethodDescriptor y.desc = some sig → argsL.length = sig.parameters.length)
    (hstack : g.stack = argsL.reverse ++ .ref b :: rest) (hW : 2 * g.monitorRoom + (rest.map fun v => v.category).sum ≤ W9) (hdg : decode c.code g.pc = .ok (.invokevirtual index, 3))
    (hpre : ∀ vm₁, s.WarmedH vm₁ → Pre ⟨T.setVm vm₁, locs, cells, slots⟩ (Value.ref b :: argsL).toArray) :
    ∃ (v : Option Value) (vm₁ : Vm) (B : Pt), s.WarmedH vm₁ ∧ Stand p l e R s m args below meth c B.U B.locs B.cells B.slots ∧ Post ⟨T.setVm vm₁, locs, cells, slots⟩ (Value.ref b :: argsL).toArray v B ∧
      ∀ target, Steps p.tables e below (B.U.setTop { g with pc := g.pc + 3, stack := v.toList ++ rest }) target → Steps p.tables e below (T.setTop g) target := by
  obtain ⟨mk, methM, hnamed, hmethM, hstM, habM⟩ := Cond.instanceMethod_spec hinst
  obtain ⟨m8, methM', cM, hn8, hmethM', -, -, -, -, -, -, hsigM⟩ := Cond.codeWith_spec hcode
  cases Option.some.inj (hn8.symm.trans hnamed)
  cases hmethM.symm.trans hmethM'
  obtain ⟨c2, r2, m2, q1, q2, q3, q4, kP, hkP, hkPi⟩ := Cond.selects_spec hsel
  cases hcls.symm.trans q1
  cases (State.methodFound?_of_named hnamed hy).symm.trans q2
  cases hnamed.symm.trans q3
  have hselP : selectMethod e.platform s.vm cellB.cls mk = .method mk := by rw [Launch.admits_selectMethod X.admits]; exact q4
  obtain ⟨vm₁, X₁, hstep₁⟩ := X.invokevirtual hexec hown hlink hnamed hmethM hstM hkP hkPi hy (a := b) (cell := cellB) hcell
    (fun z h => by rw [h] at hobj; cases hobj) hselP hmethM habM hkP hkPi (g := g) hg (argsL := argsL) (rest := rest) (hlen _ hsigM) hstack hdg
  obtain ⟨v, B, X', hpost, hsteps⟩ := hK m meth c ⟨T.setVm vm₁, locs, cells, slots⟩ { g with stack := rest } (.invokevirtual index) mk (Value.ref b :: argsL).toArray X₁ hg hsize hdg hW (X₁.named hnamed) (hpre vm₁ X₁.warmed)
  exact ⟨v, vm₁, B, X₁.warmed, X', hpost, fun target h => hstep₁ _ fun acts => by rw [doInvoke_state]; exact hsteps.trans h⟩
abbrev vx_CVW (R : Room) (s : State) (args : Array Value) (own C : String) (index : Nat) (y : MethodName) (bytes : ByteArray) (maxL : Nat) (ret : Option FieldType) (hh : List (Nat × Nat × Nat × Nat)) (ws : List Cond) (rm : Room) (mc ms n : Nat) : Prop :=
  (rm.cells = mc ∧ rm.slots = ms ∧ rm.frames + 1 ≤ R.frames ∧ 8 + (maxL + 11) + rm.locals ≤ R.locals ∧ (∀ w ∈ ws, ∀ (a' : Array Value) (U : State), s.WarmedH U.vm → w.before a' U = true) ∧ Cond.codeWith y bytes maxL ret hh ∈ ws) ∧
  (Cond.codeWith y bytes maxL ret hh).before args s = true ∧ (Cond.initialized y.cls).before args s = true ∧ (y.cls ≠ "java/lang/invoke/MethodHandle" ∧ y.cls ≠ "java/lang/invoke/VarHandle") ∧
  (∀ sig, parseMethodDescriptor y.desc = some sig → n = sig.parameters.length) ∧ (Cond.methodLink own index y).before args s = true ∧ (Cond.instanceMethod y).before args s = true ∧ (Cond.selects C y y).before args s = true
theorem vx_cwVW {own C : String} {index maxL mc ms : Nat} {y : MethodName} {bytes : ByteArray} {ret : Option FieldType} {hh : List (Nat × Nat × Nat × Nat)} {Ts ws ws' : List Cond} {rm : Room} (n : Nat) (ht : ∀ w ∈ Ts, w.before args s = true) (hT : GoodIn Ts (wsV own index C y ws)) (hw : ws = Cond.codeWith y bytes maxL ret hh :: ws') (hrc : rm.cells = mc) (hrs : rm.slots = ms)
    (hd : y.cls = C ∧ y.cls ≠ "java/lang/invoke/MethodHandle" ∧ y.cls ≠ "java/lang/invoke/VarHandle" ∧ (parseMethodDescriptor y.desc).map (fun d => d.parameters.length) = some n) (hR : rm.frames + 1 ≤ R.frames ∧ 8 + (maxL + 11) + rm.locals ≤ R.locals) :
    vx_CVW R s args own C index y bytes maxL ret hh ws rm mc ms n := by
  obtain ⟨hC, hd⟩ := hd
  subst hC
  have ok : ∀ w ∈ wsV own index y.cls y ws, w.before args s = true := fun w h => ht w (hT w h).1
  have hG : GoodIn Ts ws := fun w h => hT w (by unfold wsV; exact List.mem_append_right _ h)
  have hc : Cond.codeWith y bytes maxL ret hh ∈ ws := by rw [hw]; exact List.mem_cons_self
  refine ⟨⟨hrc, hrs, hR.1, hR.2, pay_in ht hG, hc⟩, ht _ (hG _ hc).1, ok _ (by simp [wsV]), ⟨hd.1, hd.2.1⟩, fun sig h => ?_, ok _ (by simp [wsV]), ok _ (by simp [wsV]), ok _ (by simp [wsV])⟩
  have h2 := hd.2.2
  rw [h] at h2
  exact (Option.some.inj h2).symm
theorem vx_runVW {y : MethodName} {bytes cc : ByteArray} {maxL nL mc ms n index : Nat} {ret : Option FieldType} {hh : List (Nat × Nat × Nat × Nat)} {ws : List Cond} {rm : Room} {Pc : Array Value → State → Prop} {Qc : Array Value → State → Outcome → State → Prop} {free : Addr → Prop} {Ts : List Cond} {own C : String} {b : Addr} {As rest : List Value} {g : JFrame}
    (S : CallFix p m c cc nL s args Ts own) (hM : Met l y ws rm Pc Qc mc ms free) (cw : vx_CVW R s args own C index y bytes maxL ret hh ws rm mc ms n) (hp : PreV s H C b Pc As)
    (hg : g.method = m) (hn : As.length = n) (hsize : g.locals.size = nL) (hstack : g.stack = As.reverse ++ .ref b :: rest) (hW : 2 * g.monitorRoom + (rest.map fun v => v.category).sum ≤ 8) (hdg : decode cc g.pc = .ok (.invokevirtual index, 3)) (hf : cells + mc ≤ R.cells ∧ slots + ms ≤ R.slots) :
    va_Run p l e R s m args below meth c H locs cells slots mc ms g rest (Qc (Value.ref b :: As).toArray) free := by
  obtain ⟨⟨hrc, hrs, hfr, hlo, hws, hcw⟩, hcode, hini, hy, hlen, hl, hin, hse⟩ := cw
  have hK : Back l R p e below s args y 3 8 (PreOf R mc ms Pc) (PostOf Qc mc ms free) := va_backW (hh := hh) (bytes := bytes) (maxL := maxL) (ret := ret) hM hp.1 hrc hrs hfr hlo hws hcw (fun a' U hW => word_at hW (Or.inl (by first | rfl | simp [Cond.onTables, Cond.keeps, Cond.steady])) hini)
  obtain ⟨hx, hb, hml, ho, -⟩ := S
  obtain ⟨-, ⟨cellB, hcB, hoB, hclB⟩, hPc⟩ := hp
  intro T hT X
  obtain ⟨v, vm₁, ⟨U', l2, c2, s2⟩, hW₁, X', ⟨g', mk, t, L, e1, e2, hq, h1, hL, h2, h3⟩, st⟩ := vx_callVW X hx (C := C) (hh := hh) (bytes := bytes) (maxL := maxL) (ret := ret) ho hl hin hse hcode hy hK (by rw [hT]; exact hcB) hoB hclB hg (hsize.trans hml.symm) (argsL := As) (rest := rest) (fun sig h => hn.trans (hlen sig h)) hstack hW (by rw [hb]; exact hdg)
    (fun vm₁ hW₁ => ⟨hf.1, hf.2, hPc (T.setVm vm₁) hT hW₁⟩)
  dsimp only [Pt.U, Pt.locs, Pt.cells, Pt.slots] at X' e1 e2 h1 h2 h3 st
  subst h1; subst h2; subst h3
  exact ⟨v, (T.setVm vm₁).calling g' mk (Value.ref b :: As).toArray, t, U', L, hT, X', hL, e1, e2, hq, st⟩
section
variable {y : MethodName} {bytes cc : ByteArray} {maxL nL mc ms n index : Nat} {ret : Option FieldType} {ws : List Cond} {rm : Room} {Pc : Array Value → State → Prop} {Qc : Array Value → State → Outcome → State → Prop} {XC : String → State → State → Prop} {free : Addr → Prop} {Ts : List Cond} {own C : String} {b : Addr} {As rest : List Value} {g : JFrame}
theorem vx_runVX {hh : List (Nat × Nat × Nat × Nat)} (S : CallFix p m c cc nL s args Ts own) (hM : vx_Met l y ws rm Pc Qc XC mc ms free) (cw : vx_CVW R s args own C index y bytes maxL ret hh ws rm mc ms n) (hp : PreV s H C b Pc As)
    (hg : g.method = m) (hn : As.length = n) (hsize : g.locals.size = nL) (hstack : g.stack = As.reverse ++ .ref b :: rest) (hW : 2 * g.monitorRoom + (rest.map fun v => v.category).sum ≤ 8) (hdg : decode cc g.pc = .ok (.invokevirtual index, 3)) (hf : cells + mc ≤ R.cells ∧ slots + ms ≤ R.slots) :
    vx_Run p l e R s m args below meth c H locs cells slots mc ms g rest (Qc (Value.ref b :: As).toArray) XC free := by
  obtain ⟨⟨hrc, hrs, hfr, hlo, hws, hcw⟩, hcode, hini, hy, hlen, hl, hin, hse⟩ := cw
  have hK : vx_Back l R p e below s args y 3 8 (PreOf R mc ms Pc) (PostOf Qc mc ms free) (vx_Post XC mc ms free) := vx_backW (hh := hh) (bytes := bytes) (maxL := maxL) (ret := ret) hM hp.1 hrc hrs hfr hlo hws hcw (fun a' U hW => word_at hW (Or.inl (by first | rfl | simp [Cond.onTables, Cond.keeps, Cond.steady])) hini)
  obtain ⟨hx, hb, hml, ho, -⟩ := S
  obtain ⟨-, ⟨cellB, hcB, hoB, hclB⟩, hPc⟩ := hp
  intro T hT X
  rcases vx_callVX X hx (C := C) (hh := hh) (bytes := bytes) (maxL := maxL) (ret := ret) ho hl hin hse hcode hy hK (by rw [hT]; exact hcB) hoB hclB hg (hsize.trans hml.symm) (argsL := As) (rest := rest) (fun sig h => hn.trans (hlen sig h)) hstack hW (by rw [hb]; exact hdg)
    (fun vm₁ hW₁ => ⟨hf.1, hf.2, hPc (T.setVm vm₁) hT hW₁⟩) with ⟨v, vm₁, ⟨U', l2, c2, s2⟩, hW₁, X', ⟨g', mk, t, L, e1, e2, hq, h1, hL, h2, h3⟩, st⟩ | ⟨q, vm₁, ⟨U', l2, c2, s2⟩, hW₁, X', ⟨g', mk, t, L, E, ce, e1, e2, hq, hce, hcv, hcl, h1, hL, h2, h3⟩, st⟩
  · dsimp only [Pt.U, Pt.locs, Pt.cells, Pt.slots] at X' e1 e2 h1 h2 h3 st
    subst h1; subst h2; subst h3
    exact Or.inl ⟨v, (T.setVm vm₁).calling g' mk (Value.ref b :: As).toArray, t, U', L, hT, X', hL, e1, e2, hq, st⟩
  · dsimp only [Pt.U, Pt.locs, Pt.cells, Pt.slots] at X' e1 e2 h1 h2 h3 st hcl
    subst h1; subst h2; subst h3
    exact Or.inr ⟨q, (T.setVm vm₁).calling g' mk (Value.ref b :: As).toArray, t, U', L, E, ce, hT, X', hL, e1, e2, hq, hce, hcv, vx_cls hW₁ hcl, st⟩
theorem vx_runSX {hh : List (Nat × Nat × Nat × Nat)} (S : CallFix p m c cc nL s args Ts own) (hM : vx_Met l y ws rm Pc Qc XC mc ms free) (cw : vx_CSW R s args own index y bytes maxL ret hh ws rm mc ms n) (hp : PreS s H Pc As)
    (hg : g.method = m) (hn : As.length = n) (hsize : g.locals.size = nL) (hstack : g.stack = As.reverse ++ rest) (hW : 2 * g.monitorRoom + (rest.map fun v => v.category).sum ≤ 8) (hdg : decode cc g.pc = .ok (.invokestatic index, 3)) (hf : cells + mc ≤ R.cells ∧ slots + ms ≤ R.slots) :
    vx_Run p l e R s m args below meth c H locs cells slots mc ms g rest (Qc As.toArray) XC free := by
  obtain ⟨⟨hrc, hrs, hfr, hlo, hws, hcw⟩, hcode, hini, hy, hlen, hl, hstt⟩ := cw
  have hK : vx_Back l R p e below s args y 3 8 (PreOf R mc ms Pc) (PostOf Qc mc ms free) (vx_Post XC mc ms free) := vx_backW (hh := hh) (bytes := bytes) (maxL := maxL) (ret := ret) hM hp.1 hrc hrs hfr hlo hws hcw (fun a' U hW => word_at hW (Or.inl (by first | rfl | simp [Cond.onTables, Cond.keeps, Cond.steady])) hini)
  obtain ⟨hx, hb, hml, ho, -⟩ := S
  intro T hT X
  rcases vx_callSX X hx (hh := hh) (bytes := bytes) (maxL := maxL) (ret := ret) ho hl hstt hini hcode hy hK hg (hsize.trans hml.symm) (argsL := As) (rest := rest) (fun sig h => hn.trans (hlen sig h)) hstack hW (by rw [hb]; exact hdg)
    (fun vm₁ hW₁ => ⟨hf.1, hf.2, hp.2 (T.setVm vm₁) hT hW₁⟩) with ⟨v, vm₁, ⟨U', l2, c2, s2⟩, hW₁, X', ⟨g', mk, t, L, e1, e2, hq, h1, hL, h2, h3⟩, st⟩ | ⟨q, vm₁, ⟨U', l2, c2, s2⟩, hW₁, X', ⟨g', mk, t, L, E, ce, e1, e2, hq, hce, hcv, hcl, h1, hL, h2, h3⟩, st⟩
  · dsimp only [Pt.U, Pt.locs, Pt.cells, Pt.slots] at X' e1 e2 h1 h2 h3 st
    subst h1; subst h2; subst h3
    exact Or.inl ⟨v, (T.setVm vm₁).calling g' mk As.toArray, t, U', L, hT, X', hL, e1, e2, hq, st⟩
  · dsimp only [Pt.U, Pt.locs, Pt.cells, Pt.slots] at X' e1 e2 h1 h2 h3 st hcl
    subst h1; subst h2; subst h3
    exact Or.inr ⟨q, (T.setVm vm₁).calling g' mk As.toArray, t, U', L, E, ce, hT, X', hL, e1, e2, hq, hce, hcv, vx_cls hW₁ hcl, st⟩
end
end VXH
theorem vx_ofWH {l : Launch} {y : MethodName} {ws ws' : List Cond} {rm : Room} {Pc : Array Value → State → Prop} {Qc : Array Value → State → Outcome → State → Prop} {XC : String → State → State → Prop} {mc ms : Nat} {free : Addr → Prop} {cc : ByteArray} {maxL : Nat} {ret : Option FieldType} {hh : List (Nat × Nat × Nat × Nat)}
    (hy : plainName y.cls = true) (hw : ws = Cond.codeWith y cc maxL ret hh :: ws')
    (body : ∀ p e s m args below meth c s₁, BodyLoose p l y (headSpec ws rm) cc maxL ret e s m args below meth c s₁ → c.maxLocals = maxL → Pc args s →
      W p l e (headSpec ws rm).room s m args below meth c s.heap [] 0 0 (vx_MQ below Qc XC args s mc ms free) (entryFrame m args maxL)) : vx_Met l y ws rm Pc Qc XC mc ms free := by
  refine MetFree.of_bodyS (code := cc) (maxLocals := maxL) (ret := ret) hy ?_ ?_
  · intro args s m h hn
    obtain ⟨m9, meth, c, hn9, h1, h2, h3, h4, -, h5, h6, -⟩ := Cond.codeWith_spec (atoms_spec (ws := ws) h _ (by rw [hw]; exact List.mem_cons_self))
    cases hn.symm.trans hn9
    exact ⟨meth, c, h1, h2, h3, h4, h5, h6⟩
  · intro p e s m args below meth c s₁ B hml hP _
    have hh0 : s₁.heap = s.heap := by rw [B.state]; rfl
    obtain ⟨t, a1, o, b1, b2, b3⟩ := body p e s m args below meth c s₁ B hml hP s₁ hh0 (Stand.of_body B)
    exact ⟨t, o, a1, b1, b2, b3⟩
/-! ===== END ===== -/
end
section
def RX0 : String := "CellEvents$CommandText"
def TX0 : u_T := fun k => match k with
  | 0 => ("CellEvents$CommandText", "text", "[I", true)
  | 1 => ("CellEvents$CommandText", "length", "I", false)
  | 2 => ("CellEvents$CommandText", "at", "I", false)
  | 3 => ("CellEvents$CommandText", "kind", "I", false)
  | 4 => ("CellEvents$CommandText", "numbers", "[I", true)
  | _ => ("CellEvents$CommandText", "fault", "I", false)
def tyX0 : Nat → FieldType := fun k => match k with
  | 0 => .array .int
  | 1 => .int
  | 2 => .int
  | 3 => .int
  | 4 => .array .int
  | _ => .int
theorem nmX0 : ∀ a, a < 6 → ∀ b, b < 6 → a ≠ b → (TX0 a).2.1 ≠ (TX0 b).2.1 := by decide +kernel
theorem tyX0_ok : ∀ k, k < 6 → parseFieldDescriptor (TX0 k).2.2.1 = some (tyX0 k) := by decide +kernel
abbrev cX0_init : ByteArray := prog_2_method_1_code
def yX0_init : MethodName := ⟨RX0, "<init>", "()V"⟩
abbrev cX0_isFull : ByteArray := prog_2_method_2_code
def yX0_isFull : MethodName := ⟨RX0, "isFull", "()Z"⟩
abbrev cX0_append : ByteArray := prog_2_method_3_code
def yX0_append : MethodName := ⟨RX0, "append", "(I)I"⟩
abbrev cX0_clear : ByteArray := prog_2_method_4_code
def yX0_clear : MethodName := ⟨RX0, "clear", "()I"⟩
abbrev cX0_findFault : ByteArray := prog_2_method_5_code
def yX0_findFault : MethodName := ⟨RX0, "findFault", "()I"⟩
abbrev cX0_rewind : ByteArray := prog_2_method_6_code
def yX0_rewind : MethodName := ⟨RX0, "rewind", "()V"⟩
abbrev cX0_readNext : ByteArray := prog_2_method_7_code
def yX0_readNext : MethodName := ⟨RX0, "readNext", "()Z"⟩
abbrev cX0_failAt : ByteArray := prog_2_method_8_code
def yX0_failAt : MethodName := ⟨RX0, "failAt", "(I)Z"⟩
abbrev cX0_isAt : ByteArray := prog_2_method_9_code
def yX0_isAt : MethodName := ⟨RX0, "isAt", "(C)Z"⟩
abbrev cX0_isWithin : ByteArray := prog_2_method_10_code
def yX0_isWithin : MethodName := ⟨RX0, "isWithin", "(CC)Z"⟩
abbrev cX0_skipSpaces : ByteArray := prog_2_method_11_code
def yX0_skipSpaces : MethodName := ⟨RX0, "skipSpaces", "()V"⟩
abbrev cX0_readWord : ByteArray := prog_2_method_12_code
def yX0_readWord : MethodName := ⟨RX0, "readWord", "()Z"⟩
abbrev cX0_kindOf : ByteArray := prog_2_method_13_code
def yX0_kindOf : MethodName := ⟨RX0, "kindOf", "(II)I"⟩
abbrev cX0_stands : ByteArray := prog_2_method_14_code
def yX0_stands : MethodName := ⟨RX0, "stands", "(Ljava/lang/String;II)Z"⟩
abbrev cX0_readNumbers : ByteArray := prog_2_method_15_code
def yX0_readNumbers : MethodName := ⟨RX0, "readNumbers", "()Z"⟩
abbrev cX0_readNumber : ByteArray := prog_2_method_16_code
def yX0_readNumber : MethodName := ⟨RX0, "readNumber", "(I)Z"⟩
abbrev cX0_readSemicolon : ByteArray := prog_2_method_17_code
def yX0_readSemicolon : MethodName := ⟨RX0, "readSemicolon", "()Z"⟩
abbrev cX0_wordOf : ByteArray := prog_2_method_18_code
def yX0_wordOf : MethodName := ⟨RX0, "wordOf", "(I)Ljava/lang/String;"⟩
abbrev cX0_numbersOf : ByteArray := prog_2_method_19_code
def yX0_numbersOf : MethodName := ⟨RX0, "numbersOf", "(I)I"⟩
def RX1 : String := "CellEvents$EventLog"
def TX1 : u_T := fun k => match k with
  | 0 => ("CellEvents$EventLog", "leaves", "[I", true)
  | 1 => ("CellEvents$EventLog", "levels", "[I", true)
  | 2 => ("CellEvents$EventLog", "times", "[I", true)
  | 3 => ("CellEvents$EventLog", "published", "[I", true)
  | 4 => ("CellEvents$EventLog", "routed", "[I", true)
  | 5 => ("CellEvents$EventLog", "delivered", "[I", true)
  | _ => ("CellEvents$EventLog", "count", "I", false)
def tyX1 : Nat → FieldType := fun k => match k with
  | 0 => .array .int
  | 1 => .array .int
  | 2 => .array .int
  | 3 => .array .int
  | 4 => .array .int
  | 5 => .array .int
  | _ => .int
theorem nmX1 : ∀ a, a < 7 → ∀ b, b < 7 → a ≠ b → (TX1 a).2.1 ≠ (TX1 b).2.1 := by decide +kernel
theorem tyX1_ok : ∀ k, k < 7 → parseFieldDescriptor (TX1 k).2.2.1 = some (tyX1 k) := by decide +kernel
abbrev cX1_init : ByteArray := prog_3_method_1_code
def yX1_init : MethodName := ⟨RX1, "<init>", "()V"⟩
abbrev cX1_copyFrom : ByteArray := prog_3_method_2_code
def yX1_copyFrom : MethodName := ⟨RX1, "copyFrom", "(LCellEvents$EventLog;)V"⟩
abbrev cX1_add : ByteArray := prog_3_method_3_code
def yX1_add : MethodName := ⟨RX1, "add", "(IIIII)I"⟩
abbrev cX1_markDelivered : ByteArray := prog_3_method_4_code
def yX1_markDelivered : MethodName := ⟨RX1, "markDelivered", "(II)V"⟩
abbrev cX1_valueOf : ByteArray := prog_3_method_5_code
def yX1_valueOf : MethodName := ⟨RX1, "valueOf", "(II)I"⟩
def RX2 : String := "CellEvents$Inbox"
def TX2 : u_T := fun k => match k with
  | 0 => ("CellEvents$Inbox", "events", "[I", true)
  | _ => ("CellEvents$Inbox", "size", "I", false)
def tyX2 : Nat → FieldType := fun k => match k with
  | 0 => .array .int
  | _ => .int
theorem nmX2 : ∀ a, a < 2 → ∀ b, b < 2 → a ≠ b → (TX2 a).2.1 ≠ (TX2 b).2.1 := by decide +kernel
theorem tyX2_ok : ∀ k, k < 2 → parseFieldDescriptor (TX2 k).2.2.1 = some (tyX2 k) := by decide +kernel
abbrev cX2_init : ByteArray := prog_4_method_1_code
def yX2_init : MethodName := ⟨RX2, "<init>", "()V"⟩
abbrev cX2_copyFrom : ByteArray := prog_4_method_2_code
def yX2_copyFrom : MethodName := ⟨RX2, "copyFrom", "(LCellEvents$Inbox;)V"⟩
abbrev cX2_isFull : ByteArray := prog_4_method_3_code
def yX2_isFull : MethodName := ⟨RX2, "isFull", "()Z"⟩
abbrev cX2_add : ByteArray := prog_4_method_4_code
def yX2_add : MethodName := ⟨RX2, "add", "(I)V"⟩
abbrev cX2_removeOldest : ByteArray := prog_4_method_5_code
def yX2_removeOldest : MethodName := ⟨RX2, "removeOldest", "(I)V"⟩
abbrev cX2_eventAt : ByteArray := prog_4_method_6_code
def yX2_eventAt : MethodName := ⟨RX2, "eventAt", "(I)I"⟩
abbrev cX2_holds : ByteArray := prog_4_method_7_code
def yX2_holds : MethodName := ⟨RX2, "holds", "(I)Z"⟩
def RX3 : String := "CellEvents$Stays"
def TX3 : u_T := fun k => match k with
  | 0 => ("CellEvents$Stays", "leaves", "[I", true)
  | 1 => ("CellEvents$Stays", "firsts", "[I", true)
  | 2 => ("CellEvents$Stays", "ends", "[I", true)
  | _ => ("CellEvents$Stays", "count", "I", false)
def tyX3 : Nat → FieldType := fun k => match k with
  | 0 => .array .int
  | 1 => .array .int
  | 2 => .array .int
  | _ => .int
theorem nmX3 : ∀ a, a < 4 → ∀ b, b < 4 → a ≠ b → (TX3 a).2.1 ≠ (TX3 b).2.1 := by decide +kernel
theorem tyX3_ok : ∀ k, k < 4 → parseFieldDescriptor (TX3 k).2.2.1 = some (tyX3 k) := by decide +kernel
abbrev cX3_init : ByteArray := prog_5_method_1_code
def yX3_init : MethodName := ⟨RX3, "<init>", "()V"⟩
abbrev cX3_copyFrom : ByteArray := prog_5_method_2_code
def yX3_copyFrom : MethodName := ⟨RX3, "copyFrom", "(LCellEvents$Stays;)V"⟩
abbrev cX3_open : ByteArray := prog_5_method_3_code
def yX3_open : MethodName := ⟨RX3, "open", "(II)V"⟩
abbrev cX3_close : ByteArray := prog_5_method_4_code
def yX3_close : MethodName := ⟨RX3, "close", "(I)V"⟩
abbrev cX3_leafAt : ByteArray := prog_5_method_5_code
def yX3_leafAt : MethodName := ⟨RX3, "leafAt", "(I)I"⟩
abbrev cX3_valueOf : ByteArray := prog_5_method_6_code
def yX3_valueOf : MethodName := ⟨RX3, "valueOf", "(II)I"⟩
def RX4 : String := "CellEvents$Subscriber"
def TX4 : u_T := fun k => match k with
  | 0 => ("CellEvents$Subscriber", "stays", "LCellEvents$Stays;", true)
  | 1 => ("CellEvents$Subscriber", "inbox", "LCellEvents$Inbox;", true)
  | 2 => ("CellEvents$Subscriber", "sort", "I", false)
  | 3 => ("CellEvents$Subscriber", "level", "I", false)
  | 4 => ("CellEvents$Subscriber", "position", "I", false)
  | 5 => ("CellEvents$Subscriber", "cameAt", "I", false)
  | 6 => ("CellEvents$Subscriber", "serving", "I", false)
  | 7 => ("CellEvents$Subscriber", "there", "Z", false)
  | 8 => ("CellEvents$Subscriber", "routed", "I", false)
  | 9 => ("CellEvents$Subscriber", "delivered", "I", false)
  | 10 => ("CellEvents$Subscriber", "dropped", "I", false)
  | 11 => ("CellEvents$Subscriber", "lost", "I", false)
  | 12 => ("CellEvents$Subscriber", "handovers", "I", false)
  | _ => ("CellEvents$Subscriber", "handoverUntil", "I", false)
def tyX4 : Nat → FieldType := fun k => match k with
  | 0 => .object "CellEvents$Stays"
  | 1 => .object "CellEvents$Inbox"
  | 2 => .int
  | 3 => .int
  | 4 => .int
  | 5 => .int
  | 6 => .int
  | 7 => .boolean
  | 8 => .int
  | 9 => .int
  | 10 => .int
  | 11 => .int
  | 12 => .int
  | _ => .int
theorem nmX4 : ∀ a, a < 14 → ∀ b, b < 14 → a ≠ b → (TX4 a).2.1 ≠ (TX4 b).2.1 := by decide +kernel
theorem tyX4_ok : ∀ k, k < 14 → parseFieldDescriptor (TX4 k).2.2.1 = some (tyX4 k) := by decide +kernel
abbrev cX4_init : ByteArray := prog_6_method_1_code
def yX4_init : MethodName := ⟨RX4, "<init>", "()V"⟩
abbrev cX4_copyFrom : ByteArray := prog_6_method_2_code
def yX4_copyFrom : MethodName := ⟨RX4, "copyFrom", "(LCellEvents$Subscriber;)V"⟩
abbrev cX4_begin : ByteArray := prog_6_method_3_code
def yX4_begin : MethodName := ⟨RX4, "begin", "(IIII)V"⟩
abbrev cX4_canGoTo : ByteArray := prog_6_method_4_code
def yX4_canGoTo : MethodName := ⟨RX4, "canGoTo", "(I)Z"⟩
abbrev cX4_goTo : ByteArray := prog_6_method_5_code
def yX4_goTo : MethodName := ⟨RX4, "goTo", "(II)I"⟩
abbrev cX4_quit : ByteArray := prog_6_method_6_code
def yX4_quit : MethodName := ⟨RX4, "quit", "(I)I"⟩
abbrev cX4_relevel : ByteArray := prog_6_method_7_code
def yX4_relevel : MethodName := ⟨RX4, "relevel", "(I)I"⟩
abbrev cX4_dwellTime : ByteArray := prog_6_method_8_code
def yX4_dwellTime : MethodName := ⟨RX4, "dwellTime", "(I)I"⟩
abbrev cX4_isDue : ByteArray := prog_6_method_9_code
def yX4_isDue : MethodName := ⟨RX4, "isDue", "(II)Z"⟩
abbrev cX4_handOver : ByteArray := prog_6_method_10_code
def yX4_handOver : MethodName := ⟨RX4, "handOver", "(II)V"⟩
abbrev cX4_getsFrom : ByteArray := prog_6_method_11_code
def yX4_getsFrom : MethodName := ⟨RX4, "getsFrom", "(II)Z"⟩
abbrev cX4_receive : ByteArray := prog_6_method_12_code
def yX4_receive : MethodName := ⟨RX4, "receive", "(I)V"⟩
abbrev cX4_reasonAgainst : ByteArray := prog_6_method_13_code
def yX4_reasonAgainst : MethodName := ⟨RX4, "reasonAgainst", "(I)I"⟩
abbrev cX4_coverage : ByteArray := prog_6_method_14_code
def yX4_coverage : MethodName := ⟨RX4, "coverage", "()I"⟩
abbrev cX4_valueOf : ByteArray := prog_6_method_15_code
def yX4_valueOf : MethodName := ⟨RX4, "valueOf", "(I)I"⟩
def RX5 : String := "CellEvents$UndoStack"
def TX5 : u_T := fun k => match k with
  | 0 => ("CellEvents$UndoStack", "slots", "[LCellEvents$World;", true)
  | 1 => ("CellEvents$UndoStack", "next", "I", false)
  | _ => ("CellEvents$UndoStack", "count", "I", false)
def tyX5 : Nat → FieldType := fun k => match k with
  | 0 => .array (.object "CellEvents$World")
  | 1 => .int
  | _ => .int
theorem nmX5 : ∀ a, a < 3 → ∀ b, b < 3 → a ≠ b → (TX5 a).2.1 ≠ (TX5 b).2.1 := by decide +kernel
theorem tyX5_ok : ∀ k, k < 3 → parseFieldDescriptor (TX5 k).2.2.1 = some (tyX5 k) := by decide +kernel
abbrev cX5_init : ByteArray := prog_7_method_1_code
def yX5_init : MethodName := ⟨RX5, "<init>", "()V"⟩
abbrev cX5_keep : ByteArray := prog_7_method_2_code
def yX5_keep : MethodName := ⟨RX5, "keep", "(LCellEvents$World;)V"⟩
abbrev cX5_restoreTo : ByteArray := prog_7_method_3_code
def yX5_restoreTo : MethodName := ⟨RX5, "restoreTo", "(LCellEvents$World;)I"⟩
def RX6 : String := "CellEvents$World"
def TX6 : u_T := fun k => match k with
  | 0 => ("CellEvents$World", "settings", "[I", true)
  | 1 => ("CellEvents$World", "subscribers", "[LCellEvents$Subscriber;", true)
  | 2 => ("CellEvents$World", "log", "LCellEvents$EventLog;", true)
  | 3 => ("CellEvents$World", "deliveredIn", "[I", true)
  | 4 => ("CellEvents$World", "deliveredInTick", "[I", true)
  | 5 => ("CellEvents$World", "subscriberCount", "I", false)
  | _ => ("CellEvents$World", "tick", "I", false)
def tyX6 : Nat → FieldType := fun k => match k with
  | 0 => .array .int
  | 1 => .array (.object "CellEvents$Subscriber")
  | 2 => .object "CellEvents$EventLog"
  | 3 => .array .int
  | 4 => .array .int
  | 5 => .int
  | _ => .int
theorem nmX6 : ∀ a, a < 7 → ∀ b, b < 7 → a ≠ b → (TX6 a).2.1 ≠ (TX6 b).2.1 := by decide +kernel
theorem tyX6_ok : ∀ k, k < 7 → parseFieldDescriptor (TX6 k).2.2.1 = some (tyX6 k) := by decide +kernel
abbrev cX6_init : ByteArray := prog_8_method_1_code
def yX6_init : MethodName := ⟨RX6, "<init>", "()V"⟩
abbrev cX6_copyFrom : ByteArray := prog_8_method_2_code
def yX6_copyFrom : MethodName := ⟨RX6, "copyFrom", "(LCellEvents$World;)V"⟩
abbrev cX6_isSubscriber : ByteArray := prog_8_method_3_code
def yX6_isSubscriber : MethodName := ⟨RX6, "isSubscriber", "(I)Z"⟩
abbrev cX6_against : ByteArray := prog_8_method_4_code
def yX6_against : MethodName := ⟨RX6, "against", "(IIII)I"⟩
abbrev cX6_perform : ByteArray := prog_8_method_5_code
def yX6_perform : MethodName := ⟨RX6, "perform", "(IIII)I"⟩
abbrev cX6_againstJoining : ByteArray := prog_8_method_6_code
def yX6_againstJoining : MethodName := ⟨RX6, "againstJoining", "(III)I"⟩
abbrev cX6_join : ByteArray := prog_8_method_7_code
def yX6_join : MethodName := ⟨RX6, "join", "(III)I"⟩
abbrev cX6_againstMoving : ByteArray := prog_8_method_8_code
def yX6_againstMoving : MethodName := ⟨RX6, "againstMoving", "(II)I"⟩
abbrev cX6_againstLeaving : ByteArray := prog_8_method_9_code
def yX6_againstLeaving : MethodName := ⟨RX6, "againstLeaving", "(I)I"⟩
abbrev cX6_againstRelevelling : ByteArray := prog_8_method_10_code
def yX6_againstRelevelling : MethodName := ⟨RX6, "againstRelevelling", "(II)I"⟩
abbrev cX6_againstSetting : ByteArray := prog_8_method_11_code
def yX6_againstSetting : MethodName := ⟨RX6, "againstSetting", "(II)I"⟩
abbrev cX6_changeSetting : ByteArray := prog_8_method_12_code
def yX6_changeSetting : MethodName := ⟨RX6, "changeSetting", "(II)I"⟩
abbrev cX6_againstPublishing : ByteArray := prog_8_method_13_code
def yX6_againstPublishing : MethodName := ⟨RX6, "againstPublishing", "(III)I"⟩
abbrev cX6_isTooLate : ByteArray := prog_8_method_14_code
def yX6_isTooLate : MethodName := ⟨RX6, "isTooLate", "(I)Z"⟩
abbrev cX6_publishEvent : ByteArray := prog_8_method_15_code
def yX6_publishEvent : MethodName := ⟨RX6, "publishEvent", "(III)I"⟩
abbrev cX6_reachedBy : ByteArray := prog_8_method_16_code
def yX6_reachedBy : MethodName := ⟨RX6, "reachedBy", "(III)I"⟩
abbrev cX6_againstPassing : ByteArray := prog_8_method_17_code
def yX6_againstPassing : MethodName := ⟨RX6, "againstPassing", "(I)I"⟩
abbrev cX6_passTicks : ByteArray := prog_8_method_18_code
def yX6_passTicks : MethodName := ⟨RX6, "passTicks", "(I)I"⟩
abbrev cX6_passTick : ByteArray := prog_8_method_19_code
def yX6_passTick : MethodName := ⟨RX6, "passTick", "()I"⟩
abbrev cX6_deliverTo : ByteArray := prog_8_method_20_code
def yX6_deliverTo : MethodName := ⟨RX6, "deliverTo", "(I)I"⟩
abbrev cX6_ticksUntilServed : ByteArray := prog_8_method_21_code
def yX6_ticksUntilServed : MethodName := ⟨RX6, "ticksUntilServed", "(I)I"⟩
abbrev cX6_passUntilEmpty : ByteArray := prog_8_method_22_code
def yX6_passUntilEmpty : MethodName := ⟨RX6, "passUntilEmpty", "(I)I"⟩
abbrev cX6_busiestLeaf : ByteArray := prog_8_method_23_code
def yX6_busiestLeaf : MethodName := ⟨RX6, "busiestLeaf", "()I"⟩
abbrev cX6_valueOfEvent : ByteArray := prog_8_method_24_code
def yX6_valueOfEvent : MethodName := ⟨RX6, "valueOfEvent", "(II)I"⟩
abbrev cX6_inboxesWith : ByteArray := prog_8_method_25_code
def yX6_inboxesWith : MethodName := ⟨RX6, "inboxesWith", "(I)I"⟩
abbrev cX6_valueOfLeaf : ByteArray := prog_8_method_26_code
def yX6_valueOfLeaf : MethodName := ⟨RX6, "valueOfLeaf", "(II)I"⟩
abbrev cX6_servedBy : ByteArray := prog_8_method_27_code
def yX6_servedBy : MethodName := ⟨RX6, "servedBy", "(I)I"⟩
abbrev cX6_standingIn : ByteArray := prog_8_method_28_code
def yX6_standingIn : MethodName := ⟨RX6, "standingIn", "(I)I"⟩
abbrev cX6_waitingIn : ByteArray := prog_8_method_29_code
def yX6_waitingIn : MethodName := ⟨RX6, "waitingIn", "(I)I"⟩
abbrev cX6_valueOfWhole : ByteArray := prog_8_method_30_code
def yX6_valueOfWhole : MethodName := ⟨RX6, "valueOfWhole", "(I)I"⟩
abbrev cX6_sumOf : ByteArray := prog_8_method_31_code
def yX6_sumOf : MethodName := ⟨RX6, "sumOf", "(I)I"⟩
def RX7 : String := "CellEvents"
def TX7 : u_T := fun k => match k with
  | 0 => ("CellEvents", "now", "LCellEvents$World;", true)
  | 1 => ("CellEvents", "trial", "LCellEvents$World;", true)
  | 2 => ("CellEvents", "saved", "LCellEvents$UndoStack;", true)
  | _ => ("CellEvents", "commands", "LCellEvents$CommandText;", true)
def tyX7 : Nat → FieldType := fun k => match k with
  | 0 => .object "CellEvents$World"
  | 1 => .object "CellEvents$World"
  | 2 => .object "CellEvents$UndoStack"
  | _ => .object "CellEvents$CommandText"
theorem nmX7 : ∀ a, a < 4 → ∀ b, b < 4 → a ≠ b → (TX7 a).2.1 ≠ (TX7 b).2.1 := by decide +kernel
theorem tyX7_ok : ∀ k, k < 4 → parseFieldDescriptor (TX7 k).2.2.1 = some (tyX7 k) := by decide +kernel
abbrev cX7_init : ByteArray := prog_1_method_1_code
def yX7_init : MethodName := ⟨RX7, "<init>", "()V"⟩
abbrev cX7_subscribe : ByteArray := prog_1_method_2_code
def yX7_subscribe : MethodName := ⟨RX7, "subscribe", "(III)I"⟩
abbrev cX7_move : ByteArray := prog_1_method_3_code
def yX7_move : MethodName := ⟨RX7, "move", "(II)I"⟩
abbrev cX7_leave : ByteArray := prog_1_method_4_code
def yX7_leave : MethodName := ⟨RX7, "leave", "(I)I"⟩
abbrev cX7_setLevel : ByteArray := prog_1_method_5_code
def yX7_setLevel : MethodName := ⟨RX7, "setLevel", "(II)I"⟩
abbrev cX7_set : ByteArray := prog_1_method_6_code
def yX7_set : MethodName := ⟨RX7, "set", "(II)I"⟩
abbrev cX7_publish : ByteArray := prog_1_method_7_code
def yX7_publish : MethodName := ⟨RX7, "publish", "(III)I"⟩
abbrev cX7_pass : ByteArray := prog_1_method_8_code
def yX7_pass : MethodName := ⟨RX7, "pass", "(I)I"⟩
abbrev cX7_subscriber : ByteArray := prog_1_method_9_code
def yX7_subscriber : MethodName := ⟨RX7, "subscriber", "(II)I"⟩
abbrev cX7_stay : ByteArray := prog_1_method_10_code
def yX7_stay : MethodName := ⟨RX7, "stay", "(III)I"⟩
abbrev cX7_waiting : ByteArray := prog_1_method_11_code
def yX7_waiting : MethodName := ⟨RX7, "waiting", "(II)I"⟩
abbrev cX7_event : ByteArray := prog_1_method_12_code
def yX7_event : MethodName := ⟨RX7, "event", "(II)I"⟩
abbrev cX7_leaf : ByteArray := prog_1_method_13_code
def yX7_leaf : MethodName := ⟨RX7, "leaf", "(II)I"⟩
abbrev cX7_whole : ByteArray := prog_1_method_14_code
def yX7_whole : MethodName := ⟨RX7, "whole", "(I)I"⟩
abbrev cX7_wouldReach : ByteArray := prog_1_method_15_code
def yX7_wouldReach : MethodName := ⟨RX7, "wouldReach", "(III)I"⟩
abbrev cX7_reason : ByteArray := prog_1_method_16_code
def yX7_reason : MethodName := ⟨RX7, "reason", "(III)I"⟩
abbrev cX7_servedIn : ByteArray := prog_1_method_17_code
def yX7_servedIn : MethodName := ⟨RX7, "servedIn", "(I)I"⟩
abbrev cX7_emptyIn : ByteArray := prog_1_method_18_code
def yX7_emptyIn : MethodName := ⟨RX7, "emptyIn", "(I)I"⟩
abbrev cX7_covered : ByteArray := prog_1_method_19_code
def yX7_covered : MethodName := ⟨RX7, "covered", "(I)I"⟩
abbrev cX7_busiest : ByteArray := prog_1_method_20_code
def yX7_busiest : MethodName := ⟨RX7, "busiest", "()I"⟩
abbrev cX7_type : ByteArray := prog_1_method_21_code
def yX7_type : MethodName := ⟨RX7, "type", "(I)I"⟩
abbrev cX7_clearCommands : ByteArray := prog_1_method_22_code
def yX7_clearCommands : MethodName := ⟨RX7, "clearCommands", "()I"⟩
abbrev cX7_runCommands : ByteArray := prog_1_method_23_code
def yX7_runCommands : MethodName := ⟨RX7, "runCommands", "()I"⟩
abbrev cX7_undo : ByteArray := prog_1_method_24_code
def yX7_undo : MethodName := ⟨RX7, "undo", "()I"⟩
abbrev cX7_digest : ByteArray := prog_1_method_25_code
def yX7_digest : MethodName := ⟨RX7, "digest", "()J"⟩
abbrev cX7_mixSubscriber : ByteArray := prog_1_method_26_code
def yX7_mixSubscriber : MethodName := ⟨RX7, "mixSubscriber", "(JI)J"⟩
abbrev cX7_mix : ByteArray := prog_1_method_27_code
def yX7_mix : MethodName := ⟨RX7, "mix", "(JI)J"⟩
abbrev cX7_valueOfWhole : ByteArray := prog_1_method_28_code
def yX7_valueOfWhole : MethodName := ⟨RX7, "valueOfWhole", "(I)I"⟩
abbrev cX7_act : ByteArray := prog_1_method_29_code
def yX7_act : MethodName := ⟨RX7, "act", "(IIII)I"⟩
abbrev cX7_carryOutCommands : ByteArray := prog_1_method_30_code
def yX7_carryOutCommands : MethodName := ⟨RX7, "carryOutCommands", "()I"⟩
abbrev cX7_needIndex : ByteArray := prog_1_method_31_code
def yX7_needIndex : MethodName := ⟨RX7, "needIndex", "(Z)V"⟩
abbrev cX7_needArgument : ByteArray := prog_1_method_32_code
def yX7_needArgument : MethodName := ⟨RX7, "needArgument", "(Z)V"⟩
abbrev cX7_needState : ByteArray := prog_1_method_33_code
def yX7_needState : MethodName := ⟨RX7, "needState", "(Z)V"⟩
abbrev cX7_isBelow : ByteArray := prog_1_method_34_code
def yX7_isBelow : MethodName := ⟨RX7, "isBelow", "(II)Z"⟩
abbrev cX7_areaOf : ByteArray := prog_1_method_35_code
def yX7_areaOf : MethodName := ⟨RX7, "areaOf", "(II)I"⟩
def RX8 : String := "CellEventsModel"
def TX8 : u_T := fun k => match k with
  | 0 => ("CellEventsModel", "s", "[I", true)
  | 1 => ("CellEventsModel", "past", "[I", true)
  | 2 => ("CellEventsModel", "aside", "[I", true)
  | 3 => ("CellEventsModel", "kept", "I", false)
  | 4 => ("CellEventsModel", "thrown", "I", false)
  | 5 => ("CellEventsModel", "answer", "I", false)
  | 6 => ("CellEventsModel", "inTick", "[I", true)
  | 7 => ("CellEventsModel", "text", "[I", true)
  | 8 => ("CellEventsModel", "typed", "I", false)
  | 9 => ("CellEventsModel", "at", "I", false)
  | 10 => ("CellEventsModel", "word", "I", false)
  | 11 => ("CellEventsModel", "number", "[I", true)
  | _ => ("CellEventsModel", "h", "J", false)
def tyX8 : Nat → FieldType := fun k => match k with
  | 0 => .array .int
  | 1 => .array .int
  | 2 => .array .int
  | 3 => .int
  | 4 => .int
  | 5 => .int
  | 6 => .array .int
  | 7 => .array .int
  | 8 => .int
  | 9 => .int
  | 10 => .int
  | 11 => .array .int
  | _ => .long
theorem nmX8 : ∀ a, a < 13 → ∀ b, b < 13 → a ≠ b → (TX8 a).2.1 ≠ (TX8 b).2.1 := by decide +kernel
theorem tyX8_ok : ∀ k, k < 13 → parseFieldDescriptor (TX8 k).2.2.1 = some (tyX8 k) := by decide +kernel
abbrev cX8_init : ByteArray := prog_10_method_1_code
def yX8_init : MethodName := ⟨RX8, "<init>", "()V"⟩
abbrev cX8_thrown : ByteArray := prog_10_method_2_code
def yX8_thrown : MethodName := ⟨RX8, "thrown", "()I"⟩
abbrev cX8_in : ByteArray := prog_10_method_3_code
def yX8_in : MethodName := ⟨RX8, "in", "(III)Z"⟩
abbrev cX8_fails : ByteArray := prog_10_method_4_code
def yX8_fails : MethodName := ⟨RX8, "fails", "(I)I"⟩
abbrev cX8_tells : ByteArray := prog_10_method_5_code
def yX8_tells : MethodName := ⟨RX8, "tells", "(I)I"⟩
abbrev cX8_laysAside : ByteArray := prog_10_method_6_code
def yX8_laysAside : MethodName := ⟨RX8, "laysAside", "()V"⟩
abbrev cX8_bringsBack : ByteArray := prog_10_method_7_code
def yX8_bringsBack : MethodName := ⟨RX8, "bringsBack", "()V"⟩
abbrev cX8_keeps : ByteArray := prog_10_method_8_code
def yX8_keeps : MethodName := ⟨RX8, "keeps", "()V"⟩
abbrev cX8_ends : ByteArray := prog_10_method_9_code
def yX8_ends : MethodName := ⟨RX8, "ends", "(II)I"⟩
abbrev cX8_isLeaf : ByteArray := prog_10_method_10_code
def yX8_isLeaf : MethodName := ⟨RX8, "isLeaf", "(I)Z"⟩
abbrev cX8_isLevel : ByteArray := prog_10_method_11_code
def yX8_isLevel : MethodName := ⟨RX8, "isLevel", "(I)Z"⟩
abbrev cX8_isOne : ByteArray := prog_10_method_12_code
def yX8_isOne : MethodName := ⟨RX8, "isOne", "(I)Z"⟩
abbrev cX8_of : ByteArray := prog_10_method_13_code
def yX8_of : MethodName := ⟨RX8, "of", "(II)I"⟩
abbrev cX8_put : ByteArray := prog_10_method_14_code
def yX8_put : MethodName := ⟨RX8, "put", "(III)V"⟩
abbrev cX8_adds : ByteArray := prog_10_method_15_code
def yX8_adds : MethodName := ⟨RX8, "adds", "(III)V"⟩
abbrev cX8_ofEvent : ByteArray := prog_10_method_16_code
def yX8_ofEvent : MethodName := ⟨RX8, "ofEvent", "(II)I"⟩
abbrev cX8_setting : ByteArray := prog_10_method_17_code
def yX8_setting : MethodName := ⟨RX8, "setting", "(I)I"⟩
abbrev cX8_part : ByteArray := prog_10_method_18_code
def yX8_part : MethodName := ⟨RX8, "part", "(II)I"⟩
abbrev cX8_overlap : ByteArray := prog_10_method_19_code
def yX8_overlap : MethodName := ⟨RX8, "overlap", "(IIII)Z"⟩
abbrev cX8_stayAt : ByteArray := prog_10_method_20_code
def yX8_stayAt : MethodName := ⟨RX8, "stayAt", "(III)I"⟩
abbrev cX8_beginsStay : ByteArray := prog_10_method_21_code
def yX8_beginsStay : MethodName := ⟨RX8, "beginsStay", "(II)V"⟩
abbrev cX8_endsStay : ByteArray := prog_10_method_22_code
def yX8_endsStay : MethodName := ⟨RX8, "endsStay", "(I)V"⟩
abbrev cX8_leafAt : ByteArray := prog_10_method_23_code
def yX8_leafAt : MethodName := ⟨RX8, "leafAt", "(II)I"⟩
abbrev cX8_reaches : ByteArray := prog_10_method_24_code
def yX8_reaches : MethodName := ⟨RX8, "reaches", "(IIII)Z"⟩
abbrev cX8_reachedBy : ByteArray := prog_10_method_25_code
def yX8_reachedBy : MethodName := ⟨RX8, "reachedBy", "(III)I"⟩
abbrev cX8_subscribes : ByteArray := prog_10_method_26_code
def yX8_subscribes : MethodName := ⟨RX8, "subscribes", "(III)I"⟩
abbrev cX8_goes : ByteArray := prog_10_method_27_code
def yX8_goes : MethodName := ⟨RX8, "goes", "(II)I"⟩
abbrev cX8_quits : ByteArray := prog_10_method_28_code
def yX8_quits : MethodName := ⟨RX8, "quits", "(I)I"⟩
abbrev cX8_sets : ByteArray := prog_10_method_29_code
def yX8_sets : MethodName := ⟨RX8, "sets", "(II)I"⟩
abbrev cX8_isTooLate : ByteArray := prog_10_method_30_code
def yX8_isTooLate : MethodName := ⟨RX8, "isTooLate", "(I)Z"⟩
abbrev cX8_publishes : ByteArray := prog_10_method_31_code
def yX8_publishes : MethodName := ⟨RX8, "publishes", "(III)I"⟩
abbrev cX8_arrives : ByteArray := prog_10_method_32_code
def yX8_arrives : MethodName := ⟨RX8, "arrives", "(II)V"⟩
abbrev cX8_dwellOf : ByteArray := prog_10_method_33_code
def yX8_dwellOf : MethodName := ⟨RX8, "dwellOf", "(I)I"⟩
abbrev cX8_mayChange : ByteArray := prog_10_method_34_code
def yX8_mayChange : MethodName := ⟨RX8, "mayChange", "(I)Z"⟩
abbrev cX8_delivers : ByteArray := prog_10_method_35_code
def yX8_delivers : MethodName := ⟨RX8, "delivers", "(I)V"⟩
abbrev cX8_ticks : ByteArray := prog_10_method_36_code
def yX8_ticks : MethodName := ⟨RX8, "ticks", "()I"⟩
abbrev cX8_passes : ByteArray := prog_10_method_37_code
def yX8_passes : MethodName := ⟨RX8, "passes", "(I)I"⟩
abbrev cX8_subscribe : ByteArray := prog_10_method_38_code
def yX8_subscribe : MethodName := ⟨RX8, "subscribe", "(III)I"⟩
abbrev cX8_move : ByteArray := prog_10_method_39_code
def yX8_move : MethodName := ⟨RX8, "move", "(II)I"⟩
abbrev cX8_leave : ByteArray := prog_10_method_40_code
def yX8_leave : MethodName := ⟨RX8, "leave", "(I)I"⟩
abbrev cX8_setLevel : ByteArray := prog_10_method_41_code
def yX8_setLevel : MethodName := ⟨RX8, "setLevel", "(II)I"⟩
abbrev cX8_set : ByteArray := prog_10_method_42_code
def yX8_set : MethodName := ⟨RX8, "set", "(II)I"⟩
abbrev cX8_publish : ByteArray := prog_10_method_43_code
def yX8_publish : MethodName := ⟨RX8, "publish", "(III)I"⟩
abbrev cX8_pass : ByteArray := prog_10_method_44_code
def yX8_pass : MethodName := ⟨RX8, "pass", "(I)I"⟩
abbrev cX8_routedTo : ByteArray := prog_10_method_45_code
def yX8_routedTo : MethodName := ⟨RX8, "routedTo", "(I)I"⟩
abbrev cX8_told : ByteArray := prog_10_method_46_code
def yX8_told : MethodName := ⟨RX8, "told", "(II)I"⟩
abbrev cX8_subscriber : ByteArray := prog_10_method_47_code
def yX8_subscriber : MethodName := ⟨RX8, "subscriber", "(II)I"⟩
abbrev cX8_stay : ByteArray := prog_10_method_48_code
def yX8_stay : MethodName := ⟨RX8, "stay", "(III)I"⟩
abbrev cX8_waiting : ByteArray := prog_10_method_49_code
def yX8_waiting : MethodName := ⟨RX8, "waiting", "(II)I"⟩
abbrev cX8_inBoxes : ByteArray := prog_10_method_50_code
def yX8_inBoxes : MethodName := ⟨RX8, "inBoxes", "(I)I"⟩
abbrev cX8_eventTold : ByteArray := prog_10_method_51_code
def yX8_eventTold : MethodName := ⟨RX8, "eventTold", "(II)I"⟩
abbrev cX8_event : ByteArray := prog_10_method_52_code
def yX8_event : MethodName := ⟨RX8, "event", "(II)I"⟩
abbrev cX8_leafTold : ByteArray := prog_10_method_53_code
def yX8_leafTold : MethodName := ⟨RX8, "leafTold", "(II)I"⟩
abbrev cX8_leaf : ByteArray := prog_10_method_54_code
def yX8_leaf : MethodName := ⟨RX8, "leaf", "(II)I"⟩
abbrev cX8_sumOf : ByteArray := prog_10_method_55_code
def yX8_sumOf : MethodName := ⟨RX8, "sumOf", "(I)I"⟩
abbrev cX8_wholeTold : ByteArray := prog_10_method_56_code
def yX8_wholeTold : MethodName := ⟨RX8, "wholeTold", "(I)I"⟩
abbrev cX8_whole : ByteArray := prog_10_method_57_code
def yX8_whole : MethodName := ⟨RX8, "whole", "(I)I"⟩
abbrev cX8_wouldReach : ByteArray := prog_10_method_58_code
def yX8_wouldReach : MethodName := ⟨RX8, "wouldReach", "(III)I"⟩
abbrev cX8_why : ByteArray := prog_10_method_59_code
def yX8_why : MethodName := ⟨RX8, "why", "(III)I"⟩
abbrev cX8_reason : ByteArray := prog_10_method_60_code
def yX8_reason : MethodName := ⟨RX8, "reason", "(III)I"⟩
abbrev cX8_changesIn : ByteArray := prog_10_method_61_code
def yX8_changesIn : MethodName := ⟨RX8, "changesIn", "(I)I"⟩
abbrev cX8_servedIn : ByteArray := prog_10_method_62_code
def yX8_servedIn : MethodName := ⟨RX8, "servedIn", "(I)I"⟩
abbrev cX8_emptyIn : ByteArray := prog_10_method_63_code
def yX8_emptyIn : MethodName := ⟨RX8, "emptyIn", "(I)I"⟩
abbrev cX8_coveredBy : ByteArray := prog_10_method_64_code
def yX8_coveredBy : MethodName := ⟨RX8, "coveredBy", "(I)I"⟩
abbrev cX8_covered : ByteArray := prog_10_method_65_code
def yX8_covered : MethodName := ⟨RX8, "covered", "(I)I"⟩
abbrev cX8_busiestLeaf : ByteArray := prog_10_method_66_code
def yX8_busiestLeaf : MethodName := ⟨RX8, "busiestLeaf", "()I"⟩
abbrev cX8_busiest : ByteArray := prog_10_method_67_code
def yX8_busiest : MethodName := ⟨RX8, "busiest", "()I"⟩
abbrev cX8_type : ByteArray := prog_10_method_68_code
def yX8_type : MethodName := ⟨RX8, "type", "(I)I"⟩
abbrev cX8_clearCommands : ByteArray := prog_10_method_69_code
def yX8_clearCommands : MethodName := ⟨RX8, "clearCommands", "()I"⟩
abbrev cX8_isAt : ByteArray := prog_10_method_70_code
def yX8_isAt : MethodName := ⟨RX8, "isAt", "(II)Z"⟩
abbrev cX8_skips : ByteArray := prog_10_method_71_code
def yX8_skips : MethodName := ⟨RX8, "skips", "()V"⟩
abbrev cX8_wordOf : ByteArray := prog_10_method_72_code
def yX8_wordOf : MethodName := ⟨RX8, "wordOf", "(I)I"⟩
abbrev cX8_takesNumber : ByteArray := prog_10_method_73_code
def yX8_takesNumber : MethodName := ⟨RX8, "takesNumber", "(I)Z"⟩
abbrev cX8_takesCommand : ByteArray := prog_10_method_74_code
def yX8_takesCommand : MethodName := ⟨RX8, "takesCommand", "()Z"⟩
abbrev cX8_carriesOut : ByteArray := prog_10_method_75_code
def yX8_carriesOut : MethodName := ⟨RX8, "carriesOut", "()I"⟩
abbrev cX8_runCommands : ByteArray := prog_10_method_76_code
def yX8_runCommands : MethodName := ⟨RX8, "runCommands", "()I"⟩
abbrev cX8_undo : ByteArray := prog_10_method_77_code
def yX8_undo : MethodName := ⟨RX8, "undo", "()I"⟩
abbrev cX8_mix : ByteArray := prog_10_method_78_code
def yX8_mix : MethodName := ⟨RX8, "mix", "(I)V"⟩
abbrev cX8_mixOne : ByteArray := prog_10_method_79_code
def yX8_mixOne : MethodName := ⟨RX8, "mixOne", "(I)V"⟩
abbrev cX8_digest : ByteArray := prog_10_method_80_code
def yX8_digest : MethodName := ⟨RX8, "digest", "()J"⟩
def RJ9 : String := "java/lang/Math"
def TJ9 : u_T := fun k => match k with
  | _ => ("", "", "", false)
def tyJ9 : Nat → FieldType := fun k => match k with
  | _ => .int
theorem nmJ9 : ∀ a, a < 0 → ∀ b, b < 0 → a ≠ b → (TJ9 a).2.1 ≠ (TJ9 b).2.1 := by decide +kernel
theorem tyJ9_ok : ∀ k, k < 0 → parseFieldDescriptor (TJ9 k).2.2.1 = some (tyJ9 k) := by decide +kernel
abbrev cJ9_max_7cf53 : ByteArray := prog_15_method_65_code
def yJ9_max_7cf53 : MethodName := ⟨RJ9, "max", "(II)I"⟩
abbrev cJ9_min_7cf53 : ByteArray := prog_15_method_69_code
def yJ9_min_7cf53 : MethodName := ⟨RJ9, "min", "(II)I"⟩
def RJ0 : String := "java/lang/String"
def TJ0 : u_T := fun k => match k with
  | _ => ("", "", "", false)
def tyJ0 : Nat → FieldType := fun k => match k with
  | _ => .int
theorem nmJ0 : ∀ a, a < 0 → ∀ b, b < 0 → a ≠ b → (TJ0 a).2.1 ≠ (TJ0 b).2.1 := by decide +kernel
theorem tyJ0_ok : ∀ k, k < 0 → parseFieldDescriptor (TJ0 k).2.2.1 = some (tyJ0 k) := by decide +kernel
abbrev cJ0_length_8abf5 : ByteArray := prog_17_method_54_code
def yJ0_length_8abf5 : MethodName := ⟨RJ0, "length", "()I"⟩
abbrev cJ0_charAt_5068e : ByteArray := prog_17_method_56_code
def yJ0_charAt_5068e : MethodName := ⟨RJ0, "charAt", "(I)C"⟩
abbrev cJ0_coder_7d493 : ByteArray := prog_17_method_152_code
def yJ0_coder_7d493 : MethodName := ⟨RJ0, "coder", "()B"⟩
abbrev cJ0_isLatin1_aae02 : ByteArray := prog_17_method_154_code
def yJ0_isLatin1_aae02 : MethodName := ⟨RJ0, "isLatin1", "()Z"⟩
abbrev cJ0_checkIndex_df160 : ByteArray := prog_17_method_155_code
def yJ0_checkIndex_df160 : MethodName := ⟨RJ0, "checkIndex", "(II)V"⟩
def RJ1 : String := "java/lang/StringLatin1"
def TJ1 : u_T := fun k => match k with
  | _ => ("", "", "", false)
def tyJ1 : Nat → FieldType := fun k => match k with
  | _ => .int
theorem nmJ1 : ∀ a, a < 0 → ∀ b, b < 0 → a ≠ b → (TJ1 a).2.1 ≠ (TJ1 b).2.1 := by decide +kernel
theorem tyJ1_ok : ∀ k, k < 0 → parseFieldDescriptor (TJ1 k).2.2.1 = some (tyJ1 k) := by decide +kernel
abbrev cJ1_charAt_3b067 : ByteArray := prog_18_method_2_code
def yJ1_charAt_3b067 : MethodName := ⟨RJ1, "charAt", "([BI)C"⟩
def RJ2 : String := "java/lang/StringUTF16"
def TJ2 : u_T := fun k => match k with
  | _ => ("", "", "", false)
def tyJ2 : Nat → FieldType := fun k => match k with
  | _ => .int
theorem nmJ2 : ∀ a, a < 0 → ∀ b, b < 0 → a ≠ b → (TJ2 a).2.1 ≠ (TJ2 b).2.1 := by decide +kernel
theorem tyJ2_ok : ∀ k, k < 0 → parseFieldDescriptor (TJ2 k).2.2.1 = some (tyJ2 k) := by decide +kernel
abbrev cJ2_getChar_3b067 : ByteArray := prog_19_method_5_code
def yJ2_getChar_3b067 : MethodName := ⟨RJ2, "getChar", "([BI)C"⟩
abbrev cJ2_length_9d52b : ByteArray := prog_19_method_6_code
def yJ2_length_9d52b : MethodName := ⟨RJ2, "length", "([B)I"⟩
abbrev cJ2_charAt_3b067 : ByteArray := prog_19_method_83_code
def yJ2_charAt_3b067 : MethodName := ⟨RJ2, "charAt", "([BI)C"⟩
abbrev cJ2_checkIndex_2214a : ByteArray := prog_19_method_91_code
def yJ2_checkIndex_2214a : MethodName := ⟨RJ2, "checkIndex", "(I[B)V"⟩
def RJ10 : String := "java/lang/System"
def TJ10 : u_T := fun k => match k with
  | _ => ("", "", "", false)
def tyJ10 : Nat → FieldType := fun k => match k with
  | _ => .int
theorem nmJ10 : ∀ a, a < 0 → ∀ b, b < 0 → a ≠ b → (TJ10 a).2.1 ≠ (TJ10 b).2.1 := by decide +kernel
theorem tyJ10_ok : ∀ k, k < 0 → parseFieldDescriptor (TJ10 k).2.2.1 = some (tyJ10 k) := by decide +kernel
def RJ3 : String := "jdk/internal/util/Preconditions"
def TJ3 : u_T := fun k => match k with
  | _ => ("", "", "", false)
def tyJ3 : Nat → FieldType := fun k => match k with
  | _ => .int
theorem nmJ3 : ∀ a, a < 0 → ∀ b, b < 0 → a ≠ b → (TJ3 a).2.1 ≠ (TJ3 b).2.1 := by decide +kernel
theorem tyJ3_ok : ∀ k, k < 0 → parseFieldDescriptor (TJ3 k).2.2.1 = some (tyJ3 k) := by decide +kernel
abbrev cJ3_checkIndex_8e157 : ByteArray := prog_22_method_11_code
def yJ3_checkIndex_8e157 : MethodName := ⟨RJ3, "checkIndex", "(IILjava/util/function/BiFunction;)I"⟩
def RL : String := "CellEventsLaw"
abbrev cL_subscribe : ByteArray := method_3_code
def yL_subscribe : MethodName := ⟨RL, "subscribe", "(LCellEvents;III[J)I"⟩
abbrev cL_move : ByteArray := method_4_code
def yL_move : MethodName := ⟨RL, "move", "(LCellEvents;II[J)I"⟩
abbrev cL_leave : ByteArray := method_5_code
def yL_leave : MethodName := ⟨RL, "leave", "(LCellEvents;I[J)I"⟩
abbrev cL_setLevel : ByteArray := method_6_code
def yL_setLevel : MethodName := ⟨RL, "setLevel", "(LCellEvents;II[J)I"⟩
abbrev cL_set : ByteArray := method_7_code
def yL_set : MethodName := ⟨RL, "set", "(LCellEvents;II[J)I"⟩
abbrev cL_publish : ByteArray := method_8_code
def yL_publish : MethodName := ⟨RL, "publish", "(LCellEvents;III[J)I"⟩
abbrev cL_pass : ByteArray := method_9_code
def yL_pass : MethodName := ⟨RL, "pass", "(LCellEvents;I[J)I"⟩
abbrev cL_subscriber : ByteArray := method_10_code
def yL_subscriber : MethodName := ⟨RL, "subscriber", "(LCellEvents;II[J)I"⟩
abbrev cL_stay : ByteArray := method_11_code
def yL_stay : MethodName := ⟨RL, "stay", "(LCellEvents;III[J)I"⟩
abbrev cL_waiting : ByteArray := method_12_code
def yL_waiting : MethodName := ⟨RL, "waiting", "(LCellEvents;II[J)I"⟩
abbrev cL_event : ByteArray := method_13_code
def yL_event : MethodName := ⟨RL, "event", "(LCellEvents;II[J)I"⟩
abbrev cL_leaf : ByteArray := method_14_code
def yL_leaf : MethodName := ⟨RL, "leaf", "(LCellEvents;II[J)I"⟩
abbrev cL_whole : ByteArray := method_15_code
def yL_whole : MethodName := ⟨RL, "whole", "(LCellEvents;I[J)I"⟩
abbrev cL_wouldReach : ByteArray := method_16_code
def yL_wouldReach : MethodName := ⟨RL, "wouldReach", "(LCellEvents;III[J)I"⟩
abbrev cL_reason : ByteArray := method_17_code
def yL_reason : MethodName := ⟨RL, "reason", "(LCellEvents;III[J)I"⟩
abbrev cL_servedIn : ByteArray := method_18_code
def yL_servedIn : MethodName := ⟨RL, "servedIn", "(LCellEvents;I[J)I"⟩
abbrev cL_emptyIn : ByteArray := method_19_code
def yL_emptyIn : MethodName := ⟨RL, "emptyIn", "(LCellEvents;I[J)I"⟩
abbrev cL_covered : ByteArray := method_20_code
def yL_covered : MethodName := ⟨RL, "covered", "(LCellEvents;I[J)I"⟩
abbrev cL_type : ByteArray := method_21_code
def yL_type : MethodName := ⟨RL, "type", "(LCellEvents;I[J)I"⟩
abbrev cL_undo : ByteArray := method_22_code
def yL_undo : MethodName := ⟨RL, "undo", "(LCellEvents;[J)I"⟩
abbrev cL_law : ByteArray := code
def yL_law : MethodName := ⟨RL, "law", "([I)Z"⟩
abbrev vwCl : List vw_C := [(RX0, TX0, 6), (RX1, TX1, 7), (RX2, TX2, 2), (RX3, TX3, 4), (RX4, TX4, 14), (RX5, TX5, 3), (RX6, TX6, 7), (RX7, TX7, 4), (RX8, TX8, 13)]
end
section
theorem dX0_init_0 : decode cX0_init 0 = .ok (.aload_n 0, 1) := by decide +kernel
theorem dX0_init_1 : decode cX0_init 1 = .ok (.invokespecial 3, 3) := by decide +kernel
theorem dX0_init_4 : decode cX0_init 4 = .ok (.aload_n 0, 1) := by decide +kernel
theorem dX0_init_5 : decode cX0_init 5 = .ok (.sipush 150, 3) := by decide +kernel
theorem dX0_init_8 : decode cX0_init 8 = .ok (.newarray .int, 2) := by decide +kernel
theorem dX0_init_10 : decode cX0_init 10 = .ok (.putfield 9, 3) := by decide +kernel
theorem dX0_init_13 : decode cX0_init 13 = .ok (.aload_n 0, 1) := by decide +kernel
theorem dX0_init_14 : decode cX0_init 14 = .ok (.iconst 3, 1) := by decide +kernel
theorem dX0_init_15 : decode cX0_init 15 = .ok (.newarray .int, 2) := by decide +kernel
theorem dX0_init_17 : decode cX0_init 17 = .ok (.putfield 15, 3) := by decide +kernel
theorem dX0_init_20 : decode cX0_init 20 = .ok (.return_, 1) := by decide +kernel
theorem dX0_isFull_0 : decode cX0_isFull 0 = .ok (.aload_n 0, 1) := by decide +kernel
theorem dX0_isFull_1 : decode cX0_isFull 1 = .ok (.getfield 18, 3) := by decide +kernel
theorem dX0_isFull_4 : decode cX0_isFull 4 = .ok (.sipush 150, 3) := by decide +kernel
theorem dX0_isFull_7 : decode cX0_isFull 7 = .ok (.if_icmp .lt 7, 3) := by decide +kernel
theorem dX0_isFull_10 : decode cX0_isFull 10 = .ok (.iconst 1, 1) := by decide +kernel
theorem dX0_isFull_11 : decode cX0_isFull 11 = .ok (.goto 4, 3) := by decide +kernel
theorem dX0_isFull_14 : decode cX0_isFull 14 = .ok (.iconst 0, 1) := by decide +kernel
theorem dX0_isFull_15 : decode cX0_isFull 15 = .ok (.ireturn, 1) := by decide +kernel
theorem dX0_append_0 : decode cX0_append 0 = .ok (.aload_n 0, 1) := by decide +kernel
theorem dX0_append_1 : decode cX0_append 1 = .ok (.getfield 18, 3) := by decide +kernel
theorem dX0_append_4 : decode cX0_append 4 = .ok (.sipush 150, 3) := by decide +kernel
theorem dX0_append_7 : decode cX0_append 7 = .ok (.if_icmp .ge 23, 3) := by decide +kernel
theorem dX0_append_10 : decode cX0_append 10 = .ok (.aload_n 0, 1) := by decide +kernel
theorem dX0_append_11 : decode cX0_append 11 = .ok (.getfield 9, 3) := by decide +kernel
theorem dX0_append_14 : decode cX0_append 14 = .ok (.aload_n 0, 1) := by decide +kernel
theorem dX0_append_15 : decode cX0_append 15 = .ok (.getfield 18, 3) := by decide +kernel
theorem dX0_append_18 : decode cX0_append 18 = .ok (.iload_n 1, 1) := by decide +kernel
theorem dX0_append_19 : decode cX0_append 19 = .ok (.iastore, 1) := by decide +kernel
theorem dX0_append_20 : decode cX0_append 20 = .ok (.aload_n 0, 1) := by decide +kernel
theorem dX0_append_21 : decode cX0_append 21 = .ok (.dup, 1) := by decide +kernel
theorem dX0_append_22 : decode cX0_append 22 = .ok (.getfield 18, 3) := by decide +kernel
theorem dX0_append_25 : decode cX0_append 25 = .ok (.iconst 1, 1) := by decide +kernel
theorem dX0_append_26 : decode cX0_append 26 = .ok (.iadd, 1) := by decide +kernel
theorem dX0_append_27 : decode cX0_append 27 = .ok (.putfield 18, 3) := by decide +kernel
theorem dX0_append_30 : decode cX0_append 30 = .ok (.aload_n 0, 1) := by decide +kernel
theorem dX0_append_31 : decode cX0_append 31 = .ok (.getfield 18, 3) := by decide +kernel
theorem dX0_append_34 : decode cX0_append 34 = .ok (.ireturn, 1) := by decide +kernel
theorem dX0_clear_0 : decode cX0_clear 0 = .ok (.aload_n 0, 1) := by decide +kernel
theorem dX0_clear_1 : decode cX0_clear 1 = .ok (.getfield 18, 3) := by decide +kernel
theorem dX0_clear_4 : decode cX0_clear 4 = .ok (.istore_n 1, 1) := by decide +kernel
theorem dX0_clear_5 : decode cX0_clear 5 = .ok (.aload_n 0, 1) := by decide +kernel
theorem dX0_clear_6 : decode cX0_clear 6 = .ok (.iconst 0, 1) := by decide +kernel
theorem dX0_clear_7 : decode cX0_clear 7 = .ok (.putfield 18, 3) := by decide +kernel
theorem dX0_clear_10 : decode cX0_clear 10 = .ok (.iload_n 1, 1) := by decide +kernel
theorem dX0_clear_11 : decode cX0_clear 11 = .ok (.ireturn, 1) := by decide +kernel
theorem dX0_findFault_0 : decode cX0_findFault 0 = .ok (.aload_n 0, 1) := by decide +kernel
theorem dX0_findFault_1 : decode cX0_findFault 1 = .ok (.invokevirtual 22, 3) := by decide +kernel
theorem dX0_findFault_4 : decode cX0_findFault 4 = .ok (.iconst 0, 1) := by decide +kernel
theorem dX0_findFault_5 : decode cX0_findFault 5 = .ok (.istore_n 1, 1) := by decide +kernel
theorem dX0_findFault_6 : decode cX0_findFault 6 = .ok (.iload_n 1, 1) := by decide +kernel
theorem dX0_findFault_7 : decode cX0_findFault 7 = .ok (.sipush 150, 3) := by decide +kernel
theorem dX0_findFault_10 : decode cX0_findFault 10 = .ok (.if_icmp .ge 16, 3) := by decide +kernel
theorem dX0_findFault_13 : decode cX0_findFault 13 = .ok (.aload_n 0, 1) := by decide +kernel
theorem dX0_findFault_14 : decode cX0_findFault 14 = .ok (.invokevirtual 25, 3) := by decide +kernel
theorem dX0_findFault_17 : decode cX0_findFault 17 = .ok (.ifCond .eq 9, 3) := by decide +kernel
theorem dX0_findFault_20 : decode cX0_findFault 20 = .ok (.iinc 1 1, 3) := by decide +kernel
theorem dX0_findFault_23 : decode cX0_findFault 23 = .ok (.goto (-17), 3) := by decide +kernel
theorem dX0_findFault_26 : decode cX0_findFault 26 = .ok (.aload_n 0, 1) := by decide +kernel
theorem dX0_findFault_27 : decode cX0_findFault 27 = .ok (.getfield 29, 3) := by decide +kernel
theorem dX0_findFault_30 : decode cX0_findFault 30 = .ok (.ireturn, 1) := by decide +kernel
theorem dX0_rewind_0 : decode cX0_rewind 0 = .ok (.aload_n 0, 1) := by decide +kernel
theorem dX0_rewind_1 : decode cX0_rewind 1 = .ok (.iconst 0, 1) := by decide +kernel
theorem dX0_rewind_2 : decode cX0_rewind 2 = .ok (.putfield 32, 3) := by decide +kernel
theorem dX0_rewind_5 : decode cX0_rewind 5 = .ok (.aload_n 0, 1) := by decide +kernel
theorem dX0_rewind_6 : decode cX0_rewind 6 = .ok (.iconst (-1), 1) := by decide +kernel
theorem dX0_rewind_7 : decode cX0_rewind 7 = .ok (.putfield 29, 3) := by decide +kernel
theorem dX0_rewind_10 : decode cX0_rewind 10 = .ok (.return_, 1) := by decide +kernel
theorem dX0_readNext_0 : decode cX0_readNext 0 = .ok (.aload_n 0, 1) := by decide +kernel
theorem dX0_readNext_1 : decode cX0_readNext 1 = .ok (.invokevirtual 35, 3) := by decide +kernel
theorem dX0_readNext_4 : decode cX0_readNext 4 = .ok (.aload_n 0, 1) := by decide +kernel
theorem dX0_readNext_5 : decode cX0_readNext 5 = .ok (.getfield 32, 3) := by decide +kernel
theorem dX0_readNext_8 : decode cX0_readNext 8 = .ok (.aload_n 0, 1) := by decide +kernel
theorem dX0_readNext_9 : decode cX0_readNext 9 = .ok (.getfield 18, 3) := by decide +kernel
theorem dX0_readNext_12 : decode cX0_readNext 12 = .ok (.if_icmp .lt 5, 3) := by decide +kernel
theorem dX0_readNext_15 : decode cX0_readNext 15 = .ok (.iconst 0, 1) := by decide +kernel
theorem dX0_readNext_16 : decode cX0_readNext 16 = .ok (.ireturn, 1) := by decide +kernel
theorem dX0_readNext_17 : decode cX0_readNext 17 = .ok (.aload_n 0, 1) := by decide +kernel
theorem dX0_readNext_18 : decode cX0_readNext 18 = .ok (.invokevirtual 38, 3) := by decide +kernel
theorem dX0_readNext_21 : decode cX0_readNext 21 = .ok (.ifCond .eq 21, 3) := by decide +kernel
theorem dX0_readNext_24 : decode cX0_readNext 24 = .ok (.aload_n 0, 1) := by decide +kernel
theorem dX0_readNext_25 : decode cX0_readNext 25 = .ok (.invokevirtual 41, 3) := by decide +kernel
theorem dX0_readNext_28 : decode cX0_readNext 28 = .ok (.ifCond .eq 14, 3) := by decide +kernel
theorem dX0_readNext_31 : decode cX0_readNext 31 = .ok (.aload_n 0, 1) := by decide +kernel
theorem dX0_readNext_32 : decode cX0_readNext 32 = .ok (.invokevirtual 44, 3) := by decide +kernel
theorem dX0_readNext_35 : decode cX0_readNext 35 = .ok (.ifCond .eq 7, 3) := by decide +kernel
theorem dX0_readNext_38 : decode cX0_readNext 38 = .ok (.iconst 1, 1) := by decide +kernel
theorem dX0_readNext_39 : decode cX0_readNext 39 = .ok (.goto 4, 3) := by decide +kernel
theorem dX0_readNext_42 : decode cX0_readNext 42 = .ok (.iconst 0, 1) := by decide +kernel
theorem dX0_readNext_43 : decode cX0_readNext 43 = .ok (.ireturn, 1) := by decide +kernel
theorem dX0_failAt_0 : decode cX0_failAt 0 = .ok (.aload_n 0, 1) := by decide +kernel
theorem dX0_failAt_1 : decode cX0_failAt 1 = .ok (.iload_n 1, 1) := by decide +kernel
theorem dX0_failAt_2 : decode cX0_failAt 2 = .ok (.putfield 29, 3) := by decide +kernel
theorem dX0_failAt_5 : decode cX0_failAt 5 = .ok (.iconst 0, 1) := by decide +kernel
theorem dX0_failAt_6 : decode cX0_failAt 6 = .ok (.ireturn, 1) := by decide +kernel
theorem dX0_isAt_0 : decode cX0_isAt 0 = .ok (.aload_n 0, 1) := by decide +kernel
theorem dX0_isAt_1 : decode cX0_isAt 1 = .ok (.getfield 32, 3) := by decide +kernel
theorem dX0_isAt_4 : decode cX0_isAt 4 = .ok (.aload_n 0, 1) := by decide +kernel
theorem dX0_isAt_5 : decode cX0_isAt 5 = .ok (.getfield 18, 3) := by decide +kernel
theorem dX0_isAt_8 : decode cX0_isAt 8 = .ok (.if_icmp .ge 20, 3) := by decide +kernel
theorem dX0_isAt_11 : decode cX0_isAt 11 = .ok (.aload_n 0, 1) := by decide +kernel
theorem dX0_isAt_12 : decode cX0_isAt 12 = .ok (.getfield 9, 3) := by decide +kernel
theorem dX0_isAt_15 : decode cX0_isAt 15 = .ok (.aload_n 0, 1) := by decide +kernel
theorem dX0_isAt_16 : decode cX0_isAt 16 = .ok (.getfield 32, 3) := by decide +kernel
theorem dX0_isAt_19 : decode cX0_isAt 19 = .ok (.iaload, 1) := by decide +kernel
theorem dX0_isAt_20 : decode cX0_isAt 20 = .ok (.iload_n 1, 1) := by decide +kernel
theorem dX0_isAt_21 : decode cX0_isAt 21 = .ok (.if_icmp .ne 7, 3) := by decide +kernel
theorem dX0_isAt_24 : decode cX0_isAt 24 = .ok (.iconst 1, 1) := by decide +kernel
theorem dX0_isAt_25 : decode cX0_isAt 25 = .ok (.goto 4, 3) := by decide +kernel
theorem dX0_isAt_28 : decode cX0_isAt 28 = .ok (.iconst 0, 1) := by decide +kernel
theorem dX0_isAt_29 : decode cX0_isAt 29 = .ok (.ireturn, 1) := by decide +kernel
theorem dX0_isWithin_0 : decode cX0_isWithin 0 = .ok (.aload_n 0, 1) := by decide +kernel
theorem dX0_isWithin_1 : decode cX0_isWithin 1 = .ok (.getfield 32, 3) := by decide +kernel
theorem dX0_isWithin_4 : decode cX0_isWithin 4 = .ok (.aload_n 0, 1) := by decide +kernel
theorem dX0_isWithin_5 : decode cX0_isWithin 5 = .ok (.getfield 18, 3) := by decide +kernel
theorem dX0_isWithin_8 : decode cX0_isWithin 8 = .ok (.if_icmp .ge 33, 3) := by decide +kernel
theorem dX0_isWithin_11 : decode cX0_isWithin 11 = .ok (.aload_n 0, 1) := by decide +kernel
theorem dX0_isWithin_12 : decode cX0_isWithin 12 = .ok (.getfield 9, 3) := by decide +kernel
theorem dX0_isWithin_15 : decode cX0_isWithin 15 = .ok (.aload_n 0, 1) := by decide +kernel
theorem dX0_isWithin_16 : decode cX0_isWithin 16 = .ok (.getfield 32, 3) := by decide +kernel
theorem dX0_isWithin_19 : decode cX0_isWithin 19 = .ok (.iaload, 1) := by decide +kernel
theorem dX0_isWithin_20 : decode cX0_isWithin 20 = .ok (.iload_n 1, 1) := by decide +kernel
theorem dX0_isWithin_21 : decode cX0_isWithin 21 = .ok (.if_icmp .lt 20, 3) := by decide +kernel
theorem dX0_isWithin_24 : decode cX0_isWithin 24 = .ok (.aload_n 0, 1) := by decide +kernel
theorem dX0_isWithin_25 : decode cX0_isWithin 25 = .ok (.getfield 9, 3) := by decide +kernel
theorem dX0_isWithin_28 : decode cX0_isWithin 28 = .ok (.aload_n 0, 1) := by decide +kernel
theorem dX0_isWithin_29 : decode cX0_isWithin 29 = .ok (.getfield 32, 3) := by decide +kernel
theorem dX0_isWithin_32 : decode cX0_isWithin 32 = .ok (.iaload, 1) := by decide +kernel
theorem dX0_isWithin_33 : decode cX0_isWithin 33 = .ok (.iload_n 2, 1) := by decide +kernel
theorem dX0_isWithin_34 : decode cX0_isWithin 34 = .ok (.if_icmp .gt 7, 3) := by decide +kernel
theorem dX0_isWithin_37 : decode cX0_isWithin 37 = .ok (.iconst 1, 1) := by decide +kernel
theorem dX0_isWithin_38 : decode cX0_isWithin 38 = .ok (.goto 4, 3) := by decide +kernel
theorem dX0_isWithin_41 : decode cX0_isWithin 41 = .ok (.iconst 0, 1) := by decide +kernel
theorem dX0_isWithin_42 : decode cX0_isWithin 42 = .ok (.ireturn, 1) := by decide +kernel
theorem dX0_skipSpaces_0 : decode cX0_skipSpaces 0 = .ok (.aload_n 0, 1) := by decide +kernel
theorem dX0_skipSpaces_1 : decode cX0_skipSpaces 1 = .ok (.getfield 32, 3) := by decide +kernel
theorem dX0_skipSpaces_4 : decode cX0_skipSpaces 4 = .ok (.aload_n 0, 1) := by decide +kernel
theorem dX0_skipSpaces_5 : decode cX0_skipSpaces 5 = .ok (.getfield 18, 3) := by decide +kernel
theorem dX0_skipSpaces_8 : decode cX0_skipSpaces 8 = .ok (.if_icmp .ge 30, 3) := by decide +kernel
theorem dX0_skipSpaces_11 : decode cX0_skipSpaces 11 = .ok (.aload_n 0, 1) := by decide +kernel
theorem dX0_skipSpaces_12 : decode cX0_skipSpaces 12 = .ok (.getfield 9, 3) := by decide +kernel
theorem dX0_skipSpaces_15 : decode cX0_skipSpaces 15 = .ok (.aload_n 0, 1) := by decide +kernel
theorem dX0_skipSpaces_16 : decode cX0_skipSpaces 16 = .ok (.getfield 32, 3) := by decide +kernel
theorem dX0_skipSpaces_19 : decode cX0_skipSpaces 19 = .ok (.iaload, 1) := by decide +kernel
theorem dX0_skipSpaces_20 : decode cX0_skipSpaces 20 = .ok (.bipush 32, 2) := by decide +kernel
theorem dX0_skipSpaces_22 : decode cX0_skipSpaces 22 = .ok (.if_icmp .ne 16, 3) := by decide +kernel
theorem dX0_skipSpaces_25 : decode cX0_skipSpaces 25 = .ok (.aload_n 0, 1) := by decide +kernel
theorem dX0_skipSpaces_26 : decode cX0_skipSpaces 26 = .ok (.dup, 1) := by decide +kernel
theorem dX0_skipSpaces_27 : decode cX0_skipSpaces 27 = .ok (.getfield 32, 3) := by decide +kernel
theorem dX0_skipSpaces_30 : decode cX0_skipSpaces 30 = .ok (.iconst 1, 1) := by decide +kernel
theorem dX0_skipSpaces_31 : decode cX0_skipSpaces 31 = .ok (.iadd, 1) := by decide +kernel
theorem dX0_skipSpaces_32 : decode cX0_skipSpaces 32 = .ok (.putfield 32, 3) := by decide +kernel
theorem dX0_skipSpaces_35 : decode cX0_skipSpaces 35 = .ok (.goto (-35), 3) := by decide +kernel
theorem dX0_skipSpaces_38 : decode cX0_skipSpaces 38 = .ok (.return_, 1) := by decide +kernel
theorem dX0_readWord_0 : decode cX0_readWord 0 = .ok (.aload_n 0, 1) := by decide +kernel
theorem dX0_readWord_1 : decode cX0_readWord 1 = .ok (.getfield 32, 3) := by decide +kernel
theorem dX0_readWord_4 : decode cX0_readWord 4 = .ok (.istore_n 1, 1) := by decide +kernel
theorem dX0_readWord_5 : decode cX0_readWord 5 = .ok (.aload_n 0, 1) := by decide +kernel
theorem dX0_readWord_6 : decode cX0_readWord 6 = .ok (.getfield 32, 3) := by decide +kernel
theorem dX0_readWord_9 : decode cX0_readWord 9 = .ok (.aload_n 0, 1) := by decide +kernel
theorem dX0_readWord_10 : decode cX0_readWord 10 = .ok (.getfield 18, 3) := by decide +kernel
theorem dX0_readWord_13 : decode cX0_readWord 13 = .ok (.if_icmp .ge 27, 3) := by decide +kernel
theorem dX0_readWord_16 : decode cX0_readWord 16 = .ok (.aload_n 0, 1) := by decide +kernel
theorem dX0_readWord_17 : decode cX0_readWord 17 = .ok (.bipush 97, 2) := by decide +kernel
theorem dX0_readWord_19 : decode cX0_readWord 19 = .ok (.bipush 122, 2) := by decide +kernel
theorem dX0_readWord_21 : decode cX0_readWord 21 = .ok (.invokevirtual 47, 3) := by decide +kernel
theorem dX0_readWord_24 : decode cX0_readWord 24 = .ok (.ifCond .eq 16, 3) := by decide +kernel
theorem dX0_readWord_27 : decode cX0_readWord 27 = .ok (.aload_n 0, 1) := by decide +kernel
theorem dX0_readWord_28 : decode cX0_readWord 28 = .ok (.dup, 1) := by decide +kernel
theorem dX0_readWord_29 : decode cX0_readWord 29 = .ok (.getfield 32, 3) := by decide +kernel
theorem dX0_readWord_32 : decode cX0_readWord 32 = .ok (.iconst 1, 1) := by decide +kernel
theorem dX0_readWord_33 : decode cX0_readWord 33 = .ok (.iadd, 1) := by decide +kernel
theorem dX0_readWord_34 : decode cX0_readWord 34 = .ok (.putfield 32, 3) := by decide +kernel
theorem dX0_readWord_37 : decode cX0_readWord 37 = .ok (.goto (-32), 3) := by decide +kernel
theorem dX0_readWord_40 : decode cX0_readWord 40 = .ok (.aload_n 0, 1) := by decide +kernel
theorem dX0_readWord_41 : decode cX0_readWord 41 = .ok (.aload_n 0, 1) := by decide +kernel
theorem dX0_readWord_42 : decode cX0_readWord 42 = .ok (.iload_n 1, 1) := by decide +kernel
theorem dX0_readWord_43 : decode cX0_readWord 43 = .ok (.aload_n 0, 1) := by decide +kernel
theorem dX0_readWord_44 : decode cX0_readWord 44 = .ok (.getfield 32, 3) := by decide +kernel
theorem dX0_readWord_47 : decode cX0_readWord 47 = .ok (.invokevirtual 51, 3) := by decide +kernel
theorem dX0_readWord_50 : decode cX0_readWord 50 = .ok (.putfield 55, 3) := by decide +kernel
theorem dX0_readWord_53 : decode cX0_readWord 53 = .ok (.aload_n 0, 1) := by decide +kernel
theorem dX0_readWord_54 : decode cX0_readWord 54 = .ok (.getfield 55, 3) := by decide +kernel
theorem dX0_readWord_57 : decode cX0_readWord 57 = .ok (.iconst (-1), 1) := by decide +kernel
theorem dX0_readWord_58 : decode cX0_readWord 58 = .ok (.if_icmp .ne 11, 3) := by decide +kernel
theorem dX0_readWord_61 : decode cX0_readWord 61 = .ok (.aload_n 0, 1) := by decide +kernel
theorem dX0_readWord_62 : decode cX0_readWord 62 = .ok (.iload_n 1, 1) := by decide +kernel
theorem dX0_readWord_63 : decode cX0_readWord 63 = .ok (.invokevirtual 58, 3) := by decide +kernel
theorem dX0_readWord_66 : decode cX0_readWord 66 = .ok (.ifCond .eq 7, 3) := by decide +kernel
theorem dX0_readWord_69 : decode cX0_readWord 69 = .ok (.iconst 1, 1) := by decide +kernel
theorem dX0_readWord_70 : decode cX0_readWord 70 = .ok (.goto 4, 3) := by decide +kernel
theorem dX0_readWord_73 : decode cX0_readWord 73 = .ok (.iconst 0, 1) := by decide +kernel
theorem dX0_readWord_74 : decode cX0_readWord 74 = .ok (.ireturn, 1) := by decide +kernel
theorem dX0_kindOf_0 : decode cX0_kindOf 0 = .ok (.iconst 0, 1) := by decide +kernel
theorem dX0_kindOf_1 : decode cX0_kindOf 1 = .ok (.istore_n 3, 1) := by decide +kernel
theorem dX0_kindOf_2 : decode cX0_kindOf 2 = .ok (.iload_n 3, 1) := by decide +kernel
theorem dX0_kindOf_3 : decode cX0_kindOf 3 = .ok (.bipush 7, 2) := by decide +kernel
theorem dX0_kindOf_5 : decode cX0_kindOf 5 = .ok (.if_icmp .ge 24, 3) := by decide +kernel
theorem dX0_kindOf_8 : decode cX0_kindOf 8 = .ok (.aload_n 0, 1) := by decide +kernel
theorem dX0_kindOf_9 : decode cX0_kindOf 9 = .ok (.iload_n 3, 1) := by decide +kernel
theorem dX0_kindOf_10 : decode cX0_kindOf 10 = .ok (.invokestatic 62, 3) := by decide +kernel
theorem dX0_kindOf_13 : decode cX0_kindOf 13 = .ok (.iload_n 1, 1) := by decide +kernel
theorem dX0_kindOf_14 : decode cX0_kindOf 14 = .ok (.iload_n 2, 1) := by decide +kernel
theorem dX0_kindOf_15 : decode cX0_kindOf 15 = .ok (.invokevirtual 66, 3) := by decide +kernel
theorem dX0_kindOf_18 : decode cX0_kindOf 18 = .ok (.ifCond .eq 5, 3) := by decide +kernel
theorem dX0_kindOf_21 : decode cX0_kindOf 21 = .ok (.iload_n 3, 1) := by decide +kernel
theorem dX0_kindOf_22 : decode cX0_kindOf 22 = .ok (.ireturn, 1) := by decide +kernel
theorem dX0_kindOf_23 : decode cX0_kindOf 23 = .ok (.iinc 3 1, 3) := by decide +kernel
theorem dX0_kindOf_26 : decode cX0_kindOf 26 = .ok (.goto (-24), 3) := by decide +kernel
theorem dX0_kindOf_29 : decode cX0_kindOf 29 = .ok (.iconst (-1), 1) := by decide +kernel
theorem dX0_kindOf_30 : decode cX0_kindOf 30 = .ok (.ireturn, 1) := by decide +kernel
theorem dX0_stands_0 : decode cX0_stands 0 = .ok (.aload_n 1, 1) := by decide +kernel
theorem dX0_stands_1 : decode cX0_stands 1 = .ok (.invokevirtual 70, 3) := by decide +kernel
theorem dX0_stands_4 : decode cX0_stands 4 = .ok (.iload_n 3, 1) := by decide +kernel
theorem dX0_stands_5 : decode cX0_stands 5 = .ok (.iload_n 2, 1) := by decide +kernel
theorem dX0_stands_6 : decode cX0_stands 6 = .ok (.isub, 1) := by decide +kernel
theorem dX0_stands_7 : decode cX0_stands 7 = .ok (.if_icmp .eq 5, 3) := by decide +kernel
theorem dX0_stands_10 : decode cX0_stands 10 = .ok (.iconst 0, 1) := by decide +kernel
theorem dX0_stands_11 : decode cX0_stands 11 = .ok (.ireturn, 1) := by decide +kernel
theorem dX0_stands_12 : decode cX0_stands 12 = .ok (.iconst 0, 1) := by decide +kernel
theorem dX0_stands_13 : decode cX0_stands 13 = .ok (.istore 4, 2) := by decide +kernel
theorem dX0_stands_15 : decode cX0_stands 15 = .ok (.iload 4, 2) := by decide +kernel
theorem dX0_stands_17 : decode cX0_stands 17 = .ok (.aload_n 1, 1) := by decide +kernel
theorem dX0_stands_18 : decode cX0_stands 18 = .ok (.invokevirtual 70, 3) := by decide +kernel
theorem dX0_stands_21 : decode cX0_stands 21 = .ok (.if_icmp .ge 29, 3) := by decide +kernel
theorem dX0_stands_24 : decode cX0_stands 24 = .ok (.aload_n 0, 1) := by decide +kernel
theorem dX0_stands_25 : decode cX0_stands 25 = .ok (.getfield 9, 3) := by decide +kernel
theorem dX0_stands_28 : decode cX0_stands 28 = .ok (.iload_n 2, 1) := by decide +kernel
theorem dX0_stands_29 : decode cX0_stands 29 = .ok (.iload 4, 2) := by decide +kernel
theorem dX0_stands_31 : decode cX0_stands 31 = .ok (.iadd, 1) := by decide +kernel
theorem dX0_stands_32 : decode cX0_stands 32 = .ok (.iaload, 1) := by decide +kernel
theorem dX0_stands_33 : decode cX0_stands 33 = .ok (.aload_n 1, 1) := by decide +kernel
theorem dX0_stands_34 : decode cX0_stands 34 = .ok (.iload 4, 2) := by decide +kernel
theorem dX0_stands_36 : decode cX0_stands 36 = .ok (.invokevirtual 75, 3) := by decide +kernel
theorem dX0_stands_39 : decode cX0_stands 39 = .ok (.if_icmp .eq 5, 3) := by decide +kernel
theorem dX0_stands_42 : decode cX0_stands 42 = .ok (.iconst 0, 1) := by decide +kernel
theorem dX0_stands_43 : decode cX0_stands 43 = .ok (.ireturn, 1) := by decide +kernel
theorem dX0_stands_44 : decode cX0_stands 44 = .ok (.iinc 4 1, 3) := by decide +kernel
theorem dX0_stands_47 : decode cX0_stands 47 = .ok (.goto (-32), 3) := by decide +kernel
theorem dX0_stands_50 : decode cX0_stands 50 = .ok (.iconst 1, 1) := by decide +kernel
theorem dX0_stands_51 : decode cX0_stands 51 = .ok (.ireturn, 1) := by decide +kernel
theorem dX0_readNumbers_0 : decode cX0_readNumbers 0 = .ok (.aload_n 0, 1) := by decide +kernel
theorem dX0_readNumbers_1 : decode cX0_readNumbers 1 = .ok (.getfield 55, 3) := by decide +kernel
theorem dX0_readNumbers_4 : decode cX0_readNumbers 4 = .ok (.invokestatic 79, 3) := by decide +kernel
theorem dX0_readNumbers_7 : decode cX0_readNumbers 7 = .ok (.istore_n 1, 1) := by decide +kernel
theorem dX0_readNumbers_8 : decode cX0_readNumbers 8 = .ok (.iconst 0, 1) := by decide +kernel
theorem dX0_readNumbers_9 : decode cX0_readNumbers 9 = .ok (.istore_n 2, 1) := by decide +kernel
theorem dX0_readNumbers_10 : decode cX0_readNumbers 10 = .ok (.iload_n 2, 1) := by decide +kernel
theorem dX0_readNumbers_11 : decode cX0_readNumbers 11 = .ok (.iconst 3, 1) := by decide +kernel
theorem dX0_readNumbers_12 : decode cX0_readNumbers 12 = .ok (.if_icmp .ge 31, 3) := by decide +kernel
theorem dX0_readNumbers_15 : decode cX0_readNumbers 15 = .ok (.aload_n 0, 1) := by decide +kernel
theorem dX0_readNumbers_16 : decode cX0_readNumbers 16 = .ok (.getfield 15, 3) := by decide +kernel
theorem dX0_readNumbers_19 : decode cX0_readNumbers 19 = .ok (.iload_n 2, 1) := by decide +kernel
theorem dX0_readNumbers_20 : decode cX0_readNumbers 20 = .ok (.iconst 0, 1) := by decide +kernel
theorem dX0_readNumbers_21 : decode cX0_readNumbers 21 = .ok (.iastore, 1) := by decide +kernel
theorem dX0_readNumbers_22 : decode cX0_readNumbers 22 = .ok (.iload_n 2, 1) := by decide +kernel
theorem dX0_readNumbers_23 : decode cX0_readNumbers 23 = .ok (.iload_n 1, 1) := by decide +kernel
theorem dX0_readNumbers_24 : decode cX0_readNumbers 24 = .ok (.if_icmp .ge 13, 3) := by decide +kernel
theorem dX0_readNumbers_27 : decode cX0_readNumbers 27 = .ok (.aload_n 0, 1) := by decide +kernel
theorem dX0_readNumbers_28 : decode cX0_readNumbers 28 = .ok (.iload_n 2, 1) := by decide +kernel
theorem dX0_readNumbers_29 : decode cX0_readNumbers 29 = .ok (.invokevirtual 83, 3) := by decide +kernel
theorem dX0_readNumbers_32 : decode cX0_readNumbers 32 = .ok (.ifCond .ne 5, 3) := by decide +kernel
theorem dX0_readNumbers_35 : decode cX0_readNumbers 35 = .ok (.iconst 0, 1) := by decide +kernel
theorem dX0_readNumbers_36 : decode cX0_readNumbers 36 = .ok (.ireturn, 1) := by decide +kernel
theorem dX0_readNumbers_37 : decode cX0_readNumbers 37 = .ok (.iinc 2 1, 3) := by decide +kernel
theorem dX0_readNumbers_40 : decode cX0_readNumbers 40 = .ok (.goto (-30), 3) := by decide +kernel
theorem dX0_readNumbers_43 : decode cX0_readNumbers 43 = .ok (.iconst 1, 1) := by decide +kernel
theorem dX0_readNumbers_44 : decode cX0_readNumbers 44 = .ok (.ireturn, 1) := by decide +kernel
theorem dX0_readNumber_0 : decode cX0_readNumber 0 = .ok (.aload_n 0, 1) := by decide +kernel
theorem dX0_readNumber_1 : decode cX0_readNumber 1 = .ok (.bipush 32, 2) := by decide +kernel
theorem dX0_readNumber_3 : decode cX0_readNumber 3 = .ok (.invokevirtual 86, 3) := by decide +kernel
theorem dX0_readNumber_6 : decode cX0_readNumber 6 = .ok (.ifCond .ne 12, 3) := by decide +kernel
theorem dX0_readNumber_9 : decode cX0_readNumber 9 = .ok (.aload_n 0, 1) := by decide +kernel
theorem dX0_readNumber_10 : decode cX0_readNumber 10 = .ok (.aload_n 0, 1) := by decide +kernel
theorem dX0_readNumber_11 : decode cX0_readNumber 11 = .ok (.getfield 32, 3) := by decide +kernel
theorem dX0_readNumber_14 : decode cX0_readNumber 14 = .ok (.invokevirtual 58, 3) := by decide +kernel
theorem dX0_readNumber_17 : decode cX0_readNumber 17 = .ok (.ireturn, 1) := by decide +kernel
theorem dX0_readNumber_18 : decode cX0_readNumber 18 = .ok (.aload_n 0, 1) := by decide +kernel
theorem dX0_readNumber_19 : decode cX0_readNumber 19 = .ok (.invokevirtual 35, 3) := by decide +kernel
theorem dX0_readNumber_22 : decode cX0_readNumber 22 = .ok (.iconst 0, 1) := by decide +kernel
theorem dX0_readNumber_23 : decode cX0_readNumber 23 = .ok (.istore_n 2, 1) := by decide +kernel
theorem dX0_readNumber_24 : decode cX0_readNumber 24 = .ok (.iconst 0, 1) := by decide +kernel
theorem dX0_readNumber_25 : decode cX0_readNumber 25 = .ok (.istore_n 3, 1) := by decide +kernel
theorem dX0_readNumber_26 : decode cX0_readNumber 26 = .ok (.iload_n 2, 1) := by decide +kernel
theorem dX0_readNumber_27 : decode cX0_readNumber 27 = .ok (.iconst 3, 1) := by decide +kernel
theorem dX0_readNumber_28 : decode cX0_readNumber 28 = .ok (.if_icmp .ge 48, 3) := by decide +kernel
theorem dX0_readNumber_31 : decode cX0_readNumber 31 = .ok (.aload_n 0, 1) := by decide +kernel
theorem dX0_readNumber_32 : decode cX0_readNumber 32 = .ok (.bipush 48, 2) := by decide +kernel
theorem dX0_readNumber_34 : decode cX0_readNumber 34 = .ok (.bipush 57, 2) := by decide +kernel
theorem dX0_readNumber_36 : decode cX0_readNumber 36 = .ok (.invokevirtual 47, 3) := by decide +kernel
theorem dX0_readNumber_39 : decode cX0_readNumber 39 = .ok (.ifCond .eq 37, 3) := by decide +kernel
theorem dX0_readNumber_42 : decode cX0_readNumber 42 = .ok (.bipush 10, 2) := by decide +kernel
theorem dX0_readNumber_44 : decode cX0_readNumber 44 = .ok (.iload_n 3, 1) := by decide +kernel
theorem dX0_readNumber_45 : decode cX0_readNumber 45 = .ok (.imul, 1) := by decide +kernel
theorem dX0_readNumber_46 : decode cX0_readNumber 46 = .ok (.aload_n 0, 1) := by decide +kernel
theorem dX0_readNumber_47 : decode cX0_readNumber 47 = .ok (.getfield 9, 3) := by decide +kernel
theorem dX0_readNumber_50 : decode cX0_readNumber 50 = .ok (.aload_n 0, 1) := by decide +kernel
theorem dX0_readNumber_51 : decode cX0_readNumber 51 = .ok (.getfield 32, 3) := by decide +kernel
theorem dX0_readNumber_54 : decode cX0_readNumber 54 = .ok (.iaload, 1) := by decide +kernel
theorem dX0_readNumber_55 : decode cX0_readNumber 55 = .ok (.iadd, 1) := by decide +kernel
theorem dX0_readNumber_56 : decode cX0_readNumber 56 = .ok (.bipush 48, 2) := by decide +kernel
theorem dX0_readNumber_58 : decode cX0_readNumber 58 = .ok (.isub, 1) := by decide +kernel
theorem dX0_readNumber_59 : decode cX0_readNumber 59 = .ok (.istore_n 3, 1) := by decide +kernel
theorem dX0_readNumber_60 : decode cX0_readNumber 60 = .ok (.iinc 2 1, 3) := by decide +kernel
theorem dX0_readNumber_63 : decode cX0_readNumber 63 = .ok (.aload_n 0, 1) := by decide +kernel
theorem dX0_readNumber_64 : decode cX0_readNumber 64 = .ok (.dup, 1) := by decide +kernel
theorem dX0_readNumber_65 : decode cX0_readNumber 65 = .ok (.getfield 32, 3) := by decide +kernel
theorem dX0_readNumber_68 : decode cX0_readNumber 68 = .ok (.iconst 1, 1) := by decide +kernel
theorem dX0_readNumber_69 : decode cX0_readNumber 69 = .ok (.iadd, 1) := by decide +kernel
theorem dX0_readNumber_70 : decode cX0_readNumber 70 = .ok (.putfield 32, 3) := by decide +kernel
theorem dX0_readNumber_73 : decode cX0_readNumber 73 = .ok (.goto (-47), 3) := by decide +kernel
theorem dX0_readNumber_76 : decode cX0_readNumber 76 = .ok (.aload_n 0, 1) := by decide +kernel
theorem dX0_readNumber_77 : decode cX0_readNumber 77 = .ok (.getfield 15, 3) := by decide +kernel
theorem dX0_readNumber_80 : decode cX0_readNumber 80 = .ok (.iload_n 1, 1) := by decide +kernel
theorem dX0_readNumber_81 : decode cX0_readNumber 81 = .ok (.iload_n 3, 1) := by decide +kernel
theorem dX0_readNumber_82 : decode cX0_readNumber 82 = .ok (.iastore, 1) := by decide +kernel
theorem dX0_readNumber_83 : decode cX0_readNumber 83 = .ok (.iload_n 2, 1) := by decide +kernel
theorem dX0_readNumber_84 : decode cX0_readNumber 84 = .ok (.ifCond .gt 14, 3) := by decide +kernel
theorem dX0_readNumber_87 : decode cX0_readNumber 87 = .ok (.aload_n 0, 1) := by decide +kernel
theorem dX0_readNumber_88 : decode cX0_readNumber 88 = .ok (.aload_n 0, 1) := by decide +kernel
theorem dX0_readNumber_89 : decode cX0_readNumber 89 = .ok (.getfield 32, 3) := by decide +kernel
theorem dX0_readNumber_92 : decode cX0_readNumber 92 = .ok (.invokevirtual 58, 3) := by decide +kernel
theorem dX0_readNumber_95 : decode cX0_readNumber 95 = .ok (.ifCond .eq 7, 3) := by decide +kernel
theorem dX0_readNumber_98 : decode cX0_readNumber 98 = .ok (.iconst 1, 1) := by decide +kernel
theorem dX0_readNumber_99 : decode cX0_readNumber 99 = .ok (.goto 4, 3) := by decide +kernel
theorem dX0_readNumber_102 : decode cX0_readNumber 102 = .ok (.iconst 0, 1) := by decide +kernel
theorem dX0_readNumber_103 : decode cX0_readNumber 103 = .ok (.ireturn, 1) := by decide +kernel
theorem dX0_readSemicolon_0 : decode cX0_readSemicolon 0 = .ok (.aload_n 0, 1) := by decide +kernel
theorem dX0_readSemicolon_1 : decode cX0_readSemicolon 1 = .ok (.invokevirtual 35, 3) := by decide +kernel
theorem dX0_readSemicolon_4 : decode cX0_readSemicolon 4 = .ok (.aload_n 0, 1) := by decide +kernel
theorem dX0_readSemicolon_5 : decode cX0_readSemicolon 5 = .ok (.bipush 59, 2) := by decide +kernel
theorem dX0_readSemicolon_7 : decode cX0_readSemicolon 7 = .ok (.invokevirtual 86, 3) := by decide +kernel
theorem dX0_readSemicolon_10 : decode cX0_readSemicolon 10 = .ok (.ifCond .ne 12, 3) := by decide +kernel
theorem dX0_readSemicolon_13 : decode cX0_readSemicolon 13 = .ok (.aload_n 0, 1) := by decide +kernel
theorem dX0_readSemicolon_14 : decode cX0_readSemicolon 14 = .ok (.aload_n 0, 1) := by decide +kernel
theorem dX0_readSemicolon_15 : decode cX0_readSemicolon 15 = .ok (.getfield 32, 3) := by decide +kernel
theorem dX0_readSemicolon_18 : decode cX0_readSemicolon 18 = .ok (.invokevirtual 58, 3) := by decide +kernel
theorem dX0_readSemicolon_21 : decode cX0_readSemicolon 21 = .ok (.ireturn, 1) := by decide +kernel
theorem dX0_readSemicolon_22 : decode cX0_readSemicolon 22 = .ok (.aload_n 0, 1) := by decide +kernel
theorem dX0_readSemicolon_23 : decode cX0_readSemicolon 23 = .ok (.dup, 1) := by decide +kernel
theorem dX0_readSemicolon_24 : decode cX0_readSemicolon 24 = .ok (.getfield 32, 3) := by decide +kernel
theorem dX0_readSemicolon_27 : decode cX0_readSemicolon 27 = .ok (.iconst 1, 1) := by decide +kernel
theorem dX0_readSemicolon_28 : decode cX0_readSemicolon 28 = .ok (.iadd, 1) := by decide +kernel
theorem dX0_readSemicolon_29 : decode cX0_readSemicolon 29 = .ok (.putfield 32, 3) := by decide +kernel
theorem dX0_readSemicolon_32 : decode cX0_readSemicolon 32 = .ok (.iconst 1, 1) := by decide +kernel
theorem dX0_readSemicolon_33 : decode cX0_readSemicolon 33 = .ok (.ireturn, 1) := by decide +kernel
theorem dX0_wordOf_0 : decode cX0_wordOf 0 = .ok (.iload_n 0, 1) := by decide +kernel
theorem dX0_wordOf_1 : decode cX0_wordOf 1 = .ok (.tableswitch 57 0 5 #[39, 42, 45, 48, 51, 54], 39) := by decide +kernel
theorem dX0_wordOf_40 : decode cX0_wordOf 40 = .ok (.ldc 90, 2) := by decide +kernel
theorem dX0_wordOf_42 : decode cX0_wordOf 42 = .ok (.areturn, 1) := by decide +kernel
theorem dX0_wordOf_43 : decode cX0_wordOf 43 = .ok (.ldc 92, 2) := by decide +kernel
theorem dX0_wordOf_45 : decode cX0_wordOf 45 = .ok (.areturn, 1) := by decide +kernel
theorem dX0_wordOf_46 : decode cX0_wordOf 46 = .ok (.ldc 94, 2) := by decide +kernel
theorem dX0_wordOf_48 : decode cX0_wordOf 48 = .ok (.areturn, 1) := by decide +kernel
theorem dX0_wordOf_49 : decode cX0_wordOf 49 = .ok (.ldc 96, 2) := by decide +kernel
theorem dX0_wordOf_51 : decode cX0_wordOf 51 = .ok (.areturn, 1) := by decide +kernel
theorem dX0_wordOf_52 : decode cX0_wordOf 52 = .ok (.ldc 98, 2) := by decide +kernel
theorem dX0_wordOf_54 : decode cX0_wordOf 54 = .ok (.areturn, 1) := by decide +kernel
theorem dX0_wordOf_55 : decode cX0_wordOf 55 = .ok (.ldc 100, 2) := by decide +kernel
theorem dX0_wordOf_57 : decode cX0_wordOf 57 = .ok (.areturn, 1) := by decide +kernel
theorem dX0_wordOf_58 : decode cX0_wordOf 58 = .ok (.ldc 102, 2) := by decide +kernel
theorem dX0_wordOf_60 : decode cX0_wordOf 60 = .ok (.areturn, 1) := by decide +kernel
theorem dX0_numbersOf_0 : decode cX0_numbersOf 0 = .ok (.iload_n 0, 1) := by decide +kernel
theorem dX0_numbersOf_1 : decode cX0_numbersOf 1 = .ok (.tableswitch 43 0 5 #[39, 41, 43, 41, 39, 41], 39) := by decide +kernel
theorem dX0_numbersOf_40 : decode cX0_numbersOf 40 = .ok (.iconst 3, 1) := by decide +kernel
theorem dX0_numbersOf_41 : decode cX0_numbersOf 41 = .ok (.ireturn, 1) := by decide +kernel
theorem dX0_numbersOf_42 : decode cX0_numbersOf 42 = .ok (.iconst 2, 1) := by decide +kernel
theorem dX0_numbersOf_43 : decode cX0_numbersOf 43 = .ok (.ireturn, 1) := by decide +kernel
theorem dX0_numbersOf_44 : decode cX0_numbersOf 44 = .ok (.iconst 1, 1) := by decide +kernel
theorem dX0_numbersOf_45 : decode cX0_numbersOf 45 = .ok (.ireturn, 1) := by decide +kernel
theorem dX1_init_0 : decode cX1_init 0 = .ok (.aload_n 0, 1) := by decide +kernel
theorem dX1_init_1 : decode cX1_init 1 = .ok (.invokespecial 3, 3) := by decide +kernel
theorem dX1_init_4 : decode cX1_init 4 = .ok (.aload_n 0, 1) := by decide +kernel
theorem dX1_init_5 : decode cX1_init 5 = .ok (.bipush 60, 2) := by decide +kernel
theorem dX1_init_7 : decode cX1_init 7 = .ok (.newarray .int, 2) := by decide +kernel
theorem dX1_init_9 : decode cX1_init 9 = .ok (.putfield 9, 3) := by decide +kernel
theorem dX1_init_12 : decode cX1_init 12 = .ok (.aload_n 0, 1) := by decide +kernel
theorem dX1_init_13 : decode cX1_init 13 = .ok (.bipush 60, 2) := by decide +kernel
theorem dX1_init_15 : decode cX1_init 15 = .ok (.newarray .int, 2) := by decide +kernel
theorem dX1_init_17 : decode cX1_init 17 = .ok (.putfield 15, 3) := by decide +kernel
theorem dX1_init_20 : decode cX1_init 20 = .ok (.aload_n 0, 1) := by decide +kernel
theorem dX1_init_21 : decode cX1_init 21 = .ok (.bipush 60, 2) := by decide +kernel
theorem dX1_init_23 : decode cX1_init 23 = .ok (.newarray .int, 2) := by decide +kernel
theorem dX1_init_25 : decode cX1_init 25 = .ok (.putfield 18, 3) := by decide +kernel
theorem dX1_init_28 : decode cX1_init 28 = .ok (.aload_n 0, 1) := by decide +kernel
theorem dX1_init_29 : decode cX1_init 29 = .ok (.bipush 60, 2) := by decide +kernel
theorem dX1_init_31 : decode cX1_init 31 = .ok (.newarray .int, 2) := by decide +kernel
theorem dX1_init_33 : decode cX1_init 33 = .ok (.putfield 21, 3) := by decide +kernel
theorem dX1_init_36 : decode cX1_init 36 = .ok (.aload_n 0, 1) := by decide +kernel
theorem dX1_init_37 : decode cX1_init 37 = .ok (.bipush 60, 2) := by decide +kernel
theorem dX1_init_39 : decode cX1_init 39 = .ok (.newarray .int, 2) := by decide +kernel
theorem dX1_init_41 : decode cX1_init 41 = .ok (.putfield 24, 3) := by decide +kernel
theorem dX1_init_44 : decode cX1_init 44 = .ok (.aload_n 0, 1) := by decide +kernel
theorem dX1_init_45 : decode cX1_init 45 = .ok (.bipush 60, 2) := by decide +kernel
theorem dX1_init_47 : decode cX1_init 47 = .ok (.newarray .int, 2) := by decide +kernel
theorem dX1_init_49 : decode cX1_init 49 = .ok (.putfield 27, 3) := by decide +kernel
theorem dX1_init_52 : decode cX1_init 52 = .ok (.return_, 1) := by decide +kernel
theorem dX1_copyFrom_0 : decode cX1_copyFrom 0 = .ok (.aload_n 1, 1) := by decide +kernel
theorem dX1_copyFrom_1 : decode cX1_copyFrom 1 = .ok (.getfield 9, 3) := by decide +kernel
theorem dX1_copyFrom_4 : decode cX1_copyFrom 4 = .ok (.iconst 0, 1) := by decide +kernel
theorem dX1_copyFrom_5 : decode cX1_copyFrom 5 = .ok (.aload_n 0, 1) := by decide +kernel
theorem dX1_copyFrom_6 : decode cX1_copyFrom 6 = .ok (.getfield 9, 3) := by decide +kernel
theorem dX1_copyFrom_9 : decode cX1_copyFrom 9 = .ok (.iconst 0, 1) := by decide +kernel
theorem dX1_copyFrom_10 : decode cX1_copyFrom 10 = .ok (.bipush 60, 2) := by decide +kernel
theorem dX1_copyFrom_12 : decode cX1_copyFrom 12 = .ok (.invokestatic 30, 3) := by decide +kernel
theorem dX1_copyFrom_15 : decode cX1_copyFrom 15 = .ok (.aload_n 1, 1) := by decide +kernel
theorem dX1_copyFrom_16 : decode cX1_copyFrom 16 = .ok (.getfield 15, 3) := by decide +kernel
theorem dX1_copyFrom_19 : decode cX1_copyFrom 19 = .ok (.iconst 0, 1) := by decide +kernel
theorem dX1_copyFrom_20 : decode cX1_copyFrom 20 = .ok (.aload_n 0, 1) := by decide +kernel
theorem dX1_copyFrom_21 : decode cX1_copyFrom 21 = .ok (.getfield 15, 3) := by decide +kernel
theorem dX1_copyFrom_24 : decode cX1_copyFrom 24 = .ok (.iconst 0, 1) := by decide +kernel
theorem dX1_copyFrom_25 : decode cX1_copyFrom 25 = .ok (.bipush 60, 2) := by decide +kernel
theorem dX1_copyFrom_27 : decode cX1_copyFrom 27 = .ok (.invokestatic 30, 3) := by decide +kernel
theorem dX1_copyFrom_30 : decode cX1_copyFrom 30 = .ok (.aload_n 1, 1) := by decide +kernel
theorem dX1_copyFrom_31 : decode cX1_copyFrom 31 = .ok (.getfield 18, 3) := by decide +kernel
theorem dX1_copyFrom_34 : decode cX1_copyFrom 34 = .ok (.iconst 0, 1) := by decide +kernel
theorem dX1_copyFrom_35 : decode cX1_copyFrom 35 = .ok (.aload_n 0, 1) := by decide +kernel
theorem dX1_copyFrom_36 : decode cX1_copyFrom 36 = .ok (.getfield 18, 3) := by decide +kernel
theorem dX1_copyFrom_39 : decode cX1_copyFrom 39 = .ok (.iconst 0, 1) := by decide +kernel
theorem dX1_copyFrom_40 : decode cX1_copyFrom 40 = .ok (.bipush 60, 2) := by decide +kernel
theorem dX1_copyFrom_42 : decode cX1_copyFrom 42 = .ok (.invokestatic 30, 3) := by decide +kernel
theorem dX1_copyFrom_45 : decode cX1_copyFrom 45 = .ok (.aload_n 1, 1) := by decide +kernel
theorem dX1_copyFrom_46 : decode cX1_copyFrom 46 = .ok (.getfield 21, 3) := by decide +kernel
theorem dX1_copyFrom_49 : decode cX1_copyFrom 49 = .ok (.iconst 0, 1) := by decide +kernel
theorem dX1_copyFrom_50 : decode cX1_copyFrom 50 = .ok (.aload_n 0, 1) := by decide +kernel
theorem dX1_copyFrom_51 : decode cX1_copyFrom 51 = .ok (.getfield 21, 3) := by decide +kernel
theorem dX1_copyFrom_54 : decode cX1_copyFrom 54 = .ok (.iconst 0, 1) := by decide +kernel
theorem dX1_copyFrom_55 : decode cX1_copyFrom 55 = .ok (.bipush 60, 2) := by decide +kernel
theorem dX1_copyFrom_57 : decode cX1_copyFrom 57 = .ok (.invokestatic 30, 3) := by decide +kernel
theorem dX1_copyFrom_60 : decode cX1_copyFrom 60 = .ok (.aload_n 1, 1) := by decide +kernel
theorem dX1_copyFrom_61 : decode cX1_copyFrom 61 = .ok (.getfield 24, 3) := by decide +kernel
theorem dX1_copyFrom_64 : decode cX1_copyFrom 64 = .ok (.iconst 0, 1) := by decide +kernel
theorem dX1_copyFrom_65 : decode cX1_copyFrom 65 = .ok (.aload_n 0, 1) := by decide +kernel
theorem dX1_copyFrom_66 : decode cX1_copyFrom 66 = .ok (.getfield 24, 3) := by decide +kernel
theorem dX1_copyFrom_69 : decode cX1_copyFrom 69 = .ok (.iconst 0, 1) := by decide +kernel
theorem dX1_copyFrom_70 : decode cX1_copyFrom 70 = .ok (.bipush 60, 2) := by decide +kernel
theorem dX1_copyFrom_72 : decode cX1_copyFrom 72 = .ok (.invokestatic 30, 3) := by decide +kernel
theorem dX1_copyFrom_75 : decode cX1_copyFrom 75 = .ok (.aload_n 1, 1) := by decide +kernel
theorem dX1_copyFrom_76 : decode cX1_copyFrom 76 = .ok (.getfield 27, 3) := by decide +kernel
theorem dX1_copyFrom_79 : decode cX1_copyFrom 79 = .ok (.iconst 0, 1) := by decide +kernel
theorem dX1_copyFrom_80 : decode cX1_copyFrom 80 = .ok (.aload_n 0, 1) := by decide +kernel
theorem dX1_copyFrom_81 : decode cX1_copyFrom 81 = .ok (.getfield 27, 3) := by decide +kernel
theorem dX1_copyFrom_84 : decode cX1_copyFrom 84 = .ok (.iconst 0, 1) := by decide +kernel
theorem dX1_copyFrom_85 : decode cX1_copyFrom 85 = .ok (.bipush 60, 2) := by decide +kernel
theorem dX1_copyFrom_87 : decode cX1_copyFrom 87 = .ok (.invokestatic 30, 3) := by decide +kernel
theorem dX1_copyFrom_90 : decode cX1_copyFrom 90 = .ok (.aload_n 0, 1) := by decide +kernel
theorem dX1_copyFrom_91 : decode cX1_copyFrom 91 = .ok (.aload_n 1, 1) := by decide +kernel
theorem dX1_copyFrom_92 : decode cX1_copyFrom 92 = .ok (.getfield 36, 3) := by decide +kernel
theorem dX1_copyFrom_95 : decode cX1_copyFrom 95 = .ok (.putfield 36, 3) := by decide +kernel
theorem dX1_copyFrom_98 : decode cX1_copyFrom 98 = .ok (.return_, 1) := by decide +kernel
theorem dX1_add_0 : decode cX1_add 0 = .ok (.aload_n 0, 1) := by decide +kernel
theorem dX1_add_1 : decode cX1_add 1 = .ok (.getfield 36, 3) := by decide +kernel
theorem dX1_add_4 : decode cX1_add 4 = .ok (.bipush 60, 2) := by decide +kernel
theorem dX1_add_6 : decode cX1_add 6 = .ok (.if_icmp .lt 5, 3) := by decide +kernel
theorem dX1_add_9 : decode cX1_add 9 = .ok (.iconst (-1), 1) := by decide +kernel
theorem dX1_add_10 : decode cX1_add 10 = .ok (.ireturn, 1) := by decide +kernel
theorem dX1_add_11 : decode cX1_add 11 = .ok (.aload_n 0, 1) := by decide +kernel
theorem dX1_add_12 : decode cX1_add 12 = .ok (.getfield 36, 3) := by decide +kernel
theorem dX1_add_15 : decode cX1_add 15 = .ok (.istore 6, 2) := by decide +kernel
theorem dX1_add_17 : decode cX1_add 17 = .ok (.aload_n 0, 1) := by decide +kernel
theorem dX1_add_18 : decode cX1_add 18 = .ok (.getfield 9, 3) := by decide +kernel
theorem dX1_add_21 : decode cX1_add 21 = .ok (.iload 6, 2) := by decide +kernel
theorem dX1_add_23 : decode cX1_add 23 = .ok (.iload_n 1, 1) := by decide +kernel
theorem dX1_add_24 : decode cX1_add 24 = .ok (.iastore, 1) := by decide +kernel
theorem dX1_add_25 : decode cX1_add 25 = .ok (.aload_n 0, 1) := by decide +kernel
theorem dX1_add_26 : decode cX1_add 26 = .ok (.getfield 15, 3) := by decide +kernel
theorem dX1_add_29 : decode cX1_add 29 = .ok (.iload 6, 2) := by decide +kernel
theorem dX1_add_31 : decode cX1_add 31 = .ok (.iload_n 2, 1) := by decide +kernel
theorem dX1_add_32 : decode cX1_add 32 = .ok (.iastore, 1) := by decide +kernel
theorem dX1_add_33 : decode cX1_add 33 = .ok (.aload_n 0, 1) := by decide +kernel
theorem dX1_add_34 : decode cX1_add 34 = .ok (.getfield 18, 3) := by decide +kernel
theorem dX1_add_37 : decode cX1_add 37 = .ok (.iload 6, 2) := by decide +kernel
theorem dX1_add_39 : decode cX1_add 39 = .ok (.iload_n 3, 1) := by decide +kernel
theorem dX1_add_40 : decode cX1_add 40 = .ok (.iastore, 1) := by decide +kernel
theorem dX1_add_41 : decode cX1_add 41 = .ok (.aload_n 0, 1) := by decide +kernel
theorem dX1_add_42 : decode cX1_add 42 = .ok (.getfield 21, 3) := by decide +kernel
theorem dX1_add_45 : decode cX1_add 45 = .ok (.iload 6, 2) := by decide +kernel
theorem dX1_add_47 : decode cX1_add 47 = .ok (.iload 4, 2) := by decide +kernel
theorem dX1_add_49 : decode cX1_add 49 = .ok (.iastore, 1) := by decide +kernel
theorem dX1_add_50 : decode cX1_add 50 = .ok (.aload_n 0, 1) := by decide +kernel
theorem dX1_add_51 : decode cX1_add 51 = .ok (.getfield 24, 3) := by decide +kernel
theorem dX1_add_54 : decode cX1_add 54 = .ok (.iload 6, 2) := by decide +kernel
theorem dX1_add_56 : decode cX1_add 56 = .ok (.iload 5, 2) := by decide +kernel
theorem dX1_add_58 : decode cX1_add 58 = .ok (.iastore, 1) := by decide +kernel
theorem dX1_add_59 : decode cX1_add 59 = .ok (.aload_n 0, 1) := by decide +kernel
theorem dX1_add_60 : decode cX1_add 60 = .ok (.dup, 1) := by decide +kernel
theorem dX1_add_61 : decode cX1_add 61 = .ok (.getfield 36, 3) := by decide +kernel
theorem dX1_add_64 : decode cX1_add 64 = .ok (.iconst 1, 1) := by decide +kernel
theorem dX1_add_65 : decode cX1_add 65 = .ok (.iadd, 1) := by decide +kernel
theorem dX1_add_66 : decode cX1_add 66 = .ok (.putfield 36, 3) := by decide +kernel
theorem dX1_add_69 : decode cX1_add 69 = .ok (.iload 6, 2) := by decide +kernel
theorem dX1_add_71 : decode cX1_add 71 = .ok (.ireturn, 1) := by decide +kernel
theorem dX1_markDelivered_0 : decode cX1_markDelivered 0 = .ok (.iload_n 1, 1) := by decide +kernel
theorem dX1_markDelivered_1 : decode cX1_markDelivered 1 = .ok (.ifCond .lt 23, 3) := by decide +kernel
theorem dX1_markDelivered_4 : decode cX1_markDelivered 4 = .ok (.iload_n 1, 1) := by decide +kernel
theorem dX1_markDelivered_5 : decode cX1_markDelivered 5 = .ok (.aload_n 0, 1) := by decide +kernel
theorem dX1_markDelivered_6 : decode cX1_markDelivered 6 = .ok (.getfield 36, 3) := by decide +kernel
theorem dX1_markDelivered_9 : decode cX1_markDelivered 9 = .ok (.if_icmp .ge 15, 3) := by decide +kernel
theorem dX1_markDelivered_12 : decode cX1_markDelivered 12 = .ok (.aload_n 0, 1) := by decide +kernel
theorem dX1_markDelivered_13 : decode cX1_markDelivered 13 = .ok (.getfield 27, 3) := by decide +kernel
theorem dX1_markDelivered_16 : decode cX1_markDelivered 16 = .ok (.iload_n 1, 1) := by decide +kernel
theorem dX1_markDelivered_17 : decode cX1_markDelivered 17 = .ok (.dup2, 1) := by decide +kernel
theorem dX1_markDelivered_18 : decode cX1_markDelivered 18 = .ok (.iaload, 1) := by decide +kernel
theorem dX1_markDelivered_19 : decode cX1_markDelivered 19 = .ok (.iconst 1, 1) := by decide +kernel
theorem dX1_markDelivered_20 : decode cX1_markDelivered 20 = .ok (.iload_n 2, 1) := by decide +kernel
theorem dX1_markDelivered_21 : decode cX1_markDelivered 21 = .ok (.ishl, 1) := by decide +kernel
theorem dX1_markDelivered_22 : decode cX1_markDelivered 22 = .ok (.ior, 1) := by decide +kernel
theorem dX1_markDelivered_23 : decode cX1_markDelivered 23 = .ok (.iastore, 1) := by decide +kernel
theorem dX1_markDelivered_24 : decode cX1_markDelivered 24 = .ok (.return_, 1) := by decide +kernel
theorem dX1_valueOf_0 : decode cX1_valueOf 0 = .ok (.iload_n 2, 1) := by decide +kernel
theorem dX1_valueOf_1 : decode cX1_valueOf 1 = .ok (.tableswitch 70 0 4 #[35, 42, 49, 56, 63], 35) := by decide +kernel
theorem dX1_valueOf_36 : decode cX1_valueOf 36 = .ok (.aload_n 0, 1) := by decide +kernel
theorem dX1_valueOf_37 : decode cX1_valueOf 37 = .ok (.getfield 9, 3) := by decide +kernel
theorem dX1_valueOf_40 : decode cX1_valueOf 40 = .ok (.iload_n 1, 1) := by decide +kernel
theorem dX1_valueOf_41 : decode cX1_valueOf 41 = .ok (.iaload, 1) := by decide +kernel
theorem dX1_valueOf_42 : decode cX1_valueOf 42 = .ok (.ireturn, 1) := by decide +kernel
theorem dX1_valueOf_43 : decode cX1_valueOf 43 = .ok (.aload_n 0, 1) := by decide +kernel
theorem dX1_valueOf_44 : decode cX1_valueOf 44 = .ok (.getfield 15, 3) := by decide +kernel
theorem dX1_valueOf_47 : decode cX1_valueOf 47 = .ok (.iload_n 1, 1) := by decide +kernel
theorem dX1_valueOf_48 : decode cX1_valueOf 48 = .ok (.iaload, 1) := by decide +kernel
theorem dX1_valueOf_49 : decode cX1_valueOf 49 = .ok (.ireturn, 1) := by decide +kernel
theorem dX1_valueOf_50 : decode cX1_valueOf 50 = .ok (.aload_n 0, 1) := by decide +kernel
theorem dX1_valueOf_51 : decode cX1_valueOf 51 = .ok (.getfield 18, 3) := by decide +kernel
theorem dX1_valueOf_54 : decode cX1_valueOf 54 = .ok (.iload_n 1, 1) := by decide +kernel
theorem dX1_valueOf_55 : decode cX1_valueOf 55 = .ok (.iaload, 1) := by decide +kernel
theorem dX1_valueOf_56 : decode cX1_valueOf 56 = .ok (.ireturn, 1) := by decide +kernel
theorem dX1_valueOf_57 : decode cX1_valueOf 57 = .ok (.aload_n 0, 1) := by decide +kernel
theorem dX1_valueOf_58 : decode cX1_valueOf 58 = .ok (.getfield 21, 3) := by decide +kernel
theorem dX1_valueOf_61 : decode cX1_valueOf 61 = .ok (.iload_n 1, 1) := by decide +kernel
theorem dX1_valueOf_62 : decode cX1_valueOf 62 = .ok (.iaload, 1) := by decide +kernel
theorem dX1_valueOf_63 : decode cX1_valueOf 63 = .ok (.ireturn, 1) := by decide +kernel
theorem dX1_valueOf_64 : decode cX1_valueOf 64 = .ok (.aload_n 0, 1) := by decide +kernel
theorem dX1_valueOf_65 : decode cX1_valueOf 65 = .ok (.getfield 24, 3) := by decide +kernel
theorem dX1_valueOf_68 : decode cX1_valueOf 68 = .ok (.iload_n 1, 1) := by decide +kernel
theorem dX1_valueOf_69 : decode cX1_valueOf 69 = .ok (.iaload, 1) := by decide +kernel
theorem dX1_valueOf_70 : decode cX1_valueOf 70 = .ok (.ireturn, 1) := by decide +kernel
theorem dX1_valueOf_71 : decode cX1_valueOf 71 = .ok (.aload_n 0, 1) := by decide +kernel
theorem dX1_valueOf_72 : decode cX1_valueOf 72 = .ok (.getfield 27, 3) := by decide +kernel
theorem dX1_valueOf_75 : decode cX1_valueOf 75 = .ok (.iload_n 1, 1) := by decide +kernel
theorem dX1_valueOf_76 : decode cX1_valueOf 76 = .ok (.iaload, 1) := by decide +kernel
theorem dX1_valueOf_77 : decode cX1_valueOf 77 = .ok (.ireturn, 1) := by decide +kernel
theorem dX2_init_0 : decode cX2_init 0 = .ok (.aload_n 0, 1) := by decide +kernel
theorem dX2_init_1 : decode cX2_init 1 = .ok (.invokespecial 3, 3) := by decide +kernel
theorem dX2_init_4 : decode cX2_init 4 = .ok (.aload_n 0, 1) := by decide +kernel
theorem dX2_init_5 : decode cX2_init 5 = .ok (.bipush 12, 2) := by decide +kernel
theorem dX2_init_7 : decode cX2_init 7 = .ok (.newarray .int, 2) := by decide +kernel
theorem dX2_init_9 : decode cX2_init 9 = .ok (.putfield 9, 3) := by decide +kernel
theorem dX2_init_12 : decode cX2_init 12 = .ok (.return_, 1) := by decide +kernel
theorem dX2_copyFrom_0 : decode cX2_copyFrom 0 = .ok (.aload_n 1, 1) := by decide +kernel
theorem dX2_copyFrom_1 : decode cX2_copyFrom 1 = .ok (.getfield 9, 3) := by decide +kernel
theorem dX2_copyFrom_4 : decode cX2_copyFrom 4 = .ok (.iconst 0, 1) := by decide +kernel
theorem dX2_copyFrom_5 : decode cX2_copyFrom 5 = .ok (.aload_n 0, 1) := by decide +kernel
theorem dX2_copyFrom_6 : decode cX2_copyFrom 6 = .ok (.getfield 9, 3) := by decide +kernel
theorem dX2_copyFrom_9 : decode cX2_copyFrom 9 = .ok (.iconst 0, 1) := by decide +kernel
theorem dX2_copyFrom_10 : decode cX2_copyFrom 10 = .ok (.bipush 12, 2) := by decide +kernel
theorem dX2_copyFrom_12 : decode cX2_copyFrom 12 = .ok (.invokestatic 15, 3) := by decide +kernel
theorem dX2_copyFrom_15 : decode cX2_copyFrom 15 = .ok (.aload_n 0, 1) := by decide +kernel
theorem dX2_copyFrom_16 : decode cX2_copyFrom 16 = .ok (.aload_n 1, 1) := by decide +kernel
theorem dX2_copyFrom_17 : decode cX2_copyFrom 17 = .ok (.getfield 21, 3) := by decide +kernel
theorem dX2_copyFrom_20 : decode cX2_copyFrom 20 = .ok (.putfield 21, 3) := by decide +kernel
theorem dX2_copyFrom_23 : decode cX2_copyFrom 23 = .ok (.return_, 1) := by decide +kernel
theorem dX2_isFull_0 : decode cX2_isFull 0 = .ok (.aload_n 0, 1) := by decide +kernel
theorem dX2_isFull_1 : decode cX2_isFull 1 = .ok (.getfield 21, 3) := by decide +kernel
theorem dX2_isFull_4 : decode cX2_isFull 4 = .ok (.bipush 12, 2) := by decide +kernel
theorem dX2_isFull_6 : decode cX2_isFull 6 = .ok (.if_icmp .lt 7, 3) := by decide +kernel
theorem dX2_isFull_9 : decode cX2_isFull 9 = .ok (.iconst 1, 1) := by decide +kernel
theorem dX2_isFull_10 : decode cX2_isFull 10 = .ok (.goto 4, 3) := by decide +kernel
theorem dX2_isFull_13 : decode cX2_isFull 13 = .ok (.iconst 0, 1) := by decide +kernel
theorem dX2_isFull_14 : decode cX2_isFull 14 = .ok (.ireturn, 1) := by decide +kernel
theorem dX2_add_0 : decode cX2_add 0 = .ok (.aload_n 0, 1) := by decide +kernel
theorem dX2_add_1 : decode cX2_add 1 = .ok (.getfield 21, 3) := by decide +kernel
theorem dX2_add_4 : decode cX2_add 4 = .ok (.bipush 12, 2) := by decide +kernel
theorem dX2_add_6 : decode cX2_add 6 = .ok (.if_icmp .ge 23, 3) := by decide +kernel
theorem dX2_add_9 : decode cX2_add 9 = .ok (.aload_n 0, 1) := by decide +kernel
theorem dX2_add_10 : decode cX2_add 10 = .ok (.getfield 9, 3) := by decide +kernel
theorem dX2_add_13 : decode cX2_add 13 = .ok (.aload_n 0, 1) := by decide +kernel
theorem dX2_add_14 : decode cX2_add 14 = .ok (.getfield 21, 3) := by decide +kernel
theorem dX2_add_17 : decode cX2_add 17 = .ok (.iload_n 1, 1) := by decide +kernel
theorem dX2_add_18 : decode cX2_add 18 = .ok (.iastore, 1) := by decide +kernel
theorem dX2_add_19 : decode cX2_add 19 = .ok (.aload_n 0, 1) := by decide +kernel
theorem dX2_add_20 : decode cX2_add 20 = .ok (.dup, 1) := by decide +kernel
theorem dX2_add_21 : decode cX2_add 21 = .ok (.getfield 21, 3) := by decide +kernel
theorem dX2_add_24 : decode cX2_add 24 = .ok (.iconst 1, 1) := by decide +kernel
theorem dX2_add_25 : decode cX2_add 25 = .ok (.iadd, 1) := by decide +kernel
theorem dX2_add_26 : decode cX2_add 26 = .ok (.putfield 21, 3) := by decide +kernel
theorem dX2_add_29 : decode cX2_add 29 = .ok (.return_, 1) := by decide +kernel
theorem dX2_removeOldest_0 : decode cX2_removeOldest 0 = .ok (.iload_n 1, 1) := by decide +kernel
theorem dX2_removeOldest_1 : decode cX2_removeOldest 1 = .ok (.istore_n 2, 1) := by decide +kernel
theorem dX2_removeOldest_2 : decode cX2_removeOldest 2 = .ok (.iload_n 2, 1) := by decide +kernel
theorem dX2_removeOldest_3 : decode cX2_removeOldest 3 = .ok (.aload_n 0, 1) := by decide +kernel
theorem dX2_removeOldest_4 : decode cX2_removeOldest 4 = .ok (.getfield 21, 3) := by decide +kernel
theorem dX2_removeOldest_7 : decode cX2_removeOldest 7 = .ok (.if_icmp .ge 23, 3) := by decide +kernel
theorem dX2_removeOldest_10 : decode cX2_removeOldest 10 = .ok (.aload_n 0, 1) := by decide +kernel
theorem dX2_removeOldest_11 : decode cX2_removeOldest 11 = .ok (.getfield 9, 3) := by decide +kernel
theorem dX2_removeOldest_14 : decode cX2_removeOldest 14 = .ok (.iload_n 2, 1) := by decide +kernel
theorem dX2_removeOldest_15 : decode cX2_removeOldest 15 = .ok (.iload_n 1, 1) := by decide +kernel
theorem dX2_removeOldest_16 : decode cX2_removeOldest 16 = .ok (.isub, 1) := by decide +kernel
theorem dX2_removeOldest_17 : decode cX2_removeOldest 17 = .ok (.aload_n 0, 1) := by decide +kernel
theorem dX2_removeOldest_18 : decode cX2_removeOldest 18 = .ok (.getfield 9, 3) := by decide +kernel
theorem dX2_removeOldest_21 : decode cX2_removeOldest 21 = .ok (.iload_n 2, 1) := by decide +kernel
theorem dX2_removeOldest_22 : decode cX2_removeOldest 22 = .ok (.iaload, 1) := by decide +kernel
theorem dX2_removeOldest_23 : decode cX2_removeOldest 23 = .ok (.iastore, 1) := by decide +kernel
theorem dX2_removeOldest_24 : decode cX2_removeOldest 24 = .ok (.iinc 2 1, 3) := by decide +kernel
theorem dX2_removeOldest_27 : decode cX2_removeOldest 27 = .ok (.goto (-25), 3) := by decide +kernel
theorem dX2_removeOldest_30 : decode cX2_removeOldest 30 = .ok (.aload_n 0, 1) := by decide +kernel
theorem dX2_removeOldest_31 : decode cX2_removeOldest 31 = .ok (.dup, 1) := by decide +kernel
theorem dX2_removeOldest_32 : decode cX2_removeOldest 32 = .ok (.getfield 21, 3) := by decide +kernel
theorem dX2_removeOldest_35 : decode cX2_removeOldest 35 = .ok (.iload_n 1, 1) := by decide +kernel
theorem dX2_removeOldest_36 : decode cX2_removeOldest 36 = .ok (.isub, 1) := by decide +kernel
theorem dX2_removeOldest_37 : decode cX2_removeOldest 37 = .ok (.putfield 21, 3) := by decide +kernel
theorem dX2_removeOldest_40 : decode cX2_removeOldest 40 = .ok (.return_, 1) := by decide +kernel
theorem dX2_eventAt_0 : decode cX2_eventAt 0 = .ok (.iload_n 1, 1) := by decide +kernel
theorem dX2_eventAt_1 : decode cX2_eventAt 1 = .ok (.aload_n 0, 1) := by decide +kernel
theorem dX2_eventAt_2 : decode cX2_eventAt 2 = .ok (.getfield 21, 3) := by decide +kernel
theorem dX2_eventAt_5 : decode cX2_eventAt 5 = .ok (.if_icmp .ge 12, 3) := by decide +kernel
theorem dX2_eventAt_8 : decode cX2_eventAt 8 = .ok (.aload_n 0, 1) := by decide +kernel
theorem dX2_eventAt_9 : decode cX2_eventAt 9 = .ok (.getfield 9, 3) := by decide +kernel
theorem dX2_eventAt_12 : decode cX2_eventAt 12 = .ok (.iload_n 1, 1) := by decide +kernel
theorem dX2_eventAt_13 : decode cX2_eventAt 13 = .ok (.iaload, 1) := by decide +kernel
theorem dX2_eventAt_14 : decode cX2_eventAt 14 = .ok (.goto 4, 3) := by decide +kernel
theorem dX2_eventAt_17 : decode cX2_eventAt 17 = .ok (.iconst (-1), 1) := by decide +kernel
theorem dX2_eventAt_18 : decode cX2_eventAt 18 = .ok (.ireturn, 1) := by decide +kernel
theorem dX2_holds_0 : decode cX2_holds 0 = .ok (.iconst 0, 1) := by decide +kernel
theorem dX2_holds_1 : decode cX2_holds 1 = .ok (.istore_n 2, 1) := by decide +kernel
theorem dX2_holds_2 : decode cX2_holds 2 = .ok (.iload_n 2, 1) := by decide +kernel
theorem dX2_holds_3 : decode cX2_holds 3 = .ok (.aload_n 0, 1) := by decide +kernel
theorem dX2_holds_4 : decode cX2_holds 4 = .ok (.getfield 21, 3) := by decide +kernel
theorem dX2_holds_7 : decode cX2_holds 7 = .ok (.if_icmp .ge 21, 3) := by decide +kernel
theorem dX2_holds_10 : decode cX2_holds 10 = .ok (.aload_n 0, 1) := by decide +kernel
theorem dX2_holds_11 : decode cX2_holds 11 = .ok (.getfield 9, 3) := by decide +kernel
theorem dX2_holds_14 : decode cX2_holds 14 = .ok (.iload_n 2, 1) := by decide +kernel
theorem dX2_holds_15 : decode cX2_holds 15 = .ok (.iaload, 1) := by decide +kernel
theorem dX2_holds_16 : decode cX2_holds 16 = .ok (.iload_n 1, 1) := by decide +kernel
theorem dX2_holds_17 : decode cX2_holds 17 = .ok (.if_icmp .ne 5, 3) := by decide +kernel
theorem dX2_holds_20 : decode cX2_holds 20 = .ok (.iconst 1, 1) := by decide +kernel
theorem dX2_holds_21 : decode cX2_holds 21 = .ok (.ireturn, 1) := by decide +kernel
theorem dX2_holds_22 : decode cX2_holds 22 = .ok (.iinc 2 1, 3) := by decide +kernel
theorem dX2_holds_25 : decode cX2_holds 25 = .ok (.goto (-23), 3) := by decide +kernel
theorem dX2_holds_28 : decode cX2_holds 28 = .ok (.iconst 0, 1) := by decide +kernel
theorem dX2_holds_29 : decode cX2_holds 29 = .ok (.ireturn, 1) := by decide +kernel
theorem dX3_init_0 : decode cX3_init 0 = .ok (.aload_n 0, 1) := by decide +kernel
theorem dX3_init_1 : decode cX3_init 1 = .ok (.invokespecial 3, 3) := by decide +kernel
theorem dX3_init_4 : decode cX3_init 4 = .ok (.aload_n 0, 1) := by decide +kernel
theorem dX3_init_5 : decode cX3_init 5 = .ok (.bipush 10, 2) := by decide +kernel
theorem dX3_init_7 : decode cX3_init 7 = .ok (.newarray .int, 2) := by decide +kernel
theorem dX3_init_9 : decode cX3_init 9 = .ok (.putfield 9, 3) := by decide +kernel
theorem dX3_init_12 : decode cX3_init 12 = .ok (.aload_n 0, 1) := by decide +kernel
theorem dX3_init_13 : decode cX3_init 13 = .ok (.bipush 10, 2) := by decide +kernel
theorem dX3_init_15 : decode cX3_init 15 = .ok (.newarray .int, 2) := by decide +kernel
theorem dX3_init_17 : decode cX3_init 17 = .ok (.putfield 15, 3) := by decide +kernel
theorem dX3_init_20 : decode cX3_init 20 = .ok (.aload_n 0, 1) := by decide +kernel
theorem dX3_init_21 : decode cX3_init 21 = .ok (.bipush 10, 2) := by decide +kernel
theorem dX3_init_23 : decode cX3_init 23 = .ok (.newarray .int, 2) := by decide +kernel
theorem dX3_init_25 : decode cX3_init 25 = .ok (.putfield 18, 3) := by decide +kernel
theorem dX3_init_28 : decode cX3_init 28 = .ok (.return_, 1) := by decide +kernel
theorem dX3_copyFrom_0 : decode cX3_copyFrom 0 = .ok (.aload_n 1, 1) := by decide +kernel
theorem dX3_copyFrom_1 : decode cX3_copyFrom 1 = .ok (.getfield 9, 3) := by decide +kernel
theorem dX3_copyFrom_4 : decode cX3_copyFrom 4 = .ok (.iconst 0, 1) := by decide +kernel
theorem dX3_copyFrom_5 : decode cX3_copyFrom 5 = .ok (.aload_n 0, 1) := by decide +kernel
theorem dX3_copyFrom_6 : decode cX3_copyFrom 6 = .ok (.getfield 9, 3) := by decide +kernel
theorem dX3_copyFrom_9 : decode cX3_copyFrom 9 = .ok (.iconst 0, 1) := by decide +kernel
theorem dX3_copyFrom_10 : decode cX3_copyFrom 10 = .ok (.bipush 10, 2) := by decide +kernel
theorem dX3_copyFrom_12 : decode cX3_copyFrom 12 = .ok (.invokestatic 21, 3) := by decide +kernel
theorem dX3_copyFrom_15 : decode cX3_copyFrom 15 = .ok (.aload_n 1, 1) := by decide +kernel
theorem dX3_copyFrom_16 : decode cX3_copyFrom 16 = .ok (.getfield 15, 3) := by decide +kernel
theorem dX3_copyFrom_19 : decode cX3_copyFrom 19 = .ok (.iconst 0, 1) := by decide +kernel
theorem dX3_copyFrom_20 : decode cX3_copyFrom 20 = .ok (.aload_n 0, 1) := by decide +kernel
theorem dX3_copyFrom_21 : decode cX3_copyFrom 21 = .ok (.getfield 15, 3) := by decide +kernel
theorem dX3_copyFrom_24 : decode cX3_copyFrom 24 = .ok (.iconst 0, 1) := by decide +kernel
theorem dX3_copyFrom_25 : decode cX3_copyFrom 25 = .ok (.bipush 10, 2) := by decide +kernel
theorem dX3_copyFrom_27 : decode cX3_copyFrom 27 = .ok (.invokestatic 21, 3) := by decide +kernel
theorem dX3_copyFrom_30 : decode cX3_copyFrom 30 = .ok (.aload_n 1, 1) := by decide +kernel
theorem dX3_copyFrom_31 : decode cX3_copyFrom 31 = .ok (.getfield 18, 3) := by decide +kernel
theorem dX3_copyFrom_34 : decode cX3_copyFrom 34 = .ok (.iconst 0, 1) := by decide +kernel
theorem dX3_copyFrom_35 : decode cX3_copyFrom 35 = .ok (.aload_n 0, 1) := by decide +kernel
theorem dX3_copyFrom_36 : decode cX3_copyFrom 36 = .ok (.getfield 18, 3) := by decide +kernel
theorem dX3_copyFrom_39 : decode cX3_copyFrom 39 = .ok (.iconst 0, 1) := by decide +kernel
theorem dX3_copyFrom_40 : decode cX3_copyFrom 40 = .ok (.bipush 10, 2) := by decide +kernel
theorem dX3_copyFrom_42 : decode cX3_copyFrom 42 = .ok (.invokestatic 21, 3) := by decide +kernel
theorem dX3_copyFrom_45 : decode cX3_copyFrom 45 = .ok (.aload_n 0, 1) := by decide +kernel
theorem dX3_copyFrom_46 : decode cX3_copyFrom 46 = .ok (.aload_n 1, 1) := by decide +kernel
theorem dX3_copyFrom_47 : decode cX3_copyFrom 47 = .ok (.getfield 27, 3) := by decide +kernel
theorem dX3_copyFrom_50 : decode cX3_copyFrom 50 = .ok (.putfield 27, 3) := by decide +kernel
theorem dX3_copyFrom_53 : decode cX3_copyFrom 53 = .ok (.return_, 1) := by decide +kernel
theorem dX3_open_0 : decode cX3_open 0 = .ok (.bipush 9, 2) := by decide +kernel
theorem dX3_open_2 : decode cX3_open 2 = .ok (.istore_n 3, 1) := by decide +kernel
theorem dX3_open_3 : decode cX3_open 3 = .ok (.iload_n 3, 1) := by decide +kernel
theorem dX3_open_4 : decode cX3_open 4 = .ok (.ifCond .le 51, 3) := by decide +kernel
theorem dX3_open_7 : decode cX3_open 7 = .ok (.aload_n 0, 1) := by decide +kernel
theorem dX3_open_8 : decode cX3_open 8 = .ok (.getfield 9, 3) := by decide +kernel
theorem dX3_open_11 : decode cX3_open 11 = .ok (.iload_n 3, 1) := by decide +kernel
theorem dX3_open_12 : decode cX3_open 12 = .ok (.aload_n 0, 1) := by decide +kernel
theorem dX3_open_13 : decode cX3_open 13 = .ok (.getfield 9, 3) := by decide +kernel
theorem dX3_open_16 : decode cX3_open 16 = .ok (.iload_n 3, 1) := by decide +kernel
theorem dX3_open_17 : decode cX3_open 17 = .ok (.iconst 1, 1) := by decide +kernel
theorem dX3_open_18 : decode cX3_open 18 = .ok (.isub, 1) := by decide +kernel
theorem dX3_open_19 : decode cX3_open 19 = .ok (.iaload, 1) := by decide +kernel
theorem dX3_open_20 : decode cX3_open 20 = .ok (.iastore, 1) := by decide +kernel
theorem dX3_open_21 : decode cX3_open 21 = .ok (.aload_n 0, 1) := by decide +kernel
theorem dX3_open_22 : decode cX3_open 22 = .ok (.getfield 15, 3) := by decide +kernel
theorem dX3_open_25 : decode cX3_open 25 = .ok (.iload_n 3, 1) := by decide +kernel
theorem dX3_open_26 : decode cX3_open 26 = .ok (.aload_n 0, 1) := by decide +kernel
theorem dX3_open_27 : decode cX3_open 27 = .ok (.getfield 15, 3) := by decide +kernel
theorem dX3_open_30 : decode cX3_open 30 = .ok (.iload_n 3, 1) := by decide +kernel
theorem dX3_open_31 : decode cX3_open 31 = .ok (.iconst 1, 1) := by decide +kernel
theorem dX3_open_32 : decode cX3_open 32 = .ok (.isub, 1) := by decide +kernel
theorem dX3_open_33 : decode cX3_open 33 = .ok (.iaload, 1) := by decide +kernel
theorem dX3_open_34 : decode cX3_open 34 = .ok (.iastore, 1) := by decide +kernel
theorem dX3_open_35 : decode cX3_open 35 = .ok (.aload_n 0, 1) := by decide +kernel
theorem dX3_open_36 : decode cX3_open 36 = .ok (.getfield 18, 3) := by decide +kernel
theorem dX3_open_39 : decode cX3_open 39 = .ok (.iload_n 3, 1) := by decide +kernel
theorem dX3_open_40 : decode cX3_open 40 = .ok (.aload_n 0, 1) := by decide +kernel
theorem dX3_open_41 : decode cX3_open 41 = .ok (.getfield 18, 3) := by decide +kernel
theorem dX3_open_44 : decode cX3_open 44 = .ok (.iload_n 3, 1) := by decide +kernel
theorem dX3_open_45 : decode cX3_open 45 = .ok (.iconst 1, 1) := by decide +kernel
theorem dX3_open_46 : decode cX3_open 46 = .ok (.isub, 1) := by decide +kernel
theorem dX3_open_47 : decode cX3_open 47 = .ok (.iaload, 1) := by decide +kernel
theorem dX3_open_48 : decode cX3_open 48 = .ok (.iastore, 1) := by decide +kernel
theorem dX3_open_49 : decode cX3_open 49 = .ok (.iinc 3 (-1), 3) := by decide +kernel
theorem dX3_open_52 : decode cX3_open 52 = .ok (.goto (-49), 3) := by decide +kernel
theorem dX3_open_55 : decode cX3_open 55 = .ok (.aload_n 0, 1) := by decide +kernel
theorem dX3_open_56 : decode cX3_open 56 = .ok (.getfield 9, 3) := by decide +kernel
theorem dX3_open_59 : decode cX3_open 59 = .ok (.iconst 0, 1) := by decide +kernel
theorem dX3_open_60 : decode cX3_open 60 = .ok (.iload_n 1, 1) := by decide +kernel
theorem dX3_open_61 : decode cX3_open 61 = .ok (.iastore, 1) := by decide +kernel
theorem dX3_open_62 : decode cX3_open 62 = .ok (.aload_n 0, 1) := by decide +kernel
theorem dX3_open_63 : decode cX3_open 63 = .ok (.getfield 15, 3) := by decide +kernel
theorem dX3_open_66 : decode cX3_open 66 = .ok (.iconst 0, 1) := by decide +kernel
theorem dX3_open_67 : decode cX3_open 67 = .ok (.iload_n 2, 1) := by decide +kernel
theorem dX3_open_68 : decode cX3_open 68 = .ok (.iastore, 1) := by decide +kernel
theorem dX3_open_69 : decode cX3_open 69 = .ok (.aload_n 0, 1) := by decide +kernel
theorem dX3_open_70 : decode cX3_open 70 = .ok (.getfield 18, 3) := by decide +kernel
theorem dX3_open_73 : decode cX3_open 73 = .ok (.iconst 0, 1) := by decide +kernel
theorem dX3_open_74 : decode cX3_open 74 = .ok (.iconst (-1), 1) := by decide +kernel
theorem dX3_open_75 : decode cX3_open 75 = .ok (.iastore, 1) := by decide +kernel
theorem dX3_open_76 : decode cX3_open 76 = .ok (.aload_n 0, 1) := by decide +kernel
theorem dX3_open_77 : decode cX3_open 77 = .ok (.getfield 27, 3) := by decide +kernel
theorem dX3_open_80 : decode cX3_open 80 = .ok (.bipush 10, 2) := by decide +kernel
theorem dX3_open_82 : decode cX3_open 82 = .ok (.if_icmp .ge 13, 3) := by decide +kernel
theorem dX3_open_85 : decode cX3_open 85 = .ok (.aload_n 0, 1) := by decide +kernel
theorem dX3_open_86 : decode cX3_open 86 = .ok (.dup, 1) := by decide +kernel
theorem dX3_open_87 : decode cX3_open 87 = .ok (.getfield 27, 3) := by decide +kernel
theorem dX3_open_90 : decode cX3_open 90 = .ok (.iconst 1, 1) := by decide +kernel
theorem dX3_open_91 : decode cX3_open 91 = .ok (.iadd, 1) := by decide +kernel
theorem dX3_open_92 : decode cX3_open 92 = .ok (.putfield 27, 3) := by decide +kernel
theorem dX3_open_95 : decode cX3_open 95 = .ok (.return_, 1) := by decide +kernel
theorem dX3_close_0 : decode cX3_close 0 = .ok (.aload_n 0, 1) := by decide +kernel
theorem dX3_close_1 : decode cX3_close 1 = .ok (.getfield 18, 3) := by decide +kernel
theorem dX3_close_4 : decode cX3_close 4 = .ok (.iconst 0, 1) := by decide +kernel
theorem dX3_close_5 : decode cX3_close 5 = .ok (.iload_n 1, 1) := by decide +kernel
theorem dX3_close_6 : decode cX3_close 6 = .ok (.iastore, 1) := by decide +kernel
theorem dX3_close_7 : decode cX3_close 7 = .ok (.return_, 1) := by decide +kernel
theorem dX3_leafAt_0 : decode cX3_leafAt 0 = .ok (.iconst 0, 1) := by decide +kernel
theorem dX3_leafAt_1 : decode cX3_leafAt 1 = .ok (.istore_n 2, 1) := by decide +kernel
theorem dX3_leafAt_2 : decode cX3_leafAt 2 = .ok (.iload_n 2, 1) := by decide +kernel
theorem dX3_leafAt_3 : decode cX3_leafAt 3 = .ok (.aload_n 0, 1) := by decide +kernel
theorem dX3_leafAt_4 : decode cX3_leafAt 4 = .ok (.getfield 27, 3) := by decide +kernel
theorem dX3_leafAt_7 : decode cX3_leafAt 7 = .ok (.if_icmp .ge 56, 3) := by decide +kernel
theorem dX3_leafAt_10 : decode cX3_leafAt 10 = .ok (.aload_n 0, 1) := by decide +kernel
theorem dX3_leafAt_11 : decode cX3_leafAt 11 = .ok (.getfield 18, 3) := by decide +kernel
theorem dX3_leafAt_14 : decode cX3_leafAt 14 = .ok (.iload_n 2, 1) := by decide +kernel
theorem dX3_leafAt_15 : decode cX3_leafAt 15 = .ok (.iaload, 1) := by decide +kernel
theorem dX3_leafAt_16 : decode cX3_leafAt 16 = .ok (.iconst (-1), 1) := by decide +kernel
theorem dX3_leafAt_17 : decode cX3_leafAt 17 = .ok (.if_icmp .eq 13, 3) := by decide +kernel
theorem dX3_leafAt_20 : decode cX3_leafAt 20 = .ok (.iload_n 1, 1) := by decide +kernel
theorem dX3_leafAt_21 : decode cX3_leafAt 21 = .ok (.aload_n 0, 1) := by decide +kernel
theorem dX3_leafAt_22 : decode cX3_leafAt 22 = .ok (.getfield 18, 3) := by decide +kernel
theorem dX3_leafAt_25 : decode cX3_leafAt 25 = .ok (.iload_n 2, 1) := by decide +kernel
theorem dX3_leafAt_26 : decode cX3_leafAt 26 = .ok (.iaload, 1) := by decide +kernel
theorem dX3_leafAt_27 : decode cX3_leafAt 27 = .ok (.if_icmp .ge 7, 3) := by decide +kernel
theorem dX3_leafAt_30 : decode cX3_leafAt 30 = .ok (.iconst 1, 1) := by decide +kernel
theorem dX3_leafAt_31 : decode cX3_leafAt 31 = .ok (.goto 4, 3) := by decide +kernel
theorem dX3_leafAt_34 : decode cX3_leafAt 34 = .ok (.iconst 0, 1) := by decide +kernel
theorem dX3_leafAt_35 : decode cX3_leafAt 35 = .ok (.istore_n 3, 1) := by decide +kernel
theorem dX3_leafAt_36 : decode cX3_leafAt 36 = .ok (.iload_n 1, 1) := by decide +kernel
theorem dX3_leafAt_37 : decode cX3_leafAt 37 = .ok (.aload_n 0, 1) := by decide +kernel
theorem dX3_leafAt_38 : decode cX3_leafAt 38 = .ok (.getfield 15, 3) := by decide +kernel
theorem dX3_leafAt_41 : decode cX3_leafAt 41 = .ok (.iload_n 2, 1) := by decide +kernel
theorem dX3_leafAt_42 : decode cX3_leafAt 42 = .ok (.iaload, 1) := by decide +kernel
theorem dX3_leafAt_43 : decode cX3_leafAt 43 = .ok (.if_icmp .lt 14, 3) := by decide +kernel
theorem dX3_leafAt_46 : decode cX3_leafAt 46 = .ok (.iload_n 3, 1) := by decide +kernel
theorem dX3_leafAt_47 : decode cX3_leafAt 47 = .ok (.ifCond .eq 10, 3) := by decide +kernel
theorem dX3_leafAt_50 : decode cX3_leafAt 50 = .ok (.aload_n 0, 1) := by decide +kernel
theorem dX3_leafAt_51 : decode cX3_leafAt 51 = .ok (.getfield 9, 3) := by decide +kernel
theorem dX3_leafAt_54 : decode cX3_leafAt 54 = .ok (.iload_n 2, 1) := by decide +kernel
theorem dX3_leafAt_55 : decode cX3_leafAt 55 = .ok (.iaload, 1) := by decide +kernel
theorem dX3_leafAt_56 : decode cX3_leafAt 56 = .ok (.ireturn, 1) := by decide +kernel
theorem dX3_leafAt_57 : decode cX3_leafAt 57 = .ok (.iinc 2 1, 3) := by decide +kernel
theorem dX3_leafAt_60 : decode cX3_leafAt 60 = .ok (.goto (-58), 3) := by decide +kernel
theorem dX3_leafAt_63 : decode cX3_leafAt 63 = .ok (.iconst (-1), 1) := by decide +kernel
theorem dX3_leafAt_64 : decode cX3_leafAt 64 = .ok (.ireturn, 1) := by decide +kernel
theorem dX3_valueOf_0 : decode cX3_valueOf 0 = .ok (.iload_n 1, 1) := by decide +kernel
theorem dX3_valueOf_1 : decode cX3_valueOf 1 = .ok (.aload_n 0, 1) := by decide +kernel
theorem dX3_valueOf_2 : decode cX3_valueOf 2 = .ok (.getfield 27, 3) := by decide +kernel
theorem dX3_valueOf_5 : decode cX3_valueOf 5 = .ok (.if_icmp .lt 5, 3) := by decide +kernel
theorem dX3_valueOf_8 : decode cX3_valueOf 8 = .ok (.iconst (-1), 1) := by decide +kernel
theorem dX3_valueOf_9 : decode cX3_valueOf 9 = .ok (.ireturn, 1) := by decide +kernel
theorem dX3_valueOf_10 : decode cX3_valueOf 10 = .ok (.iload_n 2, 1) := by decide +kernel
theorem dX3_valueOf_11 : decode cX3_valueOf 11 = .ok (.ifCond .ne 10, 3) := by decide +kernel
theorem dX3_valueOf_14 : decode cX3_valueOf 14 = .ok (.aload_n 0, 1) := by decide +kernel
theorem dX3_valueOf_15 : decode cX3_valueOf 15 = .ok (.getfield 9, 3) := by decide +kernel
theorem dX3_valueOf_18 : decode cX3_valueOf 18 = .ok (.iload_n 1, 1) := by decide +kernel
theorem dX3_valueOf_19 : decode cX3_valueOf 19 = .ok (.iaload, 1) := by decide +kernel
theorem dX3_valueOf_20 : decode cX3_valueOf 20 = .ok (.ireturn, 1) := by decide +kernel
theorem dX3_valueOf_21 : decode cX3_valueOf 21 = .ok (.iload_n 2, 1) := by decide +kernel
theorem dX3_valueOf_22 : decode cX3_valueOf 22 = .ok (.iconst 1, 1) := by decide +kernel
theorem dX3_valueOf_23 : decode cX3_valueOf 23 = .ok (.if_icmp .ne 12, 3) := by decide +kernel
theorem dX3_valueOf_26 : decode cX3_valueOf 26 = .ok (.aload_n 0, 1) := by decide +kernel
theorem dX3_valueOf_27 : decode cX3_valueOf 27 = .ok (.getfield 15, 3) := by decide +kernel
theorem dX3_valueOf_30 : decode cX3_valueOf 30 = .ok (.iload_n 1, 1) := by decide +kernel
theorem dX3_valueOf_31 : decode cX3_valueOf 31 = .ok (.iaload, 1) := by decide +kernel
theorem dX3_valueOf_32 : decode cX3_valueOf 32 = .ok (.goto 9, 3) := by decide +kernel
theorem dX3_valueOf_35 : decode cX3_valueOf 35 = .ok (.aload_n 0, 1) := by decide +kernel
theorem dX3_valueOf_36 : decode cX3_valueOf 36 = .ok (.getfield 18, 3) := by decide +kernel
theorem dX3_valueOf_39 : decode cX3_valueOf 39 = .ok (.iload_n 1, 1) := by decide +kernel
theorem dX3_valueOf_40 : decode cX3_valueOf 40 = .ok (.iaload, 1) := by decide +kernel
theorem dX3_valueOf_41 : decode cX3_valueOf 41 = .ok (.ireturn, 1) := by decide +kernel
theorem dX4_init_0 : decode cX4_init 0 = .ok (.aload_n 0, 1) := by decide +kernel
theorem dX4_init_1 : decode cX4_init 1 = .ok (.invokespecial 3, 3) := by decide +kernel
theorem dX4_init_4 : decode cX4_init 4 = .ok (.aload_n 0, 1) := by decide +kernel
theorem dX4_init_5 : decode cX4_init 5 = .ok (.new 9, 3) := by decide +kernel
theorem dX4_init_8 : decode cX4_init 8 = .ok (.dup, 1) := by decide +kernel
theorem dX4_init_9 : decode cX4_init 9 = .ok (.invokespecial 11, 3) := by decide +kernel
theorem dX4_init_12 : decode cX4_init 12 = .ok (.putfield 12, 3) := by decide +kernel
theorem dX4_init_15 : decode cX4_init 15 = .ok (.aload_n 0, 1) := by decide +kernel
theorem dX4_init_16 : decode cX4_init 16 = .ok (.new 18, 3) := by decide +kernel
theorem dX4_init_19 : decode cX4_init 19 = .ok (.dup, 1) := by decide +kernel
theorem dX4_init_20 : decode cX4_init 20 = .ok (.invokespecial 20, 3) := by decide +kernel
theorem dX4_init_23 : decode cX4_init 23 = .ok (.putfield 21, 3) := by decide +kernel
theorem dX4_init_26 : decode cX4_init 26 = .ok (.return_, 1) := by decide +kernel
theorem dX4_copyFrom_0 : decode cX4_copyFrom 0 = .ok (.aload_n 0, 1) := by decide +kernel
theorem dX4_copyFrom_1 : decode cX4_copyFrom 1 = .ok (.getfield 12, 3) := by decide +kernel
theorem dX4_copyFrom_4 : decode cX4_copyFrom 4 = .ok (.aload_n 1, 1) := by decide +kernel
theorem dX4_copyFrom_5 : decode cX4_copyFrom 5 = .ok (.getfield 12, 3) := by decide +kernel
theorem dX4_copyFrom_8 : decode cX4_copyFrom 8 = .ok (.invokevirtual 25, 3) := by decide +kernel
theorem dX4_copyFrom_11 : decode cX4_copyFrom 11 = .ok (.aload_n 0, 1) := by decide +kernel
theorem dX4_copyFrom_12 : decode cX4_copyFrom 12 = .ok (.getfield 21, 3) := by decide +kernel
theorem dX4_copyFrom_15 : decode cX4_copyFrom 15 = .ok (.aload_n 1, 1) := by decide +kernel
theorem dX4_copyFrom_16 : decode cX4_copyFrom 16 = .ok (.getfield 21, 3) := by decide +kernel
theorem dX4_copyFrom_19 : decode cX4_copyFrom 19 = .ok (.invokevirtual 29, 3) := by decide +kernel
theorem dX4_copyFrom_22 : decode cX4_copyFrom 22 = .ok (.aload_n 0, 1) := by decide +kernel
theorem dX4_copyFrom_23 : decode cX4_copyFrom 23 = .ok (.aload_n 1, 1) := by decide +kernel
theorem dX4_copyFrom_24 : decode cX4_copyFrom 24 = .ok (.getfield 32, 3) := by decide +kernel
theorem dX4_copyFrom_27 : decode cX4_copyFrom 27 = .ok (.putfield 32, 3) := by decide +kernel
theorem dX4_copyFrom_30 : decode cX4_copyFrom 30 = .ok (.aload_n 0, 1) := by decide +kernel
theorem dX4_copyFrom_31 : decode cX4_copyFrom 31 = .ok (.aload_n 1, 1) := by decide +kernel
theorem dX4_copyFrom_32 : decode cX4_copyFrom 32 = .ok (.getfield 36, 3) := by decide +kernel
theorem dX4_copyFrom_35 : decode cX4_copyFrom 35 = .ok (.putfield 36, 3) := by decide +kernel
theorem dX4_copyFrom_38 : decode cX4_copyFrom 38 = .ok (.aload_n 0, 1) := by decide +kernel
theorem dX4_copyFrom_39 : decode cX4_copyFrom 39 = .ok (.aload_n 1, 1) := by decide +kernel
theorem dX4_copyFrom_40 : decode cX4_copyFrom 40 = .ok (.getfield 39, 3) := by decide +kernel
theorem dX4_copyFrom_43 : decode cX4_copyFrom 43 = .ok (.putfield 39, 3) := by decide +kernel
theorem dX4_copyFrom_46 : decode cX4_copyFrom 46 = .ok (.aload_n 0, 1) := by decide +kernel
theorem dX4_copyFrom_47 : decode cX4_copyFrom 47 = .ok (.aload_n 1, 1) := by decide +kernel
theorem dX4_copyFrom_48 : decode cX4_copyFrom 48 = .ok (.getfield 42, 3) := by decide +kernel
theorem dX4_copyFrom_51 : decode cX4_copyFrom 51 = .ok (.putfield 42, 3) := by decide +kernel
theorem dX4_copyFrom_54 : decode cX4_copyFrom 54 = .ok (.aload_n 0, 1) := by decide +kernel
theorem dX4_copyFrom_55 : decode cX4_copyFrom 55 = .ok (.aload_n 1, 1) := by decide +kernel
theorem dX4_copyFrom_56 : decode cX4_copyFrom 56 = .ok (.getfield 45, 3) := by decide +kernel
theorem dX4_copyFrom_59 : decode cX4_copyFrom 59 = .ok (.putfield 45, 3) := by decide +kernel
theorem dX4_copyFrom_62 : decode cX4_copyFrom 62 = .ok (.aload_n 0, 1) := by decide +kernel
theorem dX4_copyFrom_63 : decode cX4_copyFrom 63 = .ok (.aload_n 1, 1) := by decide +kernel
theorem dX4_copyFrom_64 : decode cX4_copyFrom 64 = .ok (.getfield 48, 3) := by decide +kernel
theorem dX4_copyFrom_67 : decode cX4_copyFrom 67 = .ok (.putfield 48, 3) := by decide +kernel
theorem dX4_copyFrom_70 : decode cX4_copyFrom 70 = .ok (.aload_n 0, 1) := by decide +kernel
theorem dX4_copyFrom_71 : decode cX4_copyFrom 71 = .ok (.aload_n 1, 1) := by decide +kernel
theorem dX4_copyFrom_72 : decode cX4_copyFrom 72 = .ok (.getfield 52, 3) := by decide +kernel
theorem dX4_copyFrom_75 : decode cX4_copyFrom 75 = .ok (.putfield 52, 3) := by decide +kernel
theorem dX4_copyFrom_78 : decode cX4_copyFrom 78 = .ok (.aload_n 0, 1) := by decide +kernel
theorem dX4_copyFrom_79 : decode cX4_copyFrom 79 = .ok (.aload_n 1, 1) := by decide +kernel
theorem dX4_copyFrom_80 : decode cX4_copyFrom 80 = .ok (.getfield 55, 3) := by decide +kernel
theorem dX4_copyFrom_83 : decode cX4_copyFrom 83 = .ok (.putfield 55, 3) := by decide +kernel
theorem dX4_copyFrom_86 : decode cX4_copyFrom 86 = .ok (.aload_n 0, 1) := by decide +kernel
theorem dX4_copyFrom_87 : decode cX4_copyFrom 87 = .ok (.aload_n 1, 1) := by decide +kernel
theorem dX4_copyFrom_88 : decode cX4_copyFrom 88 = .ok (.getfield 58, 3) := by decide +kernel
theorem dX4_copyFrom_91 : decode cX4_copyFrom 91 = .ok (.putfield 58, 3) := by decide +kernel
theorem dX4_copyFrom_94 : decode cX4_copyFrom 94 = .ok (.aload_n 0, 1) := by decide +kernel
theorem dX4_copyFrom_95 : decode cX4_copyFrom 95 = .ok (.aload_n 1, 1) := by decide +kernel
theorem dX4_copyFrom_96 : decode cX4_copyFrom 96 = .ok (.getfield 61, 3) := by decide +kernel
theorem dX4_copyFrom_99 : decode cX4_copyFrom 99 = .ok (.putfield 61, 3) := by decide +kernel
theorem dX4_copyFrom_102 : decode cX4_copyFrom 102 = .ok (.aload_n 0, 1) := by decide +kernel
theorem dX4_copyFrom_103 : decode cX4_copyFrom 103 = .ok (.aload_n 1, 1) := by decide +kernel
theorem dX4_copyFrom_104 : decode cX4_copyFrom 104 = .ok (.getfield 64, 3) := by decide +kernel
theorem dX4_copyFrom_107 : decode cX4_copyFrom 107 = .ok (.putfield 64, 3) := by decide +kernel
theorem dX4_copyFrom_110 : decode cX4_copyFrom 110 = .ok (.aload_n 0, 1) := by decide +kernel
theorem dX4_copyFrom_111 : decode cX4_copyFrom 111 = .ok (.aload_n 1, 1) := by decide +kernel
theorem dX4_copyFrom_112 : decode cX4_copyFrom 112 = .ok (.getfield 67, 3) := by decide +kernel
theorem dX4_copyFrom_115 : decode cX4_copyFrom 115 = .ok (.putfield 67, 3) := by decide +kernel
theorem dX4_copyFrom_118 : decode cX4_copyFrom 118 = .ok (.return_, 1) := by decide +kernel
theorem dX4_begin_0 : decode cX4_begin 0 = .ok (.aload_n 0, 1) := by decide +kernel
theorem dX4_begin_1 : decode cX4_begin 1 = .ok (.iload_n 1, 1) := by decide +kernel
theorem dX4_begin_2 : decode cX4_begin 2 = .ok (.putfield 32, 3) := by decide +kernel
theorem dX4_begin_5 : decode cX4_begin 5 = .ok (.aload_n 0, 1) := by decide +kernel
theorem dX4_begin_6 : decode cX4_begin 6 = .ok (.iload_n 2, 1) := by decide +kernel
theorem dX4_begin_7 : decode cX4_begin 7 = .ok (.putfield 36, 3) := by decide +kernel
theorem dX4_begin_10 : decode cX4_begin 10 = .ok (.aload_n 0, 1) := by decide +kernel
theorem dX4_begin_11 : decode cX4_begin 11 = .ok (.iload_n 3, 1) := by decide +kernel
theorem dX4_begin_12 : decode cX4_begin 12 = .ok (.putfield 39, 3) := by decide +kernel
theorem dX4_begin_15 : decode cX4_begin 15 = .ok (.aload_n 0, 1) := by decide +kernel
theorem dX4_begin_16 : decode cX4_begin 16 = .ok (.iload 4, 2) := by decide +kernel
theorem dX4_begin_18 : decode cX4_begin 18 = .ok (.putfield 42, 3) := by decide +kernel
theorem dX4_begin_21 : decode cX4_begin 21 = .ok (.aload_n 0, 1) := by decide +kernel
theorem dX4_begin_22 : decode cX4_begin 22 = .ok (.iload_n 3, 1) := by decide +kernel
theorem dX4_begin_23 : decode cX4_begin 23 = .ok (.putfield 45, 3) := by decide +kernel
theorem dX4_begin_26 : decode cX4_begin 26 = .ok (.aload_n 0, 1) := by decide +kernel
theorem dX4_begin_27 : decode cX4_begin 27 = .ok (.iconst 1, 1) := by decide +kernel
theorem dX4_begin_28 : decode cX4_begin 28 = .ok (.putfield 48, 3) := by decide +kernel
theorem dX4_begin_31 : decode cX4_begin 31 = .ok (.aload_n 0, 1) := by decide +kernel
theorem dX4_begin_32 : decode cX4_begin 32 = .ok (.getfield 12, 3) := by decide +kernel
theorem dX4_begin_35 : decode cX4_begin 35 = .ok (.iload_n 3, 1) := by decide +kernel
theorem dX4_begin_36 : decode cX4_begin 36 = .ok (.iload 4, 2) := by decide +kernel
theorem dX4_begin_38 : decode cX4_begin 38 = .ok (.invokevirtual 70, 3) := by decide +kernel
theorem dX4_begin_41 : decode cX4_begin 41 = .ok (.return_, 1) := by decide +kernel
theorem dX4_canGoTo_0 : decode cX4_canGoTo 0 = .ok (.aload_n 0, 1) := by decide +kernel
theorem dX4_canGoTo_1 : decode cX4_canGoTo 1 = .ok (.getfield 48, 3) := by decide +kernel
theorem dX4_canGoTo_4 : decode cX4_canGoTo 4 = .ok (.ifCond .eq 23, 3) := by decide +kernel
theorem dX4_canGoTo_7 : decode cX4_canGoTo 7 = .ok (.aload_n 0, 1) := by decide +kernel
theorem dX4_canGoTo_8 : decode cX4_canGoTo 8 = .ok (.getfield 32, 3) := by decide +kernel
theorem dX4_canGoTo_11 : decode cX4_canGoTo 11 = .ok (.iconst 2, 1) := by decide +kernel
theorem dX4_canGoTo_12 : decode cX4_canGoTo 12 = .ok (.if_icmp .eq 15, 3) := by decide +kernel
theorem dX4_canGoTo_15 : decode cX4_canGoTo 15 = .ok (.aload_n 0, 1) := by decide +kernel
theorem dX4_canGoTo_16 : decode cX4_canGoTo 16 = .ok (.getfield 39, 3) := by decide +kernel
theorem dX4_canGoTo_19 : decode cX4_canGoTo 19 = .ok (.iload_n 1, 1) := by decide +kernel
theorem dX4_canGoTo_20 : decode cX4_canGoTo 20 = .ok (.if_icmp .eq 7, 3) := by decide +kernel
theorem dX4_canGoTo_23 : decode cX4_canGoTo 23 = .ok (.iconst 1, 1) := by decide +kernel
theorem dX4_canGoTo_24 : decode cX4_canGoTo 24 = .ok (.goto 4, 3) := by decide +kernel
theorem dX4_canGoTo_27 : decode cX4_canGoTo 27 = .ok (.iconst 0, 1) := by decide +kernel
theorem dX4_canGoTo_28 : decode cX4_canGoTo 28 = .ok (.ireturn, 1) := by decide +kernel
theorem dX4_goTo_0 : decode cX4_goTo 0 = .ok (.aload_n 0, 1) := by decide +kernel
theorem dX4_goTo_1 : decode cX4_goTo 1 = .ok (.getfield 39, 3) := by decide +kernel
theorem dX4_goTo_4 : decode cX4_goTo 4 = .ok (.istore_n 3, 1) := by decide +kernel
theorem dX4_goTo_5 : decode cX4_goTo 5 = .ok (.aload_n 0, 1) := by decide +kernel
theorem dX4_goTo_6 : decode cX4_goTo 6 = .ok (.iload_n 1, 1) := by decide +kernel
theorem dX4_goTo_7 : decode cX4_goTo 7 = .ok (.putfield 39, 3) := by decide +kernel
theorem dX4_goTo_10 : decode cX4_goTo 10 = .ok (.aload_n 0, 1) := by decide +kernel
theorem dX4_goTo_11 : decode cX4_goTo 11 = .ok (.iload_n 2, 1) := by decide +kernel
theorem dX4_goTo_12 : decode cX4_goTo 12 = .ok (.putfield 42, 3) := by decide +kernel
theorem dX4_goTo_15 : decode cX4_goTo 15 = .ok (.iload_n 3, 1) := by decide +kernel
theorem dX4_goTo_16 : decode cX4_goTo 16 = .ok (.ireturn, 1) := by decide +kernel
theorem dX4_quit_0 : decode cX4_quit 0 = .ok (.aload_n 0, 1) := by decide +kernel
theorem dX4_quit_1 : decode cX4_quit 1 = .ok (.getfield 21, 3) := by decide +kernel
theorem dX4_quit_4 : decode cX4_quit 4 = .ok (.getfield 74, 3) := by decide +kernel
theorem dX4_quit_7 : decode cX4_quit 7 = .ok (.istore_n 2, 1) := by decide +kernel
theorem dX4_quit_8 : decode cX4_quit 8 = .ok (.aload_n 0, 1) := by decide +kernel
theorem dX4_quit_9 : decode cX4_quit 9 = .ok (.getfield 21, 3) := by decide +kernel
theorem dX4_quit_12 : decode cX4_quit 12 = .ok (.iload_n 2, 1) := by decide +kernel
theorem dX4_quit_13 : decode cX4_quit 13 = .ok (.invokevirtual 77, 3) := by decide +kernel
theorem dX4_quit_16 : decode cX4_quit 16 = .ok (.aload_n 0, 1) := by decide +kernel
theorem dX4_quit_17 : decode cX4_quit 17 = .ok (.dup, 1) := by decide +kernel
theorem dX4_quit_18 : decode cX4_quit 18 = .ok (.getfield 61, 3) := by decide +kernel
theorem dX4_quit_21 : decode cX4_quit 21 = .ok (.iload_n 2, 1) := by decide +kernel
theorem dX4_quit_22 : decode cX4_quit 22 = .ok (.iadd, 1) := by decide +kernel
theorem dX4_quit_23 : decode cX4_quit 23 = .ok (.putfield 61, 3) := by decide +kernel
theorem dX4_quit_26 : decode cX4_quit 26 = .ok (.aload_n 0, 1) := by decide +kernel
theorem dX4_quit_27 : decode cX4_quit 27 = .ok (.getfield 12, 3) := by decide +kernel
theorem dX4_quit_30 : decode cX4_quit 30 = .ok (.iload_n 1, 1) := by decide +kernel
theorem dX4_quit_31 : decode cX4_quit 31 = .ok (.invokevirtual 81, 3) := by decide +kernel
theorem dX4_quit_34 : decode cX4_quit 34 = .ok (.aload_n 0, 1) := by decide +kernel
theorem dX4_quit_35 : decode cX4_quit 35 = .ok (.iconst 0, 1) := by decide +kernel
theorem dX4_quit_36 : decode cX4_quit 36 = .ok (.putfield 48, 3) := by decide +kernel
theorem dX4_quit_39 : decode cX4_quit 39 = .ok (.iload_n 2, 1) := by decide +kernel
theorem dX4_quit_40 : decode cX4_quit 40 = .ok (.ireturn, 1) := by decide +kernel
theorem dX4_relevel_0 : decode cX4_relevel 0 = .ok (.aload_n 0, 1) := by decide +kernel
theorem dX4_relevel_1 : decode cX4_relevel 1 = .ok (.getfield 36, 3) := by decide +kernel
theorem dX4_relevel_4 : decode cX4_relevel 4 = .ok (.istore_n 2, 1) := by decide +kernel
theorem dX4_relevel_5 : decode cX4_relevel 5 = .ok (.aload_n 0, 1) := by decide +kernel
theorem dX4_relevel_6 : decode cX4_relevel 6 = .ok (.iload_n 1, 1) := by decide +kernel
theorem dX4_relevel_7 : decode cX4_relevel 7 = .ok (.putfield 36, 3) := by decide +kernel
theorem dX4_relevel_10 : decode cX4_relevel 10 = .ok (.iload_n 2, 1) := by decide +kernel
theorem dX4_relevel_11 : decode cX4_relevel 11 = .ok (.ireturn, 1) := by decide +kernel
theorem dX4_dwellTime_0 : decode cX4_dwellTime 0 = .ok (.aload_n 0, 1) := by decide +kernel
theorem dX4_dwellTime_1 : decode cX4_dwellTime 1 = .ok (.getfield 32, 3) := by decide +kernel
theorem dX4_dwellTime_4 : decode cX4_dwellTime 4 = .ok (.ifCond .ne 7, 3) := by decide +kernel
theorem dX4_dwellTime_7 : decode cX4_dwellTime 7 = .ok (.iload_n 1, 1) := by decide +kernel
theorem dX4_dwellTime_8 : decode cX4_dwellTime 8 = .ok (.goto 6, 3) := by decide +kernel
theorem dX4_dwellTime_11 : decode cX4_dwellTime 11 = .ok (.iload_n 1, 1) := by decide +kernel
theorem dX4_dwellTime_12 : decode cX4_dwellTime 12 = .ok (.iconst 2, 1) := by decide +kernel
theorem dX4_dwellTime_13 : decode cX4_dwellTime 13 = .ok (.idiv, 1) := by decide +kernel
theorem dX4_dwellTime_14 : decode cX4_dwellTime 14 = .ok (.ireturn, 1) := by decide +kernel
theorem dX4_isDue_0 : decode cX4_isDue 0 = .ok (.aload_n 0, 1) := by decide +kernel
theorem dX4_isDue_1 : decode cX4_isDue 1 = .ok (.getfield 48, 3) := by decide +kernel
theorem dX4_isDue_4 : decode cX4_isDue 4 = .ok (.ifCond .eq 32, 3) := by decide +kernel
theorem dX4_isDue_7 : decode cX4_isDue 7 = .ok (.aload_n 0, 1) := by decide +kernel
theorem dX4_isDue_8 : decode cX4_isDue 8 = .ok (.getfield 39, 3) := by decide +kernel
theorem dX4_isDue_11 : decode cX4_isDue 11 = .ok (.aload_n 0, 1) := by decide +kernel
theorem dX4_isDue_12 : decode cX4_isDue 12 = .ok (.getfield 45, 3) := by decide +kernel
theorem dX4_isDue_15 : decode cX4_isDue 15 = .ok (.if_icmp .eq 21, 3) := by decide +kernel
theorem dX4_isDue_18 : decode cX4_isDue 18 = .ok (.iload_n 1, 1) := by decide +kernel
theorem dX4_isDue_19 : decode cX4_isDue 19 = .ok (.aload_n 0, 1) := by decide +kernel
theorem dX4_isDue_20 : decode cX4_isDue 20 = .ok (.getfield 42, 3) := by decide +kernel
theorem dX4_isDue_23 : decode cX4_isDue 23 = .ok (.isub, 1) := by decide +kernel
theorem dX4_isDue_24 : decode cX4_isDue 24 = .ok (.aload_n 0, 1) := by decide +kernel
theorem dX4_isDue_25 : decode cX4_isDue 25 = .ok (.iload_n 2, 1) := by decide +kernel
theorem dX4_isDue_26 : decode cX4_isDue 26 = .ok (.invokevirtual 84, 3) := by decide +kernel
theorem dX4_isDue_29 : decode cX4_isDue 29 = .ok (.if_icmp .lt 7, 3) := by decide +kernel
theorem dX4_isDue_32 : decode cX4_isDue 32 = .ok (.iconst 1, 1) := by decide +kernel
theorem dX4_isDue_33 : decode cX4_isDue 33 = .ok (.goto 4, 3) := by decide +kernel
theorem dX4_isDue_36 : decode cX4_isDue 36 = .ok (.iconst 0, 1) := by decide +kernel
theorem dX4_isDue_37 : decode cX4_isDue 37 = .ok (.ireturn, 1) := by decide +kernel
theorem dX4_handOver_0 : decode cX4_handOver 0 = .ok (.aload_n 0, 1) := by decide +kernel
theorem dX4_handOver_1 : decode cX4_handOver 1 = .ok (.getfield 12, 3) := by decide +kernel
theorem dX4_handOver_4 : decode cX4_handOver 4 = .ok (.iload_n 1, 1) := by decide +kernel
theorem dX4_handOver_5 : decode cX4_handOver 5 = .ok (.invokevirtual 81, 3) := by decide +kernel
theorem dX4_handOver_8 : decode cX4_handOver 8 = .ok (.aload_n 0, 1) := by decide +kernel
theorem dX4_handOver_9 : decode cX4_handOver 9 = .ok (.getfield 12, 3) := by decide +kernel
theorem dX4_handOver_12 : decode cX4_handOver 12 = .ok (.aload_n 0, 1) := by decide +kernel
theorem dX4_handOver_13 : decode cX4_handOver 13 = .ok (.getfield 39, 3) := by decide +kernel
theorem dX4_handOver_16 : decode cX4_handOver 16 = .ok (.iload_n 1, 1) := by decide +kernel
theorem dX4_handOver_17 : decode cX4_handOver 17 = .ok (.invokevirtual 70, 3) := by decide +kernel
theorem dX4_handOver_20 : decode cX4_handOver 20 = .ok (.aload_n 0, 1) := by decide +kernel
theorem dX4_handOver_21 : decode cX4_handOver 21 = .ok (.aload_n 0, 1) := by decide +kernel
theorem dX4_handOver_22 : decode cX4_handOver 22 = .ok (.getfield 39, 3) := by decide +kernel
theorem dX4_handOver_25 : decode cX4_handOver 25 = .ok (.putfield 45, 3) := by decide +kernel
theorem dX4_handOver_28 : decode cX4_handOver 28 = .ok (.aload_n 0, 1) := by decide +kernel
theorem dX4_handOver_29 : decode cX4_handOver 29 = .ok (.dup, 1) := by decide +kernel
theorem dX4_handOver_30 : decode cX4_handOver 30 = .ok (.getfield 64, 3) := by decide +kernel
theorem dX4_handOver_33 : decode cX4_handOver 33 = .ok (.iconst 1, 1) := by decide +kernel
theorem dX4_handOver_34 : decode cX4_handOver 34 = .ok (.iadd, 1) := by decide +kernel
theorem dX4_handOver_35 : decode cX4_handOver 35 = .ok (.putfield 64, 3) := by decide +kernel
theorem dX4_handOver_38 : decode cX4_handOver 38 = .ok (.aload_n 0, 1) := by decide +kernel
theorem dX4_handOver_39 : decode cX4_handOver 39 = .ok (.getfield 21, 3) := by decide +kernel
theorem dX4_handOver_42 : decode cX4_handOver 42 = .ok (.getfield 74, 3) := by decide +kernel
theorem dX4_handOver_45 : decode cX4_handOver 45 = .ok (.ifCond .le 10, 3) := by decide +kernel
theorem dX4_handOver_48 : decode cX4_handOver 48 = .ok (.aload_n 0, 1) := by decide +kernel
theorem dX4_handOver_49 : decode cX4_handOver 49 = .ok (.iload_n 1, 1) := by decide +kernel
theorem dX4_handOver_50 : decode cX4_handOver 50 = .ok (.iload_n 2, 1) := by decide +kernel
theorem dX4_handOver_51 : decode cX4_handOver 51 = .ok (.iadd, 1) := by decide +kernel
theorem dX4_handOver_52 : decode cX4_handOver 52 = .ok (.putfield 67, 3) := by decide +kernel
theorem dX4_handOver_55 : decode cX4_handOver 55 = .ok (.return_, 1) := by decide +kernel
theorem dX4_getsFrom_0 : decode cX4_getsFrom 0 = .ok (.aload_n 0, 1) := by decide +kernel
theorem dX4_getsFrom_1 : decode cX4_getsFrom 1 = .ok (.getfield 12, 3) := by decide +kernel
theorem dX4_getsFrom_4 : decode cX4_getsFrom 4 = .ok (.iload_n 2, 1) := by decide +kernel
theorem dX4_getsFrom_5 : decode cX4_getsFrom 5 = .ok (.invokevirtual 88, 3) := by decide +kernel
theorem dX4_getsFrom_8 : decode cX4_getsFrom 8 = .ok (.istore_n 3, 1) := by decide +kernel
theorem dX4_getsFrom_9 : decode cX4_getsFrom 9 = .ok (.aload_n 0, 1) := by decide +kernel
theorem dX4_getsFrom_10 : decode cX4_getsFrom 10 = .ok (.getfield 48, 3) := by decide +kernel
theorem dX4_getsFrom_13 : decode cX4_getsFrom 13 = .ok (.ifCond .eq 25, 3) := by decide +kernel
theorem dX4_getsFrom_16 : decode cX4_getsFrom 16 = .ok (.iload_n 3, 1) := by decide +kernel
theorem dX4_getsFrom_17 : decode cX4_getsFrom 17 = .ok (.iconst (-1), 1) := by decide +kernel
theorem dX4_getsFrom_18 : decode cX4_getsFrom 18 = .ok (.if_icmp .eq 20, 3) := by decide +kernel
theorem dX4_getsFrom_21 : decode cX4_getsFrom 21 = .ok (.iload_n 3, 1) := by decide +kernel
theorem dX4_getsFrom_22 : decode cX4_getsFrom 22 = .ok (.aload_n 0, 1) := by decide +kernel
theorem dX4_getsFrom_23 : decode cX4_getsFrom 23 = .ok (.getfield 36, 3) := by decide +kernel
theorem dX4_getsFrom_26 : decode cX4_getsFrom 26 = .ok (.invokestatic 91, 3) := by decide +kernel
theorem dX4_getsFrom_29 : decode cX4_getsFrom 29 = .ok (.iload_n 1, 1) := by decide +kernel
theorem dX4_getsFrom_30 : decode cX4_getsFrom 30 = .ok (.iand, 1) := by decide +kernel
theorem dX4_getsFrom_31 : decode cX4_getsFrom 31 = .ok (.ifCond .eq 7, 3) := by decide +kernel
theorem dX4_getsFrom_34 : decode cX4_getsFrom 34 = .ok (.iconst 1, 1) := by decide +kernel
theorem dX4_getsFrom_35 : decode cX4_getsFrom 35 = .ok (.goto 4, 3) := by decide +kernel
theorem dX4_getsFrom_38 : decode cX4_getsFrom 38 = .ok (.iconst 0, 1) := by decide +kernel
theorem dX4_getsFrom_39 : decode cX4_getsFrom 39 = .ok (.ireturn, 1) := by decide +kernel
theorem dX4_receive_0 : decode cX4_receive 0 = .ok (.aload_n 0, 1) := by decide +kernel
theorem dX4_receive_1 : decode cX4_receive 1 = .ok (.dup, 1) := by decide +kernel
theorem dX4_receive_2 : decode cX4_receive 2 = .ok (.getfield 52, 3) := by decide +kernel
theorem dX4_receive_5 : decode cX4_receive 5 = .ok (.iconst 1, 1) := by decide +kernel
theorem dX4_receive_6 : decode cX4_receive 6 = .ok (.iadd, 1) := by decide +kernel
theorem dX4_receive_7 : decode cX4_receive 7 = .ok (.putfield 52, 3) := by decide +kernel
theorem dX4_receive_10 : decode cX4_receive 10 = .ok (.aload_n 0, 1) := by decide +kernel
theorem dX4_receive_11 : decode cX4_receive 11 = .ok (.getfield 21, 3) := by decide +kernel
theorem dX4_receive_14 : decode cX4_receive 14 = .ok (.invokevirtual 95, 3) := by decide +kernel
theorem dX4_receive_17 : decode cX4_receive 17 = .ok (.ifCond .eq 16, 3) := by decide +kernel
theorem dX4_receive_20 : decode cX4_receive 20 = .ok (.aload_n 0, 1) := by decide +kernel
theorem dX4_receive_21 : decode cX4_receive 21 = .ok (.dup, 1) := by decide +kernel
theorem dX4_receive_22 : decode cX4_receive 22 = .ok (.getfield 58, 3) := by decide +kernel
theorem dX4_receive_25 : decode cX4_receive 25 = .ok (.iconst 1, 1) := by decide +kernel
theorem dX4_receive_26 : decode cX4_receive 26 = .ok (.iadd, 1) := by decide +kernel
theorem dX4_receive_27 : decode cX4_receive 27 = .ok (.putfield 58, 3) := by decide +kernel
theorem dX4_receive_30 : decode cX4_receive 30 = .ok (.goto 11, 3) := by decide +kernel
theorem dX4_receive_33 : decode cX4_receive 33 = .ok (.aload_n 0, 1) := by decide +kernel
theorem dX4_receive_34 : decode cX4_receive 34 = .ok (.getfield 21, 3) := by decide +kernel
theorem dX4_receive_37 : decode cX4_receive 37 = .ok (.iload_n 1, 1) := by decide +kernel
theorem dX4_receive_38 : decode cX4_receive 38 = .ok (.invokevirtual 99, 3) := by decide +kernel
theorem dX4_receive_41 : decode cX4_receive 41 = .ok (.return_, 1) := by decide +kernel
theorem dX4_reasonAgainst_0 : decode cX4_reasonAgainst 0 = .ok (.aload_n 0, 1) := by decide +kernel
theorem dX4_reasonAgainst_1 : decode cX4_reasonAgainst 1 = .ok (.getfield 48, 3) := by decide +kernel
theorem dX4_reasonAgainst_4 : decode cX4_reasonAgainst 4 = .ok (.ifCond .ne 5, 3) := by decide +kernel
theorem dX4_reasonAgainst_7 : decode cX4_reasonAgainst 7 = .ok (.iconst 1, 1) := by decide +kernel
theorem dX4_reasonAgainst_8 : decode cX4_reasonAgainst 8 = .ok (.ireturn, 1) := by decide +kernel
theorem dX4_reasonAgainst_9 : decode cX4_reasonAgainst 9 = .ok (.aload_n 0, 1) := by decide +kernel
theorem dX4_reasonAgainst_10 : decode cX4_reasonAgainst 10 = .ok (.getfield 45, 3) := by decide +kernel
theorem dX4_reasonAgainst_13 : decode cX4_reasonAgainst 13 = .ok (.aload_n 0, 1) := by decide +kernel
theorem dX4_reasonAgainst_14 : decode cX4_reasonAgainst 14 = .ok (.getfield 36, 3) := by decide +kernel
theorem dX4_reasonAgainst_17 : decode cX4_reasonAgainst 17 = .ok (.invokestatic 91, 3) := by decide +kernel
theorem dX4_reasonAgainst_20 : decode cX4_reasonAgainst 20 = .ok (.iload_n 1, 1) := by decide +kernel
theorem dX4_reasonAgainst_21 : decode cX4_reasonAgainst 21 = .ok (.iand, 1) := by decide +kernel
theorem dX4_reasonAgainst_22 : decode cX4_reasonAgainst 22 = .ok (.ifCond .ne 25, 3) := by decide +kernel
theorem dX4_reasonAgainst_25 : decode cX4_reasonAgainst 25 = .ok (.aload_n 0, 1) := by decide +kernel
theorem dX4_reasonAgainst_26 : decode cX4_reasonAgainst 26 = .ok (.getfield 39, 3) := by decide +kernel
theorem dX4_reasonAgainst_29 : decode cX4_reasonAgainst 29 = .ok (.aload_n 0, 1) := by decide +kernel
theorem dX4_reasonAgainst_30 : decode cX4_reasonAgainst 30 = .ok (.getfield 36, 3) := by decide +kernel
theorem dX4_reasonAgainst_33 : decode cX4_reasonAgainst 33 = .ok (.invokestatic 91, 3) := by decide +kernel
theorem dX4_reasonAgainst_36 : decode cX4_reasonAgainst 36 = .ok (.iload_n 1, 1) := by decide +kernel
theorem dX4_reasonAgainst_37 : decode cX4_reasonAgainst 37 = .ok (.iand, 1) := by decide +kernel
theorem dX4_reasonAgainst_38 : decode cX4_reasonAgainst 38 = .ok (.ifCond .eq 7, 3) := by decide +kernel
theorem dX4_reasonAgainst_41 : decode cX4_reasonAgainst 41 = .ok (.iconst 2, 1) := by decide +kernel
theorem dX4_reasonAgainst_42 : decode cX4_reasonAgainst 42 = .ok (.goto 4, 3) := by decide +kernel
theorem dX4_reasonAgainst_45 : decode cX4_reasonAgainst 45 = .ok (.iconst 3, 1) := by decide +kernel
theorem dX4_reasonAgainst_46 : decode cX4_reasonAgainst 46 = .ok (.ireturn, 1) := by decide +kernel
theorem dX4_reasonAgainst_47 : decode cX4_reasonAgainst 47 = .ok (.aload_n 0, 1) := by decide +kernel
theorem dX4_reasonAgainst_48 : decode cX4_reasonAgainst 48 = .ok (.getfield 21, 3) := by decide +kernel
theorem dX4_reasonAgainst_51 : decode cX4_reasonAgainst 51 = .ok (.invokevirtual 95, 3) := by decide +kernel
theorem dX4_reasonAgainst_54 : decode cX4_reasonAgainst 54 = .ok (.ifCond .eq 7, 3) := by decide +kernel
theorem dX4_reasonAgainst_57 : decode cX4_reasonAgainst 57 = .ok (.iconst 4, 1) := by decide +kernel
theorem dX4_reasonAgainst_58 : decode cX4_reasonAgainst 58 = .ok (.goto 4, 3) := by decide +kernel
theorem dX4_reasonAgainst_61 : decode cX4_reasonAgainst 61 = .ok (.iconst 0, 1) := by decide +kernel
theorem dX4_reasonAgainst_62 : decode cX4_reasonAgainst 62 = .ok (.ireturn, 1) := by decide +kernel
theorem dX4_coverage_0 : decode cX4_coverage 0 = .ok (.aload_n 0, 1) := by decide +kernel
theorem dX4_coverage_1 : decode cX4_coverage 1 = .ok (.getfield 48, 3) := by decide +kernel
theorem dX4_coverage_4 : decode cX4_coverage 4 = .ok (.ifCond .eq 17, 3) := by decide +kernel
theorem dX4_coverage_7 : decode cX4_coverage 7 = .ok (.aload_n 0, 1) := by decide +kernel
theorem dX4_coverage_8 : decode cX4_coverage 8 = .ok (.getfield 45, 3) := by decide +kernel
theorem dX4_coverage_11 : decode cX4_coverage 11 = .ok (.aload_n 0, 1) := by decide +kernel
theorem dX4_coverage_12 : decode cX4_coverage 12 = .ok (.getfield 36, 3) := by decide +kernel
theorem dX4_coverage_15 : decode cX4_coverage 15 = .ok (.invokestatic 91, 3) := by decide +kernel
theorem dX4_coverage_18 : decode cX4_coverage 18 = .ok (.goto 4, 3) := by decide +kernel
theorem dX4_coverage_21 : decode cX4_coverage 21 = .ok (.iconst 0, 1) := by decide +kernel
theorem dX4_coverage_22 : decode cX4_coverage 22 = .ok (.ireturn, 1) := by decide +kernel
theorem dX4_valueOf_0 : decode cX4_valueOf 0 = .ok (.iload_n 1, 1) := by decide +kernel
theorem dX4_valueOf_1 : decode cX4_valueOf 1 = .ok (.tableswitch 143 0 12 #[67, 72, 77, 82, 87, 92, 105, 113, 118, 123, 128, 133, 138], 67) := by decide +kernel
theorem dX4_valueOf_68 : decode cX4_valueOf 68 = .ok (.aload_n 0, 1) := by decide +kernel
theorem dX4_valueOf_69 : decode cX4_valueOf 69 = .ok (.getfield 32, 3) := by decide +kernel
theorem dX4_valueOf_72 : decode cX4_valueOf 72 = .ok (.ireturn, 1) := by decide +kernel
theorem dX4_valueOf_73 : decode cX4_valueOf 73 = .ok (.aload_n 0, 1) := by decide +kernel
theorem dX4_valueOf_74 : decode cX4_valueOf 74 = .ok (.getfield 36, 3) := by decide +kernel
theorem dX4_valueOf_77 : decode cX4_valueOf 77 = .ok (.ireturn, 1) := by decide +kernel
theorem dX4_valueOf_78 : decode cX4_valueOf 78 = .ok (.aload_n 0, 1) := by decide +kernel
theorem dX4_valueOf_79 : decode cX4_valueOf 79 = .ok (.getfield 39, 3) := by decide +kernel
theorem dX4_valueOf_82 : decode cX4_valueOf 82 = .ok (.ireturn, 1) := by decide +kernel
theorem dX4_valueOf_83 : decode cX4_valueOf 83 = .ok (.aload_n 0, 1) := by decide +kernel
theorem dX4_valueOf_84 : decode cX4_valueOf 84 = .ok (.getfield 42, 3) := by decide +kernel
theorem dX4_valueOf_87 : decode cX4_valueOf 87 = .ok (.ireturn, 1) := by decide +kernel
theorem dX4_valueOf_88 : decode cX4_valueOf 88 = .ok (.aload_n 0, 1) := by decide +kernel
theorem dX4_valueOf_89 : decode cX4_valueOf 89 = .ok (.getfield 45, 3) := by decide +kernel
theorem dX4_valueOf_92 : decode cX4_valueOf 92 = .ok (.ireturn, 1) := by decide +kernel
theorem dX4_valueOf_93 : decode cX4_valueOf 93 = .ok (.aload_n 0, 1) := by decide +kernel
theorem dX4_valueOf_94 : decode cX4_valueOf 94 = .ok (.getfield 48, 3) := by decide +kernel
theorem dX4_valueOf_97 : decode cX4_valueOf 97 = .ok (.ifCond .eq 7, 3) := by decide +kernel
theorem dX4_valueOf_100 : decode cX4_valueOf 100 = .ok (.iconst 1, 1) := by decide +kernel
theorem dX4_valueOf_101 : decode cX4_valueOf 101 = .ok (.goto 4, 3) := by decide +kernel
theorem dX4_valueOf_104 : decode cX4_valueOf 104 = .ok (.iconst 0, 1) := by decide +kernel
theorem dX4_valueOf_105 : decode cX4_valueOf 105 = .ok (.ireturn, 1) := by decide +kernel
theorem dX4_valueOf_106 : decode cX4_valueOf 106 = .ok (.aload_n 0, 1) := by decide +kernel
theorem dX4_valueOf_107 : decode cX4_valueOf 107 = .ok (.getfield 21, 3) := by decide +kernel
theorem dX4_valueOf_110 : decode cX4_valueOf 110 = .ok (.getfield 74, 3) := by decide +kernel
theorem dX4_valueOf_113 : decode cX4_valueOf 113 = .ok (.ireturn, 1) := by decide +kernel
theorem dX4_valueOf_114 : decode cX4_valueOf 114 = .ok (.aload_n 0, 1) := by decide +kernel
theorem dX4_valueOf_115 : decode cX4_valueOf 115 = .ok (.getfield 52, 3) := by decide +kernel
theorem dX4_valueOf_118 : decode cX4_valueOf 118 = .ok (.ireturn, 1) := by decide +kernel
theorem dX4_valueOf_119 : decode cX4_valueOf 119 = .ok (.aload_n 0, 1) := by decide +kernel
theorem dX4_valueOf_120 : decode cX4_valueOf 120 = .ok (.getfield 55, 3) := by decide +kernel
theorem dX4_valueOf_123 : decode cX4_valueOf 123 = .ok (.ireturn, 1) := by decide +kernel
theorem dX4_valueOf_124 : decode cX4_valueOf 124 = .ok (.aload_n 0, 1) := by decide +kernel
theorem dX4_valueOf_125 : decode cX4_valueOf 125 = .ok (.getfield 58, 3) := by decide +kernel
theorem dX4_valueOf_128 : decode cX4_valueOf 128 = .ok (.ireturn, 1) := by decide +kernel
theorem dX4_valueOf_129 : decode cX4_valueOf 129 = .ok (.aload_n 0, 1) := by decide +kernel
theorem dX4_valueOf_130 : decode cX4_valueOf 130 = .ok (.getfield 64, 3) := by decide +kernel
theorem dX4_valueOf_133 : decode cX4_valueOf 133 = .ok (.ireturn, 1) := by decide +kernel
theorem dX4_valueOf_134 : decode cX4_valueOf 134 = .ok (.aload_n 0, 1) := by decide +kernel
theorem dX4_valueOf_135 : decode cX4_valueOf 135 = .ok (.getfield 67, 3) := by decide +kernel
theorem dX4_valueOf_138 : decode cX4_valueOf 138 = .ok (.ireturn, 1) := by decide +kernel
theorem dX4_valueOf_139 : decode cX4_valueOf 139 = .ok (.aload_n 0, 1) := by decide +kernel
theorem dX4_valueOf_140 : decode cX4_valueOf 140 = .ok (.getfield 61, 3) := by decide +kernel
theorem dX4_valueOf_143 : decode cX4_valueOf 143 = .ok (.ireturn, 1) := by decide +kernel
theorem dX4_valueOf_144 : decode cX4_valueOf 144 = .ok (.iconst (-1), 1) := by decide +kernel
theorem dX4_valueOf_145 : decode cX4_valueOf 145 = .ok (.ireturn, 1) := by decide +kernel
theorem dX5_init_0 : decode cX5_init 0 = .ok (.aload_n 0, 1) := by decide +kernel
theorem dX5_init_1 : decode cX5_init 1 = .ok (.invokespecial 3, 3) := by decide +kernel
theorem dX5_init_4 : decode cX5_init 4 = .ok (.aload_n 0, 1) := by decide +kernel
theorem dX5_init_5 : decode cX5_init 5 = .ok (.iconst 4, 1) := by decide +kernel
theorem dX5_init_6 : decode cX5_init 6 = .ok (.anewarray 9, 3) := by decide +kernel
theorem dX5_init_9 : decode cX5_init 9 = .ok (.putfield 11, 3) := by decide +kernel
theorem dX5_init_12 : decode cX5_init 12 = .ok (.iconst 0, 1) := by decide +kernel
theorem dX5_init_13 : decode cX5_init 13 = .ok (.istore_n 1, 1) := by decide +kernel
theorem dX5_init_14 : decode cX5_init 14 = .ok (.iload_n 1, 1) := by decide +kernel
theorem dX5_init_15 : decode cX5_init 15 = .ok (.iconst 4, 1) := by decide +kernel
theorem dX5_init_16 : decode cX5_init 16 = .ok (.if_icmp .ge 22, 3) := by decide +kernel
theorem dX5_init_19 : decode cX5_init 19 = .ok (.aload_n 0, 1) := by decide +kernel
theorem dX5_init_20 : decode cX5_init 20 = .ok (.getfield 11, 3) := by decide +kernel
theorem dX5_init_23 : decode cX5_init 23 = .ok (.iload_n 1, 1) := by decide +kernel
theorem dX5_init_24 : decode cX5_init 24 = .ok (.new 9, 3) := by decide +kernel
theorem dX5_init_27 : decode cX5_init 27 = .ok (.dup, 1) := by decide +kernel
theorem dX5_init_28 : decode cX5_init 28 = .ok (.invokespecial 17, 3) := by decide +kernel
theorem dX5_init_31 : decode cX5_init 31 = .ok (.aastore, 1) := by decide +kernel
theorem dX5_init_32 : decode cX5_init 32 = .ok (.iinc 1 1, 3) := by decide +kernel
theorem dX5_init_35 : decode cX5_init 35 = .ok (.goto (-21), 3) := by decide +kernel
theorem dX5_init_38 : decode cX5_init 38 = .ok (.return_, 1) := by decide +kernel
theorem dX5_keep_0 : decode cX5_keep 0 = .ok (.aload_n 0, 1) := by decide +kernel
theorem dX5_keep_1 : decode cX5_keep 1 = .ok (.getfield 11, 3) := by decide +kernel
theorem dX5_keep_4 : decode cX5_keep 4 = .ok (.aload_n 0, 1) := by decide +kernel
theorem dX5_keep_5 : decode cX5_keep 5 = .ok (.getfield 18, 3) := by decide +kernel
theorem dX5_keep_8 : decode cX5_keep 8 = .ok (.aaload, 1) := by decide +kernel
theorem dX5_keep_9 : decode cX5_keep 9 = .ok (.aload_n 1, 1) := by decide +kernel
theorem dX5_keep_10 : decode cX5_keep 10 = .ok (.invokevirtual 22, 3) := by decide +kernel
theorem dX5_keep_13 : decode cX5_keep 13 = .ok (.aload_n 0, 1) := by decide +kernel
theorem dX5_keep_14 : decode cX5_keep 14 = .ok (.aload_n 0, 1) := by decide +kernel
theorem dX5_keep_15 : decode cX5_keep 15 = .ok (.getfield 18, 3) := by decide +kernel
theorem dX5_keep_18 : decode cX5_keep 18 = .ok (.iconst 1, 1) := by decide +kernel
theorem dX5_keep_19 : decode cX5_keep 19 = .ok (.iadd, 1) := by decide +kernel
theorem dX5_keep_20 : decode cX5_keep 20 = .ok (.iconst 4, 1) := by decide +kernel
theorem dX5_keep_21 : decode cX5_keep 21 = .ok (.irem, 1) := by decide +kernel
theorem dX5_keep_22 : decode cX5_keep 22 = .ok (.putfield 18, 3) := by decide +kernel
theorem dX5_keep_25 : decode cX5_keep 25 = .ok (.aload_n 0, 1) := by decide +kernel
theorem dX5_keep_26 : decode cX5_keep 26 = .ok (.aload_n 0, 1) := by decide +kernel
theorem dX5_keep_27 : decode cX5_keep 27 = .ok (.getfield 26, 3) := by decide +kernel
theorem dX5_keep_30 : decode cX5_keep 30 = .ok (.iconst 1, 1) := by decide +kernel
theorem dX5_keep_31 : decode cX5_keep 31 = .ok (.iadd, 1) := by decide +kernel
theorem dX5_keep_32 : decode cX5_keep 32 = .ok (.iconst 4, 1) := by decide +kernel
theorem dX5_keep_33 : decode cX5_keep 33 = .ok (.invokestatic 29, 3) := by decide +kernel
theorem dX5_keep_36 : decode cX5_keep 36 = .ok (.putfield 26, 3) := by decide +kernel
theorem dX5_keep_39 : decode cX5_keep 39 = .ok (.return_, 1) := by decide +kernel
theorem dX5_restoreTo_0 : decode cX5_restoreTo 0 = .ok (.aload_n 0, 1) := by decide +kernel
theorem dX5_restoreTo_1 : decode cX5_restoreTo 1 = .ok (.aload_n 0, 1) := by decide +kernel
theorem dX5_restoreTo_2 : decode cX5_restoreTo 2 = .ok (.getfield 18, 3) := by decide +kernel
theorem dX5_restoreTo_5 : decode cX5_restoreTo 5 = .ok (.iconst 4, 1) := by decide +kernel
theorem dX5_restoreTo_6 : decode cX5_restoreTo 6 = .ok (.iadd, 1) := by decide +kernel
theorem dX5_restoreTo_7 : decode cX5_restoreTo 7 = .ok (.iconst 1, 1) := by decide +kernel
theorem dX5_restoreTo_8 : decode cX5_restoreTo 8 = .ok (.isub, 1) := by decide +kernel
theorem dX5_restoreTo_9 : decode cX5_restoreTo 9 = .ok (.iconst 4, 1) := by decide +kernel
theorem dX5_restoreTo_10 : decode cX5_restoreTo 10 = .ok (.irem, 1) := by decide +kernel
theorem dX5_restoreTo_11 : decode cX5_restoreTo 11 = .ok (.putfield 18, 3) := by decide +kernel
theorem dX5_restoreTo_14 : decode cX5_restoreTo 14 = .ok (.aload_n 1, 1) := by decide +kernel
theorem dX5_restoreTo_15 : decode cX5_restoreTo 15 = .ok (.aload_n 0, 1) := by decide +kernel
theorem dX5_restoreTo_16 : decode cX5_restoreTo 16 = .ok (.getfield 11, 3) := by decide +kernel
theorem dX5_restoreTo_19 : decode cX5_restoreTo 19 = .ok (.aload_n 0, 1) := by decide +kernel
theorem dX5_restoreTo_20 : decode cX5_restoreTo 20 = .ok (.getfield 18, 3) := by decide +kernel
theorem dX5_restoreTo_23 : decode cX5_restoreTo 23 = .ok (.aaload, 1) := by decide +kernel
theorem dX5_restoreTo_24 : decode cX5_restoreTo 24 = .ok (.invokevirtual 22, 3) := by decide +kernel
theorem dX5_restoreTo_27 : decode cX5_restoreTo 27 = .ok (.aload_n 0, 1) := by decide +kernel
theorem dX5_restoreTo_28 : decode cX5_restoreTo 28 = .ok (.dup, 1) := by decide +kernel
theorem dX5_restoreTo_29 : decode cX5_restoreTo 29 = .ok (.getfield 26, 3) := by decide +kernel
theorem dX5_restoreTo_32 : decode cX5_restoreTo 32 = .ok (.iconst 1, 1) := by decide +kernel
theorem dX5_restoreTo_33 : decode cX5_restoreTo 33 = .ok (.isub, 1) := by decide +kernel
theorem dX5_restoreTo_34 : decode cX5_restoreTo 34 = .ok (.putfield 26, 3) := by decide +kernel
theorem dX5_restoreTo_37 : decode cX5_restoreTo 37 = .ok (.aload_n 0, 1) := by decide +kernel
theorem dX5_restoreTo_38 : decode cX5_restoreTo 38 = .ok (.getfield 26, 3) := by decide +kernel
theorem dX5_restoreTo_41 : decode cX5_restoreTo 41 = .ok (.ireturn, 1) := by decide +kernel
theorem dX6_init_0 : decode cX6_init 0 = .ok (.aload_n 0, 1) := by decide +kernel
theorem dX6_init_1 : decode cX6_init 1 = .ok (.invokespecial 3, 3) := by decide +kernel
theorem dX6_init_4 : decode cX6_init 4 = .ok (.aload_n 0, 1) := by decide +kernel
theorem dX6_init_5 : decode cX6_init 5 = .ok (.iconst 4, 1) := by decide +kernel
theorem dX6_init_6 : decode cX6_init 6 = .ok (.newarray .int, 2) := by decide +kernel
theorem dX6_init_8 : decode cX6_init 8 = .ok (.dup, 1) := by decide +kernel
theorem dX6_init_9 : decode cX6_init 9 = .ok (.iconst 0, 1) := by decide +kernel
theorem dX6_init_10 : decode cX6_init 10 = .ok (.iconst 3, 1) := by decide +kernel
theorem dX6_init_11 : decode cX6_init 11 = .ok (.iastore, 1) := by decide +kernel
theorem dX6_init_12 : decode cX6_init 12 = .ok (.dup, 1) := by decide +kernel
theorem dX6_init_13 : decode cX6_init 13 = .ok (.iconst 1, 1) := by decide +kernel
theorem dX6_init_14 : decode cX6_init 14 = .ok (.iconst 2, 1) := by decide +kernel
theorem dX6_init_15 : decode cX6_init 15 = .ok (.iastore, 1) := by decide +kernel
theorem dX6_init_16 : decode cX6_init 16 = .ok (.dup, 1) := by decide +kernel
theorem dX6_init_17 : decode cX6_init 17 = .ok (.iconst 2, 1) := by decide +kernel
theorem dX6_init_18 : decode cX6_init 18 = .ok (.iconst 2, 1) := by decide +kernel
theorem dX6_init_19 : decode cX6_init 19 = .ok (.iastore, 1) := by decide +kernel
theorem dX6_init_20 : decode cX6_init 20 = .ok (.dup, 1) := by decide +kernel
theorem dX6_init_21 : decode cX6_init 21 = .ok (.iconst 3, 1) := by decide +kernel
theorem dX6_init_22 : decode cX6_init 22 = .ok (.bipush 8, 2) := by decide +kernel
theorem dX6_init_24 : decode cX6_init 24 = .ok (.iastore, 1) := by decide +kernel
theorem dX6_init_25 : decode cX6_init 25 = .ok (.putfield 9, 3) := by decide +kernel
theorem dX6_init_28 : decode cX6_init 28 = .ok (.aload_n 0, 1) := by decide +kernel
theorem dX6_init_29 : decode cX6_init 29 = .ok (.bipush 8, 2) := by decide +kernel
theorem dX6_init_31 : decode cX6_init 31 = .ok (.anewarray 15, 3) := by decide +kernel
theorem dX6_init_34 : decode cX6_init 34 = .ok (.putfield 17, 3) := by decide +kernel
theorem dX6_init_37 : decode cX6_init 37 = .ok (.aload_n 0, 1) := by decide +kernel
theorem dX6_init_38 : decode cX6_init 38 = .ok (.new 21, 3) := by decide +kernel
theorem dX6_init_41 : decode cX6_init 41 = .ok (.dup, 1) := by decide +kernel
theorem dX6_init_42 : decode cX6_init 42 = .ok (.invokespecial 23, 3) := by decide +kernel
theorem dX6_init_45 : decode cX6_init 45 = .ok (.putfield 24, 3) := by decide +kernel
theorem dX6_init_48 : decode cX6_init 48 = .ok (.aload_n 0, 1) := by decide +kernel
theorem dX6_init_49 : decode cX6_init 49 = .ok (.bipush 16, 2) := by decide +kernel
theorem dX6_init_51 : decode cX6_init 51 = .ok (.newarray .int, 2) := by decide +kernel
theorem dX6_init_53 : decode cX6_init 53 = .ok (.putfield 28, 3) := by decide +kernel
theorem dX6_init_56 : decode cX6_init 56 = .ok (.aload_n 0, 1) := by decide +kernel
theorem dX6_init_57 : decode cX6_init 57 = .ok (.bipush 16, 2) := by decide +kernel
theorem dX6_init_59 : decode cX6_init 59 = .ok (.newarray .int, 2) := by decide +kernel
theorem dX6_init_61 : decode cX6_init 61 = .ok (.putfield 31, 3) := by decide +kernel
theorem dX6_init_64 : decode cX6_init 64 = .ok (.iconst 0, 1) := by decide +kernel
theorem dX6_init_65 : decode cX6_init 65 = .ok (.istore_n 1, 1) := by decide +kernel
theorem dX6_init_66 : decode cX6_init 66 = .ok (.iload_n 1, 1) := by decide +kernel
theorem dX6_init_67 : decode cX6_init 67 = .ok (.bipush 8, 2) := by decide +kernel
theorem dX6_init_69 : decode cX6_init 69 = .ok (.if_icmp .ge 22, 3) := by decide +kernel
theorem dX6_init_72 : decode cX6_init 72 = .ok (.aload_n 0, 1) := by decide +kernel
theorem dX6_init_73 : decode cX6_init 73 = .ok (.getfield 17, 3) := by decide +kernel
theorem dX6_init_76 : decode cX6_init 76 = .ok (.iload_n 1, 1) := by decide +kernel
theorem dX6_init_77 : decode cX6_init 77 = .ok (.new 15, 3) := by decide +kernel
theorem dX6_init_80 : decode cX6_init 80 = .ok (.dup, 1) := by decide +kernel
theorem dX6_init_81 : decode cX6_init 81 = .ok (.invokespecial 34, 3) := by decide +kernel
theorem dX6_init_84 : decode cX6_init 84 = .ok (.aastore, 1) := by decide +kernel
theorem dX6_init_85 : decode cX6_init 85 = .ok (.iinc 1 1, 3) := by decide +kernel
theorem dX6_init_88 : decode cX6_init 88 = .ok (.goto (-22), 3) := by decide +kernel
theorem dX6_init_91 : decode cX6_init 91 = .ok (.return_, 1) := by decide +kernel
theorem dX6_copyFrom_0 : decode cX6_copyFrom 0 = .ok (.aload_n 1, 1) := by decide +kernel
theorem dX6_copyFrom_1 : decode cX6_copyFrom 1 = .ok (.getfield 9, 3) := by decide +kernel
theorem dX6_copyFrom_4 : decode cX6_copyFrom 4 = .ok (.iconst 0, 1) := by decide +kernel
theorem dX6_copyFrom_5 : decode cX6_copyFrom 5 = .ok (.aload_n 0, 1) := by decide +kernel
theorem dX6_copyFrom_6 : decode cX6_copyFrom 6 = .ok (.getfield 9, 3) := by decide +kernel
theorem dX6_copyFrom_9 : decode cX6_copyFrom 9 = .ok (.iconst 0, 1) := by decide +kernel
theorem dX6_copyFrom_10 : decode cX6_copyFrom 10 = .ok (.iconst 4, 1) := by decide +kernel
theorem dX6_copyFrom_11 : decode cX6_copyFrom 11 = .ok (.invokestatic 35, 3) := by decide +kernel
theorem dX6_copyFrom_14 : decode cX6_copyFrom 14 = .ok (.iconst 0, 1) := by decide +kernel
theorem dX6_copyFrom_15 : decode cX6_copyFrom 15 = .ok (.istore_n 2, 1) := by decide +kernel
theorem dX6_copyFrom_16 : decode cX6_copyFrom 16 = .ok (.iload_n 2, 1) := by decide +kernel
theorem dX6_copyFrom_17 : decode cX6_copyFrom 17 = .ok (.bipush 8, 2) := by decide +kernel
theorem dX6_copyFrom_19 : decode cX6_copyFrom 19 = .ok (.if_icmp .ge 24, 3) := by decide +kernel
theorem dX6_copyFrom_22 : decode cX6_copyFrom 22 = .ok (.aload_n 0, 1) := by decide +kernel
theorem dX6_copyFrom_23 : decode cX6_copyFrom 23 = .ok (.getfield 17, 3) := by decide +kernel
theorem dX6_copyFrom_26 : decode cX6_copyFrom 26 = .ok (.iload_n 2, 1) := by decide +kernel
theorem dX6_copyFrom_27 : decode cX6_copyFrom 27 = .ok (.aaload, 1) := by decide +kernel
theorem dX6_copyFrom_28 : decode cX6_copyFrom 28 = .ok (.aload_n 1, 1) := by decide +kernel
theorem dX6_copyFrom_29 : decode cX6_copyFrom 29 = .ok (.getfield 17, 3) := by decide +kernel
theorem dX6_copyFrom_32 : decode cX6_copyFrom 32 = .ok (.iload_n 2, 1) := by decide +kernel
theorem dX6_copyFrom_33 : decode cX6_copyFrom 33 = .ok (.aaload, 1) := by decide +kernel
theorem dX6_copyFrom_34 : decode cX6_copyFrom 34 = .ok (.invokevirtual 41, 3) := by decide +kernel
theorem dX6_copyFrom_37 : decode cX6_copyFrom 37 = .ok (.iinc 2 1, 3) := by decide +kernel
theorem dX6_copyFrom_40 : decode cX6_copyFrom 40 = .ok (.goto (-24), 3) := by decide +kernel
theorem dX6_copyFrom_43 : decode cX6_copyFrom 43 = .ok (.aload_n 0, 1) := by decide +kernel
theorem dX6_copyFrom_44 : decode cX6_copyFrom 44 = .ok (.getfield 24, 3) := by decide +kernel
theorem dX6_copyFrom_47 : decode cX6_copyFrom 47 = .ok (.aload_n 1, 1) := by decide +kernel
theorem dX6_copyFrom_48 : decode cX6_copyFrom 48 = .ok (.getfield 24, 3) := by decide +kernel
theorem dX6_copyFrom_51 : decode cX6_copyFrom 51 = .ok (.invokevirtual 45, 3) := by decide +kernel
theorem dX6_copyFrom_54 : decode cX6_copyFrom 54 = .ok (.aload_n 1, 1) := by decide +kernel
theorem dX6_copyFrom_55 : decode cX6_copyFrom 55 = .ok (.getfield 28, 3) := by decide +kernel
theorem dX6_copyFrom_58 : decode cX6_copyFrom 58 = .ok (.iconst 0, 1) := by decide +kernel
theorem dX6_copyFrom_59 : decode cX6_copyFrom 59 = .ok (.aload_n 0, 1) := by decide +kernel
theorem dX6_copyFrom_60 : decode cX6_copyFrom 60 = .ok (.getfield 28, 3) := by decide +kernel
theorem dX6_copyFrom_63 : decode cX6_copyFrom 63 = .ok (.iconst 0, 1) := by decide +kernel
theorem dX6_copyFrom_64 : decode cX6_copyFrom 64 = .ok (.bipush 16, 2) := by decide +kernel
theorem dX6_copyFrom_66 : decode cX6_copyFrom 66 = .ok (.invokestatic 35, 3) := by decide +kernel
theorem dX6_copyFrom_69 : decode cX6_copyFrom 69 = .ok (.aload_n 0, 1) := by decide +kernel
theorem dX6_copyFrom_70 : decode cX6_copyFrom 70 = .ok (.aload_n 1, 1) := by decide +kernel
theorem dX6_copyFrom_71 : decode cX6_copyFrom 71 = .ok (.getfield 48, 3) := by decide +kernel
theorem dX6_copyFrom_74 : decode cX6_copyFrom 74 = .ok (.putfield 48, 3) := by decide +kernel
theorem dX6_copyFrom_77 : decode cX6_copyFrom 77 = .ok (.aload_n 0, 1) := by decide +kernel
theorem dX6_copyFrom_78 : decode cX6_copyFrom 78 = .ok (.aload_n 1, 1) := by decide +kernel
theorem dX6_copyFrom_79 : decode cX6_copyFrom 79 = .ok (.getfield 52, 3) := by decide +kernel
theorem dX6_copyFrom_82 : decode cX6_copyFrom 82 = .ok (.putfield 52, 3) := by decide +kernel
theorem dX6_copyFrom_85 : decode cX6_copyFrom 85 = .ok (.return_, 1) := by decide +kernel
theorem dX6_isSubscriber_0 : decode cX6_isSubscriber 0 = .ok (.iload_n 1, 1) := by decide +kernel
theorem dX6_isSubscriber_1 : decode cX6_isSubscriber 1 = .ok (.aload_n 0, 1) := by decide +kernel
theorem dX6_isSubscriber_2 : decode cX6_isSubscriber 2 = .ok (.getfield 48, 3) := by decide +kernel
theorem dX6_isSubscriber_5 : decode cX6_isSubscriber 5 = .ok (.invokestatic 55, 3) := by decide +kernel
theorem dX6_isSubscriber_8 : decode cX6_isSubscriber 8 = .ok (.ireturn, 1) := by decide +kernel
theorem dX6_against_0 : decode cX6_against 0 = .ok (.iload_n 1, 1) := by decide +kernel
theorem dX6_against_1 : decode cX6_against 1 = .ok (.tableswitch 106 0 7 #[47, 56, 63, 69, 77, 86, 93, 99], 47) := by decide +kernel
theorem dX6_against_48 : decode cX6_against 48 = .ok (.aload_n 0, 1) := by decide +kernel
theorem dX6_against_49 : decode cX6_against 49 = .ok (.iload_n 2, 1) := by decide +kernel
theorem dX6_against_50 : decode cX6_against 50 = .ok (.iload_n 3, 1) := by decide +kernel
theorem dX6_against_51 : decode cX6_against 51 = .ok (.iload 4, 2) := by decide +kernel
theorem dX6_against_53 : decode cX6_against 53 = .ok (.invokevirtual 59, 3) := by decide +kernel
theorem dX6_against_56 : decode cX6_against 56 = .ok (.ireturn, 1) := by decide +kernel
theorem dX6_against_57 : decode cX6_against 57 = .ok (.aload_n 0, 1) := by decide +kernel
theorem dX6_against_58 : decode cX6_against 58 = .ok (.iload_n 2, 1) := by decide +kernel
theorem dX6_against_59 : decode cX6_against 59 = .ok (.iload_n 3, 1) := by decide +kernel
theorem dX6_against_60 : decode cX6_against 60 = .ok (.invokevirtual 63, 3) := by decide +kernel
theorem dX6_against_63 : decode cX6_against 63 = .ok (.ireturn, 1) := by decide +kernel
theorem dX6_against_64 : decode cX6_against 64 = .ok (.aload_n 0, 1) := by decide +kernel
theorem dX6_against_65 : decode cX6_against 65 = .ok (.iload_n 2, 1) := by decide +kernel
theorem dX6_against_66 : decode cX6_against 66 = .ok (.invokevirtual 67, 3) := by decide +kernel
theorem dX6_against_69 : decode cX6_against 69 = .ok (.ireturn, 1) := by decide +kernel
theorem dX6_against_70 : decode cX6_against 70 = .ok (.aload_n 0, 1) := by decide +kernel
theorem dX6_against_71 : decode cX6_against 71 = .ok (.iload_n 2, 1) := by decide +kernel
theorem dX6_against_72 : decode cX6_against 72 = .ok (.iload_n 3, 1) := by decide +kernel
theorem dX6_against_73 : decode cX6_against 73 = .ok (.iconst 0, 1) := by decide +kernel
theorem dX6_against_74 : decode cX6_against 74 = .ok (.invokevirtual 71, 3) := by decide +kernel
theorem dX6_against_77 : decode cX6_against 77 = .ok (.ireturn, 1) := by decide +kernel
theorem dX6_against_78 : decode cX6_against 78 = .ok (.aload_n 0, 1) := by decide +kernel
theorem dX6_against_79 : decode cX6_against 79 = .ok (.iload_n 2, 1) := by decide +kernel
theorem dX6_against_80 : decode cX6_against 80 = .ok (.iload_n 3, 1) := by decide +kernel
theorem dX6_against_81 : decode cX6_against 81 = .ok (.iload 4, 2) := by decide +kernel
theorem dX6_against_83 : decode cX6_against 83 = .ok (.invokevirtual 71, 3) := by decide +kernel
theorem dX6_against_86 : decode cX6_against 86 = .ok (.ireturn, 1) := by decide +kernel
theorem dX6_against_87 : decode cX6_against 87 = .ok (.aload_n 0, 1) := by decide +kernel
theorem dX6_against_88 : decode cX6_against 88 = .ok (.iload_n 2, 1) := by decide +kernel
theorem dX6_against_89 : decode cX6_against 89 = .ok (.iload_n 3, 1) := by decide +kernel
theorem dX6_against_90 : decode cX6_against 90 = .ok (.invokevirtual 74, 3) := by decide +kernel
theorem dX6_against_93 : decode cX6_against 93 = .ok (.ireturn, 1) := by decide +kernel
theorem dX6_against_94 : decode cX6_against 94 = .ok (.aload_n 0, 1) := by decide +kernel
theorem dX6_against_95 : decode cX6_against 95 = .ok (.iload_n 2, 1) := by decide +kernel
theorem dX6_against_96 : decode cX6_against 96 = .ok (.invokevirtual 77, 3) := by decide +kernel
theorem dX6_against_99 : decode cX6_against 99 = .ok (.ireturn, 1) := by decide +kernel
theorem dX6_against_100 : decode cX6_against 100 = .ok (.aload_n 0, 1) := by decide +kernel
theorem dX6_against_101 : decode cX6_against 101 = .ok (.iload_n 2, 1) := by decide +kernel
theorem dX6_against_102 : decode cX6_against 102 = .ok (.iload_n 3, 1) := by decide +kernel
theorem dX6_against_103 : decode cX6_against 103 = .ok (.invokevirtual 80, 3) := by decide +kernel
theorem dX6_against_106 : decode cX6_against 106 = .ok (.ireturn, 1) := by decide +kernel
theorem dX6_against_107 : decode cX6_against 107 = .ok (.iconst 2, 1) := by decide +kernel
theorem dX6_against_108 : decode cX6_against 108 = .ok (.ireturn, 1) := by decide +kernel
theorem dX6_perform_0 : decode cX6_perform 0 = .ok (.iload_n 1, 1) := by decide +kernel
theorem dX6_perform_1 : decode cX6_perform 1 = .ok (.tableswitch 126 0 7 #[47, 56, 71, 85, 93, 102, 109, 115], 47) := by decide +kernel
theorem dX6_perform_48 : decode cX6_perform 48 = .ok (.aload_n 0, 1) := by decide +kernel
theorem dX6_perform_49 : decode cX6_perform 49 = .ok (.iload_n 2, 1) := by decide +kernel
theorem dX6_perform_50 : decode cX6_perform 50 = .ok (.iload_n 3, 1) := by decide +kernel
theorem dX6_perform_51 : decode cX6_perform 51 = .ok (.iload 4, 2) := by decide +kernel
theorem dX6_perform_53 : decode cX6_perform 53 = .ok (.invokevirtual 83, 3) := by decide +kernel
theorem dX6_perform_56 : decode cX6_perform 56 = .ok (.ireturn, 1) := by decide +kernel
theorem dX6_perform_57 : decode cX6_perform 57 = .ok (.aload_n 0, 1) := by decide +kernel
theorem dX6_perform_58 : decode cX6_perform 58 = .ok (.getfield 17, 3) := by decide +kernel
theorem dX6_perform_61 : decode cX6_perform 61 = .ok (.iload_n 2, 1) := by decide +kernel
theorem dX6_perform_62 : decode cX6_perform 62 = .ok (.aaload, 1) := by decide +kernel
theorem dX6_perform_63 : decode cX6_perform 63 = .ok (.iload_n 3, 1) := by decide +kernel
theorem dX6_perform_64 : decode cX6_perform 64 = .ok (.aload_n 0, 1) := by decide +kernel
theorem dX6_perform_65 : decode cX6_perform 65 = .ok (.getfield 52, 3) := by decide +kernel
theorem dX6_perform_68 : decode cX6_perform 68 = .ok (.invokevirtual 86, 3) := by decide +kernel
theorem dX6_perform_71 : decode cX6_perform 71 = .ok (.ireturn, 1) := by decide +kernel
theorem dX6_perform_72 : decode cX6_perform 72 = .ok (.aload_n 0, 1) := by decide +kernel
theorem dX6_perform_73 : decode cX6_perform 73 = .ok (.getfield 17, 3) := by decide +kernel
theorem dX6_perform_76 : decode cX6_perform 76 = .ok (.iload_n 2, 1) := by decide +kernel
theorem dX6_perform_77 : decode cX6_perform 77 = .ok (.aaload, 1) := by decide +kernel
theorem dX6_perform_78 : decode cX6_perform 78 = .ok (.aload_n 0, 1) := by decide +kernel
theorem dX6_perform_79 : decode cX6_perform 79 = .ok (.getfield 52, 3) := by decide +kernel
theorem dX6_perform_82 : decode cX6_perform 82 = .ok (.invokevirtual 89, 3) := by decide +kernel
theorem dX6_perform_85 : decode cX6_perform 85 = .ok (.ireturn, 1) := by decide +kernel
theorem dX6_perform_86 : decode cX6_perform 86 = .ok (.aload_n 0, 1) := by decide +kernel
theorem dX6_perform_87 : decode cX6_perform 87 = .ok (.iload_n 2, 1) := by decide +kernel
theorem dX6_perform_88 : decode cX6_perform 88 = .ok (.iload_n 3, 1) := by decide +kernel
theorem dX6_perform_89 : decode cX6_perform 89 = .ok (.iconst 0, 1) := by decide +kernel
theorem dX6_perform_90 : decode cX6_perform 90 = .ok (.invokevirtual 92, 3) := by decide +kernel
theorem dX6_perform_93 : decode cX6_perform 93 = .ok (.ireturn, 1) := by decide +kernel
theorem dX6_perform_94 : decode cX6_perform 94 = .ok (.aload_n 0, 1) := by decide +kernel
theorem dX6_perform_95 : decode cX6_perform 95 = .ok (.iload_n 2, 1) := by decide +kernel
theorem dX6_perform_96 : decode cX6_perform 96 = .ok (.iload_n 3, 1) := by decide +kernel
theorem dX6_perform_97 : decode cX6_perform 97 = .ok (.iload 4, 2) := by decide +kernel
theorem dX6_perform_99 : decode cX6_perform 99 = .ok (.invokevirtual 92, 3) := by decide +kernel
theorem dX6_perform_102 : decode cX6_perform 102 = .ok (.ireturn, 1) := by decide +kernel
theorem dX6_perform_103 : decode cX6_perform 103 = .ok (.aload_n 0, 1) := by decide +kernel
theorem dX6_perform_104 : decode cX6_perform 104 = .ok (.iload_n 2, 1) := by decide +kernel
theorem dX6_perform_105 : decode cX6_perform 105 = .ok (.iload_n 3, 1) := by decide +kernel
theorem dX6_perform_106 : decode cX6_perform 106 = .ok (.invokevirtual 95, 3) := by decide +kernel
theorem dX6_perform_109 : decode cX6_perform 109 = .ok (.ireturn, 1) := by decide +kernel
theorem dX6_perform_110 : decode cX6_perform 110 = .ok (.aload_n 0, 1) := by decide +kernel
theorem dX6_perform_111 : decode cX6_perform 111 = .ok (.iload_n 2, 1) := by decide +kernel
theorem dX6_perform_112 : decode cX6_perform 112 = .ok (.invokevirtual 98, 3) := by decide +kernel
theorem dX6_perform_115 : decode cX6_perform 115 = .ok (.ireturn, 1) := by decide +kernel
theorem dX6_perform_116 : decode cX6_perform 116 = .ok (.aload_n 0, 1) := by decide +kernel
theorem dX6_perform_117 : decode cX6_perform 117 = .ok (.getfield 17, 3) := by decide +kernel
theorem dX6_perform_120 : decode cX6_perform 120 = .ok (.iload_n 2, 1) := by decide +kernel
theorem dX6_perform_121 : decode cX6_perform 121 = .ok (.aaload, 1) := by decide +kernel
theorem dX6_perform_122 : decode cX6_perform 122 = .ok (.iload_n 3, 1) := by decide +kernel
theorem dX6_perform_123 : decode cX6_perform 123 = .ok (.invokevirtual 101, 3) := by decide +kernel
theorem dX6_perform_126 : decode cX6_perform 126 = .ok (.ireturn, 1) := by decide +kernel
theorem dX6_perform_127 : decode cX6_perform 127 = .ok (.iconst (-1), 1) := by decide +kernel
theorem dX6_perform_128 : decode cX6_perform 128 = .ok (.ireturn, 1) := by decide +kernel
theorem dX6_againstJoining_0 : decode cX6_againstJoining 0 = .ok (.iload_n 3, 1) := by decide +kernel
theorem dX6_againstJoining_1 : decode cX6_againstJoining 1 = .ok (.bipush 16, 2) := by decide +kernel
theorem dX6_againstJoining_3 : decode cX6_againstJoining 3 = .ok (.invokestatic 55, 3) := by decide +kernel
theorem dX6_againstJoining_6 : decode cX6_againstJoining 6 = .ok (.ifCond .ne 5, 3) := by decide +kernel
theorem dX6_againstJoining_9 : decode cX6_againstJoining 9 = .ok (.iconst 1, 1) := by decide +kernel
theorem dX6_againstJoining_10 : decode cX6_againstJoining 10 = .ok (.ireturn, 1) := by decide +kernel
theorem dX6_againstJoining_11 : decode cX6_againstJoining 11 = .ok (.iload_n 1, 1) := by decide +kernel
theorem dX6_againstJoining_12 : decode cX6_againstJoining 12 = .ok (.iconst 3, 1) := by decide +kernel
theorem dX6_againstJoining_13 : decode cX6_againstJoining 13 = .ok (.invokestatic 55, 3) := by decide +kernel
theorem dX6_againstJoining_16 : decode cX6_againstJoining 16 = .ok (.ifCond .eq 11, 3) := by decide +kernel
theorem dX6_againstJoining_19 : decode cX6_againstJoining 19 = .ok (.iload_n 2, 1) := by decide +kernel
theorem dX6_againstJoining_20 : decode cX6_againstJoining 20 = .ok (.iconst 3, 1) := by decide +kernel
theorem dX6_againstJoining_21 : decode cX6_againstJoining 21 = .ok (.invokestatic 55, 3) := by decide +kernel
theorem dX6_againstJoining_24 : decode cX6_againstJoining 24 = .ok (.ifCond .ne 5, 3) := by decide +kernel
theorem dX6_againstJoining_27 : decode cX6_againstJoining 27 = .ok (.iconst 2, 1) := by decide +kernel
theorem dX6_againstJoining_28 : decode cX6_againstJoining 28 = .ok (.ireturn, 1) := by decide +kernel
theorem dX6_againstJoining_29 : decode cX6_againstJoining 29 = .ok (.aload_n 0, 1) := by decide +kernel
theorem dX6_againstJoining_30 : decode cX6_againstJoining 30 = .ok (.getfield 48, 3) := by decide +kernel
theorem dX6_againstJoining_33 : decode cX6_againstJoining 33 = .ok (.bipush 8, 2) := by decide +kernel
theorem dX6_againstJoining_35 : decode cX6_againstJoining 35 = .ok (.if_icmp .ge 7, 3) := by decide +kernel
theorem dX6_againstJoining_38 : decode cX6_againstJoining 38 = .ok (.iconst 0, 1) := by decide +kernel
theorem dX6_againstJoining_39 : decode cX6_againstJoining 39 = .ok (.goto 4, 3) := by decide +kernel
theorem dX6_againstJoining_42 : decode cX6_againstJoining 42 = .ok (.iconst 3, 1) := by decide +kernel
theorem dX6_againstJoining_43 : decode cX6_againstJoining 43 = .ok (.ireturn, 1) := by decide +kernel
theorem dX6_join_0 : decode cX6_join 0 = .ok (.aload_n 0, 1) := by decide +kernel
theorem dX6_join_1 : decode cX6_join 1 = .ok (.getfield 48, 3) := by decide +kernel
theorem dX6_join_4 : decode cX6_join 4 = .ok (.istore 4, 2) := by decide +kernel
theorem dX6_join_6 : decode cX6_join 6 = .ok (.aload_n 0, 1) := by decide +kernel
theorem dX6_join_7 : decode cX6_join 7 = .ok (.getfield 17, 3) := by decide +kernel
theorem dX6_join_10 : decode cX6_join 10 = .ok (.iload 4, 2) := by decide +kernel
theorem dX6_join_12 : decode cX6_join 12 = .ok (.aaload, 1) := by decide +kernel
theorem dX6_join_13 : decode cX6_join 13 = .ok (.iload_n 1, 1) := by decide +kernel
theorem dX6_join_14 : decode cX6_join 14 = .ok (.iload_n 2, 1) := by decide +kernel
theorem dX6_join_15 : decode cX6_join 15 = .ok (.iload_n 3, 1) := by decide +kernel
theorem dX6_join_16 : decode cX6_join 16 = .ok (.aload_n 0, 1) := by decide +kernel
theorem dX6_join_17 : decode cX6_join 17 = .ok (.getfield 52, 3) := by decide +kernel
theorem dX6_join_20 : decode cX6_join 20 = .ok (.invokevirtual 104, 3) := by decide +kernel
theorem dX6_join_23 : decode cX6_join 23 = .ok (.aload_n 0, 1) := by decide +kernel
theorem dX6_join_24 : decode cX6_join 24 = .ok (.dup, 1) := by decide +kernel
theorem dX6_join_25 : decode cX6_join 25 = .ok (.getfield 48, 3) := by decide +kernel
theorem dX6_join_28 : decode cX6_join 28 = .ok (.iconst 1, 1) := by decide +kernel
theorem dX6_join_29 : decode cX6_join 29 = .ok (.iadd, 1) := by decide +kernel
theorem dX6_join_30 : decode cX6_join 30 = .ok (.putfield 48, 3) := by decide +kernel
theorem dX6_join_33 : decode cX6_join 33 = .ok (.iload 4, 2) := by decide +kernel
theorem dX6_join_35 : decode cX6_join 35 = .ok (.ireturn, 1) := by decide +kernel
theorem dX6_againstMoving_0 : decode cX6_againstMoving 0 = .ok (.aload_n 0, 1) := by decide +kernel
theorem dX6_againstMoving_1 : decode cX6_againstMoving 1 = .ok (.iload_n 1, 1) := by decide +kernel
theorem dX6_againstMoving_2 : decode cX6_againstMoving 2 = .ok (.invokevirtual 108, 3) := by decide +kernel
theorem dX6_againstMoving_5 : decode cX6_againstMoving 5 = .ok (.ifCond .eq 12, 3) := by decide +kernel
theorem dX6_againstMoving_8 : decode cX6_againstMoving 8 = .ok (.iload_n 2, 1) := by decide +kernel
theorem dX6_againstMoving_9 : decode cX6_againstMoving 9 = .ok (.bipush 16, 2) := by decide +kernel
theorem dX6_againstMoving_11 : decode cX6_againstMoving 11 = .ok (.invokestatic 55, 3) := by decide +kernel
theorem dX6_againstMoving_14 : decode cX6_againstMoving 14 = .ok (.ifCond .ne 5, 3) := by decide +kernel
theorem dX6_againstMoving_17 : decode cX6_againstMoving 17 = .ok (.iconst 1, 1) := by decide +kernel
theorem dX6_againstMoving_18 : decode cX6_againstMoving 18 = .ok (.ireturn, 1) := by decide +kernel
theorem dX6_againstMoving_19 : decode cX6_againstMoving 19 = .ok (.aload_n 0, 1) := by decide +kernel
theorem dX6_againstMoving_20 : decode cX6_againstMoving 20 = .ok (.getfield 17, 3) := by decide +kernel
theorem dX6_againstMoving_23 : decode cX6_againstMoving 23 = .ok (.iload_n 1, 1) := by decide +kernel
theorem dX6_againstMoving_24 : decode cX6_againstMoving 24 = .ok (.aaload, 1) := by decide +kernel
theorem dX6_againstMoving_25 : decode cX6_againstMoving 25 = .ok (.iload_n 2, 1) := by decide +kernel
theorem dX6_againstMoving_26 : decode cX6_againstMoving 26 = .ok (.invokevirtual 112, 3) := by decide +kernel
theorem dX6_againstMoving_29 : decode cX6_againstMoving 29 = .ok (.ifCond .eq 7, 3) := by decide +kernel
theorem dX6_againstMoving_32 : decode cX6_againstMoving 32 = .ok (.iconst 0, 1) := by decide +kernel
theorem dX6_againstMoving_33 : decode cX6_againstMoving 33 = .ok (.goto 4, 3) := by decide +kernel
theorem dX6_againstMoving_36 : decode cX6_againstMoving 36 = .ok (.iconst 3, 1) := by decide +kernel
theorem dX6_againstMoving_37 : decode cX6_againstMoving 37 = .ok (.ireturn, 1) := by decide +kernel
theorem dX6_againstLeaving_0 : decode cX6_againstLeaving 0 = .ok (.aload_n 0, 1) := by decide +kernel
theorem dX6_againstLeaving_1 : decode cX6_againstLeaving 1 = .ok (.iload_n 1, 1) := by decide +kernel
theorem dX6_againstLeaving_2 : decode cX6_againstLeaving 2 = .ok (.invokevirtual 108, 3) := by decide +kernel
theorem dX6_againstLeaving_5 : decode cX6_againstLeaving 5 = .ok (.ifCond .ne 5, 3) := by decide +kernel
theorem dX6_againstLeaving_8 : decode cX6_againstLeaving 8 = .ok (.iconst 1, 1) := by decide +kernel
theorem dX6_againstLeaving_9 : decode cX6_againstLeaving 9 = .ok (.ireturn, 1) := by decide +kernel
theorem dX6_againstLeaving_10 : decode cX6_againstLeaving 10 = .ok (.aload_n 0, 1) := by decide +kernel
theorem dX6_againstLeaving_11 : decode cX6_againstLeaving 11 = .ok (.getfield 17, 3) := by decide +kernel
theorem dX6_againstLeaving_14 : decode cX6_againstLeaving 14 = .ok (.iload_n 1, 1) := by decide +kernel
theorem dX6_againstLeaving_15 : decode cX6_againstLeaving 15 = .ok (.aaload, 1) := by decide +kernel
theorem dX6_againstLeaving_16 : decode cX6_againstLeaving 16 = .ok (.getfield 115, 3) := by decide +kernel
theorem dX6_againstLeaving_19 : decode cX6_againstLeaving 19 = .ok (.ifCond .eq 7, 3) := by decide +kernel
theorem dX6_againstLeaving_22 : decode cX6_againstLeaving 22 = .ok (.iconst 0, 1) := by decide +kernel
theorem dX6_againstLeaving_23 : decode cX6_againstLeaving 23 = .ok (.goto 4, 3) := by decide +kernel
theorem dX6_againstLeaving_26 : decode cX6_againstLeaving 26 = .ok (.iconst 3, 1) := by decide +kernel
theorem dX6_againstLeaving_27 : decode cX6_againstLeaving 27 = .ok (.ireturn, 1) := by decide +kernel
theorem dX6_againstRelevelling_0 : decode cX6_againstRelevelling 0 = .ok (.aload_n 0, 1) := by decide +kernel
theorem dX6_againstRelevelling_1 : decode cX6_againstRelevelling 1 = .ok (.iload_n 1, 1) := by decide +kernel
theorem dX6_againstRelevelling_2 : decode cX6_againstRelevelling 2 = .ok (.invokevirtual 108, 3) := by decide +kernel
theorem dX6_againstRelevelling_5 : decode cX6_againstRelevelling 5 = .ok (.ifCond .ne 5, 3) := by decide +kernel
theorem dX6_againstRelevelling_8 : decode cX6_againstRelevelling 8 = .ok (.iconst 1, 1) := by decide +kernel
theorem dX6_againstRelevelling_9 : decode cX6_againstRelevelling 9 = .ok (.ireturn, 1) := by decide +kernel
theorem dX6_againstRelevelling_10 : decode cX6_againstRelevelling 10 = .ok (.iload_n 2, 1) := by decide +kernel
theorem dX6_againstRelevelling_11 : decode cX6_againstRelevelling 11 = .ok (.iconst 3, 1) := by decide +kernel
theorem dX6_againstRelevelling_12 : decode cX6_againstRelevelling 12 = .ok (.invokestatic 55, 3) := by decide +kernel
theorem dX6_againstRelevelling_15 : decode cX6_againstRelevelling 15 = .ok (.ifCond .eq 7, 3) := by decide +kernel
theorem dX6_againstRelevelling_18 : decode cX6_againstRelevelling 18 = .ok (.iconst 0, 1) := by decide +kernel
theorem dX6_againstRelevelling_19 : decode cX6_againstRelevelling 19 = .ok (.goto 4, 3) := by decide +kernel
theorem dX6_againstRelevelling_22 : decode cX6_againstRelevelling 22 = .ok (.iconst 2, 1) := by decide +kernel
theorem dX6_againstRelevelling_23 : decode cX6_againstRelevelling 23 = .ok (.ireturn, 1) := by decide +kernel
theorem dX6_againstSetting_0 : decode cX6_againstSetting 0 = .ok (.iload_n 1, 1) := by decide +kernel
theorem dX6_againstSetting_1 : decode cX6_againstSetting 1 = .ok (.iconst 4, 1) := by decide +kernel
theorem dX6_againstSetting_2 : decode cX6_againstSetting 2 = .ok (.invokestatic 55, 3) := by decide +kernel
theorem dX6_againstSetting_5 : decode cX6_againstSetting 5 = .ok (.ifCond .ne 5, 3) := by decide +kernel
theorem dX6_againstSetting_8 : decode cX6_againstSetting 8 = .ok (.iconst 2, 1) := by decide +kernel
theorem dX6_againstSetting_9 : decode cX6_againstSetting 9 = .ok (.ireturn, 1) := by decide +kernel
theorem dX6_againstSetting_10 : decode cX6_againstSetting 10 = .ok (.iload_n 2, 1) := by decide +kernel
theorem dX6_againstSetting_11 : decode cX6_againstSetting 11 = .ok (.getstatic 119, 3) := by decide +kernel
theorem dX6_againstSetting_14 : decode cX6_againstSetting 14 = .ok (.iload_n 1, 1) := by decide +kernel
theorem dX6_againstSetting_15 : decode cX6_againstSetting 15 = .ok (.iaload, 1) := by decide +kernel
theorem dX6_againstSetting_16 : decode cX6_againstSetting 16 = .ok (.if_icmp .lt 16, 3) := by decide +kernel
theorem dX6_againstSetting_19 : decode cX6_againstSetting 19 = .ok (.iload_n 2, 1) := by decide +kernel
theorem dX6_againstSetting_20 : decode cX6_againstSetting 20 = .ok (.getstatic 122, 3) := by decide +kernel
theorem dX6_againstSetting_23 : decode cX6_againstSetting 23 = .ok (.iload_n 1, 1) := by decide +kernel
theorem dX6_againstSetting_24 : decode cX6_againstSetting 24 = .ok (.iaload, 1) := by decide +kernel
theorem dX6_againstSetting_25 : decode cX6_againstSetting 25 = .ok (.if_icmp .gt 7, 3) := by decide +kernel
theorem dX6_againstSetting_28 : decode cX6_againstSetting 28 = .ok (.iconst 1, 1) := by decide +kernel
theorem dX6_againstSetting_29 : decode cX6_againstSetting 29 = .ok (.goto 4, 3) := by decide +kernel
theorem dX6_againstSetting_32 : decode cX6_againstSetting 32 = .ok (.iconst 0, 1) := by decide +kernel
theorem dX6_againstSetting_33 : decode cX6_againstSetting 33 = .ok (.istore_n 3, 1) := by decide +kernel
theorem dX6_againstSetting_34 : decode cX6_againstSetting 34 = .ok (.iload_n 3, 1) := by decide +kernel
theorem dX6_againstSetting_35 : decode cX6_againstSetting 35 = .ok (.ifCond .eq 7, 3) := by decide +kernel
theorem dX6_againstSetting_38 : decode cX6_againstSetting 38 = .ok (.iconst 0, 1) := by decide +kernel
theorem dX6_againstSetting_39 : decode cX6_againstSetting 39 = .ok (.goto 4, 3) := by decide +kernel
theorem dX6_againstSetting_42 : decode cX6_againstSetting 42 = .ok (.iconst 2, 1) := by decide +kernel
theorem dX6_againstSetting_43 : decode cX6_againstSetting 43 = .ok (.ireturn, 1) := by decide +kernel
theorem dX6_changeSetting_0 : decode cX6_changeSetting 0 = .ok (.aload_n 0, 1) := by decide +kernel
theorem dX6_changeSetting_1 : decode cX6_changeSetting 1 = .ok (.getfield 9, 3) := by decide +kernel
theorem dX6_changeSetting_4 : decode cX6_changeSetting 4 = .ok (.iload_n 1, 1) := by decide +kernel
theorem dX6_changeSetting_5 : decode cX6_changeSetting 5 = .ok (.iaload, 1) := by decide +kernel
theorem dX6_changeSetting_6 : decode cX6_changeSetting 6 = .ok (.istore_n 3, 1) := by decide +kernel
theorem dX6_changeSetting_7 : decode cX6_changeSetting 7 = .ok (.aload_n 0, 1) := by decide +kernel
theorem dX6_changeSetting_8 : decode cX6_changeSetting 8 = .ok (.getfield 9, 3) := by decide +kernel
theorem dX6_changeSetting_11 : decode cX6_changeSetting 11 = .ok (.iload_n 1, 1) := by decide +kernel
theorem dX6_changeSetting_12 : decode cX6_changeSetting 12 = .ok (.iload_n 2, 1) := by decide +kernel
theorem dX6_changeSetting_13 : decode cX6_changeSetting 13 = .ok (.iastore, 1) := by decide +kernel
theorem dX6_changeSetting_14 : decode cX6_changeSetting 14 = .ok (.iload_n 3, 1) := by decide +kernel
theorem dX6_changeSetting_15 : decode cX6_changeSetting 15 = .ok (.ireturn, 1) := by decide +kernel
theorem dX6_againstPublishing_0 : decode cX6_againstPublishing 0 = .ok (.iload_n 1, 1) := by decide +kernel
theorem dX6_againstPublishing_1 : decode cX6_againstPublishing 1 = .ok (.bipush 16, 2) := by decide +kernel
theorem dX6_againstPublishing_3 : decode cX6_againstPublishing 3 = .ok (.invokestatic 55, 3) := by decide +kernel
theorem dX6_againstPublishing_6 : decode cX6_againstPublishing 6 = .ok (.ifCond .ne 5, 3) := by decide +kernel
theorem dX6_againstPublishing_9 : decode cX6_againstPublishing 9 = .ok (.iconst 1, 1) := by decide +kernel
theorem dX6_againstPublishing_10 : decode cX6_againstPublishing 10 = .ok (.ireturn, 1) := by decide +kernel
theorem dX6_againstPublishing_11 : decode cX6_againstPublishing 11 = .ok (.iload_n 2, 1) := by decide +kernel
theorem dX6_againstPublishing_12 : decode cX6_againstPublishing 12 = .ok (.iconst 3, 1) := by decide +kernel
theorem dX6_againstPublishing_13 : decode cX6_againstPublishing 13 = .ok (.invokestatic 55, 3) := by decide +kernel
theorem dX6_againstPublishing_16 : decode cX6_againstPublishing 16 = .ok (.ifCond .eq 7, 3) := by decide +kernel
theorem dX6_againstPublishing_19 : decode cX6_againstPublishing 19 = .ok (.iload_n 3, 1) := by decide +kernel
theorem dX6_againstPublishing_20 : decode cX6_againstPublishing 20 = .ok (.ifCond .ge 5, 3) := by decide +kernel
theorem dX6_againstPublishing_23 : decode cX6_againstPublishing 23 = .ok (.iconst 2, 1) := by decide +kernel
theorem dX6_againstPublishing_24 : decode cX6_againstPublishing 24 = .ok (.ireturn, 1) := by decide +kernel
theorem dX6_againstPublishing_25 : decode cX6_againstPublishing 25 = .ok (.aload_n 0, 1) := by decide +kernel
theorem dX6_againstPublishing_26 : decode cX6_againstPublishing 26 = .ok (.getfield 24, 3) := by decide +kernel
theorem dX6_againstPublishing_29 : decode cX6_againstPublishing 29 = .ok (.getfield 125, 3) := by decide +kernel
theorem dX6_againstPublishing_32 : decode cX6_againstPublishing 32 = .ok (.bipush 60, 2) := by decide +kernel
theorem dX6_againstPublishing_34 : decode cX6_againstPublishing 34 = .ok (.if_icmp .ge 15, 3) := by decide +kernel
theorem dX6_againstPublishing_37 : decode cX6_againstPublishing 37 = .ok (.aload_n 0, 1) := by decide +kernel
theorem dX6_againstPublishing_38 : decode cX6_againstPublishing 38 = .ok (.iload_n 3, 1) := by decide +kernel
theorem dX6_againstPublishing_39 : decode cX6_againstPublishing 39 = .ok (.invokevirtual 128, 3) := by decide +kernel
theorem dX6_againstPublishing_42 : decode cX6_againstPublishing 42 = .ok (.ifCond .ne 7, 3) := by decide +kernel
theorem dX6_againstPublishing_45 : decode cX6_againstPublishing 45 = .ok (.iconst 0, 1) := by decide +kernel
theorem dX6_againstPublishing_46 : decode cX6_againstPublishing 46 = .ok (.goto 4, 3) := by decide +kernel
theorem dX6_againstPublishing_49 : decode cX6_againstPublishing 49 = .ok (.iconst 3, 1) := by decide +kernel
theorem dX6_againstPublishing_50 : decode cX6_againstPublishing 50 = .ok (.ireturn, 1) := by decide +kernel
theorem dX6_isTooLate_0 : decode cX6_isTooLate 0 = .ok (.iload_n 1, 1) := by decide +kernel
theorem dX6_isTooLate_1 : decode cX6_isTooLate 1 = .ok (.aload_n 0, 1) := by decide +kernel
theorem dX6_isTooLate_2 : decode cX6_isTooLate 2 = .ok (.getfield 9, 3) := by decide +kernel
theorem dX6_isTooLate_5 : decode cX6_isTooLate 5 = .ok (.iconst 3, 1) := by decide +kernel
theorem dX6_isTooLate_6 : decode cX6_isTooLate 6 = .ok (.iaload, 1) := by decide +kernel
theorem dX6_isTooLate_7 : decode cX6_isTooLate 7 = .ok (.if_icmp .gt 11, 3) := by decide +kernel
theorem dX6_isTooLate_10 : decode cX6_isTooLate 10 = .ok (.iload_n 1, 1) := by decide +kernel
theorem dX6_isTooLate_11 : decode cX6_isTooLate 11 = .ok (.aload_n 0, 1) := by decide +kernel
theorem dX6_isTooLate_12 : decode cX6_isTooLate 12 = .ok (.getfield 52, 3) := by decide +kernel
theorem dX6_isTooLate_15 : decode cX6_isTooLate 15 = .ok (.if_icmp .le 7, 3) := by decide +kernel
theorem dX6_isTooLate_18 : decode cX6_isTooLate 18 = .ok (.iconst 1, 1) := by decide +kernel
theorem dX6_isTooLate_19 : decode cX6_isTooLate 19 = .ok (.goto 4, 3) := by decide +kernel
theorem dX6_isTooLate_22 : decode cX6_isTooLate 22 = .ok (.iconst 0, 1) := by decide +kernel
theorem dX6_isTooLate_23 : decode cX6_isTooLate 23 = .ok (.ireturn, 1) := by decide +kernel
theorem dX6_publishEvent_0 : decode cX6_publishEvent 0 = .ok (.aload_n 0, 1) := by decide +kernel
theorem dX6_publishEvent_1 : decode cX6_publishEvent 1 = .ok (.getfield 52, 3) := by decide +kernel
theorem dX6_publishEvent_4 : decode cX6_publishEvent 4 = .ok (.iload_n 3, 1) := by decide +kernel
theorem dX6_publishEvent_5 : decode cX6_publishEvent 5 = .ok (.isub, 1) := by decide +kernel
theorem dX6_publishEvent_6 : decode cX6_publishEvent 6 = .ok (.istore 4, 2) := by decide +kernel
theorem dX6_publishEvent_8 : decode cX6_publishEvent 8 = .ok (.aload_n 0, 1) := by decide +kernel
theorem dX6_publishEvent_9 : decode cX6_publishEvent 9 = .ok (.iload_n 1, 1) := by decide +kernel
theorem dX6_publishEvent_10 : decode cX6_publishEvent 10 = .ok (.iload_n 2, 1) := by decide +kernel
theorem dX6_publishEvent_11 : decode cX6_publishEvent 11 = .ok (.iload 4, 2) := by decide +kernel
theorem dX6_publishEvent_13 : decode cX6_publishEvent 13 = .ok (.invokevirtual 131, 3) := by decide +kernel
theorem dX6_publishEvent_16 : decode cX6_publishEvent 16 = .ok (.istore 5, 2) := by decide +kernel
theorem dX6_publishEvent_18 : decode cX6_publishEvent 18 = .ok (.aload_n 0, 1) := by decide +kernel
theorem dX6_publishEvent_19 : decode cX6_publishEvent 19 = .ok (.getfield 24, 3) := by decide +kernel
theorem dX6_publishEvent_22 : decode cX6_publishEvent 22 = .ok (.iload_n 1, 1) := by decide +kernel
theorem dX6_publishEvent_23 : decode cX6_publishEvent 23 = .ok (.iload_n 2, 1) := by decide +kernel
theorem dX6_publishEvent_24 : decode cX6_publishEvent 24 = .ok (.iload 4, 2) := by decide +kernel
theorem dX6_publishEvent_26 : decode cX6_publishEvent 26 = .ok (.aload_n 0, 1) := by decide +kernel
theorem dX6_publishEvent_27 : decode cX6_publishEvent 27 = .ok (.getfield 52, 3) := by decide +kernel
theorem dX6_publishEvent_30 : decode cX6_publishEvent 30 = .ok (.iload 5, 2) := by decide +kernel
theorem dX6_publishEvent_32 : decode cX6_publishEvent 32 = .ok (.invokevirtual 134, 3) := by decide +kernel
theorem dX6_publishEvent_35 : decode cX6_publishEvent 35 = .ok (.istore 6, 2) := by decide +kernel
theorem dX6_publishEvent_37 : decode cX6_publishEvent 37 = .ok (.iconst 0, 1) := by decide +kernel
theorem dX6_publishEvent_38 : decode cX6_publishEvent 38 = .ok (.istore 7, 2) := by decide +kernel
theorem dX6_publishEvent_40 : decode cX6_publishEvent 40 = .ok (.iload 7, 2) := by decide +kernel
theorem dX6_publishEvent_42 : decode cX6_publishEvent 42 = .ok (.aload_n 0, 1) := by decide +kernel
theorem dX6_publishEvent_43 : decode cX6_publishEvent 43 = .ok (.getfield 48, 3) := by decide +kernel
theorem dX6_publishEvent_46 : decode cX6_publishEvent 46 = .ok (.if_icmp .ge 32, 3) := by decide +kernel
theorem dX6_publishEvent_49 : decode cX6_publishEvent 49 = .ok (.iload 5, 2) := by decide +kernel
theorem dX6_publishEvent_51 : decode cX6_publishEvent 51 = .ok (.iload 7, 2) := by decide +kernel
theorem dX6_publishEvent_53 : decode cX6_publishEvent 53 = .ok (.ishr, 1) := by decide +kernel
theorem dX6_publishEvent_54 : decode cX6_publishEvent 54 = .ok (.iconst 1, 1) := by decide +kernel
theorem dX6_publishEvent_55 : decode cX6_publishEvent 55 = .ok (.iand, 1) := by decide +kernel
theorem dX6_publishEvent_56 : decode cX6_publishEvent 56 = .ok (.iconst 1, 1) := by decide +kernel
theorem dX6_publishEvent_57 : decode cX6_publishEvent 57 = .ok (.if_icmp .ne 15, 3) := by decide +kernel
theorem dX6_publishEvent_60 : decode cX6_publishEvent 60 = .ok (.aload_n 0, 1) := by decide +kernel
theorem dX6_publishEvent_61 : decode cX6_publishEvent 61 = .ok (.getfield 17, 3) := by decide +kernel
theorem dX6_publishEvent_64 : decode cX6_publishEvent 64 = .ok (.iload 7, 2) := by decide +kernel
theorem dX6_publishEvent_66 : decode cX6_publishEvent 66 = .ok (.aaload, 1) := by decide +kernel
theorem dX6_publishEvent_67 : decode cX6_publishEvent 67 = .ok (.iload 6, 2) := by decide +kernel
theorem dX6_publishEvent_69 : decode cX6_publishEvent 69 = .ok (.invokevirtual 138, 3) := by decide +kernel
theorem dX6_publishEvent_72 : decode cX6_publishEvent 72 = .ok (.iinc 7 1, 3) := by decide +kernel
theorem dX6_publishEvent_75 : decode cX6_publishEvent 75 = .ok (.goto (-35), 3) := by decide +kernel
theorem dX6_publishEvent_78 : decode cX6_publishEvent 78 = .ok (.iload 6, 2) := by decide +kernel
theorem dX6_publishEvent_80 : decode cX6_publishEvent 80 = .ok (.ireturn, 1) := by decide +kernel
theorem dX6_reachedBy_0 : decode cX6_reachedBy 0 = .ok (.iload_n 1, 1) := by decide +kernel
theorem dX6_reachedBy_1 : decode cX6_reachedBy 1 = .ok (.iload_n 2, 1) := by decide +kernel
theorem dX6_reachedBy_2 : decode cX6_reachedBy 2 = .ok (.invokestatic 142, 3) := by decide +kernel
theorem dX6_reachedBy_5 : decode cX6_reachedBy 5 = .ok (.istore 4, 2) := by decide +kernel
theorem dX6_reachedBy_7 : decode cX6_reachedBy 7 = .ok (.iconst 0, 1) := by decide +kernel
theorem dX6_reachedBy_8 : decode cX6_reachedBy 8 = .ok (.istore 5, 2) := by decide +kernel
theorem dX6_reachedBy_10 : decode cX6_reachedBy 10 = .ok (.iconst 0, 1) := by decide +kernel
theorem dX6_reachedBy_11 : decode cX6_reachedBy 11 = .ok (.istore 6, 2) := by decide +kernel
theorem dX6_reachedBy_13 : decode cX6_reachedBy 13 = .ok (.iload 6, 2) := by decide +kernel
theorem dX6_reachedBy_15 : decode cX6_reachedBy 15 = .ok (.aload_n 0, 1) := by decide +kernel
theorem dX6_reachedBy_16 : decode cX6_reachedBy 16 = .ok (.getfield 48, 3) := by decide +kernel
theorem dX6_reachedBy_19 : decode cX6_reachedBy 19 = .ok (.if_icmp .ge 34, 3) := by decide +kernel
theorem dX6_reachedBy_22 : decode cX6_reachedBy 22 = .ok (.aload_n 0, 1) := by decide +kernel
theorem dX6_reachedBy_23 : decode cX6_reachedBy 23 = .ok (.getfield 17, 3) := by decide +kernel
theorem dX6_reachedBy_26 : decode cX6_reachedBy 26 = .ok (.iload 6, 2) := by decide +kernel
theorem dX6_reachedBy_28 : decode cX6_reachedBy 28 = .ok (.aaload, 1) := by decide +kernel
theorem dX6_reachedBy_29 : decode cX6_reachedBy 29 = .ok (.iload 4, 2) := by decide +kernel
theorem dX6_reachedBy_31 : decode cX6_reachedBy 31 = .ok (.iload_n 3, 1) := by decide +kernel
theorem dX6_reachedBy_32 : decode cX6_reachedBy 32 = .ok (.invokevirtual 145, 3) := by decide +kernel
theorem dX6_reachedBy_35 : decode cX6_reachedBy 35 = .ok (.ifCond .eq 12, 3) := by decide +kernel
theorem dX6_reachedBy_38 : decode cX6_reachedBy 38 = .ok (.iload 5, 2) := by decide +kernel
theorem dX6_reachedBy_40 : decode cX6_reachedBy 40 = .ok (.iconst 1, 1) := by decide +kernel
theorem dX6_reachedBy_41 : decode cX6_reachedBy 41 = .ok (.iload 6, 2) := by decide +kernel
theorem dX6_reachedBy_43 : decode cX6_reachedBy 43 = .ok (.ishl, 1) := by decide +kernel
theorem dX6_reachedBy_44 : decode cX6_reachedBy 44 = .ok (.ior, 1) := by decide +kernel
theorem dX6_reachedBy_45 : decode cX6_reachedBy 45 = .ok (.istore 5, 2) := by decide +kernel
theorem dX6_reachedBy_47 : decode cX6_reachedBy 47 = .ok (.iinc 6 1, 3) := by decide +kernel
theorem dX6_reachedBy_50 : decode cX6_reachedBy 50 = .ok (.goto (-37), 3) := by decide +kernel
theorem dX6_reachedBy_53 : decode cX6_reachedBy 53 = .ok (.iload 5, 2) := by decide +kernel
theorem dX6_reachedBy_55 : decode cX6_reachedBy 55 = .ok (.ireturn, 1) := by decide +kernel
theorem dX6_againstPassing_0 : decode cX6_againstPassing 0 = .ok (.iload_n 1, 1) := by decide +kernel
theorem dX6_againstPassing_1 : decode cX6_againstPassing 1 = .ok (.iconst 1, 1) := by decide +kernel
theorem dX6_againstPassing_2 : decode cX6_againstPassing 2 = .ok (.if_icmp .lt 9, 3) := by decide +kernel
theorem dX6_againstPassing_5 : decode cX6_againstPassing 5 = .ok (.iload_n 1, 1) := by decide +kernel
theorem dX6_againstPassing_6 : decode cX6_againstPassing 6 = .ok (.bipush 50, 2) := by decide +kernel
theorem dX6_againstPassing_8 : decode cX6_againstPassing 8 = .ok (.if_icmp .le 5, 3) := by decide +kernel
theorem dX6_againstPassing_11 : decode cX6_againstPassing 11 = .ok (.iconst 2, 1) := by decide +kernel
theorem dX6_againstPassing_12 : decode cX6_againstPassing 12 = .ok (.ireturn, 1) := by decide +kernel
theorem dX6_againstPassing_13 : decode cX6_againstPassing 13 = .ok (.aload_n 0, 1) := by decide +kernel
theorem dX6_againstPassing_14 : decode cX6_againstPassing 14 = .ok (.getfield 52, 3) := by decide +kernel
theorem dX6_againstPassing_17 : decode cX6_againstPassing 17 = .ok (.iload_n 1, 1) := by decide +kernel
theorem dX6_againstPassing_18 : decode cX6_againstPassing 18 = .ok (.iadd, 1) := by decide +kernel
theorem dX6_againstPassing_19 : decode cX6_againstPassing 19 = .ok (.sipush 9999, 3) := by decide +kernel
theorem dX6_againstPassing_22 : decode cX6_againstPassing 22 = .ok (.if_icmp .gt 7, 3) := by decide +kernel
theorem dX6_againstPassing_25 : decode cX6_againstPassing 25 = .ok (.iconst 0, 1) := by decide +kernel
theorem dX6_againstPassing_26 : decode cX6_againstPassing 26 = .ok (.goto 4, 3) := by decide +kernel
theorem dX6_againstPassing_29 : decode cX6_againstPassing 29 = .ok (.iconst 3, 1) := by decide +kernel
theorem dX6_againstPassing_30 : decode cX6_againstPassing 30 = .ok (.ireturn, 1) := by decide +kernel
theorem dX6_passTicks_0 : decode cX6_passTicks 0 = .ok (.iconst 0, 1) := by decide +kernel
theorem dX6_passTicks_1 : decode cX6_passTicks 1 = .ok (.istore_n 2, 1) := by decide +kernel
theorem dX6_passTicks_2 : decode cX6_passTicks 2 = .ok (.iconst 0, 1) := by decide +kernel
theorem dX6_passTicks_3 : decode cX6_passTicks 3 = .ok (.istore_n 3, 1) := by decide +kernel
theorem dX6_passTicks_4 : decode cX6_passTicks 4 = .ok (.iload_n 3, 1) := by decide +kernel
theorem dX6_passTicks_5 : decode cX6_passTicks 5 = .ok (.iload_n 1, 1) := by decide +kernel
theorem dX6_passTicks_6 : decode cX6_passTicks 6 = .ok (.if_icmp .ge 16, 3) := by decide +kernel
theorem dX6_passTicks_9 : decode cX6_passTicks 9 = .ok (.iload_n 2, 1) := by decide +kernel
theorem dX6_passTicks_10 : decode cX6_passTicks 10 = .ok (.aload_n 0, 1) := by decide +kernel
theorem dX6_passTicks_11 : decode cX6_passTicks 11 = .ok (.invokevirtual 148, 3) := by decide +kernel
theorem dX6_passTicks_14 : decode cX6_passTicks 14 = .ok (.iadd, 1) := by decide +kernel
theorem dX6_passTicks_15 : decode cX6_passTicks 15 = .ok (.istore_n 2, 1) := by decide +kernel
theorem dX6_passTicks_16 : decode cX6_passTicks 16 = .ok (.iinc 3 1, 3) := by decide +kernel
theorem dX6_passTicks_19 : decode cX6_passTicks 19 = .ok (.goto (-15), 3) := by decide +kernel
theorem dX6_passTicks_22 : decode cX6_passTicks 22 = .ok (.iload_n 2, 1) := by decide +kernel
theorem dX6_passTicks_23 : decode cX6_passTicks 23 = .ok (.ireturn, 1) := by decide +kernel
theorem dX6_passTick_0 : decode cX6_passTick 0 = .ok (.iconst 0, 1) := by decide +kernel
theorem dX6_passTick_1 : decode cX6_passTick 1 = .ok (.istore_n 1, 1) := by decide +kernel
theorem dX6_passTick_2 : decode cX6_passTick 2 = .ok (.iload_n 1, 1) := by decide +kernel
theorem dX6_passTick_3 : decode cX6_passTick 3 = .ok (.aload_n 0, 1) := by decide +kernel
theorem dX6_passTick_4 : decode cX6_passTick 4 = .ok (.getfield 48, 3) := by decide +kernel
theorem dX6_passTick_7 : decode cX6_passTick 7 = .ok (.if_icmp .ge 47, 3) := by decide +kernel
theorem dX6_passTick_10 : decode cX6_passTick 10 = .ok (.aload_n 0, 1) := by decide +kernel
theorem dX6_passTick_11 : decode cX6_passTick 11 = .ok (.getfield 17, 3) := by decide +kernel
theorem dX6_passTick_14 : decode cX6_passTick 14 = .ok (.iload_n 1, 1) := by decide +kernel
theorem dX6_passTick_15 : decode cX6_passTick 15 = .ok (.aaload, 1) := by decide +kernel
theorem dX6_passTick_16 : decode cX6_passTick 16 = .ok (.astore_n 2, 1) := by decide +kernel
theorem dX6_passTick_17 : decode cX6_passTick 17 = .ok (.aload_n 2, 1) := by decide +kernel
theorem dX6_passTick_18 : decode cX6_passTick 18 = .ok (.aload_n 0, 1) := by decide +kernel
theorem dX6_passTick_19 : decode cX6_passTick 19 = .ok (.getfield 52, 3) := by decide +kernel
theorem dX6_passTick_22 : decode cX6_passTick 22 = .ok (.aload_n 0, 1) := by decide +kernel
theorem dX6_passTick_23 : decode cX6_passTick 23 = .ok (.getfield 9, 3) := by decide +kernel
theorem dX6_passTick_26 : decode cX6_passTick 26 = .ok (.iconst 0, 1) := by decide +kernel
theorem dX6_passTick_27 : decode cX6_passTick 27 = .ok (.iaload, 1) := by decide +kernel
theorem dX6_passTick_28 : decode cX6_passTick 28 = .ok (.invokevirtual 152, 3) := by decide +kernel
theorem dX6_passTick_31 : decode cX6_passTick 31 = .ok (.ifCond .eq 17, 3) := by decide +kernel
theorem dX6_passTick_34 : decode cX6_passTick 34 = .ok (.aload_n 2, 1) := by decide +kernel
theorem dX6_passTick_35 : decode cX6_passTick 35 = .ok (.aload_n 0, 1) := by decide +kernel
theorem dX6_passTick_36 : decode cX6_passTick 36 = .ok (.getfield 52, 3) := by decide +kernel
theorem dX6_passTick_39 : decode cX6_passTick 39 = .ok (.aload_n 0, 1) := by decide +kernel
theorem dX6_passTick_40 : decode cX6_passTick 40 = .ok (.getfield 9, 3) := by decide +kernel
theorem dX6_passTick_43 : decode cX6_passTick 43 = .ok (.iconst 2, 1) := by decide +kernel
theorem dX6_passTick_44 : decode cX6_passTick 44 = .ok (.iaload, 1) := by decide +kernel
theorem dX6_passTick_45 : decode cX6_passTick 45 = .ok (.invokevirtual 155, 3) := by decide +kernel
theorem dX6_passTick_48 : decode cX6_passTick 48 = .ok (.iinc 1 1, 3) := by decide +kernel
theorem dX6_passTick_51 : decode cX6_passTick 51 = .ok (.goto (-49), 3) := by decide +kernel
theorem dX6_passTick_54 : decode cX6_passTick 54 = .ok (.iconst 0, 1) := by decide +kernel
theorem dX6_passTick_55 : decode cX6_passTick 55 = .ok (.istore_n 1, 1) := by decide +kernel
theorem dX6_passTick_56 : decode cX6_passTick 56 = .ok (.iload_n 1, 1) := by decide +kernel
theorem dX6_passTick_57 : decode cX6_passTick 57 = .ok (.bipush 16, 2) := by decide +kernel
theorem dX6_passTick_59 : decode cX6_passTick 59 = .ok (.if_icmp .ge 16, 3) := by decide +kernel
theorem dX6_passTick_62 : decode cX6_passTick 62 = .ok (.aload_n 0, 1) := by decide +kernel
theorem dX6_passTick_63 : decode cX6_passTick 63 = .ok (.getfield 31, 3) := by decide +kernel
theorem dX6_passTick_66 : decode cX6_passTick 66 = .ok (.iload_n 1, 1) := by decide +kernel
theorem dX6_passTick_67 : decode cX6_passTick 67 = .ok (.iconst 0, 1) := by decide +kernel
theorem dX6_passTick_68 : decode cX6_passTick 68 = .ok (.iastore, 1) := by decide +kernel
theorem dX6_passTick_69 : decode cX6_passTick 69 = .ok (.iinc 1 1, 3) := by decide +kernel
theorem dX6_passTick_72 : decode cX6_passTick 72 = .ok (.goto (-16), 3) := by decide +kernel
theorem dX6_passTick_75 : decode cX6_passTick 75 = .ok (.iconst 0, 1) := by decide +kernel
theorem dX6_passTick_76 : decode cX6_passTick 76 = .ok (.istore_n 1, 1) := by decide +kernel
theorem dX6_passTick_77 : decode cX6_passTick 77 = .ok (.iconst 0, 1) := by decide +kernel
theorem dX6_passTick_78 : decode cX6_passTick 78 = .ok (.istore_n 2, 1) := by decide +kernel
theorem dX6_passTick_79 : decode cX6_passTick 79 = .ok (.iload_n 2, 1) := by decide +kernel
theorem dX6_passTick_80 : decode cX6_passTick 80 = .ok (.aload_n 0, 1) := by decide +kernel
theorem dX6_passTick_81 : decode cX6_passTick 81 = .ok (.getfield 48, 3) := by decide +kernel
theorem dX6_passTick_84 : decode cX6_passTick 84 = .ok (.if_icmp .ge 17, 3) := by decide +kernel
theorem dX6_passTick_87 : decode cX6_passTick 87 = .ok (.iload_n 1, 1) := by decide +kernel
theorem dX6_passTick_88 : decode cX6_passTick 88 = .ok (.aload_n 0, 1) := by decide +kernel
theorem dX6_passTick_89 : decode cX6_passTick 89 = .ok (.iload_n 2, 1) := by decide +kernel
theorem dX6_passTick_90 : decode cX6_passTick 90 = .ok (.invokevirtual 159, 3) := by decide +kernel
theorem dX6_passTick_93 : decode cX6_passTick 93 = .ok (.iadd, 1) := by decide +kernel
theorem dX6_passTick_94 : decode cX6_passTick 94 = .ok (.istore_n 1, 1) := by decide +kernel
theorem dX6_passTick_95 : decode cX6_passTick 95 = .ok (.iinc 2 1, 3) := by decide +kernel
theorem dX6_passTick_98 : decode cX6_passTick 98 = .ok (.goto (-19), 3) := by decide +kernel
theorem dX6_passTick_101 : decode cX6_passTick 101 = .ok (.aload_n 0, 1) := by decide +kernel
theorem dX6_passTick_102 : decode cX6_passTick 102 = .ok (.dup, 1) := by decide +kernel
theorem dX6_passTick_103 : decode cX6_passTick 103 = .ok (.getfield 52, 3) := by decide +kernel
theorem dX6_passTick_106 : decode cX6_passTick 106 = .ok (.iconst 1, 1) := by decide +kernel
theorem dX6_passTick_107 : decode cX6_passTick 107 = .ok (.iadd, 1) := by decide +kernel
theorem dX6_passTick_108 : decode cX6_passTick 108 = .ok (.putfield 52, 3) := by decide +kernel
theorem dX6_passTick_111 : decode cX6_passTick 111 = .ok (.iload_n 1, 1) := by decide +kernel
theorem dX6_passTick_112 : decode cX6_passTick 112 = .ok (.ireturn, 1) := by decide +kernel
theorem dX6_deliverTo_0 : decode cX6_deliverTo 0 = .ok (.aload_n 0, 1) := by decide +kernel
theorem dX6_deliverTo_1 : decode cX6_deliverTo 1 = .ok (.getfield 17, 3) := by decide +kernel
theorem dX6_deliverTo_4 : decode cX6_deliverTo 4 = .ok (.iload_n 1, 1) := by decide +kernel
theorem dX6_deliverTo_5 : decode cX6_deliverTo 5 = .ok (.aaload, 1) := by decide +kernel
theorem dX6_deliverTo_6 : decode cX6_deliverTo 6 = .ok (.astore_n 2, 1) := by decide +kernel
theorem dX6_deliverTo_7 : decode cX6_deliverTo 7 = .ok (.aload_n 2, 1) := by decide +kernel
theorem dX6_deliverTo_8 : decode cX6_deliverTo 8 = .ok (.getfield 115, 3) := by decide +kernel
theorem dX6_deliverTo_11 : decode cX6_deliverTo 11 = .ok (.ifCond .eq 14, 3) := by decide +kernel
theorem dX6_deliverTo_14 : decode cX6_deliverTo 14 = .ok (.aload_n 0, 1) := by decide +kernel
theorem dX6_deliverTo_15 : decode cX6_deliverTo 15 = .ok (.getfield 52, 3) := by decide +kernel
theorem dX6_deliverTo_18 : decode cX6_deliverTo 18 = .ok (.aload_n 2, 1) := by decide +kernel
theorem dX6_deliverTo_19 : decode cX6_deliverTo 19 = .ok (.getfield 162, 3) := by decide +kernel
theorem dX6_deliverTo_22 : decode cX6_deliverTo 22 = .ok (.if_icmp .ge 5, 3) := by decide +kernel
theorem dX6_deliverTo_25 : decode cX6_deliverTo 25 = .ok (.iconst 0, 1) := by decide +kernel
theorem dX6_deliverTo_26 : decode cX6_deliverTo 26 = .ok (.ireturn, 1) := by decide +kernel
theorem dX6_deliverTo_27 : decode cX6_deliverTo 27 = .ok (.aload_n 0, 1) := by decide +kernel
theorem dX6_deliverTo_28 : decode cX6_deliverTo 28 = .ok (.getfield 9, 3) := by decide +kernel
theorem dX6_deliverTo_31 : decode cX6_deliverTo 31 = .ok (.iconst 1, 1) := by decide +kernel
theorem dX6_deliverTo_32 : decode cX6_deliverTo 32 = .ok (.iaload, 1) := by decide +kernel
theorem dX6_deliverTo_33 : decode cX6_deliverTo 33 = .ok (.aload_n 0, 1) := by decide +kernel
theorem dX6_deliverTo_34 : decode cX6_deliverTo 34 = .ok (.getfield 31, 3) := by decide +kernel
theorem dX6_deliverTo_37 : decode cX6_deliverTo 37 = .ok (.aload_n 2, 1) := by decide +kernel
theorem dX6_deliverTo_38 : decode cX6_deliverTo 38 = .ok (.getfield 165, 3) := by decide +kernel
theorem dX6_deliverTo_41 : decode cX6_deliverTo 41 = .ok (.iaload, 1) := by decide +kernel
theorem dX6_deliverTo_42 : decode cX6_deliverTo 42 = .ok (.isub, 1) := by decide +kernel
theorem dX6_deliverTo_43 : decode cX6_deliverTo 43 = .ok (.istore_n 3, 1) := by decide +kernel
theorem dX6_deliverTo_44 : decode cX6_deliverTo 44 = .ok (.aload_n 2, 1) := by decide +kernel
theorem dX6_deliverTo_45 : decode cX6_deliverTo 45 = .ok (.getfield 168, 3) := by decide +kernel
theorem dX6_deliverTo_48 : decode cX6_deliverTo 48 = .ok (.getfield 172, 3) := by decide +kernel
theorem dX6_deliverTo_51 : decode cX6_deliverTo 51 = .ok (.iload_n 3, 1) := by decide +kernel
theorem dX6_deliverTo_52 : decode cX6_deliverTo 52 = .ok (.invokestatic 177, 3) := by decide +kernel
theorem dX6_deliverTo_55 : decode cX6_deliverTo 55 = .ok (.istore 4, 2) := by decide +kernel
theorem dX6_deliverTo_57 : decode cX6_deliverTo 57 = .ok (.iconst 0, 1) := by decide +kernel
theorem dX6_deliverTo_58 : decode cX6_deliverTo 58 = .ok (.istore 5, 2) := by decide +kernel
theorem dX6_deliverTo_60 : decode cX6_deliverTo 60 = .ok (.iload 5, 2) := by decide +kernel
theorem dX6_deliverTo_62 : decode cX6_deliverTo 62 = .ok (.iload 4, 2) := by decide +kernel
theorem dX6_deliverTo_64 : decode cX6_deliverTo 64 = .ok (.if_icmp .ge 26, 3) := by decide +kernel
theorem dX6_deliverTo_67 : decode cX6_deliverTo 67 = .ok (.aload_n 0, 1) := by decide +kernel
theorem dX6_deliverTo_68 : decode cX6_deliverTo 68 = .ok (.getfield 24, 3) := by decide +kernel
theorem dX6_deliverTo_71 : decode cX6_deliverTo 71 = .ok (.aload_n 2, 1) := by decide +kernel
theorem dX6_deliverTo_72 : decode cX6_deliverTo 72 = .ok (.getfield 168, 3) := by decide +kernel
theorem dX6_deliverTo_75 : decode cX6_deliverTo 75 = .ok (.iload 5, 2) := by decide +kernel
theorem dX6_deliverTo_77 : decode cX6_deliverTo 77 = .ok (.invokevirtual 182, 3) := by decide +kernel
theorem dX6_deliverTo_80 : decode cX6_deliverTo 80 = .ok (.iload_n 1, 1) := by decide +kernel
theorem dX6_deliverTo_81 : decode cX6_deliverTo 81 = .ok (.invokevirtual 185, 3) := by decide +kernel
theorem dX6_deliverTo_84 : decode cX6_deliverTo 84 = .ok (.iinc 5 1, 3) := by decide +kernel
theorem dX6_deliverTo_87 : decode cX6_deliverTo 87 = .ok (.goto (-27), 3) := by decide +kernel
theorem dX6_deliverTo_90 : decode cX6_deliverTo 90 = .ok (.aload_n 2, 1) := by decide +kernel
theorem dX6_deliverTo_91 : decode cX6_deliverTo 91 = .ok (.getfield 168, 3) := by decide +kernel
theorem dX6_deliverTo_94 : decode cX6_deliverTo 94 = .ok (.iload 4, 2) := by decide +kernel
theorem dX6_deliverTo_96 : decode cX6_deliverTo 96 = .ok (.invokevirtual 188, 3) := by decide +kernel
theorem dX6_deliverTo_99 : decode cX6_deliverTo 99 = .ok (.aload_n 2, 1) := by decide +kernel
theorem dX6_deliverTo_100 : decode cX6_deliverTo 100 = .ok (.dup, 1) := by decide +kernel
theorem dX6_deliverTo_101 : decode cX6_deliverTo 101 = .ok (.getfield 191, 3) := by decide +kernel
theorem dX6_deliverTo_104 : decode cX6_deliverTo 104 = .ok (.iload 4, 2) := by decide +kernel
theorem dX6_deliverTo_106 : decode cX6_deliverTo 106 = .ok (.iadd, 1) := by decide +kernel
theorem dX6_deliverTo_107 : decode cX6_deliverTo 107 = .ok (.putfield 191, 3) := by decide +kernel
theorem dX6_deliverTo_110 : decode cX6_deliverTo 110 = .ok (.aload_n 0, 1) := by decide +kernel
theorem dX6_deliverTo_111 : decode cX6_deliverTo 111 = .ok (.getfield 31, 3) := by decide +kernel
theorem dX6_deliverTo_114 : decode cX6_deliverTo 114 = .ok (.aload_n 2, 1) := by decide +kernel
theorem dX6_deliverTo_115 : decode cX6_deliverTo 115 = .ok (.getfield 165, 3) := by decide +kernel
theorem dX6_deliverTo_118 : decode cX6_deliverTo 118 = .ok (.dup2, 1) := by decide +kernel
theorem dX6_deliverTo_119 : decode cX6_deliverTo 119 = .ok (.iaload, 1) := by decide +kernel
theorem dX6_deliverTo_120 : decode cX6_deliverTo 120 = .ok (.iload 4, 2) := by decide +kernel
theorem dX6_deliverTo_122 : decode cX6_deliverTo 122 = .ok (.iadd, 1) := by decide +kernel
theorem dX6_deliverTo_123 : decode cX6_deliverTo 123 = .ok (.iastore, 1) := by decide +kernel
theorem dX6_deliverTo_124 : decode cX6_deliverTo 124 = .ok (.aload_n 0, 1) := by decide +kernel
theorem dX6_deliverTo_125 : decode cX6_deliverTo 125 = .ok (.getfield 28, 3) := by decide +kernel
theorem dX6_deliverTo_128 : decode cX6_deliverTo 128 = .ok (.aload_n 2, 1) := by decide +kernel
theorem dX6_deliverTo_129 : decode cX6_deliverTo 129 = .ok (.getfield 165, 3) := by decide +kernel
theorem dX6_deliverTo_132 : decode cX6_deliverTo 132 = .ok (.dup2, 1) := by decide +kernel
theorem dX6_deliverTo_133 : decode cX6_deliverTo 133 = .ok (.iaload, 1) := by decide +kernel
theorem dX6_deliverTo_134 : decode cX6_deliverTo 134 = .ok (.iload 4, 2) := by decide +kernel
theorem dX6_deliverTo_136 : decode cX6_deliverTo 136 = .ok (.iadd, 1) := by decide +kernel
theorem dX6_deliverTo_137 : decode cX6_deliverTo 137 = .ok (.iastore, 1) := by decide +kernel
theorem dX6_deliverTo_138 : decode cX6_deliverTo 138 = .ok (.iload 4, 2) := by decide +kernel
theorem dX6_deliverTo_140 : decode cX6_deliverTo 140 = .ok (.ireturn, 1) := by decide +kernel
theorem dX6_ticksUntilServed_0 : decode cX6_ticksUntilServed 0 = .ok (.aload_n 0, 1) := by decide +kernel
theorem dX6_ticksUntilServed_1 : decode cX6_ticksUntilServed 1 = .ok (.getfield 17, 3) := by decide +kernel
theorem dX6_ticksUntilServed_4 : decode cX6_ticksUntilServed 4 = .ok (.iload_n 1, 1) := by decide +kernel
theorem dX6_ticksUntilServed_5 : decode cX6_ticksUntilServed 5 = .ok (.aaload, 1) := by decide +kernel
theorem dX6_ticksUntilServed_6 : decode cX6_ticksUntilServed 6 = .ok (.astore_n 2, 1) := by decide +kernel
theorem dX6_ticksUntilServed_7 : decode cX6_ticksUntilServed 7 = .ok (.aload_n 2, 1) := by decide +kernel
theorem dX6_ticksUntilServed_8 : decode cX6_ticksUntilServed 8 = .ok (.getfield 115, 3) := by decide +kernel
theorem dX6_ticksUntilServed_11 : decode cX6_ticksUntilServed 11 = .ok (.ifCond .ne 5, 3) := by decide +kernel
theorem dX6_ticksUntilServed_14 : decode cX6_ticksUntilServed 14 = .ok (.iconst (-1), 1) := by decide +kernel
theorem dX6_ticksUntilServed_15 : decode cX6_ticksUntilServed 15 = .ok (.ireturn, 1) := by decide +kernel
theorem dX6_ticksUntilServed_16 : decode cX6_ticksUntilServed 16 = .ok (.aload_n 2, 1) := by decide +kernel
theorem dX6_ticksUntilServed_17 : decode cX6_ticksUntilServed 17 = .ok (.getfield 194, 3) := by decide +kernel
theorem dX6_ticksUntilServed_20 : decode cX6_ticksUntilServed 20 = .ok (.aload_n 2, 1) := by decide +kernel
theorem dX6_ticksUntilServed_21 : decode cX6_ticksUntilServed 21 = .ok (.getfield 165, 3) := by decide +kernel
theorem dX6_ticksUntilServed_24 : decode cX6_ticksUntilServed 24 = .ok (.if_icmp .ne 5, 3) := by decide +kernel
theorem dX6_ticksUntilServed_27 : decode cX6_ticksUntilServed 27 = .ok (.iconst 0, 1) := by decide +kernel
theorem dX6_ticksUntilServed_28 : decode cX6_ticksUntilServed 28 = .ok (.ireturn, 1) := by decide +kernel
theorem dX6_ticksUntilServed_29 : decode cX6_ticksUntilServed 29 = .ok (.aload_n 2, 1) := by decide +kernel
theorem dX6_ticksUntilServed_30 : decode cX6_ticksUntilServed 30 = .ok (.getfield 197, 3) := by decide +kernel
theorem dX6_ticksUntilServed_33 : decode cX6_ticksUntilServed 33 = .ok (.aload_n 2, 1) := by decide +kernel
theorem dX6_ticksUntilServed_34 : decode cX6_ticksUntilServed 34 = .ok (.aload_n 0, 1) := by decide +kernel
theorem dX6_ticksUntilServed_35 : decode cX6_ticksUntilServed 35 = .ok (.getfield 9, 3) := by decide +kernel
theorem dX6_ticksUntilServed_38 : decode cX6_ticksUntilServed 38 = .ok (.iconst 0, 1) := by decide +kernel
theorem dX6_ticksUntilServed_39 : decode cX6_ticksUntilServed 39 = .ok (.iaload, 1) := by decide +kernel
theorem dX6_ticksUntilServed_40 : decode cX6_ticksUntilServed 40 = .ok (.invokevirtual 200, 3) := by decide +kernel
theorem dX6_ticksUntilServed_43 : decode cX6_ticksUntilServed 43 = .ok (.iadd, 1) := by decide +kernel
theorem dX6_ticksUntilServed_44 : decode cX6_ticksUntilServed 44 = .ok (.istore_n 3, 1) := by decide +kernel
theorem dX6_ticksUntilServed_45 : decode cX6_ticksUntilServed 45 = .ok (.iload_n 3, 1) := by decide +kernel
theorem dX6_ticksUntilServed_46 : decode cX6_ticksUntilServed 46 = .ok (.aload_n 0, 1) := by decide +kernel
theorem dX6_ticksUntilServed_47 : decode cX6_ticksUntilServed 47 = .ok (.getfield 52, 3) := by decide +kernel
theorem dX6_ticksUntilServed_50 : decode cX6_ticksUntilServed 50 = .ok (.invokestatic 203, 3) := by decide +kernel
theorem dX6_ticksUntilServed_53 : decode cX6_ticksUntilServed 53 = .ok (.aload_n 0, 1) := by decide +kernel
theorem dX6_ticksUntilServed_54 : decode cX6_ticksUntilServed 54 = .ok (.getfield 52, 3) := by decide +kernel
theorem dX6_ticksUntilServed_57 : decode cX6_ticksUntilServed 57 = .ok (.isub, 1) := by decide +kernel
theorem dX6_ticksUntilServed_58 : decode cX6_ticksUntilServed 58 = .ok (.iconst 1, 1) := by decide +kernel
theorem dX6_ticksUntilServed_59 : decode cX6_ticksUntilServed 59 = .ok (.iadd, 1) := by decide +kernel
theorem dX6_ticksUntilServed_60 : decode cX6_ticksUntilServed 60 = .ok (.ireturn, 1) := by decide +kernel
theorem dX6_passUntilEmpty_0 : decode cX6_passUntilEmpty 0 = .ok (.aload_n 0, 1) := by decide +kernel
theorem dX6_passUntilEmpty_1 : decode cX6_passUntilEmpty 1 = .ok (.getfield 17, 3) := by decide +kernel
theorem dX6_passUntilEmpty_4 : decode cX6_passUntilEmpty 4 = .ok (.iload_n 1, 1) := by decide +kernel
theorem dX6_passUntilEmpty_5 : decode cX6_passUntilEmpty 5 = .ok (.aaload, 1) := by decide +kernel
theorem dX6_passUntilEmpty_6 : decode cX6_passUntilEmpty 6 = .ok (.getfield 168, 3) := by decide +kernel
theorem dX6_passUntilEmpty_9 : decode cX6_passUntilEmpty 9 = .ok (.astore_n 2, 1) := by decide +kernel
theorem dX6_passUntilEmpty_10 : decode cX6_passUntilEmpty 10 = .ok (.iconst 0, 1) := by decide +kernel
theorem dX6_passUntilEmpty_11 : decode cX6_passUntilEmpty 11 = .ok (.istore_n 3, 1) := by decide +kernel
theorem dX6_passUntilEmpty_12 : decode cX6_passUntilEmpty 12 = .ok (.iload_n 3, 1) := by decide +kernel
theorem dX6_passUntilEmpty_13 : decode cX6_passUntilEmpty 13 = .ok (.sipush 200, 3) := by decide +kernel
theorem dX6_passUntilEmpty_16 : decode cX6_passUntilEmpty 16 = .ok (.if_icmp .ge 23, 3) := by decide +kernel
theorem dX6_passUntilEmpty_19 : decode cX6_passUntilEmpty 19 = .ok (.aload_n 2, 1) := by decide +kernel
theorem dX6_passUntilEmpty_20 : decode cX6_passUntilEmpty 20 = .ok (.getfield 172, 3) := by decide +kernel
theorem dX6_passUntilEmpty_23 : decode cX6_passUntilEmpty 23 = .ok (.ifCond .ne 5, 3) := by decide +kernel
theorem dX6_passUntilEmpty_26 : decode cX6_passUntilEmpty 26 = .ok (.iload_n 3, 1) := by decide +kernel
theorem dX6_passUntilEmpty_27 : decode cX6_passUntilEmpty 27 = .ok (.ireturn, 1) := by decide +kernel
theorem dX6_passUntilEmpty_28 : decode cX6_passUntilEmpty 28 = .ok (.aload_n 0, 1) := by decide +kernel
theorem dX6_passUntilEmpty_29 : decode cX6_passUntilEmpty 29 = .ok (.invokevirtual 148, 3) := by decide +kernel
theorem dX6_passUntilEmpty_32 : decode cX6_passUntilEmpty 32 = .ok (.pop, 1) := by decide +kernel
theorem dX6_passUntilEmpty_33 : decode cX6_passUntilEmpty 33 = .ok (.iinc 3 1, 3) := by decide +kernel
theorem dX6_passUntilEmpty_36 : decode cX6_passUntilEmpty 36 = .ok (.goto (-24), 3) := by decide +kernel
theorem dX6_passUntilEmpty_39 : decode cX6_passUntilEmpty 39 = .ok (.aload_n 2, 1) := by decide +kernel
theorem dX6_passUntilEmpty_40 : decode cX6_passUntilEmpty 40 = .ok (.getfield 172, 3) := by decide +kernel
theorem dX6_passUntilEmpty_43 : decode cX6_passUntilEmpty 43 = .ok (.ifCond .ne 9, 3) := by decide +kernel
theorem dX6_passUntilEmpty_46 : decode cX6_passUntilEmpty 46 = .ok (.sipush 200, 3) := by decide +kernel
theorem dX6_passUntilEmpty_49 : decode cX6_passUntilEmpty 49 = .ok (.goto 4, 3) := by decide +kernel
theorem dX6_passUntilEmpty_52 : decode cX6_passUntilEmpty 52 = .ok (.iconst (-1), 1) := by decide +kernel
theorem dX6_passUntilEmpty_53 : decode cX6_passUntilEmpty 53 = .ok (.ireturn, 1) := by decide +kernel
theorem dX6_busiestLeaf_0 : decode cX6_busiestLeaf 0 = .ok (.iconst (-1), 1) := by decide +kernel
theorem dX6_busiestLeaf_1 : decode cX6_busiestLeaf 1 = .ok (.istore_n 1, 1) := by decide +kernel
theorem dX6_busiestLeaf_2 : decode cX6_busiestLeaf 2 = .ok (.iconst 0, 1) := by decide +kernel
theorem dX6_busiestLeaf_3 : decode cX6_busiestLeaf 3 = .ok (.istore_n 2, 1) := by decide +kernel
theorem dX6_busiestLeaf_4 : decode cX6_busiestLeaf 4 = .ok (.iconst 0, 1) := by decide +kernel
theorem dX6_busiestLeaf_5 : decode cX6_busiestLeaf 5 = .ok (.istore_n 3, 1) := by decide +kernel
theorem dX6_busiestLeaf_6 : decode cX6_busiestLeaf 6 = .ok (.iload_n 3, 1) := by decide +kernel
theorem dX6_busiestLeaf_7 : decode cX6_busiestLeaf 7 = .ok (.bipush 16, 2) := by decide +kernel
theorem dX6_busiestLeaf_9 : decode cX6_busiestLeaf 9 = .ok (.if_icmp .ge 27, 3) := by decide +kernel
theorem dX6_busiestLeaf_12 : decode cX6_busiestLeaf 12 = .ok (.aload_n 0, 1) := by decide +kernel
theorem dX6_busiestLeaf_13 : decode cX6_busiestLeaf 13 = .ok (.iload_n 3, 1) := by decide +kernel
theorem dX6_busiestLeaf_14 : decode cX6_busiestLeaf 14 = .ok (.invokevirtual 206, 3) := by decide +kernel
theorem dX6_busiestLeaf_17 : decode cX6_busiestLeaf 17 = .ok (.istore 4, 2) := by decide +kernel
theorem dX6_busiestLeaf_19 : decode cX6_busiestLeaf 19 = .ok (.iload 4, 2) := by decide +kernel
theorem dX6_busiestLeaf_21 : decode cX6_busiestLeaf 21 = .ok (.iload_n 2, 1) := by decide +kernel
theorem dX6_busiestLeaf_22 : decode cX6_busiestLeaf 22 = .ok (.if_icmp .le 8, 3) := by decide +kernel
theorem dX6_busiestLeaf_25 : decode cX6_busiestLeaf 25 = .ok (.iload_n 3, 1) := by decide +kernel
theorem dX6_busiestLeaf_26 : decode cX6_busiestLeaf 26 = .ok (.istore_n 1, 1) := by decide +kernel
theorem dX6_busiestLeaf_27 : decode cX6_busiestLeaf 27 = .ok (.iload 4, 2) := by decide +kernel
theorem dX6_busiestLeaf_29 : decode cX6_busiestLeaf 29 = .ok (.istore_n 2, 1) := by decide +kernel
theorem dX6_busiestLeaf_30 : decode cX6_busiestLeaf 30 = .ok (.iinc 3 1, 3) := by decide +kernel
theorem dX6_busiestLeaf_33 : decode cX6_busiestLeaf 33 = .ok (.goto (-27), 3) := by decide +kernel
theorem dX6_busiestLeaf_36 : decode cX6_busiestLeaf 36 = .ok (.iload_n 1, 1) := by decide +kernel
theorem dX6_busiestLeaf_37 : decode cX6_busiestLeaf 37 = .ok (.ireturn, 1) := by decide +kernel
theorem dX6_valueOfEvent_0 : decode cX6_valueOfEvent 0 = .ok (.iload_n 2, 1) := by decide +kernel
theorem dX6_valueOfEvent_1 : decode cX6_valueOfEvent 1 = .ok (.bipush 6, 2) := by decide +kernel
theorem dX6_valueOfEvent_3 : decode cX6_valueOfEvent 3 = .ok (.if_icmp .ge 15, 3) := by decide +kernel
theorem dX6_valueOfEvent_6 : decode cX6_valueOfEvent 6 = .ok (.aload_n 0, 1) := by decide +kernel
theorem dX6_valueOfEvent_7 : decode cX6_valueOfEvent 7 = .ok (.getfield 24, 3) := by decide +kernel
theorem dX6_valueOfEvent_10 : decode cX6_valueOfEvent 10 = .ok (.iload_n 1, 1) := by decide +kernel
theorem dX6_valueOfEvent_11 : decode cX6_valueOfEvent 11 = .ok (.iload_n 2, 1) := by decide +kernel
theorem dX6_valueOfEvent_12 : decode cX6_valueOfEvent 12 = .ok (.invokevirtual 209, 3) := by decide +kernel
theorem dX6_valueOfEvent_15 : decode cX6_valueOfEvent 15 = .ok (.goto 8, 3) := by decide +kernel
theorem dX6_valueOfEvent_18 : decode cX6_valueOfEvent 18 = .ok (.aload_n 0, 1) := by decide +kernel
theorem dX6_valueOfEvent_19 : decode cX6_valueOfEvent 19 = .ok (.iload_n 1, 1) := by decide +kernel
theorem dX6_valueOfEvent_20 : decode cX6_valueOfEvent 20 = .ok (.invokevirtual 212, 3) := by decide +kernel
theorem dX6_valueOfEvent_23 : decode cX6_valueOfEvent 23 = .ok (.ireturn, 1) := by decide +kernel
theorem dX6_inboxesWith_0 : decode cX6_inboxesWith 0 = .ok (.iconst 0, 1) := by decide +kernel
theorem dX6_inboxesWith_1 : decode cX6_inboxesWith 1 = .ok (.istore_n 2, 1) := by decide +kernel
theorem dX6_inboxesWith_2 : decode cX6_inboxesWith 2 = .ok (.iconst 0, 1) := by decide +kernel
theorem dX6_inboxesWith_3 : decode cX6_inboxesWith 3 = .ok (.istore_n 3, 1) := by decide +kernel
theorem dX6_inboxesWith_4 : decode cX6_inboxesWith 4 = .ok (.iload_n 3, 1) := by decide +kernel
theorem dX6_inboxesWith_5 : decode cX6_inboxesWith 5 = .ok (.aload_n 0, 1) := by decide +kernel
theorem dX6_inboxesWith_6 : decode cX6_inboxesWith 6 = .ok (.getfield 48, 3) := by decide +kernel
theorem dX6_inboxesWith_9 : decode cX6_inboxesWith 9 = .ok (.if_icmp .ge 28, 3) := by decide +kernel
theorem dX6_inboxesWith_12 : decode cX6_inboxesWith 12 = .ok (.aload_n 0, 1) := by decide +kernel
theorem dX6_inboxesWith_13 : decode cX6_inboxesWith 13 = .ok (.getfield 17, 3) := by decide +kernel
theorem dX6_inboxesWith_16 : decode cX6_inboxesWith 16 = .ok (.iload_n 3, 1) := by decide +kernel
theorem dX6_inboxesWith_17 : decode cX6_inboxesWith 17 = .ok (.aaload, 1) := by decide +kernel
theorem dX6_inboxesWith_18 : decode cX6_inboxesWith 18 = .ok (.getfield 168, 3) := by decide +kernel
theorem dX6_inboxesWith_21 : decode cX6_inboxesWith 21 = .ok (.iload_n 1, 1) := by decide +kernel
theorem dX6_inboxesWith_22 : decode cX6_inboxesWith 22 = .ok (.invokevirtual 215, 3) := by decide +kernel
theorem dX6_inboxesWith_25 : decode cX6_inboxesWith 25 = .ok (.ifCond .eq 6, 3) := by decide +kernel
theorem dX6_inboxesWith_28 : decode cX6_inboxesWith 28 = .ok (.iinc 2 1, 3) := by decide +kernel
theorem dX6_inboxesWith_31 : decode cX6_inboxesWith 31 = .ok (.iinc 3 1, 3) := by decide +kernel
theorem dX6_inboxesWith_34 : decode cX6_inboxesWith 34 = .ok (.goto (-30), 3) := by decide +kernel
theorem dX6_inboxesWith_37 : decode cX6_inboxesWith 37 = .ok (.iload_n 2, 1) := by decide +kernel
theorem dX6_inboxesWith_38 : decode cX6_inboxesWith 38 = .ok (.ireturn, 1) := by decide +kernel
theorem dX6_valueOfLeaf_0 : decode cX6_valueOfLeaf 0 = .ok (.iload_n 2, 1) := by decide +kernel
theorem dX6_valueOfLeaf_1 : decode cX6_valueOfLeaf 1 = .ok (.tableswitch 46 0 2 #[27, 33, 40], 27) := by decide +kernel
theorem dX6_valueOfLeaf_28 : decode cX6_valueOfLeaf 28 = .ok (.aload_n 0, 1) := by decide +kernel
theorem dX6_valueOfLeaf_29 : decode cX6_valueOfLeaf 29 = .ok (.iload_n 1, 1) := by decide +kernel
theorem dX6_valueOfLeaf_30 : decode cX6_valueOfLeaf 30 = .ok (.invokevirtual 218, 3) := by decide +kernel
theorem dX6_valueOfLeaf_33 : decode cX6_valueOfLeaf 33 = .ok (.ireturn, 1) := by decide +kernel
theorem dX6_valueOfLeaf_34 : decode cX6_valueOfLeaf 34 = .ok (.aload_n 0, 1) := by decide +kernel
theorem dX6_valueOfLeaf_35 : decode cX6_valueOfLeaf 35 = .ok (.getfield 28, 3) := by decide +kernel
theorem dX6_valueOfLeaf_38 : decode cX6_valueOfLeaf 38 = .ok (.iload_n 1, 1) := by decide +kernel
theorem dX6_valueOfLeaf_39 : decode cX6_valueOfLeaf 39 = .ok (.iaload, 1) := by decide +kernel
theorem dX6_valueOfLeaf_40 : decode cX6_valueOfLeaf 40 = .ok (.ireturn, 1) := by decide +kernel
theorem dX6_valueOfLeaf_41 : decode cX6_valueOfLeaf 41 = .ok (.aload_n 0, 1) := by decide +kernel
theorem dX6_valueOfLeaf_42 : decode cX6_valueOfLeaf 42 = .ok (.iload_n 1, 1) := by decide +kernel
theorem dX6_valueOfLeaf_43 : decode cX6_valueOfLeaf 43 = .ok (.invokevirtual 206, 3) := by decide +kernel
theorem dX6_valueOfLeaf_46 : decode cX6_valueOfLeaf 46 = .ok (.ireturn, 1) := by decide +kernel
theorem dX6_valueOfLeaf_47 : decode cX6_valueOfLeaf 47 = .ok (.aload_n 0, 1) := by decide +kernel
theorem dX6_valueOfLeaf_48 : decode cX6_valueOfLeaf 48 = .ok (.iload_n 1, 1) := by decide +kernel
theorem dX6_valueOfLeaf_49 : decode cX6_valueOfLeaf 49 = .ok (.invokevirtual 221, 3) := by decide +kernel
theorem dX6_valueOfLeaf_52 : decode cX6_valueOfLeaf 52 = .ok (.ireturn, 1) := by decide +kernel
theorem dX6_servedBy_0 : decode cX6_servedBy 0 = .ok (.iconst 0, 1) := by decide +kernel
theorem dX6_servedBy_1 : decode cX6_servedBy 1 = .ok (.istore_n 2, 1) := by decide +kernel
theorem dX6_servedBy_2 : decode cX6_servedBy 2 = .ok (.iconst 0, 1) := by decide +kernel
theorem dX6_servedBy_3 : decode cX6_servedBy 3 = .ok (.istore_n 3, 1) := by decide +kernel
theorem dX6_servedBy_4 : decode cX6_servedBy 4 = .ok (.iload_n 3, 1) := by decide +kernel
theorem dX6_servedBy_5 : decode cX6_servedBy 5 = .ok (.aload_n 0, 1) := by decide +kernel
theorem dX6_servedBy_6 : decode cX6_servedBy 6 = .ok (.getfield 48, 3) := by decide +kernel
theorem dX6_servedBy_9 : decode cX6_servedBy 9 = .ok (.if_icmp .ge 37, 3) := by decide +kernel
theorem dX6_servedBy_12 : decode cX6_servedBy 12 = .ok (.aload_n 0, 1) := by decide +kernel
theorem dX6_servedBy_13 : decode cX6_servedBy 13 = .ok (.getfield 17, 3) := by decide +kernel
theorem dX6_servedBy_16 : decode cX6_servedBy 16 = .ok (.iload_n 3, 1) := by decide +kernel
theorem dX6_servedBy_17 : decode cX6_servedBy 17 = .ok (.aaload, 1) := by decide +kernel
theorem dX6_servedBy_18 : decode cX6_servedBy 18 = .ok (.astore 4, 2) := by decide +kernel
theorem dX6_servedBy_20 : decode cX6_servedBy 20 = .ok (.aload 4, 2) := by decide +kernel
theorem dX6_servedBy_22 : decode cX6_servedBy 22 = .ok (.getfield 115, 3) := by decide +kernel
theorem dX6_servedBy_25 : decode cX6_servedBy 25 = .ok (.ifCond .eq 15, 3) := by decide +kernel
theorem dX6_servedBy_28 : decode cX6_servedBy 28 = .ok (.aload 4, 2) := by decide +kernel
theorem dX6_servedBy_30 : decode cX6_servedBy 30 = .ok (.getfield 165, 3) := by decide +kernel
theorem dX6_servedBy_33 : decode cX6_servedBy 33 = .ok (.iload_n 1, 1) := by decide +kernel
theorem dX6_servedBy_34 : decode cX6_servedBy 34 = .ok (.if_icmp .ne 6, 3) := by decide +kernel
theorem dX6_servedBy_37 : decode cX6_servedBy 37 = .ok (.iinc 2 1, 3) := by decide +kernel
theorem dX6_servedBy_40 : decode cX6_servedBy 40 = .ok (.iinc 3 1, 3) := by decide +kernel
theorem dX6_servedBy_43 : decode cX6_servedBy 43 = .ok (.goto (-39), 3) := by decide +kernel
theorem dX6_servedBy_46 : decode cX6_servedBy 46 = .ok (.iload_n 2, 1) := by decide +kernel
theorem dX6_servedBy_47 : decode cX6_servedBy 47 = .ok (.ireturn, 1) := by decide +kernel
theorem dX6_standingIn_0 : decode cX6_standingIn 0 = .ok (.iconst 0, 1) := by decide +kernel
theorem dX6_standingIn_1 : decode cX6_standingIn 1 = .ok (.istore_n 2, 1) := by decide +kernel
theorem dX6_standingIn_2 : decode cX6_standingIn 2 = .ok (.iconst 0, 1) := by decide +kernel
theorem dX6_standingIn_3 : decode cX6_standingIn 3 = .ok (.istore_n 3, 1) := by decide +kernel
theorem dX6_standingIn_4 : decode cX6_standingIn 4 = .ok (.iload_n 3, 1) := by decide +kernel
theorem dX6_standingIn_5 : decode cX6_standingIn 5 = .ok (.aload_n 0, 1) := by decide +kernel
theorem dX6_standingIn_6 : decode cX6_standingIn 6 = .ok (.getfield 48, 3) := by decide +kernel
theorem dX6_standingIn_9 : decode cX6_standingIn 9 = .ok (.if_icmp .ge 37, 3) := by decide +kernel
theorem dX6_standingIn_12 : decode cX6_standingIn 12 = .ok (.aload_n 0, 1) := by decide +kernel
theorem dX6_standingIn_13 : decode cX6_standingIn 13 = .ok (.getfield 17, 3) := by decide +kernel
theorem dX6_standingIn_16 : decode cX6_standingIn 16 = .ok (.iload_n 3, 1) := by decide +kernel
theorem dX6_standingIn_17 : decode cX6_standingIn 17 = .ok (.aaload, 1) := by decide +kernel
theorem dX6_standingIn_18 : decode cX6_standingIn 18 = .ok (.astore 4, 2) := by decide +kernel
theorem dX6_standingIn_20 : decode cX6_standingIn 20 = .ok (.aload 4, 2) := by decide +kernel
theorem dX6_standingIn_22 : decode cX6_standingIn 22 = .ok (.getfield 115, 3) := by decide +kernel
theorem dX6_standingIn_25 : decode cX6_standingIn 25 = .ok (.ifCond .eq 15, 3) := by decide +kernel
theorem dX6_standingIn_28 : decode cX6_standingIn 28 = .ok (.aload 4, 2) := by decide +kernel
theorem dX6_standingIn_30 : decode cX6_standingIn 30 = .ok (.getfield 194, 3) := by decide +kernel
theorem dX6_standingIn_33 : decode cX6_standingIn 33 = .ok (.iload_n 1, 1) := by decide +kernel
theorem dX6_standingIn_34 : decode cX6_standingIn 34 = .ok (.if_icmp .ne 6, 3) := by decide +kernel
theorem dX6_standingIn_37 : decode cX6_standingIn 37 = .ok (.iinc 2 1, 3) := by decide +kernel
theorem dX6_standingIn_40 : decode cX6_standingIn 40 = .ok (.iinc 3 1, 3) := by decide +kernel
theorem dX6_standingIn_43 : decode cX6_standingIn 43 = .ok (.goto (-39), 3) := by decide +kernel
theorem dX6_standingIn_46 : decode cX6_standingIn 46 = .ok (.iload_n 2, 1) := by decide +kernel
theorem dX6_standingIn_47 : decode cX6_standingIn 47 = .ok (.ireturn, 1) := by decide +kernel
theorem dX6_waitingIn_0 : decode cX6_waitingIn 0 = .ok (.iconst 0, 1) := by decide +kernel
theorem dX6_waitingIn_1 : decode cX6_waitingIn 1 = .ok (.istore_n 2, 1) := by decide +kernel
theorem dX6_waitingIn_2 : decode cX6_waitingIn 2 = .ok (.iconst 0, 1) := by decide +kernel
theorem dX6_waitingIn_3 : decode cX6_waitingIn 3 = .ok (.istore_n 3, 1) := by decide +kernel
theorem dX6_waitingIn_4 : decode cX6_waitingIn 4 = .ok (.iload_n 3, 1) := by decide +kernel
theorem dX6_waitingIn_5 : decode cX6_waitingIn 5 = .ok (.aload_n 0, 1) := by decide +kernel
theorem dX6_waitingIn_6 : decode cX6_waitingIn 6 = .ok (.getfield 48, 3) := by decide +kernel
theorem dX6_waitingIn_9 : decode cX6_waitingIn 9 = .ok (.if_icmp .ge 37, 3) := by decide +kernel
theorem dX6_waitingIn_12 : decode cX6_waitingIn 12 = .ok (.aload_n 0, 1) := by decide +kernel
theorem dX6_waitingIn_13 : decode cX6_waitingIn 13 = .ok (.getfield 17, 3) := by decide +kernel
theorem dX6_waitingIn_16 : decode cX6_waitingIn 16 = .ok (.iload_n 3, 1) := by decide +kernel
theorem dX6_waitingIn_17 : decode cX6_waitingIn 17 = .ok (.aaload, 1) := by decide +kernel
theorem dX6_waitingIn_18 : decode cX6_waitingIn 18 = .ok (.getfield 165, 3) := by decide +kernel
theorem dX6_waitingIn_21 : decode cX6_waitingIn 21 = .ok (.iload_n 1, 1) := by decide +kernel
theorem dX6_waitingIn_22 : decode cX6_waitingIn 22 = .ok (.if_icmp .ne 18, 3) := by decide +kernel
theorem dX6_waitingIn_25 : decode cX6_waitingIn 25 = .ok (.iload_n 2, 1) := by decide +kernel
theorem dX6_waitingIn_26 : decode cX6_waitingIn 26 = .ok (.aload_n 0, 1) := by decide +kernel
theorem dX6_waitingIn_27 : decode cX6_waitingIn 27 = .ok (.getfield 17, 3) := by decide +kernel
theorem dX6_waitingIn_30 : decode cX6_waitingIn 30 = .ok (.iload_n 3, 1) := by decide +kernel
theorem dX6_waitingIn_31 : decode cX6_waitingIn 31 = .ok (.aaload, 1) := by decide +kernel
theorem dX6_waitingIn_32 : decode cX6_waitingIn 32 = .ok (.getfield 168, 3) := by decide +kernel
theorem dX6_waitingIn_35 : decode cX6_waitingIn 35 = .ok (.getfield 172, 3) := by decide +kernel
theorem dX6_waitingIn_38 : decode cX6_waitingIn 38 = .ok (.iadd, 1) := by decide +kernel
theorem dX6_waitingIn_39 : decode cX6_waitingIn 39 = .ok (.istore_n 2, 1) := by decide +kernel
theorem dX6_waitingIn_40 : decode cX6_waitingIn 40 = .ok (.iinc 3 1, 3) := by decide +kernel
theorem dX6_waitingIn_43 : decode cX6_waitingIn 43 = .ok (.goto (-39), 3) := by decide +kernel
theorem dX6_waitingIn_46 : decode cX6_waitingIn 46 = .ok (.iload_n 2, 1) := by decide +kernel
theorem dX6_waitingIn_47 : decode cX6_waitingIn 47 = .ok (.ireturn, 1) := by decide +kernel
theorem dX6_valueOfWhole_0 : decode cX6_valueOfWhole 0 = .ok (.iload_n 1, 1) := by decide +kernel
theorem dX6_valueOfWhole_1 : decode cX6_valueOfWhole 1 = .ok (.tableswitch 124 0 11 #[63, 68, 74, 82, 87, 87, 87, 87, 96, 103, 110, 117], 63) := by decide +kernel
theorem dX6_valueOfWhole_64 : decode cX6_valueOfWhole 64 = .ok (.aload_n 0, 1) := by decide +kernel
theorem dX6_valueOfWhole_65 : decode cX6_valueOfWhole 65 = .ok (.getfield 48, 3) := by decide +kernel
theorem dX6_valueOfWhole_68 : decode cX6_valueOfWhole 68 = .ok (.ireturn, 1) := by decide +kernel
theorem dX6_valueOfWhole_69 : decode cX6_valueOfWhole 69 = .ok (.aload_n 0, 1) := by decide +kernel
theorem dX6_valueOfWhole_70 : decode cX6_valueOfWhole 70 = .ok (.iconst 5, 1) := by decide +kernel
theorem dX6_valueOfWhole_71 : decode cX6_valueOfWhole 71 = .ok (.invokevirtual 224, 3) := by decide +kernel
theorem dX6_valueOfWhole_74 : decode cX6_valueOfWhole 74 = .ok (.ireturn, 1) := by decide +kernel
theorem dX6_valueOfWhole_75 : decode cX6_valueOfWhole 75 = .ok (.aload_n 0, 1) := by decide +kernel
theorem dX6_valueOfWhole_76 : decode cX6_valueOfWhole 76 = .ok (.getfield 24, 3) := by decide +kernel
theorem dX6_valueOfWhole_79 : decode cX6_valueOfWhole 79 = .ok (.getfield 125, 3) := by decide +kernel
theorem dX6_valueOfWhole_82 : decode cX6_valueOfWhole 82 = .ok (.ireturn, 1) := by decide +kernel
theorem dX6_valueOfWhole_83 : decode cX6_valueOfWhole 83 = .ok (.aload_n 0, 1) := by decide +kernel
theorem dX6_valueOfWhole_84 : decode cX6_valueOfWhole 84 = .ok (.getfield 52, 3) := by decide +kernel
theorem dX6_valueOfWhole_87 : decode cX6_valueOfWhole 87 = .ok (.ireturn, 1) := by decide +kernel
theorem dX6_valueOfWhole_88 : decode cX6_valueOfWhole 88 = .ok (.aload_n 0, 1) := by decide +kernel
theorem dX6_valueOfWhole_89 : decode cX6_valueOfWhole 89 = .ok (.getfield 9, 3) := by decide +kernel
theorem dX6_valueOfWhole_92 : decode cX6_valueOfWhole 92 = .ok (.iload_n 1, 1) := by decide +kernel
theorem dX6_valueOfWhole_93 : decode cX6_valueOfWhole 93 = .ok (.iconst 4, 1) := by decide +kernel
theorem dX6_valueOfWhole_94 : decode cX6_valueOfWhole 94 = .ok (.isub, 1) := by decide +kernel
theorem dX6_valueOfWhole_95 : decode cX6_valueOfWhole 95 = .ok (.iaload, 1) := by decide +kernel
theorem dX6_valueOfWhole_96 : decode cX6_valueOfWhole 96 = .ok (.ireturn, 1) := by decide +kernel
theorem dX6_valueOfWhole_97 : decode cX6_valueOfWhole 97 = .ok (.aload_n 0, 1) := by decide +kernel
theorem dX6_valueOfWhole_98 : decode cX6_valueOfWhole 98 = .ok (.bipush 6, 2) := by decide +kernel
theorem dX6_valueOfWhole_100 : decode cX6_valueOfWhole 100 = .ok (.invokevirtual 224, 3) := by decide +kernel
theorem dX6_valueOfWhole_103 : decode cX6_valueOfWhole 103 = .ok (.ireturn, 1) := by decide +kernel
theorem dX6_valueOfWhole_104 : decode cX6_valueOfWhole 104 = .ok (.aload_n 0, 1) := by decide +kernel
theorem dX6_valueOfWhole_105 : decode cX6_valueOfWhole 105 = .ok (.bipush 8, 2) := by decide +kernel
theorem dX6_valueOfWhole_107 : decode cX6_valueOfWhole 107 = .ok (.invokevirtual 224, 3) := by decide +kernel
theorem dX6_valueOfWhole_110 : decode cX6_valueOfWhole 110 = .ok (.ireturn, 1) := by decide +kernel
theorem dX6_valueOfWhole_111 : decode cX6_valueOfWhole 111 = .ok (.aload_n 0, 1) := by decide +kernel
theorem dX6_valueOfWhole_112 : decode cX6_valueOfWhole 112 = .ok (.bipush 9, 2) := by decide +kernel
theorem dX6_valueOfWhole_114 : decode cX6_valueOfWhole 114 = .ok (.invokevirtual 224, 3) := by decide +kernel
theorem dX6_valueOfWhole_117 : decode cX6_valueOfWhole 117 = .ok (.ireturn, 1) := by decide +kernel
theorem dX6_valueOfWhole_118 : decode cX6_valueOfWhole 118 = .ok (.aload_n 0, 1) := by decide +kernel
theorem dX6_valueOfWhole_119 : decode cX6_valueOfWhole 119 = .ok (.bipush 12, 2) := by decide +kernel
theorem dX6_valueOfWhole_121 : decode cX6_valueOfWhole 121 = .ok (.invokevirtual 224, 3) := by decide +kernel
theorem dX6_valueOfWhole_124 : decode cX6_valueOfWhole 124 = .ok (.ireturn, 1) := by decide +kernel
theorem dX6_valueOfWhole_125 : decode cX6_valueOfWhole 125 = .ok (.aload_n 0, 1) := by decide +kernel
theorem dX6_valueOfWhole_126 : decode cX6_valueOfWhole 126 = .ok (.bipush 10, 2) := by decide +kernel
theorem dX6_valueOfWhole_128 : decode cX6_valueOfWhole 128 = .ok (.invokevirtual 224, 3) := by decide +kernel
theorem dX6_valueOfWhole_131 : decode cX6_valueOfWhole 131 = .ok (.ireturn, 1) := by decide +kernel
theorem dX6_sumOf_0 : decode cX6_sumOf 0 = .ok (.iconst 0, 1) := by decide +kernel
theorem dX6_sumOf_1 : decode cX6_sumOf 1 = .ok (.istore_n 2, 1) := by decide +kernel
theorem dX6_sumOf_2 : decode cX6_sumOf 2 = .ok (.iconst 0, 1) := by decide +kernel
theorem dX6_sumOf_3 : decode cX6_sumOf 3 = .ok (.istore_n 3, 1) := by decide +kernel
theorem dX6_sumOf_4 : decode cX6_sumOf 4 = .ok (.iload_n 3, 1) := by decide +kernel
theorem dX6_sumOf_5 : decode cX6_sumOf 5 = .ok (.aload_n 0, 1) := by decide +kernel
theorem dX6_sumOf_6 : decode cX6_sumOf 6 = .ok (.getfield 48, 3) := by decide +kernel
theorem dX6_sumOf_9 : decode cX6_sumOf 9 = .ok (.if_icmp .ge 22, 3) := by decide +kernel
theorem dX6_sumOf_12 : decode cX6_sumOf 12 = .ok (.iload_n 2, 1) := by decide +kernel
theorem dX6_sumOf_13 : decode cX6_sumOf 13 = .ok (.aload_n 0, 1) := by decide +kernel
theorem dX6_sumOf_14 : decode cX6_sumOf 14 = .ok (.getfield 17, 3) := by decide +kernel
theorem dX6_sumOf_17 : decode cX6_sumOf 17 = .ok (.iload_n 3, 1) := by decide +kernel
theorem dX6_sumOf_18 : decode cX6_sumOf 18 = .ok (.aaload, 1) := by decide +kernel
theorem dX6_sumOf_19 : decode cX6_sumOf 19 = .ok (.iload_n 1, 1) := by decide +kernel
theorem dX6_sumOf_20 : decode cX6_sumOf 20 = .ok (.invokevirtual 227, 3) := by decide +kernel
theorem dX6_sumOf_23 : decode cX6_sumOf 23 = .ok (.iadd, 1) := by decide +kernel
theorem dX6_sumOf_24 : decode cX6_sumOf 24 = .ok (.istore_n 2, 1) := by decide +kernel
theorem dX6_sumOf_25 : decode cX6_sumOf 25 = .ok (.iinc 3 1, 3) := by decide +kernel
theorem dX6_sumOf_28 : decode cX6_sumOf 28 = .ok (.goto (-24), 3) := by decide +kernel
theorem dX6_sumOf_31 : decode cX6_sumOf 31 = .ok (.iload_n 2, 1) := by decide +kernel
theorem dX6_sumOf_32 : decode cX6_sumOf 32 = .ok (.ireturn, 1) := by decide +kernel
theorem dX7_init_0 : decode cX7_init 0 = .ok (.aload_n 0, 1) := by decide +kernel
theorem dX7_init_1 : decode cX7_init 1 = .ok (.invokespecial 1, 3) := by decide +kernel
theorem dX7_init_4 : decode cX7_init 4 = .ok (.aload_n 0, 1) := by decide +kernel
theorem dX7_init_5 : decode cX7_init 5 = .ok (.new 7, 3) := by decide +kernel
theorem dX7_init_8 : decode cX7_init 8 = .ok (.dup, 1) := by decide +kernel
theorem dX7_init_9 : decode cX7_init 9 = .ok (.invokespecial 9, 3) := by decide +kernel
theorem dX7_init_12 : decode cX7_init 12 = .ok (.putfield 10, 3) := by decide +kernel
theorem dX7_init_15 : decode cX7_init 15 = .ok (.aload_n 0, 1) := by decide +kernel
theorem dX7_init_16 : decode cX7_init 16 = .ok (.new 7, 3) := by decide +kernel
theorem dX7_init_19 : decode cX7_init 19 = .ok (.dup, 1) := by decide +kernel
theorem dX7_init_20 : decode cX7_init 20 = .ok (.invokespecial 9, 3) := by decide +kernel
theorem dX7_init_23 : decode cX7_init 23 = .ok (.putfield 16, 3) := by decide +kernel
theorem dX7_init_26 : decode cX7_init 26 = .ok (.aload_n 0, 1) := by decide +kernel
theorem dX7_init_27 : decode cX7_init 27 = .ok (.new 19, 3) := by decide +kernel
theorem dX7_init_30 : decode cX7_init 30 = .ok (.dup, 1) := by decide +kernel
theorem dX7_init_31 : decode cX7_init 31 = .ok (.invokespecial 21, 3) := by decide +kernel
theorem dX7_init_34 : decode cX7_init 34 = .ok (.putfield 22, 3) := by decide +kernel
theorem dX7_init_37 : decode cX7_init 37 = .ok (.aload_n 0, 1) := by decide +kernel
theorem dX7_init_38 : decode cX7_init 38 = .ok (.new 26, 3) := by decide +kernel
theorem dX7_init_41 : decode cX7_init 41 = .ok (.dup, 1) := by decide +kernel
theorem dX7_init_42 : decode cX7_init 42 = .ok (.invokespecial 28, 3) := by decide +kernel
theorem dX7_init_45 : decode cX7_init 45 = .ok (.putfield 29, 3) := by decide +kernel
theorem dX7_init_48 : decode cX7_init 48 = .ok (.return_, 1) := by decide +kernel
theorem dX7_subscribe_0 : decode cX7_subscribe 0 = .ok (.aload_n 0, 1) := by decide +kernel
theorem dX7_subscribe_1 : decode cX7_subscribe 1 = .ok (.iconst 0, 1) := by decide +kernel
theorem dX7_subscribe_2 : decode cX7_subscribe 2 = .ok (.iload_n 1, 1) := by decide +kernel
theorem dX7_subscribe_3 : decode cX7_subscribe 3 = .ok (.iload_n 2, 1) := by decide +kernel
theorem dX7_subscribe_4 : decode cX7_subscribe 4 = .ok (.iload_n 3, 1) := by decide +kernel
theorem dX7_subscribe_5 : decode cX7_subscribe 5 = .ok (.invokevirtual 33, 3) := by decide +kernel
theorem dX7_subscribe_8 : decode cX7_subscribe 8 = .ok (.ireturn, 1) := by decide +kernel
theorem dX7_move_0 : decode cX7_move 0 = .ok (.aload_n 0, 1) := by decide +kernel
theorem dX7_move_1 : decode cX7_move 1 = .ok (.iconst 1, 1) := by decide +kernel
theorem dX7_move_2 : decode cX7_move 2 = .ok (.iload_n 1, 1) := by decide +kernel
theorem dX7_move_3 : decode cX7_move 3 = .ok (.iload_n 2, 1) := by decide +kernel
theorem dX7_move_4 : decode cX7_move 4 = .ok (.iconst 0, 1) := by decide +kernel
theorem dX7_move_5 : decode cX7_move 5 = .ok (.invokevirtual 33, 3) := by decide +kernel
theorem dX7_move_8 : decode cX7_move 8 = .ok (.ireturn, 1) := by decide +kernel
theorem dX7_leave_0 : decode cX7_leave 0 = .ok (.aload_n 0, 1) := by decide +kernel
theorem dX7_leave_1 : decode cX7_leave 1 = .ok (.iconst 2, 1) := by decide +kernel
theorem dX7_leave_2 : decode cX7_leave 2 = .ok (.iload_n 1, 1) := by decide +kernel
theorem dX7_leave_3 : decode cX7_leave 3 = .ok (.iconst 0, 1) := by decide +kernel
theorem dX7_leave_4 : decode cX7_leave 4 = .ok (.iconst 0, 1) := by decide +kernel
theorem dX7_leave_5 : decode cX7_leave 5 = .ok (.invokevirtual 33, 3) := by decide +kernel
theorem dX7_leave_8 : decode cX7_leave 8 = .ok (.ireturn, 1) := by decide +kernel
theorem dX7_setLevel_0 : decode cX7_setLevel 0 = .ok (.aload_n 0, 1) := by decide +kernel
theorem dX7_setLevel_1 : decode cX7_setLevel 1 = .ok (.bipush 7, 2) := by decide +kernel
theorem dX7_setLevel_3 : decode cX7_setLevel 3 = .ok (.iload_n 1, 1) := by decide +kernel
theorem dX7_setLevel_4 : decode cX7_setLevel 4 = .ok (.iload_n 2, 1) := by decide +kernel
theorem dX7_setLevel_5 : decode cX7_setLevel 5 = .ok (.iconst 0, 1) := by decide +kernel
theorem dX7_setLevel_6 : decode cX7_setLevel 6 = .ok (.invokevirtual 33, 3) := by decide +kernel
theorem dX7_setLevel_9 : decode cX7_setLevel 9 = .ok (.ireturn, 1) := by decide +kernel
theorem dX7_set_0 : decode cX7_set 0 = .ok (.aload_n 0, 1) := by decide +kernel
theorem dX7_set_1 : decode cX7_set 1 = .ok (.iconst 5, 1) := by decide +kernel
theorem dX7_set_2 : decode cX7_set 2 = .ok (.iload_n 1, 1) := by decide +kernel
theorem dX7_set_3 : decode cX7_set 3 = .ok (.iload_n 2, 1) := by decide +kernel
theorem dX7_set_4 : decode cX7_set 4 = .ok (.iconst 0, 1) := by decide +kernel
theorem dX7_set_5 : decode cX7_set 5 = .ok (.invokevirtual 33, 3) := by decide +kernel
theorem dX7_set_8 : decode cX7_set 8 = .ok (.ireturn, 1) := by decide +kernel
theorem dX7_publish_0 : decode cX7_publish 0 = .ok (.aload_n 0, 1) := by decide +kernel
theorem dX7_publish_1 : decode cX7_publish 1 = .ok (.iconst 4, 1) := by decide +kernel
theorem dX7_publish_2 : decode cX7_publish 2 = .ok (.iload_n 1, 1) := by decide +kernel
theorem dX7_publish_3 : decode cX7_publish 3 = .ok (.iload_n 2, 1) := by decide +kernel
theorem dX7_publish_4 : decode cX7_publish 4 = .ok (.iload_n 3, 1) := by decide +kernel
theorem dX7_publish_5 : decode cX7_publish 5 = .ok (.invokevirtual 33, 3) := by decide +kernel
theorem dX7_publish_8 : decode cX7_publish 8 = .ok (.ireturn, 1) := by decide +kernel
theorem dX7_pass_0 : decode cX7_pass 0 = .ok (.aload_n 0, 1) := by decide +kernel
theorem dX7_pass_1 : decode cX7_pass 1 = .ok (.bipush 6, 2) := by decide +kernel
theorem dX7_pass_3 : decode cX7_pass 3 = .ok (.iload_n 1, 1) := by decide +kernel
theorem dX7_pass_4 : decode cX7_pass 4 = .ok (.iconst 0, 1) := by decide +kernel
theorem dX7_pass_5 : decode cX7_pass 5 = .ok (.iconst 0, 1) := by decide +kernel
theorem dX7_pass_6 : decode cX7_pass 6 = .ok (.invokevirtual 33, 3) := by decide +kernel
theorem dX7_pass_9 : decode cX7_pass 9 = .ok (.ireturn, 1) := by decide +kernel
theorem dX7_subscriber_0 : decode cX7_subscriber 0 = .ok (.aload_n 0, 1) := by decide +kernel
theorem dX7_subscriber_1 : decode cX7_subscriber 1 = .ok (.getfield 10, 3) := by decide +kernel
theorem dX7_subscriber_4 : decode cX7_subscriber 4 = .ok (.iload_n 1, 1) := by decide +kernel
theorem dX7_subscriber_5 : decode cX7_subscriber 5 = .ok (.invokevirtual 37, 3) := by decide +kernel
theorem dX7_subscriber_8 : decode cX7_subscriber 8 = .ok (.invokestatic 41, 3) := by decide +kernel
theorem dX7_subscriber_11 : decode cX7_subscriber 11 = .ok (.iload_n 2, 1) := by decide +kernel
theorem dX7_subscriber_12 : decode cX7_subscriber 12 = .ok (.bipush 12, 2) := by decide +kernel
theorem dX7_subscriber_14 : decode cX7_subscriber 14 = .ok (.invokestatic 45, 3) := by decide +kernel
theorem dX7_subscriber_17 : decode cX7_subscriber 17 = .ok (.invokestatic 49, 3) := by decide +kernel
theorem dX7_subscriber_20 : decode cX7_subscriber 20 = .ok (.aload_n 0, 1) := by decide +kernel
theorem dX7_subscriber_21 : decode cX7_subscriber 21 = .ok (.getfield 10, 3) := by decide +kernel
theorem dX7_subscriber_24 : decode cX7_subscriber 24 = .ok (.getfield 52, 3) := by decide +kernel
theorem dX7_subscriber_27 : decode cX7_subscriber 27 = .ok (.iload_n 1, 1) := by decide +kernel
theorem dX7_subscriber_28 : decode cX7_subscriber 28 = .ok (.aaload, 1) := by decide +kernel
theorem dX7_subscriber_29 : decode cX7_subscriber 29 = .ok (.iload_n 2, 1) := by decide +kernel
theorem dX7_subscriber_30 : decode cX7_subscriber 30 = .ok (.invokevirtual 56, 3) := by decide +kernel
theorem dX7_subscriber_33 : decode cX7_subscriber 33 = .ok (.ireturn, 1) := by decide +kernel
theorem dX7_stay_0 : decode cX7_stay 0 = .ok (.aload_n 0, 1) := by decide +kernel
theorem dX7_stay_1 : decode cX7_stay 1 = .ok (.getfield 10, 3) := by decide +kernel
theorem dX7_stay_4 : decode cX7_stay 4 = .ok (.iload_n 1, 1) := by decide +kernel
theorem dX7_stay_5 : decode cX7_stay 5 = .ok (.invokevirtual 37, 3) := by decide +kernel
theorem dX7_stay_8 : decode cX7_stay 8 = .ok (.invokestatic 41, 3) := by decide +kernel
theorem dX7_stay_11 : decode cX7_stay 11 = .ok (.iload_n 2, 1) := by decide +kernel
theorem dX7_stay_12 : decode cX7_stay 12 = .ok (.ifCond .lt 15, 3) := by decide +kernel
theorem dX7_stay_15 : decode cX7_stay 15 = .ok (.iload_n 3, 1) := by decide +kernel
theorem dX7_stay_16 : decode cX7_stay 16 = .ok (.iconst 3, 1) := by decide +kernel
theorem dX7_stay_17 : decode cX7_stay 17 = .ok (.invokestatic 45, 3) := by decide +kernel
theorem dX7_stay_20 : decode cX7_stay 20 = .ok (.ifCond .eq 7, 3) := by decide +kernel
theorem dX7_stay_23 : decode cX7_stay 23 = .ok (.iconst 1, 1) := by decide +kernel
theorem dX7_stay_24 : decode cX7_stay 24 = .ok (.goto 4, 3) := by decide +kernel
theorem dX7_stay_27 : decode cX7_stay 27 = .ok (.iconst 0, 1) := by decide +kernel
theorem dX7_stay_28 : decode cX7_stay 28 = .ok (.invokestatic 49, 3) := by decide +kernel
theorem dX7_stay_31 : decode cX7_stay 31 = .ok (.aload_n 0, 1) := by decide +kernel
theorem dX7_stay_32 : decode cX7_stay 32 = .ok (.getfield 10, 3) := by decide +kernel
theorem dX7_stay_35 : decode cX7_stay 35 = .ok (.getfield 52, 3) := by decide +kernel
theorem dX7_stay_38 : decode cX7_stay 38 = .ok (.iload_n 1, 1) := by decide +kernel
theorem dX7_stay_39 : decode cX7_stay 39 = .ok (.aaload, 1) := by decide +kernel
theorem dX7_stay_40 : decode cX7_stay 40 = .ok (.getfield 62, 3) := by decide +kernel
theorem dX7_stay_43 : decode cX7_stay 43 = .ok (.iload_n 2, 1) := by decide +kernel
theorem dX7_stay_44 : decode cX7_stay 44 = .ok (.iload_n 3, 1) := by decide +kernel
theorem dX7_stay_45 : decode cX7_stay 45 = .ok (.invokevirtual 66, 3) := by decide +kernel
theorem dX7_stay_48 : decode cX7_stay 48 = .ok (.ireturn, 1) := by decide +kernel
theorem dX7_waiting_0 : decode cX7_waiting 0 = .ok (.aload_n 0, 1) := by decide +kernel
theorem dX7_waiting_1 : decode cX7_waiting 1 = .ok (.getfield 10, 3) := by decide +kernel
theorem dX7_waiting_4 : decode cX7_waiting 4 = .ok (.iload_n 1, 1) := by decide +kernel
theorem dX7_waiting_5 : decode cX7_waiting 5 = .ok (.invokevirtual 37, 3) := by decide +kernel
theorem dX7_waiting_8 : decode cX7_waiting 8 = .ok (.invokestatic 41, 3) := by decide +kernel
theorem dX7_waiting_11 : decode cX7_waiting 11 = .ok (.iload_n 2, 1) := by decide +kernel
theorem dX7_waiting_12 : decode cX7_waiting 12 = .ok (.ifCond .lt 7, 3) := by decide +kernel
theorem dX7_waiting_15 : decode cX7_waiting 15 = .ok (.iconst 1, 1) := by decide +kernel
theorem dX7_waiting_16 : decode cX7_waiting 16 = .ok (.goto 4, 3) := by decide +kernel
theorem dX7_waiting_19 : decode cX7_waiting 19 = .ok (.iconst 0, 1) := by decide +kernel
theorem dX7_waiting_20 : decode cX7_waiting 20 = .ok (.invokestatic 49, 3) := by decide +kernel
theorem dX7_waiting_23 : decode cX7_waiting 23 = .ok (.aload_n 0, 1) := by decide +kernel
theorem dX7_waiting_24 : decode cX7_waiting 24 = .ok (.getfield 10, 3) := by decide +kernel
theorem dX7_waiting_27 : decode cX7_waiting 27 = .ok (.getfield 52, 3) := by decide +kernel
theorem dX7_waiting_30 : decode cX7_waiting 30 = .ok (.iload_n 1, 1) := by decide +kernel
theorem dX7_waiting_31 : decode cX7_waiting 31 = .ok (.aaload, 1) := by decide +kernel
theorem dX7_waiting_32 : decode cX7_waiting 32 = .ok (.getfield 71, 3) := by decide +kernel
theorem dX7_waiting_35 : decode cX7_waiting 35 = .ok (.iload_n 2, 1) := by decide +kernel
theorem dX7_waiting_36 : decode cX7_waiting 36 = .ok (.invokevirtual 75, 3) := by decide +kernel
theorem dX7_waiting_39 : decode cX7_waiting 39 = .ok (.ireturn, 1) := by decide +kernel
theorem dX7_event_0 : decode cX7_event 0 = .ok (.iload_n 1, 1) := by decide +kernel
theorem dX7_event_1 : decode cX7_event 1 = .ok (.aload_n 0, 1) := by decide +kernel
theorem dX7_event_2 : decode cX7_event 2 = .ok (.getfield 10, 3) := by decide +kernel
theorem dX7_event_5 : decode cX7_event 5 = .ok (.getfield 80, 3) := by decide +kernel
theorem dX7_event_8 : decode cX7_event 8 = .ok (.getfield 84, 3) := by decide +kernel
theorem dX7_event_11 : decode cX7_event 11 = .ok (.invokestatic 45, 3) := by decide +kernel
theorem dX7_event_14 : decode cX7_event 14 = .ok (.invokestatic 41, 3) := by decide +kernel
theorem dX7_event_17 : decode cX7_event 17 = .ok (.iload_n 2, 1) := by decide +kernel
theorem dX7_event_18 : decode cX7_event 18 = .ok (.bipush 7, 2) := by decide +kernel
theorem dX7_event_20 : decode cX7_event 20 = .ok (.invokestatic 45, 3) := by decide +kernel
theorem dX7_event_23 : decode cX7_event 23 = .ok (.invokestatic 49, 3) := by decide +kernel
theorem dX7_event_26 : decode cX7_event 26 = .ok (.aload_n 0, 1) := by decide +kernel
theorem dX7_event_27 : decode cX7_event 27 = .ok (.getfield 10, 3) := by decide +kernel
theorem dX7_event_30 : decode cX7_event 30 = .ok (.iload_n 1, 1) := by decide +kernel
theorem dX7_event_31 : decode cX7_event 31 = .ok (.iload_n 2, 1) := by decide +kernel
theorem dX7_event_32 : decode cX7_event 32 = .ok (.invokevirtual 90, 3) := by decide +kernel
theorem dX7_event_35 : decode cX7_event 35 = .ok (.ireturn, 1) := by decide +kernel
theorem dX7_leaf_0 : decode cX7_leaf 0 = .ok (.iload_n 1, 1) := by decide +kernel
theorem dX7_leaf_1 : decode cX7_leaf 1 = .ok (.bipush 16, 2) := by decide +kernel
theorem dX7_leaf_3 : decode cX7_leaf 3 = .ok (.invokestatic 45, 3) := by decide +kernel
theorem dX7_leaf_6 : decode cX7_leaf 6 = .ok (.invokestatic 41, 3) := by decide +kernel
theorem dX7_leaf_9 : decode cX7_leaf 9 = .ok (.iload_n 2, 1) := by decide +kernel
theorem dX7_leaf_10 : decode cX7_leaf 10 = .ok (.iconst 4, 1) := by decide +kernel
theorem dX7_leaf_11 : decode cX7_leaf 11 = .ok (.invokestatic 45, 3) := by decide +kernel
theorem dX7_leaf_14 : decode cX7_leaf 14 = .ok (.invokestatic 49, 3) := by decide +kernel
theorem dX7_leaf_17 : decode cX7_leaf 17 = .ok (.aload_n 0, 1) := by decide +kernel
theorem dX7_leaf_18 : decode cX7_leaf 18 = .ok (.getfield 10, 3) := by decide +kernel
theorem dX7_leaf_21 : decode cX7_leaf 21 = .ok (.iload_n 1, 1) := by decide +kernel
theorem dX7_leaf_22 : decode cX7_leaf 22 = .ok (.iload_n 2, 1) := by decide +kernel
theorem dX7_leaf_23 : decode cX7_leaf 23 = .ok (.invokevirtual 93, 3) := by decide +kernel
theorem dX7_leaf_26 : decode cX7_leaf 26 = .ok (.ireturn, 1) := by decide +kernel
theorem dX7_whole_0 : decode cX7_whole 0 = .ok (.iload_n 1, 1) := by decide +kernel
theorem dX7_whole_1 : decode cX7_whole 1 = .ok (.bipush 14, 2) := by decide +kernel
theorem dX7_whole_3 : decode cX7_whole 3 = .ok (.invokestatic 45, 3) := by decide +kernel
theorem dX7_whole_6 : decode cX7_whole 6 = .ok (.invokestatic 49, 3) := by decide +kernel
theorem dX7_whole_9 : decode cX7_whole 9 = .ok (.aload_n 0, 1) := by decide +kernel
theorem dX7_whole_10 : decode cX7_whole 10 = .ok (.iload_n 1, 1) := by decide +kernel
theorem dX7_whole_11 : decode cX7_whole 11 = .ok (.invokevirtual 96, 3) := by decide +kernel
theorem dX7_whole_14 : decode cX7_whole 14 = .ok (.ireturn, 1) := by decide +kernel
theorem dX7_wouldReach_0 : decode cX7_wouldReach 0 = .ok (.iload_n 1, 1) := by decide +kernel
theorem dX7_wouldReach_1 : decode cX7_wouldReach 1 = .ok (.bipush 16, 2) := by decide +kernel
theorem dX7_wouldReach_3 : decode cX7_wouldReach 3 = .ok (.invokestatic 45, 3) := by decide +kernel
theorem dX7_wouldReach_6 : decode cX7_wouldReach 6 = .ok (.invokestatic 41, 3) := by decide +kernel
theorem dX7_wouldReach_9 : decode cX7_wouldReach 9 = .ok (.iload_n 2, 1) := by decide +kernel
theorem dX7_wouldReach_10 : decode cX7_wouldReach 10 = .ok (.iconst 3, 1) := by decide +kernel
theorem dX7_wouldReach_11 : decode cX7_wouldReach 11 = .ok (.invokestatic 45, 3) := by decide +kernel
theorem dX7_wouldReach_14 : decode cX7_wouldReach 14 = .ok (.ifCond .eq 11, 3) := by decide +kernel
theorem dX7_wouldReach_17 : decode cX7_wouldReach 17 = .ok (.iload_n 3, 1) := by decide +kernel
theorem dX7_wouldReach_18 : decode cX7_wouldReach 18 = .ok (.ifCond .lt 7, 3) := by decide +kernel
theorem dX7_wouldReach_21 : decode cX7_wouldReach 21 = .ok (.iconst 1, 1) := by decide +kernel
theorem dX7_wouldReach_22 : decode cX7_wouldReach 22 = .ok (.goto 4, 3) := by decide +kernel
theorem dX7_wouldReach_25 : decode cX7_wouldReach 25 = .ok (.iconst 0, 1) := by decide +kernel
theorem dX7_wouldReach_26 : decode cX7_wouldReach 26 = .ok (.invokestatic 49, 3) := by decide +kernel
theorem dX7_wouldReach_29 : decode cX7_wouldReach 29 = .ok (.aload_n 0, 1) := by decide +kernel
theorem dX7_wouldReach_30 : decode cX7_wouldReach 30 = .ok (.getfield 10, 3) := by decide +kernel
theorem dX7_wouldReach_33 : decode cX7_wouldReach 33 = .ok (.iload_n 3, 1) := by decide +kernel
theorem dX7_wouldReach_34 : decode cX7_wouldReach 34 = .ok (.invokevirtual 99, 3) := by decide +kernel
theorem dX7_wouldReach_37 : decode cX7_wouldReach 37 = .ok (.ifCond .eq 7, 3) := by decide +kernel
theorem dX7_wouldReach_40 : decode cX7_wouldReach 40 = .ok (.iconst (-1), 1) := by decide +kernel
theorem dX7_wouldReach_41 : decode cX7_wouldReach 41 = .ok (.goto 21, 3) := by decide +kernel
theorem dX7_wouldReach_44 : decode cX7_wouldReach 44 = .ok (.aload_n 0, 1) := by decide +kernel
theorem dX7_wouldReach_45 : decode cX7_wouldReach 45 = .ok (.getfield 10, 3) := by decide +kernel
theorem dX7_wouldReach_48 : decode cX7_wouldReach 48 = .ok (.iload_n 1, 1) := by decide +kernel
theorem dX7_wouldReach_49 : decode cX7_wouldReach 49 = .ok (.iload_n 2, 1) := by decide +kernel
theorem dX7_wouldReach_50 : decode cX7_wouldReach 50 = .ok (.aload_n 0, 1) := by decide +kernel
theorem dX7_wouldReach_51 : decode cX7_wouldReach 51 = .ok (.getfield 10, 3) := by decide +kernel
theorem dX7_wouldReach_54 : decode cX7_wouldReach 54 = .ok (.getfield 102, 3) := by decide +kernel
theorem dX7_wouldReach_57 : decode cX7_wouldReach 57 = .ok (.iload_n 3, 1) := by decide +kernel
theorem dX7_wouldReach_58 : decode cX7_wouldReach 58 = .ok (.isub, 1) := by decide +kernel
theorem dX7_wouldReach_59 : decode cX7_wouldReach 59 = .ok (.invokevirtual 105, 3) := by decide +kernel
theorem dX7_wouldReach_62 : decode cX7_wouldReach 62 = .ok (.ireturn, 1) := by decide +kernel
theorem dX7_reason_0 : decode cX7_reason 0 = .ok (.aload_n 0, 1) := by decide +kernel
theorem dX7_reason_1 : decode cX7_reason 1 = .ok (.getfield 10, 3) := by decide +kernel
theorem dX7_reason_4 : decode cX7_reason 4 = .ok (.iload_n 1, 1) := by decide +kernel
theorem dX7_reason_5 : decode cX7_reason 5 = .ok (.invokevirtual 37, 3) := by decide +kernel
theorem dX7_reason_8 : decode cX7_reason 8 = .ok (.ifCond .eq 16, 3) := by decide +kernel
theorem dX7_reason_11 : decode cX7_reason 11 = .ok (.iload_n 2, 1) := by decide +kernel
theorem dX7_reason_12 : decode cX7_reason 12 = .ok (.bipush 16, 2) := by decide +kernel
theorem dX7_reason_14 : decode cX7_reason 14 = .ok (.invokestatic 45, 3) := by decide +kernel
theorem dX7_reason_17 : decode cX7_reason 17 = .ok (.ifCond .eq 7, 3) := by decide +kernel
theorem dX7_reason_20 : decode cX7_reason 20 = .ok (.iconst 1, 1) := by decide +kernel
theorem dX7_reason_21 : decode cX7_reason 21 = .ok (.goto 4, 3) := by decide +kernel
theorem dX7_reason_24 : decode cX7_reason 24 = .ok (.iconst 0, 1) := by decide +kernel
theorem dX7_reason_25 : decode cX7_reason 25 = .ok (.invokestatic 41, 3) := by decide +kernel
theorem dX7_reason_28 : decode cX7_reason 28 = .ok (.iload_n 3, 1) := by decide +kernel
theorem dX7_reason_29 : decode cX7_reason 29 = .ok (.iconst 3, 1) := by decide +kernel
theorem dX7_reason_30 : decode cX7_reason 30 = .ok (.invokestatic 45, 3) := by decide +kernel
theorem dX7_reason_33 : decode cX7_reason 33 = .ok (.invokestatic 49, 3) := by decide +kernel
theorem dX7_reason_36 : decode cX7_reason 36 = .ok (.aload_n 0, 1) := by decide +kernel
theorem dX7_reason_37 : decode cX7_reason 37 = .ok (.getfield 10, 3) := by decide +kernel
theorem dX7_reason_40 : decode cX7_reason 40 = .ok (.getfield 52, 3) := by decide +kernel
theorem dX7_reason_43 : decode cX7_reason 43 = .ok (.iload_n 1, 1) := by decide +kernel
theorem dX7_reason_44 : decode cX7_reason 44 = .ok (.aaload, 1) := by decide +kernel
theorem dX7_reason_45 : decode cX7_reason 45 = .ok (.iload_n 2, 1) := by decide +kernel
theorem dX7_reason_46 : decode cX7_reason 46 = .ok (.iload_n 3, 1) := by decide +kernel
theorem dX7_reason_47 : decode cX7_reason 47 = .ok (.invokestatic 109, 3) := by decide +kernel
theorem dX7_reason_50 : decode cX7_reason 50 = .ok (.invokevirtual 112, 3) := by decide +kernel
theorem dX7_reason_53 : decode cX7_reason 53 = .ok (.ireturn, 1) := by decide +kernel
theorem dX7_servedIn_0 : decode cX7_servedIn 0 = .ok (.aload_n 0, 1) := by decide +kernel
theorem dX7_servedIn_1 : decode cX7_servedIn 1 = .ok (.getfield 10, 3) := by decide +kernel
theorem dX7_servedIn_4 : decode cX7_servedIn 4 = .ok (.iload_n 1, 1) := by decide +kernel
theorem dX7_servedIn_5 : decode cX7_servedIn 5 = .ok (.invokevirtual 37, 3) := by decide +kernel
theorem dX7_servedIn_8 : decode cX7_servedIn 8 = .ok (.invokestatic 41, 3) := by decide +kernel
theorem dX7_servedIn_11 : decode cX7_servedIn 11 = .ok (.aload_n 0, 1) := by decide +kernel
theorem dX7_servedIn_12 : decode cX7_servedIn 12 = .ok (.getfield 10, 3) := by decide +kernel
theorem dX7_servedIn_15 : decode cX7_servedIn 15 = .ok (.iload_n 1, 1) := by decide +kernel
theorem dX7_servedIn_16 : decode cX7_servedIn 16 = .ok (.invokevirtual 115, 3) := by decide +kernel
theorem dX7_servedIn_19 : decode cX7_servedIn 19 = .ok (.ireturn, 1) := by decide +kernel
theorem dX7_emptyIn_0 : decode cX7_emptyIn 0 = .ok (.aload_n 0, 1) := by decide +kernel
theorem dX7_emptyIn_1 : decode cX7_emptyIn 1 = .ok (.getfield 10, 3) := by decide +kernel
theorem dX7_emptyIn_4 : decode cX7_emptyIn 4 = .ok (.iload_n 1, 1) := by decide +kernel
theorem dX7_emptyIn_5 : decode cX7_emptyIn 5 = .ok (.invokevirtual 37, 3) := by decide +kernel
theorem dX7_emptyIn_8 : decode cX7_emptyIn 8 = .ok (.invokestatic 41, 3) := by decide +kernel
theorem dX7_emptyIn_11 : decode cX7_emptyIn 11 = .ok (.aload_n 0, 1) := by decide +kernel
theorem dX7_emptyIn_12 : decode cX7_emptyIn 12 = .ok (.getfield 16, 3) := by decide +kernel
theorem dX7_emptyIn_15 : decode cX7_emptyIn 15 = .ok (.aload_n 0, 1) := by decide +kernel
theorem dX7_emptyIn_16 : decode cX7_emptyIn 16 = .ok (.getfield 10, 3) := by decide +kernel
theorem dX7_emptyIn_19 : decode cX7_emptyIn 19 = .ok (.invokevirtual 118, 3) := by decide +kernel
theorem dX7_emptyIn_22 : decode cX7_emptyIn 22 = .ok (.aload_n 0, 1) := by decide +kernel
theorem dX7_emptyIn_23 : decode cX7_emptyIn 23 = .ok (.getfield 16, 3) := by decide +kernel
theorem dX7_emptyIn_26 : decode cX7_emptyIn 26 = .ok (.iload_n 1, 1) := by decide +kernel
theorem dX7_emptyIn_27 : decode cX7_emptyIn 27 = .ok (.invokevirtual 122, 3) := by decide +kernel
theorem dX7_emptyIn_30 : decode cX7_emptyIn 30 = .ok (.ireturn, 1) := by decide +kernel
theorem dX7_covered_0 : decode cX7_covered 0 = .ok (.aload_n 0, 1) := by decide +kernel
theorem dX7_covered_1 : decode cX7_covered 1 = .ok (.getfield 10, 3) := by decide +kernel
theorem dX7_covered_4 : decode cX7_covered 4 = .ok (.iload_n 1, 1) := by decide +kernel
theorem dX7_covered_5 : decode cX7_covered 5 = .ok (.invokevirtual 37, 3) := by decide +kernel
theorem dX7_covered_8 : decode cX7_covered 8 = .ok (.invokestatic 41, 3) := by decide +kernel
theorem dX7_covered_11 : decode cX7_covered 11 = .ok (.aload_n 0, 1) := by decide +kernel
theorem dX7_covered_12 : decode cX7_covered 12 = .ok (.getfield 10, 3) := by decide +kernel
theorem dX7_covered_15 : decode cX7_covered 15 = .ok (.getfield 52, 3) := by decide +kernel
theorem dX7_covered_18 : decode cX7_covered 18 = .ok (.iload_n 1, 1) := by decide +kernel
theorem dX7_covered_19 : decode cX7_covered 19 = .ok (.aaload, 1) := by decide +kernel
theorem dX7_covered_20 : decode cX7_covered 20 = .ok (.invokevirtual 125, 3) := by decide +kernel
theorem dX7_covered_23 : decode cX7_covered 23 = .ok (.ireturn, 1) := by decide +kernel
theorem dX7_busiest_0 : decode cX7_busiest 0 = .ok (.aload_n 0, 1) := by decide +kernel
theorem dX7_busiest_1 : decode cX7_busiest 1 = .ok (.getfield 10, 3) := by decide +kernel
theorem dX7_busiest_4 : decode cX7_busiest 4 = .ok (.invokevirtual 129, 3) := by decide +kernel
theorem dX7_busiest_7 : decode cX7_busiest 7 = .ok (.ireturn, 1) := by decide +kernel
theorem dX7_type_0 : decode cX7_type 0 = .ok (.iload_n 1, 1) := by decide +kernel
theorem dX7_type_1 : decode cX7_type 1 = .ok (.sipush 128, 3) := by decide +kernel
theorem dX7_type_4 : decode cX7_type 4 = .ok (.invokestatic 45, 3) := by decide +kernel
theorem dX7_type_7 : decode cX7_type 7 = .ok (.invokestatic 49, 3) := by decide +kernel
theorem dX7_type_10 : decode cX7_type 10 = .ok (.aload_n 0, 1) := by decide +kernel
theorem dX7_type_11 : decode cX7_type 11 = .ok (.getfield 29, 3) := by decide +kernel
theorem dX7_type_14 : decode cX7_type 14 = .ok (.invokevirtual 132, 3) := by decide +kernel
theorem dX7_type_17 : decode cX7_type 17 = .ok (.ifCond .ne 7, 3) := by decide +kernel
theorem dX7_type_20 : decode cX7_type 20 = .ok (.iconst 1, 1) := by decide +kernel
theorem dX7_type_21 : decode cX7_type 21 = .ok (.goto 4, 3) := by decide +kernel
theorem dX7_type_24 : decode cX7_type 24 = .ok (.iconst 0, 1) := by decide +kernel
theorem dX7_type_25 : decode cX7_type 25 = .ok (.invokestatic 136, 3) := by decide +kernel
theorem dX7_type_28 : decode cX7_type 28 = .ok (.aload_n 0, 1) := by decide +kernel
theorem dX7_type_29 : decode cX7_type 29 = .ok (.getfield 29, 3) := by decide +kernel
theorem dX7_type_32 : decode cX7_type 32 = .ok (.iload_n 1, 1) := by decide +kernel
theorem dX7_type_33 : decode cX7_type 33 = .ok (.invokevirtual 139, 3) := by decide +kernel
theorem dX7_type_36 : decode cX7_type 36 = .ok (.ireturn, 1) := by decide +kernel
theorem dX7_clearCommands_0 : decode cX7_clearCommands 0 = .ok (.aload_n 0, 1) := by decide +kernel
theorem dX7_clearCommands_1 : decode cX7_clearCommands 1 = .ok (.getfield 29, 3) := by decide +kernel
theorem dX7_clearCommands_4 : decode cX7_clearCommands 4 = .ok (.invokevirtual 142, 3) := by decide +kernel
theorem dX7_clearCommands_7 : decode cX7_clearCommands 7 = .ok (.ireturn, 1) := by decide +kernel
theorem dX7_runCommands_0 : decode cX7_runCommands 0 = .ok (.aload_n 0, 1) := by decide +kernel
theorem dX7_runCommands_1 : decode cX7_runCommands 1 = .ok (.getfield 29, 3) := by decide +kernel
theorem dX7_runCommands_4 : decode cX7_runCommands 4 = .ok (.invokevirtual 145, 3) := by decide +kernel
theorem dX7_runCommands_7 : decode cX7_runCommands 7 = .ok (.istore_n 1, 1) := by decide +kernel
theorem dX7_runCommands_8 : decode cX7_runCommands 8 = .ok (.iload_n 1, 1) := by decide +kernel
theorem dX7_runCommands_9 : decode cX7_runCommands 9 = .ok (.iconst (-1), 1) := by decide +kernel
theorem dX7_runCommands_10 : decode cX7_runCommands 10 = .ok (.if_icmp .eq 8, 3) := by decide +kernel
theorem dX7_runCommands_13 : decode cX7_runCommands 13 = .ok (.bipush (-10), 2) := by decide +kernel
theorem dX7_runCommands_15 : decode cX7_runCommands 15 = .ok (.iload_n 1, 1) := by decide +kernel
theorem dX7_runCommands_16 : decode cX7_runCommands 16 = .ok (.isub, 1) := by decide +kernel
theorem dX7_runCommands_17 : decode cX7_runCommands 17 = .ok (.ireturn, 1) := by decide +kernel
theorem dX7_runCommands_18 : decode cX7_runCommands 18 = .ok (.aload_n 0, 1) := by decide +kernel
theorem dX7_runCommands_19 : decode cX7_runCommands 19 = .ok (.getfield 22, 3) := by decide +kernel
theorem dX7_runCommands_22 : decode cX7_runCommands 22 = .ok (.aload_n 0, 1) := by decide +kernel
theorem dX7_runCommands_23 : decode cX7_runCommands 23 = .ok (.getfield 10, 3) := by decide +kernel
theorem dX7_runCommands_26 : decode cX7_runCommands 26 = .ok (.invokevirtual 148, 3) := by decide +kernel
theorem dX7_runCommands_29 : decode cX7_runCommands 29 = .ok (.aload_n 0, 1) := by decide +kernel
theorem dX7_runCommands_30 : decode cX7_runCommands 30 = .ok (.invokevirtual 151, 3) := by decide +kernel
theorem dX7_runCommands_33 : decode cX7_runCommands 33 = .ok (.ireturn, 1) := by decide +kernel
theorem dX7_undo_0 : decode cX7_undo 0 = .ok (.aload_n 0, 1) := by decide +kernel
theorem dX7_undo_1 : decode cX7_undo 1 = .ok (.getfield 22, 3) := by decide +kernel
theorem dX7_undo_4 : decode cX7_undo 4 = .ok (.getfield 154, 3) := by decide +kernel
theorem dX7_undo_7 : decode cX7_undo 7 = .ok (.ifCond .le 7, 3) := by decide +kernel
theorem dX7_undo_10 : decode cX7_undo 10 = .ok (.iconst 1, 1) := by decide +kernel
theorem dX7_undo_11 : decode cX7_undo 11 = .ok (.goto 4, 3) := by decide +kernel
theorem dX7_undo_14 : decode cX7_undo 14 = .ok (.iconst 0, 1) := by decide +kernel
theorem dX7_undo_15 : decode cX7_undo 15 = .ok (.invokestatic 136, 3) := by decide +kernel
theorem dX7_undo_18 : decode cX7_undo 18 = .ok (.aload_n 0, 1) := by decide +kernel
theorem dX7_undo_19 : decode cX7_undo 19 = .ok (.getfield 22, 3) := by decide +kernel
theorem dX7_undo_22 : decode cX7_undo 22 = .ok (.aload_n 0, 1) := by decide +kernel
theorem dX7_undo_23 : decode cX7_undo 23 = .ok (.getfield 10, 3) := by decide +kernel
theorem dX7_undo_26 : decode cX7_undo 26 = .ok (.invokevirtual 155, 3) := by decide +kernel
theorem dX7_undo_29 : decode cX7_undo 29 = .ok (.ireturn, 1) := by decide +kernel
theorem dX7_digest_0 : decode cX7_digest 0 = .ok (.ldc2_w 159, 3) := by decide +kernel
theorem dX7_digest_3 : decode cX7_digest 3 = .ok (.aload_n 0, 1) := by decide +kernel
theorem dX7_digest_4 : decode cX7_digest 4 = .ok (.getfield 22, 3) := by decide +kernel
theorem dX7_digest_7 : decode cX7_digest 7 = .ok (.getfield 154, 3) := by decide +kernel
theorem dX7_digest_10 : decode cX7_digest 10 = .ok (.invokestatic 161, 3) := by decide +kernel
theorem dX7_digest_13 : decode cX7_digest 13 = .ok (.lstore_n 1, 1) := by decide +kernel
theorem dX7_digest_14 : decode cX7_digest 14 = .ok (.iconst 0, 1) := by decide +kernel
theorem dX7_digest_15 : decode cX7_digest 15 = .ok (.istore_n 3, 1) := by decide +kernel
theorem dX7_digest_16 : decode cX7_digest 16 = .ok (.iload_n 3, 1) := by decide +kernel
theorem dX7_digest_17 : decode cX7_digest 17 = .ok (.bipush 14, 2) := by decide +kernel
theorem dX7_digest_19 : decode cX7_digest 19 = .ok (.if_icmp .ge 19, 3) := by decide +kernel
theorem dX7_digest_22 : decode cX7_digest 22 = .ok (.lload_n 1, 1) := by decide +kernel
theorem dX7_digest_23 : decode cX7_digest 23 = .ok (.aload_n 0, 1) := by decide +kernel
theorem dX7_digest_24 : decode cX7_digest 24 = .ok (.iload_n 3, 1) := by decide +kernel
theorem dX7_digest_25 : decode cX7_digest 25 = .ok (.invokevirtual 96, 3) := by decide +kernel
theorem dX7_digest_28 : decode cX7_digest 28 = .ok (.invokestatic 161, 3) := by decide +kernel
theorem dX7_digest_31 : decode cX7_digest 31 = .ok (.lstore_n 1, 1) := by decide +kernel
theorem dX7_digest_32 : decode cX7_digest 32 = .ok (.iinc 3 1, 3) := by decide +kernel
theorem dX7_digest_35 : decode cX7_digest 35 = .ok (.goto (-19), 3) := by decide +kernel
theorem dX7_digest_38 : decode cX7_digest 38 = .ok (.iconst 0, 1) := by decide +kernel
theorem dX7_digest_39 : decode cX7_digest 39 = .ok (.istore_n 3, 1) := by decide +kernel
theorem dX7_digest_40 : decode cX7_digest 40 = .ok (.iload_n 3, 1) := by decide +kernel
theorem dX7_digest_41 : decode cX7_digest 41 = .ok (.aload_n 0, 1) := by decide +kernel
theorem dX7_digest_42 : decode cX7_digest 42 = .ok (.getfield 10, 3) := by decide +kernel
theorem dX7_digest_45 : decode cX7_digest 45 = .ok (.getfield 165, 3) := by decide +kernel
theorem dX7_digest_48 : decode cX7_digest 48 = .ok (.if_icmp .ge 16, 3) := by decide +kernel
theorem dX7_digest_51 : decode cX7_digest 51 = .ok (.aload_n 0, 1) := by decide +kernel
theorem dX7_digest_52 : decode cX7_digest 52 = .ok (.lload_n 1, 1) := by decide +kernel
theorem dX7_digest_53 : decode cX7_digest 53 = .ok (.iload_n 3, 1) := by decide +kernel
theorem dX7_digest_54 : decode cX7_digest 54 = .ok (.invokevirtual 168, 3) := by decide +kernel
theorem dX7_digest_57 : decode cX7_digest 57 = .ok (.lstore_n 1, 1) := by decide +kernel
theorem dX7_digest_58 : decode cX7_digest 58 = .ok (.iinc 3 1, 3) := by decide +kernel
theorem dX7_digest_61 : decode cX7_digest 61 = .ok (.goto (-21), 3) := by decide +kernel
theorem dX7_digest_64 : decode cX7_digest 64 = .ok (.iconst 0, 1) := by decide +kernel
theorem dX7_digest_65 : decode cX7_digest 65 = .ok (.istore_n 3, 1) := by decide +kernel
theorem dX7_digest_66 : decode cX7_digest 66 = .ok (.iload_n 3, 1) := by decide +kernel
theorem dX7_digest_67 : decode cX7_digest 67 = .ok (.aload_n 0, 1) := by decide +kernel
theorem dX7_digest_68 : decode cX7_digest 68 = .ok (.getfield 10, 3) := by decide +kernel
theorem dX7_digest_71 : decode cX7_digest 71 = .ok (.getfield 80, 3) := by decide +kernel
theorem dX7_digest_74 : decode cX7_digest 74 = .ok (.getfield 84, 3) := by decide +kernel
theorem dX7_digest_77 : decode cX7_digest 77 = .ok (.if_icmp .ge 40, 3) := by decide +kernel
theorem dX7_digest_80 : decode cX7_digest 80 = .ok (.iconst 0, 1) := by decide +kernel
theorem dX7_digest_81 : decode cX7_digest 81 = .ok (.istore 4, 2) := by decide +kernel
theorem dX7_digest_83 : decode cX7_digest 83 = .ok (.iload 4, 2) := by decide +kernel
theorem dX7_digest_85 : decode cX7_digest 85 = .ok (.bipush 7, 2) := by decide +kernel
theorem dX7_digest_87 : decode cX7_digest 87 = .ok (.if_icmp .ge 24, 3) := by decide +kernel
theorem dX7_digest_90 : decode cX7_digest 90 = .ok (.lload_n 1, 1) := by decide +kernel
theorem dX7_digest_91 : decode cX7_digest 91 = .ok (.aload_n 0, 1) := by decide +kernel
theorem dX7_digest_92 : decode cX7_digest 92 = .ok (.getfield 10, 3) := by decide +kernel
theorem dX7_digest_95 : decode cX7_digest 95 = .ok (.iload_n 3, 1) := by decide +kernel
theorem dX7_digest_96 : decode cX7_digest 96 = .ok (.iload 4, 2) := by decide +kernel
theorem dX7_digest_98 : decode cX7_digest 98 = .ok (.invokevirtual 90, 3) := by decide +kernel
theorem dX7_digest_101 : decode cX7_digest 101 = .ok (.invokestatic 161, 3) := by decide +kernel
theorem dX7_digest_104 : decode cX7_digest 104 = .ok (.lstore_n 1, 1) := by decide +kernel
theorem dX7_digest_105 : decode cX7_digest 105 = .ok (.iinc 4 1, 3) := by decide +kernel
theorem dX7_digest_108 : decode cX7_digest 108 = .ok (.goto (-25), 3) := by decide +kernel
theorem dX7_digest_111 : decode cX7_digest 111 = .ok (.iinc 3 1, 3) := by decide +kernel
theorem dX7_digest_114 : decode cX7_digest 114 = .ok (.goto (-48), 3) := by decide +kernel
theorem dX7_digest_117 : decode cX7_digest 117 = .ok (.iconst 0, 1) := by decide +kernel
theorem dX7_digest_118 : decode cX7_digest 118 = .ok (.istore_n 3, 1) := by decide +kernel
theorem dX7_digest_119 : decode cX7_digest 119 = .ok (.iload_n 3, 1) := by decide +kernel
theorem dX7_digest_120 : decode cX7_digest 120 = .ok (.bipush 16, 2) := by decide +kernel
theorem dX7_digest_122 : decode cX7_digest 122 = .ok (.if_icmp .ge 39, 3) := by decide +kernel
theorem dX7_digest_125 : decode cX7_digest 125 = .ok (.iconst 0, 1) := by decide +kernel
theorem dX7_digest_126 : decode cX7_digest 126 = .ok (.istore 4, 2) := by decide +kernel
theorem dX7_digest_128 : decode cX7_digest 128 = .ok (.iload 4, 2) := by decide +kernel
theorem dX7_digest_130 : decode cX7_digest 130 = .ok (.iconst 4, 1) := by decide +kernel
theorem dX7_digest_131 : decode cX7_digest 131 = .ok (.if_icmp .ge 24, 3) := by decide +kernel
theorem dX7_digest_134 : decode cX7_digest 134 = .ok (.lload_n 1, 1) := by decide +kernel
theorem dX7_digest_135 : decode cX7_digest 135 = .ok (.aload_n 0, 1) := by decide +kernel
theorem dX7_digest_136 : decode cX7_digest 136 = .ok (.getfield 10, 3) := by decide +kernel
theorem dX7_digest_139 : decode cX7_digest 139 = .ok (.iload_n 3, 1) := by decide +kernel
theorem dX7_digest_140 : decode cX7_digest 140 = .ok (.iload 4, 2) := by decide +kernel
theorem dX7_digest_142 : decode cX7_digest 142 = .ok (.invokevirtual 93, 3) := by decide +kernel
theorem dX7_digest_145 : decode cX7_digest 145 = .ok (.invokestatic 161, 3) := by decide +kernel
theorem dX7_digest_148 : decode cX7_digest 148 = .ok (.lstore_n 1, 1) := by decide +kernel
theorem dX7_digest_149 : decode cX7_digest 149 = .ok (.iinc 4 1, 3) := by decide +kernel
theorem dX7_digest_152 : decode cX7_digest 152 = .ok (.goto (-24), 3) := by decide +kernel
theorem dX7_digest_155 : decode cX7_digest 155 = .ok (.iinc 3 1, 3) := by decide +kernel
theorem dX7_digest_158 : decode cX7_digest 158 = .ok (.goto (-39), 3) := by decide +kernel
theorem dX7_digest_161 : decode cX7_digest 161 = .ok (.lload_n 1, 1) := by decide +kernel
theorem dX7_digest_162 : decode cX7_digest 162 = .ok (.aload_n 0, 1) := by decide +kernel
theorem dX7_digest_163 : decode cX7_digest 163 = .ok (.getfield 10, 3) := by decide +kernel
theorem dX7_digest_166 : decode cX7_digest 166 = .ok (.invokevirtual 129, 3) := by decide +kernel
theorem dX7_digest_169 : decode cX7_digest 169 = .ok (.invokestatic 161, 3) := by decide +kernel
theorem dX7_digest_172 : decode cX7_digest 172 = .ok (.lreturn, 1) := by decide +kernel
theorem dX7_mixSubscriber_0 : decode cX7_mixSubscriber 0 = .ok (.aload_n 0, 1) := by decide +kernel
theorem dX7_mixSubscriber_1 : decode cX7_mixSubscriber 1 = .ok (.getfield 10, 3) := by decide +kernel
theorem dX7_mixSubscriber_4 : decode cX7_mixSubscriber 4 = .ok (.getfield 52, 3) := by decide +kernel
theorem dX7_mixSubscriber_7 : decode cX7_mixSubscriber 7 = .ok (.iload_n 3, 1) := by decide +kernel
theorem dX7_mixSubscriber_8 : decode cX7_mixSubscriber 8 = .ok (.aaload, 1) := by decide +kernel
theorem dX7_mixSubscriber_9 : decode cX7_mixSubscriber 9 = .ok (.astore 4, 2) := by decide +kernel
theorem dX7_mixSubscriber_11 : decode cX7_mixSubscriber 11 = .ok (.lload_n 1, 1) := by decide +kernel
theorem dX7_mixSubscriber_12 : decode cX7_mixSubscriber 12 = .ok (.lstore 5, 2) := by decide +kernel
theorem dX7_mixSubscriber_14 : decode cX7_mixSubscriber 14 = .ok (.iconst 0, 1) := by decide +kernel
theorem dX7_mixSubscriber_15 : decode cX7_mixSubscriber 15 = .ok (.istore 7, 2) := by decide +kernel
theorem dX7_mixSubscriber_17 : decode cX7_mixSubscriber 17 = .ok (.iload 7, 2) := by decide +kernel
theorem dX7_mixSubscriber_19 : decode cX7_mixSubscriber 19 = .ok (.bipush 12, 2) := by decide +kernel
theorem dX7_mixSubscriber_21 : decode cX7_mixSubscriber 21 = .ok (.if_icmp .ge 23, 3) := by decide +kernel
theorem dX7_mixSubscriber_24 : decode cX7_mixSubscriber 24 = .ok (.lload 5, 2) := by decide +kernel
theorem dX7_mixSubscriber_26 : decode cX7_mixSubscriber 26 = .ok (.aload 4, 2) := by decide +kernel
theorem dX7_mixSubscriber_28 : decode cX7_mixSubscriber 28 = .ok (.iload 7, 2) := by decide +kernel
theorem dX7_mixSubscriber_30 : decode cX7_mixSubscriber 30 = .ok (.invokevirtual 56, 3) := by decide +kernel
theorem dX7_mixSubscriber_33 : decode cX7_mixSubscriber 33 = .ok (.invokestatic 161, 3) := by decide +kernel
theorem dX7_mixSubscriber_36 : decode cX7_mixSubscriber 36 = .ok (.lstore 5, 2) := by decide +kernel
theorem dX7_mixSubscriber_38 : decode cX7_mixSubscriber 38 = .ok (.iinc 7 1, 3) := by decide +kernel
theorem dX7_mixSubscriber_41 : decode cX7_mixSubscriber 41 = .ok (.goto (-24), 3) := by decide +kernel
theorem dX7_mixSubscriber_44 : decode cX7_mixSubscriber 44 = .ok (.iconst 0, 1) := by decide +kernel
theorem dX7_mixSubscriber_45 : decode cX7_mixSubscriber 45 = .ok (.istore 7, 2) := by decide +kernel
theorem dX7_mixSubscriber_47 : decode cX7_mixSubscriber 47 = .ok (.iload 7, 2) := by decide +kernel
theorem dX7_mixSubscriber_49 : decode cX7_mixSubscriber 49 = .ok (.aload 4, 2) := by decide +kernel
theorem dX7_mixSubscriber_51 : decode cX7_mixSubscriber 51 = .ok (.getfield 62, 3) := by decide +kernel
theorem dX7_mixSubscriber_54 : decode cX7_mixSubscriber 54 = .ok (.getfield 171, 3) := by decide +kernel
theorem dX7_mixSubscriber_57 : decode cX7_mixSubscriber 57 = .ok (.if_icmp .ge 43, 3) := by decide +kernel
theorem dX7_mixSubscriber_60 : decode cX7_mixSubscriber 60 = .ok (.iconst 0, 1) := by decide +kernel
theorem dX7_mixSubscriber_61 : decode cX7_mixSubscriber 61 = .ok (.istore 8, 2) := by decide +kernel
theorem dX7_mixSubscriber_63 : decode cX7_mixSubscriber 63 = .ok (.iload 8, 2) := by decide +kernel
theorem dX7_mixSubscriber_65 : decode cX7_mixSubscriber 65 = .ok (.iconst 3, 1) := by decide +kernel
theorem dX7_mixSubscriber_66 : decode cX7_mixSubscriber 66 = .ok (.if_icmp .ge 28, 3) := by decide +kernel
theorem dX7_mixSubscriber_69 : decode cX7_mixSubscriber 69 = .ok (.lload 5, 2) := by decide +kernel
theorem dX7_mixSubscriber_71 : decode cX7_mixSubscriber 71 = .ok (.aload 4, 2) := by decide +kernel
theorem dX7_mixSubscriber_73 : decode cX7_mixSubscriber 73 = .ok (.getfield 62, 3) := by decide +kernel
theorem dX7_mixSubscriber_76 : decode cX7_mixSubscriber 76 = .ok (.iload 7, 2) := by decide +kernel
theorem dX7_mixSubscriber_78 : decode cX7_mixSubscriber 78 = .ok (.iload 8, 2) := by decide +kernel
theorem dX7_mixSubscriber_80 : decode cX7_mixSubscriber 80 = .ok (.invokevirtual 66, 3) := by decide +kernel
theorem dX7_mixSubscriber_83 : decode cX7_mixSubscriber 83 = .ok (.invokestatic 161, 3) := by decide +kernel
theorem dX7_mixSubscriber_86 : decode cX7_mixSubscriber 86 = .ok (.lstore 5, 2) := by decide +kernel
theorem dX7_mixSubscriber_88 : decode cX7_mixSubscriber 88 = .ok (.iinc 8 1, 3) := by decide +kernel
theorem dX7_mixSubscriber_91 : decode cX7_mixSubscriber 91 = .ok (.goto (-28), 3) := by decide +kernel
theorem dX7_mixSubscriber_94 : decode cX7_mixSubscriber 94 = .ok (.iinc 7 1, 3) := by decide +kernel
theorem dX7_mixSubscriber_97 : decode cX7_mixSubscriber 97 = .ok (.goto (-50), 3) := by decide +kernel
theorem dX7_mixSubscriber_100 : decode cX7_mixSubscriber 100 = .ok (.iconst 0, 1) := by decide +kernel
theorem dX7_mixSubscriber_101 : decode cX7_mixSubscriber 101 = .ok (.istore 7, 2) := by decide +kernel
theorem dX7_mixSubscriber_103 : decode cX7_mixSubscriber 103 = .ok (.iload 7, 2) := by decide +kernel
theorem dX7_mixSubscriber_105 : decode cX7_mixSubscriber 105 = .ok (.aload 4, 2) := by decide +kernel
theorem dX7_mixSubscriber_107 : decode cX7_mixSubscriber 107 = .ok (.getfield 71, 3) := by decide +kernel
theorem dX7_mixSubscriber_110 : decode cX7_mixSubscriber 110 = .ok (.getfield 172, 3) := by decide +kernel
theorem dX7_mixSubscriber_113 : decode cX7_mixSubscriber 113 = .ok (.if_icmp .ge 26, 3) := by decide +kernel
theorem dX7_mixSubscriber_116 : decode cX7_mixSubscriber 116 = .ok (.lload 5, 2) := by decide +kernel
theorem dX7_mixSubscriber_118 : decode cX7_mixSubscriber 118 = .ok (.aload 4, 2) := by decide +kernel
theorem dX7_mixSubscriber_120 : decode cX7_mixSubscriber 120 = .ok (.getfield 71, 3) := by decide +kernel
theorem dX7_mixSubscriber_123 : decode cX7_mixSubscriber 123 = .ok (.iload 7, 2) := by decide +kernel
theorem dX7_mixSubscriber_125 : decode cX7_mixSubscriber 125 = .ok (.invokevirtual 75, 3) := by decide +kernel
theorem dX7_mixSubscriber_128 : decode cX7_mixSubscriber 128 = .ok (.invokestatic 161, 3) := by decide +kernel
theorem dX7_mixSubscriber_131 : decode cX7_mixSubscriber 131 = .ok (.lstore 5, 2) := by decide +kernel
theorem dX7_mixSubscriber_133 : decode cX7_mixSubscriber 133 = .ok (.iinc 7 1, 3) := by decide +kernel
theorem dX7_mixSubscriber_136 : decode cX7_mixSubscriber 136 = .ok (.goto (-33), 3) := by decide +kernel
theorem dX7_mixSubscriber_139 : decode cX7_mixSubscriber 139 = .ok (.lload 5, 2) := by decide +kernel
theorem dX7_mixSubscriber_141 : decode cX7_mixSubscriber 141 = .ok (.aload_n 0, 1) := by decide +kernel
theorem dX7_mixSubscriber_142 : decode cX7_mixSubscriber 142 = .ok (.getfield 10, 3) := by decide +kernel
theorem dX7_mixSubscriber_145 : decode cX7_mixSubscriber 145 = .ok (.iload_n 3, 1) := by decide +kernel
theorem dX7_mixSubscriber_146 : decode cX7_mixSubscriber 146 = .ok (.invokevirtual 115, 3) := by decide +kernel
theorem dX7_mixSubscriber_149 : decode cX7_mixSubscriber 149 = .ok (.invokestatic 161, 3) := by decide +kernel
theorem dX7_mixSubscriber_152 : decode cX7_mixSubscriber 152 = .ok (.lstore 5, 2) := by decide +kernel
theorem dX7_mixSubscriber_154 : decode cX7_mixSubscriber 154 = .ok (.lload 5, 2) := by decide +kernel
theorem dX7_mixSubscriber_156 : decode cX7_mixSubscriber 156 = .ok (.aload 4, 2) := by decide +kernel
theorem dX7_mixSubscriber_158 : decode cX7_mixSubscriber 158 = .ok (.invokevirtual 125, 3) := by decide +kernel
theorem dX7_mixSubscriber_161 : decode cX7_mixSubscriber 161 = .ok (.invokestatic 161, 3) := by decide +kernel
theorem dX7_mixSubscriber_164 : decode cX7_mixSubscriber 164 = .ok (.lreturn, 1) := by decide +kernel
theorem dX7_mix_0 : decode cX7_mix 0 = .ok (.ldc2_w 175, 3) := by decide +kernel
theorem dX7_mix_3 : decode cX7_mix 3 = .ok (.lload_n 0, 1) := by decide +kernel
theorem dX7_mix_4 : decode cX7_mix 4 = .ok (.lmul, 1) := by decide +kernel
theorem dX7_mix_5 : decode cX7_mix 5 = .ok (.iload_n 2, 1) := by decide +kernel
theorem dX7_mix_6 : decode cX7_mix 6 = .ok (.i2l, 1) := by decide +kernel
theorem dX7_mix_7 : decode cX7_mix 7 = .ok (.ladd, 1) := by decide +kernel
theorem dX7_mix_8 : decode cX7_mix 8 = .ok (.lreturn, 1) := by decide +kernel
theorem dX7_valueOfWhole_0 : decode cX7_valueOfWhole 0 = .ok (.iload_n 1, 1) := by decide +kernel
theorem dX7_valueOfWhole_1 : decode cX7_valueOfWhole 1 = .ok (.bipush 13, 2) := by decide +kernel
theorem dX7_valueOfWhole_3 : decode cX7_valueOfWhole 3 = .ok (.if_icmp .ne 13, 3) := by decide +kernel
theorem dX7_valueOfWhole_6 : decode cX7_valueOfWhole 6 = .ok (.aload_n 0, 1) := by decide +kernel
theorem dX7_valueOfWhole_7 : decode cX7_valueOfWhole 7 = .ok (.getfield 29, 3) := by decide +kernel
theorem dX7_valueOfWhole_10 : decode cX7_valueOfWhole 10 = .ok (.getfield 177, 3) := by decide +kernel
theorem dX7_valueOfWhole_13 : decode cX7_valueOfWhole 13 = .ok (.goto 11, 3) := by decide +kernel
theorem dX7_valueOfWhole_16 : decode cX7_valueOfWhole 16 = .ok (.aload_n 0, 1) := by decide +kernel
theorem dX7_valueOfWhole_17 : decode cX7_valueOfWhole 17 = .ok (.getfield 10, 3) := by decide +kernel
theorem dX7_valueOfWhole_20 : decode cX7_valueOfWhole 20 = .ok (.iload_n 1, 1) := by decide +kernel
theorem dX7_valueOfWhole_21 : decode cX7_valueOfWhole 21 = .ok (.invokevirtual 180, 3) := by decide +kernel
theorem dX7_valueOfWhole_24 : decode cX7_valueOfWhole 24 = .ok (.ireturn, 1) := by decide +kernel
theorem dX7_act_0 : decode cX7_act 0 = .ok (.aload_n 0, 1) := by decide +kernel
theorem dX7_act_1 : decode cX7_act 1 = .ok (.getfield 10, 3) := by decide +kernel
theorem dX7_act_4 : decode cX7_act 4 = .ok (.iload_n 1, 1) := by decide +kernel
theorem dX7_act_5 : decode cX7_act 5 = .ok (.iload_n 2, 1) := by decide +kernel
theorem dX7_act_6 : decode cX7_act 6 = .ok (.iload_n 3, 1) := by decide +kernel
theorem dX7_act_7 : decode cX7_act 7 = .ok (.iload 4, 2) := by decide +kernel
theorem dX7_act_9 : decode cX7_act 9 = .ok (.invokevirtual 181, 3) := by decide +kernel
theorem dX7_act_12 : decode cX7_act 12 = .ok (.istore 5, 2) := by decide +kernel
theorem dX7_act_14 : decode cX7_act 14 = .ok (.iload 5, 2) := by decide +kernel
theorem dX7_act_16 : decode cX7_act 16 = .ok (.iconst 1, 1) := by decide +kernel
theorem dX7_act_17 : decode cX7_act 17 = .ok (.if_icmp .eq 7, 3) := by decide +kernel
theorem dX7_act_20 : decode cX7_act 20 = .ok (.iconst 1, 1) := by decide +kernel
theorem dX7_act_21 : decode cX7_act 21 = .ok (.goto 4, 3) := by decide +kernel
theorem dX7_act_24 : decode cX7_act 24 = .ok (.iconst 0, 1) := by decide +kernel
theorem dX7_act_25 : decode cX7_act 25 = .ok (.invokestatic 41, 3) := by decide +kernel
theorem dX7_act_28 : decode cX7_act 28 = .ok (.iload 5, 2) := by decide +kernel
theorem dX7_act_30 : decode cX7_act 30 = .ok (.iconst 2, 1) := by decide +kernel
theorem dX7_act_31 : decode cX7_act 31 = .ok (.if_icmp .eq 7, 3) := by decide +kernel
theorem dX7_act_34 : decode cX7_act 34 = .ok (.iconst 1, 1) := by decide +kernel
theorem dX7_act_35 : decode cX7_act 35 = .ok (.goto 4, 3) := by decide +kernel
theorem dX7_act_38 : decode cX7_act 38 = .ok (.iconst 0, 1) := by decide +kernel
theorem dX7_act_39 : decode cX7_act 39 = .ok (.invokestatic 49, 3) := by decide +kernel
theorem dX7_act_42 : decode cX7_act 42 = .ok (.iload 5, 2) := by decide +kernel
theorem dX7_act_44 : decode cX7_act 44 = .ok (.iconst 3, 1) := by decide +kernel
theorem dX7_act_45 : decode cX7_act 45 = .ok (.if_icmp .eq 7, 3) := by decide +kernel
theorem dX7_act_48 : decode cX7_act 48 = .ok (.iconst 1, 1) := by decide +kernel
theorem dX7_act_49 : decode cX7_act 49 = .ok (.goto 4, 3) := by decide +kernel
theorem dX7_act_52 : decode cX7_act 52 = .ok (.iconst 0, 1) := by decide +kernel
theorem dX7_act_53 : decode cX7_act 53 = .ok (.invokestatic 136, 3) := by decide +kernel
theorem dX7_act_56 : decode cX7_act 56 = .ok (.aload_n 0, 1) := by decide +kernel
theorem dX7_act_57 : decode cX7_act 57 = .ok (.getfield 22, 3) := by decide +kernel
theorem dX7_act_60 : decode cX7_act 60 = .ok (.aload_n 0, 1) := by decide +kernel
theorem dX7_act_61 : decode cX7_act 61 = .ok (.getfield 10, 3) := by decide +kernel
theorem dX7_act_64 : decode cX7_act 64 = .ok (.invokevirtual 148, 3) := by decide +kernel
theorem dX7_act_67 : decode cX7_act 67 = .ok (.aload_n 0, 1) := by decide +kernel
theorem dX7_act_68 : decode cX7_act 68 = .ok (.getfield 10, 3) := by decide +kernel
theorem dX7_act_71 : decode cX7_act 71 = .ok (.iload_n 1, 1) := by decide +kernel
theorem dX7_act_72 : decode cX7_act 72 = .ok (.iload_n 2, 1) := by decide +kernel
theorem dX7_act_73 : decode cX7_act 73 = .ok (.iload_n 3, 1) := by decide +kernel
theorem dX7_act_74 : decode cX7_act 74 = .ok (.iload 4, 2) := by decide +kernel
theorem dX7_act_76 : decode cX7_act 76 = .ok (.invokevirtual 184, 3) := by decide +kernel
theorem dX7_act_79 : decode cX7_act 79 = .ok (.ireturn, 1) := by decide +kernel
theorem dX7_carryOutCommands_0 : decode cX7_carryOutCommands 0 = .ok (.aload_n 0, 1) := by decide +kernel
theorem dX7_carryOutCommands_1 : decode cX7_carryOutCommands 1 = .ok (.getfield 29, 3) := by decide +kernel
theorem dX7_carryOutCommands_4 : decode cX7_carryOutCommands 4 = .ok (.invokevirtual 187, 3) := by decide +kernel
theorem dX7_carryOutCommands_7 : decode cX7_carryOutCommands 7 = .ok (.iconst 0, 1) := by decide +kernel
theorem dX7_carryOutCommands_8 : decode cX7_carryOutCommands 8 = .ok (.istore_n 1, 1) := by decide +kernel
theorem dX7_carryOutCommands_9 : decode cX7_carryOutCommands 9 = .ok (.iload_n 1, 1) := by decide +kernel
theorem dX7_carryOutCommands_10 : decode cX7_carryOutCommands 10 = .ok (.sipush 150, 3) := by decide +kernel
theorem dX7_carryOutCommands_13 : decode cX7_carryOutCommands 13 = .ok (.if_icmp .ge 92, 3) := by decide +kernel
theorem dX7_carryOutCommands_16 : decode cX7_carryOutCommands 16 = .ok (.aload_n 0, 1) := by decide +kernel
theorem dX7_carryOutCommands_17 : decode cX7_carryOutCommands 17 = .ok (.getfield 29, 3) := by decide +kernel
theorem dX7_carryOutCommands_20 : decode cX7_carryOutCommands 20 = .ok (.invokevirtual 190, 3) := by decide +kernel
theorem dX7_carryOutCommands_23 : decode cX7_carryOutCommands 23 = .ok (.ifCond .eq 82, 3) := by decide +kernel
theorem dX7_carryOutCommands_26 : decode cX7_carryOutCommands 26 = .ok (.aload_n 0, 1) := by decide +kernel
theorem dX7_carryOutCommands_27 : decode cX7_carryOutCommands 27 = .ok (.getfield 29, 3) := by decide +kernel
theorem dX7_carryOutCommands_30 : decode cX7_carryOutCommands 30 = .ok (.getfield 193, 3) := by decide +kernel
theorem dX7_carryOutCommands_33 : decode cX7_carryOutCommands 33 = .ok (.iconst 0, 1) := by decide +kernel
theorem dX7_carryOutCommands_34 : decode cX7_carryOutCommands 34 = .ok (.iaload, 1) := by decide +kernel
theorem dX7_carryOutCommands_35 : decode cX7_carryOutCommands 35 = .ok (.istore_n 2, 1) := by decide +kernel
theorem dX7_carryOutCommands_36 : decode cX7_carryOutCommands 36 = .ok (.aload_n 0, 1) := by decide +kernel
theorem dX7_carryOutCommands_37 : decode cX7_carryOutCommands 37 = .ok (.getfield 29, 3) := by decide +kernel
theorem dX7_carryOutCommands_40 : decode cX7_carryOutCommands 40 = .ok (.getfield 193, 3) := by decide +kernel
theorem dX7_carryOutCommands_43 : decode cX7_carryOutCommands 43 = .ok (.iconst 1, 1) := by decide +kernel
theorem dX7_carryOutCommands_44 : decode cX7_carryOutCommands 44 = .ok (.iaload, 1) := by decide +kernel
theorem dX7_carryOutCommands_45 : decode cX7_carryOutCommands 45 = .ok (.istore_n 3, 1) := by decide +kernel
theorem dX7_carryOutCommands_46 : decode cX7_carryOutCommands 46 = .ok (.aload_n 0, 1) := by decide +kernel
theorem dX7_carryOutCommands_47 : decode cX7_carryOutCommands 47 = .ok (.getfield 29, 3) := by decide +kernel
theorem dX7_carryOutCommands_50 : decode cX7_carryOutCommands 50 = .ok (.getfield 193, 3) := by decide +kernel
theorem dX7_carryOutCommands_53 : decode cX7_carryOutCommands 53 = .ok (.iconst 2, 1) := by decide +kernel
theorem dX7_carryOutCommands_54 : decode cX7_carryOutCommands 54 = .ok (.iaload, 1) := by decide +kernel
theorem dX7_carryOutCommands_55 : decode cX7_carryOutCommands 55 = .ok (.istore 4, 2) := by decide +kernel
theorem dX7_carryOutCommands_57 : decode cX7_carryOutCommands 57 = .ok (.aload_n 0, 1) := by decide +kernel
theorem dX7_carryOutCommands_58 : decode cX7_carryOutCommands 58 = .ok (.getfield 10, 3) := by decide +kernel
theorem dX7_carryOutCommands_61 : decode cX7_carryOutCommands 61 = .ok (.aload_n 0, 1) := by decide +kernel
theorem dX7_carryOutCommands_62 : decode cX7_carryOutCommands 62 = .ok (.getfield 29, 3) := by decide +kernel
theorem dX7_carryOutCommands_65 : decode cX7_carryOutCommands 65 = .ok (.getfield 197, 3) := by decide +kernel
theorem dX7_carryOutCommands_68 : decode cX7_carryOutCommands 68 = .ok (.iload_n 2, 1) := by decide +kernel
theorem dX7_carryOutCommands_69 : decode cX7_carryOutCommands 69 = .ok (.iload_n 3, 1) := by decide +kernel
theorem dX7_carryOutCommands_70 : decode cX7_carryOutCommands 70 = .ok (.iload 4, 2) := by decide +kernel
theorem dX7_carryOutCommands_72 : decode cX7_carryOutCommands 72 = .ok (.invokevirtual 181, 3) := by decide +kernel
theorem dX7_carryOutCommands_75 : decode cX7_carryOutCommands 75 = .ok (.ifCond .eq 5, 3) := by decide +kernel
theorem dX7_carryOutCommands_78 : decode cX7_carryOutCommands 78 = .ok (.iload_n 1, 1) := by decide +kernel
theorem dX7_carryOutCommands_79 : decode cX7_carryOutCommands 79 = .ok (.ireturn, 1) := by decide +kernel
theorem dX7_carryOutCommands_80 : decode cX7_carryOutCommands 80 = .ok (.aload_n 0, 1) := by decide +kernel
theorem dX7_carryOutCommands_81 : decode cX7_carryOutCommands 81 = .ok (.getfield 10, 3) := by decide +kernel
theorem dX7_carryOutCommands_84 : decode cX7_carryOutCommands 84 = .ok (.aload_n 0, 1) := by decide +kernel
theorem dX7_carryOutCommands_85 : decode cX7_carryOutCommands 85 = .ok (.getfield 29, 3) := by decide +kernel
theorem dX7_carryOutCommands_88 : decode cX7_carryOutCommands 88 = .ok (.getfield 197, 3) := by decide +kernel
theorem dX7_carryOutCommands_91 : decode cX7_carryOutCommands 91 = .ok (.iload_n 2, 1) := by decide +kernel
theorem dX7_carryOutCommands_92 : decode cX7_carryOutCommands 92 = .ok (.iload_n 3, 1) := by decide +kernel
theorem dX7_carryOutCommands_93 : decode cX7_carryOutCommands 93 = .ok (.iload 4, 2) := by decide +kernel
theorem dX7_carryOutCommands_95 : decode cX7_carryOutCommands 95 = .ok (.invokevirtual 184, 3) := by decide +kernel
theorem dX7_carryOutCommands_98 : decode cX7_carryOutCommands 98 = .ok (.pop, 1) := by decide +kernel
theorem dX7_carryOutCommands_99 : decode cX7_carryOutCommands 99 = .ok (.iinc 1 1, 3) := by decide +kernel
theorem dX7_carryOutCommands_102 : decode cX7_carryOutCommands 102 = .ok (.goto (-93), 3) := by decide +kernel
theorem dX7_carryOutCommands_105 : decode cX7_carryOutCommands 105 = .ok (.iload_n 1, 1) := by decide +kernel
theorem dX7_carryOutCommands_106 : decode cX7_carryOutCommands 106 = .ok (.ireturn, 1) := by decide +kernel
theorem dX7_needIndex_0 : decode cX7_needIndex 0 = .ok (.iload_n 0, 1) := by decide +kernel
theorem dX7_needIndex_1 : decode cX7_needIndex 1 = .ok (.ifCond .ne 11, 3) := by decide +kernel
theorem dX7_needIndex_4 : decode cX7_needIndex 4 = .ok (.new 200, 3) := by decide +kernel
theorem dX7_needIndex_7 : decode cX7_needIndex 7 = .ok (.dup, 1) := by decide +kernel
theorem dX7_needIndex_8 : decode cX7_needIndex 8 = .ok (.invokespecial 202, 3) := by decide +kernel
theorem dX7_needIndex_11 : decode cX7_needIndex 11 = .ok (.athrow, 1) := by decide +kernel
theorem dX7_needIndex_12 : decode cX7_needIndex 12 = .ok (.return_, 1) := by decide +kernel
theorem dX7_needArgument_0 : decode cX7_needArgument 0 = .ok (.iload_n 0, 1) := by decide +kernel
theorem dX7_needArgument_1 : decode cX7_needArgument 1 = .ok (.ifCond .ne 11, 3) := by decide +kernel
theorem dX7_needArgument_4 : decode cX7_needArgument 4 = .ok (.new 203, 3) := by decide +kernel
theorem dX7_needArgument_7 : decode cX7_needArgument 7 = .ok (.dup, 1) := by decide +kernel
theorem dX7_needArgument_8 : decode cX7_needArgument 8 = .ok (.invokespecial 205, 3) := by decide +kernel
theorem dX7_needArgument_11 : decode cX7_needArgument 11 = .ok (.athrow, 1) := by decide +kernel
theorem dX7_needArgument_12 : decode cX7_needArgument 12 = .ok (.return_, 1) := by decide +kernel
theorem dX7_needState_0 : decode cX7_needState 0 = .ok (.iload_n 0, 1) := by decide +kernel
theorem dX7_needState_1 : decode cX7_needState 1 = .ok (.ifCond .ne 11, 3) := by decide +kernel
theorem dX7_needState_4 : decode cX7_needState 4 = .ok (.new 206, 3) := by decide +kernel
theorem dX7_needState_7 : decode cX7_needState 7 = .ok (.dup, 1) := by decide +kernel
theorem dX7_needState_8 : decode cX7_needState 8 = .ok (.invokespecial 208, 3) := by decide +kernel
theorem dX7_needState_11 : decode cX7_needState 11 = .ok (.athrow, 1) := by decide +kernel
theorem dX7_needState_12 : decode cX7_needState 12 = .ok (.return_, 1) := by decide +kernel
theorem dX7_isBelow_0 : decode cX7_isBelow 0 = .ok (.iload_n 0, 1) := by decide +kernel
theorem dX7_isBelow_1 : decode cX7_isBelow 1 = .ok (.ifCond .lt 12, 3) := by decide +kernel
theorem dX7_isBelow_4 : decode cX7_isBelow 4 = .ok (.iload_n 0, 1) := by decide +kernel
theorem dX7_isBelow_5 : decode cX7_isBelow 5 = .ok (.iload_n 1, 1) := by decide +kernel
theorem dX7_isBelow_6 : decode cX7_isBelow 6 = .ok (.if_icmp .ge 7, 3) := by decide +kernel
theorem dX7_isBelow_9 : decode cX7_isBelow 9 = .ok (.iconst 1, 1) := by decide +kernel
theorem dX7_isBelow_10 : decode cX7_isBelow 10 = .ok (.goto 4, 3) := by decide +kernel
theorem dX7_isBelow_13 : decode cX7_isBelow 13 = .ok (.iconst 0, 1) := by decide +kernel
theorem dX7_isBelow_14 : decode cX7_isBelow 14 = .ok (.ireturn, 1) := by decide +kernel
theorem dX7_areaOf_0 : decode cX7_areaOf 0 = .ok (.iload_n 1, 1) := by decide +kernel
theorem dX7_areaOf_1 : decode cX7_areaOf 1 = .ok (.ifCond .ne 6, 3) := by decide +kernel
theorem dX7_areaOf_4 : decode cX7_areaOf 4 = .ok (.ldc 209, 2) := by decide +kernel
theorem dX7_areaOf_6 : decode cX7_areaOf 6 = .ok (.ireturn, 1) := by decide +kernel
theorem dX7_areaOf_7 : decode cX7_areaOf 7 = .ok (.iload_n 1, 1) := by decide +kernel
theorem dX7_areaOf_8 : decode cX7_areaOf 8 = .ok (.iconst 2, 1) := by decide +kernel
theorem dX7_areaOf_9 : decode cX7_areaOf 9 = .ok (.if_icmp .ne 7, 3) := by decide +kernel
theorem dX7_areaOf_12 : decode cX7_areaOf 12 = .ok (.iconst 1, 1) := by decide +kernel
theorem dX7_areaOf_13 : decode cX7_areaOf 13 = .ok (.iload_n 0, 1) := by decide +kernel
theorem dX7_areaOf_14 : decode cX7_areaOf 14 = .ok (.ishl, 1) := by decide +kernel
theorem dX7_areaOf_15 : decode cX7_areaOf 15 = .ok (.ireturn, 1) := by decide +kernel
theorem dX7_areaOf_16 : decode cX7_areaOf 16 = .ok (.iload_n 0, 1) := by decide +kernel
theorem dX7_areaOf_17 : decode cX7_areaOf 17 = .ok (.iconst 4, 1) := by decide +kernel
theorem dX7_areaOf_18 : decode cX7_areaOf 18 = .ok (.irem, 1) := by decide +kernel
theorem dX7_areaOf_19 : decode cX7_areaOf 19 = .ok (.iconst 2, 1) := by decide +kernel
theorem dX7_areaOf_20 : decode cX7_areaOf 20 = .ok (.idiv, 1) := by decide +kernel
theorem dX7_areaOf_21 : decode cX7_areaOf 21 = .ok (.iconst 2, 1) := by decide +kernel
theorem dX7_areaOf_22 : decode cX7_areaOf 22 = .ok (.imul, 1) := by decide +kernel
theorem dX7_areaOf_23 : decode cX7_areaOf 23 = .ok (.istore_n 2, 1) := by decide +kernel
theorem dX7_areaOf_24 : decode cX7_areaOf 24 = .ok (.iload_n 0, 1) := by decide +kernel
theorem dX7_areaOf_25 : decode cX7_areaOf 25 = .ok (.iconst 4, 1) := by decide +kernel
theorem dX7_areaOf_26 : decode cX7_areaOf 26 = .ok (.idiv, 1) := by decide +kernel
theorem dX7_areaOf_27 : decode cX7_areaOf 27 = .ok (.iconst 2, 1) := by decide +kernel
theorem dX7_areaOf_28 : decode cX7_areaOf 28 = .ok (.idiv, 1) := by decide +kernel
theorem dX7_areaOf_29 : decode cX7_areaOf 29 = .ok (.iconst 2, 1) := by decide +kernel
theorem dX7_areaOf_30 : decode cX7_areaOf 30 = .ok (.imul, 1) := by decide +kernel
theorem dX7_areaOf_31 : decode cX7_areaOf 31 = .ok (.istore_n 3, 1) := by decide +kernel
theorem dX7_areaOf_32 : decode cX7_areaOf 32 = .ok (.iconst 3, 1) := by decide +kernel
theorem dX7_areaOf_33 : decode cX7_areaOf 33 = .ok (.iload_n 2, 1) := by decide +kernel
theorem dX7_areaOf_34 : decode cX7_areaOf 34 = .ok (.ishl, 1) := by decide +kernel
theorem dX7_areaOf_35 : decode cX7_areaOf 35 = .ok (.istore 4, 2) := by decide +kernel
theorem dX7_areaOf_37 : decode cX7_areaOf 37 = .ok (.iload 4, 2) := by decide +kernel
theorem dX7_areaOf_39 : decode cX7_areaOf 39 = .ok (.iload 4, 2) := by decide +kernel
theorem dX7_areaOf_41 : decode cX7_areaOf 41 = .ok (.iconst 4, 1) := by decide +kernel
theorem dX7_areaOf_42 : decode cX7_areaOf 42 = .ok (.ishl, 1) := by decide +kernel
theorem dX7_areaOf_43 : decode cX7_areaOf 43 = .ok (.ior, 1) := by decide +kernel
theorem dX7_areaOf_44 : decode cX7_areaOf 44 = .ok (.iconst 4, 1) := by decide +kernel
theorem dX7_areaOf_45 : decode cX7_areaOf 45 = .ok (.iload_n 3, 1) := by decide +kernel
theorem dX7_areaOf_46 : decode cX7_areaOf 46 = .ok (.imul, 1) := by decide +kernel
theorem dX7_areaOf_47 : decode cX7_areaOf 47 = .ok (.ishl, 1) := by decide +kernel
theorem dX7_areaOf_48 : decode cX7_areaOf 48 = .ok (.ireturn, 1) := by decide +kernel
end
section
theorem dX8_init_0 : decode cX8_init 0 = .ok (.aload_n 0, 1) := by decide +kernel
theorem dX8_init_1 : decode cX8_init 1 = .ok (.invokespecial 1, 3) := by decide +kernel
theorem dX8_init_4 : decode cX8_init 4 = .ok (.aload_n 0, 1) := by decide +kernel
theorem dX8_init_5 : decode cX8_init 5 = .ok (.sipush 816, 3) := by decide +kernel
theorem dX8_init_8 : decode cX8_init 8 = .ok (.newarray .int, 2) := by decide +kernel
theorem dX8_init_10 : decode cX8_init 10 = .ok (.putfield 7, 3) := by decide +kernel
theorem dX8_init_13 : decode cX8_init 13 = .ok (.aload_n 0, 1) := by decide +kernel
theorem dX8_init_14 : decode cX8_init 14 = .ok (.sipush 3264, 3) := by decide +kernel
theorem dX8_init_17 : decode cX8_init 17 = .ok (.newarray .int, 2) := by decide +kernel
theorem dX8_init_19 : decode cX8_init 19 = .ok (.putfield 13, 3) := by decide +kernel
theorem dX8_init_22 : decode cX8_init 22 = .ok (.aload_n 0, 1) := by decide +kernel
theorem dX8_init_23 : decode cX8_init 23 = .ok (.sipush 816, 3) := by decide +kernel
theorem dX8_init_26 : decode cX8_init 26 = .ok (.newarray .int, 2) := by decide +kernel
theorem dX8_init_28 : decode cX8_init 28 = .ok (.putfield 16, 3) := by decide +kernel
theorem dX8_init_31 : decode cX8_init 31 = .ok (.aload_n 0, 1) := by decide +kernel
theorem dX8_init_32 : decode cX8_init 32 = .ok (.bipush 16, 2) := by decide +kernel
theorem dX8_init_34 : decode cX8_init 34 = .ok (.newarray .int, 2) := by decide +kernel
theorem dX8_init_36 : decode cX8_init 36 = .ok (.putfield 19, 3) := by decide +kernel
theorem dX8_init_39 : decode cX8_init 39 = .ok (.aload_n 0, 1) := by decide +kernel
theorem dX8_init_40 : decode cX8_init 40 = .ok (.sipush 150, 3) := by decide +kernel
theorem dX8_init_43 : decode cX8_init 43 = .ok (.newarray .int, 2) := by decide +kernel
theorem dX8_init_45 : decode cX8_init 45 = .ok (.putfield 22, 3) := by decide +kernel
theorem dX8_init_48 : decode cX8_init 48 = .ok (.aload_n 0, 1) := by decide +kernel
theorem dX8_init_49 : decode cX8_init 49 = .ok (.iconst 3, 1) := by decide +kernel
theorem dX8_init_50 : decode cX8_init 50 = .ok (.newarray .int, 2) := by decide +kernel
theorem dX8_init_52 : decode cX8_init 52 = .ok (.putfield 25, 3) := by decide +kernel
theorem dX8_init_55 : decode cX8_init 55 = .ok (.aload_n 0, 1) := by decide +kernel
theorem dX8_init_56 : decode cX8_init 56 = .ok (.getfield 7, 3) := by decide +kernel
theorem dX8_init_59 : decode cX8_init 59 = .ok (.iconst 3, 1) := by decide +kernel
theorem dX8_init_60 : decode cX8_init 60 = .ok (.iconst 3, 1) := by decide +kernel
theorem dX8_init_61 : decode cX8_init 61 = .ok (.iastore, 1) := by decide +kernel
theorem dX8_init_62 : decode cX8_init 62 = .ok (.aload_n 0, 1) := by decide +kernel
theorem dX8_init_63 : decode cX8_init 63 = .ok (.getfield 7, 3) := by decide +kernel
theorem dX8_init_66 : decode cX8_init 66 = .ok (.iconst 4, 1) := by decide +kernel
theorem dX8_init_67 : decode cX8_init 67 = .ok (.iconst 2, 1) := by decide +kernel
theorem dX8_init_68 : decode cX8_init 68 = .ok (.iastore, 1) := by decide +kernel
theorem dX8_init_69 : decode cX8_init 69 = .ok (.aload_n 0, 1) := by decide +kernel
theorem dX8_init_70 : decode cX8_init 70 = .ok (.getfield 7, 3) := by decide +kernel
theorem dX8_init_73 : decode cX8_init 73 = .ok (.iconst 5, 1) := by decide +kernel
theorem dX8_init_74 : decode cX8_init 74 = .ok (.iconst 2, 1) := by decide +kernel
theorem dX8_init_75 : decode cX8_init 75 = .ok (.iastore, 1) := by decide +kernel
theorem dX8_init_76 : decode cX8_init 76 = .ok (.aload_n 0, 1) := by decide +kernel
theorem dX8_init_77 : decode cX8_init 77 = .ok (.getfield 7, 3) := by decide +kernel
theorem dX8_init_80 : decode cX8_init 80 = .ok (.bipush 6, 2) := by decide +kernel
theorem dX8_init_82 : decode cX8_init 82 = .ok (.bipush 8, 2) := by decide +kernel
theorem dX8_init_84 : decode cX8_init 84 = .ok (.iastore, 1) := by decide +kernel
theorem dX8_init_85 : decode cX8_init 85 = .ok (.return_, 1) := by decide +kernel
theorem dX8_thrown_0 : decode cX8_thrown 0 = .ok (.aload_n 0, 1) := by decide +kernel
theorem dX8_thrown_1 : decode cX8_thrown 1 = .ok (.getfield 28, 3) := by decide +kernel
theorem dX8_thrown_4 : decode cX8_thrown 4 = .ok (.ireturn, 1) := by decide +kernel
theorem dX8_in_0 : decode cX8_in 0 = .ok (.iload_n 0, 1) := by decide +kernel
theorem dX8_in_1 : decode cX8_in 1 = .ok (.iload_n 1, 1) := by decide +kernel
theorem dX8_in_2 : decode cX8_in 2 = .ok (.if_icmp .lt 12, 3) := by decide +kernel
theorem dX8_in_5 : decode cX8_in 5 = .ok (.iload_n 0, 1) := by decide +kernel
theorem dX8_in_6 : decode cX8_in 6 = .ok (.iload_n 2, 1) := by decide +kernel
theorem dX8_in_7 : decode cX8_in 7 = .ok (.if_icmp .gt 7, 3) := by decide +kernel
theorem dX8_in_10 : decode cX8_in 10 = .ok (.iconst 1, 1) := by decide +kernel
theorem dX8_in_11 : decode cX8_in 11 = .ok (.goto 4, 3) := by decide +kernel
theorem dX8_in_14 : decode cX8_in 14 = .ok (.iconst 0, 1) := by decide +kernel
theorem dX8_in_15 : decode cX8_in 15 = .ok (.ireturn, 1) := by decide +kernel
theorem dX8_fails_0 : decode cX8_fails 0 = .ok (.aload_n 0, 1) := by decide +kernel
theorem dX8_fails_1 : decode cX8_fails 1 = .ok (.iload_n 1, 1) := by decide +kernel
theorem dX8_fails_2 : decode cX8_fails 2 = .ok (.putfield 28, 3) := by decide +kernel
theorem dX8_fails_5 : decode cX8_fails 5 = .ok (.iconst 0, 1) := by decide +kernel
theorem dX8_fails_6 : decode cX8_fails 6 = .ok (.ireturn, 1) := by decide +kernel
theorem dX8_tells_0 : decode cX8_tells 0 = .ok (.aload_n 0, 1) := by decide +kernel
theorem dX8_tells_1 : decode cX8_tells 1 = .ok (.iconst 0, 1) := by decide +kernel
theorem dX8_tells_2 : decode cX8_tells 2 = .ok (.putfield 28, 3) := by decide +kernel
theorem dX8_tells_5 : decode cX8_tells 5 = .ok (.iload_n 1, 1) := by decide +kernel
theorem dX8_tells_6 : decode cX8_tells 6 = .ok (.ireturn, 1) := by decide +kernel
theorem dX8_laysAside_0 : decode cX8_laysAside 0 = .ok (.iconst 0, 1) := by decide +kernel
theorem dX8_laysAside_1 : decode cX8_laysAside 1 = .ok (.istore_n 1, 1) := by decide +kernel
theorem dX8_laysAside_2 : decode cX8_laysAside 2 = .ok (.iload_n 1, 1) := by decide +kernel
theorem dX8_laysAside_3 : decode cX8_laysAside 3 = .ok (.sipush 816, 3) := by decide +kernel
theorem dX8_laysAside_6 : decode cX8_laysAside 6 = .ok (.if_icmp .ge 21, 3) := by decide +kernel
theorem dX8_laysAside_9 : decode cX8_laysAside 9 = .ok (.aload_n 0, 1) := by decide +kernel
theorem dX8_laysAside_10 : decode cX8_laysAside 10 = .ok (.getfield 16, 3) := by decide +kernel
theorem dX8_laysAside_13 : decode cX8_laysAside 13 = .ok (.iload_n 1, 1) := by decide +kernel
theorem dX8_laysAside_14 : decode cX8_laysAside 14 = .ok (.aload_n 0, 1) := by decide +kernel
theorem dX8_laysAside_15 : decode cX8_laysAside 15 = .ok (.getfield 7, 3) := by decide +kernel
theorem dX8_laysAside_18 : decode cX8_laysAside 18 = .ok (.iload_n 1, 1) := by decide +kernel
theorem dX8_laysAside_19 : decode cX8_laysAside 19 = .ok (.iaload, 1) := by decide +kernel
theorem dX8_laysAside_20 : decode cX8_laysAside 20 = .ok (.iastore, 1) := by decide +kernel
theorem dX8_laysAside_21 : decode cX8_laysAside 21 = .ok (.iinc 1 1, 3) := by decide +kernel
theorem dX8_laysAside_24 : decode cX8_laysAside 24 = .ok (.goto (-22), 3) := by decide +kernel
theorem dX8_laysAside_27 : decode cX8_laysAside 27 = .ok (.return_, 1) := by decide +kernel
theorem dX8_bringsBack_0 : decode cX8_bringsBack 0 = .ok (.iconst 0, 1) := by decide +kernel
theorem dX8_bringsBack_1 : decode cX8_bringsBack 1 = .ok (.istore_n 1, 1) := by decide +kernel
theorem dX8_bringsBack_2 : decode cX8_bringsBack 2 = .ok (.iload_n 1, 1) := by decide +kernel
theorem dX8_bringsBack_3 : decode cX8_bringsBack 3 = .ok (.sipush 816, 3) := by decide +kernel
theorem dX8_bringsBack_6 : decode cX8_bringsBack 6 = .ok (.if_icmp .ge 21, 3) := by decide +kernel
theorem dX8_bringsBack_9 : decode cX8_bringsBack 9 = .ok (.aload_n 0, 1) := by decide +kernel
theorem dX8_bringsBack_10 : decode cX8_bringsBack 10 = .ok (.getfield 7, 3) := by decide +kernel
theorem dX8_bringsBack_13 : decode cX8_bringsBack 13 = .ok (.iload_n 1, 1) := by decide +kernel
theorem dX8_bringsBack_14 : decode cX8_bringsBack 14 = .ok (.aload_n 0, 1) := by decide +kernel
theorem dX8_bringsBack_15 : decode cX8_bringsBack 15 = .ok (.getfield 16, 3) := by decide +kernel
theorem dX8_bringsBack_18 : decode cX8_bringsBack 18 = .ok (.iload_n 1, 1) := by decide +kernel
theorem dX8_bringsBack_19 : decode cX8_bringsBack 19 = .ok (.iaload, 1) := by decide +kernel
theorem dX8_bringsBack_20 : decode cX8_bringsBack 20 = .ok (.iastore, 1) := by decide +kernel
theorem dX8_bringsBack_21 : decode cX8_bringsBack 21 = .ok (.iinc 1 1, 3) := by decide +kernel
theorem dX8_bringsBack_24 : decode cX8_bringsBack 24 = .ok (.goto (-22), 3) := by decide +kernel
theorem dX8_bringsBack_27 : decode cX8_bringsBack 27 = .ok (.return_, 1) := by decide +kernel
theorem dX8_keeps_0 : decode cX8_keeps 0 = .ok (.aload_n 0, 1) := by decide +kernel
theorem dX8_keeps_1 : decode cX8_keeps 1 = .ok (.getfield 32, 3) := by decide +kernel
theorem dX8_keeps_4 : decode cX8_keeps 4 = .ok (.iconst 4, 1) := by decide +kernel
theorem dX8_keeps_5 : decode cX8_keeps 5 = .ok (.if_icmp .ne 44, 3) := by decide +kernel
theorem dX8_keeps_8 : decode cX8_keeps 8 = .ok (.iconst 0, 1) := by decide +kernel
theorem dX8_keeps_9 : decode cX8_keeps 9 = .ok (.istore_n 1, 1) := by decide +kernel
theorem dX8_keeps_10 : decode cX8_keeps 10 = .ok (.iload_n 1, 1) := by decide +kernel
theorem dX8_keeps_11 : decode cX8_keeps 11 = .ok (.sipush 2448, 3) := by decide +kernel
theorem dX8_keeps_14 : decode cX8_keeps 14 = .ok (.if_icmp .ge 25, 3) := by decide +kernel
theorem dX8_keeps_17 : decode cX8_keeps 17 = .ok (.aload_n 0, 1) := by decide +kernel
theorem dX8_keeps_18 : decode cX8_keeps 18 = .ok (.getfield 13, 3) := by decide +kernel
theorem dX8_keeps_21 : decode cX8_keeps 21 = .ok (.iload_n 1, 1) := by decide +kernel
theorem dX8_keeps_22 : decode cX8_keeps 22 = .ok (.aload_n 0, 1) := by decide +kernel
theorem dX8_keeps_23 : decode cX8_keeps 23 = .ok (.getfield 13, 3) := by decide +kernel
theorem dX8_keeps_26 : decode cX8_keeps 26 = .ok (.iload_n 1, 1) := by decide +kernel
theorem dX8_keeps_27 : decode cX8_keeps 27 = .ok (.sipush 816, 3) := by decide +kernel
theorem dX8_keeps_30 : decode cX8_keeps 30 = .ok (.iadd, 1) := by decide +kernel
theorem dX8_keeps_31 : decode cX8_keeps 31 = .ok (.iaload, 1) := by decide +kernel
theorem dX8_keeps_32 : decode cX8_keeps 32 = .ok (.iastore, 1) := by decide +kernel
theorem dX8_keeps_33 : decode cX8_keeps 33 = .ok (.iinc 1 1, 3) := by decide +kernel
theorem dX8_keeps_36 : decode cX8_keeps 36 = .ok (.goto (-26), 3) := by decide +kernel
theorem dX8_keeps_39 : decode cX8_keeps 39 = .ok (.aload_n 0, 1) := by decide +kernel
theorem dX8_keeps_40 : decode cX8_keeps 40 = .ok (.dup, 1) := by decide +kernel
theorem dX8_keeps_41 : decode cX8_keeps 41 = .ok (.getfield 32, 3) := by decide +kernel
theorem dX8_keeps_44 : decode cX8_keeps 44 = .ok (.iconst 1, 1) := by decide +kernel
theorem dX8_keeps_45 : decode cX8_keeps 45 = .ok (.isub, 1) := by decide +kernel
theorem dX8_keeps_46 : decode cX8_keeps 46 = .ok (.putfield 32, 3) := by decide +kernel
theorem dX8_keeps_49 : decode cX8_keeps 49 = .ok (.iconst 0, 1) := by decide +kernel
theorem dX8_keeps_50 : decode cX8_keeps 50 = .ok (.istore_n 1, 1) := by decide +kernel
theorem dX8_keeps_51 : decode cX8_keeps 51 = .ok (.iload_n 1, 1) := by decide +kernel
theorem dX8_keeps_52 : decode cX8_keeps 52 = .ok (.sipush 816, 3) := by decide +kernel
theorem dX8_keeps_55 : decode cX8_keeps 55 = .ok (.if_icmp .ge 30, 3) := by decide +kernel
theorem dX8_keeps_58 : decode cX8_keeps 58 = .ok (.aload_n 0, 1) := by decide +kernel
theorem dX8_keeps_59 : decode cX8_keeps 59 = .ok (.getfield 13, 3) := by decide +kernel
theorem dX8_keeps_62 : decode cX8_keeps 62 = .ok (.sipush 816, 3) := by decide +kernel
theorem dX8_keeps_65 : decode cX8_keeps 65 = .ok (.aload_n 0, 1) := by decide +kernel
theorem dX8_keeps_66 : decode cX8_keeps 66 = .ok (.getfield 32, 3) := by decide +kernel
theorem dX8_keeps_69 : decode cX8_keeps 69 = .ok (.imul, 1) := by decide +kernel
theorem dX8_keeps_70 : decode cX8_keeps 70 = .ok (.iload_n 1, 1) := by decide +kernel
theorem dX8_keeps_71 : decode cX8_keeps 71 = .ok (.iadd, 1) := by decide +kernel
theorem dX8_keeps_72 : decode cX8_keeps 72 = .ok (.aload_n 0, 1) := by decide +kernel
theorem dX8_keeps_73 : decode cX8_keeps 73 = .ok (.getfield 16, 3) := by decide +kernel
theorem dX8_keeps_76 : decode cX8_keeps 76 = .ok (.iload_n 1, 1) := by decide +kernel
theorem dX8_keeps_77 : decode cX8_keeps 77 = .ok (.iaload, 1) := by decide +kernel
theorem dX8_keeps_78 : decode cX8_keeps 78 = .ok (.iastore, 1) := by decide +kernel
theorem dX8_keeps_79 : decode cX8_keeps 79 = .ok (.iinc 1 1, 3) := by decide +kernel
theorem dX8_keeps_82 : decode cX8_keeps 82 = .ok (.goto (-31), 3) := by decide +kernel
theorem dX8_keeps_85 : decode cX8_keeps 85 = .ok (.aload_n 0, 1) := by decide +kernel
theorem dX8_keeps_86 : decode cX8_keeps 86 = .ok (.dup, 1) := by decide +kernel
theorem dX8_keeps_87 : decode cX8_keeps 87 = .ok (.getfield 32, 3) := by decide +kernel
theorem dX8_keeps_90 : decode cX8_keeps 90 = .ok (.iconst 1, 1) := by decide +kernel
theorem dX8_keeps_91 : decode cX8_keeps 91 = .ok (.iadd, 1) := by decide +kernel
theorem dX8_keeps_92 : decode cX8_keeps 92 = .ok (.putfield 32, 3) := by decide +kernel
theorem dX8_keeps_95 : decode cX8_keeps 95 = .ok (.return_, 1) := by decide +kernel
theorem dX8_ends_0 : decode cX8_ends 0 = .ok (.iload_n 2, 1) := by decide +kernel
theorem dX8_ends_1 : decode cX8_ends 1 = .ok (.ifCond .le 13, 3) := by decide +kernel
theorem dX8_ends_4 : decode cX8_ends 4 = .ok (.aload_n 0, 1) := by decide +kernel
theorem dX8_ends_5 : decode cX8_ends 5 = .ok (.invokevirtual 35, 3) := by decide +kernel
theorem dX8_ends_8 : decode cX8_ends 8 = .ok (.aload_n 0, 1) := by decide +kernel
theorem dX8_ends_9 : decode cX8_ends 9 = .ok (.iload_n 2, 1) := by decide +kernel
theorem dX8_ends_10 : decode cX8_ends 10 = .ok (.invokevirtual 38, 3) := by decide +kernel
theorem dX8_ends_13 : decode cX8_ends 13 = .ok (.ireturn, 1) := by decide +kernel
theorem dX8_ends_14 : decode cX8_ends 14 = .ok (.aload_n 0, 1) := by decide +kernel
theorem dX8_ends_15 : decode cX8_ends 15 = .ok (.invokevirtual 42, 3) := by decide +kernel
theorem dX8_ends_18 : decode cX8_ends 18 = .ok (.aload_n 0, 1) := by decide +kernel
theorem dX8_ends_19 : decode cX8_ends 19 = .ok (.iload_n 1, 1) := by decide +kernel
theorem dX8_ends_20 : decode cX8_ends 20 = .ok (.invokevirtual 45, 3) := by decide +kernel
theorem dX8_ends_23 : decode cX8_ends 23 = .ok (.ireturn, 1) := by decide +kernel
theorem dX8_isLeaf_0 : decode cX8_isLeaf 0 = .ok (.iload_n 0, 1) := by decide +kernel
theorem dX8_isLeaf_1 : decode cX8_isLeaf 1 = .ok (.iconst 0, 1) := by decide +kernel
theorem dX8_isLeaf_2 : decode cX8_isLeaf 2 = .ok (.bipush 15, 2) := by decide +kernel
theorem dX8_isLeaf_4 : decode cX8_isLeaf 4 = .ok (.invokestatic 48, 3) := by decide +kernel
theorem dX8_isLeaf_7 : decode cX8_isLeaf 7 = .ok (.ireturn, 1) := by decide +kernel
theorem dX8_isLevel_0 : decode cX8_isLevel 0 = .ok (.iload_n 0, 1) := by decide +kernel
theorem dX8_isLevel_1 : decode cX8_isLevel 1 = .ok (.iconst 0, 1) := by decide +kernel
theorem dX8_isLevel_2 : decode cX8_isLevel 2 = .ok (.iconst 2, 1) := by decide +kernel
theorem dX8_isLevel_3 : decode cX8_isLevel 3 = .ok (.invokestatic 48, 3) := by decide +kernel
theorem dX8_isLevel_6 : decode cX8_isLevel 6 = .ok (.ireturn, 1) := by decide +kernel
theorem dX8_isOne_0 : decode cX8_isOne 0 = .ok (.iload_n 1, 1) := by decide +kernel
theorem dX8_isOne_1 : decode cX8_isOne 1 = .ok (.iconst 0, 1) := by decide +kernel
theorem dX8_isOne_2 : decode cX8_isOne 2 = .ok (.aload_n 0, 1) := by decide +kernel
theorem dX8_isOne_3 : decode cX8_isOne 3 = .ok (.getfield 7, 3) := by decide +kernel
theorem dX8_isOne_6 : decode cX8_isOne 6 = .ok (.iconst 1, 1) := by decide +kernel
theorem dX8_isOne_7 : decode cX8_isOne 7 = .ok (.iaload, 1) := by decide +kernel
theorem dX8_isOne_8 : decode cX8_isOne 8 = .ok (.iconst 1, 1) := by decide +kernel
theorem dX8_isOne_9 : decode cX8_isOne 9 = .ok (.isub, 1) := by decide +kernel
theorem dX8_isOne_10 : decode cX8_isOne 10 = .ok (.invokestatic 48, 3) := by decide +kernel
theorem dX8_isOne_13 : decode cX8_isOne 13 = .ok (.ireturn, 1) := by decide +kernel
theorem dX8_of_0 : decode cX8_of 0 = .ok (.aload_n 0, 1) := by decide +kernel
theorem dX8_of_1 : decode cX8_of 1 = .ok (.getfield 7, 3) := by decide +kernel
theorem dX8_of_4 : decode cX8_of 4 = .ok (.bipush 24, 2) := by decide +kernel
theorem dX8_of_6 : decode cX8_of 6 = .ok (.bipush 54, 2) := by decide +kernel
theorem dX8_of_8 : decode cX8_of 8 = .ok (.iload_n 1, 1) := by decide +kernel
theorem dX8_of_9 : decode cX8_of 9 = .ok (.imul, 1) := by decide +kernel
theorem dX8_of_10 : decode cX8_of 10 = .ok (.iadd, 1) := by decide +kernel
theorem dX8_of_11 : decode cX8_of 11 = .ok (.iload_n 2, 1) := by decide +kernel
theorem dX8_of_12 : decode cX8_of 12 = .ok (.iadd, 1) := by decide +kernel
theorem dX8_of_13 : decode cX8_of 13 = .ok (.iaload, 1) := by decide +kernel
theorem dX8_of_14 : decode cX8_of 14 = .ok (.ireturn, 1) := by decide +kernel
theorem dX8_put_0 : decode cX8_put 0 = .ok (.aload_n 0, 1) := by decide +kernel
theorem dX8_put_1 : decode cX8_put 1 = .ok (.getfield 7, 3) := by decide +kernel
theorem dX8_put_4 : decode cX8_put 4 = .ok (.bipush 24, 2) := by decide +kernel
theorem dX8_put_6 : decode cX8_put 6 = .ok (.bipush 54, 2) := by decide +kernel
theorem dX8_put_8 : decode cX8_put 8 = .ok (.iload_n 1, 1) := by decide +kernel
theorem dX8_put_9 : decode cX8_put 9 = .ok (.imul, 1) := by decide +kernel
theorem dX8_put_10 : decode cX8_put 10 = .ok (.iadd, 1) := by decide +kernel
theorem dX8_put_11 : decode cX8_put 11 = .ok (.iload_n 2, 1) := by decide +kernel
theorem dX8_put_12 : decode cX8_put 12 = .ok (.iadd, 1) := by decide +kernel
theorem dX8_put_13 : decode cX8_put 13 = .ok (.iload_n 3, 1) := by decide +kernel
theorem dX8_put_14 : decode cX8_put 14 = .ok (.iastore, 1) := by decide +kernel
theorem dX8_put_15 : decode cX8_put 15 = .ok (.return_, 1) := by decide +kernel
theorem dX8_adds_0 : decode cX8_adds 0 = .ok (.aload_n 0, 1) := by decide +kernel
theorem dX8_adds_1 : decode cX8_adds 1 = .ok (.getfield 7, 3) := by decide +kernel
theorem dX8_adds_4 : decode cX8_adds 4 = .ok (.bipush 24, 2) := by decide +kernel
theorem dX8_adds_6 : decode cX8_adds 6 = .ok (.bipush 54, 2) := by decide +kernel
theorem dX8_adds_8 : decode cX8_adds 8 = .ok (.iload_n 1, 1) := by decide +kernel
theorem dX8_adds_9 : decode cX8_adds 9 = .ok (.imul, 1) := by decide +kernel
theorem dX8_adds_10 : decode cX8_adds 10 = .ok (.iadd, 1) := by decide +kernel
theorem dX8_adds_11 : decode cX8_adds 11 = .ok (.iload_n 2, 1) := by decide +kernel
theorem dX8_adds_12 : decode cX8_adds 12 = .ok (.iadd, 1) := by decide +kernel
theorem dX8_adds_13 : decode cX8_adds 13 = .ok (.dup2, 1) := by decide +kernel
theorem dX8_adds_14 : decode cX8_adds 14 = .ok (.iaload, 1) := by decide +kernel
theorem dX8_adds_15 : decode cX8_adds 15 = .ok (.iload_n 3, 1) := by decide +kernel
theorem dX8_adds_16 : decode cX8_adds 16 = .ok (.iadd, 1) := by decide +kernel
theorem dX8_adds_17 : decode cX8_adds 17 = .ok (.iastore, 1) := by decide +kernel
theorem dX8_adds_18 : decode cX8_adds 18 = .ok (.return_, 1) := by decide +kernel
theorem dX8_ofEvent_0 : decode cX8_ofEvent 0 = .ok (.aload_n 0, 1) := by decide +kernel
theorem dX8_ofEvent_1 : decode cX8_ofEvent 1 = .ok (.getfield 7, 3) := by decide +kernel
theorem dX8_ofEvent_4 : decode cX8_ofEvent 4 = .ok (.sipush 456, 3) := by decide +kernel
theorem dX8_ofEvent_7 : decode cX8_ofEvent 7 = .ok (.bipush 6, 2) := by decide +kernel
theorem dX8_ofEvent_9 : decode cX8_ofEvent 9 = .ok (.iload_n 1, 1) := by decide +kernel
theorem dX8_ofEvent_10 : decode cX8_ofEvent 10 = .ok (.imul, 1) := by decide +kernel
theorem dX8_ofEvent_11 : decode cX8_ofEvent 11 = .ok (.iadd, 1) := by decide +kernel
theorem dX8_ofEvent_12 : decode cX8_ofEvent 12 = .ok (.iload_n 2, 1) := by decide +kernel
theorem dX8_ofEvent_13 : decode cX8_ofEvent 13 = .ok (.iadd, 1) := by decide +kernel
theorem dX8_ofEvent_14 : decode cX8_ofEvent 14 = .ok (.iaload, 1) := by decide +kernel
theorem dX8_ofEvent_15 : decode cX8_ofEvent 15 = .ok (.ireturn, 1) := by decide +kernel
theorem dX8_setting_0 : decode cX8_setting 0 = .ok (.aload_n 0, 1) := by decide +kernel
theorem dX8_setting_1 : decode cX8_setting 1 = .ok (.getfield 7, 3) := by decide +kernel
theorem dX8_setting_4 : decode cX8_setting 4 = .ok (.iconst 3, 1) := by decide +kernel
theorem dX8_setting_5 : decode cX8_setting 5 = .ok (.iload_n 1, 1) := by decide +kernel
theorem dX8_setting_6 : decode cX8_setting 6 = .ok (.iadd, 1) := by decide +kernel
theorem dX8_setting_7 : decode cX8_setting 7 = .ok (.iaload, 1) := by decide +kernel
theorem dX8_setting_8 : decode cX8_setting 8 = .ok (.ireturn, 1) := by decide +kernel
theorem dX8_part_0 : decode cX8_part 0 = .ok (.iload_n 1, 1) := by decide +kernel
theorem dX8_part_1 : decode cX8_part 1 = .ok (.iconst 2, 1) := by decide +kernel
theorem dX8_part_2 : decode cX8_part 2 = .ok (.if_icmp .ne 7, 3) := by decide +kernel
theorem dX8_part_5 : decode cX8_part 5 = .ok (.iload_n 0, 1) := by decide +kernel
theorem dX8_part_6 : decode cX8_part 6 = .ok (.goto 24, 3) := by decide +kernel
theorem dX8_part_9 : decode cX8_part 9 = .ok (.iload_n 1, 1) := by decide +kernel
theorem dX8_part_10 : decode cX8_part 10 = .ok (.iconst 1, 1) := by decide +kernel
theorem dX8_part_11 : decode cX8_part 11 = .ok (.if_icmp .ne 18, 3) := by decide +kernel
theorem dX8_part_14 : decode cX8_part 14 = .ok (.iload_n 0, 1) := by decide +kernel
theorem dX8_part_15 : decode cX8_part 15 = .ok (.bipush 8, 2) := by decide +kernel
theorem dX8_part_17 : decode cX8_part 17 = .ok (.idiv, 1) := by decide +kernel
theorem dX8_part_18 : decode cX8_part 18 = .ok (.iconst 2, 1) := by decide +kernel
theorem dX8_part_19 : decode cX8_part 19 = .ok (.imul, 1) := by decide +kernel
theorem dX8_part_20 : decode cX8_part 20 = .ok (.iload_n 0, 1) := by decide +kernel
theorem dX8_part_21 : decode cX8_part 21 = .ok (.iconst 4, 1) := by decide +kernel
theorem dX8_part_22 : decode cX8_part 22 = .ok (.irem, 1) := by decide +kernel
theorem dX8_part_23 : decode cX8_part 23 = .ok (.iconst 2, 1) := by decide +kernel
theorem dX8_part_24 : decode cX8_part 24 = .ok (.idiv, 1) := by decide +kernel
theorem dX8_part_25 : decode cX8_part 25 = .ok (.iadd, 1) := by decide +kernel
theorem dX8_part_26 : decode cX8_part 26 = .ok (.goto 4, 3) := by decide +kernel
theorem dX8_part_29 : decode cX8_part 29 = .ok (.iconst 0, 1) := by decide +kernel
theorem dX8_part_30 : decode cX8_part 30 = .ok (.ireturn, 1) := by decide +kernel
theorem dX8_overlap_0 : decode cX8_overlap 0 = .ok (.iload_n 1, 1) := by decide +kernel
theorem dX8_overlap_1 : decode cX8_overlap 1 = .ok (.iload_n 3, 1) := by decide +kernel
theorem dX8_overlap_2 : decode cX8_overlap 2 = .ok (.if_icmp .ge 7, 3) := by decide +kernel
theorem dX8_overlap_5 : decode cX8_overlap 5 = .ok (.iload_n 1, 1) := by decide +kernel
theorem dX8_overlap_6 : decode cX8_overlap 6 = .ok (.goto 4, 3) := by decide +kernel
theorem dX8_overlap_9 : decode cX8_overlap 9 = .ok (.iload_n 3, 1) := by decide +kernel
theorem dX8_overlap_10 : decode cX8_overlap 10 = .ok (.istore 4, 2) := by decide +kernel
theorem dX8_overlap_12 : decode cX8_overlap 12 = .ok (.iload_n 0, 1) := by decide +kernel
theorem dX8_overlap_13 : decode cX8_overlap 13 = .ok (.iload 4, 2) := by decide +kernel
theorem dX8_overlap_15 : decode cX8_overlap 15 = .ok (.invokestatic 52, 3) := by decide +kernel
theorem dX8_overlap_18 : decode cX8_overlap 18 = .ok (.iload_n 2, 1) := by decide +kernel
theorem dX8_overlap_19 : decode cX8_overlap 19 = .ok (.iload 4, 2) := by decide +kernel
theorem dX8_overlap_21 : decode cX8_overlap 21 = .ok (.invokestatic 52, 3) := by decide +kernel
theorem dX8_overlap_24 : decode cX8_overlap 24 = .ok (.if_icmp .ne 7, 3) := by decide +kernel
theorem dX8_overlap_27 : decode cX8_overlap 27 = .ok (.iconst 1, 1) := by decide +kernel
theorem dX8_overlap_28 : decode cX8_overlap 28 = .ok (.goto 4, 3) := by decide +kernel
theorem dX8_overlap_31 : decode cX8_overlap 31 = .ok (.iconst 0, 1) := by decide +kernel
theorem dX8_overlap_32 : decode cX8_overlap 32 = .ok (.ireturn, 1) := by decide +kernel
theorem dX8_stayAt_0 : decode cX8_stayAt 0 = .ok (.aload_n 0, 1) := by decide +kernel
theorem dX8_stayAt_1 : decode cX8_stayAt 1 = .ok (.iload_n 1, 1) := by decide +kernel
theorem dX8_stayAt_2 : decode cX8_stayAt 2 = .ok (.bipush 24, 2) := by decide +kernel
theorem dX8_stayAt_4 : decode cX8_stayAt 4 = .ok (.iconst 3, 1) := by decide +kernel
theorem dX8_stayAt_5 : decode cX8_stayAt 5 = .ok (.iload_n 2, 1) := by decide +kernel
theorem dX8_stayAt_6 : decode cX8_stayAt 6 = .ok (.imul, 1) := by decide +kernel
theorem dX8_stayAt_7 : decode cX8_stayAt 7 = .ok (.iadd, 1) := by decide +kernel
theorem dX8_stayAt_8 : decode cX8_stayAt 8 = .ok (.iload_n 3, 1) := by decide +kernel
theorem dX8_stayAt_9 : decode cX8_stayAt 9 = .ok (.iadd, 1) := by decide +kernel
theorem dX8_stayAt_10 : decode cX8_stayAt 10 = .ok (.invokevirtual 56, 3) := by decide +kernel
theorem dX8_stayAt_13 : decode cX8_stayAt 13 = .ok (.ireturn, 1) := by decide +kernel
theorem dX8_beginsStay_0 : decode cX8_beginsStay 0 = .ok (.aload_n 0, 1) := by decide +kernel
theorem dX8_beginsStay_1 : decode cX8_beginsStay 1 = .ok (.iload_n 1, 1) := by decide +kernel
theorem dX8_beginsStay_2 : decode cX8_beginsStay 2 = .ok (.bipush 11, 2) := by decide +kernel
theorem dX8_beginsStay_4 : decode cX8_beginsStay 4 = .ok (.invokevirtual 56, 3) := by decide +kernel
theorem dX8_beginsStay_7 : decode cX8_beginsStay 7 = .ok (.bipush 10, 2) := by decide +kernel
theorem dX8_beginsStay_9 : decode cX8_beginsStay 9 = .ok (.if_icmp .ne 40, 3) := by decide +kernel
theorem dX8_beginsStay_12 : decode cX8_beginsStay 12 = .ok (.bipush 24, 2) := by decide +kernel
theorem dX8_beginsStay_14 : decode cX8_beginsStay 14 = .ok (.istore_n 3, 1) := by decide +kernel
theorem dX8_beginsStay_15 : decode cX8_beginsStay 15 = .ok (.iload_n 3, 1) := by decide +kernel
theorem dX8_beginsStay_16 : decode cX8_beginsStay 16 = .ok (.bipush 51, 2) := by decide +kernel
theorem dX8_beginsStay_18 : decode cX8_beginsStay 18 = .ok (.if_icmp .ge 23, 3) := by decide +kernel
theorem dX8_beginsStay_21 : decode cX8_beginsStay 21 = .ok (.aload_n 0, 1) := by decide +kernel
theorem dX8_beginsStay_22 : decode cX8_beginsStay 22 = .ok (.iload_n 1, 1) := by decide +kernel
theorem dX8_beginsStay_23 : decode cX8_beginsStay 23 = .ok (.iload_n 3, 1) := by decide +kernel
theorem dX8_beginsStay_24 : decode cX8_beginsStay 24 = .ok (.aload_n 0, 1) := by decide +kernel
theorem dX8_beginsStay_25 : decode cX8_beginsStay 25 = .ok (.iload_n 1, 1) := by decide +kernel
theorem dX8_beginsStay_26 : decode cX8_beginsStay 26 = .ok (.iload_n 3, 1) := by decide +kernel
theorem dX8_beginsStay_27 : decode cX8_beginsStay 27 = .ok (.iconst 3, 1) := by decide +kernel
theorem dX8_beginsStay_28 : decode cX8_beginsStay 28 = .ok (.iadd, 1) := by decide +kernel
theorem dX8_beginsStay_29 : decode cX8_beginsStay 29 = .ok (.invokevirtual 56, 3) := by decide +kernel
theorem dX8_beginsStay_32 : decode cX8_beginsStay 32 = .ok (.invokevirtual 59, 3) := by decide +kernel
theorem dX8_beginsStay_35 : decode cX8_beginsStay 35 = .ok (.iinc 3 1, 3) := by decide +kernel
theorem dX8_beginsStay_38 : decode cX8_beginsStay 38 = .ok (.goto (-23), 3) := by decide +kernel
theorem dX8_beginsStay_41 : decode cX8_beginsStay 41 = .ok (.aload_n 0, 1) := by decide +kernel
theorem dX8_beginsStay_42 : decode cX8_beginsStay 42 = .ok (.iload_n 1, 1) := by decide +kernel
theorem dX8_beginsStay_43 : decode cX8_beginsStay 43 = .ok (.bipush 11, 2) := by decide +kernel
theorem dX8_beginsStay_45 : decode cX8_beginsStay 45 = .ok (.iconst (-1), 1) := by decide +kernel
theorem dX8_beginsStay_46 : decode cX8_beginsStay 46 = .ok (.invokevirtual 63, 3) := by decide +kernel
theorem dX8_beginsStay_49 : decode cX8_beginsStay 49 = .ok (.bipush 24, 2) := by decide +kernel
theorem dX8_beginsStay_51 : decode cX8_beginsStay 51 = .ok (.iconst 3, 1) := by decide +kernel
theorem dX8_beginsStay_52 : decode cX8_beginsStay 52 = .ok (.aload_n 0, 1) := by decide +kernel
theorem dX8_beginsStay_53 : decode cX8_beginsStay 53 = .ok (.iload_n 1, 1) := by decide +kernel
theorem dX8_beginsStay_54 : decode cX8_beginsStay 54 = .ok (.bipush 11, 2) := by decide +kernel
theorem dX8_beginsStay_56 : decode cX8_beginsStay 56 = .ok (.invokevirtual 56, 3) := by decide +kernel
theorem dX8_beginsStay_59 : decode cX8_beginsStay 59 = .ok (.imul, 1) := by decide +kernel
theorem dX8_beginsStay_60 : decode cX8_beginsStay 60 = .ok (.iadd, 1) := by decide +kernel
theorem dX8_beginsStay_61 : decode cX8_beginsStay 61 = .ok (.istore_n 3, 1) := by decide +kernel
theorem dX8_beginsStay_62 : decode cX8_beginsStay 62 = .ok (.aload_n 0, 1) := by decide +kernel
theorem dX8_beginsStay_63 : decode cX8_beginsStay 63 = .ok (.iload_n 1, 1) := by decide +kernel
theorem dX8_beginsStay_64 : decode cX8_beginsStay 64 = .ok (.iload_n 3, 1) := by decide +kernel
theorem dX8_beginsStay_65 : decode cX8_beginsStay 65 = .ok (.iload_n 2, 1) := by decide +kernel
theorem dX8_beginsStay_66 : decode cX8_beginsStay 66 = .ok (.invokevirtual 59, 3) := by decide +kernel
theorem dX8_beginsStay_69 : decode cX8_beginsStay 69 = .ok (.aload_n 0, 1) := by decide +kernel
theorem dX8_beginsStay_70 : decode cX8_beginsStay 70 = .ok (.iload_n 1, 1) := by decide +kernel
theorem dX8_beginsStay_71 : decode cX8_beginsStay 71 = .ok (.iload_n 3, 1) := by decide +kernel
theorem dX8_beginsStay_72 : decode cX8_beginsStay 72 = .ok (.iconst 1, 1) := by decide +kernel
theorem dX8_beginsStay_73 : decode cX8_beginsStay 73 = .ok (.iadd, 1) := by decide +kernel
theorem dX8_beginsStay_74 : decode cX8_beginsStay 74 = .ok (.aload_n 0, 1) := by decide +kernel
theorem dX8_beginsStay_75 : decode cX8_beginsStay 75 = .ok (.getfield 7, 3) := by decide +kernel
theorem dX8_beginsStay_78 : decode cX8_beginsStay 78 = .ok (.iconst 0, 1) := by decide +kernel
theorem dX8_beginsStay_79 : decode cX8_beginsStay 79 = .ok (.iaload, 1) := by decide +kernel
theorem dX8_beginsStay_80 : decode cX8_beginsStay 80 = .ok (.invokevirtual 59, 3) := by decide +kernel
theorem dX8_beginsStay_83 : decode cX8_beginsStay 83 = .ok (.aload_n 0, 1) := by decide +kernel
theorem dX8_beginsStay_84 : decode cX8_beginsStay 84 = .ok (.iload_n 1, 1) := by decide +kernel
theorem dX8_beginsStay_85 : decode cX8_beginsStay 85 = .ok (.iload_n 3, 1) := by decide +kernel
theorem dX8_beginsStay_86 : decode cX8_beginsStay 86 = .ok (.iconst 2, 1) := by decide +kernel
theorem dX8_beginsStay_87 : decode cX8_beginsStay 87 = .ok (.iadd, 1) := by decide +kernel
theorem dX8_beginsStay_88 : decode cX8_beginsStay 88 = .ok (.iconst (-1), 1) := by decide +kernel
theorem dX8_beginsStay_89 : decode cX8_beginsStay 89 = .ok (.invokevirtual 59, 3) := by decide +kernel
theorem dX8_beginsStay_92 : decode cX8_beginsStay 92 = .ok (.aload_n 0, 1) := by decide +kernel
theorem dX8_beginsStay_93 : decode cX8_beginsStay 93 = .ok (.iload_n 1, 1) := by decide +kernel
theorem dX8_beginsStay_94 : decode cX8_beginsStay 94 = .ok (.iconst 4, 1) := by decide +kernel
theorem dX8_beginsStay_95 : decode cX8_beginsStay 95 = .ok (.iload_n 2, 1) := by decide +kernel
theorem dX8_beginsStay_96 : decode cX8_beginsStay 96 = .ok (.invokevirtual 59, 3) := by decide +kernel
theorem dX8_beginsStay_99 : decode cX8_beginsStay 99 = .ok (.aload_n 0, 1) := by decide +kernel
theorem dX8_beginsStay_100 : decode cX8_beginsStay 100 = .ok (.iload_n 1, 1) := by decide +kernel
theorem dX8_beginsStay_101 : decode cX8_beginsStay 101 = .ok (.bipush 11, 2) := by decide +kernel
theorem dX8_beginsStay_103 : decode cX8_beginsStay 103 = .ok (.iconst 1, 1) := by decide +kernel
theorem dX8_beginsStay_104 : decode cX8_beginsStay 104 = .ok (.invokevirtual 63, 3) := by decide +kernel
theorem dX8_beginsStay_107 : decode cX8_beginsStay 107 = .ok (.return_, 1) := by decide +kernel
theorem dX8_endsStay_0 : decode cX8_endsStay 0 = .ok (.aload_n 0, 1) := by decide +kernel
theorem dX8_endsStay_1 : decode cX8_endsStay 1 = .ok (.iload_n 1, 1) := by decide +kernel
theorem dX8_endsStay_2 : decode cX8_endsStay 2 = .ok (.bipush 24, 2) := by decide +kernel
theorem dX8_endsStay_4 : decode cX8_endsStay 4 = .ok (.iconst 3, 1) := by decide +kernel
theorem dX8_endsStay_5 : decode cX8_endsStay 5 = .ok (.aload_n 0, 1) := by decide +kernel
theorem dX8_endsStay_6 : decode cX8_endsStay 6 = .ok (.iload_n 1, 1) := by decide +kernel
theorem dX8_endsStay_7 : decode cX8_endsStay 7 = .ok (.bipush 11, 2) := by decide +kernel
theorem dX8_endsStay_9 : decode cX8_endsStay 9 = .ok (.invokevirtual 56, 3) := by decide +kernel
theorem dX8_endsStay_12 : decode cX8_endsStay 12 = .ok (.imul, 1) := by decide +kernel
theorem dX8_endsStay_13 : decode cX8_endsStay 13 = .ok (.iadd, 1) := by decide +kernel
theorem dX8_endsStay_14 : decode cX8_endsStay 14 = .ok (.iconst 1, 1) := by decide +kernel
theorem dX8_endsStay_15 : decode cX8_endsStay 15 = .ok (.isub, 1) := by decide +kernel
theorem dX8_endsStay_16 : decode cX8_endsStay 16 = .ok (.aload_n 0, 1) := by decide +kernel
theorem dX8_endsStay_17 : decode cX8_endsStay 17 = .ok (.getfield 7, 3) := by decide +kernel
theorem dX8_endsStay_20 : decode cX8_endsStay 20 = .ok (.iconst 0, 1) := by decide +kernel
theorem dX8_endsStay_21 : decode cX8_endsStay 21 = .ok (.iaload, 1) := by decide +kernel
theorem dX8_endsStay_22 : decode cX8_endsStay 22 = .ok (.invokevirtual 59, 3) := by decide +kernel
theorem dX8_endsStay_25 : decode cX8_endsStay 25 = .ok (.return_, 1) := by decide +kernel
theorem dX8_leafAt_0 : decode cX8_leafAt 0 = .ok (.iconst (-1), 1) := by decide +kernel
theorem dX8_leafAt_1 : decode cX8_leafAt 1 = .ok (.istore_n 3, 1) := by decide +kernel
theorem dX8_leafAt_2 : decode cX8_leafAt 2 = .ok (.iconst 0, 1) := by decide +kernel
theorem dX8_leafAt_3 : decode cX8_leafAt 3 = .ok (.istore 4, 2) := by decide +kernel
theorem dX8_leafAt_5 : decode cX8_leafAt 5 = .ok (.iload 4, 2) := by decide +kernel
theorem dX8_leafAt_7 : decode cX8_leafAt 7 = .ok (.aload_n 0, 1) := by decide +kernel
theorem dX8_leafAt_8 : decode cX8_leafAt 8 = .ok (.iload_n 1, 1) := by decide +kernel
theorem dX8_leafAt_9 : decode cX8_leafAt 9 = .ok (.bipush 11, 2) := by decide +kernel
theorem dX8_leafAt_11 : decode cX8_leafAt 11 = .ok (.invokevirtual 56, 3) := by decide +kernel
theorem dX8_leafAt_14 : decode cX8_leafAt 14 = .ok (.if_icmp .ge 56, 3) := by decide +kernel
theorem dX8_leafAt_17 : decode cX8_leafAt 17 = .ok (.aload_n 0, 1) := by decide +kernel
theorem dX8_leafAt_18 : decode cX8_leafAt 18 = .ok (.iload_n 1, 1) := by decide +kernel
theorem dX8_leafAt_19 : decode cX8_leafAt 19 = .ok (.iload 4, 2) := by decide +kernel
theorem dX8_leafAt_21 : decode cX8_leafAt 21 = .ok (.iconst 2, 1) := by decide +kernel
theorem dX8_leafAt_22 : decode cX8_leafAt 22 = .ok (.invokevirtual 66, 3) := by decide +kernel
theorem dX8_leafAt_25 : decode cX8_leafAt 25 = .ok (.istore 5, 2) := by decide +kernel
theorem dX8_leafAt_27 : decode cX8_leafAt 27 = .ok (.iload_n 2, 1) := by decide +kernel
theorem dX8_leafAt_28 : decode cX8_leafAt 28 = .ok (.aload_n 0, 1) := by decide +kernel
theorem dX8_leafAt_29 : decode cX8_leafAt 29 = .ok (.iload_n 1, 1) := by decide +kernel
theorem dX8_leafAt_30 : decode cX8_leafAt 30 = .ok (.iload 4, 2) := by decide +kernel
theorem dX8_leafAt_32 : decode cX8_leafAt 32 = .ok (.iconst 1, 1) := by decide +kernel
theorem dX8_leafAt_33 : decode cX8_leafAt 33 = .ok (.invokevirtual 66, 3) := by decide +kernel
theorem dX8_leafAt_36 : decode cX8_leafAt 36 = .ok (.if_icmp .lt 26, 3) := by decide +kernel
theorem dX8_leafAt_39 : decode cX8_leafAt 39 = .ok (.iload 5, 2) := by decide +kernel
theorem dX8_leafAt_41 : decode cX8_leafAt 41 = .ok (.iconst (-1), 1) := by decide +kernel
theorem dX8_leafAt_42 : decode cX8_leafAt 42 = .ok (.if_icmp .eq 9, 3) := by decide +kernel
theorem dX8_leafAt_45 : decode cX8_leafAt 45 = .ok (.iload_n 2, 1) := by decide +kernel
theorem dX8_leafAt_46 : decode cX8_leafAt 46 = .ok (.iload 5, 2) := by decide +kernel
theorem dX8_leafAt_48 : decode cX8_leafAt 48 = .ok (.if_icmp .ge 14, 3) := by decide +kernel
theorem dX8_leafAt_51 : decode cX8_leafAt 51 = .ok (.aload_n 0, 1) := by decide +kernel
theorem dX8_leafAt_52 : decode cX8_leafAt 52 = .ok (.iload_n 1, 1) := by decide +kernel
theorem dX8_leafAt_53 : decode cX8_leafAt 53 = .ok (.iload 4, 2) := by decide +kernel
theorem dX8_leafAt_55 : decode cX8_leafAt 55 = .ok (.iconst 0, 1) := by decide +kernel
theorem dX8_leafAt_56 : decode cX8_leafAt 56 = .ok (.invokevirtual 66, 3) := by decide +kernel
theorem dX8_leafAt_59 : decode cX8_leafAt 59 = .ok (.goto 4, 3) := by decide +kernel
theorem dX8_leafAt_62 : decode cX8_leafAt 62 = .ok (.iload_n 3, 1) := by decide +kernel
theorem dX8_leafAt_63 : decode cX8_leafAt 63 = .ok (.istore_n 3, 1) := by decide +kernel
theorem dX8_leafAt_64 : decode cX8_leafAt 64 = .ok (.iinc 4 1, 3) := by decide +kernel
theorem dX8_leafAt_67 : decode cX8_leafAt 67 = .ok (.goto (-62), 3) := by decide +kernel
theorem dX8_leafAt_70 : decode cX8_leafAt 70 = .ok (.iload_n 3, 1) := by decide +kernel
theorem dX8_leafAt_71 : decode cX8_leafAt 71 = .ok (.ireturn, 1) := by decide +kernel
theorem dX8_reaches_0 : decode cX8_reaches 0 = .ok (.aload_n 0, 1) := by decide +kernel
theorem dX8_reaches_1 : decode cX8_reaches 1 = .ok (.iload_n 1, 1) := by decide +kernel
theorem dX8_reaches_2 : decode cX8_reaches 2 = .ok (.iconst 5, 1) := by decide +kernel
theorem dX8_reaches_3 : decode cX8_reaches 3 = .ok (.invokevirtual 56, 3) := by decide +kernel
theorem dX8_reaches_6 : decode cX8_reaches 6 = .ok (.iconst 1, 1) := by decide +kernel
theorem dX8_reaches_7 : decode cX8_reaches 7 = .ok (.if_icmp .ne 13, 3) := by decide +kernel
theorem dX8_reaches_10 : decode cX8_reaches 10 = .ok (.aload_n 0, 1) := by decide +kernel
theorem dX8_reaches_11 : decode cX8_reaches 11 = .ok (.iload_n 1, 1) := by decide +kernel
theorem dX8_reaches_12 : decode cX8_reaches 12 = .ok (.iload 4, 2) := by decide +kernel
theorem dX8_reaches_14 : decode cX8_reaches 14 = .ok (.invokevirtual 70, 3) := by decide +kernel
theorem dX8_reaches_17 : decode cX8_reaches 17 = .ok (.goto 4, 3) := by decide +kernel
theorem dX8_reaches_20 : decode cX8_reaches 20 = .ok (.iconst (-1), 1) := by decide +kernel
theorem dX8_reaches_21 : decode cX8_reaches 21 = .ok (.istore 5, 2) := by decide +kernel
theorem dX8_reaches_23 : decode cX8_reaches 23 = .ok (.iload 5, 2) := by decide +kernel
theorem dX8_reaches_25 : decode cX8_reaches 25 = .ok (.iconst (-1), 1) := by decide +kernel
theorem dX8_reaches_26 : decode cX8_reaches 26 = .ok (.if_icmp .eq 23, 3) := by decide +kernel
theorem dX8_reaches_29 : decode cX8_reaches 29 = .ok (.iload 5, 2) := by decide +kernel
theorem dX8_reaches_31 : decode cX8_reaches 31 = .ok (.aload_n 0, 1) := by decide +kernel
theorem dX8_reaches_32 : decode cX8_reaches 32 = .ok (.iload_n 1, 1) := by decide +kernel
theorem dX8_reaches_33 : decode cX8_reaches 33 = .ok (.iconst 1, 1) := by decide +kernel
theorem dX8_reaches_34 : decode cX8_reaches 34 = .ok (.invokevirtual 56, 3) := by decide +kernel
theorem dX8_reaches_37 : decode cX8_reaches 37 = .ok (.iload_n 2, 1) := by decide +kernel
theorem dX8_reaches_38 : decode cX8_reaches 38 = .ok (.iload_n 3, 1) := by decide +kernel
theorem dX8_reaches_39 : decode cX8_reaches 39 = .ok (.invokestatic 73, 3) := by decide +kernel
theorem dX8_reaches_42 : decode cX8_reaches 42 = .ok (.ifCond .eq 7, 3) := by decide +kernel
theorem dX8_reaches_45 : decode cX8_reaches 45 = .ok (.iconst 1, 1) := by decide +kernel
theorem dX8_reaches_46 : decode cX8_reaches 46 = .ok (.goto 4, 3) := by decide +kernel
theorem dX8_reaches_49 : decode cX8_reaches 49 = .ok (.iconst 0, 1) := by decide +kernel
theorem dX8_reaches_50 : decode cX8_reaches 50 = .ok (.ireturn, 1) := by decide +kernel
theorem dX8_reachedBy_0 : decode cX8_reachedBy 0 = .ok (.iconst 0, 1) := by decide +kernel
theorem dX8_reachedBy_1 : decode cX8_reachedBy 1 = .ok (.istore 4, 2) := by decide +kernel
theorem dX8_reachedBy_3 : decode cX8_reachedBy 3 = .ok (.iconst 0, 1) := by decide +kernel
theorem dX8_reachedBy_4 : decode cX8_reachedBy 4 = .ok (.istore 5, 2) := by decide +kernel
theorem dX8_reachedBy_6 : decode cX8_reachedBy 6 = .ok (.iload 5, 2) := by decide +kernel
theorem dX8_reachedBy_8 : decode cX8_reachedBy 8 = .ok (.aload_n 0, 1) := by decide +kernel
theorem dX8_reachedBy_9 : decode cX8_reachedBy 9 = .ok (.getfield 7, 3) := by decide +kernel
theorem dX8_reachedBy_12 : decode cX8_reachedBy 12 = .ok (.iconst 1, 1) := by decide +kernel
theorem dX8_reachedBy_13 : decode cX8_reachedBy 13 = .ok (.iaload, 1) := by decide +kernel
theorem dX8_reachedBy_14 : decode cX8_reachedBy 14 = .ok (.if_icmp .ge 34, 3) := by decide +kernel
theorem dX8_reachedBy_17 : decode cX8_reachedBy 17 = .ok (.iload 4, 2) := by decide +kernel
theorem dX8_reachedBy_19 : decode cX8_reachedBy 19 = .ok (.aload_n 0, 1) := by decide +kernel
theorem dX8_reachedBy_20 : decode cX8_reachedBy 20 = .ok (.iload 5, 2) := by decide +kernel
theorem dX8_reachedBy_22 : decode cX8_reachedBy 22 = .ok (.iload_n 1, 1) := by decide +kernel
theorem dX8_reachedBy_23 : decode cX8_reachedBy 23 = .ok (.iload_n 2, 1) := by decide +kernel
theorem dX8_reachedBy_24 : decode cX8_reachedBy 24 = .ok (.iload_n 3, 1) := by decide +kernel
theorem dX8_reachedBy_25 : decode cX8_reachedBy 25 = .ok (.invokevirtual 77, 3) := by decide +kernel
theorem dX8_reachedBy_28 : decode cX8_reachedBy 28 = .ok (.ifCond .eq 10, 3) := by decide +kernel
theorem dX8_reachedBy_31 : decode cX8_reachedBy 31 = .ok (.iconst 1, 1) := by decide +kernel
theorem dX8_reachedBy_32 : decode cX8_reachedBy 32 = .ok (.iload 5, 2) := by decide +kernel
theorem dX8_reachedBy_34 : decode cX8_reachedBy 34 = .ok (.ishl, 1) := by decide +kernel
theorem dX8_reachedBy_35 : decode cX8_reachedBy 35 = .ok (.goto 4, 3) := by decide +kernel
theorem dX8_reachedBy_38 : decode cX8_reachedBy 38 = .ok (.iconst 0, 1) := by decide +kernel
theorem dX8_reachedBy_39 : decode cX8_reachedBy 39 = .ok (.ior, 1) := by decide +kernel
theorem dX8_reachedBy_40 : decode cX8_reachedBy 40 = .ok (.istore 4, 2) := by decide +kernel
theorem dX8_reachedBy_42 : decode cX8_reachedBy 42 = .ok (.iinc 5 1, 3) := by decide +kernel
theorem dX8_reachedBy_45 : decode cX8_reachedBy 45 = .ok (.goto (-39), 3) := by decide +kernel
theorem dX8_reachedBy_48 : decode cX8_reachedBy 48 = .ok (.iload 4, 2) := by decide +kernel
theorem dX8_reachedBy_50 : decode cX8_reachedBy 50 = .ok (.ireturn, 1) := by decide +kernel
theorem dX8_subscribes_0 : decode cX8_subscribes 0 = .ok (.iload_n 3, 1) := by decide +kernel
theorem dX8_subscribes_1 : decode cX8_subscribes 1 = .ok (.invokestatic 80, 3) := by decide +kernel
theorem dX8_subscribes_4 : decode cX8_subscribes 4 = .ok (.ifCond .ne 5, 3) := by decide +kernel
theorem dX8_subscribes_7 : decode cX8_subscribes 7 = .ok (.iconst 1, 1) := by decide +kernel
theorem dX8_subscribes_8 : decode cX8_subscribes 8 = .ok (.ireturn, 1) := by decide +kernel
theorem dX8_subscribes_9 : decode cX8_subscribes 9 = .ok (.iload_n 1, 1) := by decide +kernel
theorem dX8_subscribes_10 : decode cX8_subscribes 10 = .ok (.iconst 0, 1) := by decide +kernel
theorem dX8_subscribes_11 : decode cX8_subscribes 11 = .ok (.iconst 2, 1) := by decide +kernel
theorem dX8_subscribes_12 : decode cX8_subscribes 12 = .ok (.invokestatic 48, 3) := by decide +kernel
theorem dX8_subscribes_15 : decode cX8_subscribes 15 = .ok (.ifCond .eq 10, 3) := by decide +kernel
theorem dX8_subscribes_18 : decode cX8_subscribes 18 = .ok (.iload_n 2, 1) := by decide +kernel
theorem dX8_subscribes_19 : decode cX8_subscribes 19 = .ok (.invokestatic 84, 3) := by decide +kernel
theorem dX8_subscribes_22 : decode cX8_subscribes 22 = .ok (.ifCond .ne 5, 3) := by decide +kernel
theorem dX8_subscribes_25 : decode cX8_subscribes 25 = .ok (.iconst 2, 1) := by decide +kernel
theorem dX8_subscribes_26 : decode cX8_subscribes 26 = .ok (.ireturn, 1) := by decide +kernel
theorem dX8_subscribes_27 : decode cX8_subscribes 27 = .ok (.aload_n 0, 1) := by decide +kernel
theorem dX8_subscribes_28 : decode cX8_subscribes 28 = .ok (.getfield 7, 3) := by decide +kernel
theorem dX8_subscribes_31 : decode cX8_subscribes 31 = .ok (.iconst 1, 1) := by decide +kernel
theorem dX8_subscribes_32 : decode cX8_subscribes 32 = .ok (.iaload, 1) := by decide +kernel
theorem dX8_subscribes_33 : decode cX8_subscribes 33 = .ok (.bipush 8, 2) := by decide +kernel
theorem dX8_subscribes_35 : decode cX8_subscribes 35 = .ok (.if_icmp .ne 5, 3) := by decide +kernel
theorem dX8_subscribes_38 : decode cX8_subscribes 38 = .ok (.iconst 3, 1) := by decide +kernel
theorem dX8_subscribes_39 : decode cX8_subscribes 39 = .ok (.ireturn, 1) := by decide +kernel
theorem dX8_subscribes_40 : decode cX8_subscribes 40 = .ok (.aload_n 0, 1) := by decide +kernel
theorem dX8_subscribes_41 : decode cX8_subscribes 41 = .ok (.getfield 7, 3) := by decide +kernel
theorem dX8_subscribes_44 : decode cX8_subscribes 44 = .ok (.iconst 1, 1) := by decide +kernel
theorem dX8_subscribes_45 : decode cX8_subscribes 45 = .ok (.iaload, 1) := by decide +kernel
theorem dX8_subscribes_46 : decode cX8_subscribes 46 = .ok (.istore 4, 2) := by decide +kernel
theorem dX8_subscribes_48 : decode cX8_subscribes 48 = .ok (.aload_n 0, 1) := by decide +kernel
theorem dX8_subscribes_49 : decode cX8_subscribes 49 = .ok (.getfield 7, 3) := by decide +kernel
theorem dX8_subscribes_52 : decode cX8_subscribes 52 = .ok (.iconst 1, 1) := by decide +kernel
theorem dX8_subscribes_53 : decode cX8_subscribes 53 = .ok (.dup2, 1) := by decide +kernel
theorem dX8_subscribes_54 : decode cX8_subscribes 54 = .ok (.iaload, 1) := by decide +kernel
theorem dX8_subscribes_55 : decode cX8_subscribes 55 = .ok (.iconst 1, 1) := by decide +kernel
theorem dX8_subscribes_56 : decode cX8_subscribes 56 = .ok (.iadd, 1) := by decide +kernel
theorem dX8_subscribes_57 : decode cX8_subscribes 57 = .ok (.iastore, 1) := by decide +kernel
theorem dX8_subscribes_58 : decode cX8_subscribes 58 = .ok (.iconst 0, 1) := by decide +kernel
theorem dX8_subscribes_59 : decode cX8_subscribes 59 = .ok (.istore 5, 2) := by decide +kernel
theorem dX8_subscribes_61 : decode cX8_subscribes 61 = .ok (.iload 5, 2) := by decide +kernel
theorem dX8_subscribes_63 : decode cX8_subscribes 63 = .ok (.bipush 54, 2) := by decide +kernel
theorem dX8_subscribes_65 : decode cX8_subscribes 65 = .ok (.if_icmp .ge 18, 3) := by decide +kernel
theorem dX8_subscribes_68 : decode cX8_subscribes 68 = .ok (.aload_n 0, 1) := by decide +kernel
theorem dX8_subscribes_69 : decode cX8_subscribes 69 = .ok (.iload 4, 2) := by decide +kernel
theorem dX8_subscribes_71 : decode cX8_subscribes 71 = .ok (.iload 5, 2) := by decide +kernel
theorem dX8_subscribes_73 : decode cX8_subscribes 73 = .ok (.iconst 0, 1) := by decide +kernel
theorem dX8_subscribes_74 : decode cX8_subscribes 74 = .ok (.invokevirtual 59, 3) := by decide +kernel
theorem dX8_subscribes_77 : decode cX8_subscribes 77 = .ok (.iinc 5 1, 3) := by decide +kernel
theorem dX8_subscribes_80 : decode cX8_subscribes 80 = .ok (.goto (-19), 3) := by decide +kernel
theorem dX8_subscribes_83 : decode cX8_subscribes 83 = .ok (.aload_n 0, 1) := by decide +kernel
theorem dX8_subscribes_84 : decode cX8_subscribes 84 = .ok (.iload 4, 2) := by decide +kernel
theorem dX8_subscribes_86 : decode cX8_subscribes 86 = .ok (.iconst 0, 1) := by decide +kernel
theorem dX8_subscribes_87 : decode cX8_subscribes 87 = .ok (.iload_n 1, 1) := by decide +kernel
theorem dX8_subscribes_88 : decode cX8_subscribes 88 = .ok (.invokevirtual 59, 3) := by decide +kernel
theorem dX8_subscribes_91 : decode cX8_subscribes 91 = .ok (.aload_n 0, 1) := by decide +kernel
theorem dX8_subscribes_92 : decode cX8_subscribes 92 = .ok (.iload 4, 2) := by decide +kernel
theorem dX8_subscribes_94 : decode cX8_subscribes 94 = .ok (.iconst 1, 1) := by decide +kernel
theorem dX8_subscribes_95 : decode cX8_subscribes 95 = .ok (.iload_n 2, 1) := by decide +kernel
theorem dX8_subscribes_96 : decode cX8_subscribes 96 = .ok (.invokevirtual 59, 3) := by decide +kernel
theorem dX8_subscribes_99 : decode cX8_subscribes 99 = .ok (.aload_n 0, 1) := by decide +kernel
theorem dX8_subscribes_100 : decode cX8_subscribes 100 = .ok (.iload 4, 2) := by decide +kernel
theorem dX8_subscribes_102 : decode cX8_subscribes 102 = .ok (.iconst 2, 1) := by decide +kernel
theorem dX8_subscribes_103 : decode cX8_subscribes 103 = .ok (.iload_n 3, 1) := by decide +kernel
theorem dX8_subscribes_104 : decode cX8_subscribes 104 = .ok (.invokevirtual 59, 3) := by decide +kernel
theorem dX8_subscribes_107 : decode cX8_subscribes 107 = .ok (.aload_n 0, 1) := by decide +kernel
theorem dX8_subscribes_108 : decode cX8_subscribes 108 = .ok (.iload 4, 2) := by decide +kernel
theorem dX8_subscribes_110 : decode cX8_subscribes 110 = .ok (.iconst 3, 1) := by decide +kernel
theorem dX8_subscribes_111 : decode cX8_subscribes 111 = .ok (.aload_n 0, 1) := by decide +kernel
theorem dX8_subscribes_112 : decode cX8_subscribes 112 = .ok (.getfield 7, 3) := by decide +kernel
theorem dX8_subscribes_115 : decode cX8_subscribes 115 = .ok (.iconst 0, 1) := by decide +kernel
theorem dX8_subscribes_116 : decode cX8_subscribes 116 = .ok (.iaload, 1) := by decide +kernel
theorem dX8_subscribes_117 : decode cX8_subscribes 117 = .ok (.invokevirtual 59, 3) := by decide +kernel
theorem dX8_subscribes_120 : decode cX8_subscribes 120 = .ok (.aload_n 0, 1) := by decide +kernel
theorem dX8_subscribes_121 : decode cX8_subscribes 121 = .ok (.iload 4, 2) := by decide +kernel
theorem dX8_subscribes_123 : decode cX8_subscribes 123 = .ok (.iconst 5, 1) := by decide +kernel
theorem dX8_subscribes_124 : decode cX8_subscribes 124 = .ok (.iconst 1, 1) := by decide +kernel
theorem dX8_subscribes_125 : decode cX8_subscribes 125 = .ok (.invokevirtual 59, 3) := by decide +kernel
theorem dX8_subscribes_128 : decode cX8_subscribes 128 = .ok (.aload_n 0, 1) := by decide +kernel
theorem dX8_subscribes_129 : decode cX8_subscribes 129 = .ok (.iload 4, 2) := by decide +kernel
theorem dX8_subscribes_131 : decode cX8_subscribes 131 = .ok (.iload_n 3, 1) := by decide +kernel
theorem dX8_subscribes_132 : decode cX8_subscribes 132 = .ok (.invokevirtual 87, 3) := by decide +kernel
theorem dX8_subscribes_135 : decode cX8_subscribes 135 = .ok (.aload_n 0, 1) := by decide +kernel
theorem dX8_subscribes_136 : decode cX8_subscribes 136 = .ok (.iload 4, 2) := by decide +kernel
theorem dX8_subscribes_138 : decode cX8_subscribes 138 = .ok (.putfield 91, 3) := by decide +kernel
theorem dX8_subscribes_141 : decode cX8_subscribes 141 = .ok (.iconst 0, 1) := by decide +kernel
theorem dX8_subscribes_142 : decode cX8_subscribes 142 = .ok (.ireturn, 1) := by decide +kernel
theorem dX8_goes_0 : decode cX8_goes 0 = .ok (.aload_n 0, 1) := by decide +kernel
theorem dX8_goes_1 : decode cX8_goes 1 = .ok (.iload_n 1, 1) := by decide +kernel
theorem dX8_goes_2 : decode cX8_goes 2 = .ok (.invokevirtual 94, 3) := by decide +kernel
theorem dX8_goes_5 : decode cX8_goes 5 = .ok (.ifCond .eq 10, 3) := by decide +kernel
theorem dX8_goes_8 : decode cX8_goes 8 = .ok (.iload_n 2, 1) := by decide +kernel
theorem dX8_goes_9 : decode cX8_goes 9 = .ok (.invokestatic 80, 3) := by decide +kernel
theorem dX8_goes_12 : decode cX8_goes 12 = .ok (.ifCond .ne 5, 3) := by decide +kernel
theorem dX8_goes_15 : decode cX8_goes 15 = .ok (.iconst 1, 1) := by decide +kernel
theorem dX8_goes_16 : decode cX8_goes 16 = .ok (.ireturn, 1) := by decide +kernel
theorem dX8_goes_17 : decode cX8_goes 17 = .ok (.aload_n 0, 1) := by decide +kernel
theorem dX8_goes_18 : decode cX8_goes 18 = .ok (.iload_n 1, 1) := by decide +kernel
theorem dX8_goes_19 : decode cX8_goes 19 = .ok (.iconst 5, 1) := by decide +kernel
theorem dX8_goes_20 : decode cX8_goes 20 = .ok (.invokevirtual 56, 3) := by decide +kernel
theorem dX8_goes_23 : decode cX8_goes 23 = .ok (.ifCond .eq 23, 3) := by decide +kernel
theorem dX8_goes_26 : decode cX8_goes 26 = .ok (.aload_n 0, 1) := by decide +kernel
theorem dX8_goes_27 : decode cX8_goes 27 = .ok (.iload_n 1, 1) := by decide +kernel
theorem dX8_goes_28 : decode cX8_goes 28 = .ok (.iconst 0, 1) := by decide +kernel
theorem dX8_goes_29 : decode cX8_goes 29 = .ok (.invokevirtual 56, 3) := by decide +kernel
theorem dX8_goes_32 : decode cX8_goes 32 = .ok (.iconst 2, 1) := by decide +kernel
theorem dX8_goes_33 : decode cX8_goes 33 = .ok (.if_icmp .eq 13, 3) := by decide +kernel
theorem dX8_goes_36 : decode cX8_goes 36 = .ok (.aload_n 0, 1) := by decide +kernel
theorem dX8_goes_37 : decode cX8_goes 37 = .ok (.iload_n 1, 1) := by decide +kernel
theorem dX8_goes_38 : decode cX8_goes 38 = .ok (.iconst 2, 1) := by decide +kernel
theorem dX8_goes_39 : decode cX8_goes 39 = .ok (.invokevirtual 56, 3) := by decide +kernel
theorem dX8_goes_42 : decode cX8_goes 42 = .ok (.iload_n 2, 1) := by decide +kernel
theorem dX8_goes_43 : decode cX8_goes 43 = .ok (.if_icmp .ne 5, 3) := by decide +kernel
theorem dX8_goes_46 : decode cX8_goes 46 = .ok (.iconst 2, 1) := by decide +kernel
theorem dX8_goes_47 : decode cX8_goes 47 = .ok (.ireturn, 1) := by decide +kernel
theorem dX8_goes_48 : decode cX8_goes 48 = .ok (.aload_n 0, 1) := by decide +kernel
theorem dX8_goes_49 : decode cX8_goes 49 = .ok (.aload_n 0, 1) := by decide +kernel
theorem dX8_goes_50 : decode cX8_goes 50 = .ok (.iload_n 1, 1) := by decide +kernel
theorem dX8_goes_51 : decode cX8_goes 51 = .ok (.iconst 2, 1) := by decide +kernel
theorem dX8_goes_52 : decode cX8_goes 52 = .ok (.invokevirtual 56, 3) := by decide +kernel
theorem dX8_goes_55 : decode cX8_goes 55 = .ok (.putfield 91, 3) := by decide +kernel
theorem dX8_goes_58 : decode cX8_goes 58 = .ok (.aload_n 0, 1) := by decide +kernel
theorem dX8_goes_59 : decode cX8_goes 59 = .ok (.iload_n 1, 1) := by decide +kernel
theorem dX8_goes_60 : decode cX8_goes 60 = .ok (.iconst 2, 1) := by decide +kernel
theorem dX8_goes_61 : decode cX8_goes 61 = .ok (.iload_n 2, 1) := by decide +kernel
theorem dX8_goes_62 : decode cX8_goes 62 = .ok (.invokevirtual 59, 3) := by decide +kernel
theorem dX8_goes_65 : decode cX8_goes 65 = .ok (.aload_n 0, 1) := by decide +kernel
theorem dX8_goes_66 : decode cX8_goes 66 = .ok (.iload_n 1, 1) := by decide +kernel
theorem dX8_goes_67 : decode cX8_goes 67 = .ok (.iconst 3, 1) := by decide +kernel
theorem dX8_goes_68 : decode cX8_goes 68 = .ok (.aload_n 0, 1) := by decide +kernel
theorem dX8_goes_69 : decode cX8_goes 69 = .ok (.getfield 7, 3) := by decide +kernel
theorem dX8_goes_72 : decode cX8_goes 72 = .ok (.iconst 0, 1) := by decide +kernel
theorem dX8_goes_73 : decode cX8_goes 73 = .ok (.iaload, 1) := by decide +kernel
theorem dX8_goes_74 : decode cX8_goes 74 = .ok (.invokevirtual 59, 3) := by decide +kernel
theorem dX8_goes_77 : decode cX8_goes 77 = .ok (.iconst 0, 1) := by decide +kernel
theorem dX8_goes_78 : decode cX8_goes 78 = .ok (.ireturn, 1) := by decide +kernel
theorem dX8_quits_0 : decode cX8_quits 0 = .ok (.aload_n 0, 1) := by decide +kernel
theorem dX8_quits_1 : decode cX8_quits 1 = .ok (.iload_n 1, 1) := by decide +kernel
theorem dX8_quits_2 : decode cX8_quits 2 = .ok (.invokevirtual 94, 3) := by decide +kernel
theorem dX8_quits_5 : decode cX8_quits 5 = .ok (.ifCond .ne 5, 3) := by decide +kernel
theorem dX8_quits_8 : decode cX8_quits 8 = .ok (.iconst 1, 1) := by decide +kernel
theorem dX8_quits_9 : decode cX8_quits 9 = .ok (.ireturn, 1) := by decide +kernel
theorem dX8_quits_10 : decode cX8_quits 10 = .ok (.aload_n 0, 1) := by decide +kernel
theorem dX8_quits_11 : decode cX8_quits 11 = .ok (.iload_n 1, 1) := by decide +kernel
theorem dX8_quits_12 : decode cX8_quits 12 = .ok (.iconst 5, 1) := by decide +kernel
theorem dX8_quits_13 : decode cX8_quits 13 = .ok (.invokevirtual 56, 3) := by decide +kernel
theorem dX8_quits_16 : decode cX8_quits 16 = .ok (.ifCond .ne 5, 3) := by decide +kernel
theorem dX8_quits_19 : decode cX8_quits 19 = .ok (.iconst 2, 1) := by decide +kernel
theorem dX8_quits_20 : decode cX8_quits 20 = .ok (.ireturn, 1) := by decide +kernel
theorem dX8_quits_21 : decode cX8_quits 21 = .ok (.aload_n 0, 1) := by decide +kernel
theorem dX8_quits_22 : decode cX8_quits 22 = .ok (.aload_n 0, 1) := by decide +kernel
theorem dX8_quits_23 : decode cX8_quits 23 = .ok (.iload_n 1, 1) := by decide +kernel
theorem dX8_quits_24 : decode cX8_quits 24 = .ok (.bipush 6, 2) := by decide +kernel
theorem dX8_quits_26 : decode cX8_quits 26 = .ok (.invokevirtual 56, 3) := by decide +kernel
theorem dX8_quits_29 : decode cX8_quits 29 = .ok (.putfield 91, 3) := by decide +kernel
theorem dX8_quits_32 : decode cX8_quits 32 = .ok (.aload_n 0, 1) := by decide +kernel
theorem dX8_quits_33 : decode cX8_quits 33 = .ok (.getfield 7, 3) := by decide +kernel
theorem dX8_quits_36 : decode cX8_quits 36 = .ok (.bipush 7, 2) := by decide +kernel
theorem dX8_quits_38 : decode cX8_quits 38 = .ok (.dup2, 1) := by decide +kernel
theorem dX8_quits_39 : decode cX8_quits 39 = .ok (.iaload, 1) := by decide +kernel
theorem dX8_quits_40 : decode cX8_quits 40 = .ok (.aload_n 0, 1) := by decide +kernel
theorem dX8_quits_41 : decode cX8_quits 41 = .ok (.getfield 91, 3) := by decide +kernel
theorem dX8_quits_44 : decode cX8_quits 44 = .ok (.iadd, 1) := by decide +kernel
theorem dX8_quits_45 : decode cX8_quits 45 = .ok (.iastore, 1) := by decide +kernel
theorem dX8_quits_46 : decode cX8_quits 46 = .ok (.aload_n 0, 1) := by decide +kernel
theorem dX8_quits_47 : decode cX8_quits 47 = .ok (.iload_n 1, 1) := by decide +kernel
theorem dX8_quits_48 : decode cX8_quits 48 = .ok (.bipush 6, 2) := by decide +kernel
theorem dX8_quits_50 : decode cX8_quits 50 = .ok (.iconst 0, 1) := by decide +kernel
theorem dX8_quits_51 : decode cX8_quits 51 = .ok (.invokevirtual 59, 3) := by decide +kernel
theorem dX8_quits_54 : decode cX8_quits 54 = .ok (.aload_n 0, 1) := by decide +kernel
theorem dX8_quits_55 : decode cX8_quits 55 = .ok (.iload_n 1, 1) := by decide +kernel
theorem dX8_quits_56 : decode cX8_quits 56 = .ok (.iconst 5, 1) := by decide +kernel
theorem dX8_quits_57 : decode cX8_quits 57 = .ok (.iconst 0, 1) := by decide +kernel
theorem dX8_quits_58 : decode cX8_quits 58 = .ok (.invokevirtual 59, 3) := by decide +kernel
theorem dX8_quits_61 : decode cX8_quits 61 = .ok (.aload_n 0, 1) := by decide +kernel
theorem dX8_quits_62 : decode cX8_quits 62 = .ok (.iload_n 1, 1) := by decide +kernel
theorem dX8_quits_63 : decode cX8_quits 63 = .ok (.invokevirtual 97, 3) := by decide +kernel
theorem dX8_quits_66 : decode cX8_quits 66 = .ok (.iconst 0, 1) := by decide +kernel
theorem dX8_quits_67 : decode cX8_quits 67 = .ok (.ireturn, 1) := by decide +kernel
theorem dX8_sets_0 : decode cX8_sets 0 = .ok (.iload_n 1, 1) := by decide +kernel
theorem dX8_sets_1 : decode cX8_sets 1 = .ok (.iconst 0, 1) := by decide +kernel
theorem dX8_sets_2 : decode cX8_sets 2 = .ok (.iconst 3, 1) := by decide +kernel
theorem dX8_sets_3 : decode cX8_sets 3 = .ok (.invokestatic 48, 3) := by decide +kernel
theorem dX8_sets_6 : decode cX8_sets 6 = .ok (.ifCond .ne 5, 3) := by decide +kernel
theorem dX8_sets_9 : decode cX8_sets 9 = .ok (.iconst 1, 1) := by decide +kernel
theorem dX8_sets_10 : decode cX8_sets 10 = .ok (.ireturn, 1) := by decide +kernel
theorem dX8_sets_11 : decode cX8_sets 11 = .ok (.iload_n 1, 1) := by decide +kernel
theorem dX8_sets_12 : decode cX8_sets 12 = .ok (.iconst 3, 1) := by decide +kernel
theorem dX8_sets_13 : decode cX8_sets 13 = .ok (.if_icmp .ne 8, 3) := by decide +kernel
theorem dX8_sets_16 : decode cX8_sets 16 = .ok (.bipush 20, 2) := by decide +kernel
theorem dX8_sets_18 : decode cX8_sets 18 = .ok (.goto 5, 3) := by decide +kernel
theorem dX8_sets_21 : decode cX8_sets 21 = .ok (.bipush 9, 2) := by decide +kernel
theorem dX8_sets_23 : decode cX8_sets 23 = .ok (.istore_n 3, 1) := by decide +kernel
theorem dX8_sets_24 : decode cX8_sets 24 = .ok (.iload_n 2, 1) := by decide +kernel
theorem dX8_sets_25 : decode cX8_sets 25 = .ok (.iload_n 1, 1) := by decide +kernel
theorem dX8_sets_26 : decode cX8_sets 26 = .ok (.iconst 1, 1) := by decide +kernel
theorem dX8_sets_27 : decode cX8_sets 27 = .ok (.if_icmp .ne 7, 3) := by decide +kernel
theorem dX8_sets_30 : decode cX8_sets 30 = .ok (.iconst 1, 1) := by decide +kernel
theorem dX8_sets_31 : decode cX8_sets 31 = .ok (.goto 4, 3) := by decide +kernel
theorem dX8_sets_34 : decode cX8_sets 34 = .ok (.iconst 0, 1) := by decide +kernel
theorem dX8_sets_35 : decode cX8_sets 35 = .ok (.iload_n 3, 1) := by decide +kernel
theorem dX8_sets_36 : decode cX8_sets 36 = .ok (.invokestatic 48, 3) := by decide +kernel
theorem dX8_sets_39 : decode cX8_sets 39 = .ok (.ifCond .ne 5, 3) := by decide +kernel
theorem dX8_sets_42 : decode cX8_sets 42 = .ok (.iconst 1, 1) := by decide +kernel
theorem dX8_sets_43 : decode cX8_sets 43 = .ok (.ireturn, 1) := by decide +kernel
theorem dX8_sets_44 : decode cX8_sets 44 = .ok (.aload_n 0, 1) := by decide +kernel
theorem dX8_sets_45 : decode cX8_sets 45 = .ok (.aload_n 0, 1) := by decide +kernel
theorem dX8_sets_46 : decode cX8_sets 46 = .ok (.iload_n 1, 1) := by decide +kernel
theorem dX8_sets_47 : decode cX8_sets 47 = .ok (.invokevirtual 101, 3) := by decide +kernel
theorem dX8_sets_50 : decode cX8_sets 50 = .ok (.putfield 91, 3) := by decide +kernel
theorem dX8_sets_53 : decode cX8_sets 53 = .ok (.aload_n 0, 1) := by decide +kernel
theorem dX8_sets_54 : decode cX8_sets 54 = .ok (.getfield 7, 3) := by decide +kernel
theorem dX8_sets_57 : decode cX8_sets 57 = .ok (.iconst 3, 1) := by decide +kernel
theorem dX8_sets_58 : decode cX8_sets 58 = .ok (.iload_n 1, 1) := by decide +kernel
theorem dX8_sets_59 : decode cX8_sets 59 = .ok (.iadd, 1) := by decide +kernel
theorem dX8_sets_60 : decode cX8_sets 60 = .ok (.iload_n 2, 1) := by decide +kernel
theorem dX8_sets_61 : decode cX8_sets 61 = .ok (.iastore, 1) := by decide +kernel
theorem dX8_sets_62 : decode cX8_sets 62 = .ok (.iconst 0, 1) := by decide +kernel
theorem dX8_sets_63 : decode cX8_sets 63 = .ok (.ireturn, 1) := by decide +kernel
theorem dX8_isTooLate_0 : decode cX8_isTooLate 0 = .ok (.iload_n 1, 1) := by decide +kernel
theorem dX8_isTooLate_1 : decode cX8_isTooLate 1 = .ok (.aload_n 0, 1) := by decide +kernel
theorem dX8_isTooLate_2 : decode cX8_isTooLate 2 = .ok (.iconst 3, 1) := by decide +kernel
theorem dX8_isTooLate_3 : decode cX8_isTooLate 3 = .ok (.invokevirtual 101, 3) := by decide +kernel
theorem dX8_isTooLate_6 : decode cX8_isTooLate 6 = .ok (.if_icmp .gt 13, 3) := by decide +kernel
theorem dX8_isTooLate_9 : decode cX8_isTooLate 9 = .ok (.iload_n 1, 1) := by decide +kernel
theorem dX8_isTooLate_10 : decode cX8_isTooLate 10 = .ok (.aload_n 0, 1) := by decide +kernel
theorem dX8_isTooLate_11 : decode cX8_isTooLate 11 = .ok (.getfield 7, 3) := by decide +kernel
theorem dX8_isTooLate_14 : decode cX8_isTooLate 14 = .ok (.iconst 0, 1) := by decide +kernel
theorem dX8_isTooLate_15 : decode cX8_isTooLate 15 = .ok (.iaload, 1) := by decide +kernel
theorem dX8_isTooLate_16 : decode cX8_isTooLate 16 = .ok (.if_icmp .le 7, 3) := by decide +kernel
theorem dX8_isTooLate_19 : decode cX8_isTooLate 19 = .ok (.iconst 1, 1) := by decide +kernel
theorem dX8_isTooLate_20 : decode cX8_isTooLate 20 = .ok (.goto 4, 3) := by decide +kernel
theorem dX8_isTooLate_23 : decode cX8_isTooLate 23 = .ok (.iconst 0, 1) := by decide +kernel
theorem dX8_isTooLate_24 : decode cX8_isTooLate 24 = .ok (.ireturn, 1) := by decide +kernel
theorem dX8_publishes_0 : decode cX8_publishes 0 = .ok (.iload_n 1, 1) := by decide +kernel
theorem dX8_publishes_1 : decode cX8_publishes 1 = .ok (.invokestatic 80, 3) := by decide +kernel
theorem dX8_publishes_4 : decode cX8_publishes 4 = .ok (.ifCond .ne 5, 3) := by decide +kernel
theorem dX8_publishes_7 : decode cX8_publishes 7 = .ok (.iconst 1, 1) := by decide +kernel
theorem dX8_publishes_8 : decode cX8_publishes 8 = .ok (.ireturn, 1) := by decide +kernel
theorem dX8_publishes_9 : decode cX8_publishes 9 = .ok (.iload_n 2, 1) := by decide +kernel
theorem dX8_publishes_10 : decode cX8_publishes 10 = .ok (.invokestatic 84, 3) := by decide +kernel
theorem dX8_publishes_13 : decode cX8_publishes 13 = .ok (.ifCond .eq 7, 3) := by decide +kernel
theorem dX8_publishes_16 : decode cX8_publishes 16 = .ok (.iload_n 3, 1) := by decide +kernel
theorem dX8_publishes_17 : decode cX8_publishes 17 = .ok (.ifCond .ge 5, 3) := by decide +kernel
theorem dX8_publishes_20 : decode cX8_publishes 20 = .ok (.iconst 2, 1) := by decide +kernel
theorem dX8_publishes_21 : decode cX8_publishes 21 = .ok (.ireturn, 1) := by decide +kernel
theorem dX8_publishes_22 : decode cX8_publishes 22 = .ok (.aload_n 0, 1) := by decide +kernel
theorem dX8_publishes_23 : decode cX8_publishes 23 = .ok (.getfield 7, 3) := by decide +kernel
theorem dX8_publishes_26 : decode cX8_publishes 26 = .ok (.iconst 2, 1) := by decide +kernel
theorem dX8_publishes_27 : decode cX8_publishes 27 = .ok (.iaload, 1) := by decide +kernel
theorem dX8_publishes_28 : decode cX8_publishes 28 = .ok (.bipush 60, 2) := by decide +kernel
theorem dX8_publishes_30 : decode cX8_publishes 30 = .ok (.if_icmp .eq 11, 3) := by decide +kernel
theorem dX8_publishes_33 : decode cX8_publishes 33 = .ok (.aload_n 0, 1) := by decide +kernel
theorem dX8_publishes_34 : decode cX8_publishes 34 = .ok (.iload_n 3, 1) := by decide +kernel
theorem dX8_publishes_35 : decode cX8_publishes 35 = .ok (.invokevirtual 104, 3) := by decide +kernel
theorem dX8_publishes_38 : decode cX8_publishes 38 = .ok (.ifCond .eq 5, 3) := by decide +kernel
theorem dX8_publishes_41 : decode cX8_publishes 41 = .ok (.iconst 3, 1) := by decide +kernel
theorem dX8_publishes_42 : decode cX8_publishes 42 = .ok (.ireturn, 1) := by decide +kernel
theorem dX8_publishes_43 : decode cX8_publishes 43 = .ok (.aload_n 0, 1) := by decide +kernel
theorem dX8_publishes_44 : decode cX8_publishes 44 = .ok (.getfield 7, 3) := by decide +kernel
theorem dX8_publishes_47 : decode cX8_publishes 47 = .ok (.iconst 2, 1) := by decide +kernel
theorem dX8_publishes_48 : decode cX8_publishes 48 = .ok (.iaload, 1) := by decide +kernel
theorem dX8_publishes_49 : decode cX8_publishes 49 = .ok (.istore 4, 2) := by decide +kernel
theorem dX8_publishes_51 : decode cX8_publishes 51 = .ok (.sipush 456, 3) := by decide +kernel
theorem dX8_publishes_54 : decode cX8_publishes 54 = .ok (.bipush 6, 2) := by decide +kernel
theorem dX8_publishes_56 : decode cX8_publishes 56 = .ok (.iload 4, 2) := by decide +kernel
theorem dX8_publishes_58 : decode cX8_publishes 58 = .ok (.imul, 1) := by decide +kernel
theorem dX8_publishes_59 : decode cX8_publishes 59 = .ok (.iadd, 1) := by decide +kernel
theorem dX8_publishes_60 : decode cX8_publishes 60 = .ok (.istore 5, 2) := by decide +kernel
theorem dX8_publishes_62 : decode cX8_publishes 62 = .ok (.aload_n 0, 1) := by decide +kernel
theorem dX8_publishes_63 : decode cX8_publishes 63 = .ok (.getfield 7, 3) := by decide +kernel
theorem dX8_publishes_66 : decode cX8_publishes 66 = .ok (.iconst 2, 1) := by decide +kernel
theorem dX8_publishes_67 : decode cX8_publishes 67 = .ok (.dup2, 1) := by decide +kernel
theorem dX8_publishes_68 : decode cX8_publishes 68 = .ok (.iaload, 1) := by decide +kernel
theorem dX8_publishes_69 : decode cX8_publishes 69 = .ok (.iconst 1, 1) := by decide +kernel
theorem dX8_publishes_70 : decode cX8_publishes 70 = .ok (.iadd, 1) := by decide +kernel
theorem dX8_publishes_71 : decode cX8_publishes 71 = .ok (.iastore, 1) := by decide +kernel
theorem dX8_publishes_72 : decode cX8_publishes 72 = .ok (.aload_n 0, 1) := by decide +kernel
theorem dX8_publishes_73 : decode cX8_publishes 73 = .ok (.getfield 7, 3) := by decide +kernel
theorem dX8_publishes_76 : decode cX8_publishes 76 = .ok (.iload 5, 2) := by decide +kernel
theorem dX8_publishes_78 : decode cX8_publishes 78 = .ok (.iconst 0, 1) := by decide +kernel
theorem dX8_publishes_79 : decode cX8_publishes 79 = .ok (.iadd, 1) := by decide +kernel
theorem dX8_publishes_80 : decode cX8_publishes 80 = .ok (.iload_n 1, 1) := by decide +kernel
theorem dX8_publishes_81 : decode cX8_publishes 81 = .ok (.iastore, 1) := by decide +kernel
theorem dX8_publishes_82 : decode cX8_publishes 82 = .ok (.aload_n 0, 1) := by decide +kernel
theorem dX8_publishes_83 : decode cX8_publishes 83 = .ok (.getfield 7, 3) := by decide +kernel
theorem dX8_publishes_86 : decode cX8_publishes 86 = .ok (.iload 5, 2) := by decide +kernel
theorem dX8_publishes_88 : decode cX8_publishes 88 = .ok (.iconst 1, 1) := by decide +kernel
theorem dX8_publishes_89 : decode cX8_publishes 89 = .ok (.iadd, 1) := by decide +kernel
theorem dX8_publishes_90 : decode cX8_publishes 90 = .ok (.iload_n 2, 1) := by decide +kernel
theorem dX8_publishes_91 : decode cX8_publishes 91 = .ok (.iastore, 1) := by decide +kernel
theorem dX8_publishes_92 : decode cX8_publishes 92 = .ok (.aload_n 0, 1) := by decide +kernel
theorem dX8_publishes_93 : decode cX8_publishes 93 = .ok (.getfield 7, 3) := by decide +kernel
theorem dX8_publishes_96 : decode cX8_publishes 96 = .ok (.iload 5, 2) := by decide +kernel
theorem dX8_publishes_98 : decode cX8_publishes 98 = .ok (.iconst 2, 1) := by decide +kernel
theorem dX8_publishes_99 : decode cX8_publishes 99 = .ok (.iadd, 1) := by decide +kernel
theorem dX8_publishes_100 : decode cX8_publishes 100 = .ok (.aload_n 0, 1) := by decide +kernel
theorem dX8_publishes_101 : decode cX8_publishes 101 = .ok (.getfield 7, 3) := by decide +kernel
theorem dX8_publishes_104 : decode cX8_publishes 104 = .ok (.iconst 0, 1) := by decide +kernel
theorem dX8_publishes_105 : decode cX8_publishes 105 = .ok (.iaload, 1) := by decide +kernel
theorem dX8_publishes_106 : decode cX8_publishes 106 = .ok (.iload_n 3, 1) := by decide +kernel
theorem dX8_publishes_107 : decode cX8_publishes 107 = .ok (.isub, 1) := by decide +kernel
theorem dX8_publishes_108 : decode cX8_publishes 108 = .ok (.iastore, 1) := by decide +kernel
theorem dX8_publishes_109 : decode cX8_publishes 109 = .ok (.aload_n 0, 1) := by decide +kernel
theorem dX8_publishes_110 : decode cX8_publishes 110 = .ok (.getfield 7, 3) := by decide +kernel
theorem dX8_publishes_113 : decode cX8_publishes 113 = .ok (.iload 5, 2) := by decide +kernel
theorem dX8_publishes_115 : decode cX8_publishes 115 = .ok (.iconst 3, 1) := by decide +kernel
theorem dX8_publishes_116 : decode cX8_publishes 116 = .ok (.iadd, 1) := by decide +kernel
theorem dX8_publishes_117 : decode cX8_publishes 117 = .ok (.aload_n 0, 1) := by decide +kernel
theorem dX8_publishes_118 : decode cX8_publishes 118 = .ok (.getfield 7, 3) := by decide +kernel
theorem dX8_publishes_121 : decode cX8_publishes 121 = .ok (.iconst 0, 1) := by decide +kernel
theorem dX8_publishes_122 : decode cX8_publishes 122 = .ok (.iaload, 1) := by decide +kernel
theorem dX8_publishes_123 : decode cX8_publishes 123 = .ok (.iastore, 1) := by decide +kernel
theorem dX8_publishes_124 : decode cX8_publishes 124 = .ok (.aload_n 0, 1) := by decide +kernel
theorem dX8_publishes_125 : decode cX8_publishes 125 = .ok (.getfield 7, 3) := by decide +kernel
theorem dX8_publishes_128 : decode cX8_publishes 128 = .ok (.iload 5, 2) := by decide +kernel
theorem dX8_publishes_130 : decode cX8_publishes 130 = .ok (.iconst 4, 1) := by decide +kernel
theorem dX8_publishes_131 : decode cX8_publishes 131 = .ok (.iadd, 1) := by decide +kernel
theorem dX8_publishes_132 : decode cX8_publishes 132 = .ok (.aload_n 0, 1) := by decide +kernel
theorem dX8_publishes_133 : decode cX8_publishes 133 = .ok (.iload_n 1, 1) := by decide +kernel
theorem dX8_publishes_134 : decode cX8_publishes 134 = .ok (.iload_n 2, 1) := by decide +kernel
theorem dX8_publishes_135 : decode cX8_publishes 135 = .ok (.aload_n 0, 1) := by decide +kernel
theorem dX8_publishes_136 : decode cX8_publishes 136 = .ok (.getfield 7, 3) := by decide +kernel
theorem dX8_publishes_139 : decode cX8_publishes 139 = .ok (.iconst 0, 1) := by decide +kernel
theorem dX8_publishes_140 : decode cX8_publishes 140 = .ok (.iaload, 1) := by decide +kernel
theorem dX8_publishes_141 : decode cX8_publishes 141 = .ok (.iload_n 3, 1) := by decide +kernel
theorem dX8_publishes_142 : decode cX8_publishes 142 = .ok (.isub, 1) := by decide +kernel
theorem dX8_publishes_143 : decode cX8_publishes 143 = .ok (.invokevirtual 107, 3) := by decide +kernel
theorem dX8_publishes_146 : decode cX8_publishes 146 = .ok (.iastore, 1) := by decide +kernel
theorem dX8_publishes_147 : decode cX8_publishes 147 = .ok (.aload_n 0, 1) := by decide +kernel
theorem dX8_publishes_148 : decode cX8_publishes 148 = .ok (.getfield 7, 3) := by decide +kernel
theorem dX8_publishes_151 : decode cX8_publishes 151 = .ok (.iload 5, 2) := by decide +kernel
theorem dX8_publishes_153 : decode cX8_publishes 153 = .ok (.iconst 5, 1) := by decide +kernel
theorem dX8_publishes_154 : decode cX8_publishes 154 = .ok (.iadd, 1) := by decide +kernel
theorem dX8_publishes_155 : decode cX8_publishes 155 = .ok (.iconst 0, 1) := by decide +kernel
theorem dX8_publishes_156 : decode cX8_publishes 156 = .ok (.iastore, 1) := by decide +kernel
theorem dX8_publishes_157 : decode cX8_publishes 157 = .ok (.iconst 0, 1) := by decide +kernel
theorem dX8_publishes_158 : decode cX8_publishes 158 = .ok (.istore 6, 2) := by decide +kernel
theorem dX8_publishes_160 : decode cX8_publishes 160 = .ok (.iload 6, 2) := by decide +kernel
theorem dX8_publishes_162 : decode cX8_publishes 162 = .ok (.aload_n 0, 1) := by decide +kernel
theorem dX8_publishes_163 : decode cX8_publishes 163 = .ok (.getfield 7, 3) := by decide +kernel
theorem dX8_publishes_166 : decode cX8_publishes 166 = .ok (.iconst 1, 1) := by decide +kernel
theorem dX8_publishes_167 : decode cX8_publishes 167 = .ok (.iaload, 1) := by decide +kernel
theorem dX8_publishes_168 : decode cX8_publishes 168 = .ok (.if_icmp .ge 35, 3) := by decide +kernel
theorem dX8_publishes_171 : decode cX8_publishes 171 = .ok (.aload_n 0, 1) := by decide +kernel
theorem dX8_publishes_172 : decode cX8_publishes 172 = .ok (.getfield 7, 3) := by decide +kernel
theorem dX8_publishes_175 : decode cX8_publishes 175 = .ok (.iload 5, 2) := by decide +kernel
theorem dX8_publishes_177 : decode cX8_publishes 177 = .ok (.iconst 4, 1) := by decide +kernel
theorem dX8_publishes_178 : decode cX8_publishes 178 = .ok (.iadd, 1) := by decide +kernel
theorem dX8_publishes_179 : decode cX8_publishes 179 = .ok (.iaload, 1) := by decide +kernel
theorem dX8_publishes_180 : decode cX8_publishes 180 = .ok (.iload 6, 2) := by decide +kernel
theorem dX8_publishes_182 : decode cX8_publishes 182 = .ok (.ishr, 1) := by decide +kernel
theorem dX8_publishes_183 : decode cX8_publishes 183 = .ok (.iconst 1, 1) := by decide +kernel
theorem dX8_publishes_184 : decode cX8_publishes 184 = .ok (.iand, 1) := by decide +kernel
theorem dX8_publishes_185 : decode cX8_publishes 185 = .ok (.iconst 1, 1) := by decide +kernel
theorem dX8_publishes_186 : decode cX8_publishes 186 = .ok (.if_icmp .ne 11, 3) := by decide +kernel
theorem dX8_publishes_189 : decode cX8_publishes 189 = .ok (.aload_n 0, 1) := by decide +kernel
theorem dX8_publishes_190 : decode cX8_publishes 190 = .ok (.iload 6, 2) := by decide +kernel
theorem dX8_publishes_192 : decode cX8_publishes 192 = .ok (.iload 4, 2) := by decide +kernel
theorem dX8_publishes_194 : decode cX8_publishes 194 = .ok (.invokevirtual 110, 3) := by decide +kernel
theorem dX8_publishes_197 : decode cX8_publishes 197 = .ok (.iinc 6 1, 3) := by decide +kernel
theorem dX8_publishes_200 : decode cX8_publishes 200 = .ok (.goto (-40), 3) := by decide +kernel
theorem dX8_publishes_203 : decode cX8_publishes 203 = .ok (.aload_n 0, 1) := by decide +kernel
theorem dX8_publishes_204 : decode cX8_publishes 204 = .ok (.iload 4, 2) := by decide +kernel
theorem dX8_publishes_206 : decode cX8_publishes 206 = .ok (.putfield 91, 3) := by decide +kernel
theorem dX8_publishes_209 : decode cX8_publishes 209 = .ok (.iconst 0, 1) := by decide +kernel
theorem dX8_publishes_210 : decode cX8_publishes 210 = .ok (.ireturn, 1) := by decide +kernel
theorem dX8_arrives_0 : decode cX8_arrives 0 = .ok (.aload_n 0, 1) := by decide +kernel
theorem dX8_arrives_1 : decode cX8_arrives 1 = .ok (.iload_n 1, 1) := by decide +kernel
theorem dX8_arrives_2 : decode cX8_arrives 2 = .ok (.bipush 6, 2) := by decide +kernel
theorem dX8_arrives_4 : decode cX8_arrives 4 = .ok (.invokevirtual 56, 3) := by decide +kernel
theorem dX8_arrives_7 : decode cX8_arrives 7 = .ok (.bipush 12, 2) := by decide +kernel
theorem dX8_arrives_9 : decode cX8_arrives 9 = .ok (.if_icmp .ne 14, 3) := by decide +kernel
theorem dX8_arrives_12 : decode cX8_arrives 12 = .ok (.aload_n 0, 1) := by decide +kernel
theorem dX8_arrives_13 : decode cX8_arrives 13 = .ok (.iload_n 1, 1) := by decide +kernel
theorem dX8_arrives_14 : decode cX8_arrives 14 = .ok (.bipush 8, 2) := by decide +kernel
theorem dX8_arrives_16 : decode cX8_arrives 16 = .ok (.iconst 1, 1) := by decide +kernel
theorem dX8_arrives_17 : decode cX8_arrives 17 = .ok (.invokevirtual 63, 3) := by decide +kernel
theorem dX8_arrives_20 : decode cX8_arrives 20 = .ok (.goto 27, 3) := by decide +kernel
theorem dX8_arrives_23 : decode cX8_arrives 23 = .ok (.aload_n 0, 1) := by decide +kernel
theorem dX8_arrives_24 : decode cX8_arrives 24 = .ok (.iload_n 1, 1) := by decide +kernel
theorem dX8_arrives_25 : decode cX8_arrives 25 = .ok (.bipush 12, 2) := by decide +kernel
theorem dX8_arrives_27 : decode cX8_arrives 27 = .ok (.aload_n 0, 1) := by decide +kernel
theorem dX8_arrives_28 : decode cX8_arrives 28 = .ok (.iload_n 1, 1) := by decide +kernel
theorem dX8_arrives_29 : decode cX8_arrives 29 = .ok (.bipush 6, 2) := by decide +kernel
theorem dX8_arrives_31 : decode cX8_arrives 31 = .ok (.invokevirtual 56, 3) := by decide +kernel
theorem dX8_arrives_34 : decode cX8_arrives 34 = .ok (.iadd, 1) := by decide +kernel
theorem dX8_arrives_35 : decode cX8_arrives 35 = .ok (.iload_n 2, 1) := by decide +kernel
theorem dX8_arrives_36 : decode cX8_arrives 36 = .ok (.invokevirtual 59, 3) := by decide +kernel
theorem dX8_arrives_39 : decode cX8_arrives 39 = .ok (.aload_n 0, 1) := by decide +kernel
theorem dX8_arrives_40 : decode cX8_arrives 40 = .ok (.iload_n 1, 1) := by decide +kernel
theorem dX8_arrives_41 : decode cX8_arrives 41 = .ok (.bipush 6, 2) := by decide +kernel
theorem dX8_arrives_43 : decode cX8_arrives 43 = .ok (.iconst 1, 1) := by decide +kernel
theorem dX8_arrives_44 : decode cX8_arrives 44 = .ok (.invokevirtual 63, 3) := by decide +kernel
theorem dX8_arrives_47 : decode cX8_arrives 47 = .ok (.return_, 1) := by decide +kernel
theorem dX8_dwellOf_0 : decode cX8_dwellOf 0 = .ok (.aload_n 0, 1) := by decide +kernel
theorem dX8_dwellOf_1 : decode cX8_dwellOf 1 = .ok (.iload_n 1, 1) := by decide +kernel
theorem dX8_dwellOf_2 : decode cX8_dwellOf 2 = .ok (.iconst 0, 1) := by decide +kernel
theorem dX8_dwellOf_3 : decode cX8_dwellOf 3 = .ok (.invokevirtual 56, 3) := by decide +kernel
theorem dX8_dwellOf_6 : decode cX8_dwellOf 6 = .ok (.iconst 1, 1) := by decide +kernel
theorem dX8_dwellOf_7 : decode cX8_dwellOf 7 = .ok (.if_icmp .ne 13, 3) := by decide +kernel
theorem dX8_dwellOf_10 : decode cX8_dwellOf 10 = .ok (.aload_n 0, 1) := by decide +kernel
theorem dX8_dwellOf_11 : decode cX8_dwellOf 11 = .ok (.iconst 0, 1) := by decide +kernel
theorem dX8_dwellOf_12 : decode cX8_dwellOf 12 = .ok (.invokevirtual 101, 3) := by decide +kernel
theorem dX8_dwellOf_15 : decode cX8_dwellOf 15 = .ok (.iconst 2, 1) := by decide +kernel
theorem dX8_dwellOf_16 : decode cX8_dwellOf 16 = .ok (.idiv, 1) := by decide +kernel
theorem dX8_dwellOf_17 : decode cX8_dwellOf 17 = .ok (.goto 8, 3) := by decide +kernel
theorem dX8_dwellOf_20 : decode cX8_dwellOf 20 = .ok (.aload_n 0, 1) := by decide +kernel
theorem dX8_dwellOf_21 : decode cX8_dwellOf 21 = .ok (.iconst 0, 1) := by decide +kernel
theorem dX8_dwellOf_22 : decode cX8_dwellOf 22 = .ok (.invokevirtual 101, 3) := by decide +kernel
theorem dX8_dwellOf_25 : decode cX8_dwellOf 25 = .ok (.ireturn, 1) := by decide +kernel
theorem dX8_mayChange_0 : decode cX8_mayChange 0 = .ok (.aload_n 0, 1) := by decide +kernel
theorem dX8_mayChange_1 : decode cX8_mayChange 1 = .ok (.iload_n 1, 1) := by decide +kernel
theorem dX8_mayChange_2 : decode cX8_mayChange 2 = .ok (.iconst 5, 1) := by decide +kernel
theorem dX8_mayChange_3 : decode cX8_mayChange 3 = .ok (.invokevirtual 56, 3) := by decide +kernel
theorem dX8_mayChange_6 : decode cX8_mayChange 6 = .ok (.iconst 1, 1) := by decide +kernel
theorem dX8_mayChange_7 : decode cX8_mayChange 7 = .ok (.if_icmp .ne 43, 3) := by decide +kernel
theorem dX8_mayChange_10 : decode cX8_mayChange 10 = .ok (.aload_n 0, 1) := by decide +kernel
theorem dX8_mayChange_11 : decode cX8_mayChange 11 = .ok (.iload_n 1, 1) := by decide +kernel
theorem dX8_mayChange_12 : decode cX8_mayChange 12 = .ok (.iconst 2, 1) := by decide +kernel
theorem dX8_mayChange_13 : decode cX8_mayChange 13 = .ok (.invokevirtual 56, 3) := by decide +kernel
theorem dX8_mayChange_16 : decode cX8_mayChange 16 = .ok (.aload_n 0, 1) := by decide +kernel
theorem dX8_mayChange_17 : decode cX8_mayChange 17 = .ok (.iload_n 1, 1) := by decide +kernel
theorem dX8_mayChange_18 : decode cX8_mayChange 18 = .ok (.iconst 4, 1) := by decide +kernel
theorem dX8_mayChange_19 : decode cX8_mayChange 19 = .ok (.invokevirtual 56, 3) := by decide +kernel
theorem dX8_mayChange_22 : decode cX8_mayChange 22 = .ok (.if_icmp .eq 28, 3) := by decide +kernel
theorem dX8_mayChange_25 : decode cX8_mayChange 25 = .ok (.aload_n 0, 1) := by decide +kernel
theorem dX8_mayChange_26 : decode cX8_mayChange 26 = .ok (.getfield 7, 3) := by decide +kernel
theorem dX8_mayChange_29 : decode cX8_mayChange 29 = .ok (.iconst 0, 1) := by decide +kernel
theorem dX8_mayChange_30 : decode cX8_mayChange 30 = .ok (.iaload, 1) := by decide +kernel
theorem dX8_mayChange_31 : decode cX8_mayChange 31 = .ok (.aload_n 0, 1) := by decide +kernel
theorem dX8_mayChange_32 : decode cX8_mayChange 32 = .ok (.iload_n 1, 1) := by decide +kernel
theorem dX8_mayChange_33 : decode cX8_mayChange 33 = .ok (.iconst 3, 1) := by decide +kernel
theorem dX8_mayChange_34 : decode cX8_mayChange 34 = .ok (.invokevirtual 56, 3) := by decide +kernel
theorem dX8_mayChange_37 : decode cX8_mayChange 37 = .ok (.isub, 1) := by decide +kernel
theorem dX8_mayChange_38 : decode cX8_mayChange 38 = .ok (.aload_n 0, 1) := by decide +kernel
theorem dX8_mayChange_39 : decode cX8_mayChange 39 = .ok (.iload_n 1, 1) := by decide +kernel
theorem dX8_mayChange_40 : decode cX8_mayChange 40 = .ok (.invokevirtual 113, 3) := by decide +kernel
theorem dX8_mayChange_43 : decode cX8_mayChange 43 = .ok (.if_icmp .lt 7, 3) := by decide +kernel
theorem dX8_mayChange_46 : decode cX8_mayChange 46 = .ok (.iconst 1, 1) := by decide +kernel
theorem dX8_mayChange_47 : decode cX8_mayChange 47 = .ok (.goto 4, 3) := by decide +kernel
theorem dX8_mayChange_50 : decode cX8_mayChange 50 = .ok (.iconst 0, 1) := by decide +kernel
theorem dX8_mayChange_51 : decode cX8_mayChange 51 = .ok (.ireturn, 1) := by decide +kernel
theorem dX8_delivers_0 : decode cX8_delivers 0 = .ok (.aload_n 0, 1) := by decide +kernel
theorem dX8_delivers_1 : decode cX8_delivers 1 = .ok (.iload_n 1, 1) := by decide +kernel
theorem dX8_delivers_2 : decode cX8_delivers 2 = .ok (.bipush 12, 2) := by decide +kernel
theorem dX8_delivers_4 : decode cX8_delivers 4 = .ok (.invokevirtual 56, 3) := by decide +kernel
theorem dX8_delivers_7 : decode cX8_delivers 7 = .ok (.istore_n 2, 1) := by decide +kernel
theorem dX8_delivers_8 : decode cX8_delivers 8 = .ok (.bipush 12, 2) := by decide +kernel
theorem dX8_delivers_10 : decode cX8_delivers 10 = .ok (.istore_n 3, 1) := by decide +kernel
theorem dX8_delivers_11 : decode cX8_delivers 11 = .ok (.iload_n 3, 1) := by decide +kernel
theorem dX8_delivers_12 : decode cX8_delivers 12 = .ok (.bipush 12, 2) := by decide +kernel
theorem dX8_delivers_14 : decode cX8_delivers 14 = .ok (.aload_n 0, 1) := by decide +kernel
theorem dX8_delivers_15 : decode cX8_delivers 15 = .ok (.iload_n 1, 1) := by decide +kernel
theorem dX8_delivers_16 : decode cX8_delivers 16 = .ok (.bipush 6, 2) := by decide +kernel
theorem dX8_delivers_18 : decode cX8_delivers 18 = .ok (.invokevirtual 56, 3) := by decide +kernel
theorem dX8_delivers_21 : decode cX8_delivers 21 = .ok (.iadd, 1) := by decide +kernel
theorem dX8_delivers_22 : decode cX8_delivers 22 = .ok (.iconst 1, 1) := by decide +kernel
theorem dX8_delivers_23 : decode cX8_delivers 23 = .ok (.isub, 1) := by decide +kernel
theorem dX8_delivers_24 : decode cX8_delivers 24 = .ok (.if_icmp .ge 23, 3) := by decide +kernel
theorem dX8_delivers_27 : decode cX8_delivers 27 = .ok (.aload_n 0, 1) := by decide +kernel
theorem dX8_delivers_28 : decode cX8_delivers 28 = .ok (.iload_n 1, 1) := by decide +kernel
theorem dX8_delivers_29 : decode cX8_delivers 29 = .ok (.iload_n 3, 1) := by decide +kernel
theorem dX8_delivers_30 : decode cX8_delivers 30 = .ok (.aload_n 0, 1) := by decide +kernel
theorem dX8_delivers_31 : decode cX8_delivers 31 = .ok (.iload_n 1, 1) := by decide +kernel
theorem dX8_delivers_32 : decode cX8_delivers 32 = .ok (.iload_n 3, 1) := by decide +kernel
theorem dX8_delivers_33 : decode cX8_delivers 33 = .ok (.iconst 1, 1) := by decide +kernel
theorem dX8_delivers_34 : decode cX8_delivers 34 = .ok (.iadd, 1) := by decide +kernel
theorem dX8_delivers_35 : decode cX8_delivers 35 = .ok (.invokevirtual 56, 3) := by decide +kernel
theorem dX8_delivers_38 : decode cX8_delivers 38 = .ok (.invokevirtual 59, 3) := by decide +kernel
theorem dX8_delivers_41 : decode cX8_delivers 41 = .ok (.iinc 3 1, 3) := by decide +kernel
theorem dX8_delivers_44 : decode cX8_delivers 44 = .ok (.goto (-33), 3) := by decide +kernel
theorem dX8_delivers_47 : decode cX8_delivers 47 = .ok (.aload_n 0, 1) := by decide +kernel
theorem dX8_delivers_48 : decode cX8_delivers 48 = .ok (.iload_n 1, 1) := by decide +kernel
theorem dX8_delivers_49 : decode cX8_delivers 49 = .ok (.bipush 6, 2) := by decide +kernel
theorem dX8_delivers_51 : decode cX8_delivers 51 = .ok (.iconst (-1), 1) := by decide +kernel
theorem dX8_delivers_52 : decode cX8_delivers 52 = .ok (.invokevirtual 63, 3) := by decide +kernel
theorem dX8_delivers_55 : decode cX8_delivers 55 = .ok (.aload_n 0, 1) := by decide +kernel
theorem dX8_delivers_56 : decode cX8_delivers 56 = .ok (.iload_n 1, 1) := by decide +kernel
theorem dX8_delivers_57 : decode cX8_delivers 57 = .ok (.bipush 7, 2) := by decide +kernel
theorem dX8_delivers_59 : decode cX8_delivers 59 = .ok (.iconst 1, 1) := by decide +kernel
theorem dX8_delivers_60 : decode cX8_delivers 60 = .ok (.invokevirtual 63, 3) := by decide +kernel
theorem dX8_delivers_63 : decode cX8_delivers 63 = .ok (.aload_n 0, 1) := by decide +kernel
theorem dX8_delivers_64 : decode cX8_delivers 64 = .ok (.getfield 7, 3) := by decide +kernel
theorem dX8_delivers_67 : decode cX8_delivers 67 = .ok (.bipush 8, 2) := by decide +kernel
theorem dX8_delivers_69 : decode cX8_delivers 69 = .ok (.aload_n 0, 1) := by decide +kernel
theorem dX8_delivers_70 : decode cX8_delivers 70 = .ok (.iload_n 1, 1) := by decide +kernel
theorem dX8_delivers_71 : decode cX8_delivers 71 = .ok (.iconst 4, 1) := by decide +kernel
theorem dX8_delivers_72 : decode cX8_delivers 72 = .ok (.invokevirtual 56, 3) := by decide +kernel
theorem dX8_delivers_75 : decode cX8_delivers 75 = .ok (.iadd, 1) := by decide +kernel
theorem dX8_delivers_76 : decode cX8_delivers 76 = .ok (.dup2, 1) := by decide +kernel
theorem dX8_delivers_77 : decode cX8_delivers 77 = .ok (.iaload, 1) := by decide +kernel
theorem dX8_delivers_78 : decode cX8_delivers 78 = .ok (.iconst 1, 1) := by decide +kernel
theorem dX8_delivers_79 : decode cX8_delivers 79 = .ok (.iadd, 1) := by decide +kernel
theorem dX8_delivers_80 : decode cX8_delivers 80 = .ok (.iastore, 1) := by decide +kernel
theorem dX8_delivers_81 : decode cX8_delivers 81 = .ok (.aload_n 0, 1) := by decide +kernel
theorem dX8_delivers_82 : decode cX8_delivers 82 = .ok (.getfield 7, 3) := by decide +kernel
theorem dX8_delivers_85 : decode cX8_delivers 85 = .ok (.sipush 456, 3) := by decide +kernel
theorem dX8_delivers_88 : decode cX8_delivers 88 = .ok (.bipush 6, 2) := by decide +kernel
theorem dX8_delivers_90 : decode cX8_delivers 90 = .ok (.iload_n 2, 1) := by decide +kernel
theorem dX8_delivers_91 : decode cX8_delivers 91 = .ok (.imul, 1) := by decide +kernel
theorem dX8_delivers_92 : decode cX8_delivers 92 = .ok (.iadd, 1) := by decide +kernel
theorem dX8_delivers_93 : decode cX8_delivers 93 = .ok (.iconst 5, 1) := by decide +kernel
theorem dX8_delivers_94 : decode cX8_delivers 94 = .ok (.iadd, 1) := by decide +kernel
theorem dX8_delivers_95 : decode cX8_delivers 95 = .ok (.dup2, 1) := by decide +kernel
theorem dX8_delivers_96 : decode cX8_delivers 96 = .ok (.iaload, 1) := by decide +kernel
theorem dX8_delivers_97 : decode cX8_delivers 97 = .ok (.iconst 1, 1) := by decide +kernel
theorem dX8_delivers_98 : decode cX8_delivers 98 = .ok (.iload_n 1, 1) := by decide +kernel
theorem dX8_delivers_99 : decode cX8_delivers 99 = .ok (.ishl, 1) := by decide +kernel
theorem dX8_delivers_100 : decode cX8_delivers 100 = .ok (.ior, 1) := by decide +kernel
theorem dX8_delivers_101 : decode cX8_delivers 101 = .ok (.iastore, 1) := by decide +kernel
theorem dX8_delivers_102 : decode cX8_delivers 102 = .ok (.return_, 1) := by decide +kernel
theorem dX8_ticks_0 : decode cX8_ticks 0 = .ok (.iconst 0, 1) := by decide +kernel
theorem dX8_ticks_1 : decode cX8_ticks 1 = .ok (.istore_n 1, 1) := by decide +kernel
theorem dX8_ticks_2 : decode cX8_ticks 2 = .ok (.iconst 0, 1) := by decide +kernel
theorem dX8_ticks_3 : decode cX8_ticks 3 = .ok (.istore_n 2, 1) := by decide +kernel
theorem dX8_ticks_4 : decode cX8_ticks 4 = .ok (.iload_n 2, 1) := by decide +kernel
theorem dX8_ticks_5 : decode cX8_ticks 5 = .ok (.bipush 16, 2) := by decide +kernel
theorem dX8_ticks_7 : decode cX8_ticks 7 = .ok (.if_icmp .ge 16, 3) := by decide +kernel
theorem dX8_ticks_10 : decode cX8_ticks 10 = .ok (.aload_n 0, 1) := by decide +kernel
theorem dX8_ticks_11 : decode cX8_ticks 11 = .ok (.getfield 19, 3) := by decide +kernel
theorem dX8_ticks_14 : decode cX8_ticks 14 = .ok (.iload_n 2, 1) := by decide +kernel
theorem dX8_ticks_15 : decode cX8_ticks 15 = .ok (.iconst 0, 1) := by decide +kernel
theorem dX8_ticks_16 : decode cX8_ticks 16 = .ok (.iastore, 1) := by decide +kernel
theorem dX8_ticks_17 : decode cX8_ticks 17 = .ok (.iinc 2 1, 3) := by decide +kernel
theorem dX8_ticks_20 : decode cX8_ticks 20 = .ok (.goto (-16), 3) := by decide +kernel
theorem dX8_ticks_23 : decode cX8_ticks 23 = .ok (.iconst 0, 1) := by decide +kernel
theorem dX8_ticks_24 : decode cX8_ticks 24 = .ok (.istore_n 2, 1) := by decide +kernel
theorem dX8_ticks_25 : decode cX8_ticks 25 = .ok (.iload_n 2, 1) := by decide +kernel
theorem dX8_ticks_26 : decode cX8_ticks 26 = .ok (.aload_n 0, 1) := by decide +kernel
theorem dX8_ticks_27 : decode cX8_ticks 27 = .ok (.getfield 7, 3) := by decide +kernel
theorem dX8_ticks_30 : decode cX8_ticks 30 = .ok (.iconst 1, 1) := by decide +kernel
theorem dX8_ticks_31 : decode cX8_ticks 31 = .ok (.iaload, 1) := by decide +kernel
theorem dX8_ticks_32 : decode cX8_ticks 32 = .ok (.if_icmp .ge 80, 3) := by decide +kernel
theorem dX8_ticks_35 : decode cX8_ticks 35 = .ok (.aload_n 0, 1) := by decide +kernel
theorem dX8_ticks_36 : decode cX8_ticks 36 = .ok (.iload_n 2, 1) := by decide +kernel
theorem dX8_ticks_37 : decode cX8_ticks 37 = .ok (.invokevirtual 116, 3) := by decide +kernel
theorem dX8_ticks_40 : decode cX8_ticks 40 = .ok (.ifCond .eq 66, 3) := by decide +kernel
theorem dX8_ticks_43 : decode cX8_ticks 43 = .ok (.aload_n 0, 1) := by decide +kernel
theorem dX8_ticks_44 : decode cX8_ticks 44 = .ok (.iload_n 2, 1) := by decide +kernel
theorem dX8_ticks_45 : decode cX8_ticks 45 = .ok (.invokevirtual 97, 3) := by decide +kernel
theorem dX8_ticks_48 : decode cX8_ticks 48 = .ok (.aload_n 0, 1) := by decide +kernel
theorem dX8_ticks_49 : decode cX8_ticks 49 = .ok (.iload_n 2, 1) := by decide +kernel
theorem dX8_ticks_50 : decode cX8_ticks 50 = .ok (.aload_n 0, 1) := by decide +kernel
theorem dX8_ticks_51 : decode cX8_ticks 51 = .ok (.iload_n 2, 1) := by decide +kernel
theorem dX8_ticks_52 : decode cX8_ticks 52 = .ok (.iconst 2, 1) := by decide +kernel
theorem dX8_ticks_53 : decode cX8_ticks 53 = .ok (.invokevirtual 56, 3) := by decide +kernel
theorem dX8_ticks_56 : decode cX8_ticks 56 = .ok (.invokevirtual 87, 3) := by decide +kernel
theorem dX8_ticks_59 : decode cX8_ticks 59 = .ok (.aload_n 0, 1) := by decide +kernel
theorem dX8_ticks_60 : decode cX8_ticks 60 = .ok (.iload_n 2, 1) := by decide +kernel
theorem dX8_ticks_61 : decode cX8_ticks 61 = .ok (.bipush 9, 2) := by decide +kernel
theorem dX8_ticks_63 : decode cX8_ticks 63 = .ok (.iconst 1, 1) := by decide +kernel
theorem dX8_ticks_64 : decode cX8_ticks 64 = .ok (.invokevirtual 63, 3) := by decide +kernel
theorem dX8_ticks_67 : decode cX8_ticks 67 = .ok (.aload_n 0, 1) := by decide +kernel
theorem dX8_ticks_68 : decode cX8_ticks 68 = .ok (.iload_n 2, 1) := by decide +kernel
theorem dX8_ticks_69 : decode cX8_ticks 69 = .ok (.bipush 10, 2) := by decide +kernel
theorem dX8_ticks_71 : decode cX8_ticks 71 = .ok (.aload_n 0, 1) := by decide +kernel
theorem dX8_ticks_72 : decode cX8_ticks 72 = .ok (.iload_n 2, 1) := by decide +kernel
theorem dX8_ticks_73 : decode cX8_ticks 73 = .ok (.bipush 6, 2) := by decide +kernel
theorem dX8_ticks_75 : decode cX8_ticks 75 = .ok (.invokevirtual 56, 3) := by decide +kernel
theorem dX8_ticks_78 : decode cX8_ticks 78 = .ok (.ifCond .le 18, 3) := by decide +kernel
theorem dX8_ticks_81 : decode cX8_ticks 81 = .ok (.aload_n 0, 1) := by decide +kernel
theorem dX8_ticks_82 : decode cX8_ticks 82 = .ok (.getfield 7, 3) := by decide +kernel
theorem dX8_ticks_85 : decode cX8_ticks 85 = .ok (.iconst 0, 1) := by decide +kernel
theorem dX8_ticks_86 : decode cX8_ticks 86 = .ok (.iaload, 1) := by decide +kernel
theorem dX8_ticks_87 : decode cX8_ticks 87 = .ok (.aload_n 0, 1) := by decide +kernel
theorem dX8_ticks_88 : decode cX8_ticks 88 = .ok (.iconst 2, 1) := by decide +kernel
theorem dX8_ticks_89 : decode cX8_ticks 89 = .ok (.invokevirtual 101, 3) := by decide +kernel
theorem dX8_ticks_92 : decode cX8_ticks 92 = .ok (.iadd, 1) := by decide +kernel
theorem dX8_ticks_93 : decode cX8_ticks 93 = .ok (.goto 10, 3) := by decide +kernel
theorem dX8_ticks_96 : decode cX8_ticks 96 = .ok (.aload_n 0, 1) := by decide +kernel
theorem dX8_ticks_97 : decode cX8_ticks 97 = .ok (.iload_n 2, 1) := by decide +kernel
theorem dX8_ticks_98 : decode cX8_ticks 98 = .ok (.bipush 10, 2) := by decide +kernel
theorem dX8_ticks_100 : decode cX8_ticks 100 = .ok (.invokevirtual 56, 3) := by decide +kernel
theorem dX8_ticks_103 : decode cX8_ticks 103 = .ok (.invokevirtual 59, 3) := by decide +kernel
theorem dX8_ticks_106 : decode cX8_ticks 106 = .ok (.iinc 2 1, 3) := by decide +kernel
theorem dX8_ticks_109 : decode cX8_ticks 109 = .ok (.goto (-84), 3) := by decide +kernel
theorem dX8_ticks_112 : decode cX8_ticks 112 = .ok (.iconst 0, 1) := by decide +kernel
theorem dX8_ticks_113 : decode cX8_ticks 113 = .ok (.istore_n 2, 1) := by decide +kernel
theorem dX8_ticks_114 : decode cX8_ticks 114 = .ok (.iload_n 2, 1) := by decide +kernel
theorem dX8_ticks_115 : decode cX8_ticks 115 = .ok (.aload_n 0, 1) := by decide +kernel
theorem dX8_ticks_116 : decode cX8_ticks 116 = .ok (.getfield 7, 3) := by decide +kernel
theorem dX8_ticks_119 : decode cX8_ticks 119 = .ok (.iconst 1, 1) := by decide +kernel
theorem dX8_ticks_120 : decode cX8_ticks 120 = .ok (.iaload, 1) := by decide +kernel
theorem dX8_ticks_121 : decode cX8_ticks 121 = .ok (.if_icmp .ge 100, 3) := by decide +kernel
theorem dX8_ticks_124 : decode cX8_ticks 124 = .ok (.aload_n 0, 1) := by decide +kernel
theorem dX8_ticks_125 : decode cX8_ticks 125 = .ok (.iload_n 2, 1) := by decide +kernel
theorem dX8_ticks_126 : decode cX8_ticks 126 = .ok (.iconst 5, 1) := by decide +kernel
theorem dX8_ticks_127 : decode cX8_ticks 127 = .ok (.invokevirtual 56, 3) := by decide +kernel
theorem dX8_ticks_130 : decode cX8_ticks 130 = .ok (.iconst 1, 1) := by decide +kernel
theorem dX8_ticks_131 : decode cX8_ticks 131 = .ok (.if_icmp .ne 23, 3) := by decide +kernel
theorem dX8_ticks_134 : decode cX8_ticks 134 = .ok (.aload_n 0, 1) := by decide +kernel
theorem dX8_ticks_135 : decode cX8_ticks 135 = .ok (.getfield 7, 3) := by decide +kernel
theorem dX8_ticks_138 : decode cX8_ticks 138 = .ok (.iconst 0, 1) := by decide +kernel
theorem dX8_ticks_139 : decode cX8_ticks 139 = .ok (.iaload, 1) := by decide +kernel
theorem dX8_ticks_140 : decode cX8_ticks 140 = .ok (.aload_n 0, 1) := by decide +kernel
theorem dX8_ticks_141 : decode cX8_ticks 141 = .ok (.iload_n 2, 1) := by decide +kernel
theorem dX8_ticks_142 : decode cX8_ticks 142 = .ok (.bipush 10, 2) := by decide +kernel
theorem dX8_ticks_144 : decode cX8_ticks 144 = .ok (.invokevirtual 56, 3) := by decide +kernel
theorem dX8_ticks_147 : decode cX8_ticks 147 = .ok (.if_icmp .lt 7, 3) := by decide +kernel
theorem dX8_ticks_150 : decode cX8_ticks 150 = .ok (.iconst 1, 1) := by decide +kernel
theorem dX8_ticks_151 : decode cX8_ticks 151 = .ok (.goto 4, 3) := by decide +kernel
theorem dX8_ticks_154 : decode cX8_ticks 154 = .ok (.iconst 0, 1) := by decide +kernel
theorem dX8_ticks_155 : decode cX8_ticks 155 = .ok (.istore_n 3, 1) := by decide +kernel
theorem dX8_ticks_156 : decode cX8_ticks 156 = .ok (.iload_n 3, 1) := by decide +kernel
theorem dX8_ticks_157 : decode cX8_ticks 157 = .ok (.ifCond .eq 58, 3) := by decide +kernel
theorem dX8_ticks_160 : decode cX8_ticks 160 = .ok (.aload_n 0, 1) := by decide +kernel
theorem dX8_ticks_161 : decode cX8_ticks 161 = .ok (.iload_n 2, 1) := by decide +kernel
theorem dX8_ticks_162 : decode cX8_ticks 162 = .ok (.bipush 6, 2) := by decide +kernel
theorem dX8_ticks_164 : decode cX8_ticks 164 = .ok (.invokevirtual 56, 3) := by decide +kernel
theorem dX8_ticks_167 : decode cX8_ticks 167 = .ok (.ifCond .le 48, 3) := by decide +kernel
theorem dX8_ticks_170 : decode cX8_ticks 170 = .ok (.aload_n 0, 1) := by decide +kernel
theorem dX8_ticks_171 : decode cX8_ticks 171 = .ok (.getfield 19, 3) := by decide +kernel
theorem dX8_ticks_174 : decode cX8_ticks 174 = .ok (.aload_n 0, 1) := by decide +kernel
theorem dX8_ticks_175 : decode cX8_ticks 175 = .ok (.iload_n 2, 1) := by decide +kernel
theorem dX8_ticks_176 : decode cX8_ticks 176 = .ok (.iconst 4, 1) := by decide +kernel
theorem dX8_ticks_177 : decode cX8_ticks 177 = .ok (.invokevirtual 56, 3) := by decide +kernel
theorem dX8_ticks_180 : decode cX8_ticks 180 = .ok (.iaload, 1) := by decide +kernel
theorem dX8_ticks_181 : decode cX8_ticks 181 = .ok (.aload_n 0, 1) := by decide +kernel
theorem dX8_ticks_182 : decode cX8_ticks 182 = .ok (.iconst 1, 1) := by decide +kernel
theorem dX8_ticks_183 : decode cX8_ticks 183 = .ok (.invokevirtual 101, 3) := by decide +kernel
theorem dX8_ticks_186 : decode cX8_ticks 186 = .ok (.if_icmp .ge 29, 3) := by decide +kernel
theorem dX8_ticks_189 : decode cX8_ticks 189 = .ok (.aload_n 0, 1) := by decide +kernel
theorem dX8_ticks_190 : decode cX8_ticks 190 = .ok (.getfield 19, 3) := by decide +kernel
theorem dX8_ticks_193 : decode cX8_ticks 193 = .ok (.aload_n 0, 1) := by decide +kernel
theorem dX8_ticks_194 : decode cX8_ticks 194 = .ok (.iload_n 2, 1) := by decide +kernel
theorem dX8_ticks_195 : decode cX8_ticks 195 = .ok (.iconst 4, 1) := by decide +kernel
theorem dX8_ticks_196 : decode cX8_ticks 196 = .ok (.invokevirtual 56, 3) := by decide +kernel
theorem dX8_ticks_199 : decode cX8_ticks 199 = .ok (.dup2, 1) := by decide +kernel
theorem dX8_ticks_200 : decode cX8_ticks 200 = .ok (.iaload, 1) := by decide +kernel
theorem dX8_ticks_201 : decode cX8_ticks 201 = .ok (.iconst 1, 1) := by decide +kernel
theorem dX8_ticks_202 : decode cX8_ticks 202 = .ok (.iadd, 1) := by decide +kernel
theorem dX8_ticks_203 : decode cX8_ticks 203 = .ok (.iastore, 1) := by decide +kernel
theorem dX8_ticks_204 : decode cX8_ticks 204 = .ok (.aload_n 0, 1) := by decide +kernel
theorem dX8_ticks_205 : decode cX8_ticks 205 = .ok (.iload_n 2, 1) := by decide +kernel
theorem dX8_ticks_206 : decode cX8_ticks 206 = .ok (.invokevirtual 119, 3) := by decide +kernel
theorem dX8_ticks_209 : decode cX8_ticks 209 = .ok (.iinc 1 1, 3) := by decide +kernel
theorem dX8_ticks_212 : decode cX8_ticks 212 = .ok (.goto (-56), 3) := by decide +kernel
theorem dX8_ticks_215 : decode cX8_ticks 215 = .ok (.iinc 2 1, 3) := by decide +kernel
theorem dX8_ticks_218 : decode cX8_ticks 218 = .ok (.goto (-104), 3) := by decide +kernel
theorem dX8_ticks_221 : decode cX8_ticks 221 = .ok (.aload_n 0, 1) := by decide +kernel
theorem dX8_ticks_222 : decode cX8_ticks 222 = .ok (.getfield 7, 3) := by decide +kernel
theorem dX8_ticks_225 : decode cX8_ticks 225 = .ok (.iconst 0, 1) := by decide +kernel
theorem dX8_ticks_226 : decode cX8_ticks 226 = .ok (.dup2, 1) := by decide +kernel
theorem dX8_ticks_227 : decode cX8_ticks 227 = .ok (.iaload, 1) := by decide +kernel
theorem dX8_ticks_228 : decode cX8_ticks 228 = .ok (.iconst 1, 1) := by decide +kernel
theorem dX8_ticks_229 : decode cX8_ticks 229 = .ok (.iadd, 1) := by decide +kernel
theorem dX8_ticks_230 : decode cX8_ticks 230 = .ok (.iastore, 1) := by decide +kernel
theorem dX8_ticks_231 : decode cX8_ticks 231 = .ok (.iload_n 1, 1) := by decide +kernel
theorem dX8_ticks_232 : decode cX8_ticks 232 = .ok (.ireturn, 1) := by decide +kernel
theorem dX8_passes_0 : decode cX8_passes 0 = .ok (.iload_n 1, 1) := by decide +kernel
theorem dX8_passes_1 : decode cX8_passes 1 = .ok (.iconst 1, 1) := by decide +kernel
theorem dX8_passes_2 : decode cX8_passes 2 = .ok (.bipush 50, 2) := by decide +kernel
theorem dX8_passes_4 : decode cX8_passes 4 = .ok (.invokestatic 48, 3) := by decide +kernel
theorem dX8_passes_7 : decode cX8_passes 7 = .ok (.ifCond .ne 5, 3) := by decide +kernel
theorem dX8_passes_10 : decode cX8_passes 10 = .ok (.iconst 1, 1) := by decide +kernel
theorem dX8_passes_11 : decode cX8_passes 11 = .ok (.ireturn, 1) := by decide +kernel
theorem dX8_passes_12 : decode cX8_passes 12 = .ok (.aload_n 0, 1) := by decide +kernel
theorem dX8_passes_13 : decode cX8_passes 13 = .ok (.getfield 7, 3) := by decide +kernel
theorem dX8_passes_16 : decode cX8_passes 16 = .ok (.iconst 0, 1) := by decide +kernel
theorem dX8_passes_17 : decode cX8_passes 17 = .ok (.iaload, 1) := by decide +kernel
theorem dX8_passes_18 : decode cX8_passes 18 = .ok (.iload_n 1, 1) := by decide +kernel
theorem dX8_passes_19 : decode cX8_passes 19 = .ok (.iadd, 1) := by decide +kernel
theorem dX8_passes_20 : decode cX8_passes 20 = .ok (.sipush 9999, 3) := by decide +kernel
theorem dX8_passes_23 : decode cX8_passes 23 = .ok (.if_icmp .le 5, 3) := by decide +kernel
theorem dX8_passes_26 : decode cX8_passes 26 = .ok (.iconst 2, 1) := by decide +kernel
theorem dX8_passes_27 : decode cX8_passes 27 = .ok (.ireturn, 1) := by decide +kernel
theorem dX8_passes_28 : decode cX8_passes 28 = .ok (.iconst 0, 1) := by decide +kernel
theorem dX8_passes_29 : decode cX8_passes 29 = .ok (.istore_n 2, 1) := by decide +kernel
theorem dX8_passes_30 : decode cX8_passes 30 = .ok (.iconst 0, 1) := by decide +kernel
theorem dX8_passes_31 : decode cX8_passes 31 = .ok (.istore_n 3, 1) := by decide +kernel
theorem dX8_passes_32 : decode cX8_passes 32 = .ok (.iload_n 3, 1) := by decide +kernel
theorem dX8_passes_33 : decode cX8_passes 33 = .ok (.iload_n 1, 1) := by decide +kernel
theorem dX8_passes_34 : decode cX8_passes 34 = .ok (.if_icmp .ge 16, 3) := by decide +kernel
theorem dX8_passes_37 : decode cX8_passes 37 = .ok (.iload_n 2, 1) := by decide +kernel
theorem dX8_passes_38 : decode cX8_passes 38 = .ok (.aload_n 0, 1) := by decide +kernel
theorem dX8_passes_39 : decode cX8_passes 39 = .ok (.invokevirtual 122, 3) := by decide +kernel
theorem dX8_passes_42 : decode cX8_passes 42 = .ok (.iadd, 1) := by decide +kernel
theorem dX8_passes_43 : decode cX8_passes 43 = .ok (.istore_n 2, 1) := by decide +kernel
theorem dX8_passes_44 : decode cX8_passes 44 = .ok (.iinc 3 1, 3) := by decide +kernel
theorem dX8_passes_47 : decode cX8_passes 47 = .ok (.goto (-15), 3) := by decide +kernel
theorem dX8_passes_50 : decode cX8_passes 50 = .ok (.aload_n 0, 1) := by decide +kernel
theorem dX8_passes_51 : decode cX8_passes 51 = .ok (.iload_n 2, 1) := by decide +kernel
theorem dX8_passes_52 : decode cX8_passes 52 = .ok (.putfield 91, 3) := by decide +kernel
theorem dX8_passes_55 : decode cX8_passes 55 = .ok (.iconst 0, 1) := by decide +kernel
theorem dX8_passes_56 : decode cX8_passes 56 = .ok (.ireturn, 1) := by decide +kernel
theorem dX8_subscribe_0 : decode cX8_subscribe 0 = .ok (.aload_n 0, 1) := by decide +kernel
theorem dX8_subscribe_1 : decode cX8_subscribe 1 = .ok (.invokevirtual 126, 3) := by decide +kernel
theorem dX8_subscribe_4 : decode cX8_subscribe 4 = .ok (.aload_n 0, 1) := by decide +kernel
theorem dX8_subscribe_5 : decode cX8_subscribe 5 = .ok (.iload_n 1, 1) := by decide +kernel
theorem dX8_subscribe_6 : decode cX8_subscribe 6 = .ok (.iload_n 2, 1) := by decide +kernel
theorem dX8_subscribe_7 : decode cX8_subscribe 7 = .ok (.iload_n 3, 1) := by decide +kernel
theorem dX8_subscribe_8 : decode cX8_subscribe 8 = .ok (.invokevirtual 129, 3) := by decide +kernel
theorem dX8_subscribe_11 : decode cX8_subscribe 11 = .ok (.istore 4, 2) := by decide +kernel
theorem dX8_subscribe_13 : decode cX8_subscribe 13 = .ok (.aload_n 0, 1) := by decide +kernel
theorem dX8_subscribe_14 : decode cX8_subscribe 14 = .ok (.aload_n 0, 1) := by decide +kernel
theorem dX8_subscribe_15 : decode cX8_subscribe 15 = .ok (.getfield 91, 3) := by decide +kernel
theorem dX8_subscribe_18 : decode cX8_subscribe 18 = .ok (.iload 4, 2) := by decide +kernel
theorem dX8_subscribe_20 : decode cX8_subscribe 20 = .ok (.invokevirtual 132, 3) := by decide +kernel
theorem dX8_subscribe_23 : decode cX8_subscribe 23 = .ok (.ireturn, 1) := by decide +kernel
theorem dX8_move_0 : decode cX8_move 0 = .ok (.aload_n 0, 1) := by decide +kernel
theorem dX8_move_1 : decode cX8_move 1 = .ok (.invokevirtual 126, 3) := by decide +kernel
theorem dX8_move_4 : decode cX8_move 4 = .ok (.aload_n 0, 1) := by decide +kernel
theorem dX8_move_5 : decode cX8_move 5 = .ok (.iload_n 1, 1) := by decide +kernel
theorem dX8_move_6 : decode cX8_move 6 = .ok (.iload_n 2, 1) := by decide +kernel
theorem dX8_move_7 : decode cX8_move 7 = .ok (.invokevirtual 135, 3) := by decide +kernel
theorem dX8_move_10 : decode cX8_move 10 = .ok (.istore_n 3, 1) := by decide +kernel
theorem dX8_move_11 : decode cX8_move 11 = .ok (.aload_n 0, 1) := by decide +kernel
theorem dX8_move_12 : decode cX8_move 12 = .ok (.aload_n 0, 1) := by decide +kernel
theorem dX8_move_13 : decode cX8_move 13 = .ok (.getfield 91, 3) := by decide +kernel
theorem dX8_move_16 : decode cX8_move 16 = .ok (.iload_n 3, 1) := by decide +kernel
theorem dX8_move_17 : decode cX8_move 17 = .ok (.invokevirtual 132, 3) := by decide +kernel
theorem dX8_move_20 : decode cX8_move 20 = .ok (.ireturn, 1) := by decide +kernel
theorem dX8_leave_0 : decode cX8_leave 0 = .ok (.aload_n 0, 1) := by decide +kernel
theorem dX8_leave_1 : decode cX8_leave 1 = .ok (.invokevirtual 126, 3) := by decide +kernel
theorem dX8_leave_4 : decode cX8_leave 4 = .ok (.aload_n 0, 1) := by decide +kernel
theorem dX8_leave_5 : decode cX8_leave 5 = .ok (.iload_n 1, 1) := by decide +kernel
theorem dX8_leave_6 : decode cX8_leave 6 = .ok (.invokevirtual 138, 3) := by decide +kernel
theorem dX8_leave_9 : decode cX8_leave 9 = .ok (.istore_n 2, 1) := by decide +kernel
theorem dX8_leave_10 : decode cX8_leave 10 = .ok (.aload_n 0, 1) := by decide +kernel
theorem dX8_leave_11 : decode cX8_leave 11 = .ok (.aload_n 0, 1) := by decide +kernel
theorem dX8_leave_12 : decode cX8_leave 12 = .ok (.getfield 91, 3) := by decide +kernel
theorem dX8_leave_15 : decode cX8_leave 15 = .ok (.iload_n 2, 1) := by decide +kernel
theorem dX8_leave_16 : decode cX8_leave 16 = .ok (.invokevirtual 132, 3) := by decide +kernel
theorem dX8_leave_19 : decode cX8_leave 19 = .ok (.ireturn, 1) := by decide +kernel
theorem dX8_setLevel_0 : decode cX8_setLevel 0 = .ok (.aload_n 0, 1) := by decide +kernel
theorem dX8_setLevel_1 : decode cX8_setLevel 1 = .ok (.iload_n 1, 1) := by decide +kernel
theorem dX8_setLevel_2 : decode cX8_setLevel 2 = .ok (.invokevirtual 94, 3) := by decide +kernel
theorem dX8_setLevel_5 : decode cX8_setLevel 5 = .ok (.ifCond .ne 9, 3) := by decide +kernel
theorem dX8_setLevel_8 : decode cX8_setLevel 8 = .ok (.aload_n 0, 1) := by decide +kernel
theorem dX8_setLevel_9 : decode cX8_setLevel 9 = .ok (.iconst 1, 1) := by decide +kernel
theorem dX8_setLevel_10 : decode cX8_setLevel 10 = .ok (.invokevirtual 38, 3) := by decide +kernel
theorem dX8_setLevel_13 : decode cX8_setLevel 13 = .ok (.ireturn, 1) := by decide +kernel
theorem dX8_setLevel_14 : decode cX8_setLevel 14 = .ok (.iload_n 2, 1) := by decide +kernel
theorem dX8_setLevel_15 : decode cX8_setLevel 15 = .ok (.invokestatic 84, 3) := by decide +kernel
theorem dX8_setLevel_18 : decode cX8_setLevel 18 = .ok (.ifCond .ne 9, 3) := by decide +kernel
theorem dX8_setLevel_21 : decode cX8_setLevel 21 = .ok (.aload_n 0, 1) := by decide +kernel
theorem dX8_setLevel_22 : decode cX8_setLevel 22 = .ok (.iconst 2, 1) := by decide +kernel
theorem dX8_setLevel_23 : decode cX8_setLevel 23 = .ok (.invokevirtual 38, 3) := by decide +kernel
theorem dX8_setLevel_26 : decode cX8_setLevel 26 = .ok (.ireturn, 1) := by decide +kernel
theorem dX8_setLevel_27 : decode cX8_setLevel 27 = .ok (.aload_n 0, 1) := by decide +kernel
theorem dX8_setLevel_28 : decode cX8_setLevel 28 = .ok (.invokevirtual 126, 3) := by decide +kernel
theorem dX8_setLevel_31 : decode cX8_setLevel 31 = .ok (.aload_n 0, 1) := by decide +kernel
theorem dX8_setLevel_32 : decode cX8_setLevel 32 = .ok (.iload_n 1, 1) := by decide +kernel
theorem dX8_setLevel_33 : decode cX8_setLevel 33 = .ok (.iconst 1, 1) := by decide +kernel
theorem dX8_setLevel_34 : decode cX8_setLevel 34 = .ok (.invokevirtual 56, 3) := by decide +kernel
theorem dX8_setLevel_37 : decode cX8_setLevel 37 = .ok (.istore_n 3, 1) := by decide +kernel
theorem dX8_setLevel_38 : decode cX8_setLevel 38 = .ok (.aload_n 0, 1) := by decide +kernel
theorem dX8_setLevel_39 : decode cX8_setLevel 39 = .ok (.iload_n 1, 1) := by decide +kernel
theorem dX8_setLevel_40 : decode cX8_setLevel 40 = .ok (.iconst 1, 1) := by decide +kernel
theorem dX8_setLevel_41 : decode cX8_setLevel 41 = .ok (.iload_n 2, 1) := by decide +kernel
theorem dX8_setLevel_42 : decode cX8_setLevel 42 = .ok (.invokevirtual 59, 3) := by decide +kernel
theorem dX8_setLevel_45 : decode cX8_setLevel 45 = .ok (.aload_n 0, 1) := by decide +kernel
theorem dX8_setLevel_46 : decode cX8_setLevel 46 = .ok (.iload_n 3, 1) := by decide +kernel
theorem dX8_setLevel_47 : decode cX8_setLevel 47 = .ok (.iconst 0, 1) := by decide +kernel
theorem dX8_setLevel_48 : decode cX8_setLevel 48 = .ok (.invokevirtual 132, 3) := by decide +kernel
theorem dX8_setLevel_51 : decode cX8_setLevel 51 = .ok (.ireturn, 1) := by decide +kernel
theorem dX8_set_0 : decode cX8_set 0 = .ok (.aload_n 0, 1) := by decide +kernel
theorem dX8_set_1 : decode cX8_set 1 = .ok (.invokevirtual 126, 3) := by decide +kernel
theorem dX8_set_4 : decode cX8_set 4 = .ok (.aload_n 0, 1) := by decide +kernel
theorem dX8_set_5 : decode cX8_set 5 = .ok (.iload_n 1, 1) := by decide +kernel
theorem dX8_set_6 : decode cX8_set 6 = .ok (.iload_n 2, 1) := by decide +kernel
theorem dX8_set_7 : decode cX8_set 7 = .ok (.invokevirtual 141, 3) := by decide +kernel
theorem dX8_set_10 : decode cX8_set 10 = .ok (.istore_n 3, 1) := by decide +kernel
theorem dX8_set_11 : decode cX8_set 11 = .ok (.aload_n 0, 1) := by decide +kernel
theorem dX8_set_12 : decode cX8_set 12 = .ok (.aload_n 0, 1) := by decide +kernel
theorem dX8_set_13 : decode cX8_set 13 = .ok (.getfield 91, 3) := by decide +kernel
theorem dX8_set_16 : decode cX8_set 16 = .ok (.iload_n 3, 1) := by decide +kernel
theorem dX8_set_17 : decode cX8_set 17 = .ok (.invokevirtual 132, 3) := by decide +kernel
theorem dX8_set_20 : decode cX8_set 20 = .ok (.ireturn, 1) := by decide +kernel
theorem dX8_publish_0 : decode cX8_publish 0 = .ok (.aload_n 0, 1) := by decide +kernel
theorem dX8_publish_1 : decode cX8_publish 1 = .ok (.invokevirtual 126, 3) := by decide +kernel
theorem dX8_publish_4 : decode cX8_publish 4 = .ok (.aload_n 0, 1) := by decide +kernel
theorem dX8_publish_5 : decode cX8_publish 5 = .ok (.iload_n 1, 1) := by decide +kernel
theorem dX8_publish_6 : decode cX8_publish 6 = .ok (.iload_n 2, 1) := by decide +kernel
theorem dX8_publish_7 : decode cX8_publish 7 = .ok (.iload_n 3, 1) := by decide +kernel
theorem dX8_publish_8 : decode cX8_publish 8 = .ok (.invokevirtual 144, 3) := by decide +kernel
theorem dX8_publish_11 : decode cX8_publish 11 = .ok (.istore 4, 2) := by decide +kernel
theorem dX8_publish_13 : decode cX8_publish 13 = .ok (.aload_n 0, 1) := by decide +kernel
theorem dX8_publish_14 : decode cX8_publish 14 = .ok (.aload_n 0, 1) := by decide +kernel
theorem dX8_publish_15 : decode cX8_publish 15 = .ok (.getfield 91, 3) := by decide +kernel
theorem dX8_publish_18 : decode cX8_publish 18 = .ok (.iload 4, 2) := by decide +kernel
theorem dX8_publish_20 : decode cX8_publish 20 = .ok (.invokevirtual 132, 3) := by decide +kernel
theorem dX8_publish_23 : decode cX8_publish 23 = .ok (.ireturn, 1) := by decide +kernel
theorem dX8_pass_0 : decode cX8_pass 0 = .ok (.aload_n 0, 1) := by decide +kernel
theorem dX8_pass_1 : decode cX8_pass 1 = .ok (.invokevirtual 126, 3) := by decide +kernel
theorem dX8_pass_4 : decode cX8_pass 4 = .ok (.aload_n 0, 1) := by decide +kernel
theorem dX8_pass_5 : decode cX8_pass 5 = .ok (.iload_n 1, 1) := by decide +kernel
theorem dX8_pass_6 : decode cX8_pass 6 = .ok (.invokevirtual 147, 3) := by decide +kernel
theorem dX8_pass_9 : decode cX8_pass 9 = .ok (.istore_n 2, 1) := by decide +kernel
theorem dX8_pass_10 : decode cX8_pass 10 = .ok (.aload_n 0, 1) := by decide +kernel
theorem dX8_pass_11 : decode cX8_pass 11 = .ok (.aload_n 0, 1) := by decide +kernel
theorem dX8_pass_12 : decode cX8_pass 12 = .ok (.getfield 91, 3) := by decide +kernel
theorem dX8_pass_15 : decode cX8_pass 15 = .ok (.iload_n 2, 1) := by decide +kernel
theorem dX8_pass_16 : decode cX8_pass 16 = .ok (.invokevirtual 132, 3) := by decide +kernel
theorem dX8_pass_19 : decode cX8_pass 19 = .ok (.ireturn, 1) := by decide +kernel
theorem dX8_routedTo_0 : decode cX8_routedTo 0 = .ok (.iconst 0, 1) := by decide +kernel
theorem dX8_routedTo_1 : decode cX8_routedTo 1 = .ok (.istore_n 2, 1) := by decide +kernel
theorem dX8_routedTo_2 : decode cX8_routedTo 2 = .ok (.iconst 0, 1) := by decide +kernel
theorem dX8_routedTo_3 : decode cX8_routedTo 3 = .ok (.istore_n 3, 1) := by decide +kernel
theorem dX8_routedTo_4 : decode cX8_routedTo 4 = .ok (.iload_n 3, 1) := by decide +kernel
theorem dX8_routedTo_5 : decode cX8_routedTo 5 = .ok (.aload_n 0, 1) := by decide +kernel
theorem dX8_routedTo_6 : decode cX8_routedTo 6 = .ok (.getfield 7, 3) := by decide +kernel
theorem dX8_routedTo_9 : decode cX8_routedTo 9 = .ok (.iconst 2, 1) := by decide +kernel
theorem dX8_routedTo_10 : decode cX8_routedTo 10 = .ok (.iaload, 1) := by decide +kernel
theorem dX8_routedTo_11 : decode cX8_routedTo 11 = .ok (.if_icmp .ge 22, 3) := by decide +kernel
theorem dX8_routedTo_14 : decode cX8_routedTo 14 = .ok (.iload_n 2, 1) := by decide +kernel
theorem dX8_routedTo_15 : decode cX8_routedTo 15 = .ok (.aload_n 0, 1) := by decide +kernel
theorem dX8_routedTo_16 : decode cX8_routedTo 16 = .ok (.iload_n 3, 1) := by decide +kernel
theorem dX8_routedTo_17 : decode cX8_routedTo 17 = .ok (.iconst 4, 1) := by decide +kernel
theorem dX8_routedTo_18 : decode cX8_routedTo 18 = .ok (.invokevirtual 150, 3) := by decide +kernel
theorem dX8_routedTo_21 : decode cX8_routedTo 21 = .ok (.iload_n 1, 1) := by decide +kernel
theorem dX8_routedTo_22 : decode cX8_routedTo 22 = .ok (.ishr, 1) := by decide +kernel
theorem dX8_routedTo_23 : decode cX8_routedTo 23 = .ok (.iconst 1, 1) := by decide +kernel
theorem dX8_routedTo_24 : decode cX8_routedTo 24 = .ok (.iand, 1) := by decide +kernel
theorem dX8_routedTo_25 : decode cX8_routedTo 25 = .ok (.iadd, 1) := by decide +kernel
theorem dX8_routedTo_26 : decode cX8_routedTo 26 = .ok (.istore_n 2, 1) := by decide +kernel
theorem dX8_routedTo_27 : decode cX8_routedTo 27 = .ok (.iinc 3 1, 3) := by decide +kernel
theorem dX8_routedTo_30 : decode cX8_routedTo 30 = .ok (.goto (-26), 3) := by decide +kernel
theorem dX8_routedTo_33 : decode cX8_routedTo 33 = .ok (.iload_n 2, 1) := by decide +kernel
theorem dX8_routedTo_34 : decode cX8_routedTo 34 = .ok (.ireturn, 1) := by decide +kernel
theorem dX8_told_0 : decode cX8_told 0 = .ok (.iload_n 2, 1) := by decide +kernel
theorem dX8_told_1 : decode cX8_told 1 = .ok (.bipush 7, 2) := by decide +kernel
theorem dX8_told_3 : decode cX8_told 3 = .ok (.if_icmp .ge 10, 3) := by decide +kernel
theorem dX8_told_6 : decode cX8_told 6 = .ok (.aload_n 0, 1) := by decide +kernel
theorem dX8_told_7 : decode cX8_told 7 = .ok (.iload_n 1, 1) := by decide +kernel
theorem dX8_told_8 : decode cX8_told 8 = .ok (.iload_n 2, 1) := by decide +kernel
theorem dX8_told_9 : decode cX8_told 9 = .ok (.invokevirtual 56, 3) := by decide +kernel
theorem dX8_told_12 : decode cX8_told 12 = .ok (.ireturn, 1) := by decide +kernel
theorem dX8_told_13 : decode cX8_told 13 = .ok (.iload_n 2, 1) := by decide +kernel
theorem dX8_told_14 : decode cX8_told 14 = .ok (.bipush 7, 2) := by decide +kernel
theorem dX8_told_16 : decode cX8_told 16 = .ok (.if_icmp .ne 11, 3) := by decide +kernel
theorem dX8_told_19 : decode cX8_told 19 = .ok (.aload_n 0, 1) := by decide +kernel
theorem dX8_told_20 : decode cX8_told 20 = .ok (.iload_n 1, 1) := by decide +kernel
theorem dX8_told_21 : decode cX8_told 21 = .ok (.invokevirtual 153, 3) := by decide +kernel
theorem dX8_told_24 : decode cX8_told 24 = .ok (.goto 11, 3) := by decide +kernel
theorem dX8_told_27 : decode cX8_told 27 = .ok (.aload_n 0, 1) := by decide +kernel
theorem dX8_told_28 : decode cX8_told 28 = .ok (.iload_n 1, 1) := by decide +kernel
theorem dX8_told_29 : decode cX8_told 29 = .ok (.iload_n 2, 1) := by decide +kernel
theorem dX8_told_30 : decode cX8_told 30 = .ok (.iconst 1, 1) := by decide +kernel
theorem dX8_told_31 : decode cX8_told 31 = .ok (.isub, 1) := by decide +kernel
theorem dX8_told_32 : decode cX8_told 32 = .ok (.invokevirtual 56, 3) := by decide +kernel
theorem dX8_told_35 : decode cX8_told 35 = .ok (.ireturn, 1) := by decide +kernel
theorem dX8_subscriber_0 : decode cX8_subscriber 0 = .ok (.aload_n 0, 1) := by decide +kernel
theorem dX8_subscriber_1 : decode cX8_subscriber 1 = .ok (.iload_n 1, 1) := by decide +kernel
theorem dX8_subscriber_2 : decode cX8_subscriber 2 = .ok (.invokevirtual 94, 3) := by decide +kernel
theorem dX8_subscriber_5 : decode cX8_subscriber 5 = .ok (.ifCond .ne 9, 3) := by decide +kernel
theorem dX8_subscriber_8 : decode cX8_subscriber 8 = .ok (.aload_n 0, 1) := by decide +kernel
theorem dX8_subscriber_9 : decode cX8_subscriber 9 = .ok (.iconst 1, 1) := by decide +kernel
theorem dX8_subscriber_10 : decode cX8_subscriber 10 = .ok (.invokevirtual 38, 3) := by decide +kernel
theorem dX8_subscriber_13 : decode cX8_subscriber 13 = .ok (.ireturn, 1) := by decide +kernel
theorem dX8_subscriber_14 : decode cX8_subscriber 14 = .ok (.iload_n 2, 1) := by decide +kernel
theorem dX8_subscriber_15 : decode cX8_subscriber 15 = .ok (.iconst 0, 1) := by decide +kernel
theorem dX8_subscriber_16 : decode cX8_subscriber 16 = .ok (.bipush 11, 2) := by decide +kernel
theorem dX8_subscriber_18 : decode cX8_subscriber 18 = .ok (.invokestatic 48, 3) := by decide +kernel
theorem dX8_subscriber_21 : decode cX8_subscriber 21 = .ok (.ifCond .eq 16, 3) := by decide +kernel
theorem dX8_subscriber_24 : decode cX8_subscriber 24 = .ok (.aload_n 0, 1) := by decide +kernel
theorem dX8_subscriber_25 : decode cX8_subscriber 25 = .ok (.aload_n 0, 1) := by decide +kernel
theorem dX8_subscriber_26 : decode cX8_subscriber 26 = .ok (.iload_n 1, 1) := by decide +kernel
theorem dX8_subscriber_27 : decode cX8_subscriber 27 = .ok (.iload_n 2, 1) := by decide +kernel
theorem dX8_subscriber_28 : decode cX8_subscriber 28 = .ok (.invokevirtual 156, 3) := by decide +kernel
theorem dX8_subscriber_31 : decode cX8_subscriber 31 = .ok (.invokevirtual 45, 3) := by decide +kernel
theorem dX8_subscriber_34 : decode cX8_subscriber 34 = .ok (.goto 8, 3) := by decide +kernel
theorem dX8_subscriber_37 : decode cX8_subscriber 37 = .ok (.aload_n 0, 1) := by decide +kernel
theorem dX8_subscriber_38 : decode cX8_subscriber 38 = .ok (.iconst 2, 1) := by decide +kernel
theorem dX8_subscriber_39 : decode cX8_subscriber 39 = .ok (.invokevirtual 38, 3) := by decide +kernel
theorem dX8_subscriber_42 : decode cX8_subscriber 42 = .ok (.ireturn, 1) := by decide +kernel
theorem dX8_stay_0 : decode cX8_stay 0 = .ok (.aload_n 0, 1) := by decide +kernel
theorem dX8_stay_1 : decode cX8_stay 1 = .ok (.iload_n 1, 1) := by decide +kernel
theorem dX8_stay_2 : decode cX8_stay 2 = .ok (.invokevirtual 94, 3) := by decide +kernel
theorem dX8_stay_5 : decode cX8_stay 5 = .ok (.ifCond .ne 9, 3) := by decide +kernel
theorem dX8_stay_8 : decode cX8_stay 8 = .ok (.aload_n 0, 1) := by decide +kernel
theorem dX8_stay_9 : decode cX8_stay 9 = .ok (.iconst 1, 1) := by decide +kernel
theorem dX8_stay_10 : decode cX8_stay 10 = .ok (.invokevirtual 38, 3) := by decide +kernel
theorem dX8_stay_13 : decode cX8_stay 13 = .ok (.ireturn, 1) := by decide +kernel
theorem dX8_stay_14 : decode cX8_stay 14 = .ok (.iload_n 2, 1) := by decide +kernel
theorem dX8_stay_15 : decode cX8_stay 15 = .ok (.ifCond .lt 12, 3) := by decide +kernel
theorem dX8_stay_18 : decode cX8_stay 18 = .ok (.iload_n 3, 1) := by decide +kernel
theorem dX8_stay_19 : decode cX8_stay 19 = .ok (.iconst 0, 1) := by decide +kernel
theorem dX8_stay_20 : decode cX8_stay 20 = .ok (.iconst 2, 1) := by decide +kernel
theorem dX8_stay_21 : decode cX8_stay 21 = .ok (.invokestatic 48, 3) := by decide +kernel
theorem dX8_stay_24 : decode cX8_stay 24 = .ok (.ifCond .ne 9, 3) := by decide +kernel
theorem dX8_stay_27 : decode cX8_stay 27 = .ok (.aload_n 0, 1) := by decide +kernel
theorem dX8_stay_28 : decode cX8_stay 28 = .ok (.iconst 2, 1) := by decide +kernel
theorem dX8_stay_29 : decode cX8_stay 29 = .ok (.invokevirtual 38, 3) := by decide +kernel
theorem dX8_stay_32 : decode cX8_stay 32 = .ok (.ireturn, 1) := by decide +kernel
theorem dX8_stay_33 : decode cX8_stay 33 = .ok (.aload_n 0, 1) := by decide +kernel
theorem dX8_stay_34 : decode cX8_stay 34 = .ok (.iload_n 1, 1) := by decide +kernel
theorem dX8_stay_35 : decode cX8_stay 35 = .ok (.bipush 11, 2) := by decide +kernel
theorem dX8_stay_37 : decode cX8_stay 37 = .ok (.invokevirtual 56, 3) := by decide +kernel
theorem dX8_stay_40 : decode cX8_stay 40 = .ok (.istore 4, 2) := by decide +kernel
theorem dX8_stay_42 : decode cX8_stay 42 = .ok (.aload_n 0, 1) := by decide +kernel
theorem dX8_stay_43 : decode cX8_stay 43 = .ok (.iload_n 2, 1) := by decide +kernel
theorem dX8_stay_44 : decode cX8_stay 44 = .ok (.iload 4, 2) := by decide +kernel
theorem dX8_stay_46 : decode cX8_stay 46 = .ok (.if_icmp .ge 18, 3) := by decide +kernel
theorem dX8_stay_49 : decode cX8_stay 49 = .ok (.aload_n 0, 1) := by decide +kernel
theorem dX8_stay_50 : decode cX8_stay 50 = .ok (.iload_n 1, 1) := by decide +kernel
theorem dX8_stay_51 : decode cX8_stay 51 = .ok (.iload 4, 2) := by decide +kernel
theorem dX8_stay_53 : decode cX8_stay 53 = .ok (.iconst 1, 1) := by decide +kernel
theorem dX8_stay_54 : decode cX8_stay 54 = .ok (.isub, 1) := by decide +kernel
theorem dX8_stay_55 : decode cX8_stay 55 = .ok (.iload_n 2, 1) := by decide +kernel
theorem dX8_stay_56 : decode cX8_stay 56 = .ok (.isub, 1) := by decide +kernel
theorem dX8_stay_57 : decode cX8_stay 57 = .ok (.iload_n 3, 1) := by decide +kernel
theorem dX8_stay_58 : decode cX8_stay 58 = .ok (.invokevirtual 66, 3) := by decide +kernel
theorem dX8_stay_61 : decode cX8_stay 61 = .ok (.goto 4, 3) := by decide +kernel
theorem dX8_stay_64 : decode cX8_stay 64 = .ok (.iconst (-1), 1) := by decide +kernel
theorem dX8_stay_65 : decode cX8_stay 65 = .ok (.invokevirtual 45, 3) := by decide +kernel
theorem dX8_stay_68 : decode cX8_stay 68 = .ok (.ireturn, 1) := by decide +kernel
theorem dX8_waiting_0 : decode cX8_waiting 0 = .ok (.aload_n 0, 1) := by decide +kernel
theorem dX8_waiting_1 : decode cX8_waiting 1 = .ok (.iload_n 1, 1) := by decide +kernel
theorem dX8_waiting_2 : decode cX8_waiting 2 = .ok (.invokevirtual 94, 3) := by decide +kernel
theorem dX8_waiting_5 : decode cX8_waiting 5 = .ok (.ifCond .ne 9, 3) := by decide +kernel
theorem dX8_waiting_8 : decode cX8_waiting 8 = .ok (.aload_n 0, 1) := by decide +kernel
theorem dX8_waiting_9 : decode cX8_waiting 9 = .ok (.iconst 1, 1) := by decide +kernel
theorem dX8_waiting_10 : decode cX8_waiting 10 = .ok (.invokevirtual 38, 3) := by decide +kernel
theorem dX8_waiting_13 : decode cX8_waiting 13 = .ok (.ireturn, 1) := by decide +kernel
theorem dX8_waiting_14 : decode cX8_waiting 14 = .ok (.iload_n 2, 1) := by decide +kernel
theorem dX8_waiting_15 : decode cX8_waiting 15 = .ok (.ifCond .ge 9, 3) := by decide +kernel
theorem dX8_waiting_18 : decode cX8_waiting 18 = .ok (.aload_n 0, 1) := by decide +kernel
theorem dX8_waiting_19 : decode cX8_waiting 19 = .ok (.iconst 2, 1) := by decide +kernel
theorem dX8_waiting_20 : decode cX8_waiting 20 = .ok (.invokevirtual 38, 3) := by decide +kernel
theorem dX8_waiting_23 : decode cX8_waiting 23 = .ok (.ireturn, 1) := by decide +kernel
theorem dX8_waiting_24 : decode cX8_waiting 24 = .ok (.aload_n 0, 1) := by decide +kernel
theorem dX8_waiting_25 : decode cX8_waiting 25 = .ok (.iload_n 2, 1) := by decide +kernel
theorem dX8_waiting_26 : decode cX8_waiting 26 = .ok (.aload_n 0, 1) := by decide +kernel
theorem dX8_waiting_27 : decode cX8_waiting 27 = .ok (.iload_n 1, 1) := by decide +kernel
theorem dX8_waiting_28 : decode cX8_waiting 28 = .ok (.bipush 6, 2) := by decide +kernel
theorem dX8_waiting_30 : decode cX8_waiting 30 = .ok (.invokevirtual 56, 3) := by decide +kernel
theorem dX8_waiting_33 : decode cX8_waiting 33 = .ok (.if_icmp .ge 15, 3) := by decide +kernel
theorem dX8_waiting_36 : decode cX8_waiting 36 = .ok (.aload_n 0, 1) := by decide +kernel
theorem dX8_waiting_37 : decode cX8_waiting 37 = .ok (.iload_n 1, 1) := by decide +kernel
theorem dX8_waiting_38 : decode cX8_waiting 38 = .ok (.bipush 12, 2) := by decide +kernel
theorem dX8_waiting_40 : decode cX8_waiting 40 = .ok (.iload_n 2, 1) := by decide +kernel
theorem dX8_waiting_41 : decode cX8_waiting 41 = .ok (.iadd, 1) := by decide +kernel
theorem dX8_waiting_42 : decode cX8_waiting 42 = .ok (.invokevirtual 56, 3) := by decide +kernel
theorem dX8_waiting_45 : decode cX8_waiting 45 = .ok (.goto 4, 3) := by decide +kernel
theorem dX8_waiting_48 : decode cX8_waiting 48 = .ok (.iconst (-1), 1) := by decide +kernel
theorem dX8_waiting_49 : decode cX8_waiting 49 = .ok (.invokevirtual 45, 3) := by decide +kernel
theorem dX8_waiting_52 : decode cX8_waiting 52 = .ok (.ireturn, 1) := by decide +kernel
theorem dX8_inBoxes_0 : decode cX8_inBoxes 0 = .ok (.iconst 0, 1) := by decide +kernel
theorem dX8_inBoxes_1 : decode cX8_inBoxes 1 = .ok (.istore_n 2, 1) := by decide +kernel
theorem dX8_inBoxes_2 : decode cX8_inBoxes 2 = .ok (.iconst 0, 1) := by decide +kernel
theorem dX8_inBoxes_3 : decode cX8_inBoxes 3 = .ok (.istore_n 3, 1) := by decide +kernel
theorem dX8_inBoxes_4 : decode cX8_inBoxes 4 = .ok (.iload_n 3, 1) := by decide +kernel
theorem dX8_inBoxes_5 : decode cX8_inBoxes 5 = .ok (.aload_n 0, 1) := by decide +kernel
theorem dX8_inBoxes_6 : decode cX8_inBoxes 6 = .ok (.getfield 7, 3) := by decide +kernel
theorem dX8_inBoxes_9 : decode cX8_inBoxes 9 = .ok (.iconst 1, 1) := by decide +kernel
theorem dX8_inBoxes_10 : decode cX8_inBoxes 10 = .ok (.iaload, 1) := by decide +kernel
theorem dX8_inBoxes_11 : decode cX8_inBoxes 11 = .ok (.if_icmp .ge 52, 3) := by decide +kernel
theorem dX8_inBoxes_14 : decode cX8_inBoxes 14 = .ok (.iconst 0, 1) := by decide +kernel
theorem dX8_inBoxes_15 : decode cX8_inBoxes 15 = .ok (.istore 4, 2) := by decide +kernel
theorem dX8_inBoxes_17 : decode cX8_inBoxes 17 = .ok (.iload 4, 2) := by decide +kernel
theorem dX8_inBoxes_19 : decode cX8_inBoxes 19 = .ok (.aload_n 0, 1) := by decide +kernel
theorem dX8_inBoxes_20 : decode cX8_inBoxes 20 = .ok (.iload_n 3, 1) := by decide +kernel
theorem dX8_inBoxes_21 : decode cX8_inBoxes 21 = .ok (.bipush 6, 2) := by decide +kernel
theorem dX8_inBoxes_23 : decode cX8_inBoxes 23 = .ok (.invokevirtual 56, 3) := by decide +kernel
theorem dX8_inBoxes_26 : decode cX8_inBoxes 26 = .ok (.if_icmp .ge 31, 3) := by decide +kernel
theorem dX8_inBoxes_29 : decode cX8_inBoxes 29 = .ok (.iload_n 2, 1) := by decide +kernel
theorem dX8_inBoxes_30 : decode cX8_inBoxes 30 = .ok (.aload_n 0, 1) := by decide +kernel
theorem dX8_inBoxes_31 : decode cX8_inBoxes 31 = .ok (.iload_n 3, 1) := by decide +kernel
theorem dX8_inBoxes_32 : decode cX8_inBoxes 32 = .ok (.bipush 12, 2) := by decide +kernel
theorem dX8_inBoxes_34 : decode cX8_inBoxes 34 = .ok (.iload 4, 2) := by decide +kernel
theorem dX8_inBoxes_36 : decode cX8_inBoxes 36 = .ok (.iadd, 1) := by decide +kernel
theorem dX8_inBoxes_37 : decode cX8_inBoxes 37 = .ok (.invokevirtual 56, 3) := by decide +kernel
theorem dX8_inBoxes_40 : decode cX8_inBoxes 40 = .ok (.iload_n 1, 1) := by decide +kernel
theorem dX8_inBoxes_41 : decode cX8_inBoxes 41 = .ok (.if_icmp .ne 7, 3) := by decide +kernel
theorem dX8_inBoxes_44 : decode cX8_inBoxes 44 = .ok (.iconst 1, 1) := by decide +kernel
theorem dX8_inBoxes_45 : decode cX8_inBoxes 45 = .ok (.goto 4, 3) := by decide +kernel
theorem dX8_inBoxes_48 : decode cX8_inBoxes 48 = .ok (.iconst 0, 1) := by decide +kernel
theorem dX8_inBoxes_49 : decode cX8_inBoxes 49 = .ok (.iadd, 1) := by decide +kernel
theorem dX8_inBoxes_50 : decode cX8_inBoxes 50 = .ok (.istore_n 2, 1) := by decide +kernel
theorem dX8_inBoxes_51 : decode cX8_inBoxes 51 = .ok (.iinc 4 1, 3) := by decide +kernel
theorem dX8_inBoxes_54 : decode cX8_inBoxes 54 = .ok (.goto (-37), 3) := by decide +kernel
theorem dX8_inBoxes_57 : decode cX8_inBoxes 57 = .ok (.iinc 3 1, 3) := by decide +kernel
theorem dX8_inBoxes_60 : decode cX8_inBoxes 60 = .ok (.goto (-56), 3) := by decide +kernel
theorem dX8_inBoxes_63 : decode cX8_inBoxes 63 = .ok (.iload_n 2, 1) := by decide +kernel
theorem dX8_inBoxes_64 : decode cX8_inBoxes 64 = .ok (.ireturn, 1) := by decide +kernel
theorem dX8_eventTold_0 : decode cX8_eventTold 0 = .ok (.iload_n 2, 1) := by decide +kernel
theorem dX8_eventTold_1 : decode cX8_eventTold 1 = .ok (.bipush 6, 2) := by decide +kernel
theorem dX8_eventTold_3 : decode cX8_eventTold 3 = .ok (.if_icmp .ne 11, 3) := by decide +kernel
theorem dX8_eventTold_6 : decode cX8_eventTold 6 = .ok (.aload_n 0, 1) := by decide +kernel
theorem dX8_eventTold_7 : decode cX8_eventTold 7 = .ok (.iload_n 1, 1) := by decide +kernel
theorem dX8_eventTold_8 : decode cX8_eventTold 8 = .ok (.invokevirtual 159, 3) := by decide +kernel
theorem dX8_eventTold_11 : decode cX8_eventTold 11 = .ok (.goto 9, 3) := by decide +kernel
theorem dX8_eventTold_14 : decode cX8_eventTold 14 = .ok (.aload_n 0, 1) := by decide +kernel
theorem dX8_eventTold_15 : decode cX8_eventTold 15 = .ok (.iload_n 1, 1) := by decide +kernel
theorem dX8_eventTold_16 : decode cX8_eventTold 16 = .ok (.iload_n 2, 1) := by decide +kernel
theorem dX8_eventTold_17 : decode cX8_eventTold 17 = .ok (.invokevirtual 150, 3) := by decide +kernel
theorem dX8_eventTold_20 : decode cX8_eventTold 20 = .ok (.ireturn, 1) := by decide +kernel
theorem dX8_event_0 : decode cX8_event 0 = .ok (.iload_n 1, 1) := by decide +kernel
theorem dX8_event_1 : decode cX8_event 1 = .ok (.iconst 0, 1) := by decide +kernel
theorem dX8_event_2 : decode cX8_event 2 = .ok (.aload_n 0, 1) := by decide +kernel
theorem dX8_event_3 : decode cX8_event 3 = .ok (.getfield 7, 3) := by decide +kernel
theorem dX8_event_6 : decode cX8_event 6 = .ok (.iconst 2, 1) := by decide +kernel
theorem dX8_event_7 : decode cX8_event 7 = .ok (.iaload, 1) := by decide +kernel
theorem dX8_event_8 : decode cX8_event 8 = .ok (.iconst 1, 1) := by decide +kernel
theorem dX8_event_9 : decode cX8_event 9 = .ok (.isub, 1) := by decide +kernel
theorem dX8_event_10 : decode cX8_event 10 = .ok (.invokestatic 48, 3) := by decide +kernel
theorem dX8_event_13 : decode cX8_event 13 = .ok (.ifCond .ne 9, 3) := by decide +kernel
theorem dX8_event_16 : decode cX8_event 16 = .ok (.aload_n 0, 1) := by decide +kernel
theorem dX8_event_17 : decode cX8_event 17 = .ok (.iconst 1, 1) := by decide +kernel
theorem dX8_event_18 : decode cX8_event 18 = .ok (.invokevirtual 38, 3) := by decide +kernel
theorem dX8_event_21 : decode cX8_event 21 = .ok (.ireturn, 1) := by decide +kernel
theorem dX8_event_22 : decode cX8_event 22 = .ok (.iload_n 2, 1) := by decide +kernel
theorem dX8_event_23 : decode cX8_event 23 = .ok (.iconst 0, 1) := by decide +kernel
theorem dX8_event_24 : decode cX8_event 24 = .ok (.bipush 6, 2) := by decide +kernel
theorem dX8_event_26 : decode cX8_event 26 = .ok (.invokestatic 48, 3) := by decide +kernel
theorem dX8_event_29 : decode cX8_event 29 = .ok (.ifCond .eq 16, 3) := by decide +kernel
theorem dX8_event_32 : decode cX8_event 32 = .ok (.aload_n 0, 1) := by decide +kernel
theorem dX8_event_33 : decode cX8_event 33 = .ok (.aload_n 0, 1) := by decide +kernel
theorem dX8_event_34 : decode cX8_event 34 = .ok (.iload_n 1, 1) := by decide +kernel
theorem dX8_event_35 : decode cX8_event 35 = .ok (.iload_n 2, 1) := by decide +kernel
theorem dX8_event_36 : decode cX8_event 36 = .ok (.invokevirtual 162, 3) := by decide +kernel
theorem dX8_event_39 : decode cX8_event 39 = .ok (.invokevirtual 45, 3) := by decide +kernel
theorem dX8_event_42 : decode cX8_event 42 = .ok (.goto 8, 3) := by decide +kernel
theorem dX8_event_45 : decode cX8_event 45 = .ok (.aload_n 0, 1) := by decide +kernel
theorem dX8_event_46 : decode cX8_event 46 = .ok (.iconst 2, 1) := by decide +kernel
theorem dX8_event_47 : decode cX8_event 47 = .ok (.invokevirtual 38, 3) := by decide +kernel
theorem dX8_event_50 : decode cX8_event 50 = .ok (.ireturn, 1) := by decide +kernel
theorem dX8_leafTold_0 : decode cX8_leafTold 0 = .ok (.iload_n 2, 1) := by decide +kernel
theorem dX8_leafTold_1 : decode cX8_leafTold 1 = .ok (.iconst 1, 1) := by decide +kernel
theorem dX8_leafTold_2 : decode cX8_leafTold 2 = .ok (.if_icmp .ne 13, 3) := by decide +kernel
theorem dX8_leafTold_5 : decode cX8_leafTold 5 = .ok (.aload_n 0, 1) := by decide +kernel
theorem dX8_leafTold_6 : decode cX8_leafTold 6 = .ok (.getfield 7, 3) := by decide +kernel
theorem dX8_leafTold_9 : decode cX8_leafTold 9 = .ok (.bipush 8, 2) := by decide +kernel
theorem dX8_leafTold_11 : decode cX8_leafTold 11 = .ok (.iload_n 1, 1) := by decide +kernel
theorem dX8_leafTold_12 : decode cX8_leafTold 12 = .ok (.iadd, 1) := by decide +kernel
theorem dX8_leafTold_13 : decode cX8_leafTold 13 = .ok (.iaload, 1) := by decide +kernel
theorem dX8_leafTold_14 : decode cX8_leafTold 14 = .ok (.ireturn, 1) := by decide +kernel
theorem dX8_leafTold_15 : decode cX8_leafTold 15 = .ok (.iconst 0, 1) := by decide +kernel
theorem dX8_leafTold_16 : decode cX8_leafTold 16 = .ok (.istore_n 3, 1) := by decide +kernel
theorem dX8_leafTold_17 : decode cX8_leafTold 17 = .ok (.iconst 0, 1) := by decide +kernel
theorem dX8_leafTold_18 : decode cX8_leafTold 18 = .ok (.istore 4, 2) := by decide +kernel
theorem dX8_leafTold_20 : decode cX8_leafTold 20 = .ok (.iload 4, 2) := by decide +kernel
theorem dX8_leafTold_22 : decode cX8_leafTold 22 = .ok (.aload_n 0, 1) := by decide +kernel
theorem dX8_leafTold_23 : decode cX8_leafTold 23 = .ok (.getfield 7, 3) := by decide +kernel
theorem dX8_leafTold_26 : decode cX8_leafTold 26 = .ok (.iconst 1, 1) := by decide +kernel
theorem dX8_leafTold_27 : decode cX8_leafTold 27 = .ok (.iaload, 1) := by decide +kernel
theorem dX8_leafTold_28 : decode cX8_leafTold 28 = .ok (.if_icmp .ge 88, 3) := by decide +kernel
theorem dX8_leafTold_31 : decode cX8_leafTold 31 = .ok (.aload_n 0, 1) := by decide +kernel
theorem dX8_leafTold_32 : decode cX8_leafTold 32 = .ok (.iload 4, 2) := by decide +kernel
theorem dX8_leafTold_34 : decode cX8_leafTold 34 = .ok (.iconst 5, 1) := by decide +kernel
theorem dX8_leafTold_35 : decode cX8_leafTold 35 = .ok (.invokevirtual 56, 3) := by decide +kernel
theorem dX8_leafTold_38 : decode cX8_leafTold 38 = .ok (.iconst 1, 1) := by decide +kernel
theorem dX8_leafTold_39 : decode cX8_leafTold 39 = .ok (.if_icmp .ne 7, 3) := by decide +kernel
theorem dX8_leafTold_42 : decode cX8_leafTold 42 = .ok (.iconst 1, 1) := by decide +kernel
theorem dX8_leafTold_43 : decode cX8_leafTold 43 = .ok (.goto 4, 3) := by decide +kernel
theorem dX8_leafTold_46 : decode cX8_leafTold 46 = .ok (.iconst 0, 1) := by decide +kernel
theorem dX8_leafTold_47 : decode cX8_leafTold 47 = .ok (.istore 5, 2) := by decide +kernel
theorem dX8_leafTold_49 : decode cX8_leafTold 49 = .ok (.iload 5, 2) := by decide +kernel
theorem dX8_leafTold_51 : decode cX8_leafTold 51 = .ok (.ifCond .eq 27, 3) := by decide +kernel
theorem dX8_leafTold_54 : decode cX8_leafTold 54 = .ok (.aload_n 0, 1) := by decide +kernel
theorem dX8_leafTold_55 : decode cX8_leafTold 55 = .ok (.iload 4, 2) := by decide +kernel
theorem dX8_leafTold_57 : decode cX8_leafTold 57 = .ok (.iload_n 2, 1) := by decide +kernel
theorem dX8_leafTold_58 : decode cX8_leafTold 58 = .ok (.iconst 3, 1) := by decide +kernel
theorem dX8_leafTold_59 : decode cX8_leafTold 59 = .ok (.if_icmp .ne 7, 3) := by decide +kernel
theorem dX8_leafTold_62 : decode cX8_leafTold 62 = .ok (.iconst 2, 1) := by decide +kernel
theorem dX8_leafTold_63 : decode cX8_leafTold 63 = .ok (.goto 4, 3) := by decide +kernel
theorem dX8_leafTold_66 : decode cX8_leafTold 66 = .ok (.iconst 4, 1) := by decide +kernel
theorem dX8_leafTold_67 : decode cX8_leafTold 67 = .ok (.invokevirtual 56, 3) := by decide +kernel
theorem dX8_leafTold_70 : decode cX8_leafTold 70 = .ok (.iload_n 1, 1) := by decide +kernel
theorem dX8_leafTold_71 : decode cX8_leafTold 71 = .ok (.if_icmp .ne 7, 3) := by decide +kernel
theorem dX8_leafTold_74 : decode cX8_leafTold 74 = .ok (.iconst 1, 1) := by decide +kernel
theorem dX8_leafTold_75 : decode cX8_leafTold 75 = .ok (.goto 4, 3) := by decide +kernel
theorem dX8_leafTold_78 : decode cX8_leafTold 78 = .ok (.iconst 0, 1) := by decide +kernel
theorem dX8_leafTold_79 : decode cX8_leafTold 79 = .ok (.istore 6, 2) := by decide +kernel
theorem dX8_leafTold_81 : decode cX8_leafTold 81 = .ok (.iload_n 3, 1) := by decide +kernel
theorem dX8_leafTold_82 : decode cX8_leafTold 82 = .ok (.iload 6, 2) := by decide +kernel
theorem dX8_leafTold_84 : decode cX8_leafTold 84 = .ok (.ifCond .ne 7, 3) := by decide +kernel
theorem dX8_leafTold_87 : decode cX8_leafTold 87 = .ok (.iconst 0, 1) := by decide +kernel
theorem dX8_leafTold_88 : decode cX8_leafTold 88 = .ok (.goto 20, 3) := by decide +kernel
theorem dX8_leafTold_91 : decode cX8_leafTold 91 = .ok (.iload_n 2, 1) := by decide +kernel
theorem dX8_leafTold_92 : decode cX8_leafTold 92 = .ok (.iconst 2, 1) := by decide +kernel
theorem dX8_leafTold_93 : decode cX8_leafTold 93 = .ok (.if_icmp .ne 14, 3) := by decide +kernel
theorem dX8_leafTold_96 : decode cX8_leafTold 96 = .ok (.aload_n 0, 1) := by decide +kernel
theorem dX8_leafTold_97 : decode cX8_leafTold 97 = .ok (.iload 4, 2) := by decide +kernel
theorem dX8_leafTold_99 : decode cX8_leafTold 99 = .ok (.bipush 6, 2) := by decide +kernel
theorem dX8_leafTold_101 : decode cX8_leafTold 101 = .ok (.invokevirtual 56, 3) := by decide +kernel
theorem dX8_leafTold_104 : decode cX8_leafTold 104 = .ok (.goto 4, 3) := by decide +kernel
theorem dX8_leafTold_107 : decode cX8_leafTold 107 = .ok (.iconst 1, 1) := by decide +kernel
theorem dX8_leafTold_108 : decode cX8_leafTold 108 = .ok (.iadd, 1) := by decide +kernel
theorem dX8_leafTold_109 : decode cX8_leafTold 109 = .ok (.istore_n 3, 1) := by decide +kernel
theorem dX8_leafTold_110 : decode cX8_leafTold 110 = .ok (.iinc 4 1, 3) := by decide +kernel
theorem dX8_leafTold_113 : decode cX8_leafTold 113 = .ok (.goto (-93), 3) := by decide +kernel
theorem dX8_leafTold_116 : decode cX8_leafTold 116 = .ok (.iload_n 3, 1) := by decide +kernel
theorem dX8_leafTold_117 : decode cX8_leafTold 117 = .ok (.ireturn, 1) := by decide +kernel
theorem dX8_leaf_0 : decode cX8_leaf 0 = .ok (.iload_n 1, 1) := by decide +kernel
theorem dX8_leaf_1 : decode cX8_leaf 1 = .ok (.invokestatic 80, 3) := by decide +kernel
theorem dX8_leaf_4 : decode cX8_leaf 4 = .ok (.ifCond .ne 9, 3) := by decide +kernel
theorem dX8_leaf_7 : decode cX8_leaf 7 = .ok (.aload_n 0, 1) := by decide +kernel
theorem dX8_leaf_8 : decode cX8_leaf 8 = .ok (.iconst 1, 1) := by decide +kernel
theorem dX8_leaf_9 : decode cX8_leaf 9 = .ok (.invokevirtual 38, 3) := by decide +kernel
theorem dX8_leaf_12 : decode cX8_leaf 12 = .ok (.ireturn, 1) := by decide +kernel
theorem dX8_leaf_13 : decode cX8_leaf 13 = .ok (.iload_n 2, 1) := by decide +kernel
theorem dX8_leaf_14 : decode cX8_leaf 14 = .ok (.iconst 0, 1) := by decide +kernel
theorem dX8_leaf_15 : decode cX8_leaf 15 = .ok (.iconst 3, 1) := by decide +kernel
theorem dX8_leaf_16 : decode cX8_leaf 16 = .ok (.invokestatic 48, 3) := by decide +kernel
theorem dX8_leaf_19 : decode cX8_leaf 19 = .ok (.ifCond .eq 16, 3) := by decide +kernel
theorem dX8_leaf_22 : decode cX8_leaf 22 = .ok (.aload_n 0, 1) := by decide +kernel
theorem dX8_leaf_23 : decode cX8_leaf 23 = .ok (.aload_n 0, 1) := by decide +kernel
theorem dX8_leaf_24 : decode cX8_leaf 24 = .ok (.iload_n 1, 1) := by decide +kernel
theorem dX8_leaf_25 : decode cX8_leaf 25 = .ok (.iload_n 2, 1) := by decide +kernel
theorem dX8_leaf_26 : decode cX8_leaf 26 = .ok (.invokevirtual 165, 3) := by decide +kernel
theorem dX8_leaf_29 : decode cX8_leaf 29 = .ok (.invokevirtual 45, 3) := by decide +kernel
theorem dX8_leaf_32 : decode cX8_leaf 32 = .ok (.goto 8, 3) := by decide +kernel
theorem dX8_leaf_35 : decode cX8_leaf 35 = .ok (.aload_n 0, 1) := by decide +kernel
theorem dX8_leaf_36 : decode cX8_leaf 36 = .ok (.iconst 2, 1) := by decide +kernel
theorem dX8_leaf_37 : decode cX8_leaf 37 = .ok (.invokevirtual 38, 3) := by decide +kernel
theorem dX8_leaf_40 : decode cX8_leaf 40 = .ok (.ireturn, 1) := by decide +kernel
theorem dX8_sumOf_0 : decode cX8_sumOf 0 = .ok (.iconst 0, 1) := by decide +kernel
theorem dX8_sumOf_1 : decode cX8_sumOf 1 = .ok (.istore_n 2, 1) := by decide +kernel
theorem dX8_sumOf_2 : decode cX8_sumOf 2 = .ok (.iconst 0, 1) := by decide +kernel
theorem dX8_sumOf_3 : decode cX8_sumOf 3 = .ok (.istore_n 3, 1) := by decide +kernel
theorem dX8_sumOf_4 : decode cX8_sumOf 4 = .ok (.iload_n 3, 1) := by decide +kernel
theorem dX8_sumOf_5 : decode cX8_sumOf 5 = .ok (.aload_n 0, 1) := by decide +kernel
theorem dX8_sumOf_6 : decode cX8_sumOf 6 = .ok (.getfield 7, 3) := by decide +kernel
theorem dX8_sumOf_9 : decode cX8_sumOf 9 = .ok (.iconst 1, 1) := by decide +kernel
theorem dX8_sumOf_10 : decode cX8_sumOf 10 = .ok (.iaload, 1) := by decide +kernel
theorem dX8_sumOf_11 : decode cX8_sumOf 11 = .ok (.if_icmp .ge 18, 3) := by decide +kernel
theorem dX8_sumOf_14 : decode cX8_sumOf 14 = .ok (.iload_n 2, 1) := by decide +kernel
theorem dX8_sumOf_15 : decode cX8_sumOf 15 = .ok (.aload_n 0, 1) := by decide +kernel
theorem dX8_sumOf_16 : decode cX8_sumOf 16 = .ok (.iload_n 3, 1) := by decide +kernel
theorem dX8_sumOf_17 : decode cX8_sumOf 17 = .ok (.iload_n 1, 1) := by decide +kernel
theorem dX8_sumOf_18 : decode cX8_sumOf 18 = .ok (.invokevirtual 56, 3) := by decide +kernel
theorem dX8_sumOf_21 : decode cX8_sumOf 21 = .ok (.iadd, 1) := by decide +kernel
theorem dX8_sumOf_22 : decode cX8_sumOf 22 = .ok (.istore_n 2, 1) := by decide +kernel
theorem dX8_sumOf_23 : decode cX8_sumOf 23 = .ok (.iinc 3 1, 3) := by decide +kernel
theorem dX8_sumOf_26 : decode cX8_sumOf 26 = .ok (.goto (-22), 3) := by decide +kernel
theorem dX8_sumOf_29 : decode cX8_sumOf 29 = .ok (.iload_n 2, 1) := by decide +kernel
theorem dX8_sumOf_30 : decode cX8_sumOf 30 = .ok (.ireturn, 1) := by decide +kernel
theorem dX8_wholeTold_0 : decode cX8_wholeTold 0 = .ok (.iload_n 1, 1) := by decide +kernel
theorem dX8_wholeTold_1 : decode cX8_wholeTold 1 = .ok (.tableswitch 139 0 13 #[71, 78, 84, 91, 139, 139, 139, 139, 98, 105, 112, 119, 127, 134], 71) := by decide +kernel
theorem dX8_wholeTold_72 : decode cX8_wholeTold 72 = .ok (.aload_n 0, 1) := by decide +kernel
theorem dX8_wholeTold_73 : decode cX8_wholeTold 73 = .ok (.getfield 7, 3) := by decide +kernel
theorem dX8_wholeTold_76 : decode cX8_wholeTold 76 = .ok (.iconst 1, 1) := by decide +kernel
theorem dX8_wholeTold_77 : decode cX8_wholeTold 77 = .ok (.iaload, 1) := by decide +kernel
theorem dX8_wholeTold_78 : decode cX8_wholeTold 78 = .ok (.ireturn, 1) := by decide +kernel
theorem dX8_wholeTold_79 : decode cX8_wholeTold 79 = .ok (.aload_n 0, 1) := by decide +kernel
theorem dX8_wholeTold_80 : decode cX8_wholeTold 80 = .ok (.iconst 5, 1) := by decide +kernel
theorem dX8_wholeTold_81 : decode cX8_wholeTold 81 = .ok (.invokevirtual 168, 3) := by decide +kernel
theorem dX8_wholeTold_84 : decode cX8_wholeTold 84 = .ok (.ireturn, 1) := by decide +kernel
theorem dX8_wholeTold_85 : decode cX8_wholeTold 85 = .ok (.aload_n 0, 1) := by decide +kernel
theorem dX8_wholeTold_86 : decode cX8_wholeTold 86 = .ok (.getfield 7, 3) := by decide +kernel
theorem dX8_wholeTold_89 : decode cX8_wholeTold 89 = .ok (.iconst 2, 1) := by decide +kernel
theorem dX8_wholeTold_90 : decode cX8_wholeTold 90 = .ok (.iaload, 1) := by decide +kernel
theorem dX8_wholeTold_91 : decode cX8_wholeTold 91 = .ok (.ireturn, 1) := by decide +kernel
theorem dX8_wholeTold_92 : decode cX8_wholeTold 92 = .ok (.aload_n 0, 1) := by decide +kernel
theorem dX8_wholeTold_93 : decode cX8_wholeTold 93 = .ok (.getfield 7, 3) := by decide +kernel
theorem dX8_wholeTold_96 : decode cX8_wholeTold 96 = .ok (.iconst 0, 1) := by decide +kernel
theorem dX8_wholeTold_97 : decode cX8_wholeTold 97 = .ok (.iaload, 1) := by decide +kernel
theorem dX8_wholeTold_98 : decode cX8_wholeTold 98 = .ok (.ireturn, 1) := by decide +kernel
theorem dX8_wholeTold_99 : decode cX8_wholeTold 99 = .ok (.aload_n 0, 1) := by decide +kernel
theorem dX8_wholeTold_100 : decode cX8_wholeTold 100 = .ok (.bipush 6, 2) := by decide +kernel
theorem dX8_wholeTold_102 : decode cX8_wholeTold 102 = .ok (.invokevirtual 168, 3) := by decide +kernel
theorem dX8_wholeTold_105 : decode cX8_wholeTold 105 = .ok (.ireturn, 1) := by decide +kernel
theorem dX8_wholeTold_106 : decode cX8_wholeTold 106 = .ok (.aload_n 0, 1) := by decide +kernel
theorem dX8_wholeTold_107 : decode cX8_wholeTold 107 = .ok (.bipush 7, 2) := by decide +kernel
theorem dX8_wholeTold_109 : decode cX8_wholeTold 109 = .ok (.invokevirtual 168, 3) := by decide +kernel
theorem dX8_wholeTold_112 : decode cX8_wholeTold 112 = .ok (.ireturn, 1) := by decide +kernel
theorem dX8_wholeTold_113 : decode cX8_wholeTold 113 = .ok (.aload_n 0, 1) := by decide +kernel
theorem dX8_wholeTold_114 : decode cX8_wholeTold 114 = .ok (.bipush 8, 2) := by decide +kernel
theorem dX8_wholeTold_116 : decode cX8_wholeTold 116 = .ok (.invokevirtual 168, 3) := by decide +kernel
theorem dX8_wholeTold_119 : decode cX8_wholeTold 119 = .ok (.ireturn, 1) := by decide +kernel
theorem dX8_wholeTold_120 : decode cX8_wholeTold 120 = .ok (.aload_n 0, 1) := by decide +kernel
theorem dX8_wholeTold_121 : decode cX8_wholeTold 121 = .ok (.getfield 7, 3) := by decide +kernel
theorem dX8_wholeTold_124 : decode cX8_wholeTold 124 = .ok (.bipush 7, 2) := by decide +kernel
theorem dX8_wholeTold_126 : decode cX8_wholeTold 126 = .ok (.iaload, 1) := by decide +kernel
theorem dX8_wholeTold_127 : decode cX8_wholeTold 127 = .ok (.ireturn, 1) := by decide +kernel
theorem dX8_wholeTold_128 : decode cX8_wholeTold 128 = .ok (.aload_n 0, 1) := by decide +kernel
theorem dX8_wholeTold_129 : decode cX8_wholeTold 129 = .ok (.bipush 9, 2) := by decide +kernel
theorem dX8_wholeTold_131 : decode cX8_wholeTold 131 = .ok (.invokevirtual 168, 3) := by decide +kernel
theorem dX8_wholeTold_134 : decode cX8_wholeTold 134 = .ok (.ireturn, 1) := by decide +kernel
theorem dX8_wholeTold_135 : decode cX8_wholeTold 135 = .ok (.aload_n 0, 1) := by decide +kernel
theorem dX8_wholeTold_136 : decode cX8_wholeTold 136 = .ok (.getfield 171, 3) := by decide +kernel
theorem dX8_wholeTold_139 : decode cX8_wholeTold 139 = .ok (.ireturn, 1) := by decide +kernel
theorem dX8_wholeTold_140 : decode cX8_wholeTold 140 = .ok (.aload_n 0, 1) := by decide +kernel
theorem dX8_wholeTold_141 : decode cX8_wholeTold 141 = .ok (.iload_n 1, 1) := by decide +kernel
theorem dX8_wholeTold_142 : decode cX8_wholeTold 142 = .ok (.iconst 4, 1) := by decide +kernel
theorem dX8_wholeTold_143 : decode cX8_wholeTold 143 = .ok (.isub, 1) := by decide +kernel
theorem dX8_wholeTold_144 : decode cX8_wholeTold 144 = .ok (.invokevirtual 101, 3) := by decide +kernel
theorem dX8_wholeTold_147 : decode cX8_wholeTold 147 = .ok (.ireturn, 1) := by decide +kernel
theorem dX8_whole_0 : decode cX8_whole 0 = .ok (.iload_n 1, 1) := by decide +kernel
theorem dX8_whole_1 : decode cX8_whole 1 = .ok (.iconst 0, 1) := by decide +kernel
theorem dX8_whole_2 : decode cX8_whole 2 = .ok (.bipush 13, 2) := by decide +kernel
theorem dX8_whole_4 : decode cX8_whole 4 = .ok (.invokestatic 48, 3) := by decide +kernel
theorem dX8_whole_7 : decode cX8_whole 7 = .ok (.ifCond .eq 15, 3) := by decide +kernel
theorem dX8_whole_10 : decode cX8_whole 10 = .ok (.aload_n 0, 1) := by decide +kernel
theorem dX8_whole_11 : decode cX8_whole 11 = .ok (.aload_n 0, 1) := by decide +kernel
theorem dX8_whole_12 : decode cX8_whole 12 = .ok (.iload_n 1, 1) := by decide +kernel
theorem dX8_whole_13 : decode cX8_whole 13 = .ok (.invokevirtual 174, 3) := by decide +kernel
theorem dX8_whole_16 : decode cX8_whole 16 = .ok (.invokevirtual 45, 3) := by decide +kernel
theorem dX8_whole_19 : decode cX8_whole 19 = .ok (.goto 8, 3) := by decide +kernel
theorem dX8_whole_22 : decode cX8_whole 22 = .ok (.aload_n 0, 1) := by decide +kernel
theorem dX8_whole_23 : decode cX8_whole 23 = .ok (.iconst 1, 1) := by decide +kernel
theorem dX8_whole_24 : decode cX8_whole 24 = .ok (.invokevirtual 38, 3) := by decide +kernel
theorem dX8_whole_27 : decode cX8_whole 27 = .ok (.ireturn, 1) := by decide +kernel
theorem dX8_wouldReach_0 : decode cX8_wouldReach 0 = .ok (.iload_n 1, 1) := by decide +kernel
theorem dX8_wouldReach_1 : decode cX8_wouldReach 1 = .ok (.invokestatic 80, 3) := by decide +kernel
theorem dX8_wouldReach_4 : decode cX8_wouldReach 4 = .ok (.ifCond .ne 9, 3) := by decide +kernel
theorem dX8_wouldReach_7 : decode cX8_wouldReach 7 = .ok (.aload_n 0, 1) := by decide +kernel
theorem dX8_wouldReach_8 : decode cX8_wouldReach 8 = .ok (.iconst 1, 1) := by decide +kernel
theorem dX8_wouldReach_9 : decode cX8_wouldReach 9 = .ok (.invokevirtual 38, 3) := by decide +kernel
theorem dX8_wouldReach_12 : decode cX8_wouldReach 12 = .ok (.ireturn, 1) := by decide +kernel
theorem dX8_wouldReach_13 : decode cX8_wouldReach 13 = .ok (.iload_n 2, 1) := by decide +kernel
theorem dX8_wouldReach_14 : decode cX8_wouldReach 14 = .ok (.invokestatic 84, 3) := by decide +kernel
theorem dX8_wouldReach_17 : decode cX8_wouldReach 17 = .ok (.ifCond .eq 7, 3) := by decide +kernel
theorem dX8_wouldReach_20 : decode cX8_wouldReach 20 = .ok (.iload_n 3, 1) := by decide +kernel
theorem dX8_wouldReach_21 : decode cX8_wouldReach 21 = .ok (.ifCond .ge 9, 3) := by decide +kernel
theorem dX8_wouldReach_24 : decode cX8_wouldReach 24 = .ok (.aload_n 0, 1) := by decide +kernel
theorem dX8_wouldReach_25 : decode cX8_wouldReach 25 = .ok (.iconst 2, 1) := by decide +kernel
theorem dX8_wouldReach_26 : decode cX8_wouldReach 26 = .ok (.invokevirtual 38, 3) := by decide +kernel
theorem dX8_wouldReach_29 : decode cX8_wouldReach 29 = .ok (.ireturn, 1) := by decide +kernel
theorem dX8_wouldReach_30 : decode cX8_wouldReach 30 = .ok (.aload_n 0, 1) := by decide +kernel
theorem dX8_wouldReach_31 : decode cX8_wouldReach 31 = .ok (.aload_n 0, 1) := by decide +kernel
theorem dX8_wouldReach_32 : decode cX8_wouldReach 32 = .ok (.iload_n 3, 1) := by decide +kernel
theorem dX8_wouldReach_33 : decode cX8_wouldReach 33 = .ok (.invokevirtual 104, 3) := by decide +kernel
theorem dX8_wouldReach_36 : decode cX8_wouldReach 36 = .ok (.ifCond .eq 7, 3) := by decide +kernel
theorem dX8_wouldReach_39 : decode cX8_wouldReach 39 = .ok (.iconst (-1), 1) := by decide +kernel
theorem dX8_wouldReach_40 : decode cX8_wouldReach 40 = .ok (.goto 17, 3) := by decide +kernel
theorem dX8_wouldReach_43 : decode cX8_wouldReach 43 = .ok (.aload_n 0, 1) := by decide +kernel
theorem dX8_wouldReach_44 : decode cX8_wouldReach 44 = .ok (.iload_n 1, 1) := by decide +kernel
theorem dX8_wouldReach_45 : decode cX8_wouldReach 45 = .ok (.iload_n 2, 1) := by decide +kernel
theorem dX8_wouldReach_46 : decode cX8_wouldReach 46 = .ok (.aload_n 0, 1) := by decide +kernel
theorem dX8_wouldReach_47 : decode cX8_wouldReach 47 = .ok (.getfield 7, 3) := by decide +kernel
theorem dX8_wouldReach_50 : decode cX8_wouldReach 50 = .ok (.iconst 0, 1) := by decide +kernel
theorem dX8_wouldReach_51 : decode cX8_wouldReach 51 = .ok (.iaload, 1) := by decide +kernel
theorem dX8_wouldReach_52 : decode cX8_wouldReach 52 = .ok (.iload_n 3, 1) := by decide +kernel
theorem dX8_wouldReach_53 : decode cX8_wouldReach 53 = .ok (.isub, 1) := by decide +kernel
theorem dX8_wouldReach_54 : decode cX8_wouldReach 54 = .ok (.invokevirtual 107, 3) := by decide +kernel
theorem dX8_wouldReach_57 : decode cX8_wouldReach 57 = .ok (.invokevirtual 45, 3) := by decide +kernel
theorem dX8_wouldReach_60 : decode cX8_wouldReach 60 = .ok (.ireturn, 1) := by decide +kernel
theorem dX8_why_0 : decode cX8_why 0 = .ok (.aload_n 0, 1) := by decide +kernel
theorem dX8_why_1 : decode cX8_why 1 = .ok (.iload_n 1, 1) := by decide +kernel
theorem dX8_why_2 : decode cX8_why 2 = .ok (.iconst 5, 1) := by decide +kernel
theorem dX8_why_3 : decode cX8_why 3 = .ok (.invokevirtual 56, 3) := by decide +kernel
theorem dX8_why_6 : decode cX8_why 6 = .ok (.ifCond .ne 5, 3) := by decide +kernel
theorem dX8_why_9 : decode cX8_why 9 = .ok (.iconst 1, 1) := by decide +kernel
theorem dX8_why_10 : decode cX8_why 10 = .ok (.ireturn, 1) := by decide +kernel
theorem dX8_why_11 : decode cX8_why 11 = .ok (.aload_n 0, 1) := by decide +kernel
theorem dX8_why_12 : decode cX8_why 12 = .ok (.iload_n 1, 1) := by decide +kernel
theorem dX8_why_13 : decode cX8_why 13 = .ok (.iconst 4, 1) := by decide +kernel
theorem dX8_why_14 : decode cX8_why 14 = .ok (.invokevirtual 56, 3) := by decide +kernel
theorem dX8_why_17 : decode cX8_why 17 = .ok (.aload_n 0, 1) := by decide +kernel
theorem dX8_why_18 : decode cX8_why 18 = .ok (.iload_n 1, 1) := by decide +kernel
theorem dX8_why_19 : decode cX8_why 19 = .ok (.iconst 1, 1) := by decide +kernel
theorem dX8_why_20 : decode cX8_why 20 = .ok (.invokevirtual 56, 3) := by decide +kernel
theorem dX8_why_23 : decode cX8_why 23 = .ok (.iload_n 2, 1) := by decide +kernel
theorem dX8_why_24 : decode cX8_why 24 = .ok (.iload_n 3, 1) := by decide +kernel
theorem dX8_why_25 : decode cX8_why 25 = .ok (.invokestatic 73, 3) := by decide +kernel
theorem dX8_why_28 : decode cX8_why 28 = .ok (.ifCond .eq 21, 3) := by decide +kernel
theorem dX8_why_31 : decode cX8_why 31 = .ok (.aload_n 0, 1) := by decide +kernel
theorem dX8_why_32 : decode cX8_why 32 = .ok (.iload_n 1, 1) := by decide +kernel
theorem dX8_why_33 : decode cX8_why 33 = .ok (.bipush 6, 2) := by decide +kernel
theorem dX8_why_35 : decode cX8_why 35 = .ok (.invokevirtual 56, 3) := by decide +kernel
theorem dX8_why_38 : decode cX8_why 38 = .ok (.bipush 12, 2) := by decide +kernel
theorem dX8_why_40 : decode cX8_why 40 = .ok (.if_icmp .ne 7, 3) := by decide +kernel
theorem dX8_why_43 : decode cX8_why 43 = .ok (.iconst 4, 1) := by decide +kernel
theorem dX8_why_44 : decode cX8_why 44 = .ok (.goto 4, 3) := by decide +kernel
theorem dX8_why_47 : decode cX8_why 47 = .ok (.iconst 0, 1) := by decide +kernel
theorem dX8_why_48 : decode cX8_why 48 = .ok (.ireturn, 1) := by decide +kernel
theorem dX8_why_49 : decode cX8_why 49 = .ok (.aload_n 0, 1) := by decide +kernel
theorem dX8_why_50 : decode cX8_why 50 = .ok (.iload_n 1, 1) := by decide +kernel
theorem dX8_why_51 : decode cX8_why 51 = .ok (.iconst 2, 1) := by decide +kernel
theorem dX8_why_52 : decode cX8_why 52 = .ok (.invokevirtual 56, 3) := by decide +kernel
theorem dX8_why_55 : decode cX8_why 55 = .ok (.aload_n 0, 1) := by decide +kernel
theorem dX8_why_56 : decode cX8_why 56 = .ok (.iload_n 1, 1) := by decide +kernel
theorem dX8_why_57 : decode cX8_why 57 = .ok (.iconst 1, 1) := by decide +kernel
theorem dX8_why_58 : decode cX8_why 58 = .ok (.invokevirtual 56, 3) := by decide +kernel
theorem dX8_why_61 : decode cX8_why 61 = .ok (.iload_n 2, 1) := by decide +kernel
theorem dX8_why_62 : decode cX8_why 62 = .ok (.iload_n 3, 1) := by decide +kernel
theorem dX8_why_63 : decode cX8_why 63 = .ok (.invokestatic 73, 3) := by decide +kernel
theorem dX8_why_66 : decode cX8_why 66 = .ok (.ifCond .eq 7, 3) := by decide +kernel
theorem dX8_why_69 : decode cX8_why 69 = .ok (.iconst 2, 1) := by decide +kernel
theorem dX8_why_70 : decode cX8_why 70 = .ok (.goto 4, 3) := by decide +kernel
theorem dX8_why_73 : decode cX8_why 73 = .ok (.iconst 3, 1) := by decide +kernel
theorem dX8_why_74 : decode cX8_why 74 = .ok (.ireturn, 1) := by decide +kernel
theorem dX8_reason_0 : decode cX8_reason 0 = .ok (.aload_n 0, 1) := by decide +kernel
theorem dX8_reason_1 : decode cX8_reason 1 = .ok (.iload_n 1, 1) := by decide +kernel
theorem dX8_reason_2 : decode cX8_reason 2 = .ok (.invokevirtual 94, 3) := by decide +kernel
theorem dX8_reason_5 : decode cX8_reason 5 = .ok (.ifCond .eq 10, 3) := by decide +kernel
theorem dX8_reason_8 : decode cX8_reason 8 = .ok (.iload_n 2, 1) := by decide +kernel
theorem dX8_reason_9 : decode cX8_reason 9 = .ok (.invokestatic 80, 3) := by decide +kernel
theorem dX8_reason_12 : decode cX8_reason 12 = .ok (.ifCond .ne 9, 3) := by decide +kernel
theorem dX8_reason_15 : decode cX8_reason 15 = .ok (.aload_n 0, 1) := by decide +kernel
theorem dX8_reason_16 : decode cX8_reason 16 = .ok (.iconst 1, 1) := by decide +kernel
theorem dX8_reason_17 : decode cX8_reason 17 = .ok (.invokevirtual 38, 3) := by decide +kernel
theorem dX8_reason_20 : decode cX8_reason 20 = .ok (.ireturn, 1) := by decide +kernel
theorem dX8_reason_21 : decode cX8_reason 21 = .ok (.iload_n 3, 1) := by decide +kernel
theorem dX8_reason_22 : decode cX8_reason 22 = .ok (.invokestatic 84, 3) := by decide +kernel
theorem dX8_reason_25 : decode cX8_reason 25 = .ok (.ifCond .eq 17, 3) := by decide +kernel
theorem dX8_reason_28 : decode cX8_reason 28 = .ok (.aload_n 0, 1) := by decide +kernel
theorem dX8_reason_29 : decode cX8_reason 29 = .ok (.aload_n 0, 1) := by decide +kernel
theorem dX8_reason_30 : decode cX8_reason 30 = .ok (.iload_n 1, 1) := by decide +kernel
theorem dX8_reason_31 : decode cX8_reason 31 = .ok (.iload_n 2, 1) := by decide +kernel
theorem dX8_reason_32 : decode cX8_reason 32 = .ok (.iload_n 3, 1) := by decide +kernel
theorem dX8_reason_33 : decode cX8_reason 33 = .ok (.invokevirtual 177, 3) := by decide +kernel
theorem dX8_reason_36 : decode cX8_reason 36 = .ok (.invokevirtual 45, 3) := by decide +kernel
theorem dX8_reason_39 : decode cX8_reason 39 = .ok (.goto 8, 3) := by decide +kernel
theorem dX8_reason_42 : decode cX8_reason 42 = .ok (.aload_n 0, 1) := by decide +kernel
theorem dX8_reason_43 : decode cX8_reason 43 = .ok (.iconst 2, 1) := by decide +kernel
theorem dX8_reason_44 : decode cX8_reason 44 = .ok (.invokevirtual 38, 3) := by decide +kernel
theorem dX8_reason_47 : decode cX8_reason 47 = .ok (.ireturn, 1) := by decide +kernel
theorem dX8_changesIn_0 : decode cX8_changesIn 0 = .ok (.aload_n 0, 1) := by decide +kernel
theorem dX8_changesIn_1 : decode cX8_changesIn 1 = .ok (.iload_n 1, 1) := by decide +kernel
theorem dX8_changesIn_2 : decode cX8_changesIn 2 = .ok (.iconst 5, 1) := by decide +kernel
theorem dX8_changesIn_3 : decode cX8_changesIn 3 = .ok (.invokevirtual 56, 3) := by decide +kernel
theorem dX8_changesIn_6 : decode cX8_changesIn 6 = .ok (.ifCond .ne 5, 3) := by decide +kernel
theorem dX8_changesIn_9 : decode cX8_changesIn 9 = .ok (.iconst (-1), 1) := by decide +kernel
theorem dX8_changesIn_10 : decode cX8_changesIn 10 = .ok (.ireturn, 1) := by decide +kernel
theorem dX8_changesIn_11 : decode cX8_changesIn 11 = .ok (.aload_n 0, 1) := by decide +kernel
theorem dX8_changesIn_12 : decode cX8_changesIn 12 = .ok (.iload_n 1, 1) := by decide +kernel
theorem dX8_changesIn_13 : decode cX8_changesIn 13 = .ok (.iconst 2, 1) := by decide +kernel
theorem dX8_changesIn_14 : decode cX8_changesIn 14 = .ok (.invokevirtual 56, 3) := by decide +kernel
theorem dX8_changesIn_17 : decode cX8_changesIn 17 = .ok (.aload_n 0, 1) := by decide +kernel
theorem dX8_changesIn_18 : decode cX8_changesIn 18 = .ok (.iload_n 1, 1) := by decide +kernel
theorem dX8_changesIn_19 : decode cX8_changesIn 19 = .ok (.iconst 4, 1) := by decide +kernel
theorem dX8_changesIn_20 : decode cX8_changesIn 20 = .ok (.invokevirtual 56, 3) := by decide +kernel
theorem dX8_changesIn_23 : decode cX8_changesIn 23 = .ok (.if_icmp .ne 5, 3) := by decide +kernel
theorem dX8_changesIn_26 : decode cX8_changesIn 26 = .ok (.iconst 0, 1) := by decide +kernel
theorem dX8_changesIn_27 : decode cX8_changesIn 27 = .ok (.ireturn, 1) := by decide +kernel
theorem dX8_changesIn_28 : decode cX8_changesIn 28 = .ok (.aload_n 0, 1) := by decide +kernel
theorem dX8_changesIn_29 : decode cX8_changesIn 29 = .ok (.iload_n 1, 1) := by decide +kernel
theorem dX8_changesIn_30 : decode cX8_changesIn 30 = .ok (.iconst 3, 1) := by decide +kernel
theorem dX8_changesIn_31 : decode cX8_changesIn 31 = .ok (.invokevirtual 56, 3) := by decide +kernel
theorem dX8_changesIn_34 : decode cX8_changesIn 34 = .ok (.aload_n 0, 1) := by decide +kernel
theorem dX8_changesIn_35 : decode cX8_changesIn 35 = .ok (.iload_n 1, 1) := by decide +kernel
theorem dX8_changesIn_36 : decode cX8_changesIn 36 = .ok (.invokevirtual 113, 3) := by decide +kernel
theorem dX8_changesIn_39 : decode cX8_changesIn 39 = .ok (.iadd, 1) := by decide +kernel
theorem dX8_changesIn_40 : decode cX8_changesIn 40 = .ok (.aload_n 0, 1) := by decide +kernel
theorem dX8_changesIn_41 : decode cX8_changesIn 41 = .ok (.getfield 7, 3) := by decide +kernel
theorem dX8_changesIn_44 : decode cX8_changesIn 44 = .ok (.iconst 0, 1) := by decide +kernel
theorem dX8_changesIn_45 : decode cX8_changesIn 45 = .ok (.iaload, 1) := by decide +kernel
theorem dX8_changesIn_46 : decode cX8_changesIn 46 = .ok (.isub, 1) := by decide +kernel
theorem dX8_changesIn_47 : decode cX8_changesIn 47 = .ok (.istore_n 2, 1) := by decide +kernel
theorem dX8_changesIn_48 : decode cX8_changesIn 48 = .ok (.iload_n 2, 1) := by decide +kernel
theorem dX8_changesIn_49 : decode cX8_changesIn 49 = .ok (.ifCond .ge 7, 3) := by decide +kernel
theorem dX8_changesIn_52 : decode cX8_changesIn 52 = .ok (.iconst 1, 1) := by decide +kernel
theorem dX8_changesIn_53 : decode cX8_changesIn 53 = .ok (.goto 6, 3) := by decide +kernel
theorem dX8_changesIn_56 : decode cX8_changesIn 56 = .ok (.iload_n 2, 1) := by decide +kernel
theorem dX8_changesIn_57 : decode cX8_changesIn 57 = .ok (.iconst 1, 1) := by decide +kernel
theorem dX8_changesIn_58 : decode cX8_changesIn 58 = .ok (.iadd, 1) := by decide +kernel
theorem dX8_changesIn_59 : decode cX8_changesIn 59 = .ok (.ireturn, 1) := by decide +kernel
theorem dX8_servedIn_0 : decode cX8_servedIn 0 = .ok (.aload_n 0, 1) := by decide +kernel
theorem dX8_servedIn_1 : decode cX8_servedIn 1 = .ok (.iload_n 1, 1) := by decide +kernel
theorem dX8_servedIn_2 : decode cX8_servedIn 2 = .ok (.invokevirtual 94, 3) := by decide +kernel
theorem dX8_servedIn_5 : decode cX8_servedIn 5 = .ok (.ifCond .eq 15, 3) := by decide +kernel
theorem dX8_servedIn_8 : decode cX8_servedIn 8 = .ok (.aload_n 0, 1) := by decide +kernel
theorem dX8_servedIn_9 : decode cX8_servedIn 9 = .ok (.aload_n 0, 1) := by decide +kernel
theorem dX8_servedIn_10 : decode cX8_servedIn 10 = .ok (.iload_n 1, 1) := by decide +kernel
theorem dX8_servedIn_11 : decode cX8_servedIn 11 = .ok (.invokevirtual 180, 3) := by decide +kernel
theorem dX8_servedIn_14 : decode cX8_servedIn 14 = .ok (.invokevirtual 45, 3) := by decide +kernel
theorem dX8_servedIn_17 : decode cX8_servedIn 17 = .ok (.goto 8, 3) := by decide +kernel
theorem dX8_servedIn_20 : decode cX8_servedIn 20 = .ok (.aload_n 0, 1) := by decide +kernel
theorem dX8_servedIn_21 : decode cX8_servedIn 21 = .ok (.iconst 1, 1) := by decide +kernel
theorem dX8_servedIn_22 : decode cX8_servedIn 22 = .ok (.invokevirtual 38, 3) := by decide +kernel
theorem dX8_servedIn_25 : decode cX8_servedIn 25 = .ok (.ireturn, 1) := by decide +kernel
theorem dX8_emptyIn_0 : decode cX8_emptyIn 0 = .ok (.aload_n 0, 1) := by decide +kernel
theorem dX8_emptyIn_1 : decode cX8_emptyIn 1 = .ok (.iload_n 1, 1) := by decide +kernel
theorem dX8_emptyIn_2 : decode cX8_emptyIn 2 = .ok (.invokevirtual 94, 3) := by decide +kernel
theorem dX8_emptyIn_5 : decode cX8_emptyIn 5 = .ok (.ifCond .ne 9, 3) := by decide +kernel
theorem dX8_emptyIn_8 : decode cX8_emptyIn 8 = .ok (.aload_n 0, 1) := by decide +kernel
theorem dX8_emptyIn_9 : decode cX8_emptyIn 9 = .ok (.iconst 1, 1) := by decide +kernel
theorem dX8_emptyIn_10 : decode cX8_emptyIn 10 = .ok (.invokevirtual 38, 3) := by decide +kernel
theorem dX8_emptyIn_13 : decode cX8_emptyIn 13 = .ok (.ireturn, 1) := by decide +kernel
theorem dX8_emptyIn_14 : decode cX8_emptyIn 14 = .ok (.aload_n 0, 1) := by decide +kernel
theorem dX8_emptyIn_15 : decode cX8_emptyIn 15 = .ok (.invokevirtual 126, 3) := by decide +kernel
theorem dX8_emptyIn_18 : decode cX8_emptyIn 18 = .ok (.iconst 0, 1) := by decide +kernel
theorem dX8_emptyIn_19 : decode cX8_emptyIn 19 = .ok (.istore_n 2, 1) := by decide +kernel
theorem dX8_emptyIn_20 : decode cX8_emptyIn 20 = .ok (.iload_n 2, 1) := by decide +kernel
theorem dX8_emptyIn_21 : decode cX8_emptyIn 21 = .ok (.sipush 200, 3) := by decide +kernel
theorem dX8_emptyIn_24 : decode cX8_emptyIn 24 = .ok (.if_icmp .gt 31, 3) := by decide +kernel
theorem dX8_emptyIn_27 : decode cX8_emptyIn 27 = .ok (.aload_n 0, 1) := by decide +kernel
theorem dX8_emptyIn_28 : decode cX8_emptyIn 28 = .ok (.iload_n 1, 1) := by decide +kernel
theorem dX8_emptyIn_29 : decode cX8_emptyIn 29 = .ok (.bipush 6, 2) := by decide +kernel
theorem dX8_emptyIn_31 : decode cX8_emptyIn 31 = .ok (.invokevirtual 56, 3) := by decide +kernel
theorem dX8_emptyIn_34 : decode cX8_emptyIn 34 = .ok (.ifCond .le 21, 3) := by decide +kernel
theorem dX8_emptyIn_37 : decode cX8_emptyIn 37 = .ok (.iload_n 2, 1) := by decide +kernel
theorem dX8_emptyIn_38 : decode cX8_emptyIn 38 = .ok (.aload_n 0, 1) := by decide +kernel
theorem dX8_emptyIn_39 : decode cX8_emptyIn 39 = .ok (.invokevirtual 122, 3) := by decide +kernel
theorem dX8_emptyIn_42 : decode cX8_emptyIn 42 = .ok (.ifCond .ge 7, 3) := by decide +kernel
theorem dX8_emptyIn_45 : decode cX8_emptyIn 45 = .ok (.iconst 0, 1) := by decide +kernel
theorem dX8_emptyIn_46 : decode cX8_emptyIn 46 = .ok (.goto 4, 3) := by decide +kernel
theorem dX8_emptyIn_49 : decode cX8_emptyIn 49 = .ok (.iconst 1, 1) := by decide +kernel
theorem dX8_emptyIn_50 : decode cX8_emptyIn 50 = .ok (.iadd, 1) := by decide +kernel
theorem dX8_emptyIn_51 : decode cX8_emptyIn 51 = .ok (.istore_n 2, 1) := by decide +kernel
theorem dX8_emptyIn_52 : decode cX8_emptyIn 52 = .ok (.goto (-32), 3) := by decide +kernel
theorem dX8_emptyIn_55 : decode cX8_emptyIn 55 = .ok (.aload_n 0, 1) := by decide +kernel
theorem dX8_emptyIn_56 : decode cX8_emptyIn 56 = .ok (.invokevirtual 35, 3) := by decide +kernel
theorem dX8_emptyIn_59 : decode cX8_emptyIn 59 = .ok (.aload_n 0, 1) := by decide +kernel
theorem dX8_emptyIn_60 : decode cX8_emptyIn 60 = .ok (.iload_n 2, 1) := by decide +kernel
theorem dX8_emptyIn_61 : decode cX8_emptyIn 61 = .ok (.sipush 200, 3) := by decide +kernel
theorem dX8_emptyIn_64 : decode cX8_emptyIn 64 = .ok (.if_icmp .le 7, 3) := by decide +kernel
theorem dX8_emptyIn_67 : decode cX8_emptyIn 67 = .ok (.iconst (-1), 1) := by decide +kernel
theorem dX8_emptyIn_68 : decode cX8_emptyIn 68 = .ok (.goto 4, 3) := by decide +kernel
theorem dX8_emptyIn_71 : decode cX8_emptyIn 71 = .ok (.iload_n 2, 1) := by decide +kernel
theorem dX8_emptyIn_72 : decode cX8_emptyIn 72 = .ok (.invokevirtual 45, 3) := by decide +kernel
theorem dX8_emptyIn_75 : decode cX8_emptyIn 75 = .ok (.ireturn, 1) := by decide +kernel
theorem dX8_coveredBy_0 : decode cX8_coveredBy 0 = .ok (.iconst 0, 1) := by decide +kernel
theorem dX8_coveredBy_1 : decode cX8_coveredBy 1 = .ok (.istore_n 2, 1) := by decide +kernel
theorem dX8_coveredBy_2 : decode cX8_coveredBy 2 = .ok (.iconst 0, 1) := by decide +kernel
theorem dX8_coveredBy_3 : decode cX8_coveredBy 3 = .ok (.istore_n 3, 1) := by decide +kernel
theorem dX8_coveredBy_4 : decode cX8_coveredBy 4 = .ok (.iload_n 3, 1) := by decide +kernel
theorem dX8_coveredBy_5 : decode cX8_coveredBy 5 = .ok (.bipush 16, 2) := by decide +kernel
theorem dX8_coveredBy_7 : decode cX8_coveredBy 7 = .ok (.if_icmp .ge 49, 3) := by decide +kernel
theorem dX8_coveredBy_10 : decode cX8_coveredBy 10 = .ok (.iload_n 2, 1) := by decide +kernel
theorem dX8_coveredBy_11 : decode cX8_coveredBy 11 = .ok (.aload_n 0, 1) := by decide +kernel
theorem dX8_coveredBy_12 : decode cX8_coveredBy 12 = .ok (.iload_n 1, 1) := by decide +kernel
theorem dX8_coveredBy_13 : decode cX8_coveredBy 13 = .ok (.iconst 5, 1) := by decide +kernel
theorem dX8_coveredBy_14 : decode cX8_coveredBy 14 = .ok (.invokevirtual 56, 3) := by decide +kernel
theorem dX8_coveredBy_17 : decode cX8_coveredBy 17 = .ok (.iconst 1, 1) := by decide +kernel
theorem dX8_coveredBy_18 : decode cX8_coveredBy 18 = .ok (.if_icmp .ne 29, 3) := by decide +kernel
theorem dX8_coveredBy_21 : decode cX8_coveredBy 21 = .ok (.aload_n 0, 1) := by decide +kernel
theorem dX8_coveredBy_22 : decode cX8_coveredBy 22 = .ok (.iload_n 1, 1) := by decide +kernel
theorem dX8_coveredBy_23 : decode cX8_coveredBy 23 = .ok (.iconst 4, 1) := by decide +kernel
theorem dX8_coveredBy_24 : decode cX8_coveredBy 24 = .ok (.invokevirtual 56, 3) := by decide +kernel
theorem dX8_coveredBy_27 : decode cX8_coveredBy 27 = .ok (.aload_n 0, 1) := by decide +kernel
theorem dX8_coveredBy_28 : decode cX8_coveredBy 28 = .ok (.iload_n 1, 1) := by decide +kernel
theorem dX8_coveredBy_29 : decode cX8_coveredBy 29 = .ok (.iconst 1, 1) := by decide +kernel
theorem dX8_coveredBy_30 : decode cX8_coveredBy 30 = .ok (.invokevirtual 56, 3) := by decide +kernel
theorem dX8_coveredBy_33 : decode cX8_coveredBy 33 = .ok (.iload_n 3, 1) := by decide +kernel
theorem dX8_coveredBy_34 : decode cX8_coveredBy 34 = .ok (.iconst 2, 1) := by decide +kernel
theorem dX8_coveredBy_35 : decode cX8_coveredBy 35 = .ok (.invokestatic 73, 3) := by decide +kernel
theorem dX8_coveredBy_38 : decode cX8_coveredBy 38 = .ok (.ifCond .eq 9, 3) := by decide +kernel
theorem dX8_coveredBy_41 : decode cX8_coveredBy 41 = .ok (.iconst 1, 1) := by decide +kernel
theorem dX8_coveredBy_42 : decode cX8_coveredBy 42 = .ok (.iload_n 3, 1) := by decide +kernel
theorem dX8_coveredBy_43 : decode cX8_coveredBy 43 = .ok (.ishl, 1) := by decide +kernel
theorem dX8_coveredBy_44 : decode cX8_coveredBy 44 = .ok (.goto 4, 3) := by decide +kernel
theorem dX8_coveredBy_47 : decode cX8_coveredBy 47 = .ok (.iconst 0, 1) := by decide +kernel
theorem dX8_coveredBy_48 : decode cX8_coveredBy 48 = .ok (.ior, 1) := by decide +kernel
theorem dX8_coveredBy_49 : decode cX8_coveredBy 49 = .ok (.istore_n 2, 1) := by decide +kernel
theorem dX8_coveredBy_50 : decode cX8_coveredBy 50 = .ok (.iinc 3 1, 3) := by decide +kernel
theorem dX8_coveredBy_53 : decode cX8_coveredBy 53 = .ok (.goto (-49), 3) := by decide +kernel
theorem dX8_coveredBy_56 : decode cX8_coveredBy 56 = .ok (.iload_n 2, 1) := by decide +kernel
theorem dX8_coveredBy_57 : decode cX8_coveredBy 57 = .ok (.ireturn, 1) := by decide +kernel
theorem dX8_covered_0 : decode cX8_covered 0 = .ok (.aload_n 0, 1) := by decide +kernel
theorem dX8_covered_1 : decode cX8_covered 1 = .ok (.iload_n 1, 1) := by decide +kernel
theorem dX8_covered_2 : decode cX8_covered 2 = .ok (.invokevirtual 94, 3) := by decide +kernel
theorem dX8_covered_5 : decode cX8_covered 5 = .ok (.ifCond .eq 15, 3) := by decide +kernel
theorem dX8_covered_8 : decode cX8_covered 8 = .ok (.aload_n 0, 1) := by decide +kernel
theorem dX8_covered_9 : decode cX8_covered 9 = .ok (.aload_n 0, 1) := by decide +kernel
theorem dX8_covered_10 : decode cX8_covered 10 = .ok (.iload_n 1, 1) := by decide +kernel
theorem dX8_covered_11 : decode cX8_covered 11 = .ok (.invokevirtual 183, 3) := by decide +kernel
theorem dX8_covered_14 : decode cX8_covered 14 = .ok (.invokevirtual 45, 3) := by decide +kernel
theorem dX8_covered_17 : decode cX8_covered 17 = .ok (.goto 8, 3) := by decide +kernel
theorem dX8_covered_20 : decode cX8_covered 20 = .ok (.aload_n 0, 1) := by decide +kernel
theorem dX8_covered_21 : decode cX8_covered 21 = .ok (.iconst 1, 1) := by decide +kernel
theorem dX8_covered_22 : decode cX8_covered 22 = .ok (.invokevirtual 38, 3) := by decide +kernel
theorem dX8_covered_25 : decode cX8_covered 25 = .ok (.ireturn, 1) := by decide +kernel
theorem dX8_busiestLeaf_0 : decode cX8_busiestLeaf 0 = .ok (.iconst (-1), 1) := by decide +kernel
theorem dX8_busiestLeaf_1 : decode cX8_busiestLeaf 1 = .ok (.istore_n 1, 1) := by decide +kernel
theorem dX8_busiestLeaf_2 : decode cX8_busiestLeaf 2 = .ok (.iconst 0, 1) := by decide +kernel
theorem dX8_busiestLeaf_3 : decode cX8_busiestLeaf 3 = .ok (.istore_n 2, 1) := by decide +kernel
theorem dX8_busiestLeaf_4 : decode cX8_busiestLeaf 4 = .ok (.iconst 0, 1) := by decide +kernel
theorem dX8_busiestLeaf_5 : decode cX8_busiestLeaf 5 = .ok (.istore_n 3, 1) := by decide +kernel
theorem dX8_busiestLeaf_6 : decode cX8_busiestLeaf 6 = .ok (.iload_n 3, 1) := by decide +kernel
theorem dX8_busiestLeaf_7 : decode cX8_busiestLeaf 7 = .ok (.bipush 16, 2) := by decide +kernel
theorem dX8_busiestLeaf_9 : decode cX8_busiestLeaf 9 = .ok (.if_icmp .ge 42, 3) := by decide +kernel
theorem dX8_busiestLeaf_12 : decode cX8_busiestLeaf 12 = .ok (.aload_n 0, 1) := by decide +kernel
theorem dX8_busiestLeaf_13 : decode cX8_busiestLeaf 13 = .ok (.iload_n 3, 1) := by decide +kernel
theorem dX8_busiestLeaf_14 : decode cX8_busiestLeaf 14 = .ok (.iconst 2, 1) := by decide +kernel
theorem dX8_busiestLeaf_15 : decode cX8_busiestLeaf 15 = .ok (.invokevirtual 165, 3) := by decide +kernel
theorem dX8_busiestLeaf_18 : decode cX8_busiestLeaf 18 = .ok (.istore 4, 2) := by decide +kernel
theorem dX8_busiestLeaf_20 : decode cX8_busiestLeaf 20 = .ok (.iload 4, 2) := by decide +kernel
theorem dX8_busiestLeaf_22 : decode cX8_busiestLeaf 22 = .ok (.iload_n 2, 1) := by decide +kernel
theorem dX8_busiestLeaf_23 : decode cX8_busiestLeaf 23 = .ok (.if_icmp .le 7, 3) := by decide +kernel
theorem dX8_busiestLeaf_26 : decode cX8_busiestLeaf 26 = .ok (.iload_n 3, 1) := by decide +kernel
theorem dX8_busiestLeaf_27 : decode cX8_busiestLeaf 27 = .ok (.goto 4, 3) := by decide +kernel
theorem dX8_busiestLeaf_30 : decode cX8_busiestLeaf 30 = .ok (.iload_n 1, 1) := by decide +kernel
theorem dX8_busiestLeaf_31 : decode cX8_busiestLeaf 31 = .ok (.istore_n 1, 1) := by decide +kernel
theorem dX8_busiestLeaf_32 : decode cX8_busiestLeaf 32 = .ok (.iload 4, 2) := by decide +kernel
theorem dX8_busiestLeaf_34 : decode cX8_busiestLeaf 34 = .ok (.iload_n 2, 1) := by decide +kernel
theorem dX8_busiestLeaf_35 : decode cX8_busiestLeaf 35 = .ok (.if_icmp .le 8, 3) := by decide +kernel
theorem dX8_busiestLeaf_38 : decode cX8_busiestLeaf 38 = .ok (.iload 4, 2) := by decide +kernel
theorem dX8_busiestLeaf_40 : decode cX8_busiestLeaf 40 = .ok (.goto 4, 3) := by decide +kernel
theorem dX8_busiestLeaf_43 : decode cX8_busiestLeaf 43 = .ok (.iload_n 2, 1) := by decide +kernel
theorem dX8_busiestLeaf_44 : decode cX8_busiestLeaf 44 = .ok (.istore_n 2, 1) := by decide +kernel
theorem dX8_busiestLeaf_45 : decode cX8_busiestLeaf 45 = .ok (.iinc 3 1, 3) := by decide +kernel
theorem dX8_busiestLeaf_48 : decode cX8_busiestLeaf 48 = .ok (.goto (-42), 3) := by decide +kernel
theorem dX8_busiestLeaf_51 : decode cX8_busiestLeaf 51 = .ok (.iload_n 1, 1) := by decide +kernel
theorem dX8_busiestLeaf_52 : decode cX8_busiestLeaf 52 = .ok (.ireturn, 1) := by decide +kernel
theorem dX8_busiest_0 : decode cX8_busiest 0 = .ok (.aload_n 0, 1) := by decide +kernel
theorem dX8_busiest_1 : decode cX8_busiest 1 = .ok (.aload_n 0, 1) := by decide +kernel
theorem dX8_busiest_2 : decode cX8_busiest 2 = .ok (.invokevirtual 186, 3) := by decide +kernel
theorem dX8_busiest_5 : decode cX8_busiest 5 = .ok (.invokevirtual 45, 3) := by decide +kernel
theorem dX8_busiest_8 : decode cX8_busiest 8 = .ok (.ireturn, 1) := by decide +kernel
theorem dX8_type_0 : decode cX8_type 0 = .ok (.iload_n 1, 1) := by decide +kernel
theorem dX8_type_1 : decode cX8_type 1 = .ok (.iconst 0, 1) := by decide +kernel
theorem dX8_type_2 : decode cX8_type 2 = .ok (.bipush 127, 2) := by decide +kernel
theorem dX8_type_4 : decode cX8_type 4 = .ok (.invokestatic 48, 3) := by decide +kernel
theorem dX8_type_7 : decode cX8_type 7 = .ok (.ifCond .ne 9, 3) := by decide +kernel
theorem dX8_type_10 : decode cX8_type 10 = .ok (.aload_n 0, 1) := by decide +kernel
theorem dX8_type_11 : decode cX8_type 11 = .ok (.iconst 1, 1) := by decide +kernel
theorem dX8_type_12 : decode cX8_type 12 = .ok (.invokevirtual 38, 3) := by decide +kernel
theorem dX8_type_15 : decode cX8_type 15 = .ok (.ireturn, 1) := by decide +kernel
theorem dX8_type_16 : decode cX8_type 16 = .ok (.aload_n 0, 1) := by decide +kernel
theorem dX8_type_17 : decode cX8_type 17 = .ok (.getfield 171, 3) := by decide +kernel
theorem dX8_type_20 : decode cX8_type 20 = .ok (.sipush 150, 3) := by decide +kernel
theorem dX8_type_23 : decode cX8_type 23 = .ok (.if_icmp .ne 9, 3) := by decide +kernel
theorem dX8_type_26 : decode cX8_type 26 = .ok (.aload_n 0, 1) := by decide +kernel
theorem dX8_type_27 : decode cX8_type 27 = .ok (.iconst 2, 1) := by decide +kernel
theorem dX8_type_28 : decode cX8_type 28 = .ok (.invokevirtual 38, 3) := by decide +kernel
theorem dX8_type_31 : decode cX8_type 31 = .ok (.ireturn, 1) := by decide +kernel
theorem dX8_type_32 : decode cX8_type 32 = .ok (.aload_n 0, 1) := by decide +kernel
theorem dX8_type_33 : decode cX8_type 33 = .ok (.getfield 22, 3) := by decide +kernel
theorem dX8_type_36 : decode cX8_type 36 = .ok (.aload_n 0, 1) := by decide +kernel
theorem dX8_type_37 : decode cX8_type 37 = .ok (.getfield 171, 3) := by decide +kernel
theorem dX8_type_40 : decode cX8_type 40 = .ok (.iload_n 1, 1) := by decide +kernel
theorem dX8_type_41 : decode cX8_type 41 = .ok (.iastore, 1) := by decide +kernel
theorem dX8_type_42 : decode cX8_type 42 = .ok (.aload_n 0, 1) := by decide +kernel
theorem dX8_type_43 : decode cX8_type 43 = .ok (.dup, 1) := by decide +kernel
theorem dX8_type_44 : decode cX8_type 44 = .ok (.getfield 171, 3) := by decide +kernel
theorem dX8_type_47 : decode cX8_type 47 = .ok (.iconst 1, 1) := by decide +kernel
theorem dX8_type_48 : decode cX8_type 48 = .ok (.iadd, 1) := by decide +kernel
theorem dX8_type_49 : decode cX8_type 49 = .ok (.putfield 171, 3) := by decide +kernel
theorem dX8_type_52 : decode cX8_type 52 = .ok (.aload_n 0, 1) := by decide +kernel
theorem dX8_type_53 : decode cX8_type 53 = .ok (.aload_n 0, 1) := by decide +kernel
theorem dX8_type_54 : decode cX8_type 54 = .ok (.getfield 171, 3) := by decide +kernel
theorem dX8_type_57 : decode cX8_type 57 = .ok (.invokevirtual 45, 3) := by decide +kernel
theorem dX8_type_60 : decode cX8_type 60 = .ok (.ireturn, 1) := by decide +kernel
theorem dX8_clearCommands_0 : decode cX8_clearCommands 0 = .ok (.aload_n 0, 1) := by decide +kernel
theorem dX8_clearCommands_1 : decode cX8_clearCommands 1 = .ok (.getfield 171, 3) := by decide +kernel
theorem dX8_clearCommands_4 : decode cX8_clearCommands 4 = .ok (.istore_n 1, 1) := by decide +kernel
theorem dX8_clearCommands_5 : decode cX8_clearCommands 5 = .ok (.aload_n 0, 1) := by decide +kernel
theorem dX8_clearCommands_6 : decode cX8_clearCommands 6 = .ok (.iconst 0, 1) := by decide +kernel
theorem dX8_clearCommands_7 : decode cX8_clearCommands 7 = .ok (.putfield 171, 3) := by decide +kernel
theorem dX8_clearCommands_10 : decode cX8_clearCommands 10 = .ok (.aload_n 0, 1) := by decide +kernel
theorem dX8_clearCommands_11 : decode cX8_clearCommands 11 = .ok (.iload_n 1, 1) := by decide +kernel
theorem dX8_clearCommands_12 : decode cX8_clearCommands 12 = .ok (.invokevirtual 45, 3) := by decide +kernel
theorem dX8_clearCommands_15 : decode cX8_clearCommands 15 = .ok (.ireturn, 1) := by decide +kernel
theorem dX8_isAt_0 : decode cX8_isAt 0 = .ok (.aload_n 0, 1) := by decide +kernel
theorem dX8_isAt_1 : decode cX8_isAt 1 = .ok (.getfield 189, 3) := by decide +kernel
theorem dX8_isAt_4 : decode cX8_isAt 4 = .ok (.aload_n 0, 1) := by decide +kernel
theorem dX8_isAt_5 : decode cX8_isAt 5 = .ok (.getfield 171, 3) := by decide +kernel
theorem dX8_isAt_8 : decode cX8_isAt 8 = .ok (.if_icmp .ge 24, 3) := by decide +kernel
theorem dX8_isAt_11 : decode cX8_isAt 11 = .ok (.aload_n 0, 1) := by decide +kernel
theorem dX8_isAt_12 : decode cX8_isAt 12 = .ok (.getfield 22, 3) := by decide +kernel
theorem dX8_isAt_15 : decode cX8_isAt 15 = .ok (.aload_n 0, 1) := by decide +kernel
theorem dX8_isAt_16 : decode cX8_isAt 16 = .ok (.getfield 189, 3) := by decide +kernel
theorem dX8_isAt_19 : decode cX8_isAt 19 = .ok (.iaload, 1) := by decide +kernel
theorem dX8_isAt_20 : decode cX8_isAt 20 = .ok (.iload_n 1, 1) := by decide +kernel
theorem dX8_isAt_21 : decode cX8_isAt 21 = .ok (.iload_n 2, 1) := by decide +kernel
theorem dX8_isAt_22 : decode cX8_isAt 22 = .ok (.invokestatic 48, 3) := by decide +kernel
theorem dX8_isAt_25 : decode cX8_isAt 25 = .ok (.ifCond .eq 7, 3) := by decide +kernel
theorem dX8_isAt_28 : decode cX8_isAt 28 = .ok (.iconst 1, 1) := by decide +kernel
theorem dX8_isAt_29 : decode cX8_isAt 29 = .ok (.goto 4, 3) := by decide +kernel
theorem dX8_isAt_32 : decode cX8_isAt 32 = .ok (.iconst 0, 1) := by decide +kernel
theorem dX8_isAt_33 : decode cX8_isAt 33 = .ok (.ireturn, 1) := by decide +kernel
theorem dX8_skips_0 : decode cX8_skips 0 = .ok (.aload_n 0, 1) := by decide +kernel
theorem dX8_skips_1 : decode cX8_skips 1 = .ok (.bipush 32, 2) := by decide +kernel
theorem dX8_skips_3 : decode cX8_skips 3 = .ok (.bipush 32, 2) := by decide +kernel
theorem dX8_skips_5 : decode cX8_skips 5 = .ok (.invokevirtual 192, 3) := by decide +kernel
theorem dX8_skips_8 : decode cX8_skips 8 = .ok (.ifCond .eq 16, 3) := by decide +kernel
theorem dX8_skips_11 : decode cX8_skips 11 = .ok (.aload_n 0, 1) := by decide +kernel
theorem dX8_skips_12 : decode cX8_skips 12 = .ok (.dup, 1) := by decide +kernel
theorem dX8_skips_13 : decode cX8_skips 13 = .ok (.getfield 189, 3) := by decide +kernel
theorem dX8_skips_16 : decode cX8_skips 16 = .ok (.iconst 1, 1) := by decide +kernel
theorem dX8_skips_17 : decode cX8_skips 17 = .ok (.iadd, 1) := by decide +kernel
theorem dX8_skips_18 : decode cX8_skips 18 = .ok (.putfield 189, 3) := by decide +kernel
theorem dX8_skips_21 : decode cX8_skips 21 = .ok (.goto (-21), 3) := by decide +kernel
theorem dX8_skips_24 : decode cX8_skips 24 = .ok (.return_, 1) := by decide +kernel
theorem dX8_wordOf_0 : decode cX8_wordOf 0 = .ok (.iload_n 0, 1) := by decide +kernel
theorem dX8_wordOf_1 : decode cX8_wordOf 1 = .ok (.lookupswitch 71 #[(239, 63), (19636, 67), (343342, 59), (394885, 61), (578868, 69), (5969364, 65)], 59) := by decide +kernel
theorem dX8_wordOf_60 : decode cX8_wordOf 60 = .ok (.iconst 0, 1) := by decide +kernel
theorem dX8_wordOf_61 : decode cX8_wordOf 61 = .ok (.ireturn, 1) := by decide +kernel
theorem dX8_wordOf_62 : decode cX8_wordOf 62 = .ok (.iconst 1, 1) := by decide +kernel
theorem dX8_wordOf_63 : decode cX8_wordOf 63 = .ok (.ireturn, 1) := by decide +kernel
theorem dX8_wordOf_64 : decode cX8_wordOf 64 = .ok (.iconst 2, 1) := by decide +kernel
theorem dX8_wordOf_65 : decode cX8_wordOf 65 = .ok (.ireturn, 1) := by decide +kernel
theorem dX8_wordOf_66 : decode cX8_wordOf 66 = .ok (.iconst 3, 1) := by decide +kernel
theorem dX8_wordOf_67 : decode cX8_wordOf 67 = .ok (.ireturn, 1) := by decide +kernel
theorem dX8_wordOf_68 : decode cX8_wordOf 68 = .ok (.iconst 4, 1) := by decide +kernel
theorem dX8_wordOf_69 : decode cX8_wordOf 69 = .ok (.ireturn, 1) := by decide +kernel
theorem dX8_wordOf_70 : decode cX8_wordOf 70 = .ok (.iconst 5, 1) := by decide +kernel
theorem dX8_wordOf_71 : decode cX8_wordOf 71 = .ok (.ireturn, 1) := by decide +kernel
theorem dX8_wordOf_72 : decode cX8_wordOf 72 = .ok (.iload_n 0, 1) := by decide +kernel
theorem dX8_wordOf_73 : decode cX8_wordOf 73 = .ok (.ldc 196, 2) := by decide +kernel
theorem dX8_wordOf_75 : decode cX8_wordOf 75 = .ok (.if_icmp .ne 8, 3) := by decide +kernel
theorem dX8_wordOf_78 : decode cX8_wordOf 78 = .ok (.bipush 6, 2) := by decide +kernel
theorem dX8_wordOf_80 : decode cX8_wordOf 80 = .ok (.goto 4, 3) := by decide +kernel
theorem dX8_wordOf_83 : decode cX8_wordOf 83 = .ok (.iconst (-1), 1) := by decide +kernel
theorem dX8_wordOf_84 : decode cX8_wordOf 84 = .ok (.ireturn, 1) := by decide +kernel
theorem dX8_takesNumber_0 : decode cX8_takesNumber 0 = .ok (.aload_n 0, 1) := by decide +kernel
theorem dX8_takesNumber_1 : decode cX8_takesNumber 1 = .ok (.bipush 32, 2) := by decide +kernel
theorem dX8_takesNumber_3 : decode cX8_takesNumber 3 = .ok (.bipush 32, 2) := by decide +kernel
theorem dX8_takesNumber_5 : decode cX8_takesNumber 5 = .ok (.invokevirtual 192, 3) := by decide +kernel
theorem dX8_takesNumber_8 : decode cX8_takesNumber 8 = .ok (.ifCond .ne 5, 3) := by decide +kernel
theorem dX8_takesNumber_11 : decode cX8_takesNumber 11 = .ok (.iconst 0, 1) := by decide +kernel
theorem dX8_takesNumber_12 : decode cX8_takesNumber 12 = .ok (.ireturn, 1) := by decide +kernel
theorem dX8_takesNumber_13 : decode cX8_takesNumber 13 = .ok (.aload_n 0, 1) := by decide +kernel
theorem dX8_takesNumber_14 : decode cX8_takesNumber 14 = .ok (.invokevirtual 197, 3) := by decide +kernel
theorem dX8_takesNumber_17 : decode cX8_takesNumber 17 = .ok (.aload_n 0, 1) := by decide +kernel
theorem dX8_takesNumber_18 : decode cX8_takesNumber 18 = .ok (.getfield 189, 3) := by decide +kernel
theorem dX8_takesNumber_21 : decode cX8_takesNumber 21 = .ok (.istore_n 2, 1) := by decide +kernel
theorem dX8_takesNumber_22 : decode cX8_takesNumber 22 = .ok (.aload_n 0, 1) := by decide +kernel
theorem dX8_takesNumber_23 : decode cX8_takesNumber 23 = .ok (.getfield 25, 3) := by decide +kernel
theorem dX8_takesNumber_26 : decode cX8_takesNumber 26 = .ok (.iload_n 1, 1) := by decide +kernel
theorem dX8_takesNumber_27 : decode cX8_takesNumber 27 = .ok (.iconst 0, 1) := by decide +kernel
theorem dX8_takesNumber_28 : decode cX8_takesNumber 28 = .ok (.iastore, 1) := by decide +kernel
theorem dX8_takesNumber_29 : decode cX8_takesNumber 29 = .ok (.aload_n 0, 1) := by decide +kernel
theorem dX8_takesNumber_30 : decode cX8_takesNumber 30 = .ok (.bipush 48, 2) := by decide +kernel
theorem dX8_takesNumber_32 : decode cX8_takesNumber 32 = .ok (.bipush 57, 2) := by decide +kernel
theorem dX8_takesNumber_34 : decode cX8_takesNumber 34 = .ok (.invokevirtual 192, 3) := by decide +kernel
theorem dX8_takesNumber_37 : decode cX8_takesNumber 37 = .ok (.ifCond .eq 54, 3) := by decide +kernel
theorem dX8_takesNumber_40 : decode cX8_takesNumber 40 = .ok (.aload_n 0, 1) := by decide +kernel
theorem dX8_takesNumber_41 : decode cX8_takesNumber 41 = .ok (.getfield 189, 3) := by decide +kernel
theorem dX8_takesNumber_44 : decode cX8_takesNumber 44 = .ok (.iload_n 2, 1) := by decide +kernel
theorem dX8_takesNumber_45 : decode cX8_takesNumber 45 = .ok (.iconst 3, 1) := by decide +kernel
theorem dX8_takesNumber_46 : decode cX8_takesNumber 46 = .ok (.iadd, 1) := by decide +kernel
theorem dX8_takesNumber_47 : decode cX8_takesNumber 47 = .ok (.if_icmp .ge 44, 3) := by decide +kernel
theorem dX8_takesNumber_50 : decode cX8_takesNumber 50 = .ok (.aload_n 0, 1) := by decide +kernel
theorem dX8_takesNumber_51 : decode cX8_takesNumber 51 = .ok (.getfield 25, 3) := by decide +kernel
theorem dX8_takesNumber_54 : decode cX8_takesNumber 54 = .ok (.iload_n 1, 1) := by decide +kernel
theorem dX8_takesNumber_55 : decode cX8_takesNumber 55 = .ok (.bipush 10, 2) := by decide +kernel
theorem dX8_takesNumber_57 : decode cX8_takesNumber 57 = .ok (.aload_n 0, 1) := by decide +kernel
theorem dX8_takesNumber_58 : decode cX8_takesNumber 58 = .ok (.getfield 25, 3) := by decide +kernel
theorem dX8_takesNumber_61 : decode cX8_takesNumber 61 = .ok (.iload_n 1, 1) := by decide +kernel
theorem dX8_takesNumber_62 : decode cX8_takesNumber 62 = .ok (.iaload, 1) := by decide +kernel
theorem dX8_takesNumber_63 : decode cX8_takesNumber 63 = .ok (.imul, 1) := by decide +kernel
theorem dX8_takesNumber_64 : decode cX8_takesNumber 64 = .ok (.aload_n 0, 1) := by decide +kernel
theorem dX8_takesNumber_65 : decode cX8_takesNumber 65 = .ok (.getfield 22, 3) := by decide +kernel
theorem dX8_takesNumber_68 : decode cX8_takesNumber 68 = .ok (.aload_n 0, 1) := by decide +kernel
theorem dX8_takesNumber_69 : decode cX8_takesNumber 69 = .ok (.getfield 189, 3) := by decide +kernel
theorem dX8_takesNumber_72 : decode cX8_takesNumber 72 = .ok (.iaload, 1) := by decide +kernel
theorem dX8_takesNumber_73 : decode cX8_takesNumber 73 = .ok (.iadd, 1) := by decide +kernel
theorem dX8_takesNumber_74 : decode cX8_takesNumber 74 = .ok (.bipush 48, 2) := by decide +kernel
theorem dX8_takesNumber_76 : decode cX8_takesNumber 76 = .ok (.isub, 1) := by decide +kernel
theorem dX8_takesNumber_77 : decode cX8_takesNumber 77 = .ok (.iastore, 1) := by decide +kernel
theorem dX8_takesNumber_78 : decode cX8_takesNumber 78 = .ok (.aload_n 0, 1) := by decide +kernel
theorem dX8_takesNumber_79 : decode cX8_takesNumber 79 = .ok (.dup, 1) := by decide +kernel
theorem dX8_takesNumber_80 : decode cX8_takesNumber 80 = .ok (.getfield 189, 3) := by decide +kernel
theorem dX8_takesNumber_83 : decode cX8_takesNumber 83 = .ok (.iconst 1, 1) := by decide +kernel
theorem dX8_takesNumber_84 : decode cX8_takesNumber 84 = .ok (.iadd, 1) := by decide +kernel
theorem dX8_takesNumber_85 : decode cX8_takesNumber 85 = .ok (.putfield 189, 3) := by decide +kernel
theorem dX8_takesNumber_88 : decode cX8_takesNumber 88 = .ok (.goto (-59), 3) := by decide +kernel
theorem dX8_takesNumber_91 : decode cX8_takesNumber 91 = .ok (.aload_n 0, 1) := by decide +kernel
theorem dX8_takesNumber_92 : decode cX8_takesNumber 92 = .ok (.getfield 189, 3) := by decide +kernel
theorem dX8_takesNumber_95 : decode cX8_takesNumber 95 = .ok (.iload_n 2, 1) := by decide +kernel
theorem dX8_takesNumber_96 : decode cX8_takesNumber 96 = .ok (.if_icmp .le 18, 3) := by decide +kernel
theorem dX8_takesNumber_99 : decode cX8_takesNumber 99 = .ok (.aload_n 0, 1) := by decide +kernel
theorem dX8_takesNumber_100 : decode cX8_takesNumber 100 = .ok (.bipush 48, 2) := by decide +kernel
theorem dX8_takesNumber_102 : decode cX8_takesNumber 102 = .ok (.bipush 57, 2) := by decide +kernel
theorem dX8_takesNumber_104 : decode cX8_takesNumber 104 = .ok (.invokevirtual 192, 3) := by decide +kernel
theorem dX8_takesNumber_107 : decode cX8_takesNumber 107 = .ok (.ifCond .ne 7, 3) := by decide +kernel
theorem dX8_takesNumber_110 : decode cX8_takesNumber 110 = .ok (.iconst 1, 1) := by decide +kernel
theorem dX8_takesNumber_111 : decode cX8_takesNumber 111 = .ok (.goto 4, 3) := by decide +kernel
theorem dX8_takesNumber_114 : decode cX8_takesNumber 114 = .ok (.iconst 0, 1) := by decide +kernel
theorem dX8_takesNumber_115 : decode cX8_takesNumber 115 = .ok (.ireturn, 1) := by decide +kernel
theorem dX8_takesCommand_0 : decode cX8_takesCommand 0 = .ok (.aload_n 0, 1) := by decide +kernel
theorem dX8_takesCommand_1 : decode cX8_takesCommand 1 = .ok (.getfield 189, 3) := by decide +kernel
theorem dX8_takesCommand_4 : decode cX8_takesCommand 4 = .ok (.istore_n 1, 1) := by decide +kernel
theorem dX8_takesCommand_5 : decode cX8_takesCommand 5 = .ok (.iconst 0, 1) := by decide +kernel
theorem dX8_takesCommand_6 : decode cX8_takesCommand 6 = .ok (.istore_n 2, 1) := by decide +kernel
theorem dX8_takesCommand_7 : decode cX8_takesCommand 7 = .ok (.aload_n 0, 1) := by decide +kernel
theorem dX8_takesCommand_8 : decode cX8_takesCommand 8 = .ok (.bipush 97, 2) := by decide +kernel
theorem dX8_takesCommand_10 : decode cX8_takesCommand 10 = .ok (.bipush 122, 2) := by decide +kernel
theorem dX8_takesCommand_12 : decode cX8_takesCommand 12 = .ok (.invokevirtual 192, 3) := by decide +kernel
theorem dX8_takesCommand_15 : decode cX8_takesCommand 15 = .ok (.ifCond .eq 49, 3) := by decide +kernel
theorem dX8_takesCommand_18 : decode cX8_takesCommand 18 = .ok (.aload_n 0, 1) := by decide +kernel
theorem dX8_takesCommand_19 : decode cX8_takesCommand 19 = .ok (.getfield 189, 3) := by decide +kernel
theorem dX8_takesCommand_22 : decode cX8_takesCommand 22 = .ok (.iload_n 1, 1) := by decide +kernel
theorem dX8_takesCommand_23 : decode cX8_takesCommand 23 = .ok (.isub, 1) := by decide +kernel
theorem dX8_takesCommand_24 : decode cX8_takesCommand 24 = .ok (.bipush 6, 2) := by decide +kernel
theorem dX8_takesCommand_26 : decode cX8_takesCommand 26 = .ok (.if_icmp .ge 23, 3) := by decide +kernel
theorem dX8_takesCommand_29 : decode cX8_takesCommand 29 = .ok (.bipush 32, 2) := by decide +kernel
theorem dX8_takesCommand_31 : decode cX8_takesCommand 31 = .ok (.iload_n 2, 1) := by decide +kernel
theorem dX8_takesCommand_32 : decode cX8_takesCommand 32 = .ok (.imul, 1) := by decide +kernel
theorem dX8_takesCommand_33 : decode cX8_takesCommand 33 = .ok (.aload_n 0, 1) := by decide +kernel
theorem dX8_takesCommand_34 : decode cX8_takesCommand 34 = .ok (.getfield 22, 3) := by decide +kernel
theorem dX8_takesCommand_37 : decode cX8_takesCommand 37 = .ok (.aload_n 0, 1) := by decide +kernel
theorem dX8_takesCommand_38 : decode cX8_takesCommand 38 = .ok (.getfield 189, 3) := by decide +kernel
theorem dX8_takesCommand_41 : decode cX8_takesCommand 41 = .ok (.iaload, 1) := by decide +kernel
theorem dX8_takesCommand_42 : decode cX8_takesCommand 42 = .ok (.iadd, 1) := by decide +kernel
theorem dX8_takesCommand_43 : decode cX8_takesCommand 43 = .ok (.bipush 96, 2) := by decide +kernel
theorem dX8_takesCommand_45 : decode cX8_takesCommand 45 = .ok (.isub, 1) := by decide +kernel
theorem dX8_takesCommand_46 : decode cX8_takesCommand 46 = .ok (.goto 4, 3) := by decide +kernel
theorem dX8_takesCommand_49 : decode cX8_takesCommand 49 = .ok (.iconst 0, 1) := by decide +kernel
theorem dX8_takesCommand_50 : decode cX8_takesCommand 50 = .ok (.istore_n 2, 1) := by decide +kernel
theorem dX8_takesCommand_51 : decode cX8_takesCommand 51 = .ok (.aload_n 0, 1) := by decide +kernel
theorem dX8_takesCommand_52 : decode cX8_takesCommand 52 = .ok (.dup, 1) := by decide +kernel
theorem dX8_takesCommand_53 : decode cX8_takesCommand 53 = .ok (.getfield 189, 3) := by decide +kernel
theorem dX8_takesCommand_56 : decode cX8_takesCommand 56 = .ok (.iconst 1, 1) := by decide +kernel
theorem dX8_takesCommand_57 : decode cX8_takesCommand 57 = .ok (.iadd, 1) := by decide +kernel
theorem dX8_takesCommand_58 : decode cX8_takesCommand 58 = .ok (.putfield 189, 3) := by decide +kernel
theorem dX8_takesCommand_61 : decode cX8_takesCommand 61 = .ok (.goto (-54), 3) := by decide +kernel
theorem dX8_takesCommand_64 : decode cX8_takesCommand 64 = .ok (.aload_n 0, 1) := by decide +kernel
theorem dX8_takesCommand_65 : decode cX8_takesCommand 65 = .ok (.aload_n 0, 1) := by decide +kernel
theorem dX8_takesCommand_66 : decode cX8_takesCommand 66 = .ok (.getfield 189, 3) := by decide +kernel
theorem dX8_takesCommand_69 : decode cX8_takesCommand 69 = .ok (.iload_n 1, 1) := by decide +kernel
theorem dX8_takesCommand_70 : decode cX8_takesCommand 70 = .ok (.isub, 1) := by decide +kernel
theorem dX8_takesCommand_71 : decode cX8_takesCommand 71 = .ok (.iconst 5, 1) := by decide +kernel
theorem dX8_takesCommand_72 : decode cX8_takesCommand 72 = .ok (.if_icmp .le 7, 3) := by decide +kernel
theorem dX8_takesCommand_75 : decode cX8_takesCommand 75 = .ok (.iconst (-1), 1) := by decide +kernel
theorem dX8_takesCommand_76 : decode cX8_takesCommand 76 = .ok (.goto 7, 3) := by decide +kernel
theorem dX8_takesCommand_79 : decode cX8_takesCommand 79 = .ok (.iload_n 2, 1) := by decide +kernel
theorem dX8_takesCommand_80 : decode cX8_takesCommand 80 = .ok (.invokestatic 200, 3) := by decide +kernel
theorem dX8_takesCommand_83 : decode cX8_takesCommand 83 = .ok (.putfield 203, 3) := by decide +kernel
theorem dX8_takesCommand_86 : decode cX8_takesCommand 86 = .ok (.aload_n 0, 1) := by decide +kernel
theorem dX8_takesCommand_87 : decode cX8_takesCommand 87 = .ok (.getfield 203, 3) := by decide +kernel
theorem dX8_takesCommand_90 : decode cX8_takesCommand 90 = .ok (.iconst (-1), 1) := by decide +kernel
theorem dX8_takesCommand_91 : decode cX8_takesCommand 91 = .ok (.if_icmp .ne 10, 3) := by decide +kernel
theorem dX8_takesCommand_94 : decode cX8_takesCommand 94 = .ok (.aload_n 0, 1) := by decide +kernel
theorem dX8_takesCommand_95 : decode cX8_takesCommand 95 = .ok (.iload_n 1, 1) := by decide +kernel
theorem dX8_takesCommand_96 : decode cX8_takesCommand 96 = .ok (.putfield 189, 3) := by decide +kernel
theorem dX8_takesCommand_99 : decode cX8_takesCommand 99 = .ok (.iconst 0, 1) := by decide +kernel
theorem dX8_takesCommand_100 : decode cX8_takesCommand 100 = .ok (.ireturn, 1) := by decide +kernel
theorem dX8_takesCommand_101 : decode cX8_takesCommand 101 = .ok (.aload_n 0, 1) := by decide +kernel
theorem dX8_takesCommand_102 : decode cX8_takesCommand 102 = .ok (.getfield 203, 3) := by decide +kernel
theorem dX8_takesCommand_105 : decode cX8_takesCommand 105 = .ok (.iconst 2, 1) := by decide +kernel
theorem dX8_takesCommand_106 : decode cX8_takesCommand 106 = .ok (.if_icmp .ge 7, 3) := by decide +kernel
theorem dX8_takesCommand_109 : decode cX8_takesCommand 109 = .ok (.iconst 3, 1) := by decide +kernel
theorem dX8_takesCommand_110 : decode cX8_takesCommand 110 = .ok (.goto 16, 3) := by decide +kernel
theorem dX8_takesCommand_113 : decode cX8_takesCommand 113 = .ok (.aload_n 0, 1) := by decide +kernel
theorem dX8_takesCommand_114 : decode cX8_takesCommand 114 = .ok (.getfield 203, 3) := by decide +kernel
theorem dX8_takesCommand_117 : decode cX8_takesCommand 117 = .ok (.iconst 5, 1) := by decide +kernel
theorem dX8_takesCommand_118 : decode cX8_takesCommand 118 = .ok (.if_icmp .ge 7, 3) := by decide +kernel
theorem dX8_takesCommand_121 : decode cX8_takesCommand 121 = .ok (.iconst 2, 1) := by decide +kernel
theorem dX8_takesCommand_122 : decode cX8_takesCommand 122 = .ok (.goto 4, 3) := by decide +kernel
theorem dX8_takesCommand_125 : decode cX8_takesCommand 125 = .ok (.iconst 1, 1) := by decide +kernel
theorem dX8_takesCommand_126 : decode cX8_takesCommand 126 = .ok (.istore_n 3, 1) := by decide +kernel
theorem dX8_takesCommand_127 : decode cX8_takesCommand 127 = .ok (.iconst 0, 1) := by decide +kernel
theorem dX8_takesCommand_128 : decode cX8_takesCommand 128 = .ok (.istore 4, 2) := by decide +kernel
theorem dX8_takesCommand_130 : decode cX8_takesCommand 130 = .ok (.iload 4, 2) := by decide +kernel
theorem dX8_takesCommand_132 : decode cX8_takesCommand 132 = .ok (.iload_n 3, 1) := by decide +kernel
theorem dX8_takesCommand_133 : decode cX8_takesCommand 133 = .ok (.if_icmp .ge 20, 3) := by decide +kernel
theorem dX8_takesCommand_136 : decode cX8_takesCommand 136 = .ok (.aload_n 0, 1) := by decide +kernel
theorem dX8_takesCommand_137 : decode cX8_takesCommand 137 = .ok (.iload 4, 2) := by decide +kernel
theorem dX8_takesCommand_139 : decode cX8_takesCommand 139 = .ok (.invokevirtual 206, 3) := by decide +kernel
theorem dX8_takesCommand_142 : decode cX8_takesCommand 142 = .ok (.ifCond .ne 5, 3) := by decide +kernel
theorem dX8_takesCommand_145 : decode cX8_takesCommand 145 = .ok (.iconst 0, 1) := by decide +kernel
theorem dX8_takesCommand_146 : decode cX8_takesCommand 146 = .ok (.ireturn, 1) := by decide +kernel
theorem dX8_takesCommand_147 : decode cX8_takesCommand 147 = .ok (.iinc 4 1, 3) := by decide +kernel
theorem dX8_takesCommand_150 : decode cX8_takesCommand 150 = .ok (.goto (-20), 3) := by decide +kernel
theorem dX8_takesCommand_153 : decode cX8_takesCommand 153 = .ok (.aload_n 0, 1) := by decide +kernel
theorem dX8_takesCommand_154 : decode cX8_takesCommand 154 = .ok (.invokevirtual 197, 3) := by decide +kernel
theorem dX8_takesCommand_157 : decode cX8_takesCommand 157 = .ok (.aload_n 0, 1) := by decide +kernel
theorem dX8_takesCommand_158 : decode cX8_takesCommand 158 = .ok (.bipush 59, 2) := by decide +kernel
theorem dX8_takesCommand_160 : decode cX8_takesCommand 160 = .ok (.bipush 59, 2) := by decide +kernel
theorem dX8_takesCommand_162 : decode cX8_takesCommand 162 = .ok (.invokevirtual 192, 3) := by decide +kernel
theorem dX8_takesCommand_165 : decode cX8_takesCommand 165 = .ok (.ifCond .ne 5, 3) := by decide +kernel
theorem dX8_takesCommand_168 : decode cX8_takesCommand 168 = .ok (.iconst 0, 1) := by decide +kernel
theorem dX8_takesCommand_169 : decode cX8_takesCommand 169 = .ok (.ireturn, 1) := by decide +kernel
theorem dX8_takesCommand_170 : decode cX8_takesCommand 170 = .ok (.aload_n 0, 1) := by decide +kernel
theorem dX8_takesCommand_171 : decode cX8_takesCommand 171 = .ok (.dup, 1) := by decide +kernel
theorem dX8_takesCommand_172 : decode cX8_takesCommand 172 = .ok (.getfield 189, 3) := by decide +kernel
theorem dX8_takesCommand_175 : decode cX8_takesCommand 175 = .ok (.iconst 1, 1) := by decide +kernel
theorem dX8_takesCommand_176 : decode cX8_takesCommand 176 = .ok (.iadd, 1) := by decide +kernel
theorem dX8_takesCommand_177 : decode cX8_takesCommand 177 = .ok (.putfield 189, 3) := by decide +kernel
theorem dX8_takesCommand_180 : decode cX8_takesCommand 180 = .ok (.aload_n 0, 1) := by decide +kernel
theorem dX8_takesCommand_181 : decode cX8_takesCommand 181 = .ok (.invokevirtual 197, 3) := by decide +kernel
theorem dX8_takesCommand_184 : decode cX8_takesCommand 184 = .ok (.iconst 1, 1) := by decide +kernel
theorem dX8_takesCommand_185 : decode cX8_takesCommand 185 = .ok (.ireturn, 1) := by decide +kernel
theorem dX8_carriesOut_0 : decode cX8_carriesOut 0 = .ok (.aload_n 0, 1) := by decide +kernel
theorem dX8_carriesOut_1 : decode cX8_carriesOut 1 = .ok (.getfield 25, 3) := by decide +kernel
theorem dX8_carriesOut_4 : decode cX8_carriesOut 4 = .ok (.iconst 0, 1) := by decide +kernel
theorem dX8_carriesOut_5 : decode cX8_carriesOut 5 = .ok (.iaload, 1) := by decide +kernel
theorem dX8_carriesOut_6 : decode cX8_carriesOut 6 = .ok (.istore_n 1, 1) := by decide +kernel
theorem dX8_carriesOut_7 : decode cX8_carriesOut 7 = .ok (.aload_n 0, 1) := by decide +kernel
theorem dX8_carriesOut_8 : decode cX8_carriesOut 8 = .ok (.getfield 25, 3) := by decide +kernel
theorem dX8_carriesOut_11 : decode cX8_carriesOut 11 = .ok (.iconst 1, 1) := by decide +kernel
theorem dX8_carriesOut_12 : decode cX8_carriesOut 12 = .ok (.iaload, 1) := by decide +kernel
theorem dX8_carriesOut_13 : decode cX8_carriesOut 13 = .ok (.istore_n 2, 1) := by decide +kernel
theorem dX8_carriesOut_14 : decode cX8_carriesOut 14 = .ok (.aload_n 0, 1) := by decide +kernel
theorem dX8_carriesOut_15 : decode cX8_carriesOut 15 = .ok (.getfield 25, 3) := by decide +kernel
theorem dX8_carriesOut_18 : decode cX8_carriesOut 18 = .ok (.iconst 2, 1) := by decide +kernel
theorem dX8_carriesOut_19 : decode cX8_carriesOut 19 = .ok (.iaload, 1) := by decide +kernel
theorem dX8_carriesOut_20 : decode cX8_carriesOut 20 = .ok (.istore_n 3, 1) := by decide +kernel
theorem dX8_carriesOut_21 : decode cX8_carriesOut 21 = .ok (.aload_n 0, 1) := by decide +kernel
theorem dX8_carriesOut_22 : decode cX8_carriesOut 22 = .ok (.getfield 203, 3) := by decide +kernel
theorem dX8_carriesOut_25 : decode cX8_carriesOut 25 = .ok (.tableswitch 83 0 5 #[39, 47, 55, 62, 70, 77], 39) := by decide +kernel
theorem dX8_carriesOut_64 : decode cX8_carriesOut 64 = .ok (.aload_n 0, 1) := by decide +kernel
theorem dX8_carriesOut_65 : decode cX8_carriesOut 65 = .ok (.iload_n 1, 1) := by decide +kernel
theorem dX8_carriesOut_66 : decode cX8_carriesOut 66 = .ok (.iload_n 2, 1) := by decide +kernel
theorem dX8_carriesOut_67 : decode cX8_carriesOut 67 = .ok (.iload_n 3, 1) := by decide +kernel
theorem dX8_carriesOut_68 : decode cX8_carriesOut 68 = .ok (.invokevirtual 129, 3) := by decide +kernel
theorem dX8_carriesOut_71 : decode cX8_carriesOut 71 = .ok (.ireturn, 1) := by decide +kernel
theorem dX8_carriesOut_72 : decode cX8_carriesOut 72 = .ok (.aload_n 0, 1) := by decide +kernel
theorem dX8_carriesOut_73 : decode cX8_carriesOut 73 = .ok (.iload_n 1, 1) := by decide +kernel
theorem dX8_carriesOut_74 : decode cX8_carriesOut 74 = .ok (.iload_n 2, 1) := by decide +kernel
theorem dX8_carriesOut_75 : decode cX8_carriesOut 75 = .ok (.iload_n 3, 1) := by decide +kernel
theorem dX8_carriesOut_76 : decode cX8_carriesOut 76 = .ok (.invokevirtual 144, 3) := by decide +kernel
theorem dX8_carriesOut_79 : decode cX8_carriesOut 79 = .ok (.ireturn, 1) := by decide +kernel
theorem dX8_carriesOut_80 : decode cX8_carriesOut 80 = .ok (.aload_n 0, 1) := by decide +kernel
theorem dX8_carriesOut_81 : decode cX8_carriesOut 81 = .ok (.iload_n 1, 1) := by decide +kernel
theorem dX8_carriesOut_82 : decode cX8_carriesOut 82 = .ok (.iload_n 2, 1) := by decide +kernel
theorem dX8_carriesOut_83 : decode cX8_carriesOut 83 = .ok (.invokevirtual 135, 3) := by decide +kernel
theorem dX8_carriesOut_86 : decode cX8_carriesOut 86 = .ok (.ireturn, 1) := by decide +kernel
theorem dX8_carriesOut_87 : decode cX8_carriesOut 87 = .ok (.aload_n 0, 1) := by decide +kernel
theorem dX8_carriesOut_88 : decode cX8_carriesOut 88 = .ok (.iload_n 1, 1) := by decide +kernel
theorem dX8_carriesOut_89 : decode cX8_carriesOut 89 = .ok (.iload_n 2, 1) := by decide +kernel
theorem dX8_carriesOut_90 : decode cX8_carriesOut 90 = .ok (.iconst 0, 1) := by decide +kernel
theorem dX8_carriesOut_91 : decode cX8_carriesOut 91 = .ok (.invokevirtual 144, 3) := by decide +kernel
theorem dX8_carriesOut_94 : decode cX8_carriesOut 94 = .ok (.ireturn, 1) := by decide +kernel
theorem dX8_carriesOut_95 : decode cX8_carriesOut 95 = .ok (.aload_n 0, 1) := by decide +kernel
theorem dX8_carriesOut_96 : decode cX8_carriesOut 96 = .ok (.iload_n 1, 1) := by decide +kernel
theorem dX8_carriesOut_97 : decode cX8_carriesOut 97 = .ok (.iload_n 2, 1) := by decide +kernel
theorem dX8_carriesOut_98 : decode cX8_carriesOut 98 = .ok (.invokevirtual 141, 3) := by decide +kernel
theorem dX8_carriesOut_101 : decode cX8_carriesOut 101 = .ok (.ireturn, 1) := by decide +kernel
theorem dX8_carriesOut_102 : decode cX8_carriesOut 102 = .ok (.aload_n 0, 1) := by decide +kernel
theorem dX8_carriesOut_103 : decode cX8_carriesOut 103 = .ok (.iload_n 1, 1) := by decide +kernel
theorem dX8_carriesOut_104 : decode cX8_carriesOut 104 = .ok (.invokevirtual 138, 3) := by decide +kernel
theorem dX8_carriesOut_107 : decode cX8_carriesOut 107 = .ok (.ireturn, 1) := by decide +kernel
theorem dX8_carriesOut_108 : decode cX8_carriesOut 108 = .ok (.aload_n 0, 1) := by decide +kernel
theorem dX8_carriesOut_109 : decode cX8_carriesOut 109 = .ok (.iload_n 1, 1) := by decide +kernel
theorem dX8_carriesOut_110 : decode cX8_carriesOut 110 = .ok (.invokevirtual 147, 3) := by decide +kernel
theorem dX8_carriesOut_113 : decode cX8_carriesOut 113 = .ok (.ireturn, 1) := by decide +kernel
theorem dX8_runCommands_0 : decode cX8_runCommands 0 = .ok (.aload_n 0, 1) := by decide +kernel
theorem dX8_runCommands_1 : decode cX8_runCommands 1 = .ok (.iconst 0, 1) := by decide +kernel
theorem dX8_runCommands_2 : decode cX8_runCommands 2 = .ok (.putfield 189, 3) := by decide +kernel
theorem dX8_runCommands_5 : decode cX8_runCommands 5 = .ok (.aload_n 0, 1) := by decide +kernel
theorem dX8_runCommands_6 : decode cX8_runCommands 6 = .ok (.invokevirtual 197, 3) := by decide +kernel
theorem dX8_runCommands_9 : decode cX8_runCommands 9 = .ok (.aload_n 0, 1) := by decide +kernel
theorem dX8_runCommands_10 : decode cX8_runCommands 10 = .ok (.getfield 189, 3) := by decide +kernel
theorem dX8_runCommands_13 : decode cX8_runCommands 13 = .ok (.aload_n 0, 1) := by decide +kernel
theorem dX8_runCommands_14 : decode cX8_runCommands 14 = .ok (.getfield 171, 3) := by decide +kernel
theorem dX8_runCommands_17 : decode cX8_runCommands 17 = .ok (.if_icmp .ge 22, 3) := by decide +kernel
theorem dX8_runCommands_20 : decode cX8_runCommands 20 = .ok (.aload_n 0, 1) := by decide +kernel
theorem dX8_runCommands_21 : decode cX8_runCommands 21 = .ok (.invokevirtual 209, 3) := by decide +kernel
theorem dX8_runCommands_24 : decode cX8_runCommands 24 = .ok (.ifCond .ne (-15), 3) := by decide +kernel
theorem dX8_runCommands_27 : decode cX8_runCommands 27 = .ok (.aload_n 0, 1) := by decide +kernel
theorem dX8_runCommands_28 : decode cX8_runCommands 28 = .ok (.bipush (-10), 2) := by decide +kernel
theorem dX8_runCommands_30 : decode cX8_runCommands 30 = .ok (.aload_n 0, 1) := by decide +kernel
theorem dX8_runCommands_31 : decode cX8_runCommands 31 = .ok (.getfield 189, 3) := by decide +kernel
theorem dX8_runCommands_34 : decode cX8_runCommands 34 = .ok (.isub, 1) := by decide +kernel
theorem dX8_runCommands_35 : decode cX8_runCommands 35 = .ok (.invokevirtual 45, 3) := by decide +kernel
theorem dX8_runCommands_38 : decode cX8_runCommands 38 = .ok (.ireturn, 1) := by decide +kernel
theorem dX8_runCommands_39 : decode cX8_runCommands 39 = .ok (.aload_n 0, 1) := by decide +kernel
theorem dX8_runCommands_40 : decode cX8_runCommands 40 = .ok (.invokevirtual 126, 3) := by decide +kernel
theorem dX8_runCommands_43 : decode cX8_runCommands 43 = .ok (.aload_n 0, 1) := by decide +kernel
theorem dX8_runCommands_44 : decode cX8_runCommands 44 = .ok (.iconst 0, 1) := by decide +kernel
theorem dX8_runCommands_45 : decode cX8_runCommands 45 = .ok (.putfield 189, 3) := by decide +kernel
theorem dX8_runCommands_48 : decode cX8_runCommands 48 = .ok (.aload_n 0, 1) := by decide +kernel
theorem dX8_runCommands_49 : decode cX8_runCommands 49 = .ok (.invokevirtual 197, 3) := by decide +kernel
theorem dX8_runCommands_52 : decode cX8_runCommands 52 = .ok (.iconst 0, 1) := by decide +kernel
theorem dX8_runCommands_53 : decode cX8_runCommands 53 = .ok (.istore_n 1, 1) := by decide +kernel
theorem dX8_runCommands_54 : decode cX8_runCommands 54 = .ok (.iconst 1, 1) := by decide +kernel
theorem dX8_runCommands_55 : decode cX8_runCommands 55 = .ok (.istore_n 2, 1) := by decide +kernel
theorem dX8_runCommands_56 : decode cX8_runCommands 56 = .ok (.iload_n 2, 1) := by decide +kernel
theorem dX8_runCommands_57 : decode cX8_runCommands 57 = .ok (.ifCond .eq 49, 3) := by decide +kernel
theorem dX8_runCommands_60 : decode cX8_runCommands 60 = .ok (.aload_n 0, 1) := by decide +kernel
theorem dX8_runCommands_61 : decode cX8_runCommands 61 = .ok (.getfield 189, 3) := by decide +kernel
theorem dX8_runCommands_64 : decode cX8_runCommands 64 = .ok (.aload_n 0, 1) := by decide +kernel
theorem dX8_runCommands_65 : decode cX8_runCommands 65 = .ok (.getfield 171, 3) := by decide +kernel
theorem dX8_runCommands_68 : decode cX8_runCommands 68 = .ok (.if_icmp .ge 38, 3) := by decide +kernel
theorem dX8_runCommands_71 : decode cX8_runCommands 71 = .ok (.aload_n 0, 1) := by decide +kernel
theorem dX8_runCommands_72 : decode cX8_runCommands 72 = .ok (.invokevirtual 209, 3) := by decide +kernel
theorem dX8_runCommands_75 : decode cX8_runCommands 75 = .ok (.ifCond .eq 14, 3) := by decide +kernel
theorem dX8_runCommands_78 : decode cX8_runCommands 78 = .ok (.aload_n 0, 1) := by decide +kernel
theorem dX8_runCommands_79 : decode cX8_runCommands 79 = .ok (.invokevirtual 213, 3) := by decide +kernel
theorem dX8_runCommands_82 : decode cX8_runCommands 82 = .ok (.ifCond .ne 7, 3) := by decide +kernel
theorem dX8_runCommands_85 : decode cX8_runCommands 85 = .ok (.iconst 1, 1) := by decide +kernel
theorem dX8_runCommands_86 : decode cX8_runCommands 86 = .ok (.goto 4, 3) := by decide +kernel
theorem dX8_runCommands_89 : decode cX8_runCommands 89 = .ok (.iconst 0, 1) := by decide +kernel
theorem dX8_runCommands_90 : decode cX8_runCommands 90 = .ok (.istore_n 2, 1) := by decide +kernel
theorem dX8_runCommands_91 : decode cX8_runCommands 91 = .ok (.iload_n 1, 1) := by decide +kernel
theorem dX8_runCommands_92 : decode cX8_runCommands 92 = .ok (.iload_n 2, 1) := by decide +kernel
theorem dX8_runCommands_93 : decode cX8_runCommands 93 = .ok (.ifCond .eq 7, 3) := by decide +kernel
theorem dX8_runCommands_96 : decode cX8_runCommands 96 = .ok (.iconst 1, 1) := by decide +kernel
theorem dX8_runCommands_97 : decode cX8_runCommands 97 = .ok (.goto 4, 3) := by decide +kernel
theorem dX8_runCommands_100 : decode cX8_runCommands 100 = .ok (.iconst 0, 1) := by decide +kernel
theorem dX8_runCommands_101 : decode cX8_runCommands 101 = .ok (.iadd, 1) := by decide +kernel
theorem dX8_runCommands_102 : decode cX8_runCommands 102 = .ok (.istore_n 1, 1) := by decide +kernel
theorem dX8_runCommands_103 : decode cX8_runCommands 103 = .ok (.goto (-47), 3) := by decide +kernel
theorem dX8_runCommands_106 : decode cX8_runCommands 106 = .ok (.aload_n 0, 1) := by decide +kernel
theorem dX8_runCommands_107 : decode cX8_runCommands 107 = .ok (.iload_n 1, 1) := by decide +kernel
theorem dX8_runCommands_108 : decode cX8_runCommands 108 = .ok (.iconst 0, 1) := by decide +kernel
theorem dX8_runCommands_109 : decode cX8_runCommands 109 = .ok (.invokevirtual 132, 3) := by decide +kernel
theorem dX8_runCommands_112 : decode cX8_runCommands 112 = .ok (.ireturn, 1) := by decide +kernel
theorem dX8_undo_0 : decode cX8_undo 0 = .ok (.aload_n 0, 1) := by decide +kernel
theorem dX8_undo_1 : decode cX8_undo 1 = .ok (.getfield 32, 3) := by decide +kernel
theorem dX8_undo_4 : decode cX8_undo 4 = .ok (.ifCond .ne 9, 3) := by decide +kernel
theorem dX8_undo_7 : decode cX8_undo 7 = .ok (.aload_n 0, 1) := by decide +kernel
theorem dX8_undo_8 : decode cX8_undo 8 = .ok (.iconst 1, 1) := by decide +kernel
theorem dX8_undo_9 : decode cX8_undo 9 = .ok (.invokevirtual 38, 3) := by decide +kernel
theorem dX8_undo_12 : decode cX8_undo 12 = .ok (.ireturn, 1) := by decide +kernel
theorem dX8_undo_13 : decode cX8_undo 13 = .ok (.aload_n 0, 1) := by decide +kernel
theorem dX8_undo_14 : decode cX8_undo 14 = .ok (.dup, 1) := by decide +kernel
theorem dX8_undo_15 : decode cX8_undo 15 = .ok (.getfield 32, 3) := by decide +kernel
theorem dX8_undo_18 : decode cX8_undo 18 = .ok (.iconst 1, 1) := by decide +kernel
theorem dX8_undo_19 : decode cX8_undo 19 = .ok (.isub, 1) := by decide +kernel
theorem dX8_undo_20 : decode cX8_undo 20 = .ok (.putfield 32, 3) := by decide +kernel
theorem dX8_undo_23 : decode cX8_undo 23 = .ok (.iconst 0, 1) := by decide +kernel
theorem dX8_undo_24 : decode cX8_undo 24 = .ok (.istore_n 1, 1) := by decide +kernel
theorem dX8_undo_25 : decode cX8_undo 25 = .ok (.iload_n 1, 1) := by decide +kernel
theorem dX8_undo_26 : decode cX8_undo 26 = .ok (.sipush 816, 3) := by decide +kernel
theorem dX8_undo_29 : decode cX8_undo 29 = .ok (.if_icmp .ge 30, 3) := by decide +kernel
theorem dX8_undo_32 : decode cX8_undo 32 = .ok (.aload_n 0, 1) := by decide +kernel
theorem dX8_undo_33 : decode cX8_undo 33 = .ok (.getfield 7, 3) := by decide +kernel
theorem dX8_undo_36 : decode cX8_undo 36 = .ok (.iload_n 1, 1) := by decide +kernel
theorem dX8_undo_37 : decode cX8_undo 37 = .ok (.aload_n 0, 1) := by decide +kernel
theorem dX8_undo_38 : decode cX8_undo 38 = .ok (.getfield 13, 3) := by decide +kernel
theorem dX8_undo_41 : decode cX8_undo 41 = .ok (.sipush 816, 3) := by decide +kernel
theorem dX8_undo_44 : decode cX8_undo 44 = .ok (.aload_n 0, 1) := by decide +kernel
theorem dX8_undo_45 : decode cX8_undo 45 = .ok (.getfield 32, 3) := by decide +kernel
theorem dX8_undo_48 : decode cX8_undo 48 = .ok (.imul, 1) := by decide +kernel
theorem dX8_undo_49 : decode cX8_undo 49 = .ok (.iload_n 1, 1) := by decide +kernel
theorem dX8_undo_50 : decode cX8_undo 50 = .ok (.iadd, 1) := by decide +kernel
theorem dX8_undo_51 : decode cX8_undo 51 = .ok (.iaload, 1) := by decide +kernel
theorem dX8_undo_52 : decode cX8_undo 52 = .ok (.iastore, 1) := by decide +kernel
theorem dX8_undo_53 : decode cX8_undo 53 = .ok (.iinc 1 1, 3) := by decide +kernel
theorem dX8_undo_56 : decode cX8_undo 56 = .ok (.goto (-31), 3) := by decide +kernel
theorem dX8_undo_59 : decode cX8_undo 59 = .ok (.aload_n 0, 1) := by decide +kernel
theorem dX8_undo_60 : decode cX8_undo 60 = .ok (.aload_n 0, 1) := by decide +kernel
theorem dX8_undo_61 : decode cX8_undo 61 = .ok (.getfield 32, 3) := by decide +kernel
theorem dX8_undo_64 : decode cX8_undo 64 = .ok (.invokevirtual 45, 3) := by decide +kernel
theorem dX8_undo_67 : decode cX8_undo 67 = .ok (.ireturn, 1) := by decide +kernel
theorem dX8_mix_0 : decode cX8_mix 0 = .ok (.aload_n 0, 1) := by decide +kernel
theorem dX8_mix_1 : decode cX8_mix 1 = .ok (.ldc2_w 216, 3) := by decide +kernel
theorem dX8_mix_4 : decode cX8_mix 4 = .ok (.aload_n 0, 1) := by decide +kernel
theorem dX8_mix_5 : decode cX8_mix 5 = .ok (.getfield 218, 3) := by decide +kernel
theorem dX8_mix_8 : decode cX8_mix 8 = .ok (.lmul, 1) := by decide +kernel
theorem dX8_mix_9 : decode cX8_mix 9 = .ok (.iload_n 1, 1) := by decide +kernel
theorem dX8_mix_10 : decode cX8_mix 10 = .ok (.i2l, 1) := by decide +kernel
theorem dX8_mix_11 : decode cX8_mix 11 = .ok (.ladd, 1) := by decide +kernel
theorem dX8_mix_12 : decode cX8_mix 12 = .ok (.putfield 218, 3) := by decide +kernel
theorem dX8_mix_15 : decode cX8_mix 15 = .ok (.return_, 1) := by decide +kernel
theorem dX8_mixOne_0 : decode cX8_mixOne 0 = .ok (.iconst 0, 1) := by decide +kernel
theorem dX8_mixOne_1 : decode cX8_mixOne 1 = .ok (.istore_n 2, 1) := by decide +kernel
theorem dX8_mixOne_2 : decode cX8_mixOne 2 = .ok (.iload_n 2, 1) := by decide +kernel
theorem dX8_mixOne_3 : decode cX8_mixOne 3 = .ok (.bipush 12, 2) := by decide +kernel
theorem dX8_mixOne_5 : decode cX8_mixOne 5 = .ok (.if_icmp .ge 19, 3) := by decide +kernel
theorem dX8_mixOne_8 : decode cX8_mixOne 8 = .ok (.aload_n 0, 1) := by decide +kernel
theorem dX8_mixOne_9 : decode cX8_mixOne 9 = .ok (.aload_n 0, 1) := by decide +kernel
theorem dX8_mixOne_10 : decode cX8_mixOne 10 = .ok (.iload_n 1, 1) := by decide +kernel
theorem dX8_mixOne_11 : decode cX8_mixOne 11 = .ok (.iload_n 2, 1) := by decide +kernel
theorem dX8_mixOne_12 : decode cX8_mixOne 12 = .ok (.invokevirtual 156, 3) := by decide +kernel
theorem dX8_mixOne_15 : decode cX8_mixOne 15 = .ok (.invokevirtual 222, 3) := by decide +kernel
theorem dX8_mixOne_18 : decode cX8_mixOne 18 = .ok (.iinc 2 1, 3) := by decide +kernel
theorem dX8_mixOne_21 : decode cX8_mixOne 21 = .ok (.goto (-19), 3) := by decide +kernel
theorem dX8_mixOne_24 : decode cX8_mixOne 24 = .ok (.aload_n 0, 1) := by decide +kernel
theorem dX8_mixOne_25 : decode cX8_mixOne 25 = .ok (.iload_n 1, 1) := by decide +kernel
theorem dX8_mixOne_26 : decode cX8_mixOne 26 = .ok (.bipush 11, 2) := by decide +kernel
theorem dX8_mixOne_28 : decode cX8_mixOne 28 = .ok (.invokevirtual 56, 3) := by decide +kernel
theorem dX8_mixOne_31 : decode cX8_mixOne 31 = .ok (.iconst 1, 1) := by decide +kernel
theorem dX8_mixOne_32 : decode cX8_mixOne 32 = .ok (.isub, 1) := by decide +kernel
theorem dX8_mixOne_33 : decode cX8_mixOne 33 = .ok (.istore_n 2, 1) := by decide +kernel
theorem dX8_mixOne_34 : decode cX8_mixOne 34 = .ok (.iload_n 2, 1) := by decide +kernel
theorem dX8_mixOne_35 : decode cX8_mixOne 35 = .ok (.ifCond .lt 42, 3) := by decide +kernel
theorem dX8_mixOne_38 : decode cX8_mixOne 38 = .ok (.aload_n 0, 1) := by decide +kernel
theorem dX8_mixOne_39 : decode cX8_mixOne 39 = .ok (.aload_n 0, 1) := by decide +kernel
theorem dX8_mixOne_40 : decode cX8_mixOne 40 = .ok (.iload_n 1, 1) := by decide +kernel
theorem dX8_mixOne_41 : decode cX8_mixOne 41 = .ok (.iload_n 2, 1) := by decide +kernel
theorem dX8_mixOne_42 : decode cX8_mixOne 42 = .ok (.iconst 0, 1) := by decide +kernel
theorem dX8_mixOne_43 : decode cX8_mixOne 43 = .ok (.invokevirtual 66, 3) := by decide +kernel
theorem dX8_mixOne_46 : decode cX8_mixOne 46 = .ok (.invokevirtual 222, 3) := by decide +kernel
theorem dX8_mixOne_49 : decode cX8_mixOne 49 = .ok (.aload_n 0, 1) := by decide +kernel
theorem dX8_mixOne_50 : decode cX8_mixOne 50 = .ok (.aload_n 0, 1) := by decide +kernel
theorem dX8_mixOne_51 : decode cX8_mixOne 51 = .ok (.iload_n 1, 1) := by decide +kernel
theorem dX8_mixOne_52 : decode cX8_mixOne 52 = .ok (.iload_n 2, 1) := by decide +kernel
theorem dX8_mixOne_53 : decode cX8_mixOne 53 = .ok (.iconst 1, 1) := by decide +kernel
theorem dX8_mixOne_54 : decode cX8_mixOne 54 = .ok (.invokevirtual 66, 3) := by decide +kernel
theorem dX8_mixOne_57 : decode cX8_mixOne 57 = .ok (.invokevirtual 222, 3) := by decide +kernel
theorem dX8_mixOne_60 : decode cX8_mixOne 60 = .ok (.aload_n 0, 1) := by decide +kernel
theorem dX8_mixOne_61 : decode cX8_mixOne 61 = .ok (.aload_n 0, 1) := by decide +kernel
theorem dX8_mixOne_62 : decode cX8_mixOne 62 = .ok (.iload_n 1, 1) := by decide +kernel
theorem dX8_mixOne_63 : decode cX8_mixOne 63 = .ok (.iload_n 2, 1) := by decide +kernel
theorem dX8_mixOne_64 : decode cX8_mixOne 64 = .ok (.iconst 2, 1) := by decide +kernel
theorem dX8_mixOne_65 : decode cX8_mixOne 65 = .ok (.invokevirtual 66, 3) := by decide +kernel
theorem dX8_mixOne_68 : decode cX8_mixOne 68 = .ok (.invokevirtual 222, 3) := by decide +kernel
theorem dX8_mixOne_71 : decode cX8_mixOne 71 = .ok (.iinc 2 (-1), 3) := by decide +kernel
theorem dX8_mixOne_74 : decode cX8_mixOne 74 = .ok (.goto (-40), 3) := by decide +kernel
theorem dX8_mixOne_77 : decode cX8_mixOne 77 = .ok (.iconst 0, 1) := by decide +kernel
theorem dX8_mixOne_78 : decode cX8_mixOne 78 = .ok (.istore_n 2, 1) := by decide +kernel
theorem dX8_mixOne_79 : decode cX8_mixOne 79 = .ok (.iload_n 2, 1) := by decide +kernel
theorem dX8_mixOne_80 : decode cX8_mixOne 80 = .ok (.aload_n 0, 1) := by decide +kernel
theorem dX8_mixOne_81 : decode cX8_mixOne 81 = .ok (.iload_n 1, 1) := by decide +kernel
theorem dX8_mixOne_82 : decode cX8_mixOne 82 = .ok (.bipush 6, 2) := by decide +kernel
theorem dX8_mixOne_84 : decode cX8_mixOne 84 = .ok (.invokevirtual 56, 3) := by decide +kernel
theorem dX8_mixOne_87 : decode cX8_mixOne 87 = .ok (.if_icmp .ge 22, 3) := by decide +kernel
theorem dX8_mixOne_90 : decode cX8_mixOne 90 = .ok (.aload_n 0, 1) := by decide +kernel
theorem dX8_mixOne_91 : decode cX8_mixOne 91 = .ok (.aload_n 0, 1) := by decide +kernel
theorem dX8_mixOne_92 : decode cX8_mixOne 92 = .ok (.iload_n 1, 1) := by decide +kernel
theorem dX8_mixOne_93 : decode cX8_mixOne 93 = .ok (.bipush 12, 2) := by decide +kernel
theorem dX8_mixOne_95 : decode cX8_mixOne 95 = .ok (.iload_n 2, 1) := by decide +kernel
theorem dX8_mixOne_96 : decode cX8_mixOne 96 = .ok (.iadd, 1) := by decide +kernel
theorem dX8_mixOne_97 : decode cX8_mixOne 97 = .ok (.invokevirtual 56, 3) := by decide +kernel
theorem dX8_mixOne_100 : decode cX8_mixOne 100 = .ok (.invokevirtual 222, 3) := by decide +kernel
theorem dX8_mixOne_103 : decode cX8_mixOne 103 = .ok (.iinc 2 1, 3) := by decide +kernel
theorem dX8_mixOne_106 : decode cX8_mixOne 106 = .ok (.goto (-27), 3) := by decide +kernel
theorem dX8_mixOne_109 : decode cX8_mixOne 109 = .ok (.aload_n 0, 1) := by decide +kernel
theorem dX8_mixOne_110 : decode cX8_mixOne 110 = .ok (.aload_n 0, 1) := by decide +kernel
theorem dX8_mixOne_111 : decode cX8_mixOne 111 = .ok (.iload_n 1, 1) := by decide +kernel
theorem dX8_mixOne_112 : decode cX8_mixOne 112 = .ok (.invokevirtual 180, 3) := by decide +kernel
theorem dX8_mixOne_115 : decode cX8_mixOne 115 = .ok (.invokevirtual 222, 3) := by decide +kernel
theorem dX8_mixOne_118 : decode cX8_mixOne 118 = .ok (.aload_n 0, 1) := by decide +kernel
theorem dX8_mixOne_119 : decode cX8_mixOne 119 = .ok (.aload_n 0, 1) := by decide +kernel
theorem dX8_mixOne_120 : decode cX8_mixOne 120 = .ok (.iload_n 1, 1) := by decide +kernel
theorem dX8_mixOne_121 : decode cX8_mixOne 121 = .ok (.invokevirtual 183, 3) := by decide +kernel
theorem dX8_mixOne_124 : decode cX8_mixOne 124 = .ok (.invokevirtual 222, 3) := by decide +kernel
theorem dX8_mixOne_127 : decode cX8_mixOne 127 = .ok (.return_, 1) := by decide +kernel
theorem dX8_digest_0 : decode cX8_digest 0 = .ok (.aload_n 0, 1) := by decide +kernel
theorem dX8_digest_1 : decode cX8_digest 1 = .ok (.iconst 0, 1) := by decide +kernel
theorem dX8_digest_2 : decode cX8_digest 2 = .ok (.putfield 28, 3) := by decide +kernel
theorem dX8_digest_5 : decode cX8_digest 5 = .ok (.aload_n 0, 1) := by decide +kernel
theorem dX8_digest_6 : decode cX8_digest 6 = .ok (.ldc2_w 225, 3) := by decide +kernel
theorem dX8_digest_9 : decode cX8_digest 9 = .ok (.putfield 218, 3) := by decide +kernel
theorem dX8_digest_12 : decode cX8_digest 12 = .ok (.aload_n 0, 1) := by decide +kernel
theorem dX8_digest_13 : decode cX8_digest 13 = .ok (.aload_n 0, 1) := by decide +kernel
theorem dX8_digest_14 : decode cX8_digest 14 = .ok (.getfield 32, 3) := by decide +kernel
theorem dX8_digest_17 : decode cX8_digest 17 = .ok (.invokevirtual 222, 3) := by decide +kernel
theorem dX8_digest_20 : decode cX8_digest 20 = .ok (.iconst 0, 1) := by decide +kernel
theorem dX8_digest_21 : decode cX8_digest 21 = .ok (.istore_n 1, 1) := by decide +kernel
theorem dX8_digest_22 : decode cX8_digest 22 = .ok (.iload_n 1, 1) := by decide +kernel
theorem dX8_digest_23 : decode cX8_digest 23 = .ok (.bipush 14, 2) := by decide +kernel
theorem dX8_digest_25 : decode cX8_digest 25 = .ok (.if_icmp .ge 18, 3) := by decide +kernel
theorem dX8_digest_28 : decode cX8_digest 28 = .ok (.aload_n 0, 1) := by decide +kernel
theorem dX8_digest_29 : decode cX8_digest 29 = .ok (.aload_n 0, 1) := by decide +kernel
theorem dX8_digest_30 : decode cX8_digest 30 = .ok (.iload_n 1, 1) := by decide +kernel
theorem dX8_digest_31 : decode cX8_digest 31 = .ok (.invokevirtual 174, 3) := by decide +kernel
theorem dX8_digest_34 : decode cX8_digest 34 = .ok (.invokevirtual 222, 3) := by decide +kernel
theorem dX8_digest_37 : decode cX8_digest 37 = .ok (.iinc 1 1, 3) := by decide +kernel
theorem dX8_digest_40 : decode cX8_digest 40 = .ok (.goto (-18), 3) := by decide +kernel
theorem dX8_digest_43 : decode cX8_digest 43 = .ok (.iconst 0, 1) := by decide +kernel
theorem dX8_digest_44 : decode cX8_digest 44 = .ok (.istore_n 1, 1) := by decide +kernel
theorem dX8_digest_45 : decode cX8_digest 45 = .ok (.iload_n 1, 1) := by decide +kernel
theorem dX8_digest_46 : decode cX8_digest 46 = .ok (.aload_n 0, 1) := by decide +kernel
theorem dX8_digest_47 : decode cX8_digest 47 = .ok (.getfield 7, 3) := by decide +kernel
theorem dX8_digest_50 : decode cX8_digest 50 = .ok (.iconst 1, 1) := by decide +kernel
theorem dX8_digest_51 : decode cX8_digest 51 = .ok (.iaload, 1) := by decide +kernel
theorem dX8_digest_52 : decode cX8_digest 52 = .ok (.if_icmp .ge 14, 3) := by decide +kernel
theorem dX8_digest_55 : decode cX8_digest 55 = .ok (.aload_n 0, 1) := by decide +kernel
theorem dX8_digest_56 : decode cX8_digest 56 = .ok (.iload_n 1, 1) := by decide +kernel
theorem dX8_digest_57 : decode cX8_digest 57 = .ok (.invokevirtual 227, 3) := by decide +kernel
theorem dX8_digest_60 : decode cX8_digest 60 = .ok (.iinc 1 1, 3) := by decide +kernel
theorem dX8_digest_63 : decode cX8_digest 63 = .ok (.goto (-18), 3) := by decide +kernel
theorem dX8_digest_66 : decode cX8_digest 66 = .ok (.iconst 0, 1) := by decide +kernel
theorem dX8_digest_67 : decode cX8_digest 67 = .ok (.istore_n 1, 1) := by decide +kernel
theorem dX8_digest_68 : decode cX8_digest 68 = .ok (.iload_n 1, 1) := by decide +kernel
theorem dX8_digest_69 : decode cX8_digest 69 = .ok (.bipush 7, 2) := by decide +kernel
theorem dX8_digest_71 : decode cX8_digest 71 = .ok (.aload_n 0, 1) := by decide +kernel
theorem dX8_digest_72 : decode cX8_digest 72 = .ok (.getfield 7, 3) := by decide +kernel
theorem dX8_digest_75 : decode cX8_digest 75 = .ok (.iconst 2, 1) := by decide +kernel
theorem dX8_digest_76 : decode cX8_digest 76 = .ok (.iaload, 1) := by decide +kernel
theorem dX8_digest_77 : decode cX8_digest 77 = .ok (.imul, 1) := by decide +kernel
theorem dX8_digest_78 : decode cX8_digest 78 = .ok (.if_icmp .ge 25, 3) := by decide +kernel
theorem dX8_digest_81 : decode cX8_digest 81 = .ok (.aload_n 0, 1) := by decide +kernel
theorem dX8_digest_82 : decode cX8_digest 82 = .ok (.aload_n 0, 1) := by decide +kernel
theorem dX8_digest_83 : decode cX8_digest 83 = .ok (.iload_n 1, 1) := by decide +kernel
theorem dX8_digest_84 : decode cX8_digest 84 = .ok (.bipush 7, 2) := by decide +kernel
theorem dX8_digest_86 : decode cX8_digest 86 = .ok (.idiv, 1) := by decide +kernel
theorem dX8_digest_87 : decode cX8_digest 87 = .ok (.iload_n 1, 1) := by decide +kernel
theorem dX8_digest_88 : decode cX8_digest 88 = .ok (.bipush 7, 2) := by decide +kernel
theorem dX8_digest_90 : decode cX8_digest 90 = .ok (.irem, 1) := by decide +kernel
theorem dX8_digest_91 : decode cX8_digest 91 = .ok (.invokevirtual 162, 3) := by decide +kernel
theorem dX8_digest_94 : decode cX8_digest 94 = .ok (.invokevirtual 222, 3) := by decide +kernel
theorem dX8_digest_97 : decode cX8_digest 97 = .ok (.iinc 1 1, 3) := by decide +kernel
theorem dX8_digest_100 : decode cX8_digest 100 = .ok (.goto (-32), 3) := by decide +kernel
theorem dX8_digest_103 : decode cX8_digest 103 = .ok (.iconst 0, 1) := by decide +kernel
theorem dX8_digest_104 : decode cX8_digest 104 = .ok (.istore_n 1, 1) := by decide +kernel
theorem dX8_digest_105 : decode cX8_digest 105 = .ok (.iload_n 1, 1) := by decide +kernel
theorem dX8_digest_106 : decode cX8_digest 106 = .ok (.bipush 64, 2) := by decide +kernel
theorem dX8_digest_108 : decode cX8_digest 108 = .ok (.if_icmp .ge 23, 3) := by decide +kernel
theorem dX8_digest_111 : decode cX8_digest 111 = .ok (.aload_n 0, 1) := by decide +kernel
theorem dX8_digest_112 : decode cX8_digest 112 = .ok (.aload_n 0, 1) := by decide +kernel
theorem dX8_digest_113 : decode cX8_digest 113 = .ok (.iload_n 1, 1) := by decide +kernel
theorem dX8_digest_114 : decode cX8_digest 114 = .ok (.iconst 4, 1) := by decide +kernel
theorem dX8_digest_115 : decode cX8_digest 115 = .ok (.idiv, 1) := by decide +kernel
theorem dX8_digest_116 : decode cX8_digest 116 = .ok (.iload_n 1, 1) := by decide +kernel
theorem dX8_digest_117 : decode cX8_digest 117 = .ok (.iconst 4, 1) := by decide +kernel
theorem dX8_digest_118 : decode cX8_digest 118 = .ok (.irem, 1) := by decide +kernel
theorem dX8_digest_119 : decode cX8_digest 119 = .ok (.invokevirtual 165, 3) := by decide +kernel
theorem dX8_digest_122 : decode cX8_digest 122 = .ok (.invokevirtual 222, 3) := by decide +kernel
theorem dX8_digest_125 : decode cX8_digest 125 = .ok (.iinc 1 1, 3) := by decide +kernel
theorem dX8_digest_128 : decode cX8_digest 128 = .ok (.goto (-23), 3) := by decide +kernel
theorem dX8_digest_131 : decode cX8_digest 131 = .ok (.aload_n 0, 1) := by decide +kernel
theorem dX8_digest_132 : decode cX8_digest 132 = .ok (.aload_n 0, 1) := by decide +kernel
theorem dX8_digest_133 : decode cX8_digest 133 = .ok (.invokevirtual 186, 3) := by decide +kernel
theorem dX8_digest_136 : decode cX8_digest 136 = .ok (.invokevirtual 222, 3) := by decide +kernel
theorem dX8_digest_139 : decode cX8_digest 139 = .ok (.aload_n 0, 1) := by decide +kernel
theorem dX8_digest_140 : decode cX8_digest 140 = .ok (.getfield 218, 3) := by decide +kernel
theorem dX8_digest_143 : decode cX8_digest 143 = .ok (.lreturn, 1) := by decide +kernel
end
section
theorem dL_subscribe_0 : decode cL_subscribe 0 = .ok (.aload 4, 2) := by decide +kernel
theorem dL_subscribe_2 : decode cL_subscribe 2 = .ok (.iconst 0, 1) := by decide +kernel
theorem dL_subscribe_3 : decode cL_subscribe 3 = .ok (.aload_n 0, 1) := by decide +kernel
theorem dL_subscribe_4 : decode cL_subscribe 4 = .ok (.iload_n 1, 1) := by decide +kernel
theorem dL_subscribe_5 : decode cL_subscribe 5 = .ok (.iload_n 2, 1) := by decide +kernel
theorem dL_subscribe_6 : decode cL_subscribe 6 = .ok (.iload_n 3, 1) := by decide +kernel
theorem dL_subscribe_7 : decode cL_subscribe 7 = .ok (.invokevirtual 7, 3) := by decide +kernel
theorem dL_subscribe_10 : decode cL_subscribe 10 = .ok (.i2l, 1) := by decide +kernel
theorem dL_subscribe_11 : decode cL_subscribe 11 = .ok (.lastore, 1) := by decide +kernel
theorem dL_subscribe_12 : decode cL_subscribe 12 = .ok (.goto 15, 3) := by decide +kernel
theorem dL_subscribe_15 : decode cL_subscribe 15 = .ok (.astore 5, 2) := by decide +kernel
theorem dL_subscribe_17 : decode cL_subscribe 17 = .ok (.iconst 1, 1) := by decide +kernel
theorem dL_subscribe_18 : decode cL_subscribe 18 = .ok (.ireturn, 1) := by decide +kernel
theorem dL_subscribe_19 : decode cL_subscribe 19 = .ok (.astore 5, 2) := by decide +kernel
theorem dL_subscribe_21 : decode cL_subscribe 21 = .ok (.iconst 2, 1) := by decide +kernel
theorem dL_subscribe_22 : decode cL_subscribe 22 = .ok (.ireturn, 1) := by decide +kernel
theorem dL_subscribe_23 : decode cL_subscribe 23 = .ok (.astore 5, 2) := by decide +kernel
theorem dL_subscribe_25 : decode cL_subscribe 25 = .ok (.iconst 3, 1) := by decide +kernel
theorem dL_subscribe_26 : decode cL_subscribe 26 = .ok (.ireturn, 1) := by decide +kernel
theorem dL_subscribe_27 : decode cL_subscribe 27 = .ok (.iconst 0, 1) := by decide +kernel
theorem dL_subscribe_28 : decode cL_subscribe 28 = .ok (.ireturn, 1) := by decide +kernel
theorem dL_move_0 : decode cL_move 0 = .ok (.aload_n 3, 1) := by decide +kernel
theorem dL_move_1 : decode cL_move 1 = .ok (.iconst 0, 1) := by decide +kernel
theorem dL_move_2 : decode cL_move 2 = .ok (.aload_n 0, 1) := by decide +kernel
theorem dL_move_3 : decode cL_move 3 = .ok (.iload_n 1, 1) := by decide +kernel
theorem dL_move_4 : decode cL_move 4 = .ok (.iload_n 2, 1) := by decide +kernel
theorem dL_move_5 : decode cL_move 5 = .ok (.invokevirtual 19, 3) := by decide +kernel
theorem dL_move_8 : decode cL_move 8 = .ok (.i2l, 1) := by decide +kernel
theorem dL_move_9 : decode cL_move 9 = .ok (.lastore, 1) := by decide +kernel
theorem dL_move_10 : decode cL_move 10 = .ok (.goto 11, 3) := by decide +kernel
theorem dL_move_13 : decode cL_move 13 = .ok (.astore 4, 2) := by decide +kernel
theorem dL_move_15 : decode cL_move 15 = .ok (.iconst 1, 1) := by decide +kernel
theorem dL_move_16 : decode cL_move 16 = .ok (.ireturn, 1) := by decide +kernel
theorem dL_move_17 : decode cL_move 17 = .ok (.astore 4, 2) := by decide +kernel
theorem dL_move_19 : decode cL_move 19 = .ok (.iconst 2, 1) := by decide +kernel
theorem dL_move_20 : decode cL_move 20 = .ok (.ireturn, 1) := by decide +kernel
theorem dL_move_21 : decode cL_move 21 = .ok (.iconst 0, 1) := by decide +kernel
theorem dL_move_22 : decode cL_move 22 = .ok (.ireturn, 1) := by decide +kernel
theorem dL_leave_0 : decode cL_leave 0 = .ok (.aload_n 2, 1) := by decide +kernel
theorem dL_leave_1 : decode cL_leave 1 = .ok (.iconst 0, 1) := by decide +kernel
theorem dL_leave_2 : decode cL_leave 2 = .ok (.aload_n 0, 1) := by decide +kernel
theorem dL_leave_3 : decode cL_leave 3 = .ok (.iload_n 1, 1) := by decide +kernel
theorem dL_leave_4 : decode cL_leave 4 = .ok (.invokevirtual 23, 3) := by decide +kernel
theorem dL_leave_7 : decode cL_leave 7 = .ok (.i2l, 1) := by decide +kernel
theorem dL_leave_8 : decode cL_leave 8 = .ok (.lastore, 1) := by decide +kernel
theorem dL_leave_9 : decode cL_leave 9 = .ok (.goto 9, 3) := by decide +kernel
theorem dL_leave_12 : decode cL_leave 12 = .ok (.astore_n 3, 1) := by decide +kernel
theorem dL_leave_13 : decode cL_leave 13 = .ok (.iconst 1, 1) := by decide +kernel
theorem dL_leave_14 : decode cL_leave 14 = .ok (.ireturn, 1) := by decide +kernel
theorem dL_leave_15 : decode cL_leave 15 = .ok (.astore_n 3, 1) := by decide +kernel
theorem dL_leave_16 : decode cL_leave 16 = .ok (.iconst 2, 1) := by decide +kernel
theorem dL_leave_17 : decode cL_leave 17 = .ok (.ireturn, 1) := by decide +kernel
theorem dL_leave_18 : decode cL_leave 18 = .ok (.iconst 0, 1) := by decide +kernel
theorem dL_leave_19 : decode cL_leave 19 = .ok (.ireturn, 1) := by decide +kernel
theorem dL_setLevel_0 : decode cL_setLevel 0 = .ok (.aload_n 3, 1) := by decide +kernel
theorem dL_setLevel_1 : decode cL_setLevel 1 = .ok (.iconst 0, 1) := by decide +kernel
theorem dL_setLevel_2 : decode cL_setLevel 2 = .ok (.aload_n 0, 1) := by decide +kernel
theorem dL_setLevel_3 : decode cL_setLevel 3 = .ok (.iload_n 1, 1) := by decide +kernel
theorem dL_setLevel_4 : decode cL_setLevel 4 = .ok (.iload_n 2, 1) := by decide +kernel
theorem dL_setLevel_5 : decode cL_setLevel 5 = .ok (.invokevirtual 27, 3) := by decide +kernel
theorem dL_setLevel_8 : decode cL_setLevel 8 = .ok (.i2l, 1) := by decide +kernel
theorem dL_setLevel_9 : decode cL_setLevel 9 = .ok (.lastore, 1) := by decide +kernel
theorem dL_setLevel_10 : decode cL_setLevel 10 = .ok (.goto 11, 3) := by decide +kernel
theorem dL_setLevel_13 : decode cL_setLevel 13 = .ok (.astore 4, 2) := by decide +kernel
theorem dL_setLevel_15 : decode cL_setLevel 15 = .ok (.iconst 1, 1) := by decide +kernel
theorem dL_setLevel_16 : decode cL_setLevel 16 = .ok (.ireturn, 1) := by decide +kernel
theorem dL_setLevel_17 : decode cL_setLevel 17 = .ok (.astore 4, 2) := by decide +kernel
theorem dL_setLevel_19 : decode cL_setLevel 19 = .ok (.iconst 2, 1) := by decide +kernel
theorem dL_setLevel_20 : decode cL_setLevel 20 = .ok (.ireturn, 1) := by decide +kernel
theorem dL_setLevel_21 : decode cL_setLevel 21 = .ok (.iconst 0, 1) := by decide +kernel
theorem dL_setLevel_22 : decode cL_setLevel 22 = .ok (.ireturn, 1) := by decide +kernel
theorem dL_set_0 : decode cL_set 0 = .ok (.aload_n 3, 1) := by decide +kernel
theorem dL_set_1 : decode cL_set 1 = .ok (.iconst 0, 1) := by decide +kernel
theorem dL_set_2 : decode cL_set 2 = .ok (.aload_n 0, 1) := by decide +kernel
theorem dL_set_3 : decode cL_set 3 = .ok (.iload_n 1, 1) := by decide +kernel
theorem dL_set_4 : decode cL_set 4 = .ok (.iload_n 2, 1) := by decide +kernel
theorem dL_set_5 : decode cL_set 5 = .ok (.invokevirtual 30, 3) := by decide +kernel
theorem dL_set_8 : decode cL_set 8 = .ok (.i2l, 1) := by decide +kernel
theorem dL_set_9 : decode cL_set 9 = .ok (.lastore, 1) := by decide +kernel
theorem dL_set_10 : decode cL_set 10 = .ok (.goto 7, 3) := by decide +kernel
theorem dL_set_13 : decode cL_set 13 = .ok (.astore 4, 2) := by decide +kernel
theorem dL_set_15 : decode cL_set 15 = .ok (.iconst 1, 1) := by decide +kernel
theorem dL_set_16 : decode cL_set 16 = .ok (.ireturn, 1) := by decide +kernel
theorem dL_set_17 : decode cL_set 17 = .ok (.iconst 0, 1) := by decide +kernel
theorem dL_set_18 : decode cL_set 18 = .ok (.ireturn, 1) := by decide +kernel
theorem dL_publish_0 : decode cL_publish 0 = .ok (.aload 4, 2) := by decide +kernel
theorem dL_publish_2 : decode cL_publish 2 = .ok (.iconst 0, 1) := by decide +kernel
theorem dL_publish_3 : decode cL_publish 3 = .ok (.aload_n 0, 1) := by decide +kernel
theorem dL_publish_4 : decode cL_publish 4 = .ok (.iload_n 1, 1) := by decide +kernel
theorem dL_publish_5 : decode cL_publish 5 = .ok (.iload_n 2, 1) := by decide +kernel
theorem dL_publish_6 : decode cL_publish 6 = .ok (.iload_n 3, 1) := by decide +kernel
theorem dL_publish_7 : decode cL_publish 7 = .ok (.invokevirtual 33, 3) := by decide +kernel
theorem dL_publish_10 : decode cL_publish 10 = .ok (.i2l, 1) := by decide +kernel
theorem dL_publish_11 : decode cL_publish 11 = .ok (.lastore, 1) := by decide +kernel
theorem dL_publish_12 : decode cL_publish 12 = .ok (.goto 15, 3) := by decide +kernel
theorem dL_publish_15 : decode cL_publish 15 = .ok (.astore 5, 2) := by decide +kernel
theorem dL_publish_17 : decode cL_publish 17 = .ok (.iconst 1, 1) := by decide +kernel
theorem dL_publish_18 : decode cL_publish 18 = .ok (.ireturn, 1) := by decide +kernel
theorem dL_publish_19 : decode cL_publish 19 = .ok (.astore 5, 2) := by decide +kernel
theorem dL_publish_21 : decode cL_publish 21 = .ok (.iconst 2, 1) := by decide +kernel
theorem dL_publish_22 : decode cL_publish 22 = .ok (.ireturn, 1) := by decide +kernel
theorem dL_publish_23 : decode cL_publish 23 = .ok (.astore 5, 2) := by decide +kernel
theorem dL_publish_25 : decode cL_publish 25 = .ok (.iconst 3, 1) := by decide +kernel
theorem dL_publish_26 : decode cL_publish 26 = .ok (.ireturn, 1) := by decide +kernel
theorem dL_publish_27 : decode cL_publish 27 = .ok (.iconst 0, 1) := by decide +kernel
theorem dL_publish_28 : decode cL_publish 28 = .ok (.ireturn, 1) := by decide +kernel
theorem dL_pass_0 : decode cL_pass 0 = .ok (.aload_n 2, 1) := by decide +kernel
theorem dL_pass_1 : decode cL_pass 1 = .ok (.iconst 0, 1) := by decide +kernel
theorem dL_pass_2 : decode cL_pass 2 = .ok (.aload_n 0, 1) := by decide +kernel
theorem dL_pass_3 : decode cL_pass 3 = .ok (.iload_n 1, 1) := by decide +kernel
theorem dL_pass_4 : decode cL_pass 4 = .ok (.invokevirtual 36, 3) := by decide +kernel
theorem dL_pass_7 : decode cL_pass 7 = .ok (.i2l, 1) := by decide +kernel
theorem dL_pass_8 : decode cL_pass 8 = .ok (.lastore, 1) := by decide +kernel
theorem dL_pass_9 : decode cL_pass 9 = .ok (.goto 9, 3) := by decide +kernel
theorem dL_pass_12 : decode cL_pass 12 = .ok (.astore_n 3, 1) := by decide +kernel
theorem dL_pass_13 : decode cL_pass 13 = .ok (.iconst 1, 1) := by decide +kernel
theorem dL_pass_14 : decode cL_pass 14 = .ok (.ireturn, 1) := by decide +kernel
theorem dL_pass_15 : decode cL_pass 15 = .ok (.astore_n 3, 1) := by decide +kernel
theorem dL_pass_16 : decode cL_pass 16 = .ok (.iconst 2, 1) := by decide +kernel
theorem dL_pass_17 : decode cL_pass 17 = .ok (.ireturn, 1) := by decide +kernel
theorem dL_pass_18 : decode cL_pass 18 = .ok (.iconst 0, 1) := by decide +kernel
theorem dL_pass_19 : decode cL_pass 19 = .ok (.ireturn, 1) := by decide +kernel
theorem dL_subscriber_0 : decode cL_subscriber 0 = .ok (.aload_n 3, 1) := by decide +kernel
theorem dL_subscriber_1 : decode cL_subscriber 1 = .ok (.iconst 0, 1) := by decide +kernel
theorem dL_subscriber_2 : decode cL_subscriber 2 = .ok (.aload_n 0, 1) := by decide +kernel
theorem dL_subscriber_3 : decode cL_subscriber 3 = .ok (.iload_n 1, 1) := by decide +kernel
theorem dL_subscriber_4 : decode cL_subscriber 4 = .ok (.iload_n 2, 1) := by decide +kernel
theorem dL_subscriber_5 : decode cL_subscriber 5 = .ok (.invokevirtual 39, 3) := by decide +kernel
theorem dL_subscriber_8 : decode cL_subscriber 8 = .ok (.i2l, 1) := by decide +kernel
theorem dL_subscriber_9 : decode cL_subscriber 9 = .ok (.lastore, 1) := by decide +kernel
theorem dL_subscriber_10 : decode cL_subscriber 10 = .ok (.goto 11, 3) := by decide +kernel
theorem dL_subscriber_13 : decode cL_subscriber 13 = .ok (.astore 4, 2) := by decide +kernel
theorem dL_subscriber_15 : decode cL_subscriber 15 = .ok (.iconst 1, 1) := by decide +kernel
theorem dL_subscriber_16 : decode cL_subscriber 16 = .ok (.ireturn, 1) := by decide +kernel
theorem dL_subscriber_17 : decode cL_subscriber 17 = .ok (.astore 4, 2) := by decide +kernel
theorem dL_subscriber_19 : decode cL_subscriber 19 = .ok (.iconst 2, 1) := by decide +kernel
theorem dL_subscriber_20 : decode cL_subscriber 20 = .ok (.ireturn, 1) := by decide +kernel
theorem dL_subscriber_21 : decode cL_subscriber 21 = .ok (.iconst 0, 1) := by decide +kernel
theorem dL_subscriber_22 : decode cL_subscriber 22 = .ok (.ireturn, 1) := by decide +kernel
theorem dL_stay_0 : decode cL_stay 0 = .ok (.aload 4, 2) := by decide +kernel
theorem dL_stay_2 : decode cL_stay 2 = .ok (.iconst 0, 1) := by decide +kernel
theorem dL_stay_3 : decode cL_stay 3 = .ok (.aload_n 0, 1) := by decide +kernel
theorem dL_stay_4 : decode cL_stay 4 = .ok (.iload_n 1, 1) := by decide +kernel
theorem dL_stay_5 : decode cL_stay 5 = .ok (.iload_n 2, 1) := by decide +kernel
theorem dL_stay_6 : decode cL_stay 6 = .ok (.iload_n 3, 1) := by decide +kernel
theorem dL_stay_7 : decode cL_stay 7 = .ok (.invokevirtual 42, 3) := by decide +kernel
theorem dL_stay_10 : decode cL_stay 10 = .ok (.i2l, 1) := by decide +kernel
theorem dL_stay_11 : decode cL_stay 11 = .ok (.lastore, 1) := by decide +kernel
theorem dL_stay_12 : decode cL_stay 12 = .ok (.goto 11, 3) := by decide +kernel
theorem dL_stay_15 : decode cL_stay 15 = .ok (.astore 5, 2) := by decide +kernel
theorem dL_stay_17 : decode cL_stay 17 = .ok (.iconst 1, 1) := by decide +kernel
theorem dL_stay_18 : decode cL_stay 18 = .ok (.ireturn, 1) := by decide +kernel
theorem dL_stay_19 : decode cL_stay 19 = .ok (.astore 5, 2) := by decide +kernel
theorem dL_stay_21 : decode cL_stay 21 = .ok (.iconst 2, 1) := by decide +kernel
theorem dL_stay_22 : decode cL_stay 22 = .ok (.ireturn, 1) := by decide +kernel
theorem dL_stay_23 : decode cL_stay 23 = .ok (.iconst 0, 1) := by decide +kernel
theorem dL_stay_24 : decode cL_stay 24 = .ok (.ireturn, 1) := by decide +kernel
theorem dL_waiting_0 : decode cL_waiting 0 = .ok (.aload_n 3, 1) := by decide +kernel
theorem dL_waiting_1 : decode cL_waiting 1 = .ok (.iconst 0, 1) := by decide +kernel
theorem dL_waiting_2 : decode cL_waiting 2 = .ok (.aload_n 0, 1) := by decide +kernel
theorem dL_waiting_3 : decode cL_waiting 3 = .ok (.iload_n 1, 1) := by decide +kernel
theorem dL_waiting_4 : decode cL_waiting 4 = .ok (.iload_n 2, 1) := by decide +kernel
theorem dL_waiting_5 : decode cL_waiting 5 = .ok (.invokevirtual 45, 3) := by decide +kernel
theorem dL_waiting_8 : decode cL_waiting 8 = .ok (.i2l, 1) := by decide +kernel
theorem dL_waiting_9 : decode cL_waiting 9 = .ok (.lastore, 1) := by decide +kernel
theorem dL_waiting_10 : decode cL_waiting 10 = .ok (.goto 11, 3) := by decide +kernel
theorem dL_waiting_13 : decode cL_waiting 13 = .ok (.astore 4, 2) := by decide +kernel
theorem dL_waiting_15 : decode cL_waiting 15 = .ok (.iconst 1, 1) := by decide +kernel
theorem dL_waiting_16 : decode cL_waiting 16 = .ok (.ireturn, 1) := by decide +kernel
theorem dL_waiting_17 : decode cL_waiting 17 = .ok (.astore 4, 2) := by decide +kernel
theorem dL_waiting_19 : decode cL_waiting 19 = .ok (.iconst 2, 1) := by decide +kernel
theorem dL_waiting_20 : decode cL_waiting 20 = .ok (.ireturn, 1) := by decide +kernel
theorem dL_waiting_21 : decode cL_waiting 21 = .ok (.iconst 0, 1) := by decide +kernel
theorem dL_waiting_22 : decode cL_waiting 22 = .ok (.ireturn, 1) := by decide +kernel
theorem dL_event_0 : decode cL_event 0 = .ok (.aload_n 3, 1) := by decide +kernel
theorem dL_event_1 : decode cL_event 1 = .ok (.iconst 0, 1) := by decide +kernel
theorem dL_event_2 : decode cL_event 2 = .ok (.aload_n 0, 1) := by decide +kernel
theorem dL_event_3 : decode cL_event 3 = .ok (.iload_n 1, 1) := by decide +kernel
theorem dL_event_4 : decode cL_event 4 = .ok (.iload_n 2, 1) := by decide +kernel
theorem dL_event_5 : decode cL_event 5 = .ok (.invokevirtual 48, 3) := by decide +kernel
theorem dL_event_8 : decode cL_event 8 = .ok (.i2l, 1) := by decide +kernel
theorem dL_event_9 : decode cL_event 9 = .ok (.lastore, 1) := by decide +kernel
theorem dL_event_10 : decode cL_event 10 = .ok (.goto 11, 3) := by decide +kernel
theorem dL_event_13 : decode cL_event 13 = .ok (.astore 4, 2) := by decide +kernel
theorem dL_event_15 : decode cL_event 15 = .ok (.iconst 1, 1) := by decide +kernel
theorem dL_event_16 : decode cL_event 16 = .ok (.ireturn, 1) := by decide +kernel
theorem dL_event_17 : decode cL_event 17 = .ok (.astore 4, 2) := by decide +kernel
theorem dL_event_19 : decode cL_event 19 = .ok (.iconst 2, 1) := by decide +kernel
theorem dL_event_20 : decode cL_event 20 = .ok (.ireturn, 1) := by decide +kernel
theorem dL_event_21 : decode cL_event 21 = .ok (.iconst 0, 1) := by decide +kernel
theorem dL_event_22 : decode cL_event 22 = .ok (.ireturn, 1) := by decide +kernel
theorem dL_leaf_0 : decode cL_leaf 0 = .ok (.aload_n 3, 1) := by decide +kernel
theorem dL_leaf_1 : decode cL_leaf 1 = .ok (.iconst 0, 1) := by decide +kernel
theorem dL_leaf_2 : decode cL_leaf 2 = .ok (.aload_n 0, 1) := by decide +kernel
theorem dL_leaf_3 : decode cL_leaf 3 = .ok (.iload_n 1, 1) := by decide +kernel
theorem dL_leaf_4 : decode cL_leaf 4 = .ok (.iload_n 2, 1) := by decide +kernel
theorem dL_leaf_5 : decode cL_leaf 5 = .ok (.invokevirtual 51, 3) := by decide +kernel
theorem dL_leaf_8 : decode cL_leaf 8 = .ok (.i2l, 1) := by decide +kernel
theorem dL_leaf_9 : decode cL_leaf 9 = .ok (.lastore, 1) := by decide +kernel
theorem dL_leaf_10 : decode cL_leaf 10 = .ok (.goto 11, 3) := by decide +kernel
theorem dL_leaf_13 : decode cL_leaf 13 = .ok (.astore 4, 2) := by decide +kernel
theorem dL_leaf_15 : decode cL_leaf 15 = .ok (.iconst 1, 1) := by decide +kernel
theorem dL_leaf_16 : decode cL_leaf 16 = .ok (.ireturn, 1) := by decide +kernel
theorem dL_leaf_17 : decode cL_leaf 17 = .ok (.astore 4, 2) := by decide +kernel
theorem dL_leaf_19 : decode cL_leaf 19 = .ok (.iconst 2, 1) := by decide +kernel
theorem dL_leaf_20 : decode cL_leaf 20 = .ok (.ireturn, 1) := by decide +kernel
theorem dL_leaf_21 : decode cL_leaf 21 = .ok (.iconst 0, 1) := by decide +kernel
theorem dL_leaf_22 : decode cL_leaf 22 = .ok (.ireturn, 1) := by decide +kernel
theorem dL_whole_0 : decode cL_whole 0 = .ok (.aload_n 2, 1) := by decide +kernel
theorem dL_whole_1 : decode cL_whole 1 = .ok (.iconst 0, 1) := by decide +kernel
theorem dL_whole_2 : decode cL_whole 2 = .ok (.aload_n 0, 1) := by decide +kernel
theorem dL_whole_3 : decode cL_whole 3 = .ok (.iload_n 1, 1) := by decide +kernel
theorem dL_whole_4 : decode cL_whole 4 = .ok (.invokevirtual 54, 3) := by decide +kernel
theorem dL_whole_7 : decode cL_whole 7 = .ok (.i2l, 1) := by decide +kernel
theorem dL_whole_8 : decode cL_whole 8 = .ok (.lastore, 1) := by decide +kernel
theorem dL_whole_9 : decode cL_whole 9 = .ok (.goto 6, 3) := by decide +kernel
theorem dL_whole_12 : decode cL_whole 12 = .ok (.astore_n 3, 1) := by decide +kernel
theorem dL_whole_13 : decode cL_whole 13 = .ok (.iconst 1, 1) := by decide +kernel
theorem dL_whole_14 : decode cL_whole 14 = .ok (.ireturn, 1) := by decide +kernel
theorem dL_whole_15 : decode cL_whole 15 = .ok (.iconst 0, 1) := by decide +kernel
theorem dL_whole_16 : decode cL_whole 16 = .ok (.ireturn, 1) := by decide +kernel
theorem dL_wouldReach_0 : decode cL_wouldReach 0 = .ok (.aload 4, 2) := by decide +kernel
theorem dL_wouldReach_2 : decode cL_wouldReach 2 = .ok (.iconst 0, 1) := by decide +kernel
theorem dL_wouldReach_3 : decode cL_wouldReach 3 = .ok (.aload_n 0, 1) := by decide +kernel
theorem dL_wouldReach_4 : decode cL_wouldReach 4 = .ok (.iload_n 1, 1) := by decide +kernel
theorem dL_wouldReach_5 : decode cL_wouldReach 5 = .ok (.iload_n 2, 1) := by decide +kernel
theorem dL_wouldReach_6 : decode cL_wouldReach 6 = .ok (.iload_n 3, 1) := by decide +kernel
theorem dL_wouldReach_7 : decode cL_wouldReach 7 = .ok (.invokevirtual 57, 3) := by decide +kernel
theorem dL_wouldReach_10 : decode cL_wouldReach 10 = .ok (.i2l, 1) := by decide +kernel
theorem dL_wouldReach_11 : decode cL_wouldReach 11 = .ok (.lastore, 1) := by decide +kernel
theorem dL_wouldReach_12 : decode cL_wouldReach 12 = .ok (.goto 11, 3) := by decide +kernel
theorem dL_wouldReach_15 : decode cL_wouldReach 15 = .ok (.astore 5, 2) := by decide +kernel
theorem dL_wouldReach_17 : decode cL_wouldReach 17 = .ok (.iconst 1, 1) := by decide +kernel
theorem dL_wouldReach_18 : decode cL_wouldReach 18 = .ok (.ireturn, 1) := by decide +kernel
theorem dL_wouldReach_19 : decode cL_wouldReach 19 = .ok (.astore 5, 2) := by decide +kernel
theorem dL_wouldReach_21 : decode cL_wouldReach 21 = .ok (.iconst 2, 1) := by decide +kernel
theorem dL_wouldReach_22 : decode cL_wouldReach 22 = .ok (.ireturn, 1) := by decide +kernel
theorem dL_wouldReach_23 : decode cL_wouldReach 23 = .ok (.iconst 0, 1) := by decide +kernel
theorem dL_wouldReach_24 : decode cL_wouldReach 24 = .ok (.ireturn, 1) := by decide +kernel
theorem dL_reason_0 : decode cL_reason 0 = .ok (.aload 4, 2) := by decide +kernel
theorem dL_reason_2 : decode cL_reason 2 = .ok (.iconst 0, 1) := by decide +kernel
theorem dL_reason_3 : decode cL_reason 3 = .ok (.aload_n 0, 1) := by decide +kernel
theorem dL_reason_4 : decode cL_reason 4 = .ok (.iload_n 1, 1) := by decide +kernel
theorem dL_reason_5 : decode cL_reason 5 = .ok (.iload_n 2, 1) := by decide +kernel
theorem dL_reason_6 : decode cL_reason 6 = .ok (.iload_n 3, 1) := by decide +kernel
theorem dL_reason_7 : decode cL_reason 7 = .ok (.invokevirtual 60, 3) := by decide +kernel
theorem dL_reason_10 : decode cL_reason 10 = .ok (.i2l, 1) := by decide +kernel
theorem dL_reason_11 : decode cL_reason 11 = .ok (.lastore, 1) := by decide +kernel
theorem dL_reason_12 : decode cL_reason 12 = .ok (.goto 11, 3) := by decide +kernel
theorem dL_reason_15 : decode cL_reason 15 = .ok (.astore 5, 2) := by decide +kernel
theorem dL_reason_17 : decode cL_reason 17 = .ok (.iconst 1, 1) := by decide +kernel
theorem dL_reason_18 : decode cL_reason 18 = .ok (.ireturn, 1) := by decide +kernel
theorem dL_reason_19 : decode cL_reason 19 = .ok (.astore 5, 2) := by decide +kernel
theorem dL_reason_21 : decode cL_reason 21 = .ok (.iconst 2, 1) := by decide +kernel
theorem dL_reason_22 : decode cL_reason 22 = .ok (.ireturn, 1) := by decide +kernel
theorem dL_reason_23 : decode cL_reason 23 = .ok (.iconst 0, 1) := by decide +kernel
theorem dL_reason_24 : decode cL_reason 24 = .ok (.ireturn, 1) := by decide +kernel
theorem dL_servedIn_0 : decode cL_servedIn 0 = .ok (.aload_n 2, 1) := by decide +kernel
theorem dL_servedIn_1 : decode cL_servedIn 1 = .ok (.iconst 0, 1) := by decide +kernel
theorem dL_servedIn_2 : decode cL_servedIn 2 = .ok (.aload_n 0, 1) := by decide +kernel
theorem dL_servedIn_3 : decode cL_servedIn 3 = .ok (.iload_n 1, 1) := by decide +kernel
theorem dL_servedIn_4 : decode cL_servedIn 4 = .ok (.invokevirtual 63, 3) := by decide +kernel
theorem dL_servedIn_7 : decode cL_servedIn 7 = .ok (.i2l, 1) := by decide +kernel
theorem dL_servedIn_8 : decode cL_servedIn 8 = .ok (.lastore, 1) := by decide +kernel
theorem dL_servedIn_9 : decode cL_servedIn 9 = .ok (.goto 6, 3) := by decide +kernel
theorem dL_servedIn_12 : decode cL_servedIn 12 = .ok (.astore_n 3, 1) := by decide +kernel
theorem dL_servedIn_13 : decode cL_servedIn 13 = .ok (.iconst 1, 1) := by decide +kernel
theorem dL_servedIn_14 : decode cL_servedIn 14 = .ok (.ireturn, 1) := by decide +kernel
theorem dL_servedIn_15 : decode cL_servedIn 15 = .ok (.iconst 0, 1) := by decide +kernel
theorem dL_servedIn_16 : decode cL_servedIn 16 = .ok (.ireturn, 1) := by decide +kernel
theorem dL_emptyIn_0 : decode cL_emptyIn 0 = .ok (.aload_n 2, 1) := by decide +kernel
theorem dL_emptyIn_1 : decode cL_emptyIn 1 = .ok (.iconst 0, 1) := by decide +kernel
theorem dL_emptyIn_2 : decode cL_emptyIn 2 = .ok (.aload_n 0, 1) := by decide +kernel
theorem dL_emptyIn_3 : decode cL_emptyIn 3 = .ok (.iload_n 1, 1) := by decide +kernel
theorem dL_emptyIn_4 : decode cL_emptyIn 4 = .ok (.invokevirtual 66, 3) := by decide +kernel
theorem dL_emptyIn_7 : decode cL_emptyIn 7 = .ok (.i2l, 1) := by decide +kernel
theorem dL_emptyIn_8 : decode cL_emptyIn 8 = .ok (.lastore, 1) := by decide +kernel
theorem dL_emptyIn_9 : decode cL_emptyIn 9 = .ok (.goto 6, 3) := by decide +kernel
theorem dL_emptyIn_12 : decode cL_emptyIn 12 = .ok (.astore_n 3, 1) := by decide +kernel
theorem dL_emptyIn_13 : decode cL_emptyIn 13 = .ok (.iconst 1, 1) := by decide +kernel
theorem dL_emptyIn_14 : decode cL_emptyIn 14 = .ok (.ireturn, 1) := by decide +kernel
theorem dL_emptyIn_15 : decode cL_emptyIn 15 = .ok (.iconst 0, 1) := by decide +kernel
theorem dL_emptyIn_16 : decode cL_emptyIn 16 = .ok (.ireturn, 1) := by decide +kernel
theorem dL_covered_0 : decode cL_covered 0 = .ok (.aload_n 2, 1) := by decide +kernel
theorem dL_covered_1 : decode cL_covered 1 = .ok (.iconst 0, 1) := by decide +kernel
theorem dL_covered_2 : decode cL_covered 2 = .ok (.aload_n 0, 1) := by decide +kernel
theorem dL_covered_3 : decode cL_covered 3 = .ok (.iload_n 1, 1) := by decide +kernel
theorem dL_covered_4 : decode cL_covered 4 = .ok (.invokevirtual 69, 3) := by decide +kernel
theorem dL_covered_7 : decode cL_covered 7 = .ok (.i2l, 1) := by decide +kernel
theorem dL_covered_8 : decode cL_covered 8 = .ok (.lastore, 1) := by decide +kernel
theorem dL_covered_9 : decode cL_covered 9 = .ok (.goto 6, 3) := by decide +kernel
theorem dL_covered_12 : decode cL_covered 12 = .ok (.astore_n 3, 1) := by decide +kernel
theorem dL_covered_13 : decode cL_covered 13 = .ok (.iconst 1, 1) := by decide +kernel
theorem dL_covered_14 : decode cL_covered 14 = .ok (.ireturn, 1) := by decide +kernel
theorem dL_covered_15 : decode cL_covered 15 = .ok (.iconst 0, 1) := by decide +kernel
theorem dL_covered_16 : decode cL_covered 16 = .ok (.ireturn, 1) := by decide +kernel
theorem dL_type_0 : decode cL_type 0 = .ok (.aload_n 2, 1) := by decide +kernel
theorem dL_type_1 : decode cL_type 1 = .ok (.iconst 0, 1) := by decide +kernel
theorem dL_type_2 : decode cL_type 2 = .ok (.aload_n 0, 1) := by decide +kernel
theorem dL_type_3 : decode cL_type 3 = .ok (.iload_n 1, 1) := by decide +kernel
theorem dL_type_4 : decode cL_type 4 = .ok (.invokevirtual 72, 3) := by decide +kernel
theorem dL_type_7 : decode cL_type 7 = .ok (.i2l, 1) := by decide +kernel
theorem dL_type_8 : decode cL_type 8 = .ok (.lastore, 1) := by decide +kernel
theorem dL_type_9 : decode cL_type 9 = .ok (.goto 9, 3) := by decide +kernel
theorem dL_type_12 : decode cL_type 12 = .ok (.astore_n 3, 1) := by decide +kernel
theorem dL_type_13 : decode cL_type 13 = .ok (.iconst 1, 1) := by decide +kernel
theorem dL_type_14 : decode cL_type 14 = .ok (.ireturn, 1) := by decide +kernel
theorem dL_type_15 : decode cL_type 15 = .ok (.astore_n 3, 1) := by decide +kernel
theorem dL_type_16 : decode cL_type 16 = .ok (.iconst 2, 1) := by decide +kernel
theorem dL_type_17 : decode cL_type 17 = .ok (.ireturn, 1) := by decide +kernel
theorem dL_type_18 : decode cL_type 18 = .ok (.iconst 0, 1) := by decide +kernel
theorem dL_type_19 : decode cL_type 19 = .ok (.ireturn, 1) := by decide +kernel
theorem dL_undo_0 : decode cL_undo 0 = .ok (.aload_n 1, 1) := by decide +kernel
theorem dL_undo_1 : decode cL_undo 1 = .ok (.iconst 0, 1) := by decide +kernel
theorem dL_undo_2 : decode cL_undo 2 = .ok (.aload_n 0, 1) := by decide +kernel
theorem dL_undo_3 : decode cL_undo 3 = .ok (.invokevirtual 75, 3) := by decide +kernel
theorem dL_undo_6 : decode cL_undo 6 = .ok (.i2l, 1) := by decide +kernel
theorem dL_undo_7 : decode cL_undo 7 = .ok (.lastore, 1) := by decide +kernel
theorem dL_undo_8 : decode cL_undo 8 = .ok (.goto 6, 3) := by decide +kernel
theorem dL_undo_11 : decode cL_undo 11 = .ok (.astore_n 2, 1) := by decide +kernel
theorem dL_undo_12 : decode cL_undo 12 = .ok (.iconst 1, 1) := by decide +kernel
theorem dL_undo_13 : decode cL_undo 13 = .ok (.ireturn, 1) := by decide +kernel
theorem dL_undo_14 : decode cL_undo 14 = .ok (.iconst 0, 1) := by decide +kernel
theorem dL_undo_15 : decode cL_undo 15 = .ok (.ireturn, 1) := by decide +kernel
theorem dL_law_0 : decode cL_law 0 = .ok (.new 8, 3) := by decide +kernel
theorem dL_law_3 : decode cL_law 3 = .ok (.dup, 1) := by decide +kernel
theorem dL_law_4 : decode cL_law 4 = .ok (.invokespecial 79, 3) := by decide +kernel
theorem dL_law_7 : decode cL_law 7 = .ok (.astore_n 1, 1) := by decide +kernel
theorem dL_law_8 : decode cL_law 8 = .ok (.new 80, 3) := by decide +kernel
theorem dL_law_11 : decode cL_law 11 = .ok (.dup, 1) := by decide +kernel
theorem dL_law_12 : decode cL_law 12 = .ok (.invokespecial 82, 3) := by decide +kernel
theorem dL_law_15 : decode cL_law 15 = .ok (.astore_n 2, 1) := by decide +kernel
theorem dL_law_16 : decode cL_law 16 = .ok (.iconst 1, 1) := by decide +kernel
theorem dL_law_17 : decode cL_law 17 = .ok (.newarray .long, 2) := by decide +kernel
theorem dL_law_19 : decode cL_law 19 = .ok (.astore_n 3, 1) := by decide +kernel
theorem dL_law_20 : decode cL_law 20 = .ok (.iconst 0, 1) := by decide +kernel
theorem dL_law_21 : decode cL_law 21 = .ok (.istore 4, 2) := by decide +kernel
theorem dL_law_23 : decode cL_law 23 = .ok (.iload 4, 2) := by decide +kernel
theorem dL_law_25 : decode cL_law 25 = .ok (.aload_n 0, 1) := by decide +kernel
theorem dL_law_26 : decode cL_law 26 = .ok (.arraylength, 1) := by decide +kernel
theorem dL_law_27 : decode cL_law 27 = .ok (.iconst 4, 1) := by decide +kernel
theorem dL_law_28 : decode cL_law 28 = .ok (.isub, 1) := by decide +kernel
theorem dL_law_29 : decode cL_law 29 = .ok (.if_icmp .gt 1490, 3) := by decide +kernel
theorem dL_law_32 : decode cL_law 32 = .ok (.aload_n 0, 1) := by decide +kernel
theorem dL_law_33 : decode cL_law 33 = .ok (.iload 4, 2) := by decide +kernel
theorem dL_law_35 : decode cL_law 35 = .ok (.iaload, 1) := by decide +kernel
theorem dL_law_36 : decode cL_law 36 = .ok (.bipush 31, 2) := by decide +kernel
theorem dL_law_38 : decode cL_law 38 = .ok (.iand, 1) := by decide +kernel
theorem dL_law_39 : decode cL_law 39 = .ok (.tableswitch 1474 0 23 #[109, 189, 257, 313, 381, 449, 529, 585, 653, 733, 801, 869, 937, 993, 1073, 1153, 1209, 1265, 1321, 1334, 1390, 1403, 1416, 1460], 109) := by decide +kernel
theorem dL_law_148 : decode cL_law 148 = .ok (.aload_n 1, 1) := by decide +kernel
theorem dL_law_149 : decode cL_law 149 = .ok (.aload_n 0, 1) := by decide +kernel
theorem dL_law_150 : decode cL_law 150 = .ok (.iload 4, 2) := by decide +kernel
theorem dL_law_152 : decode cL_law 152 = .ok (.iconst 1, 1) := by decide +kernel
theorem dL_law_153 : decode cL_law 153 = .ok (.iadd, 1) := by decide +kernel
theorem dL_law_154 : decode cL_law 154 = .ok (.iaload, 1) := by decide +kernel
theorem dL_law_155 : decode cL_law 155 = .ok (.aload_n 0, 1) := by decide +kernel
theorem dL_law_156 : decode cL_law 156 = .ok (.iload 4, 2) := by decide +kernel
theorem dL_law_158 : decode cL_law 158 = .ok (.iconst 2, 1) := by decide +kernel
theorem dL_law_159 : decode cL_law 159 = .ok (.iadd, 1) := by decide +kernel
theorem dL_law_160 : decode cL_law 160 = .ok (.iaload, 1) := by decide +kernel
theorem dL_law_161 : decode cL_law 161 = .ok (.aload_n 0, 1) := by decide +kernel
theorem dL_law_162 : decode cL_law 162 = .ok (.iload 4, 2) := by decide +kernel
theorem dL_law_164 : decode cL_law 164 = .ok (.iconst 3, 1) := by decide +kernel
theorem dL_law_165 : decode cL_law 165 = .ok (.iadd, 1) := by decide +kernel
theorem dL_law_166 : decode cL_law 166 = .ok (.iaload, 1) := by decide +kernel
theorem dL_law_167 : decode cL_law 167 = .ok (.aload_n 3, 1) := by decide +kernel
theorem dL_law_168 : decode cL_law 168 = .ok (.invokestatic 83, 3) := by decide +kernel
theorem dL_law_171 : decode cL_law 171 = .ok (.istore 5, 2) := by decide +kernel
theorem dL_law_173 : decode cL_law 173 = .ok (.aload_n 2, 1) := by decide +kernel
theorem dL_law_174 : decode cL_law 174 = .ok (.aload_n 0, 1) := by decide +kernel
theorem dL_law_175 : decode cL_law 175 = .ok (.iload 4, 2) := by decide +kernel
theorem dL_law_177 : decode cL_law 177 = .ok (.iconst 1, 1) := by decide +kernel
theorem dL_law_178 : decode cL_law 178 = .ok (.iadd, 1) := by decide +kernel
theorem dL_law_179 : decode cL_law 179 = .ok (.iaload, 1) := by decide +kernel
theorem dL_law_180 : decode cL_law 180 = .ok (.aload_n 0, 1) := by decide +kernel
theorem dL_law_181 : decode cL_law 181 = .ok (.iload 4, 2) := by decide +kernel
theorem dL_law_183 : decode cL_law 183 = .ok (.iconst 2, 1) := by decide +kernel
theorem dL_law_184 : decode cL_law 184 = .ok (.iadd, 1) := by decide +kernel
theorem dL_law_185 : decode cL_law 185 = .ok (.iaload, 1) := by decide +kernel
theorem dL_law_186 : decode cL_law 186 = .ok (.aload_n 0, 1) := by decide +kernel
theorem dL_law_187 : decode cL_law 187 = .ok (.iload 4, 2) := by decide +kernel
theorem dL_law_189 : decode cL_law 189 = .ok (.iconst 3, 1) := by decide +kernel
theorem dL_law_190 : decode cL_law 190 = .ok (.iadd, 1) := by decide +kernel
theorem dL_law_191 : decode cL_law 191 = .ok (.iaload, 1) := by decide +kernel
theorem dL_law_192 : decode cL_law 192 = .ok (.invokevirtual 88, 3) := by decide +kernel
theorem dL_law_195 : decode cL_law 195 = .ok (.istore 6, 2) := by decide +kernel
theorem dL_law_197 : decode cL_law 197 = .ok (.aload_n 2, 1) := by decide +kernel
theorem dL_law_198 : decode cL_law 198 = .ok (.invokevirtual 89, 3) := by decide +kernel
theorem dL_law_201 : decode cL_law 201 = .ok (.iload 5, 2) := by decide +kernel
theorem dL_law_203 : decode cL_law 203 = .ok (.if_icmp .eq 5, 3) := by decide +kernel
theorem dL_law_206 : decode cL_law 206 = .ok (.iconst 0, 1) := by decide +kernel
theorem dL_law_207 : decode cL_law 207 = .ok (.ireturn, 1) := by decide +kernel
theorem dL_law_208 : decode cL_law 208 = .ok (.iload 5, 2) := by decide +kernel
theorem dL_law_210 : decode cL_law 210 = .ok (.ifCond .ne 15, 3) := by decide +kernel
theorem dL_law_213 : decode cL_law 213 = .ok (.aload_n 3, 1) := by decide +kernel
theorem dL_law_214 : decode cL_law 214 = .ok (.iconst 0, 1) := by decide +kernel
theorem dL_law_215 : decode cL_law 215 = .ok (.laload, 1) := by decide +kernel
theorem dL_law_216 : decode cL_law 216 = .ok (.iload 6, 2) := by decide +kernel
theorem dL_law_218 : decode cL_law 218 = .ok (.i2l, 1) := by decide +kernel
theorem dL_law_219 : decode cL_law 219 = .ok (.lcmp, 1) := by decide +kernel
theorem dL_law_220 : decode cL_law 220 = .ok (.ifCond .eq 5, 3) := by decide +kernel
theorem dL_law_223 : decode cL_law 223 = .ok (.iconst 0, 1) := by decide +kernel
theorem dL_law_224 : decode cL_law 224 = .ok (.ireturn, 1) := by decide +kernel
theorem dL_law_225 : decode cL_law 225 = .ok (.goto 1288, 3) := by decide +kernel
theorem dL_law_228 : decode cL_law 228 = .ok (.aload_n 1, 1) := by decide +kernel
theorem dL_law_229 : decode cL_law 229 = .ok (.aload_n 0, 1) := by decide +kernel
theorem dL_law_230 : decode cL_law 230 = .ok (.iload 4, 2) := by decide +kernel
theorem dL_law_232 : decode cL_law 232 = .ok (.iconst 1, 1) := by decide +kernel
theorem dL_law_233 : decode cL_law 233 = .ok (.iadd, 1) := by decide +kernel
theorem dL_law_234 : decode cL_law 234 = .ok (.iaload, 1) := by decide +kernel
theorem dL_law_235 : decode cL_law 235 = .ok (.aload_n 0, 1) := by decide +kernel
theorem dL_law_236 : decode cL_law 236 = .ok (.iload 4, 2) := by decide +kernel
theorem dL_law_238 : decode cL_law 238 = .ok (.iconst 2, 1) := by decide +kernel
theorem dL_law_239 : decode cL_law 239 = .ok (.iadd, 1) := by decide +kernel
theorem dL_law_240 : decode cL_law 240 = .ok (.iaload, 1) := by decide +kernel
theorem dL_law_241 : decode cL_law 241 = .ok (.aload_n 3, 1) := by decide +kernel
theorem dL_law_242 : decode cL_law 242 = .ok (.invokestatic 92, 3) := by decide +kernel
theorem dL_law_245 : decode cL_law 245 = .ok (.istore 5, 2) := by decide +kernel
theorem dL_law_247 : decode cL_law 247 = .ok (.aload_n 2, 1) := by decide +kernel
theorem dL_law_248 : decode cL_law 248 = .ok (.aload_n 0, 1) := by decide +kernel
theorem dL_law_249 : decode cL_law 249 = .ok (.iload 4, 2) := by decide +kernel
theorem dL_law_251 : decode cL_law 251 = .ok (.iconst 1, 1) := by decide +kernel
theorem dL_law_252 : decode cL_law 252 = .ok (.iadd, 1) := by decide +kernel
theorem dL_law_253 : decode cL_law 253 = .ok (.iaload, 1) := by decide +kernel
theorem dL_law_254 : decode cL_law 254 = .ok (.aload_n 0, 1) := by decide +kernel
theorem dL_law_255 : decode cL_law 255 = .ok (.iload 4, 2) := by decide +kernel
theorem dL_law_257 : decode cL_law 257 = .ok (.iconst 2, 1) := by decide +kernel
theorem dL_law_258 : decode cL_law 258 = .ok (.iadd, 1) := by decide +kernel
theorem dL_law_259 : decode cL_law 259 = .ok (.iaload, 1) := by decide +kernel
theorem dL_law_260 : decode cL_law 260 = .ok (.invokevirtual 95, 3) := by decide +kernel
theorem dL_law_263 : decode cL_law 263 = .ok (.istore 6, 2) := by decide +kernel
theorem dL_law_265 : decode cL_law 265 = .ok (.aload_n 2, 1) := by decide +kernel
theorem dL_law_266 : decode cL_law 266 = .ok (.invokevirtual 89, 3) := by decide +kernel
theorem dL_law_269 : decode cL_law 269 = .ok (.iload 5, 2) := by decide +kernel
theorem dL_law_271 : decode cL_law 271 = .ok (.if_icmp .eq 5, 3) := by decide +kernel
theorem dL_law_274 : decode cL_law 274 = .ok (.iconst 0, 1) := by decide +kernel
theorem dL_law_275 : decode cL_law 275 = .ok (.ireturn, 1) := by decide +kernel
theorem dL_law_276 : decode cL_law 276 = .ok (.iload 5, 2) := by decide +kernel
theorem dL_law_278 : decode cL_law 278 = .ok (.ifCond .ne 15, 3) := by decide +kernel
theorem dL_law_281 : decode cL_law 281 = .ok (.aload_n 3, 1) := by decide +kernel
theorem dL_law_282 : decode cL_law 282 = .ok (.iconst 0, 1) := by decide +kernel
theorem dL_law_283 : decode cL_law 283 = .ok (.laload, 1) := by decide +kernel
theorem dL_law_284 : decode cL_law 284 = .ok (.iload 6, 2) := by decide +kernel
theorem dL_law_286 : decode cL_law 286 = .ok (.i2l, 1) := by decide +kernel
theorem dL_law_287 : decode cL_law 287 = .ok (.lcmp, 1) := by decide +kernel
theorem dL_law_288 : decode cL_law 288 = .ok (.ifCond .eq 5, 3) := by decide +kernel
theorem dL_law_291 : decode cL_law 291 = .ok (.iconst 0, 1) := by decide +kernel
theorem dL_law_292 : decode cL_law 292 = .ok (.ireturn, 1) := by decide +kernel
theorem dL_law_293 : decode cL_law 293 = .ok (.goto 1220, 3) := by decide +kernel
theorem dL_law_296 : decode cL_law 296 = .ok (.aload_n 1, 1) := by decide +kernel
theorem dL_law_297 : decode cL_law 297 = .ok (.aload_n 0, 1) := by decide +kernel
theorem dL_law_298 : decode cL_law 298 = .ok (.iload 4, 2) := by decide +kernel
theorem dL_law_300 : decode cL_law 300 = .ok (.iconst 1, 1) := by decide +kernel
theorem dL_law_301 : decode cL_law 301 = .ok (.iadd, 1) := by decide +kernel
theorem dL_law_302 : decode cL_law 302 = .ok (.iaload, 1) := by decide +kernel
theorem dL_law_303 : decode cL_law 303 = .ok (.aload_n 3, 1) := by decide +kernel
theorem dL_law_304 : decode cL_law 304 = .ok (.invokestatic 96, 3) := by decide +kernel
theorem dL_law_307 : decode cL_law 307 = .ok (.istore 5, 2) := by decide +kernel
theorem dL_law_309 : decode cL_law 309 = .ok (.aload_n 2, 1) := by decide +kernel
theorem dL_law_310 : decode cL_law 310 = .ok (.aload_n 0, 1) := by decide +kernel
theorem dL_law_311 : decode cL_law 311 = .ok (.iload 4, 2) := by decide +kernel
theorem dL_law_313 : decode cL_law 313 = .ok (.iconst 1, 1) := by decide +kernel
theorem dL_law_314 : decode cL_law 314 = .ok (.iadd, 1) := by decide +kernel
theorem dL_law_315 : decode cL_law 315 = .ok (.iaload, 1) := by decide +kernel
theorem dL_law_316 : decode cL_law 316 = .ok (.invokevirtual 99, 3) := by decide +kernel
theorem dL_law_319 : decode cL_law 319 = .ok (.istore 6, 2) := by decide +kernel
theorem dL_law_321 : decode cL_law 321 = .ok (.aload_n 2, 1) := by decide +kernel
theorem dL_law_322 : decode cL_law 322 = .ok (.invokevirtual 89, 3) := by decide +kernel
theorem dL_law_325 : decode cL_law 325 = .ok (.iload 5, 2) := by decide +kernel
theorem dL_law_327 : decode cL_law 327 = .ok (.if_icmp .eq 5, 3) := by decide +kernel
theorem dL_law_330 : decode cL_law 330 = .ok (.iconst 0, 1) := by decide +kernel
theorem dL_law_331 : decode cL_law 331 = .ok (.ireturn, 1) := by decide +kernel
theorem dL_law_332 : decode cL_law 332 = .ok (.iload 5, 2) := by decide +kernel
theorem dL_law_334 : decode cL_law 334 = .ok (.ifCond .ne 15, 3) := by decide +kernel
theorem dL_law_337 : decode cL_law 337 = .ok (.aload_n 3, 1) := by decide +kernel
theorem dL_law_338 : decode cL_law 338 = .ok (.iconst 0, 1) := by decide +kernel
theorem dL_law_339 : decode cL_law 339 = .ok (.laload, 1) := by decide +kernel
theorem dL_law_340 : decode cL_law 340 = .ok (.iload 6, 2) := by decide +kernel
theorem dL_law_342 : decode cL_law 342 = .ok (.i2l, 1) := by decide +kernel
theorem dL_law_343 : decode cL_law 343 = .ok (.lcmp, 1) := by decide +kernel
theorem dL_law_344 : decode cL_law 344 = .ok (.ifCond .eq 5, 3) := by decide +kernel
theorem dL_law_347 : decode cL_law 347 = .ok (.iconst 0, 1) := by decide +kernel
theorem dL_law_348 : decode cL_law 348 = .ok (.ireturn, 1) := by decide +kernel
theorem dL_law_349 : decode cL_law 349 = .ok (.goto 1164, 3) := by decide +kernel
theorem dL_law_352 : decode cL_law 352 = .ok (.aload_n 1, 1) := by decide +kernel
theorem dL_law_353 : decode cL_law 353 = .ok (.aload_n 0, 1) := by decide +kernel
theorem dL_law_354 : decode cL_law 354 = .ok (.iload 4, 2) := by decide +kernel
theorem dL_law_356 : decode cL_law 356 = .ok (.iconst 1, 1) := by decide +kernel
theorem dL_law_357 : decode cL_law 357 = .ok (.iadd, 1) := by decide +kernel
theorem dL_law_358 : decode cL_law 358 = .ok (.iaload, 1) := by decide +kernel
theorem dL_law_359 : decode cL_law 359 = .ok (.aload_n 0, 1) := by decide +kernel
theorem dL_law_360 : decode cL_law 360 = .ok (.iload 4, 2) := by decide +kernel
theorem dL_law_362 : decode cL_law 362 = .ok (.iconst 2, 1) := by decide +kernel
theorem dL_law_363 : decode cL_law 363 = .ok (.iadd, 1) := by decide +kernel
theorem dL_law_364 : decode cL_law 364 = .ok (.iaload, 1) := by decide +kernel
theorem dL_law_365 : decode cL_law 365 = .ok (.aload_n 3, 1) := by decide +kernel
theorem dL_law_366 : decode cL_law 366 = .ok (.invokestatic 100, 3) := by decide +kernel
theorem dL_law_369 : decode cL_law 369 = .ok (.istore 5, 2) := by decide +kernel
theorem dL_law_371 : decode cL_law 371 = .ok (.aload_n 2, 1) := by decide +kernel
theorem dL_law_372 : decode cL_law 372 = .ok (.aload_n 0, 1) := by decide +kernel
theorem dL_law_373 : decode cL_law 373 = .ok (.iload 4, 2) := by decide +kernel
theorem dL_law_375 : decode cL_law 375 = .ok (.iconst 1, 1) := by decide +kernel
theorem dL_law_376 : decode cL_law 376 = .ok (.iadd, 1) := by decide +kernel
theorem dL_law_377 : decode cL_law 377 = .ok (.iaload, 1) := by decide +kernel
theorem dL_law_378 : decode cL_law 378 = .ok (.aload_n 0, 1) := by decide +kernel
theorem dL_law_379 : decode cL_law 379 = .ok (.iload 4, 2) := by decide +kernel
theorem dL_law_381 : decode cL_law 381 = .ok (.iconst 2, 1) := by decide +kernel
theorem dL_law_382 : decode cL_law 382 = .ok (.iadd, 1) := by decide +kernel
theorem dL_law_383 : decode cL_law 383 = .ok (.iaload, 1) := by decide +kernel
theorem dL_law_384 : decode cL_law 384 = .ok (.invokevirtual 102, 3) := by decide +kernel
theorem dL_law_387 : decode cL_law 387 = .ok (.istore 6, 2) := by decide +kernel
theorem dL_law_389 : decode cL_law 389 = .ok (.aload_n 2, 1) := by decide +kernel
theorem dL_law_390 : decode cL_law 390 = .ok (.invokevirtual 89, 3) := by decide +kernel
theorem dL_law_393 : decode cL_law 393 = .ok (.iload 5, 2) := by decide +kernel
theorem dL_law_395 : decode cL_law 395 = .ok (.if_icmp .eq 5, 3) := by decide +kernel
theorem dL_law_398 : decode cL_law 398 = .ok (.iconst 0, 1) := by decide +kernel
theorem dL_law_399 : decode cL_law 399 = .ok (.ireturn, 1) := by decide +kernel
theorem dL_law_400 : decode cL_law 400 = .ok (.iload 5, 2) := by decide +kernel
theorem dL_law_402 : decode cL_law 402 = .ok (.ifCond .ne 15, 3) := by decide +kernel
theorem dL_law_405 : decode cL_law 405 = .ok (.aload_n 3, 1) := by decide +kernel
theorem dL_law_406 : decode cL_law 406 = .ok (.iconst 0, 1) := by decide +kernel
theorem dL_law_407 : decode cL_law 407 = .ok (.laload, 1) := by decide +kernel
theorem dL_law_408 : decode cL_law 408 = .ok (.iload 6, 2) := by decide +kernel
theorem dL_law_410 : decode cL_law 410 = .ok (.i2l, 1) := by decide +kernel
theorem dL_law_411 : decode cL_law 411 = .ok (.lcmp, 1) := by decide +kernel
theorem dL_law_412 : decode cL_law 412 = .ok (.ifCond .eq 5, 3) := by decide +kernel
theorem dL_law_415 : decode cL_law 415 = .ok (.iconst 0, 1) := by decide +kernel
theorem dL_law_416 : decode cL_law 416 = .ok (.ireturn, 1) := by decide +kernel
theorem dL_law_417 : decode cL_law 417 = .ok (.goto 1096, 3) := by decide +kernel
theorem dL_law_420 : decode cL_law 420 = .ok (.aload_n 1, 1) := by decide +kernel
theorem dL_law_421 : decode cL_law 421 = .ok (.aload_n 0, 1) := by decide +kernel
theorem dL_law_422 : decode cL_law 422 = .ok (.iload 4, 2) := by decide +kernel
theorem dL_law_424 : decode cL_law 424 = .ok (.iconst 1, 1) := by decide +kernel
theorem dL_law_425 : decode cL_law 425 = .ok (.iadd, 1) := by decide +kernel
theorem dL_law_426 : decode cL_law 426 = .ok (.iaload, 1) := by decide +kernel
theorem dL_law_427 : decode cL_law 427 = .ok (.aload_n 0, 1) := by decide +kernel
theorem dL_law_428 : decode cL_law 428 = .ok (.iload 4, 2) := by decide +kernel
theorem dL_law_430 : decode cL_law 430 = .ok (.iconst 2, 1) := by decide +kernel
theorem dL_law_431 : decode cL_law 431 = .ok (.iadd, 1) := by decide +kernel
theorem dL_law_432 : decode cL_law 432 = .ok (.iaload, 1) := by decide +kernel
theorem dL_law_433 : decode cL_law 433 = .ok (.aload_n 3, 1) := by decide +kernel
theorem dL_law_434 : decode cL_law 434 = .ok (.invokestatic 103, 3) := by decide +kernel
theorem dL_law_437 : decode cL_law 437 = .ok (.istore 5, 2) := by decide +kernel
theorem dL_law_439 : decode cL_law 439 = .ok (.aload_n 2, 1) := by decide +kernel
theorem dL_law_440 : decode cL_law 440 = .ok (.aload_n 0, 1) := by decide +kernel
theorem dL_law_441 : decode cL_law 441 = .ok (.iload 4, 2) := by decide +kernel
theorem dL_law_443 : decode cL_law 443 = .ok (.iconst 1, 1) := by decide +kernel
theorem dL_law_444 : decode cL_law 444 = .ok (.iadd, 1) := by decide +kernel
theorem dL_law_445 : decode cL_law 445 = .ok (.iaload, 1) := by decide +kernel
theorem dL_law_446 : decode cL_law 446 = .ok (.aload_n 0, 1) := by decide +kernel
theorem dL_law_447 : decode cL_law 447 = .ok (.iload 4, 2) := by decide +kernel
theorem dL_law_449 : decode cL_law 449 = .ok (.iconst 2, 1) := by decide +kernel
theorem dL_law_450 : decode cL_law 450 = .ok (.iadd, 1) := by decide +kernel
theorem dL_law_451 : decode cL_law 451 = .ok (.iaload, 1) := by decide +kernel
theorem dL_law_452 : decode cL_law 452 = .ok (.invokevirtual 105, 3) := by decide +kernel
theorem dL_law_455 : decode cL_law 455 = .ok (.istore 6, 2) := by decide +kernel
theorem dL_law_457 : decode cL_law 457 = .ok (.aload_n 2, 1) := by decide +kernel
theorem dL_law_458 : decode cL_law 458 = .ok (.invokevirtual 89, 3) := by decide +kernel
theorem dL_law_461 : decode cL_law 461 = .ok (.iload 5, 2) := by decide +kernel
theorem dL_law_463 : decode cL_law 463 = .ok (.if_icmp .eq 5, 3) := by decide +kernel
theorem dL_law_466 : decode cL_law 466 = .ok (.iconst 0, 1) := by decide +kernel
theorem dL_law_467 : decode cL_law 467 = .ok (.ireturn, 1) := by decide +kernel
theorem dL_law_468 : decode cL_law 468 = .ok (.iload 5, 2) := by decide +kernel
theorem dL_law_470 : decode cL_law 470 = .ok (.ifCond .ne 15, 3) := by decide +kernel
theorem dL_law_473 : decode cL_law 473 = .ok (.aload_n 3, 1) := by decide +kernel
theorem dL_law_474 : decode cL_law 474 = .ok (.iconst 0, 1) := by decide +kernel
theorem dL_law_475 : decode cL_law 475 = .ok (.laload, 1) := by decide +kernel
theorem dL_law_476 : decode cL_law 476 = .ok (.iload 6, 2) := by decide +kernel
theorem dL_law_478 : decode cL_law 478 = .ok (.i2l, 1) := by decide +kernel
theorem dL_law_479 : decode cL_law 479 = .ok (.lcmp, 1) := by decide +kernel
theorem dL_law_480 : decode cL_law 480 = .ok (.ifCond .eq 5, 3) := by decide +kernel
theorem dL_law_483 : decode cL_law 483 = .ok (.iconst 0, 1) := by decide +kernel
theorem dL_law_484 : decode cL_law 484 = .ok (.ireturn, 1) := by decide +kernel
theorem dL_law_485 : decode cL_law 485 = .ok (.goto 1028, 3) := by decide +kernel
theorem dL_law_488 : decode cL_law 488 = .ok (.aload_n 1, 1) := by decide +kernel
theorem dL_law_489 : decode cL_law 489 = .ok (.aload_n 0, 1) := by decide +kernel
theorem dL_law_490 : decode cL_law 490 = .ok (.iload 4, 2) := by decide +kernel
theorem dL_law_492 : decode cL_law 492 = .ok (.iconst 1, 1) := by decide +kernel
theorem dL_law_493 : decode cL_law 493 = .ok (.iadd, 1) := by decide +kernel
theorem dL_law_494 : decode cL_law 494 = .ok (.iaload, 1) := by decide +kernel
theorem dL_law_495 : decode cL_law 495 = .ok (.aload_n 0, 1) := by decide +kernel
theorem dL_law_496 : decode cL_law 496 = .ok (.iload 4, 2) := by decide +kernel
theorem dL_law_498 : decode cL_law 498 = .ok (.iconst 2, 1) := by decide +kernel
theorem dL_law_499 : decode cL_law 499 = .ok (.iadd, 1) := by decide +kernel
theorem dL_law_500 : decode cL_law 500 = .ok (.iaload, 1) := by decide +kernel
theorem dL_law_501 : decode cL_law 501 = .ok (.aload_n 0, 1) := by decide +kernel
theorem dL_law_502 : decode cL_law 502 = .ok (.iload 4, 2) := by decide +kernel
theorem dL_law_504 : decode cL_law 504 = .ok (.iconst 3, 1) := by decide +kernel
theorem dL_law_505 : decode cL_law 505 = .ok (.iadd, 1) := by decide +kernel
theorem dL_law_506 : decode cL_law 506 = .ok (.iaload, 1) := by decide +kernel
theorem dL_law_507 : decode cL_law 507 = .ok (.aload_n 3, 1) := by decide +kernel
theorem dL_law_508 : decode cL_law 508 = .ok (.invokestatic 106, 3) := by decide +kernel
theorem dL_law_511 : decode cL_law 511 = .ok (.istore 5, 2) := by decide +kernel
theorem dL_law_513 : decode cL_law 513 = .ok (.aload_n 2, 1) := by decide +kernel
theorem dL_law_514 : decode cL_law 514 = .ok (.aload_n 0, 1) := by decide +kernel
theorem dL_law_515 : decode cL_law 515 = .ok (.iload 4, 2) := by decide +kernel
theorem dL_law_517 : decode cL_law 517 = .ok (.iconst 1, 1) := by decide +kernel
theorem dL_law_518 : decode cL_law 518 = .ok (.iadd, 1) := by decide +kernel
theorem dL_law_519 : decode cL_law 519 = .ok (.iaload, 1) := by decide +kernel
theorem dL_law_520 : decode cL_law 520 = .ok (.aload_n 0, 1) := by decide +kernel
theorem dL_law_521 : decode cL_law 521 = .ok (.iload 4, 2) := by decide +kernel
theorem dL_law_523 : decode cL_law 523 = .ok (.iconst 2, 1) := by decide +kernel
theorem dL_law_524 : decode cL_law 524 = .ok (.iadd, 1) := by decide +kernel
theorem dL_law_525 : decode cL_law 525 = .ok (.iaload, 1) := by decide +kernel
theorem dL_law_526 : decode cL_law 526 = .ok (.aload_n 0, 1) := by decide +kernel
theorem dL_law_527 : decode cL_law 527 = .ok (.iload 4, 2) := by decide +kernel
theorem dL_law_529 : decode cL_law 529 = .ok (.iconst 3, 1) := by decide +kernel
theorem dL_law_530 : decode cL_law 530 = .ok (.iadd, 1) := by decide +kernel
theorem dL_law_531 : decode cL_law 531 = .ok (.iaload, 1) := by decide +kernel
theorem dL_law_532 : decode cL_law 532 = .ok (.invokevirtual 108, 3) := by decide +kernel
theorem dL_law_535 : decode cL_law 535 = .ok (.istore 6, 2) := by decide +kernel
theorem dL_law_537 : decode cL_law 537 = .ok (.aload_n 2, 1) := by decide +kernel
theorem dL_law_538 : decode cL_law 538 = .ok (.invokevirtual 89, 3) := by decide +kernel
theorem dL_law_541 : decode cL_law 541 = .ok (.iload 5, 2) := by decide +kernel
theorem dL_law_543 : decode cL_law 543 = .ok (.if_icmp .eq 5, 3) := by decide +kernel
theorem dL_law_546 : decode cL_law 546 = .ok (.iconst 0, 1) := by decide +kernel
theorem dL_law_547 : decode cL_law 547 = .ok (.ireturn, 1) := by decide +kernel
theorem dL_law_548 : decode cL_law 548 = .ok (.iload 5, 2) := by decide +kernel
theorem dL_law_550 : decode cL_law 550 = .ok (.ifCond .ne 15, 3) := by decide +kernel
theorem dL_law_553 : decode cL_law 553 = .ok (.aload_n 3, 1) := by decide +kernel
theorem dL_law_554 : decode cL_law 554 = .ok (.iconst 0, 1) := by decide +kernel
theorem dL_law_555 : decode cL_law 555 = .ok (.laload, 1) := by decide +kernel
theorem dL_law_556 : decode cL_law 556 = .ok (.iload 6, 2) := by decide +kernel
theorem dL_law_558 : decode cL_law 558 = .ok (.i2l, 1) := by decide +kernel
theorem dL_law_559 : decode cL_law 559 = .ok (.lcmp, 1) := by decide +kernel
theorem dL_law_560 : decode cL_law 560 = .ok (.ifCond .eq 5, 3) := by decide +kernel
theorem dL_law_563 : decode cL_law 563 = .ok (.iconst 0, 1) := by decide +kernel
theorem dL_law_564 : decode cL_law 564 = .ok (.ireturn, 1) := by decide +kernel
theorem dL_law_565 : decode cL_law 565 = .ok (.goto 948, 3) := by decide +kernel
theorem dL_law_568 : decode cL_law 568 = .ok (.aload_n 1, 1) := by decide +kernel
theorem dL_law_569 : decode cL_law 569 = .ok (.aload_n 0, 1) := by decide +kernel
theorem dL_law_570 : decode cL_law 570 = .ok (.iload 4, 2) := by decide +kernel
theorem dL_law_572 : decode cL_law 572 = .ok (.iconst 1, 1) := by decide +kernel
theorem dL_law_573 : decode cL_law 573 = .ok (.iadd, 1) := by decide +kernel
theorem dL_law_574 : decode cL_law 574 = .ok (.iaload, 1) := by decide +kernel
theorem dL_law_575 : decode cL_law 575 = .ok (.aload_n 3, 1) := by decide +kernel
theorem dL_law_576 : decode cL_law 576 = .ok (.invokestatic 109, 3) := by decide +kernel
theorem dL_law_579 : decode cL_law 579 = .ok (.istore 5, 2) := by decide +kernel
theorem dL_law_581 : decode cL_law 581 = .ok (.aload_n 2, 1) := by decide +kernel
theorem dL_law_582 : decode cL_law 582 = .ok (.aload_n 0, 1) := by decide +kernel
theorem dL_law_583 : decode cL_law 583 = .ok (.iload 4, 2) := by decide +kernel
theorem dL_law_585 : decode cL_law 585 = .ok (.iconst 1, 1) := by decide +kernel
theorem dL_law_586 : decode cL_law 586 = .ok (.iadd, 1) := by decide +kernel
theorem dL_law_587 : decode cL_law 587 = .ok (.iaload, 1) := by decide +kernel
theorem dL_law_588 : decode cL_law 588 = .ok (.invokevirtual 111, 3) := by decide +kernel
theorem dL_law_591 : decode cL_law 591 = .ok (.istore 6, 2) := by decide +kernel
theorem dL_law_593 : decode cL_law 593 = .ok (.aload_n 2, 1) := by decide +kernel
theorem dL_law_594 : decode cL_law 594 = .ok (.invokevirtual 89, 3) := by decide +kernel
theorem dL_law_597 : decode cL_law 597 = .ok (.iload 5, 2) := by decide +kernel
theorem dL_law_599 : decode cL_law 599 = .ok (.if_icmp .eq 5, 3) := by decide +kernel
theorem dL_law_602 : decode cL_law 602 = .ok (.iconst 0, 1) := by decide +kernel
theorem dL_law_603 : decode cL_law 603 = .ok (.ireturn, 1) := by decide +kernel
theorem dL_law_604 : decode cL_law 604 = .ok (.iload 5, 2) := by decide +kernel
theorem dL_law_606 : decode cL_law 606 = .ok (.ifCond .ne 15, 3) := by decide +kernel
theorem dL_law_609 : decode cL_law 609 = .ok (.aload_n 3, 1) := by decide +kernel
theorem dL_law_610 : decode cL_law 610 = .ok (.iconst 0, 1) := by decide +kernel
theorem dL_law_611 : decode cL_law 611 = .ok (.laload, 1) := by decide +kernel
theorem dL_law_612 : decode cL_law 612 = .ok (.iload 6, 2) := by decide +kernel
theorem dL_law_614 : decode cL_law 614 = .ok (.i2l, 1) := by decide +kernel
theorem dL_law_615 : decode cL_law 615 = .ok (.lcmp, 1) := by decide +kernel
theorem dL_law_616 : decode cL_law 616 = .ok (.ifCond .eq 5, 3) := by decide +kernel
theorem dL_law_619 : decode cL_law 619 = .ok (.iconst 0, 1) := by decide +kernel
theorem dL_law_620 : decode cL_law 620 = .ok (.ireturn, 1) := by decide +kernel
theorem dL_law_621 : decode cL_law 621 = .ok (.goto 892, 3) := by decide +kernel
theorem dL_law_624 : decode cL_law 624 = .ok (.aload_n 1, 1) := by decide +kernel
theorem dL_law_625 : decode cL_law 625 = .ok (.aload_n 0, 1) := by decide +kernel
theorem dL_law_626 : decode cL_law 626 = .ok (.iload 4, 2) := by decide +kernel
theorem dL_law_628 : decode cL_law 628 = .ok (.iconst 1, 1) := by decide +kernel
theorem dL_law_629 : decode cL_law 629 = .ok (.iadd, 1) := by decide +kernel
theorem dL_law_630 : decode cL_law 630 = .ok (.iaload, 1) := by decide +kernel
theorem dL_law_631 : decode cL_law 631 = .ok (.aload_n 0, 1) := by decide +kernel
theorem dL_law_632 : decode cL_law 632 = .ok (.iload 4, 2) := by decide +kernel
theorem dL_law_634 : decode cL_law 634 = .ok (.iconst 2, 1) := by decide +kernel
theorem dL_law_635 : decode cL_law 635 = .ok (.iadd, 1) := by decide +kernel
theorem dL_law_636 : decode cL_law 636 = .ok (.iaload, 1) := by decide +kernel
theorem dL_law_637 : decode cL_law 637 = .ok (.aload_n 3, 1) := by decide +kernel
theorem dL_law_638 : decode cL_law 638 = .ok (.invokestatic 112, 3) := by decide +kernel
theorem dL_law_641 : decode cL_law 641 = .ok (.istore 5, 2) := by decide +kernel
theorem dL_law_643 : decode cL_law 643 = .ok (.aload_n 2, 1) := by decide +kernel
theorem dL_law_644 : decode cL_law 644 = .ok (.aload_n 0, 1) := by decide +kernel
theorem dL_law_645 : decode cL_law 645 = .ok (.iload 4, 2) := by decide +kernel
theorem dL_law_647 : decode cL_law 647 = .ok (.iconst 1, 1) := by decide +kernel
theorem dL_law_648 : decode cL_law 648 = .ok (.iadd, 1) := by decide +kernel
theorem dL_law_649 : decode cL_law 649 = .ok (.iaload, 1) := by decide +kernel
theorem dL_law_650 : decode cL_law 650 = .ok (.aload_n 0, 1) := by decide +kernel
theorem dL_law_651 : decode cL_law 651 = .ok (.iload 4, 2) := by decide +kernel
theorem dL_law_653 : decode cL_law 653 = .ok (.iconst 2, 1) := by decide +kernel
theorem dL_law_654 : decode cL_law 654 = .ok (.iadd, 1) := by decide +kernel
theorem dL_law_655 : decode cL_law 655 = .ok (.iaload, 1) := by decide +kernel
theorem dL_law_656 : decode cL_law 656 = .ok (.invokevirtual 114, 3) := by decide +kernel
theorem dL_law_659 : decode cL_law 659 = .ok (.istore 6, 2) := by decide +kernel
theorem dL_law_661 : decode cL_law 661 = .ok (.aload_n 2, 1) := by decide +kernel
theorem dL_law_662 : decode cL_law 662 = .ok (.invokevirtual 89, 3) := by decide +kernel
theorem dL_law_665 : decode cL_law 665 = .ok (.iload 5, 2) := by decide +kernel
theorem dL_law_667 : decode cL_law 667 = .ok (.if_icmp .eq 5, 3) := by decide +kernel
theorem dL_law_670 : decode cL_law 670 = .ok (.iconst 0, 1) := by decide +kernel
theorem dL_law_671 : decode cL_law 671 = .ok (.ireturn, 1) := by decide +kernel
theorem dL_law_672 : decode cL_law 672 = .ok (.iload 5, 2) := by decide +kernel
theorem dL_law_674 : decode cL_law 674 = .ok (.ifCond .ne 15, 3) := by decide +kernel
theorem dL_law_677 : decode cL_law 677 = .ok (.aload_n 3, 1) := by decide +kernel
theorem dL_law_678 : decode cL_law 678 = .ok (.iconst 0, 1) := by decide +kernel
theorem dL_law_679 : decode cL_law 679 = .ok (.laload, 1) := by decide +kernel
theorem dL_law_680 : decode cL_law 680 = .ok (.iload 6, 2) := by decide +kernel
theorem dL_law_682 : decode cL_law 682 = .ok (.i2l, 1) := by decide +kernel
theorem dL_law_683 : decode cL_law 683 = .ok (.lcmp, 1) := by decide +kernel
theorem dL_law_684 : decode cL_law 684 = .ok (.ifCond .eq 5, 3) := by decide +kernel
theorem dL_law_687 : decode cL_law 687 = .ok (.iconst 0, 1) := by decide +kernel
theorem dL_law_688 : decode cL_law 688 = .ok (.ireturn, 1) := by decide +kernel
theorem dL_law_689 : decode cL_law 689 = .ok (.goto 824, 3) := by decide +kernel
theorem dL_law_692 : decode cL_law 692 = .ok (.aload_n 1, 1) := by decide +kernel
theorem dL_law_693 : decode cL_law 693 = .ok (.aload_n 0, 1) := by decide +kernel
theorem dL_law_694 : decode cL_law 694 = .ok (.iload 4, 2) := by decide +kernel
theorem dL_law_696 : decode cL_law 696 = .ok (.iconst 1, 1) := by decide +kernel
theorem dL_law_697 : decode cL_law 697 = .ok (.iadd, 1) := by decide +kernel
theorem dL_law_698 : decode cL_law 698 = .ok (.iaload, 1) := by decide +kernel
theorem dL_law_699 : decode cL_law 699 = .ok (.aload_n 0, 1) := by decide +kernel
theorem dL_law_700 : decode cL_law 700 = .ok (.iload 4, 2) := by decide +kernel
theorem dL_law_702 : decode cL_law 702 = .ok (.iconst 2, 1) := by decide +kernel
theorem dL_law_703 : decode cL_law 703 = .ok (.iadd, 1) := by decide +kernel
theorem dL_law_704 : decode cL_law 704 = .ok (.iaload, 1) := by decide +kernel
theorem dL_law_705 : decode cL_law 705 = .ok (.aload_n 0, 1) := by decide +kernel
theorem dL_law_706 : decode cL_law 706 = .ok (.iload 4, 2) := by decide +kernel
theorem dL_law_708 : decode cL_law 708 = .ok (.iconst 3, 1) := by decide +kernel
theorem dL_law_709 : decode cL_law 709 = .ok (.iadd, 1) := by decide +kernel
theorem dL_law_710 : decode cL_law 710 = .ok (.iaload, 1) := by decide +kernel
theorem dL_law_711 : decode cL_law 711 = .ok (.aload_n 3, 1) := by decide +kernel
theorem dL_law_712 : decode cL_law 712 = .ok (.invokestatic 115, 3) := by decide +kernel
theorem dL_law_715 : decode cL_law 715 = .ok (.istore 5, 2) := by decide +kernel
theorem dL_law_717 : decode cL_law 717 = .ok (.aload_n 2, 1) := by decide +kernel
theorem dL_law_718 : decode cL_law 718 = .ok (.aload_n 0, 1) := by decide +kernel
theorem dL_law_719 : decode cL_law 719 = .ok (.iload 4, 2) := by decide +kernel
theorem dL_law_721 : decode cL_law 721 = .ok (.iconst 1, 1) := by decide +kernel
theorem dL_law_722 : decode cL_law 722 = .ok (.iadd, 1) := by decide +kernel
theorem dL_law_723 : decode cL_law 723 = .ok (.iaload, 1) := by decide +kernel
theorem dL_law_724 : decode cL_law 724 = .ok (.aload_n 0, 1) := by decide +kernel
theorem dL_law_725 : decode cL_law 725 = .ok (.iload 4, 2) := by decide +kernel
theorem dL_law_727 : decode cL_law 727 = .ok (.iconst 2, 1) := by decide +kernel
theorem dL_law_728 : decode cL_law 728 = .ok (.iadd, 1) := by decide +kernel
theorem dL_law_729 : decode cL_law 729 = .ok (.iaload, 1) := by decide +kernel
theorem dL_law_730 : decode cL_law 730 = .ok (.aload_n 0, 1) := by decide +kernel
theorem dL_law_731 : decode cL_law 731 = .ok (.iload 4, 2) := by decide +kernel
theorem dL_law_733 : decode cL_law 733 = .ok (.iconst 3, 1) := by decide +kernel
theorem dL_law_734 : decode cL_law 734 = .ok (.iadd, 1) := by decide +kernel
theorem dL_law_735 : decode cL_law 735 = .ok (.iaload, 1) := by decide +kernel
theorem dL_law_736 : decode cL_law 736 = .ok (.invokevirtual 117, 3) := by decide +kernel
theorem dL_law_739 : decode cL_law 739 = .ok (.istore 6, 2) := by decide +kernel
theorem dL_law_741 : decode cL_law 741 = .ok (.aload_n 2, 1) := by decide +kernel
theorem dL_law_742 : decode cL_law 742 = .ok (.invokevirtual 89, 3) := by decide +kernel
theorem dL_law_745 : decode cL_law 745 = .ok (.iload 5, 2) := by decide +kernel
theorem dL_law_747 : decode cL_law 747 = .ok (.if_icmp .eq 5, 3) := by decide +kernel
theorem dL_law_750 : decode cL_law 750 = .ok (.iconst 0, 1) := by decide +kernel
theorem dL_law_751 : decode cL_law 751 = .ok (.ireturn, 1) := by decide +kernel
theorem dL_law_752 : decode cL_law 752 = .ok (.iload 5, 2) := by decide +kernel
theorem dL_law_754 : decode cL_law 754 = .ok (.ifCond .ne 15, 3) := by decide +kernel
theorem dL_law_757 : decode cL_law 757 = .ok (.aload_n 3, 1) := by decide +kernel
theorem dL_law_758 : decode cL_law 758 = .ok (.iconst 0, 1) := by decide +kernel
theorem dL_law_759 : decode cL_law 759 = .ok (.laload, 1) := by decide +kernel
theorem dL_law_760 : decode cL_law 760 = .ok (.iload 6, 2) := by decide +kernel
theorem dL_law_762 : decode cL_law 762 = .ok (.i2l, 1) := by decide +kernel
theorem dL_law_763 : decode cL_law 763 = .ok (.lcmp, 1) := by decide +kernel
theorem dL_law_764 : decode cL_law 764 = .ok (.ifCond .eq 5, 3) := by decide +kernel
theorem dL_law_767 : decode cL_law 767 = .ok (.iconst 0, 1) := by decide +kernel
theorem dL_law_768 : decode cL_law 768 = .ok (.ireturn, 1) := by decide +kernel
theorem dL_law_769 : decode cL_law 769 = .ok (.goto 744, 3) := by decide +kernel
theorem dL_law_772 : decode cL_law 772 = .ok (.aload_n 1, 1) := by decide +kernel
theorem dL_law_773 : decode cL_law 773 = .ok (.aload_n 0, 1) := by decide +kernel
theorem dL_law_774 : decode cL_law 774 = .ok (.iload 4, 2) := by decide +kernel
theorem dL_law_776 : decode cL_law 776 = .ok (.iconst 1, 1) := by decide +kernel
theorem dL_law_777 : decode cL_law 777 = .ok (.iadd, 1) := by decide +kernel
theorem dL_law_778 : decode cL_law 778 = .ok (.iaload, 1) := by decide +kernel
theorem dL_law_779 : decode cL_law 779 = .ok (.aload_n 0, 1) := by decide +kernel
theorem dL_law_780 : decode cL_law 780 = .ok (.iload 4, 2) := by decide +kernel
theorem dL_law_782 : decode cL_law 782 = .ok (.iconst 2, 1) := by decide +kernel
theorem dL_law_783 : decode cL_law 783 = .ok (.iadd, 1) := by decide +kernel
theorem dL_law_784 : decode cL_law 784 = .ok (.iaload, 1) := by decide +kernel
theorem dL_law_785 : decode cL_law 785 = .ok (.aload_n 3, 1) := by decide +kernel
theorem dL_law_786 : decode cL_law 786 = .ok (.invokestatic 118, 3) := by decide +kernel
theorem dL_law_789 : decode cL_law 789 = .ok (.istore 5, 2) := by decide +kernel
theorem dL_law_791 : decode cL_law 791 = .ok (.aload_n 2, 1) := by decide +kernel
theorem dL_law_792 : decode cL_law 792 = .ok (.aload_n 0, 1) := by decide +kernel
theorem dL_law_793 : decode cL_law 793 = .ok (.iload 4, 2) := by decide +kernel
theorem dL_law_795 : decode cL_law 795 = .ok (.iconst 1, 1) := by decide +kernel
theorem dL_law_796 : decode cL_law 796 = .ok (.iadd, 1) := by decide +kernel
theorem dL_law_797 : decode cL_law 797 = .ok (.iaload, 1) := by decide +kernel
theorem dL_law_798 : decode cL_law 798 = .ok (.aload_n 0, 1) := by decide +kernel
theorem dL_law_799 : decode cL_law 799 = .ok (.iload 4, 2) := by decide +kernel
theorem dL_law_801 : decode cL_law 801 = .ok (.iconst 2, 1) := by decide +kernel
theorem dL_law_802 : decode cL_law 802 = .ok (.iadd, 1) := by decide +kernel
theorem dL_law_803 : decode cL_law 803 = .ok (.iaload, 1) := by decide +kernel
theorem dL_law_804 : decode cL_law 804 = .ok (.invokevirtual 120, 3) := by decide +kernel
theorem dL_law_807 : decode cL_law 807 = .ok (.istore 6, 2) := by decide +kernel
theorem dL_law_809 : decode cL_law 809 = .ok (.aload_n 2, 1) := by decide +kernel
theorem dL_law_810 : decode cL_law 810 = .ok (.invokevirtual 89, 3) := by decide +kernel
theorem dL_law_813 : decode cL_law 813 = .ok (.iload 5, 2) := by decide +kernel
theorem dL_law_815 : decode cL_law 815 = .ok (.if_icmp .eq 5, 3) := by decide +kernel
theorem dL_law_818 : decode cL_law 818 = .ok (.iconst 0, 1) := by decide +kernel
theorem dL_law_819 : decode cL_law 819 = .ok (.ireturn, 1) := by decide +kernel
theorem dL_law_820 : decode cL_law 820 = .ok (.iload 5, 2) := by decide +kernel
theorem dL_law_822 : decode cL_law 822 = .ok (.ifCond .ne 15, 3) := by decide +kernel
theorem dL_law_825 : decode cL_law 825 = .ok (.aload_n 3, 1) := by decide +kernel
theorem dL_law_826 : decode cL_law 826 = .ok (.iconst 0, 1) := by decide +kernel
theorem dL_law_827 : decode cL_law 827 = .ok (.laload, 1) := by decide +kernel
theorem dL_law_828 : decode cL_law 828 = .ok (.iload 6, 2) := by decide +kernel
theorem dL_law_830 : decode cL_law 830 = .ok (.i2l, 1) := by decide +kernel
theorem dL_law_831 : decode cL_law 831 = .ok (.lcmp, 1) := by decide +kernel
theorem dL_law_832 : decode cL_law 832 = .ok (.ifCond .eq 5, 3) := by decide +kernel
theorem dL_law_835 : decode cL_law 835 = .ok (.iconst 0, 1) := by decide +kernel
theorem dL_law_836 : decode cL_law 836 = .ok (.ireturn, 1) := by decide +kernel
theorem dL_law_837 : decode cL_law 837 = .ok (.goto 676, 3) := by decide +kernel
theorem dL_law_840 : decode cL_law 840 = .ok (.aload_n 1, 1) := by decide +kernel
theorem dL_law_841 : decode cL_law 841 = .ok (.aload_n 0, 1) := by decide +kernel
theorem dL_law_842 : decode cL_law 842 = .ok (.iload 4, 2) := by decide +kernel
theorem dL_law_844 : decode cL_law 844 = .ok (.iconst 1, 1) := by decide +kernel
theorem dL_law_845 : decode cL_law 845 = .ok (.iadd, 1) := by decide +kernel
theorem dL_law_846 : decode cL_law 846 = .ok (.iaload, 1) := by decide +kernel
theorem dL_law_847 : decode cL_law 847 = .ok (.aload_n 0, 1) := by decide +kernel
theorem dL_law_848 : decode cL_law 848 = .ok (.iload 4, 2) := by decide +kernel
theorem dL_law_850 : decode cL_law 850 = .ok (.iconst 2, 1) := by decide +kernel
theorem dL_law_851 : decode cL_law 851 = .ok (.iadd, 1) := by decide +kernel
theorem dL_law_852 : decode cL_law 852 = .ok (.iaload, 1) := by decide +kernel
theorem dL_law_853 : decode cL_law 853 = .ok (.aload_n 3, 1) := by decide +kernel
theorem dL_law_854 : decode cL_law 854 = .ok (.invokestatic 121, 3) := by decide +kernel
theorem dL_law_857 : decode cL_law 857 = .ok (.istore 5, 2) := by decide +kernel
theorem dL_law_859 : decode cL_law 859 = .ok (.aload_n 2, 1) := by decide +kernel
theorem dL_law_860 : decode cL_law 860 = .ok (.aload_n 0, 1) := by decide +kernel
theorem dL_law_861 : decode cL_law 861 = .ok (.iload 4, 2) := by decide +kernel
theorem dL_law_863 : decode cL_law 863 = .ok (.iconst 1, 1) := by decide +kernel
theorem dL_law_864 : decode cL_law 864 = .ok (.iadd, 1) := by decide +kernel
theorem dL_law_865 : decode cL_law 865 = .ok (.iaload, 1) := by decide +kernel
theorem dL_law_866 : decode cL_law 866 = .ok (.aload_n 0, 1) := by decide +kernel
theorem dL_law_867 : decode cL_law 867 = .ok (.iload 4, 2) := by decide +kernel
theorem dL_law_869 : decode cL_law 869 = .ok (.iconst 2, 1) := by decide +kernel
theorem dL_law_870 : decode cL_law 870 = .ok (.iadd, 1) := by decide +kernel
theorem dL_law_871 : decode cL_law 871 = .ok (.iaload, 1) := by decide +kernel
theorem dL_law_872 : decode cL_law 872 = .ok (.invokevirtual 123, 3) := by decide +kernel
theorem dL_law_875 : decode cL_law 875 = .ok (.istore 6, 2) := by decide +kernel
theorem dL_law_877 : decode cL_law 877 = .ok (.aload_n 2, 1) := by decide +kernel
theorem dL_law_878 : decode cL_law 878 = .ok (.invokevirtual 89, 3) := by decide +kernel
theorem dL_law_881 : decode cL_law 881 = .ok (.iload 5, 2) := by decide +kernel
theorem dL_law_883 : decode cL_law 883 = .ok (.if_icmp .eq 5, 3) := by decide +kernel
theorem dL_law_886 : decode cL_law 886 = .ok (.iconst 0, 1) := by decide +kernel
theorem dL_law_887 : decode cL_law 887 = .ok (.ireturn, 1) := by decide +kernel
theorem dL_law_888 : decode cL_law 888 = .ok (.iload 5, 2) := by decide +kernel
theorem dL_law_890 : decode cL_law 890 = .ok (.ifCond .ne 15, 3) := by decide +kernel
theorem dL_law_893 : decode cL_law 893 = .ok (.aload_n 3, 1) := by decide +kernel
theorem dL_law_894 : decode cL_law 894 = .ok (.iconst 0, 1) := by decide +kernel
theorem dL_law_895 : decode cL_law 895 = .ok (.laload, 1) := by decide +kernel
theorem dL_law_896 : decode cL_law 896 = .ok (.iload 6, 2) := by decide +kernel
theorem dL_law_898 : decode cL_law 898 = .ok (.i2l, 1) := by decide +kernel
theorem dL_law_899 : decode cL_law 899 = .ok (.lcmp, 1) := by decide +kernel
theorem dL_law_900 : decode cL_law 900 = .ok (.ifCond .eq 5, 3) := by decide +kernel
theorem dL_law_903 : decode cL_law 903 = .ok (.iconst 0, 1) := by decide +kernel
theorem dL_law_904 : decode cL_law 904 = .ok (.ireturn, 1) := by decide +kernel
theorem dL_law_905 : decode cL_law 905 = .ok (.goto 608, 3) := by decide +kernel
theorem dL_law_908 : decode cL_law 908 = .ok (.aload_n 1, 1) := by decide +kernel
theorem dL_law_909 : decode cL_law 909 = .ok (.aload_n 0, 1) := by decide +kernel
theorem dL_law_910 : decode cL_law 910 = .ok (.iload 4, 2) := by decide +kernel
theorem dL_law_912 : decode cL_law 912 = .ok (.iconst 1, 1) := by decide +kernel
theorem dL_law_913 : decode cL_law 913 = .ok (.iadd, 1) := by decide +kernel
theorem dL_law_914 : decode cL_law 914 = .ok (.iaload, 1) := by decide +kernel
theorem dL_law_915 : decode cL_law 915 = .ok (.aload_n 0, 1) := by decide +kernel
theorem dL_law_916 : decode cL_law 916 = .ok (.iload 4, 2) := by decide +kernel
theorem dL_law_918 : decode cL_law 918 = .ok (.iconst 2, 1) := by decide +kernel
theorem dL_law_919 : decode cL_law 919 = .ok (.iadd, 1) := by decide +kernel
theorem dL_law_920 : decode cL_law 920 = .ok (.iaload, 1) := by decide +kernel
theorem dL_law_921 : decode cL_law 921 = .ok (.aload_n 3, 1) := by decide +kernel
theorem dL_law_922 : decode cL_law 922 = .ok (.invokestatic 124, 3) := by decide +kernel
theorem dL_law_925 : decode cL_law 925 = .ok (.istore 5, 2) := by decide +kernel
theorem dL_law_927 : decode cL_law 927 = .ok (.aload_n 2, 1) := by decide +kernel
theorem dL_law_928 : decode cL_law 928 = .ok (.aload_n 0, 1) := by decide +kernel
theorem dL_law_929 : decode cL_law 929 = .ok (.iload 4, 2) := by decide +kernel
theorem dL_law_931 : decode cL_law 931 = .ok (.iconst 1, 1) := by decide +kernel
theorem dL_law_932 : decode cL_law 932 = .ok (.iadd, 1) := by decide +kernel
theorem dL_law_933 : decode cL_law 933 = .ok (.iaload, 1) := by decide +kernel
theorem dL_law_934 : decode cL_law 934 = .ok (.aload_n 0, 1) := by decide +kernel
theorem dL_law_935 : decode cL_law 935 = .ok (.iload 4, 2) := by decide +kernel
theorem dL_law_937 : decode cL_law 937 = .ok (.iconst 2, 1) := by decide +kernel
theorem dL_law_938 : decode cL_law 938 = .ok (.iadd, 1) := by decide +kernel
theorem dL_law_939 : decode cL_law 939 = .ok (.iaload, 1) := by decide +kernel
theorem dL_law_940 : decode cL_law 940 = .ok (.invokevirtual 126, 3) := by decide +kernel
theorem dL_law_943 : decode cL_law 943 = .ok (.istore 6, 2) := by decide +kernel
theorem dL_law_945 : decode cL_law 945 = .ok (.aload_n 2, 1) := by decide +kernel
theorem dL_law_946 : decode cL_law 946 = .ok (.invokevirtual 89, 3) := by decide +kernel
theorem dL_law_949 : decode cL_law 949 = .ok (.iload 5, 2) := by decide +kernel
theorem dL_law_951 : decode cL_law 951 = .ok (.if_icmp .eq 5, 3) := by decide +kernel
theorem dL_law_954 : decode cL_law 954 = .ok (.iconst 0, 1) := by decide +kernel
theorem dL_law_955 : decode cL_law 955 = .ok (.ireturn, 1) := by decide +kernel
theorem dL_law_956 : decode cL_law 956 = .ok (.iload 5, 2) := by decide +kernel
theorem dL_law_958 : decode cL_law 958 = .ok (.ifCond .ne 15, 3) := by decide +kernel
theorem dL_law_961 : decode cL_law 961 = .ok (.aload_n 3, 1) := by decide +kernel
theorem dL_law_962 : decode cL_law 962 = .ok (.iconst 0, 1) := by decide +kernel
theorem dL_law_963 : decode cL_law 963 = .ok (.laload, 1) := by decide +kernel
theorem dL_law_964 : decode cL_law 964 = .ok (.iload 6, 2) := by decide +kernel
theorem dL_law_966 : decode cL_law 966 = .ok (.i2l, 1) := by decide +kernel
theorem dL_law_967 : decode cL_law 967 = .ok (.lcmp, 1) := by decide +kernel
theorem dL_law_968 : decode cL_law 968 = .ok (.ifCond .eq 5, 3) := by decide +kernel
theorem dL_law_971 : decode cL_law 971 = .ok (.iconst 0, 1) := by decide +kernel
theorem dL_law_972 : decode cL_law 972 = .ok (.ireturn, 1) := by decide +kernel
theorem dL_law_973 : decode cL_law 973 = .ok (.goto 540, 3) := by decide +kernel
theorem dL_law_976 : decode cL_law 976 = .ok (.aload_n 1, 1) := by decide +kernel
theorem dL_law_977 : decode cL_law 977 = .ok (.aload_n 0, 1) := by decide +kernel
theorem dL_law_978 : decode cL_law 978 = .ok (.iload 4, 2) := by decide +kernel
theorem dL_law_980 : decode cL_law 980 = .ok (.iconst 1, 1) := by decide +kernel
theorem dL_law_981 : decode cL_law 981 = .ok (.iadd, 1) := by decide +kernel
theorem dL_law_982 : decode cL_law 982 = .ok (.iaload, 1) := by decide +kernel
theorem dL_law_983 : decode cL_law 983 = .ok (.aload_n 3, 1) := by decide +kernel
theorem dL_law_984 : decode cL_law 984 = .ok (.invokestatic 127, 3) := by decide +kernel
theorem dL_law_987 : decode cL_law 987 = .ok (.istore 5, 2) := by decide +kernel
theorem dL_law_989 : decode cL_law 989 = .ok (.aload_n 2, 1) := by decide +kernel
theorem dL_law_990 : decode cL_law 990 = .ok (.aload_n 0, 1) := by decide +kernel
theorem dL_law_991 : decode cL_law 991 = .ok (.iload 4, 2) := by decide +kernel
theorem dL_law_993 : decode cL_law 993 = .ok (.iconst 1, 1) := by decide +kernel
theorem dL_law_994 : decode cL_law 994 = .ok (.iadd, 1) := by decide +kernel
theorem dL_law_995 : decode cL_law 995 = .ok (.iaload, 1) := by decide +kernel
theorem dL_law_996 : decode cL_law 996 = .ok (.invokevirtual 129, 3) := by decide +kernel
theorem dL_law_999 : decode cL_law 999 = .ok (.istore 6, 2) := by decide +kernel
theorem dL_law_1001 : decode cL_law 1001 = .ok (.aload_n 2, 1) := by decide +kernel
theorem dL_law_1002 : decode cL_law 1002 = .ok (.invokevirtual 89, 3) := by decide +kernel
theorem dL_law_1005 : decode cL_law 1005 = .ok (.iload 5, 2) := by decide +kernel
theorem dL_law_1007 : decode cL_law 1007 = .ok (.if_icmp .eq 5, 3) := by decide +kernel
theorem dL_law_1010 : decode cL_law 1010 = .ok (.iconst 0, 1) := by decide +kernel
theorem dL_law_1011 : decode cL_law 1011 = .ok (.ireturn, 1) := by decide +kernel
theorem dL_law_1012 : decode cL_law 1012 = .ok (.iload 5, 2) := by decide +kernel
theorem dL_law_1014 : decode cL_law 1014 = .ok (.ifCond .ne 15, 3) := by decide +kernel
theorem dL_law_1017 : decode cL_law 1017 = .ok (.aload_n 3, 1) := by decide +kernel
theorem dL_law_1018 : decode cL_law 1018 = .ok (.iconst 0, 1) := by decide +kernel
theorem dL_law_1019 : decode cL_law 1019 = .ok (.laload, 1) := by decide +kernel
theorem dL_law_1020 : decode cL_law 1020 = .ok (.iload 6, 2) := by decide +kernel
theorem dL_law_1022 : decode cL_law 1022 = .ok (.i2l, 1) := by decide +kernel
theorem dL_law_1023 : decode cL_law 1023 = .ok (.lcmp, 1) := by decide +kernel
theorem dL_law_1024 : decode cL_law 1024 = .ok (.ifCond .eq 5, 3) := by decide +kernel
theorem dL_law_1027 : decode cL_law 1027 = .ok (.iconst 0, 1) := by decide +kernel
theorem dL_law_1028 : decode cL_law 1028 = .ok (.ireturn, 1) := by decide +kernel
theorem dL_law_1029 : decode cL_law 1029 = .ok (.goto 484, 3) := by decide +kernel
theorem dL_law_1032 : decode cL_law 1032 = .ok (.aload_n 1, 1) := by decide +kernel
theorem dL_law_1033 : decode cL_law 1033 = .ok (.aload_n 0, 1) := by decide +kernel
theorem dL_law_1034 : decode cL_law 1034 = .ok (.iload 4, 2) := by decide +kernel
theorem dL_law_1036 : decode cL_law 1036 = .ok (.iconst 1, 1) := by decide +kernel
theorem dL_law_1037 : decode cL_law 1037 = .ok (.iadd, 1) := by decide +kernel
theorem dL_law_1038 : decode cL_law 1038 = .ok (.iaload, 1) := by decide +kernel
theorem dL_law_1039 : decode cL_law 1039 = .ok (.aload_n 0, 1) := by decide +kernel
theorem dL_law_1040 : decode cL_law 1040 = .ok (.iload 4, 2) := by decide +kernel
theorem dL_law_1042 : decode cL_law 1042 = .ok (.iconst 2, 1) := by decide +kernel
theorem dL_law_1043 : decode cL_law 1043 = .ok (.iadd, 1) := by decide +kernel
theorem dL_law_1044 : decode cL_law 1044 = .ok (.iaload, 1) := by decide +kernel
theorem dL_law_1045 : decode cL_law 1045 = .ok (.aload_n 0, 1) := by decide +kernel
theorem dL_law_1046 : decode cL_law 1046 = .ok (.iload 4, 2) := by decide +kernel
theorem dL_law_1048 : decode cL_law 1048 = .ok (.iconst 3, 1) := by decide +kernel
theorem dL_law_1049 : decode cL_law 1049 = .ok (.iadd, 1) := by decide +kernel
theorem dL_law_1050 : decode cL_law 1050 = .ok (.iaload, 1) := by decide +kernel
theorem dL_law_1051 : decode cL_law 1051 = .ok (.aload_n 3, 1) := by decide +kernel
theorem dL_law_1052 : decode cL_law 1052 = .ok (.invokestatic 130, 3) := by decide +kernel
theorem dL_law_1055 : decode cL_law 1055 = .ok (.istore 5, 2) := by decide +kernel
theorem dL_law_1057 : decode cL_law 1057 = .ok (.aload_n 2, 1) := by decide +kernel
theorem dL_law_1058 : decode cL_law 1058 = .ok (.aload_n 0, 1) := by decide +kernel
theorem dL_law_1059 : decode cL_law 1059 = .ok (.iload 4, 2) := by decide +kernel
theorem dL_law_1061 : decode cL_law 1061 = .ok (.iconst 1, 1) := by decide +kernel
theorem dL_law_1062 : decode cL_law 1062 = .ok (.iadd, 1) := by decide +kernel
theorem dL_law_1063 : decode cL_law 1063 = .ok (.iaload, 1) := by decide +kernel
theorem dL_law_1064 : decode cL_law 1064 = .ok (.aload_n 0, 1) := by decide +kernel
theorem dL_law_1065 : decode cL_law 1065 = .ok (.iload 4, 2) := by decide +kernel
theorem dL_law_1067 : decode cL_law 1067 = .ok (.iconst 2, 1) := by decide +kernel
theorem dL_law_1068 : decode cL_law 1068 = .ok (.iadd, 1) := by decide +kernel
theorem dL_law_1069 : decode cL_law 1069 = .ok (.iaload, 1) := by decide +kernel
theorem dL_law_1070 : decode cL_law 1070 = .ok (.aload_n 0, 1) := by decide +kernel
theorem dL_law_1071 : decode cL_law 1071 = .ok (.iload 4, 2) := by decide +kernel
theorem dL_law_1073 : decode cL_law 1073 = .ok (.iconst 3, 1) := by decide +kernel
theorem dL_law_1074 : decode cL_law 1074 = .ok (.iadd, 1) := by decide +kernel
theorem dL_law_1075 : decode cL_law 1075 = .ok (.iaload, 1) := by decide +kernel
theorem dL_law_1076 : decode cL_law 1076 = .ok (.invokevirtual 132, 3) := by decide +kernel
theorem dL_law_1079 : decode cL_law 1079 = .ok (.istore 6, 2) := by decide +kernel
theorem dL_law_1081 : decode cL_law 1081 = .ok (.aload_n 2, 1) := by decide +kernel
theorem dL_law_1082 : decode cL_law 1082 = .ok (.invokevirtual 89, 3) := by decide +kernel
theorem dL_law_1085 : decode cL_law 1085 = .ok (.iload 5, 2) := by decide +kernel
theorem dL_law_1087 : decode cL_law 1087 = .ok (.if_icmp .eq 5, 3) := by decide +kernel
theorem dL_law_1090 : decode cL_law 1090 = .ok (.iconst 0, 1) := by decide +kernel
theorem dL_law_1091 : decode cL_law 1091 = .ok (.ireturn, 1) := by decide +kernel
theorem dL_law_1092 : decode cL_law 1092 = .ok (.iload 5, 2) := by decide +kernel
theorem dL_law_1094 : decode cL_law 1094 = .ok (.ifCond .ne 15, 3) := by decide +kernel
theorem dL_law_1097 : decode cL_law 1097 = .ok (.aload_n 3, 1) := by decide +kernel
theorem dL_law_1098 : decode cL_law 1098 = .ok (.iconst 0, 1) := by decide +kernel
theorem dL_law_1099 : decode cL_law 1099 = .ok (.laload, 1) := by decide +kernel
theorem dL_law_1100 : decode cL_law 1100 = .ok (.iload 6, 2) := by decide +kernel
theorem dL_law_1102 : decode cL_law 1102 = .ok (.i2l, 1) := by decide +kernel
theorem dL_law_1103 : decode cL_law 1103 = .ok (.lcmp, 1) := by decide +kernel
theorem dL_law_1104 : decode cL_law 1104 = .ok (.ifCond .eq 5, 3) := by decide +kernel
theorem dL_law_1107 : decode cL_law 1107 = .ok (.iconst 0, 1) := by decide +kernel
theorem dL_law_1108 : decode cL_law 1108 = .ok (.ireturn, 1) := by decide +kernel
theorem dL_law_1109 : decode cL_law 1109 = .ok (.goto 404, 3) := by decide +kernel
theorem dL_law_1112 : decode cL_law 1112 = .ok (.aload_n 1, 1) := by decide +kernel
theorem dL_law_1113 : decode cL_law 1113 = .ok (.aload_n 0, 1) := by decide +kernel
theorem dL_law_1114 : decode cL_law 1114 = .ok (.iload 4, 2) := by decide +kernel
theorem dL_law_1116 : decode cL_law 1116 = .ok (.iconst 1, 1) := by decide +kernel
theorem dL_law_1117 : decode cL_law 1117 = .ok (.iadd, 1) := by decide +kernel
theorem dL_law_1118 : decode cL_law 1118 = .ok (.iaload, 1) := by decide +kernel
theorem dL_law_1119 : decode cL_law 1119 = .ok (.aload_n 0, 1) := by decide +kernel
theorem dL_law_1120 : decode cL_law 1120 = .ok (.iload 4, 2) := by decide +kernel
theorem dL_law_1122 : decode cL_law 1122 = .ok (.iconst 2, 1) := by decide +kernel
theorem dL_law_1123 : decode cL_law 1123 = .ok (.iadd, 1) := by decide +kernel
theorem dL_law_1124 : decode cL_law 1124 = .ok (.iaload, 1) := by decide +kernel
theorem dL_law_1125 : decode cL_law 1125 = .ok (.aload_n 0, 1) := by decide +kernel
theorem dL_law_1126 : decode cL_law 1126 = .ok (.iload 4, 2) := by decide +kernel
theorem dL_law_1128 : decode cL_law 1128 = .ok (.iconst 3, 1) := by decide +kernel
theorem dL_law_1129 : decode cL_law 1129 = .ok (.iadd, 1) := by decide +kernel
theorem dL_law_1130 : decode cL_law 1130 = .ok (.iaload, 1) := by decide +kernel
theorem dL_law_1131 : decode cL_law 1131 = .ok (.aload_n 3, 1) := by decide +kernel
theorem dL_law_1132 : decode cL_law 1132 = .ok (.invokestatic 133, 3) := by decide +kernel
theorem dL_law_1135 : decode cL_law 1135 = .ok (.istore 5, 2) := by decide +kernel
theorem dL_law_1137 : decode cL_law 1137 = .ok (.aload_n 2, 1) := by decide +kernel
theorem dL_law_1138 : decode cL_law 1138 = .ok (.aload_n 0, 1) := by decide +kernel
theorem dL_law_1139 : decode cL_law 1139 = .ok (.iload 4, 2) := by decide +kernel
theorem dL_law_1141 : decode cL_law 1141 = .ok (.iconst 1, 1) := by decide +kernel
theorem dL_law_1142 : decode cL_law 1142 = .ok (.iadd, 1) := by decide +kernel
theorem dL_law_1143 : decode cL_law 1143 = .ok (.iaload, 1) := by decide +kernel
theorem dL_law_1144 : decode cL_law 1144 = .ok (.aload_n 0, 1) := by decide +kernel
theorem dL_law_1145 : decode cL_law 1145 = .ok (.iload 4, 2) := by decide +kernel
theorem dL_law_1147 : decode cL_law 1147 = .ok (.iconst 2, 1) := by decide +kernel
theorem dL_law_1148 : decode cL_law 1148 = .ok (.iadd, 1) := by decide +kernel
theorem dL_law_1149 : decode cL_law 1149 = .ok (.iaload, 1) := by decide +kernel
theorem dL_law_1150 : decode cL_law 1150 = .ok (.aload_n 0, 1) := by decide +kernel
theorem dL_law_1151 : decode cL_law 1151 = .ok (.iload 4, 2) := by decide +kernel
theorem dL_law_1153 : decode cL_law 1153 = .ok (.iconst 3, 1) := by decide +kernel
theorem dL_law_1154 : decode cL_law 1154 = .ok (.iadd, 1) := by decide +kernel
theorem dL_law_1155 : decode cL_law 1155 = .ok (.iaload, 1) := by decide +kernel
theorem dL_law_1156 : decode cL_law 1156 = .ok (.invokevirtual 135, 3) := by decide +kernel
theorem dL_law_1159 : decode cL_law 1159 = .ok (.istore 6, 2) := by decide +kernel
theorem dL_law_1161 : decode cL_law 1161 = .ok (.aload_n 2, 1) := by decide +kernel
theorem dL_law_1162 : decode cL_law 1162 = .ok (.invokevirtual 89, 3) := by decide +kernel
theorem dL_law_1165 : decode cL_law 1165 = .ok (.iload 5, 2) := by decide +kernel
theorem dL_law_1167 : decode cL_law 1167 = .ok (.if_icmp .eq 5, 3) := by decide +kernel
theorem dL_law_1170 : decode cL_law 1170 = .ok (.iconst 0, 1) := by decide +kernel
theorem dL_law_1171 : decode cL_law 1171 = .ok (.ireturn, 1) := by decide +kernel
theorem dL_law_1172 : decode cL_law 1172 = .ok (.iload 5, 2) := by decide +kernel
theorem dL_law_1174 : decode cL_law 1174 = .ok (.ifCond .ne 15, 3) := by decide +kernel
theorem dL_law_1177 : decode cL_law 1177 = .ok (.aload_n 3, 1) := by decide +kernel
theorem dL_law_1178 : decode cL_law 1178 = .ok (.iconst 0, 1) := by decide +kernel
theorem dL_law_1179 : decode cL_law 1179 = .ok (.laload, 1) := by decide +kernel
theorem dL_law_1180 : decode cL_law 1180 = .ok (.iload 6, 2) := by decide +kernel
theorem dL_law_1182 : decode cL_law 1182 = .ok (.i2l, 1) := by decide +kernel
theorem dL_law_1183 : decode cL_law 1183 = .ok (.lcmp, 1) := by decide +kernel
theorem dL_law_1184 : decode cL_law 1184 = .ok (.ifCond .eq 5, 3) := by decide +kernel
theorem dL_law_1187 : decode cL_law 1187 = .ok (.iconst 0, 1) := by decide +kernel
theorem dL_law_1188 : decode cL_law 1188 = .ok (.ireturn, 1) := by decide +kernel
theorem dL_law_1189 : decode cL_law 1189 = .ok (.goto 324, 3) := by decide +kernel
theorem dL_law_1192 : decode cL_law 1192 = .ok (.aload_n 1, 1) := by decide +kernel
theorem dL_law_1193 : decode cL_law 1193 = .ok (.aload_n 0, 1) := by decide +kernel
theorem dL_law_1194 : decode cL_law 1194 = .ok (.iload 4, 2) := by decide +kernel
theorem dL_law_1196 : decode cL_law 1196 = .ok (.iconst 1, 1) := by decide +kernel
theorem dL_law_1197 : decode cL_law 1197 = .ok (.iadd, 1) := by decide +kernel
theorem dL_law_1198 : decode cL_law 1198 = .ok (.iaload, 1) := by decide +kernel
theorem dL_law_1199 : decode cL_law 1199 = .ok (.aload_n 3, 1) := by decide +kernel
theorem dL_law_1200 : decode cL_law 1200 = .ok (.invokestatic 136, 3) := by decide +kernel
theorem dL_law_1203 : decode cL_law 1203 = .ok (.istore 5, 2) := by decide +kernel
theorem dL_law_1205 : decode cL_law 1205 = .ok (.aload_n 2, 1) := by decide +kernel
theorem dL_law_1206 : decode cL_law 1206 = .ok (.aload_n 0, 1) := by decide +kernel
theorem dL_law_1207 : decode cL_law 1207 = .ok (.iload 4, 2) := by decide +kernel
theorem dL_law_1209 : decode cL_law 1209 = .ok (.iconst 1, 1) := by decide +kernel
theorem dL_law_1210 : decode cL_law 1210 = .ok (.iadd, 1) := by decide +kernel
theorem dL_law_1211 : decode cL_law 1211 = .ok (.iaload, 1) := by decide +kernel
theorem dL_law_1212 : decode cL_law 1212 = .ok (.invokevirtual 138, 3) := by decide +kernel
theorem dL_law_1215 : decode cL_law 1215 = .ok (.istore 6, 2) := by decide +kernel
theorem dL_law_1217 : decode cL_law 1217 = .ok (.aload_n 2, 1) := by decide +kernel
theorem dL_law_1218 : decode cL_law 1218 = .ok (.invokevirtual 89, 3) := by decide +kernel
theorem dL_law_1221 : decode cL_law 1221 = .ok (.iload 5, 2) := by decide +kernel
theorem dL_law_1223 : decode cL_law 1223 = .ok (.if_icmp .eq 5, 3) := by decide +kernel
theorem dL_law_1226 : decode cL_law 1226 = .ok (.iconst 0, 1) := by decide +kernel
theorem dL_law_1227 : decode cL_law 1227 = .ok (.ireturn, 1) := by decide +kernel
theorem dL_law_1228 : decode cL_law 1228 = .ok (.iload 5, 2) := by decide +kernel
theorem dL_law_1230 : decode cL_law 1230 = .ok (.ifCond .ne 15, 3) := by decide +kernel
theorem dL_law_1233 : decode cL_law 1233 = .ok (.aload_n 3, 1) := by decide +kernel
theorem dL_law_1234 : decode cL_law 1234 = .ok (.iconst 0, 1) := by decide +kernel
theorem dL_law_1235 : decode cL_law 1235 = .ok (.laload, 1) := by decide +kernel
theorem dL_law_1236 : decode cL_law 1236 = .ok (.iload 6, 2) := by decide +kernel
theorem dL_law_1238 : decode cL_law 1238 = .ok (.i2l, 1) := by decide +kernel
theorem dL_law_1239 : decode cL_law 1239 = .ok (.lcmp, 1) := by decide +kernel
theorem dL_law_1240 : decode cL_law 1240 = .ok (.ifCond .eq 5, 3) := by decide +kernel
theorem dL_law_1243 : decode cL_law 1243 = .ok (.iconst 0, 1) := by decide +kernel
theorem dL_law_1244 : decode cL_law 1244 = .ok (.ireturn, 1) := by decide +kernel
theorem dL_law_1245 : decode cL_law 1245 = .ok (.goto 268, 3) := by decide +kernel
theorem dL_law_1248 : decode cL_law 1248 = .ok (.aload_n 1, 1) := by decide +kernel
theorem dL_law_1249 : decode cL_law 1249 = .ok (.aload_n 0, 1) := by decide +kernel
theorem dL_law_1250 : decode cL_law 1250 = .ok (.iload 4, 2) := by decide +kernel
theorem dL_law_1252 : decode cL_law 1252 = .ok (.iconst 1, 1) := by decide +kernel
theorem dL_law_1253 : decode cL_law 1253 = .ok (.iadd, 1) := by decide +kernel
theorem dL_law_1254 : decode cL_law 1254 = .ok (.iaload, 1) := by decide +kernel
theorem dL_law_1255 : decode cL_law 1255 = .ok (.aload_n 3, 1) := by decide +kernel
theorem dL_law_1256 : decode cL_law 1256 = .ok (.invokestatic 139, 3) := by decide +kernel
theorem dL_law_1259 : decode cL_law 1259 = .ok (.istore 5, 2) := by decide +kernel
theorem dL_law_1261 : decode cL_law 1261 = .ok (.aload_n 2, 1) := by decide +kernel
theorem dL_law_1262 : decode cL_law 1262 = .ok (.aload_n 0, 1) := by decide +kernel
theorem dL_law_1263 : decode cL_law 1263 = .ok (.iload 4, 2) := by decide +kernel
theorem dL_law_1265 : decode cL_law 1265 = .ok (.iconst 1, 1) := by decide +kernel
theorem dL_law_1266 : decode cL_law 1266 = .ok (.iadd, 1) := by decide +kernel
theorem dL_law_1267 : decode cL_law 1267 = .ok (.iaload, 1) := by decide +kernel
theorem dL_law_1268 : decode cL_law 1268 = .ok (.invokevirtual 141, 3) := by decide +kernel
theorem dL_law_1271 : decode cL_law 1271 = .ok (.istore 6, 2) := by decide +kernel
theorem dL_law_1273 : decode cL_law 1273 = .ok (.aload_n 2, 1) := by decide +kernel
theorem dL_law_1274 : decode cL_law 1274 = .ok (.invokevirtual 89, 3) := by decide +kernel
theorem dL_law_1277 : decode cL_law 1277 = .ok (.iload 5, 2) := by decide +kernel
theorem dL_law_1279 : decode cL_law 1279 = .ok (.if_icmp .eq 5, 3) := by decide +kernel
theorem dL_law_1282 : decode cL_law 1282 = .ok (.iconst 0, 1) := by decide +kernel
theorem dL_law_1283 : decode cL_law 1283 = .ok (.ireturn, 1) := by decide +kernel
theorem dL_law_1284 : decode cL_law 1284 = .ok (.iload 5, 2) := by decide +kernel
theorem dL_law_1286 : decode cL_law 1286 = .ok (.ifCond .ne 15, 3) := by decide +kernel
theorem dL_law_1289 : decode cL_law 1289 = .ok (.aload_n 3, 1) := by decide +kernel
theorem dL_law_1290 : decode cL_law 1290 = .ok (.iconst 0, 1) := by decide +kernel
theorem dL_law_1291 : decode cL_law 1291 = .ok (.laload, 1) := by decide +kernel
theorem dL_law_1292 : decode cL_law 1292 = .ok (.iload 6, 2) := by decide +kernel
theorem dL_law_1294 : decode cL_law 1294 = .ok (.i2l, 1) := by decide +kernel
theorem dL_law_1295 : decode cL_law 1295 = .ok (.lcmp, 1) := by decide +kernel
theorem dL_law_1296 : decode cL_law 1296 = .ok (.ifCond .eq 5, 3) := by decide +kernel
theorem dL_law_1299 : decode cL_law 1299 = .ok (.iconst 0, 1) := by decide +kernel
theorem dL_law_1300 : decode cL_law 1300 = .ok (.ireturn, 1) := by decide +kernel
theorem dL_law_1301 : decode cL_law 1301 = .ok (.goto 212, 3) := by decide +kernel
theorem dL_law_1304 : decode cL_law 1304 = .ok (.aload_n 1, 1) := by decide +kernel
theorem dL_law_1305 : decode cL_law 1305 = .ok (.aload_n 0, 1) := by decide +kernel
theorem dL_law_1306 : decode cL_law 1306 = .ok (.iload 4, 2) := by decide +kernel
theorem dL_law_1308 : decode cL_law 1308 = .ok (.iconst 1, 1) := by decide +kernel
theorem dL_law_1309 : decode cL_law 1309 = .ok (.iadd, 1) := by decide +kernel
theorem dL_law_1310 : decode cL_law 1310 = .ok (.iaload, 1) := by decide +kernel
theorem dL_law_1311 : decode cL_law 1311 = .ok (.aload_n 3, 1) := by decide +kernel
theorem dL_law_1312 : decode cL_law 1312 = .ok (.invokestatic 142, 3) := by decide +kernel
theorem dL_law_1315 : decode cL_law 1315 = .ok (.istore 5, 2) := by decide +kernel
theorem dL_law_1317 : decode cL_law 1317 = .ok (.aload_n 2, 1) := by decide +kernel
theorem dL_law_1318 : decode cL_law 1318 = .ok (.aload_n 0, 1) := by decide +kernel
theorem dL_law_1319 : decode cL_law 1319 = .ok (.iload 4, 2) := by decide +kernel
theorem dL_law_1321 : decode cL_law 1321 = .ok (.iconst 1, 1) := by decide +kernel
theorem dL_law_1322 : decode cL_law 1322 = .ok (.iadd, 1) := by decide +kernel
theorem dL_law_1323 : decode cL_law 1323 = .ok (.iaload, 1) := by decide +kernel
theorem dL_law_1324 : decode cL_law 1324 = .ok (.invokevirtual 144, 3) := by decide +kernel
theorem dL_law_1327 : decode cL_law 1327 = .ok (.istore 6, 2) := by decide +kernel
theorem dL_law_1329 : decode cL_law 1329 = .ok (.aload_n 2, 1) := by decide +kernel
theorem dL_law_1330 : decode cL_law 1330 = .ok (.invokevirtual 89, 3) := by decide +kernel
theorem dL_law_1333 : decode cL_law 1333 = .ok (.iload 5, 2) := by decide +kernel
theorem dL_law_1335 : decode cL_law 1335 = .ok (.if_icmp .eq 5, 3) := by decide +kernel
theorem dL_law_1338 : decode cL_law 1338 = .ok (.iconst 0, 1) := by decide +kernel
theorem dL_law_1339 : decode cL_law 1339 = .ok (.ireturn, 1) := by decide +kernel
theorem dL_law_1340 : decode cL_law 1340 = .ok (.iload 5, 2) := by decide +kernel
theorem dL_law_1342 : decode cL_law 1342 = .ok (.ifCond .ne 15, 3) := by decide +kernel
theorem dL_law_1345 : decode cL_law 1345 = .ok (.aload_n 3, 1) := by decide +kernel
theorem dL_law_1346 : decode cL_law 1346 = .ok (.iconst 0, 1) := by decide +kernel
theorem dL_law_1347 : decode cL_law 1347 = .ok (.laload, 1) := by decide +kernel
theorem dL_law_1348 : decode cL_law 1348 = .ok (.iload 6, 2) := by decide +kernel
theorem dL_law_1350 : decode cL_law 1350 = .ok (.i2l, 1) := by decide +kernel
theorem dL_law_1351 : decode cL_law 1351 = .ok (.lcmp, 1) := by decide +kernel
theorem dL_law_1352 : decode cL_law 1352 = .ok (.ifCond .eq 5, 3) := by decide +kernel
theorem dL_law_1355 : decode cL_law 1355 = .ok (.iconst 0, 1) := by decide +kernel
theorem dL_law_1356 : decode cL_law 1356 = .ok (.ireturn, 1) := by decide +kernel
theorem dL_law_1357 : decode cL_law 1357 = .ok (.goto 156, 3) := by decide +kernel
theorem dL_law_1360 : decode cL_law 1360 = .ok (.aload_n 1, 1) := by decide +kernel
theorem dL_law_1361 : decode cL_law 1361 = .ok (.invokevirtual 145, 3) := by decide +kernel
theorem dL_law_1364 : decode cL_law 1364 = .ok (.aload_n 2, 1) := by decide +kernel
theorem dL_law_1365 : decode cL_law 1365 = .ok (.invokevirtual 148, 3) := by decide +kernel
theorem dL_law_1368 : decode cL_law 1368 = .ok (.if_icmp .eq 145, 3) := by decide +kernel
theorem dL_law_1371 : decode cL_law 1371 = .ok (.iconst 0, 1) := by decide +kernel
theorem dL_law_1372 : decode cL_law 1372 = .ok (.ireturn, 1) := by decide +kernel
theorem dL_law_1373 : decode cL_law 1373 = .ok (.aload_n 1, 1) := by decide +kernel
theorem dL_law_1374 : decode cL_law 1374 = .ok (.aload_n 0, 1) := by decide +kernel
theorem dL_law_1375 : decode cL_law 1375 = .ok (.iload 4, 2) := by decide +kernel
theorem dL_law_1377 : decode cL_law 1377 = .ok (.iconst 1, 1) := by decide +kernel
theorem dL_law_1378 : decode cL_law 1378 = .ok (.iadd, 1) := by decide +kernel
theorem dL_law_1379 : decode cL_law 1379 = .ok (.iaload, 1) := by decide +kernel
theorem dL_law_1380 : decode cL_law 1380 = .ok (.aload_n 3, 1) := by decide +kernel
theorem dL_law_1381 : decode cL_law 1381 = .ok (.invokestatic 149, 3) := by decide +kernel
theorem dL_law_1384 : decode cL_law 1384 = .ok (.istore 5, 2) := by decide +kernel
theorem dL_law_1386 : decode cL_law 1386 = .ok (.aload_n 2, 1) := by decide +kernel
theorem dL_law_1387 : decode cL_law 1387 = .ok (.aload_n 0, 1) := by decide +kernel
theorem dL_law_1388 : decode cL_law 1388 = .ok (.iload 4, 2) := by decide +kernel
theorem dL_law_1390 : decode cL_law 1390 = .ok (.iconst 1, 1) := by decide +kernel
theorem dL_law_1391 : decode cL_law 1391 = .ok (.iadd, 1) := by decide +kernel
theorem dL_law_1392 : decode cL_law 1392 = .ok (.iaload, 1) := by decide +kernel
theorem dL_law_1393 : decode cL_law 1393 = .ok (.invokevirtual 151, 3) := by decide +kernel
theorem dL_law_1396 : decode cL_law 1396 = .ok (.istore 6, 2) := by decide +kernel
theorem dL_law_1398 : decode cL_law 1398 = .ok (.aload_n 2, 1) := by decide +kernel
theorem dL_law_1399 : decode cL_law 1399 = .ok (.invokevirtual 89, 3) := by decide +kernel
theorem dL_law_1402 : decode cL_law 1402 = .ok (.iload 5, 2) := by decide +kernel
theorem dL_law_1404 : decode cL_law 1404 = .ok (.if_icmp .eq 5, 3) := by decide +kernel
theorem dL_law_1407 : decode cL_law 1407 = .ok (.iconst 0, 1) := by decide +kernel
theorem dL_law_1408 : decode cL_law 1408 = .ok (.ireturn, 1) := by decide +kernel
theorem dL_law_1409 : decode cL_law 1409 = .ok (.iload 5, 2) := by decide +kernel
theorem dL_law_1411 : decode cL_law 1411 = .ok (.ifCond .ne 15, 3) := by decide +kernel
theorem dL_law_1414 : decode cL_law 1414 = .ok (.aload_n 3, 1) := by decide +kernel
theorem dL_law_1415 : decode cL_law 1415 = .ok (.iconst 0, 1) := by decide +kernel
theorem dL_law_1416 : decode cL_law 1416 = .ok (.laload, 1) := by decide +kernel
theorem dL_law_1417 : decode cL_law 1417 = .ok (.iload 6, 2) := by decide +kernel
theorem dL_law_1419 : decode cL_law 1419 = .ok (.i2l, 1) := by decide +kernel
theorem dL_law_1420 : decode cL_law 1420 = .ok (.lcmp, 1) := by decide +kernel
theorem dL_law_1421 : decode cL_law 1421 = .ok (.ifCond .eq 5, 3) := by decide +kernel
theorem dL_law_1424 : decode cL_law 1424 = .ok (.iconst 0, 1) := by decide +kernel
theorem dL_law_1425 : decode cL_law 1425 = .ok (.ireturn, 1) := by decide +kernel
theorem dL_law_1426 : decode cL_law 1426 = .ok (.goto 87, 3) := by decide +kernel
theorem dL_law_1429 : decode cL_law 1429 = .ok (.aload_n 1, 1) := by decide +kernel
theorem dL_law_1430 : decode cL_law 1430 = .ok (.invokevirtual 152, 3) := by decide +kernel
theorem dL_law_1433 : decode cL_law 1433 = .ok (.aload_n 2, 1) := by decide +kernel
theorem dL_law_1434 : decode cL_law 1434 = .ok (.invokevirtual 155, 3) := by decide +kernel
theorem dL_law_1437 : decode cL_law 1437 = .ok (.if_icmp .eq 76, 3) := by decide +kernel
theorem dL_law_1440 : decode cL_law 1440 = .ok (.iconst 0, 1) := by decide +kernel
theorem dL_law_1441 : decode cL_law 1441 = .ok (.ireturn, 1) := by decide +kernel
theorem dL_law_1442 : decode cL_law 1442 = .ok (.aload_n 1, 1) := by decide +kernel
theorem dL_law_1443 : decode cL_law 1443 = .ok (.invokevirtual 156, 3) := by decide +kernel
theorem dL_law_1446 : decode cL_law 1446 = .ok (.aload_n 2, 1) := by decide +kernel
theorem dL_law_1447 : decode cL_law 1447 = .ok (.invokevirtual 159, 3) := by decide +kernel
theorem dL_law_1450 : decode cL_law 1450 = .ok (.if_icmp .eq 63, 3) := by decide +kernel
theorem dL_law_1453 : decode cL_law 1453 = .ok (.iconst 0, 1) := by decide +kernel
theorem dL_law_1454 : decode cL_law 1454 = .ok (.ireturn, 1) := by decide +kernel
theorem dL_law_1455 : decode cL_law 1455 = .ok (.aload_n 1, 1) := by decide +kernel
theorem dL_law_1456 : decode cL_law 1456 = .ok (.aload_n 3, 1) := by decide +kernel
theorem dL_law_1457 : decode cL_law 1457 = .ok (.invokestatic 160, 3) := by decide +kernel
theorem dL_law_1460 : decode cL_law 1460 = .ok (.istore 5, 2) := by decide +kernel
theorem dL_law_1462 : decode cL_law 1462 = .ok (.aload_n 2, 1) := by decide +kernel
theorem dL_law_1463 : decode cL_law 1463 = .ok (.invokevirtual 163, 3) := by decide +kernel
theorem dL_law_1466 : decode cL_law 1466 = .ok (.istore 6, 2) := by decide +kernel
theorem dL_law_1468 : decode cL_law 1468 = .ok (.aload_n 2, 1) := by decide +kernel
theorem dL_law_1469 : decode cL_law 1469 = .ok (.invokevirtual 89, 3) := by decide +kernel
theorem dL_law_1472 : decode cL_law 1472 = .ok (.iload 5, 2) := by decide +kernel
theorem dL_law_1474 : decode cL_law 1474 = .ok (.if_icmp .eq 5, 3) := by decide +kernel
theorem dL_law_1477 : decode cL_law 1477 = .ok (.iconst 0, 1) := by decide +kernel
theorem dL_law_1478 : decode cL_law 1478 = .ok (.ireturn, 1) := by decide +kernel
theorem dL_law_1479 : decode cL_law 1479 = .ok (.iload 5, 2) := by decide +kernel
theorem dL_law_1481 : decode cL_law 1481 = .ok (.ifCond .ne 15, 3) := by decide +kernel
theorem dL_law_1484 : decode cL_law 1484 = .ok (.aload_n 3, 1) := by decide +kernel
theorem dL_law_1485 : decode cL_law 1485 = .ok (.iconst 0, 1) := by decide +kernel
theorem dL_law_1486 : decode cL_law 1486 = .ok (.laload, 1) := by decide +kernel
theorem dL_law_1487 : decode cL_law 1487 = .ok (.iload 6, 2) := by decide +kernel
theorem dL_law_1489 : decode cL_law 1489 = .ok (.i2l, 1) := by decide +kernel
theorem dL_law_1490 : decode cL_law 1490 = .ok (.lcmp, 1) := by decide +kernel
theorem dL_law_1491 : decode cL_law 1491 = .ok (.ifCond .eq 5, 3) := by decide +kernel
theorem dL_law_1494 : decode cL_law 1494 = .ok (.iconst 0, 1) := by decide +kernel
theorem dL_law_1495 : decode cL_law 1495 = .ok (.ireturn, 1) := by decide +kernel
theorem dL_law_1496 : decode cL_law 1496 = .ok (.goto 17, 3) := by decide +kernel
theorem dL_law_1499 : decode cL_law 1499 = .ok (.aload_n 1, 1) := by decide +kernel
theorem dL_law_1500 : decode cL_law 1500 = .ok (.invokevirtual 164, 3) := by decide +kernel
theorem dL_law_1503 : decode cL_law 1503 = .ok (.aload_n 2, 1) := by decide +kernel
theorem dL_law_1504 : decode cL_law 1504 = .ok (.invokevirtual 168, 3) := by decide +kernel
theorem dL_law_1507 : decode cL_law 1507 = .ok (.lcmp, 1) := by decide +kernel
theorem dL_law_1508 : decode cL_law 1508 = .ok (.ifCond .eq 5, 3) := by decide +kernel
theorem dL_law_1511 : decode cL_law 1511 = .ok (.iconst 0, 1) := by decide +kernel
theorem dL_law_1512 : decode cL_law 1512 = .ok (.ireturn, 1) := by decide +kernel
theorem dL_law_1513 : decode cL_law 1513 = .ok (.iinc 4 4, 3) := by decide +kernel
theorem dL_law_1516 : decode cL_law 1516 = .ok (.goto (-1493), 3) := by decide +kernel
theorem dL_law_1519 : decode cL_law 1519 = .ok (.iconst 1, 1) := by decide +kernel
theorem dL_law_1520 : decode cL_law 1520 = .ok (.ireturn, 1) := by decide +kernel
theorem dJ9_max_7cf53_0 : decode cJ9_max_7cf53 0 = .ok (.iload_n 0, 1) := by decide +kernel
theorem dJ9_max_7cf53_1 : decode cJ9_max_7cf53 1 = .ok (.iload_n 1, 1) := by decide +kernel
theorem dJ9_max_7cf53_2 : decode cJ9_max_7cf53 2 = .ok (.if_icmp .lt 7, 3) := by decide +kernel
theorem dJ9_max_7cf53_5 : decode cJ9_max_7cf53 5 = .ok (.iload_n 0, 1) := by decide +kernel
theorem dJ9_max_7cf53_6 : decode cJ9_max_7cf53 6 = .ok (.goto 4, 3) := by decide +kernel
theorem dJ9_max_7cf53_9 : decode cJ9_max_7cf53 9 = .ok (.iload_n 1, 1) := by decide +kernel
theorem dJ9_max_7cf53_10 : decode cJ9_max_7cf53 10 = .ok (.ireturn, 1) := by decide +kernel
theorem dJ9_min_7cf53_0 : decode cJ9_min_7cf53 0 = .ok (.iload_n 0, 1) := by decide +kernel
theorem dJ9_min_7cf53_1 : decode cJ9_min_7cf53 1 = .ok (.iload_n 1, 1) := by decide +kernel
theorem dJ9_min_7cf53_2 : decode cJ9_min_7cf53 2 = .ok (.if_icmp .gt 7, 3) := by decide +kernel
theorem dJ9_min_7cf53_5 : decode cJ9_min_7cf53 5 = .ok (.iload_n 0, 1) := by decide +kernel
theorem dJ9_min_7cf53_6 : decode cJ9_min_7cf53 6 = .ok (.goto 4, 3) := by decide +kernel
theorem dJ9_min_7cf53_9 : decode cJ9_min_7cf53 9 = .ok (.iload_n 1, 1) := by decide +kernel
theorem dJ9_min_7cf53_10 : decode cJ9_min_7cf53 10 = .ok (.ireturn, 1) := by decide +kernel
theorem dJ0_length_8abf5_0 : decode cJ0_length_8abf5 0 = .ok (.aload_n 0, 1) := by decide +kernel
theorem dJ0_length_8abf5_1 : decode cJ0_length_8abf5 1 = .ok (.getfield 9, 3) := by decide +kernel
theorem dJ0_length_8abf5_4 : decode cJ0_length_8abf5 4 = .ok (.arraylength, 1) := by decide +kernel
theorem dJ0_length_8abf5_5 : decode cJ0_length_8abf5 5 = .ok (.aload_n 0, 1) := by decide +kernel
theorem dJ0_length_8abf5_6 : decode cJ0_length_8abf5 6 = .ok (.invokevirtual 335, 3) := by decide +kernel
theorem dJ0_length_8abf5_9 : decode cJ0_length_8abf5 9 = .ok (.ishr, 1) := by decide +kernel
theorem dJ0_length_8abf5_10 : decode cJ0_length_8abf5 10 = .ok (.ireturn, 1) := by decide +kernel
theorem dJ0_charAt_5068e_0 : decode cJ0_charAt_5068e 0 = .ok (.aload_n 0, 1) := by decide +kernel
theorem dJ0_charAt_5068e_1 : decode cJ0_charAt_5068e 1 = .ok (.invokevirtual 492, 3) := by decide +kernel
theorem dJ0_charAt_5068e_4 : decode cJ0_charAt_5068e 4 = .ok (.ifCond .eq 12, 3) := by decide +kernel
theorem dJ0_charAt_5068e_7 : decode cJ0_charAt_5068e 7 = .ok (.aload_n 0, 1) := by decide +kernel
theorem dJ0_charAt_5068e_8 : decode cJ0_charAt_5068e 8 = .ok (.getfield 9, 3) := by decide +kernel
theorem dJ0_charAt_5068e_11 : decode cJ0_charAt_5068e 11 = .ok (.iload_n 1, 1) := by decide +kernel
theorem dJ0_charAt_5068e_12 : decode cJ0_charAt_5068e 12 = .ok (.invokestatic 495, 3) := by decide +kernel
theorem dJ0_charAt_5068e_15 : decode cJ0_charAt_5068e 15 = .ok (.ireturn, 1) := by decide +kernel
theorem dJ0_charAt_5068e_16 : decode cJ0_charAt_5068e 16 = .ok (.aload_n 0, 1) := by decide +kernel
theorem dJ0_charAt_5068e_17 : decode cJ0_charAt_5068e 17 = .ok (.getfield 9, 3) := by decide +kernel
theorem dJ0_charAt_5068e_20 : decode cJ0_charAt_5068e 20 = .ok (.iload_n 1, 1) := by decide +kernel
theorem dJ0_charAt_5068e_21 : decode cJ0_charAt_5068e 21 = .ok (.invokestatic 498, 3) := by decide +kernel
theorem dJ0_charAt_5068e_24 : decode cJ0_charAt_5068e 24 = .ok (.ireturn, 1) := by decide +kernel
theorem dJ0_coder_7d493_0 : decode cJ0_coder_7d493 0 = .ok (.getstatic 38, 3) := by decide +kernel
theorem dJ0_coder_7d493_3 : decode cJ0_coder_7d493 3 = .ok (.ifCond .eq 10, 3) := by decide +kernel
theorem dJ0_coder_7d493_6 : decode cJ0_coder_7d493 6 = .ok (.aload_n 0, 1) := by decide +kernel
theorem dJ0_coder_7d493_7 : decode cJ0_coder_7d493 7 = .ok (.getfield 15, 3) := by decide +kernel
theorem dJ0_coder_7d493_10 : decode cJ0_coder_7d493 10 = .ok (.goto 4, 3) := by decide +kernel
theorem dJ0_coder_7d493_13 : decode cJ0_coder_7d493 13 = .ok (.iconst 1, 1) := by decide +kernel
theorem dJ0_coder_7d493_14 : decode cJ0_coder_7d493 14 = .ok (.ireturn, 1) := by decide +kernel
theorem dJ0_isLatin1_aae02_0 : decode cJ0_isLatin1_aae02 0 = .ok (.getstatic 38, 3) := by decide +kernel
theorem dJ0_isLatin1_aae02_3 : decode cJ0_isLatin1_aae02 3 = .ok (.ifCond .eq 14, 3) := by decide +kernel
theorem dJ0_isLatin1_aae02_6 : decode cJ0_isLatin1_aae02 6 = .ok (.aload_n 0, 1) := by decide +kernel
theorem dJ0_isLatin1_aae02_7 : decode cJ0_isLatin1_aae02 7 = .ok (.getfield 15, 3) := by decide +kernel
theorem dJ0_isLatin1_aae02_10 : decode cJ0_isLatin1_aae02 10 = .ok (.ifCond .ne 7, 3) := by decide +kernel
theorem dJ0_isLatin1_aae02_13 : decode cJ0_isLatin1_aae02 13 = .ok (.iconst 1, 1) := by decide +kernel
theorem dJ0_isLatin1_aae02_14 : decode cJ0_isLatin1_aae02 14 = .ok (.goto 4, 3) := by decide +kernel
theorem dJ0_isLatin1_aae02_17 : decode cJ0_isLatin1_aae02 17 = .ok (.iconst 0, 1) := by decide +kernel
theorem dJ0_isLatin1_aae02_18 : decode cJ0_isLatin1_aae02 18 = .ok (.ireturn, 1) := by decide +kernel
theorem dJ0_checkIndex_df160_0 : decode cJ0_checkIndex_df160 0 = .ok (.iload_n 0, 1) := by decide +kernel
theorem dJ0_checkIndex_df160_1 : decode cJ0_checkIndex_df160 1 = .ok (.iload_n 1, 1) := by decide +kernel
theorem dJ0_checkIndex_df160_2 : decode cJ0_checkIndex_df160 2 = .ok (.getstatic 1053, 3) := by decide +kernel
theorem dJ0_checkIndex_df160_5 : decode cJ0_checkIndex_df160 5 = .ok (.invokestatic 1059, 3) := by decide +kernel
theorem dJ0_checkIndex_df160_8 : decode cJ0_checkIndex_df160 8 = .ok (.pop, 1) := by decide +kernel
theorem dJ0_checkIndex_df160_9 : decode cJ0_checkIndex_df160 9 = .ok (.return_, 1) := by decide +kernel
theorem dJ1_charAt_3b067_0 : decode cJ1_charAt_3b067 0 = .ok (.iload_n 1, 1) := by decide +kernel
theorem dJ1_charAt_3b067_1 : decode cJ1_charAt_3b067 1 = .ok (.aload_n 0, 1) := by decide +kernel
theorem dJ1_charAt_3b067_2 : decode cJ1_charAt_3b067 2 = .ok (.arraylength, 1) := by decide +kernel
theorem dJ1_charAt_3b067_3 : decode cJ1_charAt_3b067 3 = .ok (.invokestatic 9, 3) := by decide +kernel
theorem dJ1_charAt_3b067_6 : decode cJ1_charAt_3b067 6 = .ok (.aload_n 0, 1) := by decide +kernel
theorem dJ1_charAt_3b067_7 : decode cJ1_charAt_3b067 7 = .ok (.iload_n 1, 1) := by decide +kernel
theorem dJ1_charAt_3b067_8 : decode cJ1_charAt_3b067 8 = .ok (.baload, 1) := by decide +kernel
theorem dJ1_charAt_3b067_9 : decode cJ1_charAt_3b067 9 = .ok (.sipush 255, 3) := by decide +kernel
theorem dJ1_charAt_3b067_12 : decode cJ1_charAt_3b067 12 = .ok (.iand, 1) := by decide +kernel
theorem dJ1_charAt_3b067_13 : decode cJ1_charAt_3b067 13 = .ok (.i2c, 1) := by decide +kernel
theorem dJ1_charAt_3b067_14 : decode cJ1_charAt_3b067 14 = .ok (.ireturn, 1) := by decide +kernel
theorem dJ2_getChar_3b067_0 : decode cJ2_getChar_3b067 0 = .ok (.getstatic 44, 3) := by decide +kernel
theorem dJ2_getChar_3b067_3 : decode cJ2_getChar_3b067 3 = .ok (.ifCond .ne 25, 3) := by decide +kernel
theorem dJ2_getChar_3b067_6 : decode cJ2_getChar_3b067 6 = .ok (.iload_n 1, 1) := by decide +kernel
theorem dJ2_getChar_3b067_7 : decode cJ2_getChar_3b067 7 = .ok (.ifCond .lt 11, 3) := by decide +kernel
theorem dJ2_getChar_3b067_10 : decode cJ2_getChar_3b067 10 = .ok (.iload_n 1, 1) := by decide +kernel
theorem dJ2_getChar_3b067_11 : decode cJ2_getChar_3b067 11 = .ok (.aload_n 0, 1) := by decide +kernel
theorem dJ2_getChar_3b067_12 : decode cJ2_getChar_3b067 12 = .ok (.invokestatic 48, 3) := by decide +kernel
theorem dJ2_getChar_3b067_15 : decode cJ2_getChar_3b067 15 = .ok (.if_icmp .lt 13, 3) := by decide +kernel
theorem dJ2_getChar_3b067_18 : decode cJ2_getChar_3b067 18 = .ok (.new 52, 3) := by decide +kernel
theorem dJ2_getChar_3b067_21 : decode cJ2_getChar_3b067 21 = .ok (.dup, 1) := by decide +kernel
theorem dJ2_getChar_3b067_22 : decode cJ2_getChar_3b067 22 = .ok (.ldc 54, 2) := by decide +kernel
theorem dJ2_getChar_3b067_24 : decode cJ2_getChar_3b067 24 = .ok (.invokespecial 56, 3) := by decide +kernel
theorem dJ2_getChar_3b067_27 : decode cJ2_getChar_3b067 27 = .ok (.athrow, 1) := by decide +kernel
theorem dJ2_getChar_3b067_28 : decode cJ2_getChar_3b067 28 = .ok (.iload_n 1, 1) := by decide +kernel
theorem dJ2_getChar_3b067_29 : decode cJ2_getChar_3b067 29 = .ok (.iconst 1, 1) := by decide +kernel
theorem dJ2_getChar_3b067_30 : decode cJ2_getChar_3b067 30 = .ok (.ishl, 1) := by decide +kernel
theorem dJ2_getChar_3b067_31 : decode cJ2_getChar_3b067 31 = .ok (.istore_n 1, 1) := by decide +kernel
theorem dJ2_getChar_3b067_32 : decode cJ2_getChar_3b067 32 = .ok (.aload_n 0, 1) := by decide +kernel
theorem dJ2_getChar_3b067_33 : decode cJ2_getChar_3b067 33 = .ok (.iload_n 1, 1) := by decide +kernel
theorem dJ2_getChar_3b067_34 : decode cJ2_getChar_3b067 34 = .ok (.iinc 1 1, 3) := by decide +kernel
theorem dJ2_getChar_3b067_37 : decode cJ2_getChar_3b067 37 = .ok (.baload, 1) := by decide +kernel
theorem dJ2_getChar_3b067_38 : decode cJ2_getChar_3b067 38 = .ok (.sipush 255, 3) := by decide +kernel
theorem dJ2_getChar_3b067_41 : decode cJ2_getChar_3b067 41 = .ok (.iand, 1) := by decide +kernel
theorem dJ2_getChar_3b067_42 : decode cJ2_getChar_3b067 42 = .ok (.getstatic 59, 3) := by decide +kernel
theorem dJ2_getChar_3b067_45 : decode cJ2_getChar_3b067 45 = .ok (.ishl, 1) := by decide +kernel
theorem dJ2_getChar_3b067_46 : decode cJ2_getChar_3b067 46 = .ok (.aload_n 0, 1) := by decide +kernel
theorem dJ2_getChar_3b067_47 : decode cJ2_getChar_3b067 47 = .ok (.iload_n 1, 1) := by decide +kernel
theorem dJ2_getChar_3b067_48 : decode cJ2_getChar_3b067 48 = .ok (.baload, 1) := by decide +kernel
theorem dJ2_getChar_3b067_49 : decode cJ2_getChar_3b067 49 = .ok (.sipush 255, 3) := by decide +kernel
theorem dJ2_getChar_3b067_52 : decode cJ2_getChar_3b067 52 = .ok (.iand, 1) := by decide +kernel
theorem dJ2_getChar_3b067_53 : decode cJ2_getChar_3b067 53 = .ok (.getstatic 63, 3) := by decide +kernel
theorem dJ2_getChar_3b067_56 : decode cJ2_getChar_3b067 56 = .ok (.ishl, 1) := by decide +kernel
theorem dJ2_getChar_3b067_57 : decode cJ2_getChar_3b067 57 = .ok (.ior, 1) := by decide +kernel
theorem dJ2_getChar_3b067_58 : decode cJ2_getChar_3b067 58 = .ok (.i2c, 1) := by decide +kernel
theorem dJ2_getChar_3b067_59 : decode cJ2_getChar_3b067 59 = .ok (.ireturn, 1) := by decide +kernel
theorem dJ2_length_9d52b_0 : decode cJ2_length_9d52b 0 = .ok (.aload_n 0, 1) := by decide +kernel
theorem dJ2_length_9d52b_1 : decode cJ2_length_9d52b 1 = .ok (.arraylength, 1) := by decide +kernel
theorem dJ2_length_9d52b_2 : decode cJ2_length_9d52b 2 = .ok (.iconst 1, 1) := by decide +kernel
theorem dJ2_length_9d52b_3 : decode cJ2_length_9d52b 3 = .ok (.ishr, 1) := by decide +kernel
theorem dJ2_length_9d52b_4 : decode cJ2_length_9d52b 4 = .ok (.ireturn, 1) := by decide +kernel
theorem dJ2_charAt_3b067_0 : decode cJ2_charAt_3b067 0 = .ok (.iload_n 1, 1) := by decide +kernel
theorem dJ2_charAt_3b067_1 : decode cJ2_charAt_3b067 1 = .ok (.aload_n 0, 1) := by decide +kernel
theorem dJ2_charAt_3b067_2 : decode cJ2_charAt_3b067 2 = .ok (.invokestatic 67, 3) := by decide +kernel
theorem dJ2_charAt_3b067_5 : decode cJ2_charAt_3b067 5 = .ok (.aload_n 0, 1) := by decide +kernel
theorem dJ2_charAt_3b067_6 : decode cJ2_charAt_3b067 6 = .ok (.iload_n 1, 1) := by decide +kernel
theorem dJ2_charAt_3b067_7 : decode cJ2_charAt_3b067 7 = .ok (.invokestatic 71, 3) := by decide +kernel
theorem dJ2_charAt_3b067_10 : decode cJ2_charAt_3b067 10 = .ok (.ireturn, 1) := by decide +kernel
theorem dJ2_checkIndex_2214a_0 : decode cJ2_checkIndex_2214a 0 = .ok (.iload_n 0, 1) := by decide +kernel
theorem dJ2_checkIndex_2214a_1 : decode cJ2_checkIndex_2214a 1 = .ok (.aload_n 1, 1) := by decide +kernel
theorem dJ2_checkIndex_2214a_2 : decode cJ2_checkIndex_2214a 2 = .ok (.invokestatic 48, 3) := by decide +kernel
theorem dJ2_checkIndex_2214a_5 : decode cJ2_checkIndex_2214a 5 = .ok (.invokestatic 414, 3) := by decide +kernel
theorem dJ2_checkIndex_2214a_8 : decode cJ2_checkIndex_2214a 8 = .ok (.return_, 1) := by decide +kernel
theorem dJ3_checkIndex_8e157_0 : decode cJ3_checkIndex_8e157 0 = .ok (.iload_n 0, 1) := by decide +kernel
theorem dJ3_checkIndex_8e157_1 : decode cJ3_checkIndex_8e157 1 = .ok (.ifCond .lt 8, 3) := by decide +kernel
theorem dJ3_checkIndex_8e157_4 : decode cJ3_checkIndex_8e157 4 = .ok (.iload_n 0, 1) := by decide +kernel
theorem dJ3_checkIndex_8e157_5 : decode cJ3_checkIndex_8e157 5 = .ok (.iload_n 1, 1) := by decide +kernel
theorem dJ3_checkIndex_8e157_6 : decode cJ3_checkIndex_8e157 6 = .ok (.if_icmp .lt 10, 3) := by decide +kernel
theorem dJ3_checkIndex_8e157_9 : decode cJ3_checkIndex_8e157 9 = .ok (.aload_n 2, 1) := by decide +kernel
theorem dJ3_checkIndex_8e157_10 : decode cJ3_checkIndex_8e157 10 = .ok (.iload_n 0, 1) := by decide +kernel
theorem dJ3_checkIndex_8e157_11 : decode cJ3_checkIndex_8e157 11 = .ok (.iload_n 1, 1) := by decide +kernel
theorem dJ3_checkIndex_8e157_12 : decode cJ3_checkIndex_8e157 12 = .ok (.invokestatic 95, 3) := by decide +kernel
theorem dJ3_checkIndex_8e157_15 : decode cJ3_checkIndex_8e157 15 = .ok (.athrow, 1) := by decide +kernel
theorem dJ3_checkIndex_8e157_16 : decode cJ3_checkIndex_8e157 16 = .ok (.iload_n 0, 1) := by decide +kernel
theorem dJ3_checkIndex_8e157_17 : decode cJ3_checkIndex_8e157 17 = .ok (.ireturn, 1) := by decide +kernel
end
section
theorem zz_last : True := trivial
end
