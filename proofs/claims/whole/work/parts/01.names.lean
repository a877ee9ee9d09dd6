-- ===== PART A: goes FIRST, ahead of the names: the tables' words, and 'selects' of the private methods out of them =====
/-- a private method of a class that the tables say can be made, by its rows of tables_1 -/
def lw_okq (q : MethodName × Nat) : Prop := (q.1.cls ≠ "java/lang/invoke/MethodHandle" ∧ q.1.cls ≠ "java/lang/invoke/VarHandle") ∧ Cond.instantiable q.1.cls q.2 ∈ tables_1 ∧ Cond.privateMethod q.1 ∈ tables_1 ∧ Cond.instanceMethod q.1 ∈ tables_1
theorem lw_p0 : lw_okq (⟨"HallPhone$Reader", "takeText", "(Ljava/lang/String;)V"⟩, 10) := ⟨⟨by decide +kernel, by decide +kernel⟩, List.mem_of_getElem? (i := 165) (by decide +kernel), List.mem_of_getElem? (i := 240) (by decide +kernel), List.mem_of_getElem? (i := 241) (by decide +kernel)⟩
theorem lw_p1 : lw_okq (⟨"HallPhone$Reader", "begin", "(I)V"⟩, 10) := ⟨⟨by decide +kernel, by decide +kernel⟩, List.mem_of_getElem? (i := 165) (by decide +kernel), List.mem_of_getElem? (i := 291) (by decide +kernel), List.mem_of_getElem? (i := 292) (by decide +kernel)⟩
theorem lw_p2 : lw_okq (⟨"HallPhone", "replaceByText", "()I"⟩, 10) := ⟨⟨by decide +kernel, by decide +kernel⟩, List.mem_of_getElem? (i := 33) (by decide +kernel), List.mem_of_getElem? (i := 298) (by decide +kernel), List.mem_of_getElem? (i := 299) (by decide +kernel)⟩
theorem lw_p3 : lw_okq (⟨"HallPhone$House", "clear", "()V"⟩, 10) := ⟨⟨by decide +kernel, by decide +kernel⟩, List.mem_of_getElem? (i := 41) (by decide +kernel), List.mem_of_getElem? (i := 302) (by decide +kernel), List.mem_of_getElem? (i := 303) (by decide +kernel)⟩
theorem lw_p4 : lw_okq (⟨"HallPhone$Phone", "putDown", "()V"⟩, 5) := ⟨⟨by decide +kernel, by decide +kernel⟩, List.mem_of_getElem? (i := 47) (by decide +kernel), List.mem_of_getElem? (i := 318) (by decide +kernel), List.mem_of_getElem? (i := 319) (by decide +kernel)⟩
theorem lw_p5 : lw_okq (⟨"HallPhone$Reader", "readFlats", "(LHallPhone$House;)Z"⟩, 10) := ⟨⟨by decide +kernel, by decide +kernel⟩, List.mem_of_getElem? (i := 165) (by decide +kernel), List.mem_of_getElem? (i := 322) (by decide +kernel), List.mem_of_getElem? (i := 323) (by decide +kernel)⟩
theorem lw_p6 : lw_okq (⟨"HallPhone$Reader", "next", "()V"⟩, 10) := ⟨⟨by decide +kernel, by decide +kernel⟩, List.mem_of_getElem? (i := 165) (by decide +kernel), List.mem_of_getElem? (i := 326) (by decide +kernel), List.mem_of_getElem? (i := 327) (by decide +kernel)⟩
theorem lw_p7 : lw_okq (⟨"HallPhone$Reader", "byteAt", "(I)I"⟩, 10) := ⟨⟨by decide +kernel, by decide +kernel⟩, List.mem_of_getElem? (i := 165) (by decide +kernel), List.mem_of_getElem? (i := 330) (by decide +kernel), List.mem_of_getElem? (i := 331) (by decide +kernel)⟩
theorem lw_p8 : lw_okq (⟨"HallPhone$Reader", "nextNumber", "()V"⟩, 10) := ⟨⟨by decide +kernel, by decide +kernel⟩, List.mem_of_getElem? (i := 165) (by decide +kernel), List.mem_of_getElem? (i := 343) (by decide +kernel), List.mem_of_getElem? (i := 344) (by decide +kernel)⟩
theorem lw_p9 : lw_okq (⟨"HallPhone$Reader", "isWord", "(Ljava/lang/String;)Z"⟩, 10) := ⟨⟨by decide +kernel, by decide +kernel⟩, List.mem_of_getElem? (i := 165) (by decide +kernel), List.mem_of_getElem? (i := 348) (by decide +kernel), List.mem_of_getElem? (i := 349) (by decide +kernel)⟩
theorem lw_p10 : lw_okq (⟨"HallPhone$Reader", "fail", "(I)Z"⟩, 10) := ⟨⟨by decide +kernel, by decide +kernel⟩, List.mem_of_getElem? (i := 165) (by decide +kernel), List.mem_of_getElem? (i := 352) (by decide +kernel), List.mem_of_getElem? (i := 353) (by decide +kernel)⟩
theorem lw_p11 : lw_okq (⟨"HallPhone$House", "addFlat", "(I)Z"⟩, 10) := ⟨⟨by decide +kernel, by decide +kernel⟩, List.mem_of_getElem? (i := 41) (by decide +kernel), List.mem_of_getElem? (i := 356) (by decide +kernel), List.mem_of_getElem? (i := 357) (by decide +kernel)⟩
theorem lw_p12 : lw_okq (⟨"HallPhone$House", "put", "(III)V"⟩, 10) := ⟨⟨by decide +kernel, by decide +kernel⟩, List.mem_of_getElem? (i := 41) (by decide +kernel), List.mem_of_getElem? (i := 360) (by decide +kernel), List.mem_of_getElem? (i := 361) (by decide +kernel)⟩
theorem lw_p13 : lw_okq (⟨"HallPhone$Reader", "readStatement", "(I)Z"⟩, 10) := ⟨⟨by decide +kernel, by decide +kernel⟩, List.mem_of_getElem? (i := 165) (by decide +kernel), List.mem_of_getElem? (i := 366) (by decide +kernel), List.mem_of_getElem? (i := 367) (by decide +kernel)⟩
theorem lw_p14 : lw_okq (⟨"HallPhone$Reader", "verbRead", "()LHallPhone$Verb;"⟩, 10) := ⟨⟨by decide +kernel, by decide +kernel⟩, List.mem_of_getElem? (i := 165) (by decide +kernel), List.mem_of_getElem? (i := 370) (by decide +kernel), List.mem_of_getElem? (i := 371) (by decide +kernel)⟩
theorem lw_p15 : lw_okq (⟨"HallPhone$Reader", "readNumber", "(II)Z"⟩, 10) := ⟨⟨by decide +kernel, by decide +kernel⟩, List.mem_of_getElem? (i := 165) (by decide +kernel), List.mem_of_getElem? (i := 376) (by decide +kernel), List.mem_of_getElem? (i := 377) (by decide +kernel)⟩
def lw_privs_1 : List (MethodName × Nat) := [(⟨"HallPhone$Reader", "takeText", "(Ljava/lang/String;)V"⟩, 10), (⟨"HallPhone$Reader", "begin", "(I)V"⟩, 10), (⟨"HallPhone", "replaceByText", "()I"⟩, 10), (⟨"HallPhone$House", "clear", "()V"⟩, 10), (⟨"HallPhone$Phone", "putDown", "()V"⟩, 5), (⟨"HallPhone$Reader", "readFlats", "(LHallPhone$House;)Z"⟩, 10), (⟨"HallPhone$Reader", "next", "()V"⟩, 10), (⟨"HallPhone$Reader", "byteAt", "(I)I"⟩, 10), (⟨"HallPhone$Reader", "nextNumber", "()V"⟩, 10), (⟨"HallPhone$Reader", "isWord", "(Ljava/lang/String;)Z"⟩, 10), (⟨"HallPhone$Reader", "fail", "(I)Z"⟩, 10), (⟨"HallPhone$House", "addFlat", "(I)Z"⟩, 10), (⟨"HallPhone$House", "put", "(III)V"⟩, 10), (⟨"HallPhone$Reader", "readStatement", "(I)Z"⟩, 10), (⟨"HallPhone$Reader", "verbRead", "()LHallPhone$Verb;"⟩, 10), (⟨"HallPhone$Reader", "readNumber", "(II)Z"⟩, 10)]
theorem lw_r1 : ∀ q ∈ lw_privs_1, lw_okq q := List.forall_mem_cons.mpr ⟨lw_p0, List.forall_mem_cons.mpr ⟨lw_p1, List.forall_mem_cons.mpr ⟨lw_p2, List.forall_mem_cons.mpr ⟨lw_p3, List.forall_mem_cons.mpr ⟨lw_p4, List.forall_mem_cons.mpr ⟨lw_p5, List.forall_mem_cons.mpr ⟨lw_p6, List.forall_mem_cons.mpr ⟨lw_p7, List.forall_mem_cons.mpr ⟨lw_p8, List.forall_mem_cons.mpr ⟨lw_p9, List.forall_mem_cons.mpr ⟨lw_p10, List.forall_mem_cons.mpr ⟨lw_p11, List.forall_mem_cons.mpr ⟨lw_p12, List.forall_mem_cons.mpr ⟨lw_p13, List.forall_mem_cons.mpr ⟨lw_p14, List.forall_mem_cons.mpr ⟨lw_p15, fun _ h => absurd h List.not_mem_nil⟩⟩⟩⟩⟩⟩⟩⟩⟩⟩⟩⟩⟩⟩⟩⟩
theorem lw_p16 : lw_okq (⟨"HallPhone$Verb", "takesNumber", "()Z"⟩, 8) := ⟨⟨by decide +kernel, by decide +kernel⟩, List.mem_of_getElem? (i := 382) (by decide +kernel), List.mem_of_getElem? (i := 380) (by decide +kernel), List.mem_of_getElem? (i := 381) (by decide +kernel)⟩
theorem lw_p17 : lw_okq (⟨"HallPhone$House", "refusal", "(LHallPhone$Verb;II)I"⟩, 10) := ⟨⟨by decide +kernel, by decide +kernel⟩, List.mem_of_getElem? (i := 41) (by decide +kernel), List.mem_of_getElem? (i := 385) (by decide +kernel), List.mem_of_getElem? (i := 386) (by decide +kernel)⟩
theorem lw_p18 : lw_okq (⟨"HallPhone$House", "get", "(II)I"⟩, 10) := ⟨⟨by decide +kernel, by decide +kernel⟩, List.mem_of_getElem? (i := 41) (by decide +kernel), List.mem_of_getElem? (i := 389) (by decide +kernel), List.mem_of_getElem? (i := 390) (by decide +kernel)⟩
theorem lw_p19 : lw_okq (⟨"HallPhone$House", "isCalled", "(I)Z"⟩, 10) := ⟨⟨by decide +kernel, by decide +kernel⟩, List.mem_of_getElem? (i := 41) (by decide +kernel), List.mem_of_getElem? (i := 401) (by decide +kernel), List.mem_of_getElem? (i := 402) (by decide +kernel)⟩
theorem lw_p20 : lw_okq (⟨"HallPhone$House", "perform", "(LHallPhone$Verb;II)I"⟩, 10) := ⟨⟨by decide +kernel, by decide +kernel⟩, List.mem_of_getElem? (i := 41) (by decide +kernel), List.mem_of_getElem? (i := 405) (by decide +kernel), List.mem_of_getElem? (i := 406) (by decide +kernel)⟩
theorem lw_p21 : lw_okq (⟨"HallPhone$House", "setOut", "(II)I"⟩, 10) := ⟨⟨by decide +kernel, by decide +kernel⟩, List.mem_of_getElem? (i := 41) (by decide +kernel), List.mem_of_getElem? (i := 409) (by decide +kernel), List.mem_of_getElem? (i := 410) (by decide +kernel)⟩
theorem lw_p22 : lw_okq (⟨"HallPhone$House", "giveUp", "(I)I"⟩, 10) := ⟨⟨by decide +kernel, by decide +kernel⟩, List.mem_of_getElem? (i := 41) (by decide +kernel), List.mem_of_getElem? (i := 413) (by decide +kernel), List.mem_of_getElem? (i := 414) (by decide +kernel)⟩
theorem lw_p23 : lw_okq (⟨"HallPhone$Queue", "leave", "(I)V"⟩, 2) := ⟨⟨by decide +kernel, by decide +kernel⟩, List.mem_of_getElem? (i := 76) (by decide +kernel), List.mem_of_getElem? (i := 417) (by decide +kernel), List.mem_of_getElem? (i := 418) (by decide +kernel)⟩
theorem lw_p24 : lw_okq (⟨"HallPhone$House", "endCall", "()I"⟩, 10) := ⟨⟨by decide +kernel, by decide +kernel⟩, List.mem_of_getElem? (i := 41) (by decide +kernel), List.mem_of_getElem? (i := 421) (by decide +kernel), List.mem_of_getElem? (i := 422) (by decide +kernel)⟩
theorem lw_p25 : lw_okq (⟨"HallPhone$House", "costOf", "(I)I"⟩, 10) := ⟨⟨by decide +kernel, by decide +kernel⟩, List.mem_of_getElem? (i := 41) (by decide +kernel), List.mem_of_getElem? (i := 425) (by decide +kernel), List.mem_of_getElem? (i := 426) (by decide +kernel)⟩
theorem lw_p26 : lw_okq (⟨"HallPhone$House", "takeRing", "(II)I"⟩, 10) := ⟨⟨by decide +kernel, by decide +kernel⟩, List.mem_of_getElem? (i := 41) (by decide +kernel), List.mem_of_getElem? (i := 429) (by decide +kernel), List.mem_of_getElem? (i := 430) (by decide +kernel)⟩
theorem lw_p27 : lw_okq (⟨"HallPhone$House", "outcomeOfRing", "(I)I"⟩, 10) := ⟨⟨by decide +kernel, by decide +kernel⟩, List.mem_of_getElem? (i := 41) (by decide +kernel), List.mem_of_getElem? (i := 433) (by decide +kernel), List.mem_of_getElem? (i := 434) (by decide +kernel)⟩
theorem lw_p28 : lw_okq (⟨"HallPhone$Phone", "holdFor", "(II)V"⟩, 5) := ⟨⟨by decide +kernel, by decide +kernel⟩, List.mem_of_getElem? (i := 47) (by decide +kernel), List.mem_of_getElem? (i := 437) (by decide +kernel), List.mem_of_getElem? (i := 438) (by decide +kernel)⟩
theorem lw_p29 : lw_okq (⟨"HallPhone$House", "connect", "(IIZ)V"⟩, 10) := ⟨⟨by decide +kernel, by decide +kernel⟩, List.mem_of_getElem? (i := 41) (by decide +kernel), List.mem_of_getElem? (i := 441) (by decide +kernel), List.mem_of_getElem? (i := 442) (by decide +kernel)⟩
theorem lw_p30 : lw_okq (⟨"HallPhone$Phone", "connect", "(IIZ)V"⟩, 5) := ⟨⟨by decide +kernel, by decide +kernel⟩, List.mem_of_getElem? (i := 47) (by decide +kernel), List.mem_of_getElem? (i := 445) (by decide +kernel), List.mem_of_getElem? (i := 446) (by decide +kernel)⟩
theorem lw_p31 : lw_okq (⟨"HallPhone$Slate", "write", "(II)V"⟩, 3) := ⟨⟨by decide +kernel, by decide +kernel⟩, List.mem_of_getElem? (i := 90) (by decide +kernel), List.mem_of_getElem? (i := 449) (by decide +kernel), List.mem_of_getElem? (i := 450) (by decide +kernel)⟩
def lw_privs_2 : List (MethodName × Nat) := [(⟨"HallPhone$Verb", "takesNumber", "()Z"⟩, 8), (⟨"HallPhone$House", "refusal", "(LHallPhone$Verb;II)I"⟩, 10), (⟨"HallPhone$House", "get", "(II)I"⟩, 10), (⟨"HallPhone$House", "isCalled", "(I)Z"⟩, 10), (⟨"HallPhone$House", "perform", "(LHallPhone$Verb;II)I"⟩, 10), (⟨"HallPhone$House", "setOut", "(II)I"⟩, 10), (⟨"HallPhone$House", "giveUp", "(I)I"⟩, 10), (⟨"HallPhone$Queue", "leave", "(I)V"⟩, 2), (⟨"HallPhone$House", "endCall", "()I"⟩, 10), (⟨"HallPhone$House", "costOf", "(I)I"⟩, 10), (⟨"HallPhone$House", "takeRing", "(II)I"⟩, 10), (⟨"HallPhone$House", "outcomeOfRing", "(I)I"⟩, 10), (⟨"HallPhone$Phone", "holdFor", "(II)V"⟩, 5), (⟨"HallPhone$House", "connect", "(IIZ)V"⟩, 10), (⟨"HallPhone$Phone", "connect", "(IIZ)V"⟩, 5), (⟨"HallPhone$Slate", "write", "(II)V"⟩, 3)]
theorem lw_r2 : ∀ q ∈ lw_privs_2, lw_okq q := List.forall_mem_cons.mpr ⟨lw_p16, List.forall_mem_cons.mpr ⟨lw_p17, List.forall_mem_cons.mpr ⟨lw_p18, List.forall_mem_cons.mpr ⟨lw_p19, List.forall_mem_cons.mpr ⟨lw_p20, List.forall_mem_cons.mpr ⟨lw_p21, List.forall_mem_cons.mpr ⟨lw_p22, List.forall_mem_cons.mpr ⟨lw_p23, List.forall_mem_cons.mpr ⟨lw_p24, List.forall_mem_cons.mpr ⟨lw_p25, List.forall_mem_cons.mpr ⟨lw_p26, List.forall_mem_cons.mpr ⟨lw_p27, List.forall_mem_cons.mpr ⟨lw_p28, List.forall_mem_cons.mpr ⟨lw_p29, List.forall_mem_cons.mpr ⟨lw_p30, List.forall_mem_cons.mpr ⟨lw_p31, fun _ h => absurd h List.not_mem_nil⟩⟩⟩⟩⟩⟩⟩⟩⟩⟩⟩⟩⟩⟩⟩⟩
theorem lw_p32 : lw_okq (⟨"HallPhone$House", "takeMoney", "(II)I"⟩, 10) := ⟨⟨by decide +kernel, by decide +kernel⟩, List.mem_of_getElem? (i := 41) (by decide +kernel), List.mem_of_getElem? (i := 453) (by decide +kernel), List.mem_of_getElem? (i := 454) (by decide +kernel)⟩
theorem lw_p33 : lw_okq (⟨"HallPhone$House", "letPass", "(I)I"⟩, 10) := ⟨⟨by decide +kernel, by decide +kernel⟩, List.mem_of_getElem? (i := 41) (by decide +kernel), List.mem_of_getElem? (i := 457) (by decide +kernel), List.mem_of_getElem? (i := 458) (by decide +kernel)⟩
theorem lw_p34 : lw_okq (⟨"HallPhone$House", "isQuiet", "()Z"⟩, 10) := ⟨⟨by decide +kernel, by decide +kernel⟩, List.mem_of_getElem? (i := 41) (by decide +kernel), List.mem_of_getElem? (i := 461) (by decide +kernel), List.mem_of_getElem? (i := 462) (by decide +kernel)⟩
theorem lw_p35 : lw_okq (⟨"HallPhone$House", "flatsThatAre", "(I)I"⟩, 10) := ⟨⟨by decide +kernel, by decide +kernel⟩, List.mem_of_getElem? (i := 41) (by decide +kernel), List.mem_of_getElem? (i := 465) (by decide +kernel), List.mem_of_getElem? (i := 466) (by decide +kernel)⟩
theorem lw_p36 : lw_okq (⟨"HallPhone$House", "speakOneMinute", "()V"⟩, 10) := ⟨⟨by decide +kernel, by decide +kernel⟩, List.mem_of_getElem? (i := 41) (by decide +kernel), List.mem_of_getElem? (i := 469) (by decide +kernel), List.mem_of_getElem? (i := 470) (by decide +kernel)⟩
theorem lw_p37 : lw_okq (⟨"HallPhone$House", "isListener", "(I)Z"⟩, 10) := ⟨⟨by decide +kernel, by decide +kernel⟩, List.mem_of_getElem? (i := 41) (by decide +kernel), List.mem_of_getElem? (i := 473) (by decide +kernel), List.mem_of_getElem? (i := 474) (by decide +kernel)⟩
theorem lw_p38 : lw_okq (⟨"HallPhone$House", "hearOneMinute", "(II)V"⟩, 10) := ⟨⟨by decide +kernel, by decide +kernel⟩, List.mem_of_getElem? (i := 41) (by decide +kernel), List.mem_of_getElem? (i := 477) (by decide +kernel), List.mem_of_getElem? (i := 478) (by decide +kernel)⟩
theorem lw_p39 : lw_okq (⟨"HallPhone$House", "comeDown", "(I)V"⟩, 10) := ⟨⟨by decide +kernel, by decide +kernel⟩, List.mem_of_getElem? (i := 41) (by decide +kernel), List.mem_of_getElem? (i := 481) (by decide +kernel), List.mem_of_getElem? (i := 482) (by decide +kernel)⟩
theorem lw_p40 : lw_okq (⟨"HallPhone$Slate", "wipeFor", "(I)I"⟩, 3) := ⟨⟨by decide +kernel, by decide +kernel⟩, List.mem_of_getElem? (i := 90) (by decide +kernel), List.mem_of_getElem? (i := 485) (by decide +kernel), List.mem_of_getElem? (i := 486) (by decide +kernel)⟩
theorem lw_p41 : lw_okq (⟨"HallPhone$Queue", "join", "(I)V"⟩, 2) := ⟨⟨by decide +kernel, by decide +kernel⟩, List.mem_of_getElem? (i := 76) (by decide +kernel), List.mem_of_getElem? (i := 489) (by decide +kernel), List.mem_of_getElem? (i := 490) (by decide +kernel)⟩
theorem lw_p42 : lw_okq (⟨"HallPhone$House", "isCallOver", "()Z"⟩, 10) := ⟨⟨by decide +kernel, by decide +kernel⟩, List.mem_of_getElem? (i := 41) (by decide +kernel), List.mem_of_getElem? (i := 493) (by decide +kernel), List.mem_of_getElem? (i := 494) (by decide +kernel)⟩
theorem lw_p43 : lw_okq (⟨"HallPhone$Queue", "at", "(I)I"⟩, 2) := ⟨⟨by decide +kernel, by decide +kernel⟩, List.mem_of_getElem? (i := 76) (by decide +kernel), List.mem_of_getElem? (i := 497) (by decide +kernel), List.mem_of_getElem? (i := 498) (by decide +kernel)⟩
theorem lw_p44 : lw_okq (⟨"HallPhone$House", "countWaiting", "()V"⟩, 10) := ⟨⟨by decide +kernel, by decide +kernel⟩, List.mem_of_getElem? (i := 41) (by decide +kernel), List.mem_of_getElem? (i := 501) (by decide +kernel), List.mem_of_getElem? (i := 502) (by decide +kernel)⟩
theorem lw_p45 : lw_okq (⟨"HallPhone$House", "changeSetting", "(II)I"⟩, 10) := ⟨⟨by decide +kernel, by decide +kernel⟩, List.mem_of_getElem? (i := 41) (by decide +kernel), List.mem_of_getElem? (i := 505) (by decide +kernel), List.mem_of_getElem? (i := 506) (by decide +kernel)⟩
theorem lw_p46 : lw_okq (⟨"HallPhone$House", "settingNumber", "(I)I"⟩, 10) := ⟨⟨by decide +kernel, by decide +kernel⟩, List.mem_of_getElem? (i := 41) (by decide +kernel), List.mem_of_getElem? (i := 509) (by decide +kernel), List.mem_of_getElem? (i := 510) (by decide +kernel)⟩
theorem lw_p47 : lw_okq (⟨"HallPhone$House", "copyFrom", "(LHallPhone$House;)V"⟩, 10) := ⟨⟨by decide +kernel, by decide +kernel⟩, List.mem_of_getElem? (i := 41) (by decide +kernel), List.mem_of_getElem? (i := 514) (by decide +kernel), List.mem_of_getElem? (i := 515) (by decide +kernel)⟩
def lw_privs_3 : List (MethodName × Nat) := [(⟨"HallPhone$House", "takeMoney", "(II)I"⟩, 10), (⟨"HallPhone$House", "letPass", "(I)I"⟩, 10), (⟨"HallPhone$House", "isQuiet", "()Z"⟩, 10), (⟨"HallPhone$House", "flatsThatAre", "(I)I"⟩, 10), (⟨"HallPhone$House", "speakOneMinute", "()V"⟩, 10), (⟨"HallPhone$House", "isListener", "(I)Z"⟩, 10), (⟨"HallPhone$House", "hearOneMinute", "(II)V"⟩, 10), (⟨"HallPhone$House", "comeDown", "(I)V"⟩, 10), (⟨"HallPhone$Slate", "wipeFor", "(I)I"⟩, 3), (⟨"HallPhone$Queue", "join", "(I)V"⟩, 2), (⟨"HallPhone$House", "isCallOver", "()Z"⟩, 10), (⟨"HallPhone$Queue", "at", "(I)I"⟩, 2), (⟨"HallPhone$House", "countWaiting", "()V"⟩, 10), (⟨"HallPhone$House", "changeSetting", "(II)I"⟩, 10), (⟨"HallPhone$House", "settingNumber", "(I)I"⟩, 10), (⟨"HallPhone$House", "copyFrom", "(LHallPhone$House;)V"⟩, 10)]
theorem lw_r3 : ∀ q ∈ lw_privs_3, lw_okq q := List.forall_mem_cons.mpr ⟨lw_p32, List.forall_mem_cons.mpr ⟨lw_p33, List.forall_mem_cons.mpr ⟨lw_p34, List.forall_mem_cons.mpr ⟨lw_p35, List.forall_mem_cons.mpr ⟨lw_p36, List.forall_mem_cons.mpr ⟨lw_p37, List.forall_mem_cons.mpr ⟨lw_p38, List.forall_mem_cons.mpr ⟨lw_p39, List.forall_mem_cons.mpr ⟨lw_p40, List.forall_mem_cons.mpr ⟨lw_p41, List.forall_mem_cons.mpr ⟨lw_p42, List.forall_mem_cons.mpr ⟨lw_p43, List.forall_mem_cons.mpr ⟨lw_p44, List.forall_mem_cons.mpr ⟨lw_p45, List.forall_mem_cons.mpr ⟨lw_p46, List.forall_mem_cons.mpr ⟨lw_p47, fun _ h => absurd h List.not_mem_nil⟩⟩⟩⟩⟩⟩⟩⟩⟩⟩⟩⟩⟩⟩⟩⟩
theorem lw_p48 : lw_okq (⟨"HallPhone$Phone", "copyFrom", "(LHallPhone$Phone;)V"⟩, 5) := ⟨⟨by decide +kernel, by decide +kernel⟩, List.mem_of_getElem? (i := 47) (by decide +kernel), List.mem_of_getElem? (i := 518) (by decide +kernel), List.mem_of_getElem? (i := 519) (by decide +kernel)⟩
theorem lw_p49 : lw_okq (⟨"HallPhone$Queue", "copyFrom", "(LHallPhone$Queue;)V"⟩, 2) := ⟨⟨by decide +kernel, by decide +kernel⟩, List.mem_of_getElem? (i := 76) (by decide +kernel), List.mem_of_getElem? (i := 522) (by decide +kernel), List.mem_of_getElem? (i := 523) (by decide +kernel)⟩
theorem lw_p50 : lw_okq (⟨"HallPhone$Slate", "copyFrom", "(LHallPhone$Slate;)V"⟩, 3) := ⟨⟨by decide +kernel, by decide +kernel⟩, List.mem_of_getElem? (i := 90) (by decide +kernel), List.mem_of_getElem? (i := 527) (by decide +kernel), List.mem_of_getElem? (i := 528) (by decide +kernel)⟩
theorem lw_p51 : lw_okq (⟨"HallPhone$History", "forget", "()V"⟩, 3) := ⟨⟨by decide +kernel, by decide +kernel⟩, List.mem_of_getElem? (i := 145) (by decide +kernel), List.mem_of_getElem? (i := 532) (by decide +kernel), List.mem_of_getElem? (i := 533) (by decide +kernel)⟩
theorem lw_p52 : lw_okq (⟨"HallPhone", "appendFourBytes", "(I)V"⟩, 10) := ⟨⟨by decide +kernel, by decide +kernel⟩, List.mem_of_getElem? (i := 33) (by decide +kernel), List.mem_of_getElem? (i := 571) (by decide +kernel), List.mem_of_getElem? (i := 572) (by decide +kernel)⟩
theorem lw_p53 : lw_okq (⟨"HallPhone$House", "knowersOf", "(I)I"⟩, 10) := ⟨⟨by decide +kernel, by decide +kernel⟩, List.mem_of_getElem? (i := 41) (by decide +kernel), List.mem_of_getElem? (i := 584) (by decide +kernel), List.mem_of_getElem? (i := 585) (by decide +kernel)⟩
theorem lw_p54 : lw_okq (⟨"HallPhone$House", "minutesHeard", "(II)I"⟩, 10) := ⟨⟨by decide +kernel, by decide +kernel⟩, List.mem_of_getElem? (i := 41) (by decide +kernel), List.mem_of_getElem? (i := 588) (by decide +kernel), List.mem_of_getElem? (i := 589) (by decide +kernel)⟩
theorem lw_p55 : lw_okq (⟨"HallPhone$House", "minutesTillFree", "()I"⟩, 10) := ⟨⟨by decide +kernel, by decide +kernel⟩, List.mem_of_getElem? (i := 41) (by decide +kernel), List.mem_of_getElem? (i := 602) (by decide +kernel), List.mem_of_getElem? (i := 603) (by decide +kernel)⟩
theorem lw_p56 : lw_okq (⟨"HallPhone$House", "minutesTillAllSpoke", "(II)I"⟩, 10) := ⟨⟨by decide +kernel, by decide +kernel⟩, List.mem_of_getElem? (i := 41) (by decide +kernel), List.mem_of_getElem? (i := 612) (by decide +kernel), List.mem_of_getElem? (i := 613) (by decide +kernel)⟩
theorem lw_p57 : lw_okq (⟨"HallPhone$House", "accountNumber", "(I)I"⟩, 10) := ⟨⟨by decide +kernel, by decide +kernel⟩, List.mem_of_getElem? (i := 41) (by decide +kernel), List.mem_of_getElem? (i := 620) (by decide +kernel), List.mem_of_getElem? (i := 621) (by decide +kernel)⟩
theorem lw_p58 : lw_okq (⟨"HallPhone$House", "debtOfAll", "()I"⟩, 10) := ⟨⟨by decide +kernel, by decide +kernel⟩, List.mem_of_getElem? (i := 41) (by decide +kernel), List.mem_of_getElem? (i := 624) (by decide +kernel), List.mem_of_getElem? (i := 625) (by decide +kernel)⟩
theorem lw_p59 : lw_okq (⟨"java/lang/Throwable", "fillInStackTrace", "(I)Ljava/lang/Throwable;"⟩, 6) := ⟨⟨by decide +kernel, by decide +kernel⟩, List.mem_of_getElem? (i := 849) (by decide +kernel), List.mem_of_getElem? (i := 847) (by decide +kernel), List.mem_of_getElem? (i := 848) (by decide +kernel)⟩
theorem lw_p60 : lw_okq (⟨"HallPhone", "writeState", "(I)V"⟩, 10) := ⟨⟨by decide +kernel, by decide +kernel⟩, List.mem_of_getElem? (i := 33) (by decide +kernel), List.mem_of_getElem? (i := 968) (by decide +kernel), List.mem_of_getElem? (i := 969) (by decide +kernel)⟩
theorem lw_p61 : lw_okq (⟨"HallPhone$Queue", "placeOf", "(I)I"⟩, 2) := ⟨⟨by decide +kernel, by decide +kernel⟩, List.mem_of_getElem? (i := 76) (by decide +kernel), List.mem_of_getElem? (i := 973) (by decide +kernel), List.mem_of_getElem? (i := 974) (by decide +kernel)⟩
theorem lw_p62 : lw_okq (⟨"HallPhone$Slate", "flatAt", "(I)I"⟩, 3) := ⟨⟨by decide +kernel, by decide +kernel⟩, List.mem_of_getElem? (i := 90) (by decide +kernel), List.mem_of_getElem? (i := 982) (by decide +kernel), List.mem_of_getElem? (i := 983) (by decide +kernel)⟩
theorem lw_p63 : lw_okq (⟨"HallPhone$Slate", "minuteAt", "(I)I"⟩, 3) := ⟨⟨by decide +kernel, by decide +kernel⟩, List.mem_of_getElem? (i := 90) (by decide +kernel), List.mem_of_getElem? (i := 986) (by decide +kernel), List.mem_of_getElem? (i := 987) (by decide +kernel)⟩
def lw_privs_4 : List (MethodName × Nat) := [(⟨"HallPhone$Phone", "copyFrom", "(LHallPhone$Phone;)V"⟩, 5), (⟨"HallPhone$Queue", "copyFrom", "(LHallPhone$Queue;)V"⟩, 2), (⟨"HallPhone$Slate", "copyFrom", "(LHallPhone$Slate;)V"⟩, 3), (⟨"HallPhone$History", "forget", "()V"⟩, 3), (⟨"HallPhone", "appendFourBytes", "(I)V"⟩, 10), (⟨"HallPhone$House", "knowersOf", "(I)I"⟩, 10), (⟨"HallPhone$House", "minutesHeard", "(II)I"⟩, 10), (⟨"HallPhone$House", "minutesTillFree", "()I"⟩, 10), (⟨"HallPhone$House", "minutesTillAllSpoke", "(II)I"⟩, 10), (⟨"HallPhone$House", "accountNumber", "(I)I"⟩, 10), (⟨"HallPhone$House", "debtOfAll", "()I"⟩, 10), (⟨"java/lang/Throwable", "fillInStackTrace", "(I)Ljava/lang/Throwable;"⟩, 6), (⟨"HallPhone", "writeState", "(I)V"⟩, 10), (⟨"HallPhone$Queue", "placeOf", "(I)I"⟩, 2), (⟨"HallPhone$Slate", "flatAt", "(I)I"⟩, 3), (⟨"HallPhone$Slate", "minuteAt", "(I)I"⟩, 3)]
theorem lw_r4 : ∀ q ∈ lw_privs_4, lw_okq q := List.forall_mem_cons.mpr ⟨lw_p48, List.forall_mem_cons.mpr ⟨lw_p49, List.forall_mem_cons.mpr ⟨lw_p50, List.forall_mem_cons.mpr ⟨lw_p51, List.forall_mem_cons.mpr ⟨lw_p52, List.forall_mem_cons.mpr ⟨lw_p53, List.forall_mem_cons.mpr ⟨lw_p54, List.forall_mem_cons.mpr ⟨lw_p55, List.forall_mem_cons.mpr ⟨lw_p56, List.forall_mem_cons.mpr ⟨lw_p57, List.forall_mem_cons.mpr ⟨lw_p58, List.forall_mem_cons.mpr ⟨lw_p59, List.forall_mem_cons.mpr ⟨lw_p60, List.forall_mem_cons.mpr ⟨lw_p61, List.forall_mem_cons.mpr ⟨lw_p62, List.forall_mem_cons.mpr ⟨lw_p63, fun _ h => absurd h List.not_mem_nil⟩⟩⟩⟩⟩⟩⟩⟩⟩⟩⟩⟩⟩⟩⟩⟩
theorem lw_p64 : lw_okq (⟨"HallPhone$History", "takeBack", "(LHallPhone$House;)Z"⟩, 3) := ⟨⟨by decide +kernel, by decide +kernel⟩, List.mem_of_getElem? (i := 145) (by decide +kernel), List.mem_of_getElem? (i := 1008) (by decide +kernel), List.mem_of_getElem? (i := 1009) (by decide +kernel)⟩
theorem lw_p65 : lw_okq (⟨"HallPhone$House", "houseNumber", "(I)I"⟩, 10) := ⟨⟨by decide +kernel, by decide +kernel⟩, List.mem_of_getElem? (i := 41) (by decide +kernel), List.mem_of_getElem? (i := 1018) (by decide +kernel), List.mem_of_getElem? (i := 1019) (by decide +kernel)⟩
theorem lw_p66 : lw_okq (⟨"HallPhone", "checksumWithFlat", "(JI)J"⟩, 10) := ⟨⟨by decide +kernel, by decide +kernel⟩, List.mem_of_getElem? (i := 33) (by decide +kernel), List.mem_of_getElem? (i := 1024) (by decide +kernel), List.mem_of_getElem? (i := 1025) (by decide +kernel)⟩
theorem lw_p67 : lw_okq (⟨"HallPhone$House", "flatNumber", "(II)I"⟩, 10) := ⟨⟨by decide +kernel, by decide +kernel⟩, List.mem_of_getElem? (i := 41) (by decide +kernel), List.mem_of_getElem? (i := 1028) (by decide +kernel), List.mem_of_getElem? (i := 1029) (by decide +kernel)⟩
theorem lw_p68 : lw_okq (⟨"HallPhone$Slate", "countFor", "(I)I"⟩, 3) := ⟨⟨by decide +kernel, by decide +kernel⟩, List.mem_of_getElem? (i := 90) (by decide +kernel), List.mem_of_getElem? (i := 1033) (by decide +kernel), List.mem_of_getElem? (i := 1034) (by decide +kernel)⟩
theorem lw_p69 : lw_okq (⟨"HallPhone$Reader", "takeBytes", "([II)V"⟩, 10) := ⟨⟨by decide +kernel, by decide +kernel⟩, List.mem_of_getElem? (i := 165) (by decide +kernel), List.mem_of_getElem? (i := 1053) (by decide +kernel), List.mem_of_getElem? (i := 1054) (by decide +kernel)⟩
theorem lw_p70 : lw_okq (⟨"HallPhone", "checkFlat", "(I)V"⟩, 10) := ⟨⟨by decide +kernel, by decide +kernel⟩, List.mem_of_getElem? (i := 33) (by decide +kernel), List.mem_of_getElem? (i := 1089) (by decide +kernel), List.mem_of_getElem? (i := 1090) (by decide +kernel)⟩
theorem lw_p71 : lw_okq (⟨"HallPhone$House", "listenersOf", "(I)I"⟩, 10) := ⟨⟨by decide +kernel, by decide +kernel⟩, List.mem_of_getElem? (i := 41) (by decide +kernel), List.mem_of_getElem? (i := 1151) (by decide +kernel), List.mem_of_getElem? (i := 1152) (by decide +kernel)⟩
theorem lw_p72 : lw_okq (⟨"HallPhone$House", "reasonOf", "(I)I"⟩, 10) := ⟨⟨by decide +kernel, by decide +kernel⟩, List.mem_of_getElem? (i := 41) (by decide +kernel), List.mem_of_getElem? (i := 1170) (by decide +kernel), List.mem_of_getElem? (i := 1171) (by decide +kernel)⟩
theorem lw_p73 : lw_okq (⟨"HallPhone$House", "causeOf", "(II)I"⟩, 10) := ⟨⟨by decide +kernel, by decide +kernel⟩, List.mem_of_getElem? (i := 41) (by decide +kernel), List.mem_of_getElem? (i := 1174) (by decide +kernel), List.mem_of_getElem? (i := 1175) (by decide +kernel)⟩
theorem lw_p74 : lw_okq (⟨"HallPhone$House", "minutesTillSpeaking", "(I)I"⟩, 10) := ⟨⟨by decide +kernel, by decide +kernel⟩, List.mem_of_getElem? (i := 41) (by decide +kernel), List.mem_of_getElem? (i := 1185) (by decide +kernel), List.mem_of_getElem? (i := 1186) (by decide +kernel)⟩
theorem lw_p75 : lw_okq (⟨"HallPhone", "later", "(I)LHallPhone$House;"⟩, 10) := ⟨⟨by decide +kernel, by decide +kernel⟩, List.mem_of_getElem? (i := 33) (by decide +kernel), List.mem_of_getElem? (i := 1196) (by decide +kernel), List.mem_of_getElem? (i := 1197) (by decide +kernel)⟩
theorem lw_p76 : lw_okq (⟨"HallPhone$House", "knownTo", "(I)I"⟩, 10) := ⟨⟨by decide +kernel, by decide +kernel⟩, List.mem_of_getElem? (i := 41) (by decide +kernel), List.mem_of_getElem? (i := 1224) (by decide +kernel), List.mem_of_getElem? (i := 1225) (by decide +kernel)⟩
theorem lw_p77 : lw_okq (⟨"HallPhone", "changeOfFlat", "(LHallPhone$Verb;II)I"⟩, 10) := ⟨⟨by decide +kernel, by decide +kernel⟩, List.mem_of_getElem? (i := 33) (by decide +kernel), List.mem_of_getElem? (i := 1252) (by decide +kernel), List.mem_of_getElem? (i := 1253) (by decide +kernel)⟩
theorem lw_p78 : lw_okq (⟨"HallPhone$History", "keep", "(LHallPhone$House;)V"⟩, 3) := ⟨⟨by decide +kernel, by decide +kernel⟩, List.mem_of_getElem? (i := 145) (by decide +kernel), List.mem_of_getElem? (i := 1256) (by decide +kernel), List.mem_of_getElem? (i := 1257) (by decide +kernel)⟩
theorem lw_p79 : lw_okq (⟨"HallPhone", "isSaved", "(I)Z"⟩, 10) := ⟨⟨by decide +kernel, by decide +kernel⟩, List.mem_of_getElem? (i := 33) (by decide +kernel), List.mem_of_getElem? (i := 1331) (by decide +kernel), List.mem_of_getElem? (i := 1332) (by decide +kernel)⟩
def lw_privs_5 : List (MethodName × Nat) := [(⟨"HallPhone$History", "takeBack", "(LHallPhone$House;)Z"⟩, 3), (⟨"HallPhone$House", "houseNumber", "(I)I"⟩, 10), (⟨"HallPhone", "checksumWithFlat", "(JI)J"⟩, 10), (⟨"HallPhone$House", "flatNumber", "(II)I"⟩, 10), (⟨"HallPhone$Slate", "countFor", "(I)I"⟩, 3), (⟨"HallPhone$Reader", "takeBytes", "([II)V"⟩, 10), (⟨"HallPhone", "checkFlat", "(I)V"⟩, 10), (⟨"HallPhone$House", "listenersOf", "(I)I"⟩, 10), (⟨"HallPhone$House", "reasonOf", "(I)I"⟩, 10), (⟨"HallPhone$House", "causeOf", "(II)I"⟩, 10), (⟨"HallPhone$House", "minutesTillSpeaking", "(I)I"⟩, 10), (⟨"HallPhone", "later", "(I)LHallPhone$House;"⟩, 10), (⟨"HallPhone$House", "knownTo", "(I)I"⟩, 10), (⟨"HallPhone", "changeOfFlat", "(LHallPhone$Verb;II)I"⟩, 10), (⟨"HallPhone$History", "keep", "(LHallPhone$House;)V"⟩, 3), (⟨"HallPhone", "isSaved", "(I)Z"⟩, 10)]
theorem lw_r5 : ∀ q ∈ lw_privs_5, lw_okq q := List.forall_mem_cons.mpr ⟨lw_p64, List.forall_mem_cons.mpr ⟨lw_p65, List.forall_mem_cons.mpr ⟨lw_p66, List.forall_mem_cons.mpr ⟨lw_p67, List.forall_mem_cons.mpr ⟨lw_p68, List.forall_mem_cons.mpr ⟨lw_p69, List.forall_mem_cons.mpr ⟨lw_p70, List.forall_mem_cons.mpr ⟨lw_p71, List.forall_mem_cons.mpr ⟨lw_p72, List.forall_mem_cons.mpr ⟨lw_p73, List.forall_mem_cons.mpr ⟨lw_p74, List.forall_mem_cons.mpr ⟨lw_p75, List.forall_mem_cons.mpr ⟨lw_p76, List.forall_mem_cons.mpr ⟨lw_p77, List.forall_mem_cons.mpr ⟨lw_p78, List.forall_mem_cons.mpr ⟨lw_p79, fun _ h => absurd h List.not_mem_nil⟩⟩⟩⟩⟩⟩⟩⟩⟩⟩⟩⟩⟩⟩⟩⟩
theorem lw_p80 : lw_okq (⟨"HallPhone", "snapshotIn", "(I)LHallPhone$House;"⟩, 10) := ⟨⟨by decide +kernel, by decide +kernel⟩, List.mem_of_getElem? (i := 33) (by decide +kernel), List.mem_of_getElem? (i := 1335) (by decide +kernel), List.mem_of_getElem? (i := 1336) (by decide +kernel)⟩
theorem lw_p81 : lw_okq (⟨"HallPhoneModel", "lay", "(I)V"⟩, 21) := ⟨⟨by decide +kernel, by decide +kernel⟩, List.mem_of_getElem? (i := 1347) (by decide +kernel), List.mem_of_getElem? (i := 1353) (by decide +kernel), List.mem_of_getElem? (i := 1354) (by decide +kernel)⟩
theorem lw_p82 : lw_okq (⟨"HallPhoneModel", "tell", "(Ljava/lang/String;)V"⟩, 21) := ⟨⟨by decide +kernel, by decide +kernel⟩, List.mem_of_getElem? (i := 1347) (by decide +kernel), List.mem_of_getElem? (i := 1358) (by decide +kernel), List.mem_of_getElem? (i := 1359) (by decide +kernel)⟩
theorem lw_p83 : lw_okq (⟨"HallPhoneModel", "parseAll", "()Z"⟩, 21) := ⟨⟨by decide +kernel, by decide +kernel⟩, List.mem_of_getElem? (i := 1347) (by decide +kernel), List.mem_of_getElem? (i := 1367) (by decide +kernel), List.mem_of_getElem? (i := 1368) (by decide +kernel)⟩
theorem lw_p84 : lw_okq (⟨"HallPhoneModel", "next", "()V"⟩, 21) := ⟨⟨by decide +kernel, by decide +kernel⟩, List.mem_of_getElem? (i := 1347) (by decide +kernel), List.mem_of_getElem? (i := 1371) (by decide +kernel), List.mem_of_getElem? (i := 1372) (by decide +kernel)⟩
theorem lw_p85 : lw_okq (⟨"HallPhoneModel", "readsAll", "()Z"⟩, 21) := ⟨⟨by decide +kernel, by decide +kernel⟩, List.mem_of_getElem? (i := 1347) (by decide +kernel), List.mem_of_getElem? (i := 1378) (by decide +kernel), List.mem_of_getElem? (i := 1379) (by decide +kernel)⟩
theorem lw_p86 : lw_okq (⟨"HallPhoneModel", "readsHouse", "()Z"⟩, 21) := ⟨⟨by decide +kernel, by decide +kernel⟩, List.mem_of_getElem? (i := 1347) (by decide +kernel), List.mem_of_getElem? (i := 1382) (by decide +kernel), List.mem_of_getElem? (i := 1383) (by decide +kernel)⟩
theorem lw_p87 : lw_okq (⟨"HallPhoneModel", "says", "(Ljava/lang/String;)Z"⟩, 21) := ⟨⟨by decide +kernel, by decide +kernel⟩, List.mem_of_getElem? (i := 1347) (by decide +kernel), List.mem_of_getElem? (i := 1387) (by decide +kernel), List.mem_of_getElem? (i := 1388) (by decide +kernel)⟩
theorem lw_p88 : lw_okq (⟨"HallPhoneModel", "fail", "(I)Z"⟩, 21) := ⟨⟨by decide +kernel, by decide +kernel⟩, List.mem_of_getElem? (i := 1347) (by decide +kernel), List.mem_of_getElem? (i := 1391) (by decide +kernel), List.mem_of_getElem? (i := 1392) (by decide +kernel)⟩
theorem lw_p89 : lw_okq (⟨"HallPhoneModel", "isNumber", "(II)Z"⟩, 21) := ⟨⟨by decide +kernel, by decide +kernel⟩, List.mem_of_getElem? (i := 1347) (by decide +kernel), List.mem_of_getElem? (i := 1395) (by decide +kernel), List.mem_of_getElem? (i := 1396) (by decide +kernel)⟩
theorem lw_p90 : lw_okq (⟨"HallPhoneModel", "to", "(III)V"⟩, 21) := ⟨⟨by decide +kernel, by decide +kernel⟩, List.mem_of_getElem? (i := 1347) (by decide +kernel), List.mem_of_getElem? (i := 1402) (by decide +kernel), List.mem_of_getElem? (i := 1403) (by decide +kernel)⟩
theorem lw_p91 : lw_okq (⟨"HallPhoneModel", "readsStatement", "()Z"⟩, 21) := ⟨⟨by decide +kernel, by decide +kernel⟩, List.mem_of_getElem? (i := 1347) (by decide +kernel), List.mem_of_getElem? (i := 1407) (by decide +kernel), List.mem_of_getElem? (i := 1408) (by decide +kernel)⟩
theorem lw_p92 : lw_okq (⟨"HallPhoneModel", "settingAhead", "()I"⟩, 21) := ⟨⟨by decide +kernel, by decide +kernel⟩, List.mem_of_getElem? (i := 1347) (by decide +kernel), List.mem_of_getElem? (i := 1411) (by decide +kernel), List.mem_of_getElem? (i := 1412) (by decide +kernel)⟩
theorem lw_p93 : lw_okq (⟨"HallPhoneModel", "readsSetting", "(I)Z"⟩, 21) := ⟨⟨by decide +kernel, by decide +kernel⟩, List.mem_of_getElem? (i := 1347) (by decide +kernel), List.mem_of_getElem? (i := 1421) (by decide +kernel), List.mem_of_getElem? (i := 1422) (by decide +kernel)⟩
theorem lw_p94 : lw_okq (⟨"HallPhoneModel", "number", "(III)Z"⟩, 21) := ⟨⟨by decide +kernel, by decide +kernel⟩, List.mem_of_getElem? (i := 1347) (by decide +kernel), List.mem_of_getElem? (i := 1431) (by decide +kernel), List.mem_of_getElem? (i := 1432) (by decide +kernel)⟩
theorem lw_p95 : lw_okq (⟨"HallPhoneModel", "flatAt", "()Z"⟩, 21) := ⟨⟨by decide +kernel, by decide +kernel⟩, List.mem_of_getElem? (i := 1347) (by decide +kernel), List.mem_of_getElem? (i := 1436) (by decide +kernel), List.mem_of_getElem? (i := 1437) (by decide +kernel)⟩
def lw_privs_6 : List (MethodName × Nat) := [(⟨"HallPhone", "snapshotIn", "(I)LHallPhone$House;"⟩, 10), (⟨"HallPhoneModel", "lay", "(I)V"⟩, 21), (⟨"HallPhoneModel", "tell", "(Ljava/lang/String;)V"⟩, 21), (⟨"HallPhoneModel", "parseAll", "()Z"⟩, 21), (⟨"HallPhoneModel", "next", "()V"⟩, 21), (⟨"HallPhoneModel", "readsAll", "()Z"⟩, 21), (⟨"HallPhoneModel", "readsHouse", "()Z"⟩, 21), (⟨"HallPhoneModel", "says", "(Ljava/lang/String;)Z"⟩, 21), (⟨"HallPhoneModel", "fail", "(I)Z"⟩, 21), (⟨"HallPhoneModel", "isNumber", "(II)Z"⟩, 21), (⟨"HallPhoneModel", "to", "(III)V"⟩, 21), (⟨"HallPhoneModel", "readsStatement", "()Z"⟩, 21), (⟨"HallPhoneModel", "settingAhead", "()I"⟩, 21), (⟨"HallPhoneModel", "readsSetting", "(I)Z"⟩, 21), (⟨"HallPhoneModel", "number", "(III)Z"⟩, 21), (⟨"HallPhoneModel", "flatAt", "()Z"⟩, 21)]
theorem lw_r6 : ∀ q ∈ lw_privs_6, lw_okq q := List.forall_mem_cons.mpr ⟨lw_p80, List.forall_mem_cons.mpr ⟨lw_p81, List.forall_mem_cons.mpr ⟨lw_p82, List.forall_mem_cons.mpr ⟨lw_p83, List.forall_mem_cons.mpr ⟨lw_p84, List.forall_mem_cons.mpr ⟨lw_p85, List.forall_mem_cons.mpr ⟨lw_p86, List.forall_mem_cons.mpr ⟨lw_p87, List.forall_mem_cons.mpr ⟨lw_p88, List.forall_mem_cons.mpr ⟨lw_p89, List.forall_mem_cons.mpr ⟨lw_p90, List.forall_mem_cons.mpr ⟨lw_p91, List.forall_mem_cons.mpr ⟨lw_p92, List.forall_mem_cons.mpr ⟨lw_p93, List.forall_mem_cons.mpr ⟨lw_p94, List.forall_mem_cons.mpr ⟨lw_p95, fun _ h => absurd h List.not_mem_nil⟩⟩⟩⟩⟩⟩⟩⟩⟩⟩⟩⟩⟩⟩⟩⟩
theorem lw_p96 : lw_okq (⟨"HallPhoneModel", "isSemicolon", "()Z"⟩, 21) := ⟨⟨by decide +kernel, by decide +kernel⟩, List.mem_of_getElem? (i := 1347) (by decide +kernel), List.mem_of_getElem? (i := 1440) (by decide +kernel), List.mem_of_getElem? (i := 1441) (by decide +kernel)⟩
theorem lw_p97 : lw_okq (⟨"HallPhoneModel", "wants", "(II)I"⟩, 21) := ⟨⟨by decide +kernel, by decide +kernel⟩, List.mem_of_getElem? (i := 1347) (by decide +kernel), List.mem_of_getElem? (i := 1444) (by decide +kernel), List.mem_of_getElem? (i := 1445) (by decide +kernel)⟩
theorem lw_p98 : lw_okq (⟨"HallPhoneModel", "of", "(II)I"⟩, 21) := ⟨⟨by decide +kernel, by decide +kernel⟩, List.mem_of_getElem? (i := 1347) (by decide +kernel), List.mem_of_getElem? (i := 1448) (by decide +kernel), List.mem_of_getElem? (i := 1449) (by decide +kernel)⟩
theorem lw_p99 : lw_okq (⟨"HallPhoneModel", "isDone", "(I)Z"⟩, 21) := ⟨⟨by decide +kernel, by decide +kernel⟩, List.mem_of_getElem? (i := 1347) (by decide +kernel), List.mem_of_getElem? (i := 1452) (by decide +kernel), List.mem_of_getElem? (i := 1453) (by decide +kernel)⟩
theorem lw_p100 : lw_okq (⟨"HallPhoneModel", "gives", "(I)I"⟩, 21) := ⟨⟨by decide +kernel, by decide +kernel⟩, List.mem_of_getElem? (i := 1347) (by decide +kernel), List.mem_of_getElem? (i := 1457) (by decide +kernel), List.mem_of_getElem? (i := 1458) (by decide +kernel)⟩
theorem lw_p101 : lw_okq (⟨"HallPhoneModel", "isCalled", "(I)Z"⟩, 21) := ⟨⟨by decide +kernel, by decide +kernel⟩, List.mem_of_getElem? (i := 1347) (by decide +kernel), List.mem_of_getElem? (i := 1461) (by decide +kernel), List.mem_of_getElem? (i := 1462) (by decide +kernel)⟩
theorem lw_p102 : lw_okq (⟨"HallPhoneModel", "leavesQueue", "(I)V"⟩, 21) := ⟨⟨by decide +kernel, by decide +kernel⟩, List.mem_of_getElem? (i := 1347) (by decide +kernel), List.mem_of_getElem? (i := 1465) (by decide +kernel), List.mem_of_getElem? (i := 1466) (by decide +kernel)⟩
theorem lw_p103 : lw_okq (⟨"HallPhoneModel", "placeOf", "(I)I"⟩, 21) := ⟨⟨by decide +kernel, by decide +kernel⟩, List.mem_of_getElem? (i := 1347) (by decide +kernel), List.mem_of_getElem? (i := 1469) (by decide +kernel), List.mem_of_getElem? (i := 1470) (by decide +kernel)⟩
theorem lw_p104 : lw_okq (⟨"HallPhoneModel", "hangs", "(I)I"⟩, 21) := ⟨⟨by decide +kernel, by decide +kernel⟩, List.mem_of_getElem? (i := 1347) (by decide +kernel), List.mem_of_getElem? (i := 1474) (by decide +kernel), List.mem_of_getElem? (i := 1475) (by decide +kernel)⟩
theorem lw_p105 : lw_okq (⟨"HallPhoneModel", "ends", "()V"⟩, 21) := ⟨⟨by decide +kernel, by decide +kernel⟩, List.mem_of_getElem? (i := 1347) (by decide +kernel), List.mem_of_getElem? (i := 1478) (by decide +kernel), List.mem_of_getElem? (i := 1479) (by decide +kernel)⟩
theorem lw_p106 : lw_okq (⟨"HallPhoneModel", "costOf", "(I)I"⟩, 21) := ⟨⟨by decide +kernel, by decide +kernel⟩, List.mem_of_getElem? (i := 1347) (by decide +kernel), List.mem_of_getElem? (i := 1482) (by decide +kernel), List.mem_of_getElem? (i := 1483) (by decide +kernel)⟩
theorem lw_p107 : lw_okq (⟨"HallPhoneModel", "adds", "(III)V"⟩, 21) := ⟨⟨by decide +kernel, by decide +kernel⟩, List.mem_of_getElem? (i := 1347) (by decide +kernel), List.mem_of_getElem? (i := 1486) (by decide +kernel), List.mem_of_getElem? (i := 1487) (by decide +kernel)⟩
theorem lw_p108 : lw_okq (⟨"HallPhoneModel", "counts", "(II)V"⟩, 21) := ⟨⟨by decide +kernel, by decide +kernel⟩, List.mem_of_getElem? (i := 1347) (by decide +kernel), List.mem_of_getElem? (i := 1490) (by decide +kernel), List.mem_of_getElem? (i := 1491) (by decide +kernel)⟩
theorem lw_p109 : lw_okq (⟨"HallPhoneModel", "lies", "()V"⟩, 21) := ⟨⟨by decide +kernel, by decide +kernel⟩, List.mem_of_getElem? (i := 1347) (by decide +kernel), List.mem_of_getElem? (i := 1494) (by decide +kernel), List.mem_of_getElem? (i := 1495) (by decide +kernel)⟩
theorem lw_p110 : lw_okq (⟨"HallPhoneModel", "rings", "(II)I"⟩, 21) := ⟨⟨by decide +kernel, by decide +kernel⟩, List.mem_of_getElem? (i := 1347) (by decide +kernel), List.mem_of_getElem? (i := 1499) (by decide +kernel), List.mem_of_getElem? (i := 1500) (by decide +kernel)⟩
theorem lw_p111 : lw_okq (⟨"HallPhoneModel", "outcome", "(I)I"⟩, 21) := ⟨⟨by decide +kernel, by decide +kernel⟩, List.mem_of_getElem? (i := 1347) (by decide +kernel), List.mem_of_getElem? (i := 1503) (by decide +kernel), List.mem_of_getElem? (i := 1504) (by decide +kernel)⟩
def lw_privs_7 : List (MethodName × Nat) := [(⟨"HallPhoneModel", "isSemicolon", "()Z"⟩, 21), (⟨"HallPhoneModel", "wants", "(II)I"⟩, 21), (⟨"HallPhoneModel", "of", "(II)I"⟩, 21), (⟨"HallPhoneModel", "isDone", "(I)Z"⟩, 21), (⟨"HallPhoneModel", "gives", "(I)I"⟩, 21), (⟨"HallPhoneModel", "isCalled", "(I)Z"⟩, 21), (⟨"HallPhoneModel", "leavesQueue", "(I)V"⟩, 21), (⟨"HallPhoneModel", "placeOf", "(I)I"⟩, 21), (⟨"HallPhoneModel", "hangs", "(I)I"⟩, 21), (⟨"HallPhoneModel", "ends", "()V"⟩, 21), (⟨"HallPhoneModel", "costOf", "(I)I"⟩, 21), (⟨"HallPhoneModel", "adds", "(III)V"⟩, 21), (⟨"HallPhoneModel", "counts", "(II)V"⟩, 21), (⟨"HallPhoneModel", "lies", "()V"⟩, 21), (⟨"HallPhoneModel", "rings", "(II)I"⟩, 21), (⟨"HallPhoneModel", "outcome", "(I)I"⟩, 21)]
theorem lw_r7 : ∀ q ∈ lw_privs_7, lw_okq q := List.forall_mem_cons.mpr ⟨lw_p96, List.forall_mem_cons.mpr ⟨lw_p97, List.forall_mem_cons.mpr ⟨lw_p98, List.forall_mem_cons.mpr ⟨lw_p99, List.forall_mem_cons.mpr ⟨lw_p100, List.forall_mem_cons.mpr ⟨lw_p101, List.forall_mem_cons.mpr ⟨lw_p102, List.forall_mem_cons.mpr ⟨lw_p103, List.forall_mem_cons.mpr ⟨lw_p104, List.forall_mem_cons.mpr ⟨lw_p105, List.forall_mem_cons.mpr ⟨lw_p106, List.forall_mem_cons.mpr ⟨lw_p107, List.forall_mem_cons.mpr ⟨lw_p108, List.forall_mem_cons.mpr ⟨lw_p109, List.forall_mem_cons.mpr ⟨lw_p110, List.forall_mem_cons.mpr ⟨lw_p111, fun _ h => absurd h List.not_mem_nil⟩⟩⟩⟩⟩⟩⟩⟩⟩⟩⟩⟩⟩⟩⟩⟩
theorem lw_p112 : lw_okq (⟨"HallPhoneModel", "speaks", "(IIZ)V"⟩, 21) := ⟨⟨by decide +kernel, by decide +kernel⟩, List.mem_of_getElem? (i := 1347) (by decide +kernel), List.mem_of_getElem? (i := 1507) (by decide +kernel), List.mem_of_getElem? (i := 1508) (by decide +kernel)⟩
theorem lw_p113 : lw_okq (⟨"HallPhoneModel", "pays", "(II)I"⟩, 21) := ⟨⟨by decide +kernel, by decide +kernel⟩, List.mem_of_getElem? (i := 1347) (by decide +kernel), List.mem_of_getElem? (i := 1512) (by decide +kernel), List.mem_of_getElem? (i := 1513) (by decide +kernel)⟩
theorem lw_p114 : lw_okq (⟨"HallPhoneModel", "minutes", "(I)I"⟩, 21) := ⟨⟨by decide +kernel, by decide +kernel⟩, List.mem_of_getElem? (i := 1347) (by decide +kernel), List.mem_of_getElem? (i := 1517) (by decide +kernel), List.mem_of_getElem? (i := 1518) (by decide +kernel)⟩
theorem lw_p115 : lw_okq (⟨"HallPhoneModel", "minute", "()V"⟩, 21) := ⟨⟨by decide +kernel, by decide +kernel⟩, List.mem_of_getElem? (i := 1347) (by decide +kernel), List.mem_of_getElem? (i := 1521) (by decide +kernel), List.mem_of_getElem? (i := 1522) (by decide +kernel)⟩
theorem lw_p116 : lw_okq (⟨"HallPhoneModel", "talks", "()V"⟩, 21) := ⟨⟨by decide +kernel, by decide +kernel⟩, List.mem_of_getElem? (i := 1347) (by decide +kernel), List.mem_of_getElem? (i := 1525) (by decide +kernel), List.mem_of_getElem? (i := 1526) (by decide +kernel)⟩
theorem lw_p117 : lw_okq (⟨"HallPhoneModel", "hears", "(II)Z"⟩, 21) := ⟨⟨by decide +kernel, by decide +kernel⟩, List.mem_of_getElem? (i := 1347) (by decide +kernel), List.mem_of_getElem? (i := 1529) (by decide +kernel), List.mem_of_getElem? (i := 1530) (by decide +kernel)⟩
theorem lw_p118 : lw_okq (⟨"HallPhoneModel", "arrives", "(I)V"⟩, 21) := ⟨⟨by decide +kernel, by decide +kernel⟩, List.mem_of_getElem? (i := 1347) (by decide +kernel), List.mem_of_getElem? (i := 1533) (by decide +kernel), List.mem_of_getElem? (i := 1534) (by decide +kernel)⟩
theorem lw_p119 : lw_okq (⟨"HallPhoneModel", "reads", "(I)V"⟩, 21) := ⟨⟨by decide +kernel, by decide +kernel⟩, List.mem_of_getElem? (i := 1347) (by decide +kernel), List.mem_of_getElem? (i := 1537) (by decide +kernel), List.mem_of_getElem? (i := 1538) (by decide +kernel)⟩
theorem lw_p120 : lw_okq (⟨"HallPhoneModel", "type", "(I)V"⟩, 21) := ⟨⟨by decide +kernel, by decide +kernel⟩, List.mem_of_getElem? (i := 1347) (by decide +kernel), List.mem_of_getElem? (i := 1614) (by decide +kernel), List.mem_of_getElem? (i := 1615) (by decide +kernel)⟩
theorem lw_p121 : lw_okq (⟨"HallPhoneModel", "throwsOne", "(Z)Z"⟩, 21) := ⟨⟨by decide +kernel, by decide +kernel⟩, List.mem_of_getElem? (i := 1347) (by decide +kernel), List.mem_of_getElem? (i := 1622) (by decide +kernel), List.mem_of_getElem? (i := 1623) (by decide +kernel)⟩
theorem lw_p122 : lw_okq (⟨"HallPhoneModel", "sizeOf", "(I)I"⟩, 21) := ⟨⟨by decide +kernel, by decide +kernel⟩, List.mem_of_getElem? (i := 1347) (by decide +kernel), List.mem_of_getElem? (i := 1634) (by decide +kernel), List.mem_of_getElem? (i := 1635) (by decide +kernel)⟩
theorem lw_p123 : lw_okq (⟨"HallPhoneModel", "manyWho", "(I)I"⟩, 21) := ⟨⟨by decide +kernel, by decide +kernel⟩, List.mem_of_getElem? (i := 1347) (by decide +kernel), List.mem_of_getElem? (i := 1638) (by decide +kernel), List.mem_of_getElem? (i := 1639) (by decide +kernel)⟩
theorem lw_p124 : lw_okq (⟨"HallPhoneModel", "debts", "()I"⟩, 21) := ⟨⟨by decide +kernel, by decide +kernel⟩, List.mem_of_getElem? (i := 1347) (by decide +kernel), List.mem_of_getElem? (i := 1642) (by decide +kernel), List.mem_of_getElem? (i := 1643) (by decide +kernel)⟩
theorem lw_p125 : lw_okq (⟨"HallPhoneModel", "isFlat", "(I)Z"⟩, 21) := ⟨⟨by decide +kernel, by decide +kernel⟩, List.mem_of_getElem? (i := 1347) (by decide +kernel), List.mem_of_getElem? (i := 1654) (by decide +kernel), List.mem_of_getElem? (i := 1655) (by decide +kernel)⟩
theorem lw_p126 : lw_okq (⟨"HallPhoneModel", "throwsOne", "(ZZ)Z"⟩, 21) := ⟨⟨by decide +kernel, by decide +kernel⟩, List.mem_of_getElem? (i := 1347) (by decide +kernel), List.mem_of_getElem? (i := 1658) (by decide +kernel), List.mem_of_getElem? (i := 1659) (by decide +kernel)⟩
theorem lw_p127 : lw_okq (⟨"HallPhoneModel", "flatTold", "(II)I"⟩, 21) := ⟨⟨by decide +kernel, by decide +kernel⟩, List.mem_of_getElem? (i := 1347) (by decide +kernel), List.mem_of_getElem? (i := 1662) (by decide +kernel), List.mem_of_getElem? (i := 1663) (by decide +kernel)⟩
def lw_privs_8 : List (MethodName × Nat) := [(⟨"HallPhoneModel", "speaks", "(IIZ)V"⟩, 21), (⟨"HallPhoneModel", "pays", "(II)I"⟩, 21), (⟨"HallPhoneModel", "minutes", "(I)I"⟩, 21), (⟨"HallPhoneModel", "minute", "()V"⟩, 21), (⟨"HallPhoneModel", "talks", "()V"⟩, 21), (⟨"HallPhoneModel", "hears", "(II)Z"⟩, 21), (⟨"HallPhoneModel", "arrives", "(I)V"⟩, 21), (⟨"HallPhoneModel", "reads", "(I)V"⟩, 21), (⟨"HallPhoneModel", "type", "(I)V"⟩, 21), (⟨"HallPhoneModel", "throwsOne", "(Z)Z"⟩, 21), (⟨"HallPhoneModel", "sizeOf", "(I)I"⟩, 21), (⟨"HallPhoneModel", "manyWho", "(I)I"⟩, 21), (⟨"HallPhoneModel", "debts", "()I"⟩, 21), (⟨"HallPhoneModel", "isFlat", "(I)Z"⟩, 21), (⟨"HallPhoneModel", "throwsOne", "(ZZ)Z"⟩, 21), (⟨"HallPhoneModel", "flatTold", "(II)I"⟩, 21)]
theorem lw_r8 : ∀ q ∈ lw_privs_8, lw_okq q := List.forall_mem_cons.mpr ⟨lw_p112, List.forall_mem_cons.mpr ⟨lw_p113, List.forall_mem_cons.mpr ⟨lw_p114, List.forall_mem_cons.mpr ⟨lw_p115, List.forall_mem_cons.mpr ⟨lw_p116, List.forall_mem_cons.mpr ⟨lw_p117, List.forall_mem_cons.mpr ⟨lw_p118, List.forall_mem_cons.mpr ⟨lw_p119, List.forall_mem_cons.mpr ⟨lw_p120, List.forall_mem_cons.mpr ⟨lw_p121, List.forall_mem_cons.mpr ⟨lw_p122, List.forall_mem_cons.mpr ⟨lw_p123, List.forall_mem_cons.mpr ⟨lw_p124, List.forall_mem_cons.mpr ⟨lw_p125, List.forall_mem_cons.mpr ⟨lw_p126, List.forall_mem_cons.mpr ⟨lw_p127, fun _ h => absurd h List.not_mem_nil⟩⟩⟩⟩⟩⟩⟩⟩⟩⟩⟩⟩⟩⟩⟩⟩
theorem lw_p128 : lw_okq (⟨"HallPhoneModel", "messagesFor", "(I)I"⟩, 21) := ⟨⟨by decide +kernel, by decide +kernel⟩, List.mem_of_getElem? (i := 1347) (by decide +kernel), List.mem_of_getElem? (i := 1666) (by decide +kernel), List.mem_of_getElem? (i := 1667) (by decide +kernel)⟩
theorem lw_p129 : lw_okq (⟨"HallPhoneModel", "heardOf", "(II)I"⟩, 21) := ⟨⟨by decide +kernel, by decide +kernel⟩, List.mem_of_getElem? (i := 1347) (by decide +kernel), List.mem_of_getElem? (i := 1682) (by decide +kernel), List.mem_of_getElem? (i := 1683) (by decide +kernel)⟩
theorem lw_p130 : lw_okq (⟨"HallPhoneModel", "knowers", "(I)I"⟩, 21) := ⟨⟨by decide +kernel, by decide +kernel⟩, List.mem_of_getElem? (i := 1347) (by decide +kernel), List.mem_of_getElem? (i := 1690) (by decide +kernel), List.mem_of_getElem? (i := 1691) (by decide +kernel)⟩
theorem lw_p131 : lw_okq (⟨"HallPhoneModel", "reason", "(I)I"⟩, 21) := ⟨⟨by decide +kernel, by decide +kernel⟩, List.mem_of_getElem? (i := 1347) (by decide +kernel), List.mem_of_getElem? (i := 1713) (by decide +kernel), List.mem_of_getElem? (i := 1714) (by decide +kernel)⟩
theorem lw_p132 : lw_okq (⟨"HallPhoneModel", "setAside", "()V"⟩, 21) := ⟨⟨by decide +kernel, by decide +kernel⟩, List.mem_of_getElem? (i := 1347) (by decide +kernel), List.mem_of_getElem? (i := 1721) (by decide +kernel), List.mem_of_getElem? (i := 1722) (by decide +kernel)⟩
theorem lw_p133 : lw_okq (⟨"HallPhoneModel", "tillSpeaks", "(I)I"⟩, 21) := ⟨⟨by decide +kernel, by decide +kernel⟩, List.mem_of_getElem? (i := 1347) (by decide +kernel), List.mem_of_getElem? (i := 1725) (by decide +kernel), List.mem_of_getElem? (i := 1726) (by decide +kernel)⟩
theorem lw_p134 : lw_okq (⟨"HallPhoneModel", "bringBack", "()V"⟩, 21) := ⟨⟨by decide +kernel, by decide +kernel⟩, List.mem_of_getElem? (i := 1347) (by decide +kernel), List.mem_of_getElem? (i := 1729) (by decide +kernel), List.mem_of_getElem? (i := 1730) (by decide +kernel)⟩
theorem lw_p135 : lw_okq (⟨"HallPhoneModel", "waiting", "()I"⟩, 21) := ⟨⟨by decide +kernel, by decide +kernel⟩, List.mem_of_getElem? (i := 1347) (by decide +kernel), List.mem_of_getElem? (i := 1753) (by decide +kernel), List.mem_of_getElem? (i := 1754) (by decide +kernel)⟩
theorem lw_p136 : lw_okq (⟨"HallPhoneModel", "tillAll", "(I)I"⟩, 21) := ⟨⟨by decide +kernel, by decide +kernel⟩, List.mem_of_getElem? (i := 1347) (by decide +kernel), List.mem_of_getElem? (i := 1757) (by decide +kernel), List.mem_of_getElem? (i := 1758) (by decide +kernel)⟩
theorem lw_p137 : lw_okq (⟨"HallPhoneModel", "known", "(I)I"⟩, 21) := ⟨⟨by decide +kernel, by decide +kernel⟩, List.mem_of_getElem? (i := 1347) (by decide +kernel), List.mem_of_getElem? (i := 1765) (by decide +kernel), List.mem_of_getElem? (i := 1766) (by decide +kernel)⟩
theorem lw_p138 : lw_okq (⟨"HallPhoneModel", "balance", "()I"⟩, 21) := ⟨⟨by decide +kernel, by decide +kernel⟩, List.mem_of_getElem? (i := 1347) (by decide +kernel), List.mem_of_getElem? (i := 1777) (by decide +kernel), List.mem_of_getElem? (i := 1778) (by decide +kernel)⟩
theorem lw_p139 : lw_okq (⟨"HallPhoneModel", "write", "(I)V"⟩, 21) := ⟨⟨by decide +kernel, by decide +kernel⟩, List.mem_of_getElem? (i := 1347) (by decide +kernel), List.mem_of_getElem? (i := 1793) (by decide +kernel), List.mem_of_getElem? (i := 1794) (by decide +kernel)⟩
theorem lw_p140 : lw_okq (⟨"HallPhoneModel", "writeFlat", "(I)V"⟩, 21) := ⟨⟨by decide +kernel, by decide +kernel⟩, List.mem_of_getElem? (i := 1347) (by decide +kernel), List.mem_of_getElem? (i := 1797) (by decide +kernel), List.mem_of_getElem? (i := 1798) (by decide +kernel)⟩
theorem lw_p141 : lw_okq (⟨"HallPhoneModel", "writeNumber", "(I)V"⟩, 21) := ⟨⟨by decide +kernel, by decide +kernel⟩, List.mem_of_getElem? (i := 1347) (by decide +kernel), List.mem_of_getElem? (i := 1801) (by decide +kernel), List.mem_of_getElem? (i := 1802) (by decide +kernel)⟩
theorem lw_p142 : lw_okq (⟨"HallPhoneModel", "begins", "()V"⟩, 21) := ⟨⟨by decide +kernel, by decide +kernel⟩, List.mem_of_getElem? (i := 1347) (by decide +kernel), List.mem_of_getElem? (i := 1817) (by decide +kernel), List.mem_of_getElem? (i := 1818) (by decide +kernel)⟩
theorem lw_p143 : lw_okq (⟨"HallPhoneModel", "remember", "(I)I"⟩, 21) := ⟨⟨by decide +kernel, by decide +kernel⟩, List.mem_of_getElem? (i := 1347) (by decide +kernel), List.mem_of_getElem? (i := 1821) (by decide +kernel), List.mem_of_getElem? (i := 1822) (by decide +kernel)⟩
def lw_privs_9 : List (MethodName × Nat) := [(⟨"HallPhoneModel", "messagesFor", "(I)I"⟩, 21), (⟨"HallPhoneModel", "heardOf", "(II)I"⟩, 21), (⟨"HallPhoneModel", "knowers", "(I)I"⟩, 21), (⟨"HallPhoneModel", "reason", "(I)I"⟩, 21), (⟨"HallPhoneModel", "setAside", "()V"⟩, 21), (⟨"HallPhoneModel", "tillSpeaks", "(I)I"⟩, 21), (⟨"HallPhoneModel", "bringBack", "()V"⟩, 21), (⟨"HallPhoneModel", "waiting", "()I"⟩, 21), (⟨"HallPhoneModel", "tillAll", "(I)I"⟩, 21), (⟨"HallPhoneModel", "known", "(I)I"⟩, 21), (⟨"HallPhoneModel", "balance", "()I"⟩, 21), (⟨"HallPhoneModel", "write", "(I)V"⟩, 21), (⟨"HallPhoneModel", "writeFlat", "(I)V"⟩, 21), (⟨"HallPhoneModel", "writeNumber", "(I)V"⟩, 21), (⟨"HallPhoneModel", "begins", "()V"⟩, 21), (⟨"HallPhoneModel", "remember", "(I)I"⟩, 21)]
theorem lw_r9 : ∀ q ∈ lw_privs_9, lw_okq q := List.forall_mem_cons.mpr ⟨lw_p128, List.forall_mem_cons.mpr ⟨lw_p129, List.forall_mem_cons.mpr ⟨lw_p130, List.forall_mem_cons.mpr ⟨lw_p131, List.forall_mem_cons.mpr ⟨lw_p132, List.forall_mem_cons.mpr ⟨lw_p133, List.forall_mem_cons.mpr ⟨lw_p134, List.forall_mem_cons.mpr ⟨lw_p135, List.forall_mem_cons.mpr ⟨lw_p136, List.forall_mem_cons.mpr ⟨lw_p137, List.forall_mem_cons.mpr ⟨lw_p138, List.forall_mem_cons.mpr ⟨lw_p139, List.forall_mem_cons.mpr ⟨lw_p140, List.forall_mem_cons.mpr ⟨lw_p141, List.forall_mem_cons.mpr ⟨lw_p142, List.forall_mem_cons.mpr ⟨lw_p143, fun _ h => absurd h List.not_mem_nil⟩⟩⟩⟩⟩⟩⟩⟩⟩⟩⟩⟩⟩⟩⟩⟩
theorem lw_p144 : lw_okq (⟨"HallPhoneModel", "heardSum", "(JI)J"⟩, 21) := ⟨⟨by decide +kernel, by decide +kernel⟩, List.mem_of_getElem? (i := 1347) (by decide +kernel), List.mem_of_getElem? (i := 1870) (by decide +kernel), List.mem_of_getElem? (i := 1871) (by decide +kernel)⟩
def lw_privs_10 : List (MethodName × Nat) := [(⟨"HallPhoneModel", "heardSum", "(JI)J"⟩, 21)]
theorem lw_r10 : ∀ q ∈ lw_privs_10, lw_okq q := List.forall_mem_cons.mpr ⟨lw_p144, fun _ h => absurd h List.not_mem_nil⟩
def lw_privs : List (MethodName × Nat) := lw_privs_1 ++ (lw_privs_2 ++ (lw_privs_3 ++ (lw_privs_4 ++ (lw_privs_5 ++ (lw_privs_6 ++ (lw_privs_7 ++ (lw_privs_8 ++ (lw_privs_9 ++ (lw_privs_10)))))))))
def lw_tbl : List Cond := k2_sels lw_privs ++ tables_1
theorem lw_privs_ok : ∀ q ∈ lw_privs, lw_okq q := by
  show ∀ q ∈ lw_privs_1 ++ (lw_privs_2 ++ (lw_privs_3 ++ (lw_privs_4 ++ (lw_privs_5 ++ (lw_privs_6 ++ (lw_privs_7 ++ (lw_privs_8 ++ (lw_privs_9 ++ (lw_privs_10))))))))), lw_okq q
  exact List.forall_mem_append.mpr ⟨lw_r1, List.forall_mem_append.mpr ⟨lw_r2, List.forall_mem_append.mpr ⟨lw_r3, List.forall_mem_append.mpr ⟨lw_r4, List.forall_mem_append.mpr ⟨lw_r5, List.forall_mem_append.mpr ⟨lw_r6, List.forall_mem_append.mpr ⟨lw_r7, List.forall_mem_append.mpr ⟨lw_r8, List.forall_mem_append.mpr ⟨lw_r9, lw_r10⟩⟩⟩⟩⟩⟩⟩⟩⟩
/-- the streams that the claim lets the run draw from -/
abbrev lw_cs : List Choice := [Jvm.Choice.named "NaN.bits"]
theorem lw_bits : nanBits ∈ lw_cs := by first | decide | exact List.mem_cons_self | simp [lw_cs, nanBits]
def RX0 : String := "HallPhone$1"
def TX0 : u_T := fun k => match k with
  | _ => ("", "", "", false)
def tyX0 : Nat → FieldType := fun k => match k with
  | _ => .int
theorem nmX0 : ∀ a, a < 0 → ∀ b, b < 0 → a ≠ b → (TX0 a).2.1 ≠ (TX0 b).2.1 := by decide +kernel
theorem tyX0_ok : ∀ k, k < 0 → parseFieldDescriptor (TX0 k).2.2.1 = some (tyX0 k) := by decide +kernel
def RX1 : String := "HallPhone$History"
def TX1 : u_T := fun k => match k with
  | 0 => ("HallPhone$History", "past", "[LHallPhone$House;", true)
  | 1 => ("HallPhone$History", "next", "I", false)
  | _ => ("HallPhone$History", "count", "I", false)
def tyX1 : Nat → FieldType := fun k => match k with
  | 0 => .array (.object "HallPhone$House")
  | 1 => .int
  | _ => .int
theorem nmX1 : ∀ a, a < 3 → ∀ b, b < 3 → a ≠ b → (TX1 a).2.1 ≠ (TX1 b).2.1 := by decide +kernel
theorem tyX1_ok : ∀ k, k < 3 → parseFieldDescriptor (TX1 k).2.2.1 = some (tyX1 k) := by decide +kernel
abbrev cX1_init : ByteArray := prog_3_method_1_code
def yX1_init : MethodName := ⟨RX1, "<init>", "()V"⟩
abbrev cX1_keep : ByteArray := prog_3_method_2_code
def yX1_keep : MethodName := ⟨RX1, "keep", "(LHallPhone$House;)V"⟩
abbrev cX1_takeBack : ByteArray := prog_3_method_3_code
def yX1_takeBack : MethodName := ⟨RX1, "takeBack", "(LHallPhone$House;)Z"⟩
abbrev cX1_forget : ByteArray := prog_3_method_4_code
def yX1_forget : MethodName := ⟨RX1, "forget", "()V"⟩
def RX2 : String := "HallPhone$House"
def TX2 : u_T := fun k => match k with
  | 0 => ("HallPhone$House", "flats", "I", false)
  | 1 => ("HallPhone$House", "time", "I", false)
  | 2 => ("HallPhone$House", "minutesOfEndedCalls", "I", false)
  | 3 => ("HallPhone$House", "settings", "[I", true)
  | 4 => ("HallPhone$House", "accounts", "[I", true)
  | 5 => ("HallPhone$House", "numbers", "[I", true)
  | 6 => ("HallPhone$House", "hearing", "[I", true)
  | 7 => ("HallPhone$House", "phone", "LHallPhone$Phone;", true)
  | 8 => ("HallPhone$House", "queue", "LHallPhone$Queue;", true)
  | _ => ("HallPhone$House", "slate", "LHallPhone$Slate;", true)
def tyX2 : Nat → FieldType := fun k => match k with
  | 0 => .int
  | 1 => .int
  | 2 => .int
  | 3 => .array .int
  | 4 => .array .int
  | 5 => .array .int
  | 6 => .array .int
  | 7 => .object "HallPhone$Phone"
  | 8 => .object "HallPhone$Queue"
  | _ => .object "HallPhone$Slate"
theorem nmX2 : ∀ a, a < 10 → ∀ b, b < 10 → a ≠ b → (TX2 a).2.1 ≠ (TX2 b).2.1 := by decide +kernel
theorem tyX2_ok : ∀ k, k < 10 → parseFieldDescriptor (TX2 k).2.2.1 = some (tyX2 k) := by decide +kernel
abbrev cX2_init : ByteArray := prog_4_method_1_code
def yX2_init : MethodName := ⟨RX2, "<init>", "()V"⟩
abbrev cX2_clear : ByteArray := prog_4_method_2_code
def yX2_clear : MethodName := ⟨RX2, "clear", "()V"⟩
abbrev cX2_copyFrom : ByteArray := prog_4_method_3_code
def yX2_copyFrom : MethodName := ⟨RX2, "copyFrom", "(LHallPhone$House;)V"⟩
abbrev cX2_get : ByteArray := prog_4_method_4_code
def yX2_get : MethodName := ⟨RX2, "get", "(II)I"⟩
abbrev cX2_put : ByteArray := prog_4_method_5_code
def yX2_put : MethodName := ⟨RX2, "put", "(III)V"⟩
abbrev cX2_settingNumber : ByteArray := prog_4_method_6_code
def yX2_settingNumber : MethodName := ⟨RX2, "settingNumber", "(I)I"⟩
abbrev cX2_changeSetting : ByteArray := prog_4_method_7_code
def yX2_changeSetting : MethodName := ⟨RX2, "changeSetting", "(II)I"⟩
abbrev cX2_minutesHeard : ByteArray := prog_4_method_8_code
def yX2_minutesHeard : MethodName := ⟨RX2, "minutesHeard", "(II)I"⟩
abbrev cX2_hearOneMinute : ByteArray := prog_4_method_9_code
def yX2_hearOneMinute : MethodName := ⟨RX2, "hearOneMinute", "(II)V"⟩
abbrev cX2_addFlat : ByteArray := prog_4_method_10_code
def yX2_addFlat : MethodName := ⟨RX2, "addFlat", "(I)Z"⟩
abbrev cX2_houseNumber : ByteArray := prog_4_method_11_code
def yX2_houseNumber : MethodName := ⟨RX2, "houseNumber", "(I)I"⟩
abbrev cX2_flatNumber : ByteArray := prog_4_method_12_code
def yX2_flatNumber : MethodName := ⟨RX2, "flatNumber", "(II)I"⟩
abbrev cX2_accountNumber : ByteArray := prog_4_method_13_code
def yX2_accountNumber : MethodName := ⟨RX2, "accountNumber", "(I)I"⟩
abbrev cX2_debtOfAll : ByteArray := prog_4_method_14_code
def yX2_debtOfAll : MethodName := ⟨RX2, "debtOfAll", "()I"⟩
abbrev cX2_flatsThatAre : ByteArray := prog_4_method_15_code
def yX2_flatsThatAre : MethodName := ⟨RX2, "flatsThatAre", "(I)I"⟩
abbrev cX2_isListener : ByteArray := prog_4_method_16_code
def yX2_isListener : MethodName := ⟨RX2, "isListener", "(I)Z"⟩
abbrev cX2_listenersOf : ByteArray := prog_4_method_17_code
def yX2_listenersOf : MethodName := ⟨RX2, "listenersOf", "(I)I"⟩
abbrev cX2_knowersOf : ByteArray := prog_4_method_18_code
def yX2_knowersOf : MethodName := ⟨RX2, "knowersOf", "(I)I"⟩
abbrev cX2_knownTo : ByteArray := prog_4_method_19_code
def yX2_knownTo : MethodName := ⟨RX2, "knownTo", "(I)I"⟩
abbrev cX2_costOf : ByteArray := prog_4_method_20_code
def yX2_costOf : MethodName := ⟨RX2, "costOf", "(I)I"⟩
abbrev cX2_reasonOf : ByteArray := prog_4_method_21_code
def yX2_reasonOf : MethodName := ⟨RX2, "reasonOf", "(I)I"⟩
abbrev cX2_causeOf : ByteArray := prog_4_method_22_code
def yX2_causeOf : MethodName := ⟨RX2, "causeOf", "(II)I"⟩
abbrev cX2_letPass : ByteArray := prog_4_method_23_code
def yX2_letPass : MethodName := ⟨RX2, "letPass", "(I)I"⟩
abbrev cX2_speakOneMinute : ByteArray := prog_4_method_24_code
def yX2_speakOneMinute : MethodName := ⟨RX2, "speakOneMinute", "()V"⟩
abbrev cX2_comeDown : ByteArray := prog_4_method_25_code
def yX2_comeDown : MethodName := ⟨RX2, "comeDown", "(I)V"⟩
abbrev cX2_isCalled : ByteArray := prog_4_method_26_code
def yX2_isCalled : MethodName := ⟨RX2, "isCalled", "(I)Z"⟩
abbrev cX2_isCallOver : ByteArray := prog_4_method_27_code
def yX2_isCallOver : MethodName := ⟨RX2, "isCallOver", "()Z"⟩
abbrev cX2_endCall : ByteArray := prog_4_method_28_code
def yX2_endCall : MethodName := ⟨RX2, "endCall", "()I"⟩
abbrev cX2_connect : ByteArray := prog_4_method_29_code
def yX2_connect : MethodName := ⟨RX2, "connect", "(IIZ)V"⟩
abbrev cX2_countWaiting : ByteArray := prog_4_method_30_code
def yX2_countWaiting : MethodName := ⟨RX2, "countWaiting", "()V"⟩
abbrev cX2_isQuiet : ByteArray := prog_4_method_31_code
def yX2_isQuiet : MethodName := ⟨RX2, "isQuiet", "()Z"⟩
abbrev cX2_minutesTillSpeaking : ByteArray := prog_4_method_32_code
def yX2_minutesTillSpeaking : MethodName := ⟨RX2, "minutesTillSpeaking", "(I)I"⟩
abbrev cX2_minutesTillFree : ByteArray := prog_4_method_33_code
def yX2_minutesTillFree : MethodName := ⟨RX2, "minutesTillFree", "()I"⟩
abbrev cX2_minutesTillAllSpoke : ByteArray := prog_4_method_34_code
def yX2_minutesTillAllSpoke : MethodName := ⟨RX2, "minutesTillAllSpoke", "(II)I"⟩
abbrev cX2_refusal : ByteArray := prog_4_method_35_code
def yX2_refusal : MethodName := ⟨RX2, "refusal", "(LHallPhone$Verb;II)I"⟩
abbrev cX2_perform : ByteArray := prog_4_method_36_code
def yX2_perform : MethodName := ⟨RX2, "perform", "(LHallPhone$Verb;II)I"⟩
abbrev cX2_setOut : ByteArray := prog_4_method_37_code
def yX2_setOut : MethodName := ⟨RX2, "setOut", "(II)I"⟩
abbrev cX2_giveUp : ByteArray := prog_4_method_38_code
def yX2_giveUp : MethodName := ⟨RX2, "giveUp", "(I)I"⟩
abbrev cX2_outcomeOfRing : ByteArray := prog_4_method_39_code
def yX2_outcomeOfRing : MethodName := ⟨RX2, "outcomeOfRing", "(I)I"⟩
abbrev cX2_takeRing : ByteArray := prog_4_method_40_code
def yX2_takeRing : MethodName := ⟨RX2, "takeRing", "(II)I"⟩
abbrev cX2_takeMoney : ByteArray := prog_4_method_41_code
def yX2_takeMoney : MethodName := ⟨RX2, "takeMoney", "(II)I"⟩
def RX3 : String := "HallPhone$Phone"
def TX3 : u_T := fun k => match k with
  | 0 => ("HallPhone$Phone", "state", "I", false)
  | 1 => ("HallPhone$Phone", "flat", "I", false)
  | 2 => ("HallPhone$Phone", "spoken", "I", false)
  | 3 => ("HallPhone$Phone", "left", "I", false)
  | _ => ("HallPhone$Phone", "isFromOutside", "Z", false)
def tyX3 : Nat → FieldType := fun k => match k with
  | 0 => .int
  | 1 => .int
  | 2 => .int
  | 3 => .int
  | _ => .boolean
theorem nmX3 : ∀ a, a < 5 → ∀ b, b < 5 → a ≠ b → (TX3 a).2.1 ≠ (TX3 b).2.1 := by decide +kernel
theorem tyX3_ok : ∀ k, k < 5 → parseFieldDescriptor (TX3 k).2.2.1 = some (tyX3 k) := by decide +kernel
abbrev cX3_init : ByteArray := prog_5_method_1_code
def yX3_init : MethodName := ⟨RX3, "<init>", "()V"⟩
abbrev cX3_putDown : ByteArray := prog_5_method_2_code
def yX3_putDown : MethodName := ⟨RX3, "putDown", "()V"⟩
abbrev cX3_holdFor : ByteArray := prog_5_method_3_code
def yX3_holdFor : MethodName := ⟨RX3, "holdFor", "(II)V"⟩
abbrev cX3_connect : ByteArray := prog_5_method_4_code
def yX3_connect : MethodName := ⟨RX3, "connect", "(IIZ)V"⟩
abbrev cX3_copyFrom : ByteArray := prog_5_method_5_code
def yX3_copyFrom : MethodName := ⟨RX3, "copyFrom", "(LHallPhone$Phone;)V"⟩
def RX4 : String := "HallPhone$Queue"
def TX4 : u_T := fun k => match k with
  | 0 => ("HallPhone$Queue", "flats", "[I", true)
  | _ => ("HallPhone$Queue", "length", "I", false)
def tyX4 : Nat → FieldType := fun k => match k with
  | 0 => .array .int
  | _ => .int
theorem nmX4 : ∀ a, a < 2 → ∀ b, b < 2 → a ≠ b → (TX4 a).2.1 ≠ (TX4 b).2.1 := by decide +kernel
theorem tyX4_ok : ∀ k, k < 2 → parseFieldDescriptor (TX4 k).2.2.1 = some (tyX4 k) := by decide +kernel
abbrev cX4_init : ByteArray := prog_6_method_1_code
def yX4_init : MethodName := ⟨RX4, "<init>", "()V"⟩
abbrev cX4_at : ByteArray := prog_6_method_2_code
def yX4_at : MethodName := ⟨RX4, "at", "(I)I"⟩
abbrev cX4_placeOf : ByteArray := prog_6_method_3_code
def yX4_placeOf : MethodName := ⟨RX4, "placeOf", "(I)I"⟩
abbrev cX4_join : ByteArray := prog_6_method_4_code
def yX4_join : MethodName := ⟨RX4, "join", "(I)V"⟩
abbrev cX4_leave : ByteArray := prog_6_method_5_code
def yX4_leave : MethodName := ⟨RX4, "leave", "(I)V"⟩
abbrev cX4_copyFrom : ByteArray := prog_6_method_6_code
def yX4_copyFrom : MethodName := ⟨RX4, "copyFrom", "(LHallPhone$Queue;)V"⟩
def RX5 : String := "HallPhone$Reader"
def TX5 : u_T := fun k => match k with
  | 0 => ("HallPhone$Reader", "bytes", "[I", true)
  | 1 => ("HallPhone$Reader", "length", "I", false)
  | 2 => ("HallPhone$Reader", "at", "I", false)
  | 3 => ("HallPhone$Reader", "kind", "I", false)
  | 4 => ("HallPhone$Reader", "start", "I", false)
  | 5 => ("HallPhone$Reader", "number", "I", false)
  | 6 => ("HallPhone$Reader", "verb", "LHallPhone$Verb;", false)
  | 7 => ("HallPhone$Reader", "flat", "I", false)
  | 8 => ("HallPhone$Reader", "amount", "I", false)
  | _ => ("HallPhone$Reader", "error", "I", false)
def tyX5 : Nat → FieldType := fun k => match k with
  | 0 => .array .int
  | 1 => .int
  | 2 => .int
  | 3 => .int
  | 4 => .int
  | 5 => .int
  | 6 => .object "HallPhone$Verb"
  | 7 => .int
  | 8 => .int
  | _ => .int
theorem nmX5 : ∀ a, a < 10 → ∀ b, b < 10 → a ≠ b → (TX5 a).2.1 ≠ (TX5 b).2.1 := by decide +kernel
theorem tyX5_ok : ∀ k, k < 10 → parseFieldDescriptor (TX5 k).2.2.1 = some (tyX5 k) := by decide +kernel
abbrev cX5_init : ByteArray := prog_7_method_1_code
def yX5_init : MethodName := ⟨RX5, "<init>", "()V"⟩
abbrev cX5_takeBytes : ByteArray := prog_7_method_2_code
def yX5_takeBytes : MethodName := ⟨RX5, "takeBytes", "([II)V"⟩
abbrev cX5_takeText : ByteArray := prog_7_method_3_code
def yX5_takeText : MethodName := ⟨RX5, "takeText", "(Ljava/lang/String;)V"⟩
abbrev cX5_begin : ByteArray := prog_7_method_4_code
def yX5_begin : MethodName := ⟨RX5, "begin", "(I)V"⟩
abbrev cX5_readFlats : ByteArray := prog_7_method_5_code
def yX5_readFlats : MethodName := ⟨RX5, "readFlats", "(LHallPhone$House;)Z"⟩
abbrev cX5_readStatement : ByteArray := prog_7_method_6_code
def yX5_readStatement : MethodName := ⟨RX5, "readStatement", "(I)Z"⟩
abbrev cX5_readNumber : ByteArray := prog_7_method_7_code
def yX5_readNumber : MethodName := ⟨RX5, "readNumber", "(II)Z"⟩
abbrev cX5_fail : ByteArray := prog_7_method_8_code
def yX5_fail : MethodName := ⟨RX5, "fail", "(I)Z"⟩
abbrev cX5_verbRead : ByteArray := prog_7_method_9_code
def yX5_verbRead : MethodName := ⟨RX5, "verbRead", "()LHallPhone$Verb;"⟩
abbrev cX5_isWord : ByteArray := prog_7_method_10_code
def yX5_isWord : MethodName := ⟨RX5, "isWord", "(Ljava/lang/String;)Z"⟩
abbrev cX5_next : ByteArray := prog_7_method_11_code
def yX5_next : MethodName := ⟨RX5, "next", "()V"⟩
abbrev cX5_nextNumber : ByteArray := prog_7_method_12_code
def yX5_nextNumber : MethodName := ⟨RX5, "nextNumber", "()V"⟩
abbrev cX5_byteAt : ByteArray := prog_7_method_13_code
def yX5_byteAt : MethodName := ⟨RX5, "byteAt", "(I)I"⟩
abbrev cX5_isSpace : ByteArray := prog_7_method_14_code
def yX5_isSpace : MethodName := ⟨RX5, "isSpace", "(I)Z"⟩
abbrev cX5_isLetter : ByteArray := prog_7_method_15_code
def yX5_isLetter : MethodName := ⟨RX5, "isLetter", "(I)Z"⟩
abbrev cX5_isDigit : ByteArray := prog_7_method_16_code
def yX5_isDigit : MethodName := ⟨RX5, "isDigit", "(I)Z"⟩
def RX6 : String := "HallPhone$Slate"
def TX6 : u_T := fun k => match k with
  | 0 => ("HallPhone$Slate", "flats", "[I", true)
  | 1 => ("HallPhone$Slate", "minutes", "[I", true)
  | _ => ("HallPhone$Slate", "length", "I", false)
def tyX6 : Nat → FieldType := fun k => match k with
  | 0 => .array .int
  | 1 => .array .int
  | _ => .int
theorem nmX6 : ∀ a, a < 3 → ∀ b, b < 3 → a ≠ b → (TX6 a).2.1 ≠ (TX6 b).2.1 := by decide +kernel
theorem tyX6_ok : ∀ k, k < 3 → parseFieldDescriptor (TX6 k).2.2.1 = some (tyX6 k) := by decide +kernel
abbrev cX6_init : ByteArray := prog_8_method_1_code
def yX6_init : MethodName := ⟨RX6, "<init>", "()V"⟩
abbrev cX6_flatAt : ByteArray := prog_8_method_2_code
def yX6_flatAt : MethodName := ⟨RX6, "flatAt", "(I)I"⟩
abbrev cX6_minuteAt : ByteArray := prog_8_method_3_code
def yX6_minuteAt : MethodName := ⟨RX6, "minuteAt", "(I)I"⟩
abbrev cX6_countFor : ByteArray := prog_8_method_4_code
def yX6_countFor : MethodName := ⟨RX6, "countFor", "(I)I"⟩
abbrev cX6_write : ByteArray := prog_8_method_5_code
def yX6_write : MethodName := ⟨RX6, "write", "(II)V"⟩
abbrev cX6_wipeFor : ByteArray := prog_8_method_6_code
def yX6_wipeFor : MethodName := ⟨RX6, "wipeFor", "(I)I"⟩
abbrev cX6_copyFrom : ByteArray := prog_8_method_7_code
def yX6_copyFrom : MethodName := ⟨RX6, "copyFrom", "(LHallPhone$Slate;)V"⟩
def RX7 : String := "HallPhone$Verb"
def TX7 : u_T := fun k => match k with
  | _ => ("", "", "", false)
def tyX7 : Nat → FieldType := fun k => match k with
  | _ => .int
theorem nmX7 : ∀ a, a < 0 → ∀ b, b < 0 → a ≠ b → (TX7 a).2.1 ≠ (TX7 b).2.1 := by decide +kernel
theorem tyX7_ok : ∀ k, k < 0 → parseFieldDescriptor (TX7 k).2.2.1 = some (tyX7 k) := by decide +kernel
abbrev cX7_takesNumber : ByteArray := prog_9_method_4_code
def yX7_takesNumber : MethodName := ⟨RX7, "takesNumber", "()Z"⟩
abbrev cX7_ofSetting : ByteArray := prog_9_method_5_code
def yX7_ofSetting : MethodName := ⟨RX7, "ofSetting", "(I)LHallPhone$Verb;"⟩
def RX8 : String := "HallPhone"
def TX8 : u_T := fun k => match k with
  | 0 => ("HallPhone", "house", "LHallPhone$House;", true)
  | 1 => ("HallPhone", "draft", "LHallPhone$House;", true)
  | 2 => ("HallPhone", "history", "LHallPhone$History;", true)
  | 3 => ("HallPhone", "firstSnapshot", "LHallPhone$House;", true)
  | 4 => ("HallPhone", "secondSnapshot", "LHallPhone$House;", true)
  | 5 => ("HallPhone", "savedSlots", "I", false)
  | 6 => ("HallPhone", "reader", "LHallPhone$Reader;", true)
  | 7 => ("HallPhone", "buffer", "[I", true)
  | 8 => ("HallPhone", "bufferLength", "I", false)
  | _ => ("HallPhone", "report", "Ljava/lang/StringBuilder;", true)
def tyX8 : Nat → FieldType := fun k => match k with
  | 0 => .object "HallPhone$House"
  | 1 => .object "HallPhone$House"
  | 2 => .object "HallPhone$History"
  | 3 => .object "HallPhone$House"
  | 4 => .object "HallPhone$House"
  | 5 => .int
  | 6 => .object "HallPhone$Reader"
  | 7 => .array .int
  | 8 => .int
  | _ => .object "java/lang/StringBuilder"
theorem nmX8 : ∀ a, a < 10 → ∀ b, b < 10 → a ≠ b → (TX8 a).2.1 ≠ (TX8 b).2.1 := by decide +kernel
theorem tyX8_ok : ∀ k, k < 10 → parseFieldDescriptor (TX8 k).2.2.1 = some (tyX8 k) := by decide +kernel
abbrev cX8_init : ByteArray := prog_1_method_1_code
def yX8_init : MethodName := ⟨RX8, "<init>", "()V"⟩
abbrev cX8_append : ByteArray := prog_1_method_2_code
def yX8_append : MethodName := ⟨RX8, "append", "(IIIII)I"⟩
abbrev cX8_parse : ByteArray := prog_1_method_3_code
def yX8_parse : MethodName := ⟨RX8, "parse", "(I)I"⟩
abbrev cX8_load : ByteArray := prog_1_method_4_code
def yX8_load : MethodName := ⟨RX8, "load", "(I)I"⟩
abbrev cX8_size : ByteArray := prog_1_method_5_code
def yX8_size : MethodName := ⟨RX8, "size", "(I)I"⟩
abbrev cX8_setting : ByteArray := prog_1_method_6_code
def yX8_setting : MethodName := ⟨RX8, "setting", "(I)I"⟩
abbrev cX8_flat : ByteArray := prog_1_method_7_code
def yX8_flat : MethodName := ⟨RX8, "flat", "(II)I"⟩
abbrev cX8_queued : ByteArray := prog_1_method_8_code
def yX8_queued : MethodName := ⟨RX8, "queued", "(I)I"⟩
abbrev cX8_message : ByteArray := prog_1_method_9_code
def yX8_message : MethodName := ⟨RX8, "message", "(II)I"⟩
abbrev cX8_heard : ByteArray := prog_1_method_10_code
def yX8_heard : MethodName := ⟨RX8, "heard", "(II)I"⟩
abbrev cX8_knowing : ByteArray := prog_1_method_11_code
def yX8_knowing : MethodName := ⟨RX8, "knowing", "(I)I"⟩
abbrev cX8_listening : ByteArray := prog_1_method_12_code
def yX8_listening : MethodName := ⟨RX8, "listening", "(I)I"⟩
abbrev cX8_mostKnown : ByteArray := prog_1_method_13_code
def yX8_mostKnown : MethodName := ⟨RX8, "mostKnown", "()I"⟩
abbrev cX8_cost : ByteArray := prog_1_method_14_code
def yX8_cost : MethodName := ⟨RX8, "cost", "(I)I"⟩
abbrev cX8_why : ByteArray := prog_1_method_15_code
def yX8_why : MethodName := ⟨RX8, "why", "(II)I"⟩
abbrev cX8_speaksIn : ByteArray := prog_1_method_16_code
def yX8_speaksIn : MethodName := ⟨RX8, "speaksIn", "(I)I"⟩
abbrev cX8_freeIn : ByteArray := prog_1_method_17_code
def yX8_freeIn : MethodName := ⟨RX8, "freeIn", "()I"⟩
abbrev cX8_flatIn : ByteArray := prog_1_method_18_code
def yX8_flatIn : MethodName := ⟨RX8, "flatIn", "(II)I"⟩
abbrev cX8_debtIn : ByteArray := prog_1_method_19_code
def yX8_debtIn : MethodName := ⟨RX8, "debtIn", "(II)I"⟩
abbrev cX8_waitIf : ByteArray := prog_1_method_20_code
def yX8_waitIf : MethodName := ⟨RX8, "waitIf", "(I)I"⟩
abbrev cX8_bestLimit : ByteArray := prog_1_method_21_code
def yX8_bestLimit : MethodName := ⟨RX8, "bestLimit", "()I"⟩
abbrev cX8_learnsIn : ByteArray := prog_1_method_22_code
def yX8_learnsIn : MethodName := ⟨RX8, "learnsIn", "(II)I"⟩
abbrev cX8_ifRung : ByteArray := prog_1_method_23_code
def yX8_ifRung : MethodName := ⟨RX8, "ifRung", "(I)I"⟩
abbrev cX8_account : ByteArray := prog_1_method_24_code
def yX8_account : MethodName := ⟨RX8, "account", "(I)I"⟩
abbrev cX8_meanCall : ByteArray := prog_1_method_25_code
def yX8_meanCall : MethodName := ⟨RX8, "meanCall", "()D"⟩
abbrev cX8_busyShare : ByteArray := prog_1_method_26_code
def yX8_busyShare : MethodName := ⟨RX8, "busyShare", "()F"⟩
abbrev cX8_writeHouse : ByteArray := prog_1_method_27_code
def yX8_writeHouse : MethodName := ⟨RX8, "writeHouse", "()I"⟩
abbrev cX8_writeSlate : ByteArray := prog_1_method_28_code
def yX8_writeSlate : MethodName := ⟨RX8, "writeSlate", "()I"⟩
abbrev cX8_reportAt : ByteArray := prog_1_method_29_code
def yX8_reportAt : MethodName := ⟨RX8, "reportAt", "(I)C"⟩
abbrev cX8_want : ByteArray := prog_1_method_30_code
def yX8_want : MethodName := ⟨RX8, "want", "(II)I"⟩
abbrev cX8_drop : ByteArray := prog_1_method_31_code
def yX8_drop : MethodName := ⟨RX8, "drop", "(I)I"⟩
abbrev cX8_hang : ByteArray := prog_1_method_32_code
def yX8_hang : MethodName := ⟨RX8, "hang", "(I)I"⟩
abbrev cX8_ring : ByteArray := prog_1_method_33_code
def yX8_ring : MethodName := ⟨RX8, "ring", "(II)I"⟩
abbrev cX8_pay : ByteArray := prog_1_method_34_code
def yX8_pay : MethodName := ⟨RX8, "pay", "(II)I"⟩
abbrev cX8_setCurious : ByteArray := prog_1_method_35_code
def yX8_setCurious : MethodName := ⟨RX8, "setCurious", "(IZ)Z"⟩
abbrev cX8_set : ByteArray := prog_1_method_36_code
def yX8_set : MethodName := ⟨RX8, "set", "(II)I"⟩
abbrev cX8_pass : ByteArray := prog_1_method_37_code
def yX8_pass : MethodName := ⟨RX8, "pass", "(I)I"⟩
abbrev cX8_undo : ByteArray := prog_1_method_38_code
def yX8_undo : MethodName := ⟨RX8, "undo", "()I"⟩
abbrev cX8_saveSnapshot : ByteArray := prog_1_method_39_code
def yX8_saveSnapshot : MethodName := ⟨RX8, "saveSnapshot", "(I)Z"⟩
abbrev cX8_restoreSnapshot : ByteArray := prog_1_method_40_code
def yX8_restoreSnapshot : MethodName := ⟨RX8, "restoreSnapshot", "(I)I"⟩
abbrev cX8_checksum : ByteArray := prog_1_method_41_code
def yX8_checksum : MethodName := ⟨RX8, "checksum", "()J"⟩
abbrev cX8_checkFlat : ByteArray := prog_1_method_42_code
def yX8_checkFlat : MethodName := ⟨RX8, "checkFlat", "(I)V"⟩
abbrev cX8_checkRange : ByteArray := prog_1_method_43_code
def yX8_checkRange : MethodName := ⟨RX8, "checkRange", "(III)V"⟩
abbrev cX8_appendFourBytes : ByteArray := prog_1_method_44_code
def yX8_appendFourBytes : MethodName := ⟨RX8, "appendFourBytes", "(I)V"⟩
abbrev cX8_replaceByText : ByteArray := prog_1_method_45_code
def yX8_replaceByText : MethodName := ⟨RX8, "replaceByText", "()I"⟩
abbrev cX8_isSaved : ByteArray := prog_1_method_46_code
def yX8_isSaved : MethodName := ⟨RX8, "isSaved", "(I)Z"⟩
abbrev cX8_snapshotIn : ByteArray := prog_1_method_47_code
def yX8_snapshotIn : MethodName := ⟨RX8, "snapshotIn", "(I)LHallPhone$House;"⟩
abbrev cX8_later : ByteArray := prog_1_method_48_code
def yX8_later : MethodName := ⟨RX8, "later", "(I)LHallPhone$House;"⟩
abbrev cX8_changeOfFlat : ByteArray := prog_1_method_49_code
def yX8_changeOfFlat : MethodName := ⟨RX8, "changeOfFlat", "(LHallPhone$Verb;II)I"⟩
abbrev cX8_writeState : ByteArray := prog_1_method_50_code
def yX8_writeState : MethodName := ⟨RX8, "writeState", "(I)V"⟩
abbrev cX8_checksumWithFlat : ByteArray := prog_1_method_51_code
def yX8_checksumWithFlat : MethodName := ⟨RX8, "checksumWithFlat", "(JI)J"⟩
abbrev cX8_copyRow : ByteArray := prog_1_method_52_code
def yX8_copyRow : MethodName := ⟨RX8, "copyRow", "([I[I)V"⟩
def RX9 : String := "HallPhoneModel"
def TX9 : u_T := fun k => match k with
  | 0 => ("HallPhoneModel", "w", "[I", true)
  | 1 => ("HallPhoneModel", "before", "[I", true)
  | 2 => ("HallPhoneModel", "aside", "[I", true)
  | 3 => ("HallPhoneModel", "past", "[I", true)
  | 4 => ("HallPhoneModel", "kept", "[I", true)
  | 5 => ("HallPhoneModel", "pastMany", "I", false)
  | 6 => ("HallPhoneModel", "keptBits", "I", false)
  | 7 => ("HallPhoneModel", "buffer", "[I", true)
  | 8 => ("HallPhoneModel", "text", "[I", true)
  | 9 => ("HallPhoneModel", "typed", "I", false)
  | 10 => ("HallPhoneModel", "textLength", "I", false)
  | 11 => ("HallPhoneModel", "report", "[C", true)
  | 12 => ("HallPhoneModel", "reportLength", "I", false)
  | 13 => ("HallPhoneModel", "thrown", "I", false)
  | 14 => ("HallPhoneModel", "kind", "I", false)
  | 15 => ("HallPhoneModel", "offset", "I", false)
  | 16 => ("HallPhoneModel", "tokenEnd", "I", false)
  | 17 => ("HallPhoneModel", "value", "I", false)
  | 18 => ("HallPhoneModel", "fault", "I", false)
  | 19 => ("HallPhoneModel", "read", "I", false)
  | _ => ("HallPhoneModel", "numbers", "[I", true)
def tyX9 : Nat → FieldType := fun k => match k with
  | 0 => .array .int
  | 1 => .array .int
  | 2 => .array .int
  | 3 => .array .int
  | 4 => .array .int
  | 5 => .int
  | 6 => .int
  | 7 => .array .int
  | 8 => .array .int
  | 9 => .int
  | 10 => .int
  | 11 => .array .char
  | 12 => .int
  | 13 => .int
  | 14 => .int
  | 15 => .int
  | 16 => .int
  | 17 => .int
  | 18 => .int
  | 19 => .int
  | _ => .array .int
theorem nmX9 : ∀ a, a < 21 → ∀ b, b < 21 → a ≠ b → (TX9 a).2.1 ≠ (TX9 b).2.1 := by decide +kernel
theorem tyX9_ok : ∀ k, k < 21 → parseFieldDescriptor (TX9 k).2.2.1 = some (tyX9 k) := by decide +kernel
abbrev cX9_init : ByteArray := prog_11_method_1_code
def yX9_init : MethodName := ⟨RX9, "<init>", "()V"⟩
abbrev cX9_thrown : ByteArray := prog_11_method_2_code
def yX9_thrown : MethodName := ⟨RX9, "thrown", "()I"⟩
abbrev cX9_in : ByteArray := prog_11_method_3_code
def yX9_in : MethodName := ⟨RX9, "in", "(III)Z"⟩
abbrev cX9_throwsOne : ByteArray := prog_11_method_4_code
def yX9_throwsOne : MethodName := ⟨RX9, "throwsOne", "(Z)Z"⟩
abbrev cX9_throwsOne_ : ByteArray := prog_11_method_5_code
def yX9_throwsOne_ : MethodName := ⟨RX9, "throwsOne", "(ZZ)Z"⟩
abbrev cX9_isFlat : ByteArray := prog_11_method_6_code
def yX9_isFlat : MethodName := ⟨RX9, "isFlat", "(I)Z"⟩
abbrev cX9_of : ByteArray := prog_11_method_7_code
def yX9_of : MethodName := ⟨RX9, "of", "(II)I"⟩
abbrev cX9_to : ByteArray := prog_11_method_8_code
def yX9_to : MethodName := ⟨RX9, "to", "(III)V"⟩
abbrev cX9_adds : ByteArray := prog_11_method_9_code
def yX9_adds : MethodName := ⟨RX9, "adds", "(III)V"⟩
abbrev cX9_counts : ByteArray := prog_11_method_10_code
def yX9_counts : MethodName := ⟨RX9, "counts", "(II)V"⟩
abbrev cX9_heardOf : ByteArray := prog_11_method_11_code
def yX9_heardOf : MethodName := ⟨RX9, "heardOf", "(II)I"⟩
abbrev cX9_manyWho : ByteArray := prog_11_method_12_code
def yX9_manyWho : MethodName := ⟨RX9, "manyWho", "(I)I"⟩
abbrev cX9_isCalled : ByteArray := prog_11_method_13_code
def yX9_isCalled : MethodName := ⟨RX9, "isCalled", "(I)Z"⟩
abbrev cX9_placeOf : ByteArray := prog_11_method_14_code
def yX9_placeOf : MethodName := ⟨RX9, "placeOf", "(I)I"⟩
abbrev cX9_leavesQueue : ByteArray := prog_11_method_15_code
def yX9_leavesQueue : MethodName := ⟨RX9, "leavesQueue", "(I)V"⟩
abbrev cX9_messagesFor : ByteArray := prog_11_method_16_code
def yX9_messagesFor : MethodName := ⟨RX9, "messagesFor", "(I)I"⟩
abbrev cX9_reads : ByteArray := prog_11_method_17_code
def yX9_reads : MethodName := ⟨RX9, "reads", "(I)V"⟩
abbrev cX9_costOf : ByteArray := prog_11_method_18_code
def yX9_costOf : MethodName := ⟨RX9, "costOf", "(I)I"⟩
abbrev cX9_hears : ByteArray := prog_11_method_19_code
def yX9_hears : MethodName := ⟨RX9, "hears", "(II)Z"⟩
abbrev cX9_debts : ByteArray := prog_11_method_20_code
def yX9_debts : MethodName := ⟨RX9, "debts", "()I"⟩
abbrev cX9_speaks : ByteArray := prog_11_method_21_code
def yX9_speaks : MethodName := ⟨RX9, "speaks", "(IIZ)V"⟩
abbrev cX9_lies : ByteArray := prog_11_method_22_code
def yX9_lies : MethodName := ⟨RX9, "lies", "()V"⟩
abbrev cX9_ends : ByteArray := prog_11_method_23_code
def yX9_ends : MethodName := ⟨RX9, "ends", "()V"⟩
abbrev cX9_talks : ByteArray := prog_11_method_24_code
def yX9_talks : MethodName := ⟨RX9, "talks", "()V"⟩
abbrev cX9_arrives : ByteArray := prog_11_method_25_code
def yX9_arrives : MethodName := ⟨RX9, "arrives", "(I)V"⟩
abbrev cX9_minute : ByteArray := prog_11_method_26_code
def yX9_minute : MethodName := ⟨RX9, "minute", "()V"⟩
abbrev cX9_minutes : ByteArray := prog_11_method_27_code
def yX9_minutes : MethodName := ⟨RX9, "minutes", "(I)I"⟩
abbrev cX9_wants : ByteArray := prog_11_method_28_code
def yX9_wants : MethodName := ⟨RX9, "wants", "(II)I"⟩
abbrev cX9_gives : ByteArray := prog_11_method_29_code
def yX9_gives : MethodName := ⟨RX9, "gives", "(I)I"⟩
abbrev cX9_hangs : ByteArray := prog_11_method_30_code
def yX9_hangs : MethodName := ⟨RX9, "hangs", "(I)I"⟩
abbrev cX9_outcome : ByteArray := prog_11_method_31_code
def yX9_outcome : MethodName := ⟨RX9, "outcome", "(I)I"⟩
abbrev cX9_rings : ByteArray := prog_11_method_32_code
def yX9_rings : MethodName := ⟨RX9, "rings", "(II)I"⟩
abbrev cX9_pays : ByteArray := prog_11_method_33_code
def yX9_pays : MethodName := ⟨RX9, "pays", "(II)I"⟩
abbrev cX9_setAside : ByteArray := prog_11_method_34_code
def yX9_setAside : MethodName := ⟨RX9, "setAside", "()V"⟩
abbrev cX9_bringBack : ByteArray := prog_11_method_35_code
def yX9_bringBack : MethodName := ⟨RX9, "bringBack", "()V"⟩
abbrev cX9_tell : ByteArray := prog_11_method_36_code
def yX9_tell : MethodName := ⟨RX9, "tell", "(Ljava/lang/String;)V"⟩
abbrev cX9_lay : ByteArray := prog_11_method_37_code
def yX9_lay : MethodName := ⟨RX9, "lay", "(I)V"⟩
abbrev cX9_sortOf : ByteArray := prog_11_method_38_code
def yX9_sortOf : MethodName := ⟨RX9, "sortOf", "(I)I"⟩
abbrev cX9_next : ByteArray := prog_11_method_39_code
def yX9_next : MethodName := ⟨RX9, "next", "()V"⟩
abbrev cX9_says : ByteArray := prog_11_method_40_code
def yX9_says : MethodName := ⟨RX9, "says", "(Ljava/lang/String;)Z"⟩
abbrev cX9_fail : ByteArray := prog_11_method_41_code
def yX9_fail : MethodName := ⟨RX9, "fail", "(I)Z"⟩
abbrev cX9_isNumber : ByteArray := prog_11_method_42_code
def yX9_isNumber : MethodName := ⟨RX9, "isNumber", "(II)Z"⟩
abbrev cX9_number : ByteArray := prog_11_method_43_code
def yX9_number : MethodName := ⟨RX9, "number", "(III)Z"⟩
abbrev cX9_flatAt : ByteArray := prog_11_method_44_code
def yX9_flatAt : MethodName := ⟨RX9, "flatAt", "()Z"⟩
abbrev cX9_isSemicolon : ByteArray := prog_11_method_45_code
def yX9_isSemicolon : MethodName := ⟨RX9, "isSemicolon", "()Z"⟩
abbrev cX9_isDone : ByteArray := prog_11_method_46_code
def yX9_isDone : MethodName := ⟨RX9, "isDone", "(I)Z"⟩
abbrev cX9_readsHouse : ByteArray := prog_11_method_47_code
def yX9_readsHouse : MethodName := ⟨RX9, "readsHouse", "()Z"⟩
abbrev cX9_leastOf : ByteArray := prog_11_method_48_code
def yX9_leastOf : MethodName := ⟨RX9, "leastOf", "(I)I"⟩
abbrev cX9_mostOf : ByteArray := prog_11_method_49_code
def yX9_mostOf : MethodName := ⟨RX9, "mostOf", "(I)I"⟩
abbrev cX9_settingAhead : ByteArray := prog_11_method_50_code
def yX9_settingAhead : MethodName := ⟨RX9, "settingAhead", "()I"⟩
abbrev cX9_readsSetting : ByteArray := prog_11_method_51_code
def yX9_readsSetting : MethodName := ⟨RX9, "readsSetting", "(I)Z"⟩
abbrev cX9_readsStatement : ByteArray := prog_11_method_52_code
def yX9_readsStatement : MethodName := ⟨RX9, "readsStatement", "()Z"⟩
abbrev cX9_readsAll : ByteArray := prog_11_method_53_code
def yX9_readsAll : MethodName := ⟨RX9, "readsAll", "()Z"⟩
abbrev cX9_parseAll : ByteArray := prog_11_method_54_code
def yX9_parseAll : MethodName := ⟨RX9, "parseAll", "()Z"⟩
abbrev cX9_append : ByteArray := prog_11_method_55_code
def yX9_append : MethodName := ⟨RX9, "append", "(IIIII)I"⟩
abbrev cX9_type : ByteArray := prog_11_method_56_code
def yX9_type : MethodName := ⟨RX9, "type", "(I)V"⟩
abbrev cX9_parse : ByteArray := prog_11_method_57_code
def yX9_parse : MethodName := ⟨RX9, "parse", "(I)I"⟩
abbrev cX9_load : ByteArray := prog_11_method_58_code
def yX9_load : MethodName := ⟨RX9, "load", "(I)I"⟩
abbrev cX9_sizeOf : ByteArray := prog_11_method_59_code
def yX9_sizeOf : MethodName := ⟨RX9, "sizeOf", "(I)I"⟩
abbrev cX9_size : ByteArray := prog_11_method_60_code
def yX9_size : MethodName := ⟨RX9, "size", "(I)I"⟩
abbrev cX9_setting : ByteArray := prog_11_method_61_code
def yX9_setting : MethodName := ⟨RX9, "setting", "(I)I"⟩
abbrev cX9_flatTold : ByteArray := prog_11_method_62_code
def yX9_flatTold : MethodName := ⟨RX9, "flatTold", "(II)I"⟩
abbrev cX9_flat : ByteArray := prog_11_method_63_code
def yX9_flat : MethodName := ⟨RX9, "flat", "(II)I"⟩
abbrev cX9_queued : ByteArray := prog_11_method_64_code
def yX9_queued : MethodName := ⟨RX9, "queued", "(I)I"⟩
abbrev cX9_message : ByteArray := prog_11_method_65_code
def yX9_message : MethodName := ⟨RX9, "message", "(II)I"⟩
abbrev cX9_heard : ByteArray := prog_11_method_66_code
def yX9_heard : MethodName := ⟨RX9, "heard", "(II)I"⟩
abbrev cX9_knowers : ByteArray := prog_11_method_67_code
def yX9_knowers : MethodName := ⟨RX9, "knowers", "(I)I"⟩
abbrev cX9_knowing : ByteArray := prog_11_method_68_code
def yX9_knowing : MethodName := ⟨RX9, "knowing", "(I)I"⟩
abbrev cX9_listening : ByteArray := prog_11_method_69_code
def yX9_listening : MethodName := ⟨RX9, "listening", "(I)I"⟩
abbrev cX9_bits : ByteArray := prog_11_method_70_code
def yX9_bits : MethodName := ⟨RX9, "bits", "(I)I"⟩
abbrev cX9_mostKnown : ByteArray := prog_11_method_71_code
def yX9_mostKnown : MethodName := ⟨RX9, "mostKnown", "()I"⟩
abbrev cX9_cost : ByteArray := prog_11_method_72_code
def yX9_cost : MethodName := ⟨RX9, "cost", "(I)I"⟩
abbrev cX9_reason : ByteArray := prog_11_method_73_code
def yX9_reason : MethodName := ⟨RX9, "reason", "(I)I"⟩
abbrev cX9_why : ByteArray := prog_11_method_74_code
def yX9_why : MethodName := ⟨RX9, "why", "(II)I"⟩
abbrev cX9_tillSpeaks : ByteArray := prog_11_method_75_code
def yX9_tillSpeaks : MethodName := ⟨RX9, "tillSpeaks", "(I)I"⟩
abbrev cX9_speaksIn : ByteArray := prog_11_method_76_code
def yX9_speaksIn : MethodName := ⟨RX9, "speaksIn", "(I)I"⟩
abbrev cX9_freeIn : ByteArray := prog_11_method_77_code
def yX9_freeIn : MethodName := ⟨RX9, "freeIn", "()I"⟩
abbrev cX9_flatIn : ByteArray := prog_11_method_78_code
def yX9_flatIn : MethodName := ⟨RX9, "flatIn", "(II)I"⟩
abbrev cX9_debtIn : ByteArray := prog_11_method_79_code
def yX9_debtIn : MethodName := ⟨RX9, "debtIn", "(II)I"⟩
abbrev cX9_waitIf : ByteArray := prog_11_method_80_code
def yX9_waitIf : MethodName := ⟨RX9, "waitIf", "(I)I"⟩
abbrev cX9_waiting : ByteArray := prog_11_method_81_code
def yX9_waiting : MethodName := ⟨RX9, "waiting", "()I"⟩
abbrev cX9_tillAll : ByteArray := prog_11_method_82_code
def yX9_tillAll : MethodName := ⟨RX9, "tillAll", "(I)I"⟩
abbrev cX9_bestLimit : ByteArray := prog_11_method_83_code
def yX9_bestLimit : MethodName := ⟨RX9, "bestLimit", "()I"⟩
abbrev cX9_known : ByteArray := prog_11_method_84_code
def yX9_known : MethodName := ⟨RX9, "known", "(I)I"⟩
abbrev cX9_learnsIn : ByteArray := prog_11_method_85_code
def yX9_learnsIn : MethodName := ⟨RX9, "learnsIn", "(II)I"⟩
abbrev cX9_ifRung : ByteArray := prog_11_method_86_code
def yX9_ifRung : MethodName := ⟨RX9, "ifRung", "(I)I"⟩
abbrev cX9_balance : ByteArray := prog_11_method_87_code
def yX9_balance : MethodName := ⟨RX9, "balance", "()I"⟩
abbrev cX9_account : ByteArray := prog_11_method_88_code
def yX9_account : MethodName := ⟨RX9, "account", "(I)I"⟩
abbrev cX9_meanCall : ByteArray := prog_11_method_89_code
def yX9_meanCall : MethodName := ⟨RX9, "meanCall", "()D"⟩
abbrev cX9_busyShare : ByteArray := prog_11_method_90_code
def yX9_busyShare : MethodName := ⟨RX9, "busyShare", "()F"⟩
abbrev cX9_write : ByteArray := prog_11_method_91_code
def yX9_write : MethodName := ⟨RX9, "write", "(I)V"⟩
abbrev cX9_writeNumber : ByteArray := prog_11_method_92_code
def yX9_writeNumber : MethodName := ⟨RX9, "writeNumber", "(I)V"⟩
abbrev cX9_writeFlat : ByteArray := prog_11_method_93_code
def yX9_writeFlat : MethodName := ⟨RX9, "writeFlat", "(I)V"⟩
abbrev cX9_writeHouse : ByteArray := prog_11_method_94_code
def yX9_writeHouse : MethodName := ⟨RX9, "writeHouse", "()I"⟩
abbrev cX9_writeSlate : ByteArray := prog_11_method_95_code
def yX9_writeSlate : MethodName := ⟨RX9, "writeSlate", "()I"⟩
abbrev cX9_reportAt : ByteArray := prog_11_method_96_code
def yX9_reportAt : MethodName := ⟨RX9, "reportAt", "(I)C"⟩
abbrev cX9_begins : ByteArray := prog_11_method_97_code
def yX9_begins : MethodName := ⟨RX9, "begins", "()V"⟩
abbrev cX9_remember : ByteArray := prog_11_method_98_code
def yX9_remember : MethodName := ⟨RX9, "remember", "(I)I"⟩
abbrev cX9_want : ByteArray := prog_11_method_99_code
def yX9_want : MethodName := ⟨RX9, "want", "(II)I"⟩
abbrev cX9_drop : ByteArray := prog_11_method_100_code
def yX9_drop : MethodName := ⟨RX9, "drop", "(I)I"⟩
abbrev cX9_hang : ByteArray := prog_11_method_101_code
def yX9_hang : MethodName := ⟨RX9, "hang", "(I)I"⟩
abbrev cX9_ring : ByteArray := prog_11_method_102_code
def yX9_ring : MethodName := ⟨RX9, "ring", "(II)I"⟩
abbrev cX9_pay : ByteArray := prog_11_method_103_code
def yX9_pay : MethodName := ⟨RX9, "pay", "(II)I"⟩
abbrev cX9_setCurious : ByteArray := prog_11_method_104_code
def yX9_setCurious : MethodName := ⟨RX9, "setCurious", "(IZ)Z"⟩
abbrev cX9_set : ByteArray := prog_11_method_105_code
def yX9_set : MethodName := ⟨RX9, "set", "(II)I"⟩
abbrev cX9_pass : ByteArray := prog_11_method_106_code
def yX9_pass : MethodName := ⟨RX9, "pass", "(I)I"⟩
abbrev cX9_undo : ByteArray := prog_11_method_107_code
def yX9_undo : MethodName := ⟨RX9, "undo", "()I"⟩
abbrev cX9_saveSnapshot : ByteArray := prog_11_method_108_code
def yX9_saveSnapshot : MethodName := ⟨RX9, "saveSnapshot", "(I)Z"⟩
abbrev cX9_restoreSnapshot : ByteArray := prog_11_method_109_code
def yX9_restoreSnapshot : MethodName := ⟨RX9, "restoreSnapshot", "(I)I"⟩
abbrev cX9_checksum : ByteArray := prog_11_method_110_code
def yX9_checksum : MethodName := ⟨RX9, "checksum", "()J"⟩
abbrev cX9_heardSum : ByteArray := prog_11_method_111_code
def yX9_heardSum : MethodName := ⟨RX9, "heardSum", "(JI)J"⟩
def RJx145de : String := "java/io/Serializable"
def TJx145de : u_T := fun k => match k with
  | _ => ("", "", "", false)
def tyJx145de : Nat → FieldType := fun k => match k with
  | _ => .int
theorem nmJx145de : ∀ a, a < 0 → ∀ b, b < 0 → a ≠ b → (TJx145de a).2.1 ≠ (TJx145de b).2.1 := by decide +kernel
theorem tyJx145de_ok : ∀ k, k < 0 → parseFieldDescriptor (TJx145de k).2.2.1 = some (tyJx145de k) := by decide +kernel
def RJ5 : String := "java/lang/AbstractStringBuilder"
def TJ5 : u_T := fun k => match k with
  | _ => ("", "", "", false)
def tyJ5 : Nat → FieldType := fun k => match k with
  | _ => .int
theorem nmJ5 : ∀ a, a < 0 → ∀ b, b < 0 → a ≠ b → (TJ5 a).2.1 ≠ (TJ5 b).2.1 := by decide +kernel
theorem tyJ5_ok : ∀ k, k < 0 → parseFieldDescriptor (TJ5 k).2.2.1 = some (tyJ5 k) := by decide +kernel
abbrev cJ5_init_d00df : ByteArray := prog_13_method_2_code
def yJ5_init_d00df : MethodName := ⟨RJ5, "<init>", "(I)V"⟩
abbrev cJ5_length_8abf5 : ByteArray := prog_13_method_6_code
def yJ5_length_8abf5 : MethodName := ⟨RJ5, "length", "()I"⟩
abbrev cJ5_ensureCapacityInternal_d00df : ByteArray := prog_13_method_9_code
def yJ5_ensureCapacityInternal_d00df : MethodName := ⟨RJ5, "ensureCapacityInternal", "(I)V"⟩
abbrev cJ5_newCapacity_0f7a4 : ByteArray := prog_13_method_10_code
def yJ5_newCapacity_0f7a4 : MethodName := ⟨RJ5, "newCapacity", "(I)I"⟩
abbrev cJ5_inflate_da8c8 : ByteArray := prog_13_method_11_code
def yJ5_inflate_da8c8 : MethodName := ⟨RJ5, "inflate", "()V"⟩
abbrev cJ5_setLength_d00df : ByteArray := prog_13_method_13_code
def yJ5_setLength_d00df : MethodName := ⟨RJ5, "setLength", "(I)V"⟩
abbrev cJ5_charAt_5068e : ByteArray := prog_13_method_14_code
def yJ5_charAt_5068e : MethodName := ⟨RJ5, "charAt", "(I)C"⟩
abbrev cJ5_append_cf1ce : ByteArray := prog_13_method_22_code
def yJ5_append_cf1ce : MethodName := ⟨RJ5, "append", "(Ljava/lang/String;)Ljava/lang/AbstractStringBuilder;"⟩
abbrev cJ5_appendNull_278bc : ByteArray := prog_13_method_26_code
def yJ5_appendNull_278bc : MethodName := ⟨RJ5, "appendNull", "()Ljava/lang/AbstractStringBuilder;"⟩
abbrev cJ5_append_3fe6f : ByteArray := prog_13_method_31_code
def yJ5_append_3fe6f : MethodName := ⟨RJ5, "append", "(C)Ljava/lang/AbstractStringBuilder;"⟩
abbrev cJ5_append_c97b9 : ByteArray := prog_13_method_32_code
def yJ5_append_c97b9 : MethodName := ⟨RJ5, "append", "(I)Ljava/lang/AbstractStringBuilder;"⟩
abbrev cJ5_getValue_6d5f1 : ByteArray := prog_13_method_64_code
def yJ5_getValue_6d5f1 : MethodName := ⟨RJ5, "getValue", "()[B"⟩
abbrev cJ5_isLatin1_aae02 : ByteArray := prog_13_method_68_code
def yJ5_isLatin1_aae02 : MethodName := ⟨RJ5, "isLatin1", "()Z"⟩
abbrev cJ5_inflateIfNeededFor_a7421 : ByteArray := prog_13_method_71_code
def yJ5_inflateIfNeededFor_a7421 : MethodName := ⟨RJ5, "inflateIfNeededFor", "(Ljava/lang/String;)V"⟩
abbrev cJ5_putStringAt_47b60 : ByteArray := prog_13_method_73_code
def yJ5_putStringAt_47b60 : MethodName := ⟨RJ5, "putStringAt", "(ILjava/lang/String;)V"⟩
def RJx2cfe8 : String := "java/lang/Appendable"
def TJx2cfe8 : u_T := fun k => match k with
  | _ => ("", "", "", false)
def tyJx2cfe8 : Nat → FieldType := fun k => match k with
  | _ => .int
theorem nmJx2cfe8 : ∀ a, a < 0 → ∀ b, b < 0 → a ≠ b → (TJx2cfe8 a).2.1 ≠ (TJx2cfe8 b).2.1 := by decide +kernel
theorem tyJx2cfe8_ok : ∀ k, k < 0 → parseFieldDescriptor (TJx2cfe8 k).2.2.1 = some (tyJx2cfe8 k) := by decide +kernel
def RJx00060 : String := "java/lang/ArrayIndexOutOfBoundsException"
def TJx00060 : u_T := fun k => match k with
  | 0 => ("java/lang/Throwable", "cause", "Ljava/lang/Throwable;", false)
  | 1 => ("java/lang/Throwable", "stackTrace", "[Ljava/lang/StackTraceElement;", false)
  | 2 => ("java/lang/Throwable", "suppressedExceptions", "Ljava/util/List;", false)
  | 3 => ("java/lang/Throwable", "detailMessage", "Ljava/lang/String;", false)
  | 4 => ("java/lang/Throwable", "backtrace", "Ljava/lang/Object;", false)
  | _ => ("java/lang/Throwable", "depth", "I", false)
def tyJx00060 : Nat → FieldType := fun k => match k with
  | 0 => .object "java/lang/Throwable"
  | 1 => .array (.object "java/lang/StackTraceElement")
  | 2 => .object "java/util/List"
  | 3 => .object "java/lang/String"
  | 4 => .object "java/lang/Object"
  | _ => .int
theorem nmJx00060 : ∀ a, a < 6 → ∀ b, b < 6 → a ≠ b → (TJx00060 a).2.1 ≠ (TJx00060 b).2.1 := by decide +kernel
theorem tyJx00060_ok : ∀ k, k < 6 → parseFieldDescriptor (TJx00060 k).2.2.1 = some (tyJx00060 k) := by decide +kernel
abbrev cJx00060_init_d00df : ByteArray := prog_15_method_3_code
def yJx00060_init_d00df : MethodName := ⟨RJx00060, "<init>", "(I)V"⟩
def RJx9f9b0 : String := "java/lang/CharSequence"
def TJx9f9b0 : u_T := fun k => match k with
  | _ => ("", "", "", false)
def tyJx9f9b0 : Nat → FieldType := fun k => match k with
  | _ => .int
theorem nmJx9f9b0 : ∀ a, a < 0 → ∀ b, b < 0 → a ≠ b → (TJx9f9b0 a).2.1 ≠ (TJx9f9b0 b).2.1 := by decide +kernel
theorem tyJx9f9b0_ok : ∀ k, k < 0 → parseFieldDescriptor (TJx9f9b0 k).2.2.1 = some (tyJx9f9b0 k) := by decide +kernel
def RJx8e188 : String := "java/lang/Cloneable"
def TJx8e188 : u_T := fun k => match k with
  | _ => ("", "", "", false)
def tyJx8e188 : Nat → FieldType := fun k => match k with
  | _ => .int
theorem nmJx8e188 : ∀ a, a < 0 → ∀ b, b < 0 → a ≠ b → (TJx8e188 a).2.1 ≠ (TJx8e188 b).2.1 := by decide +kernel
theorem tyJx8e188_ok : ∀ k, k < 0 → parseFieldDescriptor (TJx8e188 k).2.2.1 = some (tyJx8e188 k) := by decide +kernel
def RJxb160c : String := "java/lang/Comparable"
def TJxb160c : u_T := fun k => match k with
  | _ => ("", "", "", false)
def tyJxb160c : Nat → FieldType := fun k => match k with
  | _ => .int
theorem nmJxb160c : ∀ a, a < 0 → ∀ b, b < 0 → a ≠ b → (TJxb160c a).2.1 ≠ (TJxb160c b).2.1 := by decide +kernel
theorem tyJxb160c_ok : ∀ k, k < 0 → parseFieldDescriptor (TJxb160c k).2.2.1 = some (tyJxb160c k) := by decide +kernel
def RJx29ce0 : String := "java/lang/Enum"
def TJx29ce0 : u_T := fun k => match k with
  | _ => ("", "", "", false)
def tyJx29ce0 : Nat → FieldType := fun k => match k with
  | _ => .int
theorem nmJx29ce0 : ∀ a, a < 0 → ∀ b, b < 0 → a ≠ b → (TJx29ce0 a).2.1 ≠ (TJx29ce0 b).2.1 := by decide +kernel
theorem tyJx29ce0_ok : ∀ k, k < 0 → parseFieldDescriptor (TJx29ce0 k).2.2.1 = some (tyJx29ce0 k) := by decide +kernel
abbrev cJx29ce0_ordinal_8abf5 : ByteArray := prog_19_method_2_code
def yJx29ce0_ordinal_8abf5 : MethodName := ⟨RJx29ce0, "ordinal", "()I"⟩
def RJ6 : String := "java/lang/Integer"
def TJ6 : u_T := fun k => match k with
  | _ => ("", "", "", false)
def tyJ6 : Nat → FieldType := fun k => match k with
  | _ => .int
theorem nmJ6 : ∀ a, a < 0 → ∀ b, b < 0 → a ≠ b → (TJ6 a).2.1 ≠ (TJ6 b).2.1 := by decide +kernel
theorem tyJ6_ok : ∀ k, k < 0 → parseFieldDescriptor (TJ6 k).2.2.1 = some (tyJ6 k) := by decide +kernel
abbrev cJ6_getChars_ba4f3 : ByteArray := prog_23_method_12_code
def yJ6_getChars_ba4f3 : MethodName := ⟨RJ6, "getChars", "(II[B)I"⟩
abbrev cJ6_stringSize_0f7a4 : ByteArray := prog_23_method_13_code
def yJ6_stringSize_0f7a4 : MethodName := ⟨RJ6, "stringSize", "(I)I"⟩
abbrev cJ6_bitCount_0f7a4 : ByteArray := prog_23_method_49_code
def yJ6_bitCount_0f7a4 : MethodName := ⟨RJ6, "bitCount", "(I)I"⟩
def RJ9 : String := "java/lang/Math"
def TJ9 : u_T := fun k => match k with
  | _ => ("", "", "", false)
def tyJ9 : Nat → FieldType := fun k => match k with
  | _ => .int
theorem nmJ9 : ∀ a, a < 0 → ∀ b, b < 0 → a ≠ b → (TJ9 a).2.1 ≠ (TJ9 b).2.1 := by decide +kernel
theorem tyJ9_ok : ∀ k, k < 0 → parseFieldDescriptor (TJ9 k).2.2.1 = some (tyJ9 k) := by decide +kernel
abbrev cJ9_max_7cf53 : ByteArray := prog_24_method_65_code
def yJ9_max_7cf53 : MethodName := ⟨RJ9, "max", "(II)I"⟩
abbrev cJ9_min_7cf53 : ByteArray := prog_24_method_69_code
def yJ9_min_7cf53 : MethodName := ⟨RJ9, "min", "(II)I"⟩
def RJxd2413 : String := "java/lang/Number"
def TJxd2413 : u_T := fun k => match k with
  | _ => ("", "", "", false)
def tyJxd2413 : Nat → FieldType := fun k => match k with
  | _ => .int
theorem nmJxd2413 : ∀ a, a < 0 → ∀ b, b < 0 → a ≠ b → (TJxd2413 a).2.1 ≠ (TJxd2413 b).2.1 := by decide +kernel
theorem tyJxd2413_ok : ∀ k, k < 0 → parseFieldDescriptor (TJxd2413 k).2.2.1 = some (tyJxd2413 k) := by decide +kernel
def RJ0 : String := "java/lang/String"
def TJ0 : u_T := fun k => match k with
  | 0 => ("java/lang/String", "value", "[B", true)
  | 1 => ("java/lang/String", "coder", "B", true)
  | 2 => ("java/lang/String", "hash", "I", false)
  | _ => ("java/lang/String", "hashIsZero", "Z", false)
def tyJ0 : Nat → FieldType := fun k => match k with
  | 0 => .array .byte
  | 1 => .byte
  | 2 => .int
  | _ => .boolean
theorem nmJ0 : ∀ a, a < 4 → ∀ b, b < 4 → a ≠ b → (TJ0 a).2.1 ≠ (TJ0 b).2.1 := by decide +kernel
theorem tyJ0_ok : ∀ k, k < 4 → parseFieldDescriptor (TJ0 k).2.2.1 = some (tyJ0 k) := by decide +kernel
abbrev cJ0_init_81219 : ByteArray := prog_27_method_53_code
def yJ0_init_81219 : MethodName := ⟨RJ0, "<init>", "(Ljava/lang/StringBuilder;)V"⟩
abbrev cJ0_length_8abf5 : ByteArray := prog_27_method_54_code
def yJ0_length_8abf5 : MethodName := ⟨RJ0, "length", "()I"⟩
abbrev cJ0_charAt_5068e : ByteArray := prog_27_method_56_code
def yJ0_charAt_5068e : MethodName := ⟨RJ0, "charAt", "(I)C"⟩
abbrev cJ0_getBytes_840e7 : ByteArray := prog_27_method_147_code
def yJ0_getBytes_840e7 : MethodName := ⟨RJ0, "getBytes", "([BIB)V"⟩
abbrev cJ0_init_db425 : ByteArray := prog_27_method_150_code
def yJ0_init_db425 : MethodName := ⟨RJ0, "<init>", "(Ljava/lang/AbstractStringBuilder;Ljava/lang/Void;)V"⟩
abbrev cJ0_coder_7d493 : ByteArray := prog_27_method_152_code
def yJ0_coder_7d493 : MethodName := ⟨RJ0, "coder", "()B"⟩
abbrev cJ0_isLatin1_aae02 : ByteArray := prog_27_method_154_code
def yJ0_isLatin1_aae02 : MethodName := ⟨RJ0, "isLatin1", "()Z"⟩
abbrev cJ0_checkIndex_df160 : ByteArray := prog_27_method_155_code
def yJ0_checkIndex_df160 : MethodName := ⟨RJ0, "checkIndex", "(II)V"⟩
abbrev cJ0_checkBoundsOffCount_cabcc : ByteArray := prog_27_method_157_code
def yJ0_checkBoundsOffCount_cabcc : MethodName := ⟨RJ0, "checkBoundsOffCount", "(III)I"⟩
abbrev cJ0_checkBoundsBeginEnd_23922 : ByteArray := prog_27_method_158_code
def yJ0_checkBoundsBeginEnd_23922 : MethodName := ⟨RJ0, "checkBoundsBeginEnd", "(III)V"⟩
def RJ4 : String := "java/lang/StringBuilder"
def TJ4 : u_T := fun k => match k with
  | 0 => ("java/lang/AbstractStringBuilder", "value", "[B", false)
  | 1 => ("java/lang/AbstractStringBuilder", "coder", "B", false)
  | 2 => ("java/lang/AbstractStringBuilder", "maybeLatin1", "Z", false)
  | _ => ("java/lang/AbstractStringBuilder", "count", "I", false)
def tyJ4 : Nat → FieldType := fun k => match k with
  | 0 => .array .byte
  | 1 => .byte
  | 2 => .boolean
  | _ => .int
theorem nmJ4 : ∀ a, a < 4 → ∀ b, b < 4 → a ≠ b → (TJ4 a).2.1 ≠ (TJ4 b).2.1 := by decide +kernel
theorem tyJ4_ok : ∀ k, k < 4 → parseFieldDescriptor (TJ4 k).2.2.1 = some (tyJ4 k) := by decide +kernel
abbrev cJ4_init_da8c8 : ByteArray := prog_28_method_1_code
def yJ4_init_da8c8 : MethodName := ⟨RJ4, "<init>", "()V"⟩
abbrev cJ4_append_15ec4 : ByteArray := prog_28_method_7_code
def yJ4_append_15ec4 : MethodName := ⟨RJ4, "append", "(Ljava/lang/String;)Ljava/lang/StringBuilder;"⟩
abbrev cJ4_append_cf468 : ByteArray := prog_28_method_14_code
def yJ4_append_cf468 : MethodName := ⟨RJ4, "append", "(C)Ljava/lang/StringBuilder;"⟩
abbrev cJ4_append_bf812 : ByteArray := prog_28_method_15_code
def yJ4_append_bf812 : MethodName := ⟨RJ4, "append", "(I)Ljava/lang/StringBuilder;"⟩
abbrev cJ4_toString_0e30d : ByteArray := prog_28_method_42_code
def yJ4_toString_0e30d : MethodName := ⟨RJ4, "toString", "()Ljava/lang/String;"⟩
abbrev cJ4_charAt_5068e : ByteArray := prog_28_method_88_code
def yJ4_charAt_5068e : MethodName := ⟨RJ4, "charAt", "(I)C"⟩
abbrev cJ4_setLength_d00df : ByteArray := prog_28_method_89_code
def yJ4_setLength_d00df : MethodName := ⟨RJ4, "setLength", "(I)V"⟩
abbrev cJ4_length_8abf5 : ByteArray := prog_28_method_93_code
def yJ4_length_8abf5 : MethodName := ⟨RJ4, "length", "()I"⟩
def RJx7c733 : String := "java/lang/StringIndexOutOfBoundsException"
def TJx7c733 : u_T := fun k => match k with
  | 0 => ("java/lang/Throwable", "backtrace", "Ljava/lang/Object;", false)
  | 1 => ("java/lang/Throwable", "detailMessage", "Ljava/lang/String;", false)
  | 2 => ("java/lang/Throwable", "cause", "Ljava/lang/Throwable;", false)
  | 3 => ("java/lang/Throwable", "stackTrace", "[Ljava/lang/StackTraceElement;", false)
  | 4 => ("java/lang/Throwable", "depth", "I", false)
  | _ => ("java/lang/Throwable", "suppressedExceptions", "Ljava/util/List;", false)
def tyJx7c733 : Nat → FieldType := fun k => match k with
  | 0 => .object "java/lang/Object"
  | 1 => .object "java/lang/String"
  | 2 => .object "java/lang/Throwable"
  | 3 => .array (.object "java/lang/StackTraceElement")
  | 4 => .int
  | _ => .object "java/util/List"
theorem nmJx7c733 : ∀ a, a < 6 → ∀ b, b < 6 → a ≠ b → (TJx7c733 a).2.1 ≠ (TJx7c733 b).2.1 := by decide +kernel
theorem tyJx7c733_ok : ∀ k, k < 6 → parseFieldDescriptor (TJx7c733 k).2.2.1 = some (tyJx7c733 k) := by decide +kernel
abbrev cJx7c733_init_d00df : ByteArray := prog_29_method_3_code
def yJx7c733_init_d00df : MethodName := ⟨RJx7c733, "<init>", "(I)V"⟩
def RJ1 : String := "java/lang/StringLatin1"
def TJ1 : u_T := fun k => match k with
  | _ => ("", "", "", false)
def tyJ1 : Nat → FieldType := fun k => match k with
  | _ => .int
theorem nmJ1 : ∀ a, a < 0 → ∀ b, b < 0 → a ≠ b → (TJ1 a).2.1 ≠ (TJ1 b).2.1 := by decide +kernel
theorem tyJ1_ok : ∀ k, k < 0 → parseFieldDescriptor (TJ1 k).2.2.1 = some (tyJ1 k) := by decide +kernel
abbrev cJ1_charAt_3b067 : ByteArray := prog_30_method_2_code
def yJ1_charAt_3b067 : MethodName := ⟨RJ1, "charAt", "([BI)C"⟩
abbrev cJ1_canEncode_fc78d : ByteArray := prog_30_method_3_code
def yJ1_canEncode_fc78d : MethodName := ⟨RJ1, "canEncode", "(C)Z"⟩
abbrev cJ1_fillNull_b72d1 : ByteArray := prog_30_method_48_code
def yJ1_fillNull_b72d1 : MethodName := ⟨RJ1, "fillNull", "([BII)V"⟩
abbrev cJ1_inflate_0e8fd : ByteArray := prog_30_method_50_code
def yJ1_inflate_0e8fd : MethodName := ⟨RJ1, "inflate", "([BI[BII)V"⟩
def RJ2 : String := "java/lang/StringUTF16"
def TJ2 : u_T := fun k => match k with
  | _ => ("", "", "", false)
def tyJ2 : Nat → FieldType := fun k => match k with
  | _ => .int
theorem nmJ2 : ∀ a, a < 0 → ∀ b, b < 0 → a ≠ b → (TJ2 a).2.1 ≠ (TJ2 b).2.1 := by decide +kernel
theorem tyJ2_ok : ∀ k, k < 0 → parseFieldDescriptor (TJ2 k).2.2.1 = some (tyJ2 k) := by decide +kernel
abbrev cJ2_newBytesFor_77867 : ByteArray := prog_31_method_2_code
def yJ2_newBytesFor_77867 : MethodName := ⟨RJ2, "newBytesFor", "(I)[B"⟩
abbrev cJ2_newBytesLength_0f7a4 : ByteArray := prog_31_method_3_code
def yJ2_newBytesLength_0f7a4 : MethodName := ⟨RJ2, "newBytesLength", "(I)I"⟩
abbrev cJ2_putChar_b72d1 : ByteArray := prog_31_method_4_code
def yJ2_putChar_b72d1 : MethodName := ⟨RJ2, "putChar", "([BII)V"⟩
abbrev cJ2_getChar_3b067 : ByteArray := prog_31_method_5_code
def yJ2_getChar_3b067 : MethodName := ⟨RJ2, "getChar", "([BI)C"⟩
abbrev cJ2_length_9d52b : ByteArray := prog_31_method_6_code
def yJ2_length_9d52b : MethodName := ⟨RJ2, "length", "([B)I"⟩
abbrev cJ2_coderFromArrayLen_85cad : ByteArray := prog_31_method_15_code
def yJ2_coderFromArrayLen_85cad : MethodName := ⟨RJ2, "coderFromArrayLen", "([BI)B"⟩
abbrev cJ2_compress_39247 : ByteArray := prog_31_method_17_code
def yJ2_compress_39247 : MethodName := ⟨RJ2, "compress", "([BII)[B"⟩
abbrev cJ2_compress_5af95 : ByteArray := prog_31_method_22_code
def yJ2_compress_5af95 : MethodName := ⟨RJ2, "compress", "([BI[BII)I"⟩
abbrev cJ2_fillNull_b72d1 : ByteArray := prog_31_method_70_code
def yJ2_fillNull_b72d1 : MethodName := ⟨RJ2, "fillNull", "([BII)V"⟩
abbrev cJ2_putCharSB_b72d1 : ByteArray := prog_31_method_71_code
def yJ2_putCharSB_b72d1 : MethodName := ⟨RJ2, "putCharSB", "([BII)V"⟩
abbrev cJ2_getChars_46870 : ByteArray := prog_31_method_77_code
def yJ2_getChars_46870 : MethodName := ⟨RJ2, "getChars", "(III[B)I"⟩
abbrev cJ2_putCharsAt_cd4e5 : ByteArray := prog_31_method_81_code
def yJ2_putCharsAt_cd4e5 : MethodName := ⟨RJ2, "putCharsAt", "([BICCCC)I"⟩
abbrev cJ2_charAt_3b067 : ByteArray := prog_31_method_83_code
def yJ2_charAt_3b067 : MethodName := ⟨RJ2, "charAt", "([BI)C"⟩
abbrev cJ2_inflate_0e8fd : ByteArray := prog_31_method_86_code
def yJ2_inflate_0e8fd : MethodName := ⟨RJ2, "inflate", "([BI[BII)V"⟩
abbrev cJ2_getChars_ba4f3 : ByteArray := prog_31_method_89_code
def yJ2_getChars_ba4f3 : MethodName := ⟨RJ2, "getChars", "(II[B)I"⟩
abbrev cJ2_checkIndex_2214a : ByteArray := prog_31_method_91_code
def yJ2_checkIndex_2214a : MethodName := ⟨RJ2, "checkIndex", "(I[B)V"⟩
abbrev cJ2_checkBoundsBeginEnd_d044e : ByteArray := prog_31_method_93_code
def yJ2_checkBoundsBeginEnd_d044e : MethodName := ⟨RJ2, "checkBoundsBeginEnd", "(II[B)V"⟩
abbrev cJ2_checkBoundsOffCount_d044e : ByteArray := prog_31_method_94_code
def yJ2_checkBoundsOffCount_d044e : MethodName := ⟨RJ2, "checkBoundsOffCount", "(II[B)V"⟩
def RJ10 : String := "java/lang/System"
def TJ10 : u_T := fun k => match k with
  | _ => ("", "", "", false)
def tyJ10 : Nat → FieldType := fun k => match k with
  | _ => .int
theorem nmJ10 : ∀ a, a < 0 → ∀ b, b < 0 → a ≠ b → (TJ10 a).2.1 ≠ (TJ10 b).2.1 := by decide +kernel
theorem tyJ10_ok : ∀ k, k < 0 → parseFieldDescriptor (TJ10 k).2.2.1 = some (tyJ10 k) := by decide +kernel
def RJxfd54e : String := "java/lang/constant/Constable"
def TJxfd54e : u_T := fun k => match k with
  | _ => ("", "", "", false)
def tyJxfd54e : Nat → FieldType := fun k => match k with
  | _ => .int
theorem nmJxfd54e : ∀ a, a < 0 → ∀ b, b < 0 → a ≠ b → (TJxfd54e a).2.1 ≠ (TJxfd54e b).2.1 := by decide +kernel
theorem tyJxfd54e_ok : ∀ k, k < 0 → parseFieldDescriptor (TJxfd54e k).2.2.1 = some (tyJxfd54e k) := by decide +kernel
def RJx3cf43 : String := "java/lang/constant/ConstantDesc"
def TJx3cf43 : u_T := fun k => match k with
  | _ => ("", "", "", false)
def tyJx3cf43 : Nat → FieldType := fun k => match k with
  | _ => .int
theorem nmJx3cf43 : ∀ a, a < 0 → ∀ b, b < 0 → a ≠ b → (TJx3cf43 a).2.1 ≠ (TJx3cf43 b).2.1 := by decide +kernel
theorem tyJx3cf43_ok : ∀ k, k < 0 → parseFieldDescriptor (TJx3cf43 k).2.2.1 = some (tyJx3cf43 k) := by decide +kernel
def RJ7 : String := "java/util/Arrays"
def TJ7 : u_T := fun k => match k with
  | _ => ("", "", "", false)
def tyJ7 : Nat → FieldType := fun k => match k with
  | _ => .int
theorem nmJ7 : ∀ a, a < 0 → ∀ b, b < 0 → a ≠ b → (TJ7 a).2.1 ≠ (TJ7 b).2.1 := by decide +kernel
theorem tyJ7_ok : ∀ k, k < 0 → parseFieldDescriptor (TJ7 k).2.2.1 = some (tyJ7 k) := by decide +kernel
abbrev cJ7_rangeCheck_23922 : ByteArray := prog_36_method_30_code
def yJ7_rangeCheck_23922 : MethodName := ⟨RJ7, "rangeCheck", "(III)V"⟩
abbrev cJ7_fill_53178 : ByteArray := prog_36_method_103_code
def yJ7_fill_53178 : MethodName := ⟨RJ7, "fill", "([II)V"⟩
abbrev cJ7_fill_eb02e : ByteArray := prog_36_method_110_code
def yJ7_fill_eb02e : MethodName := ⟨RJ7, "fill", "([BIIB)V"⟩
abbrev cJ7_copyOf_9075b : ByteArray := prog_36_method_121_code
def yJ7_copyOf_9075b : MethodName := ⟨RJ7, "copyOf", "([BI)[B"⟩
abbrev cJ7_checkLength_df160 : ByteArray := prog_36_method_131_code
def yJ7_checkLength_df160 : MethodName := ⟨RJ7, "checkLength", "(II)V"⟩
abbrev cJ7_copyOfRange_39247 : ByteArray := prog_36_method_132_code
def yJ7_copyOfRange_39247 : MethodName := ⟨RJ7, "copyOfRange", "([BII)[B"⟩
abbrev cJ7_copyOfRangeByte_39247 : ByteArray := prog_36_method_133_code
def yJ7_copyOfRangeByte_39247 : MethodName := ⟨RJ7, "copyOfRangeByte", "([BII)[B"⟩
def RJ8 : String := "jdk/internal/util/ArraysSupport"
def TJ8 : u_T := fun k => match k with
  | _ => ("", "", "", false)
def tyJ8 : Nat → FieldType := fun k => match k with
  | _ => .int
theorem nmJ8 : ∀ a, a < 0 → ∀ b, b < 0 → a ≠ b → (TJ8 a).2.1 ≠ (TJ8 b).2.1 := by decide +kernel
theorem tyJ8_ok : ∀ k, k < 0 → parseFieldDescriptor (TJ8 k).2.2.1 = some (tyJ8 k) := by decide +kernel
abbrev cJ8_newLength_cabcc : ByteArray := prog_38_method_27_code
def yJ8_newLength_cabcc : MethodName := ⟨RJ8, "newLength", "(III)I"⟩
abbrev cJ8_hugeLength_7cf53 : ByteArray := prog_38_method_28_code
def yJ8_hugeLength_7cf53 : MethodName := ⟨RJ8, "hugeLength", "(II)I"⟩
def RJ3 : String := "jdk/internal/util/Preconditions"
def TJ3 : u_T := fun k => match k with
  | _ => ("", "", "", false)
def tyJ3 : Nat → FieldType := fun k => match k with
  | _ => .int
theorem nmJ3 : ∀ a, a < 0 → ∀ b, b < 0 → a ≠ b → (TJ3 a).2.1 ≠ (TJ3 b).2.1 := by decide +kernel
theorem tyJ3_ok : ∀ k, k < 0 → parseFieldDescriptor (TJ3 k).2.2.1 = some (tyJ3 k) := by decide +kernel
abbrev cJ3_checkIndex_8e157 : ByteArray := prog_39_method_11_code
def yJ3_checkIndex_8e157 : MethodName := ⟨RJ3, "checkIndex", "(IILjava/util/function/BiFunction;)I"⟩
abbrev cJ3_checkFromToIndex_8c36e : ByteArray := prog_39_method_12_code
def yJ3_checkFromToIndex_8c36e : MethodName := ⟨RJ3, "checkFromToIndex", "(IIILjava/util/function/BiFunction;)I"⟩
abbrev cJ3_checkFromIndexSize_8c36e : ByteArray := prog_39_method_13_code
def yJ3_checkFromIndexSize_8c36e : MethodName := ⟨RJ3, "checkFromIndexSize", "(IIILjava/util/function/BiFunction;)I"⟩
def RL : String := "HallPhoneLaw"
abbrev cL_parse : ByteArray := method_3_code
def yL_parse : MethodName := ⟨RL, "parse", "(LHallPhone;I[J)I"⟩
abbrev cL_load : ByteArray := method_4_code
def yL_load : MethodName := ⟨RL, "load", "(LHallPhone;I[J)I"⟩
abbrev cL_size : ByteArray := method_5_code
def yL_size : MethodName := ⟨RL, "size", "(LHallPhone;I[J)I"⟩
abbrev cL_setting : ByteArray := method_6_code
def yL_setting : MethodName := ⟨RL, "setting", "(LHallPhone;I[J)I"⟩
abbrev cL_flat : ByteArray := method_7_code
def yL_flat : MethodName := ⟨RL, "flat", "(LHallPhone;II[J)I"⟩
abbrev cL_message : ByteArray := method_8_code
def yL_message : MethodName := ⟨RL, "message", "(LHallPhone;II[J)I"⟩
abbrev cL_heard : ByteArray := method_9_code
def yL_heard : MethodName := ⟨RL, "heard", "(LHallPhone;II[J)I"⟩
abbrev cL_knowing : ByteArray := method_10_code
def yL_knowing : MethodName := ⟨RL, "knowing", "(LHallPhone;I[J)I"⟩
abbrev cL_listening : ByteArray := method_11_code
def yL_listening : MethodName := ⟨RL, "listening", "(LHallPhone;I[J)I"⟩
abbrev cL_cost : ByteArray := method_12_code
def yL_cost : MethodName := ⟨RL, "cost", "(LHallPhone;I[J)I"⟩
abbrev cL_why : ByteArray := method_13_code
def yL_why : MethodName := ⟨RL, "why", "(LHallPhone;II[J)I"⟩
abbrev cL_speaksIn : ByteArray := method_14_code
def yL_speaksIn : MethodName := ⟨RL, "speaksIn", "(LHallPhone;I[J)I"⟩
abbrev cL_flatIn : ByteArray := method_15_code
def yL_flatIn : MethodName := ⟨RL, "flatIn", "(LHallPhone;II[J)I"⟩
abbrev cL_debtIn : ByteArray := method_16_code
def yL_debtIn : MethodName := ⟨RL, "debtIn", "(LHallPhone;II[J)I"⟩
abbrev cL_waitIf : ByteArray := method_17_code
def yL_waitIf : MethodName := ⟨RL, "waitIf", "(LHallPhone;I[J)I"⟩
abbrev cL_learnsIn : ByteArray := method_18_code
def yL_learnsIn : MethodName := ⟨RL, "learnsIn", "(LHallPhone;II[J)I"⟩
abbrev cL_ifRung : ByteArray := method_19_code
def yL_ifRung : MethodName := ⟨RL, "ifRung", "(LHallPhone;I[J)I"⟩
abbrev cL_account : ByteArray := method_20_code
def yL_account : MethodName := ⟨RL, "account", "(LHallPhone;I[J)I"⟩
abbrev cL_want : ByteArray := method_21_code
def yL_want : MethodName := ⟨RL, "want", "(LHallPhone;II[J)I"⟩
abbrev cL_drop : ByteArray := method_22_code
def yL_drop : MethodName := ⟨RL, "drop", "(LHallPhone;I[J)I"⟩
abbrev cL_hang : ByteArray := method_23_code
def yL_hang : MethodName := ⟨RL, "hang", "(LHallPhone;I[J)I"⟩
abbrev cL_ring : ByteArray := method_24_code
def yL_ring : MethodName := ⟨RL, "ring", "(LHallPhone;II[J)I"⟩
abbrev cL_pay : ByteArray := method_25_code
def yL_pay : MethodName := ⟨RL, "pay", "(LHallPhone;II[J)I"⟩
abbrev cL_setCurious : ByteArray := method_26_code
def yL_setCurious : MethodName := ⟨RL, "setCurious", "(LHallPhone;IZ[J)I"⟩
abbrev cL_set : ByteArray := method_27_code
def yL_set : MethodName := ⟨RL, "set", "(LHallPhone;II[J)I"⟩
abbrev cL_pass : ByteArray := method_28_code
def yL_pass : MethodName := ⟨RL, "pass", "(LHallPhone;I[J)I"⟩
abbrev cL_saveSnapshot : ByteArray := method_29_code
def yL_saveSnapshot : MethodName := ⟨RL, "saveSnapshot", "(LHallPhone;I[J)I"⟩
abbrev cL_restoreSnapshot : ByteArray := method_30_code
def yL_restoreSnapshot : MethodName := ⟨RL, "restoreSnapshot", "(LHallPhone;I[J)I"⟩
abbrev cL_law : ByteArray := code
def yL_law : MethodName := ⟨RL, "law", "([I)Z"⟩
abbrev vwCl : List vw_C := [(RJ0, TJ0, 4), (RJ4, TJ4, 4), (RJx00060, TJx00060, 6), (RJx7c733, TJx7c733, 6), (RX1, TX1, 3), (RX2, TX2, 10), (RX3, TX3, 5), (RX4, TX4, 2), (RX5, TX5, 10), (RX6, TX6, 3), (RX7, TX7, 0), (RX8, TX8, 10), (RX9, TX9, 21)]
