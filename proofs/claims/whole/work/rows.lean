section
-- ===== PART A: goes FIRST, ahead of the names: the tables' words, and 'selects' of the private methods out of them =====
/-- a private method of a class that the tables say can be made, by its rows of tables_1 -/
def lw_okq (q : MethodName × Nat) : Prop := (q.1.cls ≠ "java/lang/invoke/MethodHandle" ∧ q.1.cls ≠ "java/lang/invoke/VarHandle") ∧ Cond.instantiable q.1.cls q.2 ∈ tables_1 ∧ Cond.privateMethod q.1 ∈ tables_1 ∧ Cond.instanceMethod q.1 ∈ tables_1
theorem lw_p0 : lw_okq (⟨"TariffDesk$Plan", "clear", "()V"⟩, 8) := ⟨⟨by decide +kernel, by decide +kernel⟩, List.mem_of_getElem? (i := 55) (by decide +kernel), List.mem_of_getElem? (i := 88) (by decide +kernel), List.mem_of_getElem? (i := 89) (by decide +kernel)⟩
theorem lw_p1 : lw_okq (⟨"TariffDesk$Parting", "forget", "()V"⟩, 4) := ⟨⟨by decide +kernel, by decide +kernel⟩, List.mem_of_getElem? (i := 226) (by decide +kernel), List.mem_of_getElem? (i := 232) (by decide +kernel), List.mem_of_getElem? (i := 233) (by decide +kernel)⟩
theorem lw_p2 : lw_okq (⟨"TariffDesk", "forgetRow", "()V"⟩, 12) := ⟨⟨by decide +kernel, by decide +kernel⟩, List.mem_of_getElem? (i := 17) (by decide +kernel), List.mem_of_getElem? (i := 252) (by decide +kernel), List.mem_of_getElem? (i := 253) (by decide +kernel)⟩
theorem lw_p3 : lw_okq (⟨"TariffDesk$Tape", "append", "(I)V"⟩, 2) := ⟨⟨by decide +kernel, by decide +kernel⟩, List.mem_of_getElem? (i := 25) (by decide +kernel), List.mem_of_getElem? (i := 297) (by decide +kernel), List.mem_of_getElem? (i := 298) (by decide +kernel)⟩
theorem lw_p4 : lw_okq (⟨"TariffDesk$PlanReader", "readText", "()Z"⟩, 12) := ⟨⟨by decide +kernel, by decide +kernel⟩, List.mem_of_getElem? (i := 42) (by decide +kernel), List.mem_of_getElem? (i := 309) (by decide +kernel), List.mem_of_getElem? (i := 310) (by decide +kernel)⟩
theorem lw_p5 : lw_okq (⟨"TariffDesk$PlanReader", "scan", "()V"⟩, 12) := ⟨⟨by decide +kernel, by decide +kernel⟩, List.mem_of_getElem? (i := 42) (by decide +kernel), List.mem_of_getElem? (i := 313) (by decide +kernel), List.mem_of_getElem? (i := 314) (by decide +kernel)⟩
theorem lw_p6 : lw_okq (⟨"TariffDesk$Tape", "byteAt", "(I)I"⟩, 2) := ⟨⟨by decide +kernel, by decide +kernel⟩, List.mem_of_getElem? (i := 25) (by decide +kernel), List.mem_of_getElem? (i := 317) (by decide +kernel), List.mem_of_getElem? (i := 318) (by decide +kernel)⟩
theorem lw_p7 : lw_okq (⟨"TariffDesk$PlanReader", "scanRun", "()V"⟩, 12) := ⟨⟨by decide +kernel, by decide +kernel⟩, List.mem_of_getElem? (i := 42) (by decide +kernel), List.mem_of_getElem? (i := 327) (by decide +kernel), List.mem_of_getElem? (i := 328) (by decide +kernel)⟩
theorem lw_p8 : lw_okq (⟨"TariffDesk$PlanReader", "mayFollow", "(I)Z"⟩, 12) := ⟨⟨by decide +kernel, by decide +kernel⟩, List.mem_of_getElem? (i := 42) (by decide +kernel), List.mem_of_getElem? (i := 339) (by decide +kernel), List.mem_of_getElem? (i := 340) (by decide +kernel)⟩
theorem lw_p9 : lw_okq (⟨"TariffDesk$PlanReader", "refuse", "(I)Z"⟩, 12) := ⟨⟨by decide +kernel, by decide +kernel⟩, List.mem_of_getElem? (i := 42) (by decide +kernel), List.mem_of_getElem? (i := 343) (by decide +kernel), List.mem_of_getElem? (i := 344) (by decide +kernel)⟩
theorem lw_p10 : lw_okq (⟨"TariffDesk$PlanReader", "readPair", "()Z"⟩, 12) := ⟨⟨by decide +kernel, by decide +kernel⟩, List.mem_of_getElem? (i := 42) (by decide +kernel), List.mem_of_getElem? (i := 347) (by decide +kernel), List.mem_of_getElem? (i := 348) (by decide +kernel)⟩
theorem lw_p11 : lw_okq (⟨"TariffDesk$PlanBook", "nextPlan", "()LTariffDesk$Plan;"⟩, 2) := ⟨⟨by decide +kernel, by decide +kernel⟩, List.mem_of_getElem? (i := 48) (by decide +kernel), List.mem_of_getElem? (i := 351) (by decide +kernel), List.mem_of_getElem? (i := 352) (by decide +kernel)⟩
theorem lw_p12 : lw_okq (⟨"TariffDesk$PlanReader", "readName", "()Z"⟩, 12) := ⟨⟨by decide +kernel, by decide +kernel⟩, List.mem_of_getElem? (i := 42) (by decide +kernel), List.mem_of_getElem? (i := 356) (by decide +kernel), List.mem_of_getElem? (i := 357) (by decide +kernel)⟩
theorem lw_p13 : lw_okq (⟨"TariffDesk$PlanBook", "hasName", "(J)Z"⟩, 2) := ⟨⟨by decide +kernel, by decide +kernel⟩, List.mem_of_getElem? (i := 48) (by decide +kernel), List.mem_of_getElem? (i := 360) (by decide +kernel), List.mem_of_getElem? (i := 361) (by decide +kernel)⟩
theorem lw_p14 : lw_okq (⟨"TariffDesk$PlanBook", "at", "(I)LTariffDesk$Plan;"⟩, 2) := ⟨⟨by decide +kernel, by decide +kernel⟩, List.mem_of_getElem? (i := 48) (by decide +kernel), List.mem_of_getElem? (i := 364) (by decide +kernel), List.mem_of_getElem? (i := 365) (by decide +kernel)⟩
theorem lw_p15 : lw_okq (⟨"TariffDesk$PlanReader", "readNumber", "(I)Z"⟩, 12) := ⟨⟨by decide +kernel, by decide +kernel⟩, List.mem_of_getElem? (i := 42) (by decide +kernel), List.mem_of_getElem? (i := 368) (by decide +kernel), List.mem_of_getElem? (i := 369) (by decide +kernel)⟩
def lw_privs_1 : List (MethodName × Nat) := [(⟨"TariffDesk$Plan", "clear", "()V"⟩, 8), (⟨"TariffDesk$Parting", "forget", "()V"⟩, 4), (⟨"TariffDesk", "forgetRow", "()V"⟩, 12), (⟨"TariffDesk$Tape", "append", "(I)V"⟩, 2), (⟨"TariffDesk$PlanReader", "readText", "()Z"⟩, 12), (⟨"TariffDesk$PlanReader", "scan", "()V"⟩, 12), (⟨"TariffDesk$Tape", "byteAt", "(I)I"⟩, 2), (⟨"TariffDesk$PlanReader", "scanRun", "()V"⟩, 12), (⟨"TariffDesk$PlanReader", "mayFollow", "(I)Z"⟩, 12), (⟨"TariffDesk$PlanReader", "refuse", "(I)Z"⟩, 12), (⟨"TariffDesk$PlanReader", "readPair", "()Z"⟩, 12), (⟨"TariffDesk$PlanBook", "nextPlan", "()LTariffDesk$Plan;"⟩, 2), (⟨"TariffDesk$PlanReader", "readName", "()Z"⟩, 12), (⟨"TariffDesk$PlanBook", "hasName", "(J)Z"⟩, 2), (⟨"TariffDesk$PlanBook", "at", "(I)LTariffDesk$Plan;"⟩, 2), (⟨"TariffDesk$PlanReader", "readNumber", "(I)Z"⟩, 12)]
theorem lw_r1 : ∀ q ∈ lw_privs_1, lw_okq q := List.forall_mem_cons.mpr ⟨lw_p0, List.forall_mem_cons.mpr ⟨lw_p1, List.forall_mem_cons.mpr ⟨lw_p2, List.forall_mem_cons.mpr ⟨lw_p3, List.forall_mem_cons.mpr ⟨lw_p4, List.forall_mem_cons.mpr ⟨lw_p5, List.forall_mem_cons.mpr ⟨lw_p6, List.forall_mem_cons.mpr ⟨lw_p7, List.forall_mem_cons.mpr ⟨lw_p8, List.forall_mem_cons.mpr ⟨lw_p9, List.forall_mem_cons.mpr ⟨lw_p10, List.forall_mem_cons.mpr ⟨lw_p11, List.forall_mem_cons.mpr ⟨lw_p12, List.forall_mem_cons.mpr ⟨lw_p13, List.forall_mem_cons.mpr ⟨lw_p14, List.forall_mem_cons.mpr ⟨lw_p15, fun _ h => absurd h List.not_mem_nil⟩⟩⟩⟩⟩⟩⟩⟩⟩⟩⟩⟩⟩⟩⟩⟩
theorem lw_p16 : lw_okq (⟨"TariffDesk$PlanReader", "leastBehind", "(I)I"⟩, 12) := ⟨⟨by decide +kernel, by decide +kernel⟩, List.mem_of_getElem? (i := 42) (by decide +kernel), List.mem_of_getElem? (i := 372) (by decide +kernel), List.mem_of_getElem? (i := 373) (by decide +kernel)⟩
theorem lw_p17 : lw_okq (⟨"TariffDesk$Part", "lastEnd", "()I"⟩, 5) := ⟨⟨by decide +kernel, by decide +kernel⟩, List.mem_of_getElem? (i := 62) (by decide +kernel), List.mem_of_getElem? (i := 376) (by decide +kernel), List.mem_of_getElem? (i := 377) (by decide +kernel)⟩
theorem lw_p18 : lw_okq (⟨"TariffDesk$Plan", "partFor", "(I)LTariffDesk$Part;"⟩, 8) := ⟨⟨by decide +kernel, by decide +kernel⟩, List.mem_of_getElem? (i := 55) (by decide +kernel), List.mem_of_getElem? (i := 384) (by decide +kernel), List.mem_of_getElem? (i := 385) (by decide +kernel)⟩
theorem lw_p19 : lw_okq (⟨"TariffDesk$PlanReader", "putInPlan", "(I)V"⟩, 12) := ⟨⟨by decide +kernel, by decide +kernel⟩, List.mem_of_getElem? (i := 42) (by decide +kernel), List.mem_of_getElem? (i := 389) (by decide +kernel), List.mem_of_getElem? (i := 390) (by decide +kernel)⟩
theorem lw_p20 : lw_okq (⟨"TariffDesk$Plan", "addPart", "(I)LTariffDesk$Part;"⟩, 8) := ⟨⟨by decide +kernel, by decide +kernel⟩, List.mem_of_getElem? (i := 55) (by decide +kernel), List.mem_of_getElem? (i := 393) (by decide +kernel), List.mem_of_getElem? (i := 394) (by decide +kernel)⟩
theorem lw_p21 : lw_okq (⟨"TariffDesk$Part", "clear", "()V"⟩, 5) := ⟨⟨by decide +kernel, by decide +kernel⟩, List.mem_of_getElem? (i := 62) (by decide +kernel), List.mem_of_getElem? (i := 397) (by decide +kernel), List.mem_of_getElem? (i := 398) (by decide +kernel)⟩
theorem lw_p22 : lw_okq (⟨"TariffDesk$PlanReader", "putInPart", "(I)V"⟩, 12) := ⟨⟨by decide +kernel, by decide +kernel⟩, List.mem_of_getElem? (i := 42) (by decide +kernel), List.mem_of_getElem? (i := 401) (by decide +kernel), List.mem_of_getElem? (i := 402) (by decide +kernel)⟩
theorem lw_p23 : lw_okq (⟨"TariffDesk$Part", "addStep", "(I)V"⟩, 5) := ⟨⟨by decide +kernel, by decide +kernel⟩, List.mem_of_getElem? (i := 62) (by decide +kernel), List.mem_of_getElem? (i := 405) (by decide +kernel), List.mem_of_getElem? (i := 406) (by decide +kernel)⟩
theorem lw_p24 : lw_okq (⟨"TariffDesk$Part", "priceLastStep", "(I)V"⟩, 5) := ⟨⟨by decide +kernel, by decide +kernel⟩, List.mem_of_getElem? (i := 62) (by decide +kernel), List.mem_of_getElem? (i := 409) (by decide +kernel), List.mem_of_getElem? (i := 410) (by decide +kernel)⟩
theorem lw_p25 : lw_okq (⟨"TariffDesk$PlanReader", "exchange", "(LTariffDesk$PlanBook;)LTariffDesk$PlanBook;"⟩, 12) := ⟨⟨by decide +kernel, by decide +kernel⟩, List.mem_of_getElem? (i := 42) (by decide +kernel), List.mem_of_getElem? (i := 413) (by decide +kernel), List.mem_of_getElem? (i := 414) (by decide +kernel)⟩
theorem lw_p26 : lw_okq (⟨"TariffDesk$UseBook", "take", "(LTariffDesk$Tape;III)I"⟩, 2) := ⟨⟨by decide +kernel, by decide +kernel⟩, List.mem_of_getElem? (i := 181) (by decide +kernel), List.mem_of_getElem? (i := 431) (by decide +kernel), List.mem_of_getElem? (i := 432) (by decide +kernel)⟩
theorem lw_p27 : lw_okq (⟨"TariffDesk$UseBook", "at", "(III)I"⟩, 2) := ⟨⟨by decide +kernel, by decide +kernel⟩, List.mem_of_getElem? (i := 181) (by decide +kernel), List.mem_of_getElem? (i := 447) (by decide +kernel), List.mem_of_getElem? (i := 448) (by decide +kernel)⟩
theorem lw_p28 : lw_okq (⟨"TariffDesk$RowFinder", "search", "(LTariffDesk$PlanBook;LTariffDesk$UseBook;IIII)J"⟩, 8) := ⟨⟨by decide +kernel, by decide +kernel⟩, List.mem_of_getElem? (i := 194) (by decide +kernel), List.mem_of_getElem? (i := 462) (by decide +kernel), List.mem_of_getElem? (i := 463) (by decide +kernel)⟩
theorem lw_p29 : lw_okq (⟨"TariffDesk$UseBook", "together", "(II)[I"⟩, 2) := ⟨⟨by decide +kernel, by decide +kernel⟩, List.mem_of_getElem? (i := 181) (by decide +kernel), List.mem_of_getElem? (i := 470) (by decide +kernel), List.mem_of_getElem? (i := 471) (by decide +kernel)⟩
theorem lw_p30 : lw_okq (⟨"TariffDesk$RowFinder", "fillMonthCents", "([II)V"⟩, 8) := ⟨⟨by decide +kernel, by decide +kernel⟩, List.mem_of_getElem? (i := 194) (by decide +kernel), List.mem_of_getElem? (i := 475) (by decide +kernel), List.mem_of_getElem? (i := 476) (by decide +kernel)⟩
theorem lw_p31 : lw_okq (⟨"TariffDesk$Plan", "monthCents", "([I)J"⟩, 8) := ⟨⟨by decide +kernel, by decide +kernel⟩, List.mem_of_getElem? (i := 55) (by decide +kernel), List.mem_of_getElem? (i := 485) (by decide +kernel), List.mem_of_getElem? (i := 486) (by decide +kernel)⟩
def lw_privs_2 : List (MethodName × Nat) := [(⟨"TariffDesk$PlanReader", "leastBehind", "(I)I"⟩, 12), (⟨"TariffDesk$Part", "lastEnd", "()I"⟩, 5), (⟨"TariffDesk$Plan", "partFor", "(I)LTariffDesk$Part;"⟩, 8), (⟨"TariffDesk$PlanReader", "putInPlan", "(I)V"⟩, 12), (⟨"TariffDesk$Plan", "addPart", "(I)LTariffDesk$Part;"⟩, 8), (⟨"TariffDesk$Part", "clear", "()V"⟩, 5), (⟨"TariffDesk$PlanReader", "putInPart", "(I)V"⟩, 12), (⟨"TariffDesk$Part", "addStep", "(I)V"⟩, 5), (⟨"TariffDesk$Part", "priceLastStep", "(I)V"⟩, 5), (⟨"TariffDesk$PlanReader", "exchange", "(LTariffDesk$PlanBook;)LTariffDesk$PlanBook;"⟩, 12), (⟨"TariffDesk$UseBook", "take", "(LTariffDesk$Tape;III)I"⟩, 2), (⟨"TariffDesk$UseBook", "at", "(III)I"⟩, 2), (⟨"TariffDesk$RowFinder", "search", "(LTariffDesk$PlanBook;LTariffDesk$UseBook;IIII)J"⟩, 8), (⟨"TariffDesk$UseBook", "together", "(II)[I"⟩, 2), (⟨"TariffDesk$RowFinder", "fillMonthCents", "([II)V"⟩, 8), (⟨"TariffDesk$Plan", "monthCents", "([I)J"⟩, 8)]
theorem lw_r2 : ∀ q ∈ lw_privs_2, lw_okq q := List.forall_mem_cons.mpr ⟨lw_p16, List.forall_mem_cons.mpr ⟨lw_p17, List.forall_mem_cons.mpr ⟨lw_p18, List.forall_mem_cons.mpr ⟨lw_p19, List.forall_mem_cons.mpr ⟨lw_p20, List.forall_mem_cons.mpr ⟨lw_p21, List.forall_mem_cons.mpr ⟨lw_p22, List.forall_mem_cons.mpr ⟨lw_p23, List.forall_mem_cons.mpr ⟨lw_p24, List.forall_mem_cons.mpr ⟨lw_p25, List.forall_mem_cons.mpr ⟨lw_p26, List.forall_mem_cons.mpr ⟨lw_p27, List.forall_mem_cons.mpr ⟨lw_p28, List.forall_mem_cons.mpr ⟨lw_p29, List.forall_mem_cons.mpr ⟨lw_p30, List.forall_mem_cons.mpr ⟨lw_p31, fun _ h => absurd h List.not_mem_nil⟩⟩⟩⟩⟩⟩⟩⟩⟩⟩⟩⟩⟩⟩⟩⟩
theorem lw_p32 : lw_okq (⟨"TariffDesk$Plan", "partCents", "([II)J"⟩, 8) := ⟨⟨by decide +kernel, by decide +kernel⟩, List.mem_of_getElem? (i := 55) (by decide +kernel), List.mem_of_getElem? (i := 491) (by decide +kernel), List.mem_of_getElem? (i := 492) (by decide +kernel)⟩
theorem lw_p33 : lw_okq (⟨"TariffDesk$Part", "centsFor", "(I)J"⟩, 5) := ⟨⟨by decide +kernel, by decide +kernel⟩, List.mem_of_getElem? (i := 62) (by decide +kernel), List.mem_of_getElem? (i := 495) (by decide +kernel), List.mem_of_getElem? (i := 496) (by decide +kernel)⟩
theorem lw_p34 : lw_okq (⟨"TariffDesk$RowFinder", "fillBegun", "(II)V"⟩, 8) := ⟨⟨by decide +kernel, by decide +kernel⟩, List.mem_of_getElem? (i := 194) (by decide +kernel), List.mem_of_getElem? (i := 501) (by decide +kernel), List.mem_of_getElem? (i := 502) (by decide +kernel)⟩
theorem lw_p35 : lw_okq (⟨"TariffDesk$Plan", "mayBeginIn", "(I)Z"⟩, 8) := ⟨⟨by decide +kernel, by decide +kernel⟩, List.mem_of_getElem? (i := 55) (by decide +kernel), List.mem_of_getElem? (i := 505) (by decide +kernel), List.mem_of_getElem? (i := 506) (by decide +kernel)⟩
theorem lw_p36 : lw_okq (⟨"TariffDesk$RowFinder", "fillFreed", "(III)V"⟩, 8) := ⟨⟨by decide +kernel, by decide +kernel⟩, List.mem_of_getElem? (i := 194) (by decide +kernel), List.mem_of_getElem? (i := 512) (by decide +kernel), List.mem_of_getElem? (i := 513) (by decide +kernel)⟩
theorem lw_p37 : lw_okq (⟨"TariffDesk$RowFinder", "keptCents", "(II)J"⟩, 8) := ⟨⟨by decide +kernel, by decide +kernel⟩, List.mem_of_getElem? (i := 194) (by decide +kernel), List.mem_of_getElem? (i := 516) (by decide +kernel), List.mem_of_getElem? (i := 517) (by decide +kernel)⟩
theorem lw_p38 : lw_okq (⟨"TariffDesk$RowFinder", "chooseFirst", "()J"⟩, 8) := ⟨⟨by decide +kernel, by decide +kernel⟩, List.mem_of_getElem? (i := 194) (by decide +kernel), List.mem_of_getElem? (i := 523) (by decide +kernel), List.mem_of_getElem? (i := 524) (by decide +kernel)⟩
theorem lw_p39 : lw_okq (⟨"TariffDesk$RowFinder", "writeRow", "([I)V"⟩, 8) := ⟨⟨by decide +kernel, by decide +kernel⟩, List.mem_of_getElem? (i := 194) (by decide +kernel), List.mem_of_getElem? (i := 527) (by decide +kernel), List.mem_of_getElem? (i := 528) (by decide +kernel)⟩
theorem lw_p40 : lw_okq (⟨"TariffDesk$RowFinder", "termOf", "(I)I"⟩, 8) := ⟨⟨by decide +kernel, by decide +kernel⟩, List.mem_of_getElem? (i := 194) (by decide +kernel), List.mem_of_getElem? (i := 531) (by decide +kernel), List.mem_of_getElem? (i := 532) (by decide +kernel)⟩
theorem lw_p41 : lw_okq (⟨"TariffDesk$RowFinder", "choiceAt", "(II)I"⟩, 8) := ⟨⟨by decide +kernel, by decide +kernel⟩, List.mem_of_getElem? (i := 194) (by decide +kernel), List.mem_of_getElem? (i := 535) (by decide +kernel), List.mem_of_getElem? (i := 536) (by decide +kernel)⟩
theorem lw_p42 : lw_okq (⟨"TariffDesk$Parting", "tellBest", "(IJ)V"⟩, 4) := ⟨⟨by decide +kernel, by decide +kernel⟩, List.mem_of_getElem? (i := 226) (by decide +kernel), List.mem_of_getElem? (i := 547) (by decide +kernel), List.mem_of_getElem? (i := 548) (by decide +kernel)⟩
theorem lw_p43 : lw_okq (⟨"TariffDesk$Parting", "part", "()J"⟩, 4) := ⟨⟨by decide +kernel, by decide +kernel⟩, List.mem_of_getElem? (i := 226) (by decide +kernel), List.mem_of_getElem? (i := 552) (by decide +kernel), List.mem_of_getElem? (i := 553) (by decide +kernel)⟩
theorem lw_p44 : lw_okq (⟨"TariffDesk$Parting", "fillLeast", "(I)V"⟩, 4) := ⟨⟨by decide +kernel, by decide +kernel⟩, List.mem_of_getElem? (i := 226) (by decide +kernel), List.mem_of_getElem? (i := 556) (by decide +kernel), List.mem_of_getElem? (i := 557) (by decide +kernel)⟩
theorem lw_p45 : lw_okq (⟨"TariffDesk$Parting", "writeGroups", "()V"⟩, 4) := ⟨⟨by decide +kernel, by decide +kernel⟩, List.mem_of_getElem? (i := 226) (by decide +kernel), List.mem_of_getElem? (i := 563) (by decide +kernel), List.mem_of_getElem? (i := 564) (by decide +kernel)⟩
theorem lw_p46 : lw_okq (⟨"java/lang/Throwable", "fillInStackTrace", "(I)Ljava/lang/Throwable;"⟩, 6) := ⟨⟨by decide +kernel, by decide +kernel⟩, List.mem_of_getElem? (i := 623) (by decide +kernel), List.mem_of_getElem? (i := 621) (by decide +kernel), List.mem_of_getElem? (i := 622) (by decide +kernel)⟩
theorem lw_p47 : lw_okq (⟨"TariffDesk", "centsOf", "(IIII)J"⟩, 12) := ⟨⟨by decide +kernel, by decide +kernel⟩, List.mem_of_getElem? (i := 17) (by decide +kernel), List.mem_of_getElem? (i := 662) (by decide +kernel), List.mem_of_getElem? (i := 663) (by decide +kernel)⟩
def lw_privs_3 : List (MethodName × Nat) := [(⟨"TariffDesk$Plan", "partCents", "([II)J"⟩, 8), (⟨"TariffDesk$Part", "centsFor", "(I)J"⟩, 5), (⟨"TariffDesk$RowFinder", "fillBegun", "(II)V"⟩, 8), (⟨"TariffDesk$Plan", "mayBeginIn", "(I)Z"⟩, 8), (⟨"TariffDesk$RowFinder", "fillFreed", "(III)V"⟩, 8), (⟨"TariffDesk$RowFinder", "keptCents", "(II)J"⟩, 8), (⟨"TariffDesk$RowFinder", "chooseFirst", "()J"⟩, 8), (⟨"TariffDesk$RowFinder", "writeRow", "([I)V"⟩, 8), (⟨"TariffDesk$RowFinder", "termOf", "(I)I"⟩, 8), (⟨"TariffDesk$RowFinder", "choiceAt", "(II)I"⟩, 8), (⟨"TariffDesk$Parting", "tellBest", "(IJ)V"⟩, 4), (⟨"TariffDesk$Parting", "part", "()J"⟩, 4), (⟨"TariffDesk$Parting", "fillLeast", "(I)V"⟩, 4), (⟨"TariffDesk$Parting", "writeGroups", "()V"⟩, 4), (⟨"java/lang/Throwable", "fillInStackTrace", "(I)Ljava/lang/Throwable;"⟩, 6), (⟨"TariffDesk", "centsOf", "(IIII)J"⟩, 12)]
theorem lw_r3 : ∀ q ∈ lw_privs_3, lw_okq q := List.forall_mem_cons.mpr ⟨lw_p32, List.forall_mem_cons.mpr ⟨lw_p33, List.forall_mem_cons.mpr ⟨lw_p34, List.forall_mem_cons.mpr ⟨lw_p35, List.forall_mem_cons.mpr ⟨lw_p36, List.forall_mem_cons.mpr ⟨lw_p37, List.forall_mem_cons.mpr ⟨lw_p38, List.forall_mem_cons.mpr ⟨lw_p39, List.forall_mem_cons.mpr ⟨lw_p40, List.forall_mem_cons.mpr ⟨lw_p41, List.forall_mem_cons.mpr ⟨lw_p42, List.forall_mem_cons.mpr ⟨lw_p43, List.forall_mem_cons.mpr ⟨lw_p44, List.forall_mem_cons.mpr ⟨lw_p45, List.forall_mem_cons.mpr ⟨lw_p46, List.forall_mem_cons.mpr ⟨lw_p47, fun _ h => absurd h List.not_mem_nil⟩⟩⟩⟩⟩⟩⟩⟩⟩⟩⟩⟩⟩⟩⟩⟩
theorem lw_p48 : lw_okq (⟨"TariffDesk", "partAbove", "(LTariffDesk$Part;LTariffDesk$Part;IZ)J"⟩, 12) := ⟨⟨by decide +kernel, by decide +kernel⟩, List.mem_of_getElem? (i := 17) (by decide +kernel), List.mem_of_getElem? (i := 684) (by decide +kernel), List.mem_of_getElem? (i := 685) (by decide +kernel)⟩
theorem lw_p49 : lw_okq (⟨"TariffDesk$Part", "corner", "(I)I"⟩, 5) := ⟨⟨by decide +kernel, by decide +kernel⟩, List.mem_of_getElem? (i := 62) (by decide +kernel), List.mem_of_getElem? (i := 701) (by decide +kernel), List.mem_of_getElem? (i := 702) (by decide +kernel)⟩
theorem lw_p50 : lw_okq (⟨"TariffDeskModel", "come", "(I)V"⟩, 42) := ⟨⟨by decide +kernel, by decide +kernel⟩, List.mem_of_getElem? (i := 705) (by decide +kernel), List.mem_of_getElem? (i := 847) (by decide +kernel), List.mem_of_getElem? (i := 848) (by decide +kernel)⟩
theorem lw_p51 : lw_okq (⟨"TariffDeskModel", "readText", "()Z"⟩, 42) := ⟨⟨by decide +kernel, by decide +kernel⟩, List.mem_of_getElem? (i := 705) (by decide +kernel), List.mem_of_getElem? (i := 859) (by decide +kernel), List.mem_of_getElem? (i := 860) (by decide +kernel)⟩
theorem lw_p52 : lw_okq (⟨"TariffDeskModel", "go", "()V"⟩, 42) := ⟨⟨by decide +kernel, by decide +kernel⟩, List.mem_of_getElem? (i := 705) (by decide +kernel), List.mem_of_getElem? (i := 863) (by decide +kernel), List.mem_of_getElem? (i := 864) (by decide +kernel)⟩
theorem lw_p53 : lw_okq (⟨"TariffDeskModel", "byteAt", "(I)I"⟩, 42) := ⟨⟨by decide +kernel, by decide +kernel⟩, List.mem_of_getElem? (i := 705) (by decide +kernel), List.mem_of_getElem? (i := 873) (by decide +kernel), List.mem_of_getElem? (i := 874) (by decide +kernel)⟩
theorem lw_p54 : lw_okq (⟨"TariffDeskModel", "isKey", "(J)Z"⟩, 42) := ⟨⟨by decide +kernel, by decide +kernel⟩, List.mem_of_getElem? (i := 705) (by decide +kernel), List.mem_of_getElem? (i := 881) (by decide +kernel), List.mem_of_getElem? (i := 882) (by decide +kernel)⟩
theorem lw_p55 : lw_okq (⟨"TariffDeskModel", "bad", "(I)Z"⟩, 42) := ⟨⟨by decide +kernel, by decide +kernel⟩, List.mem_of_getElem? (i := 705) (by decide +kernel), List.mem_of_getElem? (i := 885) (by decide +kernel), List.mem_of_getElem? (i := 886) (by decide +kernel)⟩
theorem lw_p56 : lw_okq (⟨"TariffDeskModel", "readPlan", "(I)Z"⟩, 42) := ⟨⟨by decide +kernel, by decide +kernel⟩, List.mem_of_getElem? (i := 705) (by decide +kernel), List.mem_of_getElem? (i := 889) (by decide +kernel), List.mem_of_getElem? (i := 890) (by decide +kernel)⟩
theorem lw_p57 : lw_okq (⟨"TariffDeskModel", "isFree", "()Z"⟩, 42) := ⟨⟨by decide +kernel, by decide +kernel⟩, List.mem_of_getElem? (i := 705) (by decide +kernel), List.mem_of_getElem? (i := 893) (by decide +kernel), List.mem_of_getElem? (i := 894) (by decide +kernel)⟩
theorem lw_p58 : lw_okq (⟨"TariffDeskModel", "readKey", "(J)Z"⟩, 42) := ⟨⟨by decide +kernel, by decide +kernel⟩, List.mem_of_getElem? (i := 705) (by decide +kernel), List.mem_of_getElem? (i := 915) (by decide +kernel), List.mem_of_getElem? (i := 916) (by decide +kernel)⟩
theorem lw_p59 : lw_okq (⟨"TariffDeskModel", "readNumber", "(II)Z"⟩, 42) := ⟨⟨by decide +kernel, by decide +kernel⟩, List.mem_of_getElem? (i := 705) (by decide +kernel), List.mem_of_getElem? (i := 920) (by decide +kernel), List.mem_of_getElem? (i := 921) (by decide +kernel)⟩
theorem lw_p60 : lw_okq (⟨"TariffDeskModel", "readPart", "(I)Z"⟩, 42) := ⟨⟨by decide +kernel, by decide +kernel⟩, List.mem_of_getElem? (i := 705) (by decide +kernel), List.mem_of_getElem? (i := 924) (by decide +kernel), List.mem_of_getElem? (i := 925) (by decide +kernel)⟩
theorem lw_p61 : lw_okq (⟨"TariffDeskModel", "isPlan", "(I)Z"⟩, 42) := ⟨⟨by decide +kernel, by decide +kernel⟩, List.mem_of_getElem? (i := 705) (by decide +kernel), List.mem_of_getElem? (i := 936) (by decide +kernel), List.mem_of_getElem? (i := 937) (by decide +kernel)⟩
theorem lw_p62 : lw_okq (⟨"TariffDeskModel", "refuse", "()I"⟩, 42) := ⟨⟨by decide +kernel, by decide +kernel⟩, List.mem_of_getElem? (i := 705) (by decide +kernel), List.mem_of_getElem? (i := 940) (by decide +kernel), List.mem_of_getElem? (i := 941) (by decide +kernel)⟩
theorem lw_p63 : lw_okq (⟨"TariffDeskModel", "mayHave", "(III)Z"⟩, 42) := ⟨⟨by decide +kernel, by decide +kernel⟩, List.mem_of_getElem? (i := 705) (by decide +kernel), List.mem_of_getElem? (i := 975) (by decide +kernel), List.mem_of_getElem? (i := 976) (by decide +kernel)⟩
def lw_privs_4 : List (MethodName × Nat) := [(⟨"TariffDesk", "partAbove", "(LTariffDesk$Part;LTariffDesk$Part;IZ)J"⟩, 12), (⟨"TariffDesk$Part", "corner", "(I)I"⟩, 5), (⟨"TariffDeskModel", "come", "(I)V"⟩, 42), (⟨"TariffDeskModel", "readText", "()Z"⟩, 42), (⟨"TariffDeskModel", "go", "()V"⟩, 42), (⟨"TariffDeskModel", "byteAt", "(I)I"⟩, 42), (⟨"TariffDeskModel", "isKey", "(J)Z"⟩, 42), (⟨"TariffDeskModel", "bad", "(I)Z"⟩, 42), (⟨"TariffDeskModel", "readPlan", "(I)Z"⟩, 42), (⟨"TariffDeskModel", "isFree", "()Z"⟩, 42), (⟨"TariffDeskModel", "readKey", "(J)Z"⟩, 42), (⟨"TariffDeskModel", "readNumber", "(II)Z"⟩, 42), (⟨"TariffDeskModel", "readPart", "(I)Z"⟩, 42), (⟨"TariffDeskModel", "isPlan", "(I)Z"⟩, 42), (⟨"TariffDeskModel", "refuse", "()I"⟩, 42), (⟨"TariffDeskModel", "mayHave", "(III)Z"⟩, 42)]
theorem lw_r4 : ∀ q ∈ lw_privs_4, lw_okq q := List.forall_mem_cons.mpr ⟨lw_p48, List.forall_mem_cons.mpr ⟨lw_p49, List.forall_mem_cons.mpr ⟨lw_p50, List.forall_mem_cons.mpr ⟨lw_p51, List.forall_mem_cons.mpr ⟨lw_p52, List.forall_mem_cons.mpr ⟨lw_p53, List.forall_mem_cons.mpr ⟨lw_p54, List.forall_mem_cons.mpr ⟨lw_p55, List.forall_mem_cons.mpr ⟨lw_p56, List.forall_mem_cons.mpr ⟨lw_p57, List.forall_mem_cons.mpr ⟨lw_p58, List.forall_mem_cons.mpr ⟨lw_p59, List.forall_mem_cons.mpr ⟨lw_p60, List.forall_mem_cons.mpr ⟨lw_p61, List.forall_mem_cons.mpr ⟨lw_p62, List.forall_mem_cons.mpr ⟨lw_p63, fun _ h => absurd h List.not_mem_nil⟩⟩⟩⟩⟩⟩⟩⟩⟩⟩⟩⟩⟩⟩⟩⟩
theorem lw_p64 : lw_okq (⟨"TariffDeskModel", "together", "(III)I"⟩, 42) := ⟨⟨by decide +kernel, by decide +kernel⟩, List.mem_of_getElem? (i := 705) (by decide +kernel), List.mem_of_getElem? (i := 979) (by decide +kernel), List.mem_of_getElem? (i := 980) (by decide +kernel)⟩
theorem lw_p65 : lw_okq (⟨"TariffDeskModel", "monthCost", "(III)J"⟩, 42) := ⟨⟨by decide +kernel, by decide +kernel⟩, List.mem_of_getElem? (i := 705) (by decide +kernel), List.mem_of_getElem? (i := 983) (by decide +kernel), List.mem_of_getElem? (i := 984) (by decide +kernel)⟩
theorem lw_p66 : lw_okq (⟨"TariffDeskModel", "serviceCost", "(IIII)J"⟩, 42) := ⟨⟨by decide +kernel, by decide +kernel⟩, List.mem_of_getElem? (i := 705) (by decide +kernel), List.mem_of_getElem? (i := 987) (by decide +kernel), List.mem_of_getElem? (i := 988) (by decide +kernel)⟩
theorem lw_p67 : lw_okq (⟨"TariffDeskModel", "partCost", "(II)J"⟩, 42) := ⟨⟨by decide +kernel, by decide +kernel⟩, List.mem_of_getElem? (i := 705) (by decide +kernel), List.mem_of_getElem? (i := 991) (by decide +kernel), List.mem_of_getElem? (i := 992) (by decide +kernel)⟩
theorem lw_p68 : lw_okq (⟨"TariffDeskModel", "find", "(III)I"⟩, 42) := ⟨⟨by decide +kernel, by decide +kernel⟩, List.mem_of_getElem? (i := 705) (by decide +kernel), List.mem_of_getElem? (i := 1004) (by decide +kernel), List.mem_of_getElem? (i := 1005) (by decide +kernel)⟩
theorem lw_p69 : lw_okq (⟨"TariffDeskModel", "mayBegin", "(II)Z"⟩, 42) := ⟨⟨by decide +kernel, by decide +kernel⟩, List.mem_of_getElem? (i := 705) (by decide +kernel), List.mem_of_getElem? (i := 1009) (by decide +kernel), List.mem_of_getElem? (i := 1010) (by decide +kernel)⟩
theorem lw_p70 : lw_okq (⟨"TariffDeskModel", "offer", "(IIIIJ)V"⟩, 42) := ⟨⟨by decide +kernel, by decide +kernel⟩, List.mem_of_getElem? (i := 705) (by decide +kernel), List.mem_of_getElem? (i := 1013) (by decide +kernel), List.mem_of_getElem? (i := 1014) (by decide +kernel)⟩
theorem lw_p71 : lw_okq (⟨"TariffDeskModel", "turn", "()V"⟩, 42) := ⟨⟨by decide +kernel, by decide +kernel⟩, List.mem_of_getElem? (i := 705) (by decide +kernel), List.mem_of_getElem? (i := 1020) (by decide +kernel), List.mem_of_getElem? (i := 1021) (by decide +kernel)⟩
theorem lw_p72 : lw_okq (⟨"TariffDeskModel", "isAhead", "(III)Z"⟩, 42) := ⟨⟨by decide +kernel, by decide +kernel⟩, List.mem_of_getElem? (i := 705) (by decide +kernel), List.mem_of_getElem? (i := 1024) (by decide +kernel), List.mem_of_getElem? (i := 1025) (by decide +kernel)⟩
def lw_privs_5 : List (MethodName × Nat) := [(⟨"TariffDeskModel", "together", "(III)I"⟩, 42), (⟨"TariffDeskModel", "monthCost", "(III)J"⟩, 42), (⟨"TariffDeskModel", "serviceCost", "(IIII)J"⟩, 42), (⟨"TariffDeskModel", "partCost", "(II)J"⟩, 42), (⟨"TariffDeskModel", "find", "(III)I"⟩, 42), (⟨"TariffDeskModel", "mayBegin", "(II)Z"⟩, 42), (⟨"TariffDeskModel", "offer", "(IIIIJ)V"⟩, 42), (⟨"TariffDeskModel", "turn", "()V"⟩, 42), (⟨"TariffDeskModel", "isAhead", "(III)Z"⟩, 42)]
theorem lw_r5 : ∀ q ∈ lw_privs_5, lw_okq q := List.forall_mem_cons.mpr ⟨lw_p64, List.forall_mem_cons.mpr ⟨lw_p65, List.forall_mem_cons.mpr ⟨lw_p66, List.forall_mem_cons.mpr ⟨lw_p67, List.forall_mem_cons.mpr ⟨lw_p68, List.forall_mem_cons.mpr ⟨lw_p69, List.forall_mem_cons.mpr ⟨lw_p70, List.forall_mem_cons.mpr ⟨lw_p71, List.forall_mem_cons.mpr ⟨lw_p72, fun _ h => absurd h List.not_mem_nil⟩⟩⟩⟩⟩⟩⟩⟩⟩
def lw_privs : List (MethodName × Nat) := lw_privs_1 ++ (lw_privs_2 ++ (lw_privs_3 ++ (lw_privs_4 ++ (lw_privs_5))))
def lw_tbl : List Cond := k2_sels lw_privs ++ tables_1
theorem lw_privs_ok : ∀ q ∈ lw_privs, lw_okq q := by
  show ∀ q ∈ lw_privs_1 ++ (lw_privs_2 ++ (lw_privs_3 ++ (lw_privs_4 ++ (lw_privs_5)))), lw_okq q
  exact List.forall_mem_append.mpr ⟨lw_r1, List.forall_mem_append.mpr ⟨lw_r2, List.forall_mem_append.mpr ⟨lw_r3, List.forall_mem_append.mpr ⟨lw_r4, lw_r5⟩⟩⟩⟩
end
section
def RX0 : String := "TariffDesk$Part"
def TX0 : u_T := fun k => match k with
  | 0 => ("TariffDesk$Part", "stepEnds", "[I", true)
  | 1 => ("TariffDesk$Part", "stepCents", "[I", true)
  | 2 => ("TariffDesk$Part", "free", "I", false)
  | 3 => ("TariffDesk$Part", "steps", "I", false)
  | _ => ("TariffDesk$Part", "restCents", "I", false)
def tyX0 : Nat → FieldType := fun k => match k with
  | 0 => .array .int
  | 1 => .array .int
  | 2 => .int
  | 3 => .int
  | _ => .int
abbrev wsX00 : List Cond := u_ws RX0 TX0 5
theorem nmX0 : ∀ a, a < 5 → ∀ b, b < 5 → a ≠ b → (TX0 a).2.1 ≠ (TX0 b).2.1 := by decide +kernel
theorem tyX0_ok : ∀ k, k < 5 → parseFieldDescriptor (TX0 k).2.2.1 = some (tyX0 k) := by decide +kernel
abbrev cX0_init : ByteArray := prog_2_method_1_code
def yX0_init : MethodName := ⟨RX0, "<init>", "()V"⟩
abbrev cX0_clear : ByteArray := prog_2_method_2_code
def yX0_clear : MethodName := ⟨RX0, "clear", "()V"⟩
abbrev cX0_lastEnd : ByteArray := prog_2_method_3_code
def yX0_lastEnd : MethodName := ⟨RX0, "lastEnd", "()I"⟩
abbrev cX0_addStep : ByteArray := prog_2_method_4_code
def yX0_addStep : MethodName := ⟨RX0, "addStep", "(I)V"⟩
abbrev cX0_priceLastStep : ByteArray := prog_2_method_5_code
def yX0_priceLastStep : MethodName := ⟨RX0, "priceLastStep", "(I)V"⟩
abbrev cX0_centsFor : ByteArray := prog_2_method_6_code
def yX0_centsFor : MethodName := ⟨RX0, "centsFor", "(I)J"⟩
abbrev cX0_corner : ByteArray := prog_2_method_7_code
def yX0_corner : MethodName := ⟨RX0, "corner", "(I)I"⟩
def RX1 : String := "TariffDesk$Parting"
def TX1 : u_T := fun k => match k with
  | 0 => ("TariffDesk$Parting", "bests", "[J", true)
  | 1 => ("TariffDesk$Parting", "leastCents", "[J", true)
  | 2 => ("TariffDesk$Parting", "firstGroup", "[I", true)
  | _ => ("TariffDesk$Parting", "groups", "[I", true)
def tyX1 : Nat → FieldType := fun k => match k with
  | 0 => .array .long
  | 1 => .array .long
  | 2 => .array .int
  | _ => .array .int
abbrev wsX10 : List Cond := u_ws RX1 TX1 4
theorem nmX1 : ∀ a, a < 4 → ∀ b, b < 4 → a ≠ b → (TX1 a).2.1 ≠ (TX1 b).2.1 := by decide +kernel
theorem tyX1_ok : ∀ k, k < 4 → parseFieldDescriptor (TX1 k).2.2.1 = some (tyX1 k) := by decide +kernel
abbrev cX1_init : ByteArray := prog_3_method_1_code
def yX1_init : MethodName := ⟨RX1, "<init>", "()V"⟩
abbrev cX1_forget : ByteArray := prog_3_method_2_code
def yX1_forget : MethodName := ⟨RX1, "forget", "()V"⟩
abbrev cX1_tellBest : ByteArray := prog_3_method_3_code
def yX1_tellBest : MethodName := ⟨RX1, "tellBest", "(IJ)V"⟩
abbrev cX1_part : ByteArray := prog_3_method_4_code
def yX1_part : MethodName := ⟨RX1, "part", "()J"⟩
abbrev cX1_fillLeast : ByteArray := prog_3_method_5_code
def yX1_fillLeast : MethodName := ⟨RX1, "fillLeast", "(I)V"⟩
abbrev cX1_writeGroups : ByteArray := prog_3_method_6_code
def yX1_writeGroups : MethodName := ⟨RX1, "writeGroups", "()V"⟩
def RX2 : String := "TariffDesk$Plan"
def TX2 : u_T := fun k => match k with
  | 0 => ("TariffDesk$Plan", "parts", "[LTariffDesk$Part;", true)
  | 1 => ("TariffDesk$Plan", "nameLetters", "J", false)
  | 2 => ("TariffDesk$Plan", "nameLength", "I", false)
  | 3 => ("TariffDesk$Plan", "fee", "I", false)
  | 4 => ("TariffDesk$Plan", "term", "I", false)
  | 5 => ("TariffDesk$Plan", "from", "I", false)
  | 6 => ("TariffDesk$Plan", "until", "I", false)
  | _ => ("TariffDesk$Plan", "services", "I", false)
def tyX2 : Nat → FieldType := fun k => match k with
  | 0 => .array (.object "TariffDesk$Part")
  | 1 => .long
  | 2 => .int
  | 3 => .int
  | 4 => .int
  | 5 => .int
  | 6 => .int
  | _ => .int
abbrev wsX20 : List Cond := u_ws RX2 TX2 8
theorem nmX2 : ∀ a, a < 8 → ∀ b, b < 8 → a ≠ b → (TX2 a).2.1 ≠ (TX2 b).2.1 := by decide +kernel
theorem tyX2_ok : ∀ k, k < 8 → parseFieldDescriptor (TX2 k).2.2.1 = some (tyX2 k) := by decide +kernel
abbrev cX2_init : ByteArray := prog_4_method_1_code
def yX2_init : MethodName := ⟨RX2, "<init>", "()V"⟩
abbrev cX2_clear : ByteArray := prog_4_method_2_code
def yX2_clear : MethodName := ⟨RX2, "clear", "()V"⟩
abbrev cX2_addPart : ByteArray := prog_4_method_3_code
def yX2_addPart : MethodName := ⟨RX2, "addPart", "(I)LTariffDesk$Part;"⟩
abbrev cX2_partFor : ByteArray := prog_4_method_4_code
def yX2_partFor : MethodName := ⟨RX2, "partFor", "(I)LTariffDesk$Part;"⟩
abbrev cX2_mayBeginIn : ByteArray := prog_4_method_5_code
def yX2_mayBeginIn : MethodName := ⟨RX2, "mayBeginIn", "(I)Z"⟩
abbrev cX2_partCents : ByteArray := prog_4_method_6_code
def yX2_partCents : MethodName := ⟨RX2, "partCents", "([II)J"⟩
abbrev cX2_monthCents : ByteArray := prog_4_method_7_code
def yX2_monthCents : MethodName := ⟨RX2, "monthCents", "([I)J"⟩
def RX3 : String := "TariffDesk$PlanBook"
def TX3 : u_T := fun k => match k with
  | 0 => ("TariffDesk$PlanBook", "entries", "[LTariffDesk$Plan;", true)
  | _ => ("TariffDesk$PlanBook", "size", "I", false)
def tyX3 : Nat → FieldType := fun k => match k with
  | 0 => .array (.object "TariffDesk$Plan")
  | _ => .int
abbrev wsX30 : List Cond := u_ws RX3 TX3 2
theorem nmX3 : ∀ a, a < 2 → ∀ b, b < 2 → a ≠ b → (TX3 a).2.1 ≠ (TX3 b).2.1 := by decide +kernel
theorem tyX3_ok : ∀ k, k < 2 → parseFieldDescriptor (TX3 k).2.2.1 = some (tyX3 k) := by decide +kernel
abbrev cX3_init : ByteArray := prog_5_method_1_code
def yX3_init : MethodName := ⟨RX3, "<init>", "()V"⟩
abbrev cX3_at : ByteArray := prog_5_method_2_code
def yX3_at : MethodName := ⟨RX3, "at", "(I)LTariffDesk$Plan;"⟩
abbrev cX3_hasName : ByteArray := prog_5_method_3_code
def yX3_hasName : MethodName := ⟨RX3, "hasName", "(J)Z"⟩
abbrev cX3_nextPlan : ByteArray := prog_5_method_4_code
def yX3_nextPlan : MethodName := ⟨RX3, "nextPlan", "()LTariffDesk$Plan;"⟩
def RX4 : String := "TariffDesk$PlanReader"
def TX4 : u_T := fun k => match k with
  | 0 => ("TariffDesk$PlanReader", "tape", "LTariffDesk$Tape;", true)
  | 1 => ("TariffDesk$PlanReader", "book", "LTariffDesk$PlanBook;", false)
  | 2 => ("TariffDesk$PlanReader", "plan", "LTariffDesk$Plan;", false)
  | 3 => ("TariffDesk$PlanReader", "part", "LTariffDesk$Part;", false)
  | 4 => ("TariffDesk$PlanReader", "faultKind", "I", false)
  | 5 => ("TariffDesk$PlanReader", "faultPlace", "I", false)
  | 6 => ("TariffDesk$PlanReader", "token", "I", false)
  | 7 => ("TariffDesk$PlanReader", "tokenPlace", "I", false)
  | 8 => ("TariffDesk$PlanReader", "tokenLength", "I", false)
  | 9 => ("TariffDesk$PlanReader", "letters", "J", false)
  | 10 => ("TariffDesk$PlanReader", "number", "I", false)
  | _ => ("TariffDesk$PlanReader", "word", "I", false)
def tyX4 : Nat → FieldType := fun k => match k with
  | 0 => .object "TariffDesk$Tape"
  | 1 => .object "TariffDesk$PlanBook"
  | 2 => .object "TariffDesk$Plan"
  | 3 => .object "TariffDesk$Part"
  | 4 => .int
  | 5 => .int
  | 6 => .int
  | 7 => .int
  | 8 => .int
  | 9 => .long
  | 10 => .int
  | _ => .int
abbrev wsX40 : List Cond := u_ws RX4 TX4 12
theorem nmX4 : ∀ a, a < 12 → ∀ b, b < 12 → a ≠ b → (TX4 a).2.1 ≠ (TX4 b).2.1 := by decide +kernel
theorem tyX4_ok : ∀ k, k < 12 → parseFieldDescriptor (TX4 k).2.2.1 = some (tyX4 k) := by decide +kernel
abbrev cX4_init : ByteArray := prog_6_method_1_code
def yX4_init : MethodName := ⟨RX4, "<init>", "(LTariffDesk$Tape;)V"⟩
abbrev cX4_exchange : ByteArray := prog_6_method_2_code
def yX4_exchange : MethodName := ⟨RX4, "exchange", "(LTariffDesk$PlanBook;)LTariffDesk$PlanBook;"⟩
abbrev cX4_readText : ByteArray := prog_6_method_3_code
def yX4_readText : MethodName := ⟨RX4, "readText", "()Z"⟩
abbrev cX4_mayFollow : ByteArray := prog_6_method_4_code
def yX4_mayFollow : MethodName := ⟨RX4, "mayFollow", "(I)Z"⟩
abbrev cX4_readPair : ByteArray := prog_6_method_5_code
def yX4_readPair : MethodName := ⟨RX4, "readPair", "()Z"⟩
abbrev cX4_readName : ByteArray := prog_6_method_6_code
def yX4_readName : MethodName := ⟨RX4, "readName", "()Z"⟩
abbrev cX4_readNumber : ByteArray := prog_6_method_7_code
def yX4_readNumber : MethodName := ⟨RX4, "readNumber", "(I)Z"⟩
abbrev cX4_leastBehind : ByteArray := prog_6_method_8_code
def yX4_leastBehind : MethodName := ⟨RX4, "leastBehind", "(I)I"⟩
abbrev cX4_greatestBehind : ByteArray := prog_6_method_9_code
def yX4_greatestBehind : MethodName := ⟨RX4, "greatestBehind", "(I)I"⟩
abbrev cX4_putInPlan : ByteArray := prog_6_method_10_code
def yX4_putInPlan : MethodName := ⟨RX4, "putInPlan", "(I)V"⟩
abbrev cX4_putInPart : ByteArray := prog_6_method_11_code
def yX4_putInPart : MethodName := ⟨RX4, "putInPart", "(I)V"⟩
abbrev cX4_refuse : ByteArray := prog_6_method_12_code
def yX4_refuse : MethodName := ⟨RX4, "refuse", "(I)Z"⟩
abbrev cX4_scan : ByteArray := prog_6_method_13_code
def yX4_scan : MethodName := ⟨RX4, "scan", "()V"⟩
abbrev cX4_scanRun : ByteArray := prog_6_method_14_code
def yX4_scanRun : MethodName := ⟨RX4, "scanRun", "()V"⟩
abbrev cX4_wordOf : ByteArray := prog_6_method_15_code
def yX4_wordOf : MethodName := ⟨RX4, "wordOf", "(J)I"⟩
abbrev cX4_isBlank : ByteArray := prog_6_method_16_code
def yX4_isBlank : MethodName := ⟨RX4, "isBlank", "(I)Z"⟩
def RX5 : String := "TariffDesk$RowFinder"
def TX5 : u_T := fun k => match k with
  | 0 => ("TariffDesk$RowFinder", "monthCents", "[J", true)
  | 1 => ("TariffDesk$RowFinder", "begunCents", "[J", true)
  | 2 => ("TariffDesk$RowFinder", "freedCents", "[J", true)
  | 3 => ("TariffDesk$RowFinder", "freedChoice", "[I", true)
  | 4 => ("TariffDesk$RowFinder", "book", "LTariffDesk$PlanBook;", false)
  | 5 => ("TariffDesk$RowFinder", "from", "I", false)
  | 6 => ("TariffDesk$RowFinder", "to", "I", false)
  | _ => ("TariffDesk$RowFinder", "firstPlan", "I", false)
def tyX5 : Nat → FieldType := fun k => match k with
  | 0 => .array .long
  | 1 => .array .long
  | 2 => .array .long
  | 3 => .array .int
  | 4 => .object "TariffDesk$PlanBook"
  | 5 => .int
  | 6 => .int
  | _ => .int
abbrev wsX50 : List Cond := u_ws RX5 TX5 8
theorem nmX5 : ∀ a, a < 8 → ∀ b, b < 8 → a ≠ b → (TX5 a).2.1 ≠ (TX5 b).2.1 := by decide +kernel
theorem tyX5_ok : ∀ k, k < 8 → parseFieldDescriptor (TX5 k).2.2.1 = some (tyX5 k) := by decide +kernel
abbrev cX5_init : ByteArray := prog_7_method_1_code
def yX5_init : MethodName := ⟨RX5, "<init>", "()V"⟩
abbrev cX5_search : ByteArray := prog_7_method_2_code
def yX5_search : MethodName := ⟨RX5, "search", "(LTariffDesk$PlanBook;LTariffDesk$UseBook;IIII)J"⟩
abbrev cX5_writeRow : ByteArray := prog_7_method_3_code
def yX5_writeRow : MethodName := ⟨RX5, "writeRow", "([I)V"⟩
abbrev cX5_slot : ByteArray := prog_7_method_4_code
def yX5_slot : MethodName := ⟨RX5, "slot", "(II)I"⟩
abbrev cX5_termOf : ByteArray := prog_7_method_5_code
def yX5_termOf : MethodName := ⟨RX5, "termOf", "(I)I"⟩
abbrev cX5_choiceAt : ByteArray := prog_7_method_6_code
def yX5_choiceAt : MethodName := ⟨RX5, "choiceAt", "(II)I"⟩
abbrev cX5_fillMonthCents : ByteArray := prog_7_method_7_code
def yX5_fillMonthCents : MethodName := ⟨RX5, "fillMonthCents", "([II)V"⟩
abbrev cX5_fillBegun : ByteArray := prog_7_method_8_code
def yX5_fillBegun : MethodName := ⟨RX5, "fillBegun", "(II)V"⟩
abbrev cX5_fillFreed : ByteArray := prog_7_method_9_code
def yX5_fillFreed : MethodName := ⟨RX5, "fillFreed", "(III)V"⟩
abbrev cX5_keptCents : ByteArray := prog_7_method_10_code
def yX5_keptCents : MethodName := ⟨RX5, "keptCents", "(II)J"⟩
abbrev cX5_chooseFirst : ByteArray := prog_7_method_11_code
def yX5_chooseFirst : MethodName := ⟨RX5, "chooseFirst", "()J"⟩
def RX6 : String := "TariffDesk$Tape"
def TX6 : u_T := fun k => match k with
  | 0 => ("TariffDesk$Tape", "bytes", "[B", true)
  | _ => ("TariffDesk$Tape", "length", "I", false)
def tyX6 : Nat → FieldType := fun k => match k with
  | 0 => .array .byte
  | _ => .int
abbrev wsX60 : List Cond := u_ws RX6 TX6 2
theorem nmX6 : ∀ a, a < 2 → ∀ b, b < 2 → a ≠ b → (TX6 a).2.1 ≠ (TX6 b).2.1 := by decide +kernel
theorem tyX6_ok : ∀ k, k < 2 → parseFieldDescriptor (TX6 k).2.2.1 = some (tyX6 k) := by decide +kernel
abbrev cX6_init : ByteArray := prog_8_method_1_code
def yX6_init : MethodName := ⟨RX6, "<init>", "()V"⟩
abbrev cX6_append : ByteArray := prog_8_method_2_code
def yX6_append : MethodName := ⟨RX6, "append", "(I)V"⟩
abbrev cX6_byteAt : ByteArray := prog_8_method_3_code
def yX6_byteAt : MethodName := ⟨RX6, "byteAt", "(I)I"⟩
def RX7 : String := "TariffDesk$UseBook"
def TX7 : u_T := fun k => match k with
  | 0 => ("TariffDesk$UseBook", "units", "[I", true)
  | _ => ("TariffDesk$UseBook", "sums", "[I", true)
def tyX7 : Nat → FieldType := fun k => match k with
  | 0 => .array .int
  | _ => .array .int
abbrev wsX70 : List Cond := u_ws RX7 TX7 2
theorem nmX7 : ∀ a, a < 2 → ∀ b, b < 2 → a ≠ b → (TX7 a).2.1 ≠ (TX7 b).2.1 := by decide +kernel
theorem tyX7_ok : ∀ k, k < 2 → parseFieldDescriptor (TX7 k).2.2.1 = some (tyX7 k) := by decide +kernel
abbrev cX7_init : ByteArray := prog_9_method_1_code
def yX7_init : MethodName := ⟨RX7, "<init>", "()V"⟩
abbrev cX7_slot : ByteArray := prog_9_method_2_code
def yX7_slot : MethodName := ⟨RX7, "slot", "(III)I"⟩
abbrev cX7_at : ByteArray := prog_9_method_3_code
def yX7_at : MethodName := ⟨RX7, "at", "(III)I"⟩
abbrev cX7_take : ByteArray := prog_9_method_4_code
def yX7_take : MethodName := ⟨RX7, "take", "(LTariffDesk$Tape;III)I"⟩
abbrev cX7_numberAt : ByteArray := prog_9_method_5_code
def yX7_numberAt : MethodName := ⟨RX7, "numberAt", "(LTariffDesk$Tape;I)I"⟩
abbrev cX7_together : ByteArray := prog_9_method_6_code
def yX7_together : MethodName := ⟨RX7, "together", "(II)[I"⟩
def RX8 : String := "TariffDesk"
def TX8 : u_T := fun k => match k with
  | 0 => ("TariffDesk", "tape", "LTariffDesk$Tape;", true)
  | 1 => ("TariffDesk", "reader", "LTariffDesk$PlanReader;", true)
  | 2 => ("TariffDesk", "useBook", "LTariffDesk$UseBook;", true)
  | 3 => ("TariffDesk", "finder", "LTariffDesk$RowFinder;", true)
  | 4 => ("TariffDesk", "parting", "LTariffDesk$Parting;", true)
  | 5 => ("TariffDesk", "spanLeast", "[I", true)
  | 6 => ("TariffDesk", "spanGreatest", "[I", true)
  | 7 => ("TariffDesk", "row", "[I", true)
  | 8 => ("TariffDesk", "book", "LTariffDesk$PlanBook;", false)
  | 9 => ("TariffDesk", "switchCents", "I", false)
  | 10 => ("TariffDesk", "outLetters", "J", false)
  | _ => ("TariffDesk", "outLength", "I", false)
def tyX8 : Nat → FieldType := fun k => match k with
  | 0 => .object "TariffDesk$Tape"
  | 1 => .object "TariffDesk$PlanReader"
  | 2 => .object "TariffDesk$UseBook"
  | 3 => .object "TariffDesk$RowFinder"
  | 4 => .object "TariffDesk$Parting"
  | 5 => .array .int
  | 6 => .array .int
  | 7 => .array .int
  | 8 => .object "TariffDesk$PlanBook"
  | 9 => .int
  | 10 => .long
  | _ => .int
abbrev wsX80 : List Cond := u_ws RX8 TX8 12
theorem nmX8 : ∀ a, a < 12 → ∀ b, b < 12 → a ≠ b → (TX8 a).2.1 ≠ (TX8 b).2.1 := by decide +kernel
theorem tyX8_ok : ∀ k, k < 12 → parseFieldDescriptor (TX8 k).2.2.1 = some (tyX8 k) := by decide +kernel
abbrev cX8_init : ByteArray := prog_1_method_1_code
def yX8_init : MethodName := ⟨RX8, "<init>", "()V"⟩
abbrev cX8_feed : ByteArray := prog_1_method_2_code
def yX8_feed : MethodName := ⟨RX8, "feed", "(IIIII)I"⟩
abbrev cX8_end : ByteArray := prog_1_method_3_code
def yX8_end : MethodName := ⟨RX8, "end", "(I)Z"⟩
abbrev cX8_plans : ByteArray := prog_1_method_4_code
def yX8_plans : MethodName := ⟨RX8, "plans", "()I"⟩
abbrev cX8_fault : ByteArray := prog_1_method_5_code
def yX8_fault : MethodName := ⟨RX8, "fault", "()I"⟩
abbrev cX8_plan : ByteArray := prog_1_method_6_code
def yX8_plan : MethodName := ⟨RX8, "plan", "(II)I"⟩
abbrev cX8_name : ByteArray := prog_1_method_7_code
def yX8_name : MethodName := ⟨RX8, "name", "(I)I"⟩
abbrev cX8_octet : ByteArray := prog_1_method_8_code
def yX8_octet : MethodName := ⟨RX8, "octet", "(I)I"⟩
abbrev cX8_uses : ByteArray := prog_1_method_9_code
def yX8_uses : MethodName := ⟨RX8, "uses", "(III)I"⟩
abbrev cX8_use : ByteArray := prog_1_method_10_code
def yX8_use : MethodName := ⟨RX8, "use", "(III)I"⟩
abbrev cX8_change : ByteArray := prog_1_method_11_code
def yX8_change : MethodName := ⟨RX8, "change", "(I)Z"⟩
abbrev cX8_cost : ByteArray := prog_1_method_12_code
def yX8_cost : MethodName := ⟨RX8, "cost", "(IIII)J"⟩
abbrev cX8_bill : ByteArray := prog_1_method_13_code
def yX8_bill : MethodName := ⟨RX8, "bill", "(IIIJ)J"⟩
abbrev cX8_best : ByteArray := prog_1_method_14_code
def yX8_best : MethodName := ⟨RX8, "best", "(III)J"⟩
abbrev cX8_had : ByteArray := prog_1_method_15_code
def yX8_had : MethodName := ⟨RX8, "had", "(I)I"⟩
abbrev cX8_bills : ByteArray := prog_1_method_16_code
def yX8_bills : MethodName := ⟨RX8, "bills", "()J"⟩
abbrev cX8_group : ByteArray := prog_1_method_17_code
def yX8_group : MethodName := ⟨RX8, "group", "(I)I"⟩
abbrev cX8_span : ByteArray := prog_1_method_18_code
def yX8_span : MethodName := ⟨RX8, "span", "(III)Z"⟩
abbrev cX8_above : ByteArray := prog_1_method_19_code
def yX8_above : MethodName := ⟨RX8, "above", "(IIZ)J"⟩
abbrev cX8_count : ByteArray := prog_1_method_20_code
def yX8_count : MethodName := ⟨RX8, "count", "(I)I"⟩
abbrev cX8_isWithin : ByteArray := prog_1_method_21_code
def yX8_isWithin : MethodName := ⟨RX8, "isWithin", "(III)Z"⟩
abbrev cX8_plus : ByteArray := prog_1_method_22_code
def yX8_plus : MethodName := ⟨RX8, "plus", "(JJ)J"⟩
abbrev cX8_isCheaper : ByteArray := prog_1_method_23_code
def yX8_isCheaper : MethodName := ⟨RX8, "isCheaper", "(JJ)Z"⟩
abbrev cX8_forgetRow : ByteArray := prog_1_method_24_code
def yX8_forgetRow : MethodName := ⟨RX8, "forgetRow", "()V"⟩
abbrev cX8_centsOf : ByteArray := prog_1_method_25_code
def yX8_centsOf : MethodName := ⟨RX8, "centsOf", "(IIII)J"⟩
abbrev cX8_partAbove : ByteArray := prog_1_method_26_code
def yX8_partAbove : MethodName := ⟨RX8, "partAbove", "(LTariffDesk$Part;LTariffDesk$Part;IZ)J"⟩
abbrev cX8_differenceAt : ByteArray := prog_1_method_27_code
def yX8_differenceAt : MethodName := ⟨RX8, "differenceAt", "(LTariffDesk$Part;LTariffDesk$Part;I)J"⟩
abbrev cX8_further : ByteArray := prog_1_method_28_code
def yX8_further : MethodName := ⟨RX8, "further", "(JJZ)J"⟩
def RX9 : String := "TariffDeskModel"
def TX9 : u_T := fun k => match k with
  | 0 => ("TariffDeskModel", "thrown", "I", false)
  | 1 => ("TariffDeskModel", "tape", "[I", true)
  | 2 => ("TariffDeskModel", "taped", "I", false)
  | 3 => ("TariffDeskModel", "size", "I", false)
  | 4 => ("TariffDeskModel", "to", "I", false)
  | 5 => ("TariffDeskModel", "from", "I", false)
  | 6 => ("TariffDeskModel", "kind", "I", false)
  | 7 => ("TariffDeskModel", "number", "I", false)
  | 8 => ("TariffDeskModel", "fault", "I", false)
  | 9 => ("TariffDeskModel", "place", "I", false)
  | 10 => ("TariffDeskModel", "name", "J", false)
  | 11 => ("TariffDeskModel", "names", "[J", true)
  | 12 => ("TariffDeskModel", "fee", "[I", true)
  | 13 => ("TariffDeskModel", "term", "[I", true)
  | 14 => ("TariffDeskModel", "first", "[I", true)
  | 15 => ("TariffDeskModel", "last", "[I", true)
  | 16 => ("TariffDeskModel", "has", "[Z", true)
  | 17 => ("TariffDeskModel", "free", "[I", true)
  | 18 => ("TariffDeskModel", "steps", "[I", true)
  | 19 => ("TariffDeskModel", "upTo", "[I", true)
  | 20 => ("TariffDeskModel", "cents", "[I", true)
  | 21 => ("TariffDeskModel", "rest", "[I", true)
  | 22 => ("TariffDeskModel", "plans", "I", false)
  | 23 => ("TariffDeskModel", "read", "I", false)
  | 24 => ("TariffDeskModel", "newPlans", "I", false)
  | 25 => ("TariffDeskModel", "out", "[I", true)
  | 26 => ("TariffDeskModel", "outs", "I", false)
  | 27 => ("TariffDeskModel", "used", "[I", true)
  | 28 => ("TariffDeskModel", "change", "I", false)
  | 29 => ("TariffDeskModel", "dear", "[J", true)
  | 30 => ("TariffDeskModel", "dearThen", "[J", true)
  | 31 => ("TariffDeskModel", "rows", "[I", true)
  | 32 => ("TariffDeskModel", "rowsThen", "[I", true)
  | 33 => ("TariffDeskModel", "row", "[I", true)
  | 34 => ("TariffDeskModel", "begun", "I", false)
  | 35 => ("TariffDeskModel", "ended", "I", false)
  | 36 => ("TariffDeskModel", "alone", "[J", true)
  | 37 => ("TariffDeskModel", "parted", "[J", true)
  | 38 => ("TariffDeskModel", "taken", "[I", true)
  | 39 => ("TariffDeskModel", "group", "[I", true)
  | 40 => ("TariffDeskModel", "least", "[I", true)
  | _ => ("TariffDeskModel", "greatest", "[I", true)
def tyX9 : Nat → FieldType := fun k => match k with
  | 0 => .int
  | 1 => .array .int
  | 2 => .int
  | 3 => .int
  | 4 => .int
  | 5 => .int
  | 6 => .int
  | 7 => .int
  | 8 => .int
  | 9 => .int
  | 10 => .long
  | 11 => .array .long
  | 12 => .array .int
  | 13 => .array .int
  | 14 => .array .int
  | 15 => .array .int
  | 16 => .array .boolean
  | 17 => .array .int
  | 18 => .array .int
  | 19 => .array .int
  | 20 => .array .int
  | 21 => .array .int
  | 22 => .int
  | 23 => .int
  | 24 => .int
  | 25 => .array .int
  | 26 => .int
  | 27 => .array .int
  | 28 => .int
  | 29 => .array .long
  | 30 => .array .long
  | 31 => .array .int
  | 32 => .array .int
  | 33 => .array .int
  | 34 => .int
  | 35 => .int
  | 36 => .array .long
  | 37 => .array .long
  | 38 => .array .int
  | 39 => .array .int
  | 40 => .array .int
  | _ => .array .int
abbrev wsX90 : List Cond := u_ws RX9 TX9 42
theorem nmX9 : ∀ a, a < 42 → ∀ b, b < 42 → a ≠ b → (TX9 a).2.1 ≠ (TX9 b).2.1 := by decide +kernel
theorem tyX9_ok : ∀ k, k < 42 → parseFieldDescriptor (TX9 k).2.2.1 = some (tyX9 k) := by decide +kernel
abbrev cX9_init : ByteArray := prog_11_method_1_code
def yX9_init : MethodName := ⟨RX9, "<init>", "()V"⟩
abbrev cX9_thrown : ByteArray := prog_11_method_2_code
def yX9_thrown : MethodName := ⟨RX9, "thrown", "()I"⟩
abbrev cX9_refuse : ByteArray := prog_11_method_3_code
def yX9_refuse : MethodName := ⟨RX9, "refuse", "()I"⟩
abbrev cX9_come : ByteArray := prog_11_method_4_code
def yX9_come : MethodName := ⟨RX9, "come", "(I)V"⟩
abbrev cX9_feed : ByteArray := prog_11_method_5_code
def yX9_feed : MethodName := ⟨RX9, "feed", "(IIIII)I"⟩
abbrev cX9_end : ByteArray := prog_11_method_6_code
def yX9_end : MethodName := ⟨RX9, "end", "(I)Z"⟩
abbrev cX9_byteAt : ByteArray := prog_11_method_7_code
def yX9_byteAt : MethodName := ⟨RX9, "byteAt", "(I)I"⟩
abbrev cX9_isDigit : ByteArray := prog_11_method_8_code
def yX9_isDigit : MethodName := ⟨RX9, "isDigit", "(I)Z"⟩
abbrev cX9_isLetter : ByteArray := prog_11_method_9_code
def yX9_isLetter : MethodName := ⟨RX9, "isLetter", "(I)Z"⟩
abbrev cX9_go : ByteArray := prog_11_method_10_code
def yX9_go : MethodName := ⟨RX9, "go", "()V"⟩
abbrev cX9_isKey : ByteArray := prog_11_method_12_code
def yX9_isKey : MethodName := ⟨RX9, "isKey", "(J)Z"⟩
abbrev cX9_isFree : ByteArray := prog_11_method_13_code
def yX9_isFree : MethodName := ⟨RX9, "isFree", "()Z"⟩
abbrev cX9_bad : ByteArray := prog_11_method_14_code
def yX9_bad : MethodName := ⟨RX9, "bad", "(I)Z"⟩
abbrev cX9_readNumber : ByteArray := prog_11_method_15_code
def yX9_readNumber : MethodName := ⟨RX9, "readNumber", "(II)Z"⟩
abbrev cX9_readKey : ByteArray := prog_11_method_16_code
def yX9_readKey : MethodName := ⟨RX9, "readKey", "(J)Z"⟩
abbrev cX9_readPart : ByteArray := prog_11_method_17_code
def yX9_readPart : MethodName := ⟨RX9, "readPart", "(I)Z"⟩
abbrev cX9_readPlan : ByteArray := prog_11_method_18_code
def yX9_readPlan : MethodName := ⟨RX9, "readPlan", "(I)Z"⟩
abbrev cX9_readText : ByteArray := prog_11_method_19_code
def yX9_readText : MethodName := ⟨RX9, "readText", "()Z"⟩
abbrev cX9_plans : ByteArray := prog_11_method_20_code
def yX9_plans : MethodName := ⟨RX9, "plans", "()I"⟩
abbrev cX9_fault : ByteArray := prog_11_method_21_code
def yX9_fault : MethodName := ⟨RX9, "fault", "()I"⟩
abbrev cX9_isPlan : ByteArray := prog_11_method_22_code
def yX9_isPlan : MethodName := ⟨RX9, "isPlan", "(I)Z"⟩
abbrev cX9_plan : ByteArray := prog_11_method_23_code
def yX9_plan : MethodName := ⟨RX9, "plan", "(II)I"⟩
abbrev cX9_name : ByteArray := prog_11_method_24_code
def yX9_name : MethodName := ⟨RX9, "name", "(I)I"⟩
abbrev cX9_octet : ByteArray := prog_11_method_25_code
def yX9_octet : MethodName := ⟨RX9, "octet", "(I)I"⟩
abbrev cX9_isIn : ByteArray := prog_11_method_26_code
def yX9_isIn : MethodName := ⟨RX9, "isIn", "(II)Z"⟩
abbrev cX9_cell : ByteArray := prog_11_method_27_code
def yX9_cell : MethodName := ⟨RX9, "cell", "(III)I"⟩
abbrev cX9_uses : ByteArray := prog_11_method_28_code
def yX9_uses : MethodName := ⟨RX9, "uses", "(III)I"⟩
abbrev cX9_use : ByteArray := prog_11_method_29_code
def yX9_use : MethodName := ⟨RX9, "use", "(III)I"⟩
abbrev cX9_change : ByteArray := prog_11_method_30_code
def yX9_change : MethodName := ⟨RX9, "change", "(I)Z"⟩
abbrev cX9_together : ByteArray := prog_11_method_31_code
def yX9_together : MethodName := ⟨RX9, "together", "(III)I"⟩
abbrev cX9_partCost : ByteArray := prog_11_method_32_code
def yX9_partCost : MethodName := ⟨RX9, "partCost", "(II)J"⟩
abbrev cX9_mayHave : ByteArray := prog_11_method_33_code
def yX9_mayHave : MethodName := ⟨RX9, "mayHave", "(III)Z"⟩
abbrev cX9_serviceCost : ByteArray := prog_11_method_34_code
def yX9_serviceCost : MethodName := ⟨RX9, "serviceCost", "(IIII)J"⟩
abbrev cX9_monthCost : ByteArray := prog_11_method_35_code
def yX9_monthCost : MethodName := ⟨RX9, "monthCost", "(III)J"⟩
abbrev cX9_cost : ByteArray := prog_11_method_36_code
def yX9_cost : MethodName := ⟨RX9, "cost", "(IIII)J"⟩
abbrev cX9_bill : ByteArray := prog_11_method_37_code
def yX9_bill : MethodName := ⟨RX9, "bill", "(IIIJ)J"⟩
abbrev cX9_state : ByteArray := prog_11_method_38_code
def yX9_state : MethodName := ⟨RX9, "state", "(II)I"⟩
abbrev cX9_offer : ByteArray := prog_11_method_39_code
def yX9_offer : MethodName := ⟨RX9, "offer", "(IIIIJ)V"⟩
abbrev cX9_turn : ByteArray := prog_11_method_40_code
def yX9_turn : MethodName := ⟨RX9, "turn", "()V"⟩
abbrev cX9_mayBegin : ByteArray := prog_11_method_41_code
def yX9_mayBegin : MethodName := ⟨RX9, "mayBegin", "(II)Z"⟩
abbrev cX9_find : ByteArray := prog_11_method_42_code
def yX9_find : MethodName := ⟨RX9, "find", "(III)I"⟩
abbrev cX9_isAhead : ByteArray := prog_11_method_43_code
def yX9_isAhead : MethodName := ⟨RX9, "isAhead", "(III)Z"⟩
abbrev cX9_best : ByteArray := prog_11_method_44_code
def yX9_best : MethodName := ⟨RX9, "best", "(III)J"⟩
abbrev cX9_had : ByteArray := prog_11_method_45_code
def yX9_had : MethodName := ⟨RX9, "had", "(I)I"⟩
abbrev cX9_bills : ByteArray := prog_11_method_46_code
def yX9_bills : MethodName := ⟨RX9, "bills", "()J"⟩
abbrev cX9_group : ByteArray := prog_11_method_47_code
def yX9_group : MethodName := ⟨RX9, "group", "(I)I"⟩
abbrev cX9_span : ByteArray := prog_11_method_48_code
def yX9_span : MethodName := ⟨RX9, "span", "(III)Z"⟩
abbrev cX9_above : ByteArray := prog_11_method_49_code
def yX9_above : MethodName := ⟨RX9, "above", "(IIZ)J"⟩
abbrev cX9_count : ByteArray := prog_11_method_50_code
def yX9_count : MethodName := ⟨RX9, "count", "(I)I"⟩
def RJ9 : String := "java/lang/Math"
def TJ9 : u_T := fun k => match k with
  | _ => ("", "", "", false)
def tyJ9 : Nat → FieldType := fun k => match k with
  | _ => .int
abbrev wsJ90 : List Cond := u_ws RJ9 TJ9 0
theorem nmJ9 : ∀ a, a < 0 → ∀ b, b < 0 → a ≠ b → (TJ9 a).2.1 ≠ (TJ9 b).2.1 := by decide +kernel
theorem tyJ9_ok : ∀ k, k < 0 → parseFieldDescriptor (TJ9 k).2.2.1 = some (tyJ9 k) := by decide +kernel
abbrev cJ9_max_7cf53 : ByteArray := prog_13_method_65_code
def yJ9_max_7cf53 : MethodName := ⟨RJ9, "max", "(II)I"⟩
abbrev cJ9_max_f86c9 : ByteArray := prog_13_method_66_code
def yJ9_max_f86c9 : MethodName := ⟨RJ9, "max", "(JJ)J"⟩
abbrev cJ9_min_7cf53 : ByteArray := prog_13_method_69_code
def yJ9_min_7cf53 : MethodName := ⟨RJ9, "min", "(II)I"⟩
abbrev cJ9_min_f86c9 : ByteArray := prog_13_method_70_code
def yJ9_min_f86c9 : MethodName := ⟨RJ9, "min", "(JJ)J"⟩
def RL : String := "TariffDeskLaw"
abbrev cL_plan : ByteArray := method_3_code
def yL_plan : MethodName := ⟨RL, "plan", "(LTariffDesk;II[J)I"⟩
abbrev cL_octet : ByteArray := method_4_code
def yL_octet : MethodName := ⟨RL, "octet", "(LTariffDesk;I[J)I"⟩
abbrev cL_cost : ByteArray := method_5_code
def yL_cost : MethodName := ⟨RL, "cost", "(LTariffDesk;IIII[J)I"⟩
abbrev cL_bill : ByteArray := method_6_code
def yL_bill : MethodName := ⟨RL, "bill", "(LTariffDesk;IIIJ[J)I"⟩
abbrev cL_above : ByteArray := method_7_code
def yL_above : MethodName := ⟨RL, "above", "(LTariffDesk;IIZ[J)I"⟩
abbrev cL_law : ByteArray := code
def yL_law : MethodName := ⟨RL, "law", "([I)Z"⟩
abbrev vwCl : List vw_C := [(RX0, TX0, 5), (RX1, TX1, 4), (RX2, TX2, 8), (RX3, TX3, 2), (RX4, TX4, 12), (RX5, TX5, 8), (RX6, TX6, 2), (RX7, TX7, 2), (RX8, TX8, 12), (RX9, TX9, 42)]
end
section
theorem dX0_init_0 : decode cX0_init 0 = .ok (.aload_n 0, 1) := by decide +kernel
theorem dX0_init_1 : decode cX0_init 1 = .ok (.invokespecial 3, 3) := by decide +kernel
theorem dX0_init_4 : decode cX0_init 4 = .ok (.aload_n 0, 1) := by decide +kernel
theorem dX0_init_5 : decode cX0_init 5 = .ok (.iconst 3, 1) := by decide +kernel
theorem dX0_init_6 : decode cX0_init 6 = .ok (.newarray .int, 2) := by decide +kernel
theorem dX0_init_8 : decode cX0_init 8 = .ok (.putfield 9, 3) := by decide +kernel
theorem dX0_init_11 : decode cX0_init 11 = .ok (.aload_n 0, 1) := by decide +kernel
theorem dX0_init_12 : decode cX0_init 12 = .ok (.iconst 3, 1) := by decide +kernel
theorem dX0_init_13 : decode cX0_init 13 = .ok (.newarray .int, 2) := by decide +kernel
theorem dX0_init_15 : decode cX0_init 15 = .ok (.putfield 15, 3) := by decide +kernel
theorem dX0_init_18 : decode cX0_init 18 = .ok (.return_, 1) := by decide +kernel
theorem dX0_clear_0 : decode cX0_clear 0 = .ok (.aload_n 0, 1) := by decide +kernel
theorem dX0_clear_1 : decode cX0_clear 1 = .ok (.iconst 0, 1) := by decide +kernel
theorem dX0_clear_2 : decode cX0_clear 2 = .ok (.putfield 18, 3) := by decide +kernel
theorem dX0_clear_5 : decode cX0_clear 5 = .ok (.aload_n 0, 1) := by decide +kernel
theorem dX0_clear_6 : decode cX0_clear 6 = .ok (.iconst 0, 1) := by decide +kernel
theorem dX0_clear_7 : decode cX0_clear 7 = .ok (.putfield 22, 3) := by decide +kernel
theorem dX0_clear_10 : decode cX0_clear 10 = .ok (.aload_n 0, 1) := by decide +kernel
theorem dX0_clear_11 : decode cX0_clear 11 = .ok (.iconst 0, 1) := by decide +kernel
theorem dX0_clear_12 : decode cX0_clear 12 = .ok (.putfield 25, 3) := by decide +kernel
theorem dX0_clear_15 : decode cX0_clear 15 = .ok (.return_, 1) := by decide +kernel
theorem dX0_lastEnd_0 : decode cX0_lastEnd 0 = .ok (.aload_n 0, 1) := by decide +kernel
theorem dX0_lastEnd_1 : decode cX0_lastEnd 1 = .ok (.getfield 22, 3) := by decide +kernel
theorem dX0_lastEnd_4 : decode cX0_lastEnd 4 = .ok (.iconst 1, 1) := by decide +kernel
theorem dX0_lastEnd_5 : decode cX0_lastEnd 5 = .ok (.if_icmp .lt 11, 3) := by decide +kernel
theorem dX0_lastEnd_8 : decode cX0_lastEnd 8 = .ok (.aload_n 0, 1) := by decide +kernel
theorem dX0_lastEnd_9 : decode cX0_lastEnd 9 = .ok (.getfield 22, 3) := by decide +kernel
theorem dX0_lastEnd_12 : decode cX0_lastEnd 12 = .ok (.iconst 3, 1) := by decide +kernel
theorem dX0_lastEnd_13 : decode cX0_lastEnd 13 = .ok (.if_icmp .le 7, 3) := by decide +kernel
theorem dX0_lastEnd_16 : decode cX0_lastEnd 16 = .ok (.iconst 0, 1) := by decide +kernel
theorem dX0_lastEnd_17 : decode cX0_lastEnd 17 = .ok (.goto 14, 3) := by decide +kernel
theorem dX0_lastEnd_20 : decode cX0_lastEnd 20 = .ok (.aload_n 0, 1) := by decide +kernel
theorem dX0_lastEnd_21 : decode cX0_lastEnd 21 = .ok (.getfield 9, 3) := by decide +kernel
theorem dX0_lastEnd_24 : decode cX0_lastEnd 24 = .ok (.aload_n 0, 1) := by decide +kernel
theorem dX0_lastEnd_25 : decode cX0_lastEnd 25 = .ok (.getfield 22, 3) := by decide +kernel
theorem dX0_lastEnd_28 : decode cX0_lastEnd 28 = .ok (.iconst 1, 1) := by decide +kernel
theorem dX0_lastEnd_29 : decode cX0_lastEnd 29 = .ok (.isub, 1) := by decide +kernel
theorem dX0_lastEnd_30 : decode cX0_lastEnd 30 = .ok (.iaload, 1) := by decide +kernel
theorem dX0_lastEnd_31 : decode cX0_lastEnd 31 = .ok (.ireturn, 1) := by decide +kernel
theorem dX0_addStep_0 : decode cX0_addStep 0 = .ok (.aload_n 0, 1) := by decide +kernel
theorem dX0_addStep_1 : decode cX0_addStep 1 = .ok (.getfield 22, 3) := by decide +kernel
theorem dX0_addStep_4 : decode cX0_addStep 4 = .ok (.ifCond .lt 41, 3) := by decide +kernel
theorem dX0_addStep_7 : decode cX0_addStep 7 = .ok (.aload_n 0, 1) := by decide +kernel
theorem dX0_addStep_8 : decode cX0_addStep 8 = .ok (.getfield 22, 3) := by decide +kernel
theorem dX0_addStep_11 : decode cX0_addStep 11 = .ok (.iconst 3, 1) := by decide +kernel
theorem dX0_addStep_12 : decode cX0_addStep 12 = .ok (.if_icmp .ge 33, 3) := by decide +kernel
theorem dX0_addStep_15 : decode cX0_addStep 15 = .ok (.aload_n 0, 1) := by decide +kernel
theorem dX0_addStep_16 : decode cX0_addStep 16 = .ok (.getfield 9, 3) := by decide +kernel
theorem dX0_addStep_19 : decode cX0_addStep 19 = .ok (.aload_n 0, 1) := by decide +kernel
theorem dX0_addStep_20 : decode cX0_addStep 20 = .ok (.getfield 22, 3) := by decide +kernel
theorem dX0_addStep_23 : decode cX0_addStep 23 = .ok (.iload_n 1, 1) := by decide +kernel
theorem dX0_addStep_24 : decode cX0_addStep 24 = .ok (.iastore, 1) := by decide +kernel
theorem dX0_addStep_25 : decode cX0_addStep 25 = .ok (.aload_n 0, 1) := by decide +kernel
theorem dX0_addStep_26 : decode cX0_addStep 26 = .ok (.getfield 15, 3) := by decide +kernel
theorem dX0_addStep_29 : decode cX0_addStep 29 = .ok (.aload_n 0, 1) := by decide +kernel
theorem dX0_addStep_30 : decode cX0_addStep 30 = .ok (.getfield 22, 3) := by decide +kernel
theorem dX0_addStep_33 : decode cX0_addStep 33 = .ok (.iconst 0, 1) := by decide +kernel
theorem dX0_addStep_34 : decode cX0_addStep 34 = .ok (.iastore, 1) := by decide +kernel
theorem dX0_addStep_35 : decode cX0_addStep 35 = .ok (.aload_n 0, 1) := by decide +kernel
theorem dX0_addStep_36 : decode cX0_addStep 36 = .ok (.dup, 1) := by decide +kernel
theorem dX0_addStep_37 : decode cX0_addStep 37 = .ok (.getfield 22, 3) := by decide +kernel
theorem dX0_addStep_40 : decode cX0_addStep 40 = .ok (.iconst 1, 1) := by decide +kernel
theorem dX0_addStep_41 : decode cX0_addStep 41 = .ok (.iadd, 1) := by decide +kernel
theorem dX0_addStep_42 : decode cX0_addStep 42 = .ok (.putfield 22, 3) := by decide +kernel
theorem dX0_addStep_45 : decode cX0_addStep 45 = .ok (.return_, 1) := by decide +kernel
theorem dX0_priceLastStep_0 : decode cX0_priceLastStep 0 = .ok (.aload_n 0, 1) := by decide +kernel
theorem dX0_priceLastStep_1 : decode cX0_priceLastStep 1 = .ok (.getfield 22, 3) := by decide +kernel
theorem dX0_priceLastStep_4 : decode cX0_priceLastStep 4 = .ok (.iconst 1, 1) := by decide +kernel
theorem dX0_priceLastStep_5 : decode cX0_priceLastStep 5 = .ok (.if_icmp .lt 23, 3) := by decide +kernel
theorem dX0_priceLastStep_8 : decode cX0_priceLastStep 8 = .ok (.aload_n 0, 1) := by decide +kernel
theorem dX0_priceLastStep_9 : decode cX0_priceLastStep 9 = .ok (.getfield 22, 3) := by decide +kernel
theorem dX0_priceLastStep_12 : decode cX0_priceLastStep 12 = .ok (.iconst 3, 1) := by decide +kernel
theorem dX0_priceLastStep_13 : decode cX0_priceLastStep 13 = .ok (.if_icmp .gt 15, 3) := by decide +kernel
theorem dX0_priceLastStep_16 : decode cX0_priceLastStep 16 = .ok (.aload_n 0, 1) := by decide +kernel
theorem dX0_priceLastStep_17 : decode cX0_priceLastStep 17 = .ok (.getfield 15, 3) := by decide +kernel
theorem dX0_priceLastStep_20 : decode cX0_priceLastStep 20 = .ok (.aload_n 0, 1) := by decide +kernel
theorem dX0_priceLastStep_21 : decode cX0_priceLastStep 21 = .ok (.getfield 22, 3) := by decide +kernel
theorem dX0_priceLastStep_24 : decode cX0_priceLastStep 24 = .ok (.iconst 1, 1) := by decide +kernel
theorem dX0_priceLastStep_25 : decode cX0_priceLastStep 25 = .ok (.isub, 1) := by decide +kernel
theorem dX0_priceLastStep_26 : decode cX0_priceLastStep 26 = .ok (.iload_n 1, 1) := by decide +kernel
theorem dX0_priceLastStep_27 : decode cX0_priceLastStep 27 = .ok (.iastore, 1) := by decide +kernel
theorem dX0_priceLastStep_28 : decode cX0_priceLastStep 28 = .ok (.return_, 1) := by decide +kernel
theorem dX0_centsFor_0 : decode cX0_centsFor 0 = .ok (.iconst 0, 1) := by decide +kernel
theorem dX0_centsFor_1 : decode cX0_centsFor 1 = .ok (.iload_n 1, 1) := by decide +kernel
theorem dX0_centsFor_2 : decode cX0_centsFor 2 = .ok (.aload_n 0, 1) := by decide +kernel
theorem dX0_centsFor_3 : decode cX0_centsFor 3 = .ok (.getfield 18, 3) := by decide +kernel
theorem dX0_centsFor_6 : decode cX0_centsFor 6 = .ok (.isub, 1) := by decide +kernel
theorem dX0_centsFor_7 : decode cX0_centsFor 7 = .ok (.invokestatic 28, 3) := by decide +kernel
theorem dX0_centsFor_10 : decode cX0_centsFor 10 = .ok (.istore_n 2, 1) := by decide +kernel
theorem dX0_centsFor_11 : decode cX0_centsFor 11 = .ok (.iconst 0, 1) := by decide +kernel
theorem dX0_centsFor_12 : decode cX0_centsFor 12 = .ok (.istore_n 3, 1) := by decide +kernel
theorem dX0_centsFor_13 : decode cX0_centsFor 13 = .ok (.lconst 0, 1) := by decide +kernel
theorem dX0_centsFor_14 : decode cX0_centsFor 14 = .ok (.lstore 4, 2) := by decide +kernel
theorem dX0_centsFor_16 : decode cX0_centsFor 16 = .ok (.iconst 0, 1) := by decide +kernel
theorem dX0_centsFor_17 : decode cX0_centsFor 17 = .ok (.istore 6, 2) := by decide +kernel
theorem dX0_centsFor_19 : decode cX0_centsFor 19 = .ok (.iload 6, 2) := by decide +kernel
theorem dX0_centsFor_21 : decode cX0_centsFor 21 = .ok (.aload_n 0, 1) := by decide +kernel
theorem dX0_centsFor_22 : decode cX0_centsFor 22 = .ok (.getfield 22, 3) := by decide +kernel
theorem dX0_centsFor_25 : decode cX0_centsFor 25 = .ok (.if_icmp .ge 50, 3) := by decide +kernel
theorem dX0_centsFor_28 : decode cX0_centsFor 28 = .ok (.iload 6, 2) := by decide +kernel
theorem dX0_centsFor_30 : decode cX0_centsFor 30 = .ok (.iconst 3, 1) := by decide +kernel
theorem dX0_centsFor_31 : decode cX0_centsFor 31 = .ok (.if_icmp .ge 44, 3) := by decide +kernel
theorem dX0_centsFor_34 : decode cX0_centsFor 34 = .ok (.iload_n 2, 1) := by decide +kernel
theorem dX0_centsFor_35 : decode cX0_centsFor 35 = .ok (.aload_n 0, 1) := by decide +kernel
theorem dX0_centsFor_36 : decode cX0_centsFor 36 = .ok (.getfield 9, 3) := by decide +kernel
theorem dX0_centsFor_39 : decode cX0_centsFor 39 = .ok (.iload 6, 2) := by decide +kernel
theorem dX0_centsFor_41 : decode cX0_centsFor 41 = .ok (.iaload, 1) := by decide +kernel
theorem dX0_centsFor_42 : decode cX0_centsFor 42 = .ok (.invokestatic 34, 3) := by decide +kernel
theorem dX0_centsFor_45 : decode cX0_centsFor 45 = .ok (.istore 7, 2) := by decide +kernel
theorem dX0_centsFor_47 : decode cX0_centsFor 47 = .ok (.lload 4, 2) := by decide +kernel
theorem dX0_centsFor_49 : decode cX0_centsFor 49 = .ok (.iload 7, 2) := by decide +kernel
theorem dX0_centsFor_51 : decode cX0_centsFor 51 = .ok (.iload_n 3, 1) := by decide +kernel
theorem dX0_centsFor_52 : decode cX0_centsFor 52 = .ok (.isub, 1) := by decide +kernel
theorem dX0_centsFor_53 : decode cX0_centsFor 53 = .ok (.i2l, 1) := by decide +kernel
theorem dX0_centsFor_54 : decode cX0_centsFor 54 = .ok (.aload_n 0, 1) := by decide +kernel
theorem dX0_centsFor_55 : decode cX0_centsFor 55 = .ok (.getfield 15, 3) := by decide +kernel
theorem dX0_centsFor_58 : decode cX0_centsFor 58 = .ok (.iload 6, 2) := by decide +kernel
theorem dX0_centsFor_60 : decode cX0_centsFor 60 = .ok (.iaload, 1) := by decide +kernel
theorem dX0_centsFor_61 : decode cX0_centsFor 61 = .ok (.i2l, 1) := by decide +kernel
theorem dX0_centsFor_62 : decode cX0_centsFor 62 = .ok (.lmul, 1) := by decide +kernel
theorem dX0_centsFor_63 : decode cX0_centsFor 63 = .ok (.ladd, 1) := by decide +kernel
theorem dX0_centsFor_64 : decode cX0_centsFor 64 = .ok (.lstore 4, 2) := by decide +kernel
theorem dX0_centsFor_66 : decode cX0_centsFor 66 = .ok (.iload 7, 2) := by decide +kernel
theorem dX0_centsFor_68 : decode cX0_centsFor 68 = .ok (.istore_n 3, 1) := by decide +kernel
theorem dX0_centsFor_69 : decode cX0_centsFor 69 = .ok (.iinc 6 1, 3) := by decide +kernel
theorem dX0_centsFor_72 : decode cX0_centsFor 72 = .ok (.goto (-53), 3) := by decide +kernel
theorem dX0_centsFor_75 : decode cX0_centsFor 75 = .ok (.lload 4, 2) := by decide +kernel
theorem dX0_centsFor_77 : decode cX0_centsFor 77 = .ok (.iload_n 2, 1) := by decide +kernel
theorem dX0_centsFor_78 : decode cX0_centsFor 78 = .ok (.iload_n 3, 1) := by decide +kernel
theorem dX0_centsFor_79 : decode cX0_centsFor 79 = .ok (.isub, 1) := by decide +kernel
theorem dX0_centsFor_80 : decode cX0_centsFor 80 = .ok (.i2l, 1) := by decide +kernel
theorem dX0_centsFor_81 : decode cX0_centsFor 81 = .ok (.aload_n 0, 1) := by decide +kernel
theorem dX0_centsFor_82 : decode cX0_centsFor 82 = .ok (.getfield 25, 3) := by decide +kernel
theorem dX0_centsFor_85 : decode cX0_centsFor 85 = .ok (.i2l, 1) := by decide +kernel
theorem dX0_centsFor_86 : decode cX0_centsFor 86 = .ok (.lmul, 1) := by decide +kernel
theorem dX0_centsFor_87 : decode cX0_centsFor 87 = .ok (.ladd, 1) := by decide +kernel
theorem dX0_centsFor_88 : decode cX0_centsFor 88 = .ok (.lreturn, 1) := by decide +kernel
theorem dX0_corner_0 : decode cX0_corner 0 = .ok (.iload_n 1, 1) := by decide +kernel
theorem dX0_corner_1 : decode cX0_corner 1 = .ok (.ifCond .ne 8, 3) := by decide +kernel
theorem dX0_corner_4 : decode cX0_corner 4 = .ok (.aload_n 0, 1) := by decide +kernel
theorem dX0_corner_5 : decode cX0_corner 5 = .ok (.getfield 18, 3) := by decide +kernel
theorem dX0_corner_8 : decode cX0_corner 8 = .ok (.ireturn, 1) := by decide +kernel
theorem dX0_corner_9 : decode cX0_corner 9 = .ok (.iload_n 1, 1) := by decide +kernel
theorem dX0_corner_10 : decode cX0_corner 10 = .ok (.ifCond .lt 16, 3) := by decide +kernel
theorem dX0_corner_13 : decode cX0_corner 13 = .ok (.iload_n 1, 1) := by decide +kernel
theorem dX0_corner_14 : decode cX0_corner 14 = .ok (.aload_n 0, 1) := by decide +kernel
theorem dX0_corner_15 : decode cX0_corner 15 = .ok (.getfield 22, 3) := by decide +kernel
theorem dX0_corner_18 : decode cX0_corner 18 = .ok (.if_icmp .gt 8, 3) := by decide +kernel
theorem dX0_corner_21 : decode cX0_corner 21 = .ok (.iload_n 1, 1) := by decide +kernel
theorem dX0_corner_22 : decode cX0_corner 22 = .ok (.iconst 3, 1) := by decide +kernel
theorem dX0_corner_23 : decode cX0_corner 23 = .ok (.if_icmp .le 7, 3) := by decide +kernel
theorem dX0_corner_26 : decode cX0_corner 26 = .ok (.iconst (-1), 1) := by decide +kernel
theorem dX0_corner_27 : decode cX0_corner 27 = .ok (.goto 16, 3) := by decide +kernel
theorem dX0_corner_30 : decode cX0_corner 30 = .ok (.aload_n 0, 1) := by decide +kernel
theorem dX0_corner_31 : decode cX0_corner 31 = .ok (.getfield 18, 3) := by decide +kernel
theorem dX0_corner_34 : decode cX0_corner 34 = .ok (.aload_n 0, 1) := by decide +kernel
theorem dX0_corner_35 : decode cX0_corner 35 = .ok (.getfield 9, 3) := by decide +kernel
theorem dX0_corner_38 : decode cX0_corner 38 = .ok (.iload_n 1, 1) := by decide +kernel
theorem dX0_corner_39 : decode cX0_corner 39 = .ok (.iconst 1, 1) := by decide +kernel
theorem dX0_corner_40 : decode cX0_corner 40 = .ok (.isub, 1) := by decide +kernel
theorem dX0_corner_41 : decode cX0_corner 41 = .ok (.iaload, 1) := by decide +kernel
theorem dX0_corner_42 : decode cX0_corner 42 = .ok (.iadd, 1) := by decide +kernel
theorem dX0_corner_43 : decode cX0_corner 43 = .ok (.ireturn, 1) := by decide +kernel
theorem dX1_init_0 : decode cX1_init 0 = .ok (.aload_n 0, 1) := by decide +kernel
theorem dX1_init_1 : decode cX1_init 1 = .ok (.invokespecial 3, 3) := by decide +kernel
theorem dX1_init_4 : decode cX1_init 4 = .ok (.aload_n 0, 1) := by decide +kernel
theorem dX1_init_5 : decode cX1_init 5 = .ok (.bipush 16, 2) := by decide +kernel
theorem dX1_init_7 : decode cX1_init 7 = .ok (.newarray .long, 2) := by decide +kernel
theorem dX1_init_9 : decode cX1_init 9 = .ok (.putfield 9, 3) := by decide +kernel
theorem dX1_init_12 : decode cX1_init 12 = .ok (.aload_n 0, 1) := by decide +kernel
theorem dX1_init_13 : decode cX1_init 13 = .ok (.bipush 16, 2) := by decide +kernel
theorem dX1_init_15 : decode cX1_init 15 = .ok (.newarray .long, 2) := by decide +kernel
theorem dX1_init_17 : decode cX1_init 17 = .ok (.putfield 15, 3) := by decide +kernel
theorem dX1_init_20 : decode cX1_init 20 = .ok (.aload_n 0, 1) := by decide +kernel
theorem dX1_init_21 : decode cX1_init 21 = .ok (.bipush 16, 2) := by decide +kernel
theorem dX1_init_23 : decode cX1_init 23 = .ok (.newarray .int, 2) := by decide +kernel
theorem dX1_init_25 : decode cX1_init 25 = .ok (.putfield 18, 3) := by decide +kernel
theorem dX1_init_28 : decode cX1_init 28 = .ok (.aload_n 0, 1) := by decide +kernel
theorem dX1_init_29 : decode cX1_init 29 = .ok (.iconst 4, 1) := by decide +kernel
theorem dX1_init_30 : decode cX1_init 30 = .ok (.newarray .int, 2) := by decide +kernel
theorem dX1_init_32 : decode cX1_init 32 = .ok (.putfield 22, 3) := by decide +kernel
theorem dX1_init_35 : decode cX1_init 35 = .ok (.aload_n 0, 1) := by decide +kernel
theorem dX1_init_36 : decode cX1_init 36 = .ok (.invokevirtual 25, 3) := by decide +kernel
theorem dX1_init_39 : decode cX1_init 39 = .ok (.return_, 1) := by decide +kernel
theorem dX1_forget_0 : decode cX1_forget 0 = .ok (.iconst 0, 1) := by decide +kernel
theorem dX1_forget_1 : decode cX1_forget 1 = .ok (.istore_n 1, 1) := by decide +kernel
theorem dX1_forget_2 : decode cX1_forget 2 = .ok (.iload_n 1, 1) := by decide +kernel
theorem dX1_forget_3 : decode cX1_forget 3 = .ok (.iconst 4, 1) := by decide +kernel
theorem dX1_forget_4 : decode cX1_forget 4 = .ok (.if_icmp .ge 16, 3) := by decide +kernel
theorem dX1_forget_7 : decode cX1_forget 7 = .ok (.aload_n 0, 1) := by decide +kernel
theorem dX1_forget_8 : decode cX1_forget 8 = .ok (.getfield 22, 3) := by decide +kernel
theorem dX1_forget_11 : decode cX1_forget 11 = .ok (.iload_n 1, 1) := by decide +kernel
theorem dX1_forget_12 : decode cX1_forget 12 = .ok (.iconst (-1), 1) := by decide +kernel
theorem dX1_forget_13 : decode cX1_forget 13 = .ok (.iastore, 1) := by decide +kernel
theorem dX1_forget_14 : decode cX1_forget 14 = .ok (.iinc 1 1, 3) := by decide +kernel
theorem dX1_forget_17 : decode cX1_forget 17 = .ok (.goto (-15), 3) := by decide +kernel
theorem dX1_forget_20 : decode cX1_forget 20 = .ok (.return_, 1) := by decide +kernel
theorem dX1_tellBest_0 : decode cX1_tellBest 0 = .ok (.iload_n 1, 1) := by decide +kernel
theorem dX1_tellBest_1 : decode cX1_tellBest 1 = .ok (.iconst 1, 1) := by decide +kernel
theorem dX1_tellBest_2 : decode cX1_tellBest 2 = .ok (.bipush 15, 2) := by decide +kernel
theorem dX1_tellBest_4 : decode cX1_tellBest 4 = .ok (.invokestatic 28, 3) := by decide +kernel
theorem dX1_tellBest_7 : decode cX1_tellBest 7 = .ok (.ifCond .eq 10, 3) := by decide +kernel
theorem dX1_tellBest_10 : decode cX1_tellBest 10 = .ok (.aload_n 0, 1) := by decide +kernel
theorem dX1_tellBest_11 : decode cX1_tellBest 11 = .ok (.getfield 9, 3) := by decide +kernel
theorem dX1_tellBest_14 : decode cX1_tellBest 14 = .ok (.iload_n 1, 1) := by decide +kernel
theorem dX1_tellBest_15 : decode cX1_tellBest 15 = .ok (.lload_n 2, 1) := by decide +kernel
theorem dX1_tellBest_16 : decode cX1_tellBest 16 = .ok (.lastore, 1) := by decide +kernel
theorem dX1_tellBest_17 : decode cX1_tellBest 17 = .ok (.return_, 1) := by decide +kernel
theorem dX1_part_0 : decode cX1_part 0 = .ok (.aload_n 0, 1) := by decide +kernel
theorem dX1_part_1 : decode cX1_part 1 = .ok (.getfield 15, 3) := by decide +kernel
theorem dX1_part_4 : decode cX1_part 4 = .ok (.iconst 0, 1) := by decide +kernel
theorem dX1_part_5 : decode cX1_part 5 = .ok (.lconst 0, 1) := by decide +kernel
theorem dX1_part_6 : decode cX1_part 6 = .ok (.lastore, 1) := by decide +kernel
theorem dX1_part_7 : decode cX1_part 7 = .ok (.iconst 1, 1) := by decide +kernel
theorem dX1_part_8 : decode cX1_part 8 = .ok (.istore_n 1, 1) := by decide +kernel
theorem dX1_part_9 : decode cX1_part 9 = .ok (.iload_n 1, 1) := by decide +kernel
theorem dX1_part_10 : decode cX1_part 10 = .ok (.bipush 15, 2) := by decide +kernel
theorem dX1_part_12 : decode cX1_part 12 = .ok (.if_icmp .gt 14, 3) := by decide +kernel
theorem dX1_part_15 : decode cX1_part 15 = .ok (.aload_n 0, 1) := by decide +kernel
theorem dX1_part_16 : decode cX1_part 16 = .ok (.iload_n 1, 1) := by decide +kernel
theorem dX1_part_17 : decode cX1_part 17 = .ok (.invokevirtual 32, 3) := by decide +kernel
theorem dX1_part_20 : decode cX1_part 20 = .ok (.iinc 1 1, 3) := by decide +kernel
theorem dX1_part_23 : decode cX1_part 23 = .ok (.goto (-14), 3) := by decide +kernel
theorem dX1_part_26 : decode cX1_part 26 = .ok (.aload_n 0, 1) := by decide +kernel
theorem dX1_part_27 : decode cX1_part 27 = .ok (.getfield 15, 3) := by decide +kernel
theorem dX1_part_30 : decode cX1_part 30 = .ok (.bipush 15, 2) := by decide +kernel
theorem dX1_part_32 : decode cX1_part 32 = .ok (.laload, 1) := by decide +kernel
theorem dX1_part_33 : decode cX1_part 33 = .ok (.ldc2_w 36, 3) := by decide +kernel
theorem dX1_part_36 : decode cX1_part 36 = .ok (.lcmp, 1) := by decide +kernel
theorem dX1_part_37 : decode cX1_part 37 = .ok (.ifCond .eq 7, 3) := by decide +kernel
theorem dX1_part_40 : decode cX1_part 40 = .ok (.aload_n 0, 1) := by decide +kernel
theorem dX1_part_41 : decode cX1_part 41 = .ok (.invokevirtual 38, 3) := by decide +kernel
theorem dX1_part_44 : decode cX1_part 44 = .ok (.aload_n 0, 1) := by decide +kernel
theorem dX1_part_45 : decode cX1_part 45 = .ok (.getfield 15, 3) := by decide +kernel
theorem dX1_part_48 : decode cX1_part 48 = .ok (.bipush 15, 2) := by decide +kernel
theorem dX1_part_50 : decode cX1_part 50 = .ok (.laload, 1) := by decide +kernel
theorem dX1_part_51 : decode cX1_part 51 = .ok (.lreturn, 1) := by decide +kernel
theorem dX1_fillLeast_0 : decode cX1_fillLeast 0 = .ok (.iload_n 1, 1) := by decide +kernel
theorem dX1_fillLeast_1 : decode cX1_fillLeast 1 = .ok (.iload_n 1, 1) := by decide +kernel
theorem dX1_fillLeast_2 : decode cX1_fillLeast 2 = .ok (.ineg, 1) := by decide +kernel
theorem dX1_fillLeast_3 : decode cX1_fillLeast 3 = .ok (.iand, 1) := by decide +kernel
theorem dX1_fillLeast_4 : decode cX1_fillLeast 4 = .ok (.istore_n 2, 1) := by decide +kernel
theorem dX1_fillLeast_5 : decode cX1_fillLeast 5 = .ok (.ldc2_w 36, 3) := by decide +kernel
theorem dX1_fillLeast_8 : decode cX1_fillLeast 8 = .ok (.lstore_n 3, 1) := by decide +kernel
theorem dX1_fillLeast_9 : decode cX1_fillLeast 9 = .ok (.iconst 1, 1) := by decide +kernel
theorem dX1_fillLeast_10 : decode cX1_fillLeast 10 = .ok (.istore 5, 2) := by decide +kernel
theorem dX1_fillLeast_12 : decode cX1_fillLeast 12 = .ok (.iload 5, 2) := by decide +kernel
theorem dX1_fillLeast_14 : decode cX1_fillLeast 14 = .ok (.iload_n 1, 1) := by decide +kernel
theorem dX1_fillLeast_15 : decode cX1_fillLeast 15 = .ok (.if_icmp .gt 73, 3) := by decide +kernel
theorem dX1_fillLeast_18 : decode cX1_fillLeast 18 = .ok (.iload 5, 2) := by decide +kernel
theorem dX1_fillLeast_20 : decode cX1_fillLeast 20 = .ok (.bipush 15, 2) := by decide +kernel
theorem dX1_fillLeast_22 : decode cX1_fillLeast 22 = .ok (.if_icmp .gt 66, 3) := by decide +kernel
theorem dX1_fillLeast_25 : decode cX1_fillLeast 25 = .ok (.iload 5, 2) := by decide +kernel
theorem dX1_fillLeast_27 : decode cX1_fillLeast 27 = .ok (.iload_n 1, 1) := by decide +kernel
theorem dX1_fillLeast_28 : decode cX1_fillLeast 28 = .ok (.iand, 1) := by decide +kernel
theorem dX1_fillLeast_29 : decode cX1_fillLeast 29 = .ok (.iload 5, 2) := by decide +kernel
theorem dX1_fillLeast_31 : decode cX1_fillLeast 31 = .ok (.if_icmp .ne 51, 3) := by decide +kernel
theorem dX1_fillLeast_34 : decode cX1_fillLeast 34 = .ok (.iload 5, 2) := by decide +kernel
theorem dX1_fillLeast_36 : decode cX1_fillLeast 36 = .ok (.iload_n 2, 1) := by decide +kernel
theorem dX1_fillLeast_37 : decode cX1_fillLeast 37 = .ok (.iand, 1) := by decide +kernel
theorem dX1_fillLeast_38 : decode cX1_fillLeast 38 = .ok (.ifCond .eq 44, 3) := by decide +kernel
theorem dX1_fillLeast_41 : decode cX1_fillLeast 41 = .ok (.aload_n 0, 1) := by decide +kernel
theorem dX1_fillLeast_42 : decode cX1_fillLeast 42 = .ok (.getfield 9, 3) := by decide +kernel
theorem dX1_fillLeast_45 : decode cX1_fillLeast 45 = .ok (.iload 5, 2) := by decide +kernel
theorem dX1_fillLeast_47 : decode cX1_fillLeast 47 = .ok (.laload, 1) := by decide +kernel
theorem dX1_fillLeast_48 : decode cX1_fillLeast 48 = .ok (.aload_n 0, 1) := by decide +kernel
theorem dX1_fillLeast_49 : decode cX1_fillLeast 49 = .ok (.getfield 15, 3) := by decide +kernel
theorem dX1_fillLeast_52 : decode cX1_fillLeast 52 = .ok (.iload_n 1, 1) := by decide +kernel
theorem dX1_fillLeast_53 : decode cX1_fillLeast 53 = .ok (.iload 5, 2) := by decide +kernel
theorem dX1_fillLeast_55 : decode cX1_fillLeast 55 = .ok (.ixor, 1) := by decide +kernel
theorem dX1_fillLeast_56 : decode cX1_fillLeast 56 = .ok (.laload, 1) := by decide +kernel
theorem dX1_fillLeast_57 : decode cX1_fillLeast 57 = .ok (.invokestatic 41, 3) := by decide +kernel
theorem dX1_fillLeast_60 : decode cX1_fillLeast 60 = .ok (.lstore 6, 2) := by decide +kernel
theorem dX1_fillLeast_62 : decode cX1_fillLeast 62 = .ok (.lload 6, 2) := by decide +kernel
theorem dX1_fillLeast_64 : decode cX1_fillLeast 64 = .ok (.lload_n 3, 1) := by decide +kernel
theorem dX1_fillLeast_65 : decode cX1_fillLeast 65 = .ok (.invokestatic 45, 3) := by decide +kernel
theorem dX1_fillLeast_68 : decode cX1_fillLeast 68 = .ok (.ifCond .eq 14, 3) := by decide +kernel
theorem dX1_fillLeast_71 : decode cX1_fillLeast 71 = .ok (.lload 6, 2) := by decide +kernel
theorem dX1_fillLeast_73 : decode cX1_fillLeast 73 = .ok (.lstore_n 3, 1) := by decide +kernel
theorem dX1_fillLeast_74 : decode cX1_fillLeast 74 = .ok (.aload_n 0, 1) := by decide +kernel
theorem dX1_fillLeast_75 : decode cX1_fillLeast 75 = .ok (.getfield 18, 3) := by decide +kernel
theorem dX1_fillLeast_78 : decode cX1_fillLeast 78 = .ok (.iload_n 1, 1) := by decide +kernel
theorem dX1_fillLeast_79 : decode cX1_fillLeast 79 = .ok (.iload 5, 2) := by decide +kernel
theorem dX1_fillLeast_81 : decode cX1_fillLeast 81 = .ok (.iastore, 1) := by decide +kernel
theorem dX1_fillLeast_82 : decode cX1_fillLeast 82 = .ok (.iinc 5 1, 3) := by decide +kernel
theorem dX1_fillLeast_85 : decode cX1_fillLeast 85 = .ok (.goto (-73), 3) := by decide +kernel
theorem dX1_fillLeast_88 : decode cX1_fillLeast 88 = .ok (.aload_n 0, 1) := by decide +kernel
theorem dX1_fillLeast_89 : decode cX1_fillLeast 89 = .ok (.getfield 15, 3) := by decide +kernel
theorem dX1_fillLeast_92 : decode cX1_fillLeast 92 = .ok (.iload_n 1, 1) := by decide +kernel
theorem dX1_fillLeast_93 : decode cX1_fillLeast 93 = .ok (.lload_n 3, 1) := by decide +kernel
theorem dX1_fillLeast_94 : decode cX1_fillLeast 94 = .ok (.lastore, 1) := by decide +kernel
theorem dX1_fillLeast_95 : decode cX1_fillLeast 95 = .ok (.return_, 1) := by decide +kernel
theorem dX1_writeGroups_0 : decode cX1_writeGroups 0 = .ok (.bipush 15, 2) := by decide +kernel
theorem dX1_writeGroups_2 : decode cX1_writeGroups 2 = .ok (.istore_n 1, 1) := by decide +kernel
theorem dX1_writeGroups_3 : decode cX1_writeGroups 3 = .ok (.iconst 0, 1) := by decide +kernel
theorem dX1_writeGroups_4 : decode cX1_writeGroups 4 = .ok (.istore_n 2, 1) := by decide +kernel
theorem dX1_writeGroups_5 : decode cX1_writeGroups 5 = .ok (.iload_n 2, 1) := by decide +kernel
theorem dX1_writeGroups_6 : decode cX1_writeGroups 6 = .ok (.iconst 4, 1) := by decide +kernel
theorem dX1_writeGroups_7 : decode cX1_writeGroups 7 = .ok (.if_icmp .ge 64, 3) := by decide +kernel
theorem dX1_writeGroups_10 : decode cX1_writeGroups 10 = .ok (.iload_n 1, 1) := by decide +kernel
theorem dX1_writeGroups_11 : decode cX1_writeGroups 11 = .ok (.ifCond .le 60, 3) := by decide +kernel
theorem dX1_writeGroups_14 : decode cX1_writeGroups 14 = .ok (.iload_n 1, 1) := by decide +kernel
theorem dX1_writeGroups_15 : decode cX1_writeGroups 15 = .ok (.bipush 15, 2) := by decide +kernel
theorem dX1_writeGroups_17 : decode cX1_writeGroups 17 = .ok (.if_icmp .gt 54, 3) := by decide +kernel
theorem dX1_writeGroups_20 : decode cX1_writeGroups 20 = .ok (.aload_n 0, 1) := by decide +kernel
theorem dX1_writeGroups_21 : decode cX1_writeGroups 21 = .ok (.getfield 18, 3) := by decide +kernel
theorem dX1_writeGroups_24 : decode cX1_writeGroups 24 = .ok (.iload_n 1, 1) := by decide +kernel
theorem dX1_writeGroups_25 : decode cX1_writeGroups 25 = .ok (.iaload, 1) := by decide +kernel
theorem dX1_writeGroups_26 : decode cX1_writeGroups 26 = .ok (.istore_n 3, 1) := by decide +kernel
theorem dX1_writeGroups_27 : decode cX1_writeGroups 27 = .ok (.iconst 0, 1) := by decide +kernel
theorem dX1_writeGroups_28 : decode cX1_writeGroups 28 = .ok (.istore 4, 2) := by decide +kernel
theorem dX1_writeGroups_30 : decode cX1_writeGroups 30 = .ok (.iload 4, 2) := by decide +kernel
theorem dX1_writeGroups_32 : decode cX1_writeGroups 32 = .ok (.iconst 4, 1) := by decide +kernel
theorem dX1_writeGroups_33 : decode cX1_writeGroups 33 = .ok (.if_icmp .ge 26, 3) := by decide +kernel
theorem dX1_writeGroups_36 : decode cX1_writeGroups 36 = .ok (.iload_n 3, 1) := by decide +kernel
theorem dX1_writeGroups_37 : decode cX1_writeGroups 37 = .ok (.iload 4, 2) := by decide +kernel
theorem dX1_writeGroups_39 : decode cX1_writeGroups 39 = .ok (.ishr, 1) := by decide +kernel
theorem dX1_writeGroups_40 : decode cX1_writeGroups 40 = .ok (.iconst 1, 1) := by decide +kernel
theorem dX1_writeGroups_41 : decode cX1_writeGroups 41 = .ok (.iand, 1) := by decide +kernel
theorem dX1_writeGroups_42 : decode cX1_writeGroups 42 = .ok (.ifCond .eq 11, 3) := by decide +kernel
theorem dX1_writeGroups_45 : decode cX1_writeGroups 45 = .ok (.aload_n 0, 1) := by decide +kernel
theorem dX1_writeGroups_46 : decode cX1_writeGroups 46 = .ok (.getfield 22, 3) := by decide +kernel
theorem dX1_writeGroups_49 : decode cX1_writeGroups 49 = .ok (.iload 4, 2) := by decide +kernel
theorem dX1_writeGroups_51 : decode cX1_writeGroups 51 = .ok (.iload_n 3, 1) := by decide +kernel
theorem dX1_writeGroups_52 : decode cX1_writeGroups 52 = .ok (.iastore, 1) := by decide +kernel
theorem dX1_writeGroups_53 : decode cX1_writeGroups 53 = .ok (.iinc 4 1, 3) := by decide +kernel
theorem dX1_writeGroups_56 : decode cX1_writeGroups 56 = .ok (.goto (-26), 3) := by decide +kernel
theorem dX1_writeGroups_59 : decode cX1_writeGroups 59 = .ok (.iload_n 1, 1) := by decide +kernel
theorem dX1_writeGroups_60 : decode cX1_writeGroups 60 = .ok (.iload_n 3, 1) := by decide +kernel
theorem dX1_writeGroups_61 : decode cX1_writeGroups 61 = .ok (.iconst (-1), 1) := by decide +kernel
theorem dX1_writeGroups_62 : decode cX1_writeGroups 62 = .ok (.ixor, 1) := by decide +kernel
theorem dX1_writeGroups_63 : decode cX1_writeGroups 63 = .ok (.iand, 1) := by decide +kernel
theorem dX1_writeGroups_64 : decode cX1_writeGroups 64 = .ok (.istore_n 1, 1) := by decide +kernel
theorem dX1_writeGroups_65 : decode cX1_writeGroups 65 = .ok (.iinc 2 1, 3) := by decide +kernel
theorem dX1_writeGroups_68 : decode cX1_writeGroups 68 = .ok (.goto (-63), 3) := by decide +kernel
theorem dX1_writeGroups_71 : decode cX1_writeGroups 71 = .ok (.return_, 1) := by decide +kernel
theorem dX2_init_0 : decode cX2_init 0 = .ok (.aload_n 0, 1) := by decide +kernel
theorem dX2_init_1 : decode cX2_init 1 = .ok (.invokespecial 3, 3) := by decide +kernel
theorem dX2_init_4 : decode cX2_init 4 = .ok (.aload_n 0, 1) := by decide +kernel
theorem dX2_init_5 : decode cX2_init 5 = .ok (.iconst 4, 1) := by decide +kernel
theorem dX2_init_6 : decode cX2_init 6 = .ok (.anewarray 9, 3) := by decide +kernel
theorem dX2_init_9 : decode cX2_init 9 = .ok (.putfield 11, 3) := by decide +kernel
theorem dX2_init_12 : decode cX2_init 12 = .ok (.iconst 0, 1) := by decide +kernel
theorem dX2_init_13 : decode cX2_init 13 = .ok (.istore_n 1, 1) := by decide +kernel
theorem dX2_init_14 : decode cX2_init 14 = .ok (.iload_n 1, 1) := by decide +kernel
theorem dX2_init_15 : decode cX2_init 15 = .ok (.iconst 4, 1) := by decide +kernel
theorem dX2_init_16 : decode cX2_init 16 = .ok (.if_icmp .ge 22, 3) := by decide +kernel
theorem dX2_init_19 : decode cX2_init 19 = .ok (.aload_n 0, 1) := by decide +kernel
theorem dX2_init_20 : decode cX2_init 20 = .ok (.getfield 11, 3) := by decide +kernel
theorem dX2_init_23 : decode cX2_init 23 = .ok (.iload_n 1, 1) := by decide +kernel
theorem dX2_init_24 : decode cX2_init 24 = .ok (.new 9, 3) := by decide +kernel
theorem dX2_init_27 : decode cX2_init 27 = .ok (.dup, 1) := by decide +kernel
theorem dX2_init_28 : decode cX2_init 28 = .ok (.invokespecial 17, 3) := by decide +kernel
theorem dX2_init_31 : decode cX2_init 31 = .ok (.aastore, 1) := by decide +kernel
theorem dX2_init_32 : decode cX2_init 32 = .ok (.iinc 1 1, 3) := by decide +kernel
theorem dX2_init_35 : decode cX2_init 35 = .ok (.goto (-21), 3) := by decide +kernel
theorem dX2_init_38 : decode cX2_init 38 = .ok (.aload_n 0, 1) := by decide +kernel
theorem dX2_init_39 : decode cX2_init 39 = .ok (.invokevirtual 18, 3) := by decide +kernel
theorem dX2_init_42 : decode cX2_init 42 = .ok (.return_, 1) := by decide +kernel
theorem dX2_clear_0 : decode cX2_clear 0 = .ok (.aload_n 0, 1) := by decide +kernel
theorem dX2_clear_1 : decode cX2_clear 1 = .ok (.lconst 0, 1) := by decide +kernel
theorem dX2_clear_2 : decode cX2_clear 2 = .ok (.putfield 21, 3) := by decide +kernel
theorem dX2_clear_5 : decode cX2_clear 5 = .ok (.aload_n 0, 1) := by decide +kernel
theorem dX2_clear_6 : decode cX2_clear 6 = .ok (.iconst 0, 1) := by decide +kernel
theorem dX2_clear_7 : decode cX2_clear 7 = .ok (.putfield 25, 3) := by decide +kernel
theorem dX2_clear_10 : decode cX2_clear 10 = .ok (.aload_n 0, 1) := by decide +kernel
theorem dX2_clear_11 : decode cX2_clear 11 = .ok (.iconst 0, 1) := by decide +kernel
theorem dX2_clear_12 : decode cX2_clear 12 = .ok (.putfield 29, 3) := by decide +kernel
theorem dX2_clear_15 : decode cX2_clear 15 = .ok (.aload_n 0, 1) := by decide +kernel
theorem dX2_clear_16 : decode cX2_clear 16 = .ok (.iconst 1, 1) := by decide +kernel
theorem dX2_clear_17 : decode cX2_clear 17 = .ok (.putfield 32, 3) := by decide +kernel
theorem dX2_clear_20 : decode cX2_clear 20 = .ok (.aload_n 0, 1) := by decide +kernel
theorem dX2_clear_21 : decode cX2_clear 21 = .ok (.iconst 0, 1) := by decide +kernel
theorem dX2_clear_22 : decode cX2_clear 22 = .ok (.putfield 35, 3) := by decide +kernel
theorem dX2_clear_25 : decode cX2_clear 25 = .ok (.aload_n 0, 1) := by decide +kernel
theorem dX2_clear_26 : decode cX2_clear 26 = .ok (.bipush 23, 2) := by decide +kernel
theorem dX2_clear_28 : decode cX2_clear 28 = .ok (.putfield 38, 3) := by decide +kernel
theorem dX2_clear_31 : decode cX2_clear 31 = .ok (.aload_n 0, 1) := by decide +kernel
theorem dX2_clear_32 : decode cX2_clear 32 = .ok (.iconst 0, 1) := by decide +kernel
theorem dX2_clear_33 : decode cX2_clear 33 = .ok (.putfield 41, 3) := by decide +kernel
theorem dX2_clear_36 : decode cX2_clear 36 = .ok (.return_, 1) := by decide +kernel
theorem dX2_addPart_0 : decode cX2_addPart 0 = .ok (.iload_n 1, 1) := by decide +kernel
theorem dX2_addPart_1 : decode cX2_addPart 1 = .ok (.iconst 0, 1) := by decide +kernel
theorem dX2_addPart_2 : decode cX2_addPart 2 = .ok (.iconst 3, 1) := by decide +kernel
theorem dX2_addPart_3 : decode cX2_addPart 3 = .ok (.invokestatic 44, 3) := by decide +kernel
theorem dX2_addPart_6 : decode cX2_addPart 6 = .ok (.ifCond .ne 5, 3) := by decide +kernel
theorem dX2_addPart_9 : decode cX2_addPart 9 = .ok (.aconst_null, 1) := by decide +kernel
theorem dX2_addPart_10 : decode cX2_addPart 10 = .ok (.areturn, 1) := by decide +kernel
theorem dX2_addPart_11 : decode cX2_addPart 11 = .ok (.aload_n 0, 1) := by decide +kernel
theorem dX2_addPart_12 : decode cX2_addPart 12 = .ok (.getfield 11, 3) := by decide +kernel
theorem dX2_addPart_15 : decode cX2_addPart 15 = .ok (.iload_n 1, 1) := by decide +kernel
theorem dX2_addPart_16 : decode cX2_addPart 16 = .ok (.aaload, 1) := by decide +kernel
theorem dX2_addPart_17 : decode cX2_addPart 17 = .ok (.astore_n 2, 1) := by decide +kernel
theorem dX2_addPart_18 : decode cX2_addPart 18 = .ok (.aload_n 2, 1) := by decide +kernel
theorem dX2_addPart_19 : decode cX2_addPart 19 = .ok (.ifnull 19, 3) := by decide +kernel
theorem dX2_addPart_22 : decode cX2_addPart 22 = .ok (.aload_n 2, 1) := by decide +kernel
theorem dX2_addPart_23 : decode cX2_addPart 23 = .ok (.invokevirtual 48, 3) := by decide +kernel
theorem dX2_addPart_26 : decode cX2_addPart 26 = .ok (.aload_n 0, 1) := by decide +kernel
theorem dX2_addPart_27 : decode cX2_addPart 27 = .ok (.dup, 1) := by decide +kernel
theorem dX2_addPart_28 : decode cX2_addPart 28 = .ok (.getfield 41, 3) := by decide +kernel
theorem dX2_addPart_31 : decode cX2_addPart 31 = .ok (.iconst 1, 1) := by decide +kernel
theorem dX2_addPart_32 : decode cX2_addPart 32 = .ok (.iload_n 1, 1) := by decide +kernel
theorem dX2_addPart_33 : decode cX2_addPart 33 = .ok (.ishl, 1) := by decide +kernel
theorem dX2_addPart_34 : decode cX2_addPart 34 = .ok (.ior, 1) := by decide +kernel
theorem dX2_addPart_35 : decode cX2_addPart 35 = .ok (.putfield 41, 3) := by decide +kernel
theorem dX2_addPart_38 : decode cX2_addPart 38 = .ok (.aload_n 2, 1) := by decide +kernel
theorem dX2_addPart_39 : decode cX2_addPart 39 = .ok (.areturn, 1) := by decide +kernel
theorem dX2_partFor_0 : decode cX2_partFor 0 = .ok (.iload_n 1, 1) := by decide +kernel
theorem dX2_partFor_1 : decode cX2_partFor 1 = .ok (.iconst 0, 1) := by decide +kernel
theorem dX2_partFor_2 : decode cX2_partFor 2 = .ok (.iconst 3, 1) := by decide +kernel
theorem dX2_partFor_3 : decode cX2_partFor 3 = .ok (.invokestatic 44, 3) := by decide +kernel
theorem dX2_partFor_6 : decode cX2_partFor 6 = .ok (.ifCond .eq 14, 3) := by decide +kernel
theorem dX2_partFor_9 : decode cX2_partFor 9 = .ok (.aload_n 0, 1) := by decide +kernel
theorem dX2_partFor_10 : decode cX2_partFor 10 = .ok (.getfield 41, 3) := by decide +kernel
theorem dX2_partFor_13 : decode cX2_partFor 13 = .ok (.iload_n 1, 1) := by decide +kernel
theorem dX2_partFor_14 : decode cX2_partFor 14 = .ok (.ishr, 1) := by decide +kernel
theorem dX2_partFor_15 : decode cX2_partFor 15 = .ok (.iconst 1, 1) := by decide +kernel
theorem dX2_partFor_16 : decode cX2_partFor 16 = .ok (.iand, 1) := by decide +kernel
theorem dX2_partFor_17 : decode cX2_partFor 17 = .ok (.ifCond .ne 5, 3) := by decide +kernel
theorem dX2_partFor_20 : decode cX2_partFor 20 = .ok (.aconst_null, 1) := by decide +kernel
theorem dX2_partFor_21 : decode cX2_partFor 21 = .ok (.areturn, 1) := by decide +kernel
theorem dX2_partFor_22 : decode cX2_partFor 22 = .ok (.aload_n 0, 1) := by decide +kernel
theorem dX2_partFor_23 : decode cX2_partFor 23 = .ok (.getfield 11, 3) := by decide +kernel
theorem dX2_partFor_26 : decode cX2_partFor 26 = .ok (.iload_n 1, 1) := by decide +kernel
theorem dX2_partFor_27 : decode cX2_partFor 27 = .ok (.aaload, 1) := by decide +kernel
theorem dX2_partFor_28 : decode cX2_partFor 28 = .ok (.areturn, 1) := by decide +kernel
theorem dX2_mayBeginIn_0 : decode cX2_mayBeginIn 0 = .ok (.iload_n 1, 1) := by decide +kernel
theorem dX2_mayBeginIn_1 : decode cX2_mayBeginIn 1 = .ok (.aload_n 0, 1) := by decide +kernel
theorem dX2_mayBeginIn_2 : decode cX2_mayBeginIn 2 = .ok (.getfield 35, 3) := by decide +kernel
theorem dX2_mayBeginIn_5 : decode cX2_mayBeginIn 5 = .ok (.aload_n 0, 1) := by decide +kernel
theorem dX2_mayBeginIn_6 : decode cX2_mayBeginIn 6 = .ok (.getfield 38, 3) := by decide +kernel
theorem dX2_mayBeginIn_9 : decode cX2_mayBeginIn 9 = .ok (.invokestatic 44, 3) := by decide +kernel
theorem dX2_mayBeginIn_12 : decode cX2_mayBeginIn 12 = .ok (.ireturn, 1) := by decide +kernel
theorem dX2_partCents_0 : decode cX2_partCents 0 = .ok (.aload_n 0, 1) := by decide +kernel
theorem dX2_partCents_1 : decode cX2_partCents 1 = .ok (.iload_n 2, 1) := by decide +kernel
theorem dX2_partCents_2 : decode cX2_partCents 2 = .ok (.invokevirtual 49, 3) := by decide +kernel
theorem dX2_partCents_5 : decode cX2_partCents 5 = .ok (.astore_n 3, 1) := by decide +kernel
theorem dX2_partCents_6 : decode cX2_partCents 6 = .ok (.aload_n 3, 1) := by decide +kernel
theorem dX2_partCents_7 : decode cX2_partCents 7 = .ok (.ifnull 9, 3) := by decide +kernel
theorem dX2_partCents_10 : decode cX2_partCents 10 = .ok (.iload_n 2, 1) := by decide +kernel
theorem dX2_partCents_11 : decode cX2_partCents 11 = .ok (.aload_n 1, 1) := by decide +kernel
theorem dX2_partCents_12 : decode cX2_partCents 12 = .ok (.arraylength, 1) := by decide +kernel
theorem dX2_partCents_13 : decode cX2_partCents 13 = .ok (.if_icmp .lt 7, 3) := by decide +kernel
theorem dX2_partCents_16 : decode cX2_partCents 16 = .ok (.lconst 0, 1) := by decide +kernel
theorem dX2_partCents_17 : decode cX2_partCents 17 = .ok (.goto 10, 3) := by decide +kernel
theorem dX2_partCents_20 : decode cX2_partCents 20 = .ok (.aload_n 3, 1) := by decide +kernel
theorem dX2_partCents_21 : decode cX2_partCents 21 = .ok (.aload_n 1, 1) := by decide +kernel
theorem dX2_partCents_22 : decode cX2_partCents 22 = .ok (.iload_n 2, 1) := by decide +kernel
theorem dX2_partCents_23 : decode cX2_partCents 23 = .ok (.iaload, 1) := by decide +kernel
theorem dX2_partCents_24 : decode cX2_partCents 24 = .ok (.invokevirtual 53, 3) := by decide +kernel
theorem dX2_partCents_27 : decode cX2_partCents 27 = .ok (.lreturn, 1) := by decide +kernel
theorem dX2_monthCents_0 : decode cX2_monthCents 0 = .ok (.aload_n 0, 1) := by decide +kernel
theorem dX2_monthCents_1 : decode cX2_monthCents 1 = .ok (.getfield 29, 3) := by decide +kernel
theorem dX2_monthCents_4 : decode cX2_monthCents 4 = .ok (.i2l, 1) := by decide +kernel
theorem dX2_monthCents_5 : decode cX2_monthCents 5 = .ok (.lstore_n 2, 1) := by decide +kernel
theorem dX2_monthCents_6 : decode cX2_monthCents 6 = .ok (.iconst 0, 1) := by decide +kernel
theorem dX2_monthCents_7 : decode cX2_monthCents 7 = .ok (.istore 4, 2) := by decide +kernel
theorem dX2_monthCents_9 : decode cX2_monthCents 9 = .ok (.iload 4, 2) := by decide +kernel
theorem dX2_monthCents_11 : decode cX2_monthCents 11 = .ok (.iconst 4, 1) := by decide +kernel
theorem dX2_monthCents_12 : decode cX2_monthCents 12 = .ok (.if_icmp .ge 46, 3) := by decide +kernel
theorem dX2_monthCents_15 : decode cX2_monthCents 15 = .ok (.iload 4, 2) := by decide +kernel
theorem dX2_monthCents_17 : decode cX2_monthCents 17 = .ok (.aload_n 1, 1) := by decide +kernel
theorem dX2_monthCents_18 : decode cX2_monthCents 18 = .ok (.arraylength, 1) := by decide +kernel
theorem dX2_monthCents_19 : decode cX2_monthCents 19 = .ok (.if_icmp .ge 39, 3) := by decide +kernel
theorem dX2_monthCents_22 : decode cX2_monthCents 22 = .ok (.aload_n 1, 1) := by decide +kernel
theorem dX2_monthCents_23 : decode cX2_monthCents 23 = .ok (.iload 4, 2) := by decide +kernel
theorem dX2_monthCents_25 : decode cX2_monthCents 25 = .ok (.iaload, 1) := by decide +kernel
theorem dX2_monthCents_26 : decode cX2_monthCents 26 = .ok (.ifCond .le 16, 3) := by decide +kernel
theorem dX2_monthCents_29 : decode cX2_monthCents 29 = .ok (.aload_n 0, 1) := by decide +kernel
theorem dX2_monthCents_30 : decode cX2_monthCents 30 = .ok (.iload 4, 2) := by decide +kernel
theorem dX2_monthCents_32 : decode cX2_monthCents 32 = .ok (.invokevirtual 49, 3) := by decide +kernel
theorem dX2_monthCents_35 : decode cX2_monthCents 35 = .ok (.ifnonnull 7, 3) := by decide +kernel
theorem dX2_monthCents_38 : decode cX2_monthCents 38 = .ok (.ldc2_w 57, 3) := by decide +kernel
theorem dX2_monthCents_41 : decode cX2_monthCents 41 = .ok (.lreturn, 1) := by decide +kernel
theorem dX2_monthCents_42 : decode cX2_monthCents 42 = .ok (.lload_n 2, 1) := by decide +kernel
theorem dX2_monthCents_43 : decode cX2_monthCents 43 = .ok (.aload_n 0, 1) := by decide +kernel
theorem dX2_monthCents_44 : decode cX2_monthCents 44 = .ok (.aload_n 1, 1) := by decide +kernel
theorem dX2_monthCents_45 : decode cX2_monthCents 45 = .ok (.iload 4, 2) := by decide +kernel
theorem dX2_monthCents_47 : decode cX2_monthCents 47 = .ok (.invokevirtual 59, 3) := by decide +kernel
theorem dX2_monthCents_50 : decode cX2_monthCents 50 = .ok (.ladd, 1) := by decide +kernel
theorem dX2_monthCents_51 : decode cX2_monthCents 51 = .ok (.lstore_n 2, 1) := by decide +kernel
theorem dX2_monthCents_52 : decode cX2_monthCents 52 = .ok (.iinc 4 1, 3) := by decide +kernel
theorem dX2_monthCents_55 : decode cX2_monthCents 55 = .ok (.goto (-46), 3) := by decide +kernel
theorem dX2_monthCents_58 : decode cX2_monthCents 58 = .ok (.lload_n 2, 1) := by decide +kernel
theorem dX2_monthCents_59 : decode cX2_monthCents 59 = .ok (.lreturn, 1) := by decide +kernel
theorem dX3_init_0 : decode cX3_init 0 = .ok (.aload_n 0, 1) := by decide +kernel
theorem dX3_init_1 : decode cX3_init 1 = .ok (.invokespecial 3, 3) := by decide +kernel
theorem dX3_init_4 : decode cX3_init 4 = .ok (.aload_n 0, 1) := by decide +kernel
theorem dX3_init_5 : decode cX3_init 5 = .ok (.bipush 10, 2) := by decide +kernel
theorem dX3_init_7 : decode cX3_init 7 = .ok (.anewarray 9, 3) := by decide +kernel
theorem dX3_init_10 : decode cX3_init 10 = .ok (.putfield 11, 3) := by decide +kernel
theorem dX3_init_13 : decode cX3_init 13 = .ok (.iconst 0, 1) := by decide +kernel
theorem dX3_init_14 : decode cX3_init 14 = .ok (.istore_n 1, 1) := by decide +kernel
theorem dX3_init_15 : decode cX3_init 15 = .ok (.iload_n 1, 1) := by decide +kernel
theorem dX3_init_16 : decode cX3_init 16 = .ok (.bipush 10, 2) := by decide +kernel
theorem dX3_init_18 : decode cX3_init 18 = .ok (.if_icmp .ge 22, 3) := by decide +kernel
theorem dX3_init_21 : decode cX3_init 21 = .ok (.aload_n 0, 1) := by decide +kernel
theorem dX3_init_22 : decode cX3_init 22 = .ok (.getfield 11, 3) := by decide +kernel
theorem dX3_init_25 : decode cX3_init 25 = .ok (.iload_n 1, 1) := by decide +kernel
theorem dX3_init_26 : decode cX3_init 26 = .ok (.new 9, 3) := by decide +kernel
theorem dX3_init_29 : decode cX3_init 29 = .ok (.dup, 1) := by decide +kernel
theorem dX3_init_30 : decode cX3_init 30 = .ok (.invokespecial 17, 3) := by decide +kernel
theorem dX3_init_33 : decode cX3_init 33 = .ok (.aastore, 1) := by decide +kernel
theorem dX3_init_34 : decode cX3_init 34 = .ok (.iinc 1 1, 3) := by decide +kernel
theorem dX3_init_37 : decode cX3_init 37 = .ok (.goto (-22), 3) := by decide +kernel
theorem dX3_init_40 : decode cX3_init 40 = .ok (.return_, 1) := by decide +kernel
theorem dX3_at_0 : decode cX3_at 0 = .ok (.iload_n 1, 1) := by decide +kernel
theorem dX3_at_1 : decode cX3_at 1 = .ok (.ifCond .lt 17, 3) := by decide +kernel
theorem dX3_at_4 : decode cX3_at 4 = .ok (.iload_n 1, 1) := by decide +kernel
theorem dX3_at_5 : decode cX3_at 5 = .ok (.aload_n 0, 1) := by decide +kernel
theorem dX3_at_6 : decode cX3_at 6 = .ok (.getfield 18, 3) := by decide +kernel
theorem dX3_at_9 : decode cX3_at 9 = .ok (.if_icmp .ge 9, 3) := by decide +kernel
theorem dX3_at_12 : decode cX3_at 12 = .ok (.iload_n 1, 1) := by decide +kernel
theorem dX3_at_13 : decode cX3_at 13 = .ok (.bipush 10, 2) := by decide +kernel
theorem dX3_at_15 : decode cX3_at 15 = .ok (.if_icmp .lt 7, 3) := by decide +kernel
theorem dX3_at_18 : decode cX3_at 18 = .ok (.aconst_null, 1) := by decide +kernel
theorem dX3_at_19 : decode cX3_at 19 = .ok (.goto 9, 3) := by decide +kernel
theorem dX3_at_22 : decode cX3_at 22 = .ok (.aload_n 0, 1) := by decide +kernel
theorem dX3_at_23 : decode cX3_at 23 = .ok (.getfield 11, 3) := by decide +kernel
theorem dX3_at_26 : decode cX3_at 26 = .ok (.iload_n 1, 1) := by decide +kernel
theorem dX3_at_27 : decode cX3_at 27 = .ok (.aaload, 1) := by decide +kernel
theorem dX3_at_28 : decode cX3_at 28 = .ok (.areturn, 1) := by decide +kernel
theorem dX3_hasName_0 : decode cX3_hasName 0 = .ok (.iconst 0, 1) := by decide +kernel
theorem dX3_hasName_1 : decode cX3_hasName 1 = .ok (.istore_n 3, 1) := by decide +kernel
theorem dX3_hasName_2 : decode cX3_hasName 2 = .ok (.iload_n 3, 1) := by decide +kernel
theorem dX3_hasName_3 : decode cX3_hasName 3 = .ok (.aload_n 0, 1) := by decide +kernel
theorem dX3_hasName_4 : decode cX3_hasName 4 = .ok (.getfield 18, 3) := by decide +kernel
theorem dX3_hasName_7 : decode cX3_hasName 7 = .ok (.if_icmp .ge 33, 3) := by decide +kernel
theorem dX3_hasName_10 : decode cX3_hasName 10 = .ok (.aload_n 0, 1) := by decide +kernel
theorem dX3_hasName_11 : decode cX3_hasName 11 = .ok (.iload_n 3, 1) := by decide +kernel
theorem dX3_hasName_12 : decode cX3_hasName 12 = .ok (.invokevirtual 22, 3) := by decide +kernel
theorem dX3_hasName_15 : decode cX3_hasName 15 = .ok (.astore 4, 2) := by decide +kernel
theorem dX3_hasName_17 : decode cX3_hasName 17 = .ok (.aload 4, 2) := by decide +kernel
theorem dX3_hasName_19 : decode cX3_hasName 19 = .ok (.ifnull 15, 3) := by decide +kernel
theorem dX3_hasName_22 : decode cX3_hasName 22 = .ok (.aload 4, 2) := by decide +kernel
theorem dX3_hasName_24 : decode cX3_hasName 24 = .ok (.getfield 26, 3) := by decide +kernel
theorem dX3_hasName_27 : decode cX3_hasName 27 = .ok (.lload_n 1, 1) := by decide +kernel
theorem dX3_hasName_28 : decode cX3_hasName 28 = .ok (.lcmp, 1) := by decide +kernel
theorem dX3_hasName_29 : decode cX3_hasName 29 = .ok (.ifCond .ne 5, 3) := by decide +kernel
theorem dX3_hasName_32 : decode cX3_hasName 32 = .ok (.iconst 1, 1) := by decide +kernel
theorem dX3_hasName_33 : decode cX3_hasName 33 = .ok (.ireturn, 1) := by decide +kernel
theorem dX3_hasName_34 : decode cX3_hasName 34 = .ok (.iinc 3 1, 3) := by decide +kernel
theorem dX3_hasName_37 : decode cX3_hasName 37 = .ok (.goto (-35), 3) := by decide +kernel
theorem dX3_hasName_40 : decode cX3_hasName 40 = .ok (.iconst 0, 1) := by decide +kernel
theorem dX3_hasName_41 : decode cX3_hasName 41 = .ok (.ireturn, 1) := by decide +kernel
theorem dX3_nextPlan_0 : decode cX3_nextPlan 0 = .ok (.aload_n 0, 1) := by decide +kernel
theorem dX3_nextPlan_1 : decode cX3_nextPlan 1 = .ok (.getfield 18, 3) := by decide +kernel
theorem dX3_nextPlan_4 : decode cX3_nextPlan 4 = .ok (.ifCond .lt 12, 3) := by decide +kernel
theorem dX3_nextPlan_7 : decode cX3_nextPlan 7 = .ok (.aload_n 0, 1) := by decide +kernel
theorem dX3_nextPlan_8 : decode cX3_nextPlan 8 = .ok (.getfield 18, 3) := by decide +kernel
theorem dX3_nextPlan_11 : decode cX3_nextPlan 11 = .ok (.bipush 10, 2) := by decide +kernel
theorem dX3_nextPlan_13 : decode cX3_nextPlan 13 = .ok (.if_icmp .lt 5, 3) := by decide +kernel
theorem dX3_nextPlan_16 : decode cX3_nextPlan 16 = .ok (.aconst_null, 1) := by decide +kernel
theorem dX3_nextPlan_17 : decode cX3_nextPlan 17 = .ok (.areturn, 1) := by decide +kernel
theorem dX3_nextPlan_18 : decode cX3_nextPlan 18 = .ok (.aload_n 0, 1) := by decide +kernel
theorem dX3_nextPlan_19 : decode cX3_nextPlan 19 = .ok (.getfield 11, 3) := by decide +kernel
theorem dX3_nextPlan_22 : decode cX3_nextPlan 22 = .ok (.aload_n 0, 1) := by decide +kernel
theorem dX3_nextPlan_23 : decode cX3_nextPlan 23 = .ok (.getfield 18, 3) := by decide +kernel
theorem dX3_nextPlan_26 : decode cX3_nextPlan 26 = .ok (.aaload, 1) := by decide +kernel
theorem dX3_nextPlan_27 : decode cX3_nextPlan 27 = .ok (.astore_n 1, 1) := by decide +kernel
theorem dX3_nextPlan_28 : decode cX3_nextPlan 28 = .ok (.aload_n 1, 1) := by decide +kernel
theorem dX3_nextPlan_29 : decode cX3_nextPlan 29 = .ok (.ifnull 7, 3) := by decide +kernel
theorem dX3_nextPlan_32 : decode cX3_nextPlan 32 = .ok (.aload_n 1, 1) := by decide +kernel
theorem dX3_nextPlan_33 : decode cX3_nextPlan 33 = .ok (.invokevirtual 30, 3) := by decide +kernel
theorem dX3_nextPlan_36 : decode cX3_nextPlan 36 = .ok (.aload_n 1, 1) := by decide +kernel
theorem dX3_nextPlan_37 : decode cX3_nextPlan 37 = .ok (.areturn, 1) := by decide +kernel
theorem dX4_init_0 : decode cX4_init 0 = .ok (.aload_n 0, 1) := by decide +kernel
theorem dX4_init_1 : decode cX4_init 1 = .ok (.invokespecial 3, 3) := by decide +kernel
theorem dX4_init_4 : decode cX4_init 4 = .ok (.aload_n 0, 1) := by decide +kernel
theorem dX4_init_5 : decode cX4_init 5 = .ok (.aload_n 1, 1) := by decide +kernel
theorem dX4_init_6 : decode cX4_init 6 = .ok (.putfield 9, 3) := by decide +kernel
theorem dX4_init_9 : decode cX4_init 9 = .ok (.aload_n 0, 1) := by decide +kernel
theorem dX4_init_10 : decode cX4_init 10 = .ok (.new 15, 3) := by decide +kernel
theorem dX4_init_13 : decode cX4_init 13 = .ok (.dup, 1) := by decide +kernel
theorem dX4_init_14 : decode cX4_init 14 = .ok (.invokespecial 17, 3) := by decide +kernel
theorem dX4_init_17 : decode cX4_init 17 = .ok (.putfield 18, 3) := by decide +kernel
theorem dX4_init_20 : decode cX4_init 20 = .ok (.return_, 1) := by decide +kernel
theorem dX4_exchange_0 : decode cX4_exchange 0 = .ok (.aload_n 0, 1) := by decide +kernel
theorem dX4_exchange_1 : decode cX4_exchange 1 = .ok (.getfield 18, 3) := by decide +kernel
theorem dX4_exchange_4 : decode cX4_exchange 4 = .ok (.astore_n 2, 1) := by decide +kernel
theorem dX4_exchange_5 : decode cX4_exchange 5 = .ok (.aload_n 0, 1) := by decide +kernel
theorem dX4_exchange_6 : decode cX4_exchange 6 = .ok (.aload_n 1, 1) := by decide +kernel
theorem dX4_exchange_7 : decode cX4_exchange 7 = .ok (.putfield 18, 3) := by decide +kernel
theorem dX4_exchange_10 : decode cX4_exchange 10 = .ok (.aload_n 2, 1) := by decide +kernel
theorem dX4_exchange_11 : decode cX4_exchange 11 = .ok (.areturn, 1) := by decide +kernel
theorem dX4_readText_0 : decode cX4_readText 0 = .ok (.aload_n 0, 1) := by decide +kernel
theorem dX4_readText_1 : decode cX4_readText 1 = .ok (.getfield 18, 3) := by decide +kernel
theorem dX4_readText_4 : decode cX4_readText 4 = .ok (.iconst 0, 1) := by decide +kernel
theorem dX4_readText_5 : decode cX4_readText 5 = .ok (.putfield 22, 3) := by decide +kernel
theorem dX4_readText_8 : decode cX4_readText 8 = .ok (.aload_n 0, 1) := by decide +kernel
theorem dX4_readText_9 : decode cX4_readText 9 = .ok (.iconst 0, 1) := by decide +kernel
theorem dX4_readText_10 : decode cX4_readText 10 = .ok (.putfield 26, 3) := by decide +kernel
theorem dX4_readText_13 : decode cX4_readText 13 = .ok (.aload_n 0, 1) := by decide +kernel
theorem dX4_readText_14 : decode cX4_readText 14 = .ok (.iconst 0, 1) := by decide +kernel
theorem dX4_readText_15 : decode cX4_readText 15 = .ok (.putfield 29, 3) := by decide +kernel
theorem dX4_readText_18 : decode cX4_readText 18 = .ok (.aload_n 0, 1) := by decide +kernel
theorem dX4_readText_19 : decode cX4_readText 19 = .ok (.iconst 0, 1) := by decide +kernel
theorem dX4_readText_20 : decode cX4_readText 20 = .ok (.putfield 32, 3) := by decide +kernel
theorem dX4_readText_23 : decode cX4_readText 23 = .ok (.iconst (-1), 1) := by decide +kernel
theorem dX4_readText_24 : decode cX4_readText 24 = .ok (.istore_n 1, 1) := by decide +kernel
theorem dX4_readText_25 : decode cX4_readText 25 = .ok (.iconst 0, 1) := by decide +kernel
theorem dX4_readText_26 : decode cX4_readText 26 = .ok (.istore_n 2, 1) := by decide +kernel
theorem dX4_readText_27 : decode cX4_readText 27 = .ok (.iload_n 2, 1) := by decide +kernel
theorem dX4_readText_28 : decode cX4_readText 28 = .ok (.sipush 800, 3) := by decide +kernel
theorem dX4_readText_31 : decode cX4_readText 31 = .ok (.if_icmp .gt 52, 3) := by decide +kernel
theorem dX4_readText_34 : decode cX4_readText 34 = .ok (.aload_n 0, 1) := by decide +kernel
theorem dX4_readText_35 : decode cX4_readText 35 = .ok (.invokevirtual 35, 3) := by decide +kernel
theorem dX4_readText_38 : decode cX4_readText 38 = .ok (.aload_n 0, 1) := by decide +kernel
theorem dX4_readText_39 : decode cX4_readText 39 = .ok (.iload_n 1, 1) := by decide +kernel
theorem dX4_readText_40 : decode cX4_readText 40 = .ok (.invokevirtual 38, 3) := by decide +kernel
theorem dX4_readText_43 : decode cX4_readText 43 = .ok (.ifCond .ne 9, 3) := by decide +kernel
theorem dX4_readText_46 : decode cX4_readText 46 = .ok (.aload_n 0, 1) := by decide +kernel
theorem dX4_readText_47 : decode cX4_readText 47 = .ok (.iconst 1, 1) := by decide +kernel
theorem dX4_readText_48 : decode cX4_readText 48 = .ok (.invokevirtual 42, 3) := by decide +kernel
theorem dX4_readText_51 : decode cX4_readText 51 = .ok (.ireturn, 1) := by decide +kernel
theorem dX4_readText_52 : decode cX4_readText 52 = .ok (.aload_n 0, 1) := by decide +kernel
theorem dX4_readText_53 : decode cX4_readText 53 = .ok (.getfield 45, 3) := by decide +kernel
theorem dX4_readText_56 : decode cX4_readText 56 = .ok (.bipush 11, 2) := by decide +kernel
theorem dX4_readText_58 : decode cX4_readText 58 = .ok (.if_icmp .ne 5, 3) := by decide +kernel
theorem dX4_readText_61 : decode cX4_readText 61 = .ok (.iconst 1, 1) := by decide +kernel
theorem dX4_readText_62 : decode cX4_readText 62 = .ok (.ireturn, 1) := by decide +kernel
theorem dX4_readText_63 : decode cX4_readText 63 = .ok (.aload_n 0, 1) := by decide +kernel
theorem dX4_readText_64 : decode cX4_readText 64 = .ok (.getfield 45, 3) := by decide +kernel
theorem dX4_readText_67 : decode cX4_readText 67 = .ok (.istore_n 1, 1) := by decide +kernel
theorem dX4_readText_68 : decode cX4_readText 68 = .ok (.aload_n 0, 1) := by decide +kernel
theorem dX4_readText_69 : decode cX4_readText 69 = .ok (.invokevirtual 48, 3) := by decide +kernel
theorem dX4_readText_72 : decode cX4_readText 72 = .ok (.ifCond .ne 5, 3) := by decide +kernel
theorem dX4_readText_75 : decode cX4_readText 75 = .ok (.iconst 0, 1) := by decide +kernel
theorem dX4_readText_76 : decode cX4_readText 76 = .ok (.ireturn, 1) := by decide +kernel
theorem dX4_readText_77 : decode cX4_readText 77 = .ok (.iinc 2 1, 3) := by decide +kernel
theorem dX4_readText_80 : decode cX4_readText 80 = .ok (.goto (-53), 3) := by decide +kernel
theorem dX4_readText_83 : decode cX4_readText 83 = .ok (.aload_n 0, 1) := by decide +kernel
theorem dX4_readText_84 : decode cX4_readText 84 = .ok (.iconst 1, 1) := by decide +kernel
theorem dX4_readText_85 : decode cX4_readText 85 = .ok (.invokevirtual 42, 3) := by decide +kernel
theorem dX4_readText_88 : decode cX4_readText 88 = .ok (.ireturn, 1) := by decide +kernel
theorem dX4_mayFollow_0 : decode cX4_mayFollow 0 = .ok (.iload_n 1, 1) := by decide +kernel
theorem dX4_mayFollow_1 : decode cX4_mayFollow 1 = .ok (.tableswitch 274 0 10 #[59, 73, 112, 143, 157, 180, 213, 237, 213, 157, 252], 59) := by decide +kernel
theorem dX4_mayFollow_60 : decode cX4_mayFollow 60 = .ok (.aload_n 0, 1) := by decide +kernel
theorem dX4_mayFollow_61 : decode cX4_mayFollow 61 = .ok (.getfield 45, 3) := by decide +kernel
theorem dX4_mayFollow_64 : decode cX4_mayFollow 64 = .ok (.iconst 1, 1) := by decide +kernel
theorem dX4_mayFollow_65 : decode cX4_mayFollow 65 = .ok (.if_icmp .ne 7, 3) := by decide +kernel
theorem dX4_mayFollow_68 : decode cX4_mayFollow 68 = .ok (.iconst 1, 1) := by decide +kernel
theorem dX4_mayFollow_69 : decode cX4_mayFollow 69 = .ok (.goto 4, 3) := by decide +kernel
theorem dX4_mayFollow_72 : decode cX4_mayFollow 72 = .ok (.iconst 0, 1) := by decide +kernel
theorem dX4_mayFollow_73 : decode cX4_mayFollow 73 = .ok (.ireturn, 1) := by decide +kernel
theorem dX4_mayFollow_74 : decode cX4_mayFollow 74 = .ok (.aload_n 0, 1) := by decide +kernel
theorem dX4_mayFollow_75 : decode cX4_mayFollow 75 = .ok (.getfield 45, 3) := by decide +kernel
theorem dX4_mayFollow_78 : decode cX4_mayFollow 78 = .ok (.iconst 2, 1) := by decide +kernel
theorem dX4_mayFollow_79 : decode cX4_mayFollow 79 = .ok (.if_icmp .eq 28, 3) := by decide +kernel
theorem dX4_mayFollow_82 : decode cX4_mayFollow 82 = .ok (.aload_n 0, 1) := by decide +kernel
theorem dX4_mayFollow_83 : decode cX4_mayFollow 83 = .ok (.getfield 45, 3) := by decide +kernel
theorem dX4_mayFollow_86 : decode cX4_mayFollow 86 = .ok (.iconst 3, 1) := by decide +kernel
theorem dX4_mayFollow_87 : decode cX4_mayFollow 87 = .ok (.if_icmp .eq 20, 3) := by decide +kernel
theorem dX4_mayFollow_90 : decode cX4_mayFollow 90 = .ok (.aload_n 0, 1) := by decide +kernel
theorem dX4_mayFollow_91 : decode cX4_mayFollow 91 = .ok (.getfield 45, 3) := by decide +kernel
theorem dX4_mayFollow_94 : decode cX4_mayFollow 94 = .ok (.iconst 5, 1) := by decide +kernel
theorem dX4_mayFollow_95 : decode cX4_mayFollow 95 = .ok (.if_icmp .eq 12, 3) := by decide +kernel
theorem dX4_mayFollow_98 : decode cX4_mayFollow 98 = .ok (.aload_n 0, 1) := by decide +kernel
theorem dX4_mayFollow_99 : decode cX4_mayFollow 99 = .ok (.getfield 45, 3) := by decide +kernel
theorem dX4_mayFollow_102 : decode cX4_mayFollow 102 = .ok (.bipush 10, 2) := by decide +kernel
theorem dX4_mayFollow_104 : decode cX4_mayFollow 104 = .ok (.if_icmp .ne 7, 3) := by decide +kernel
theorem dX4_mayFollow_107 : decode cX4_mayFollow 107 = .ok (.iconst 1, 1) := by decide +kernel
theorem dX4_mayFollow_108 : decode cX4_mayFollow 108 = .ok (.goto 4, 3) := by decide +kernel
theorem dX4_mayFollow_111 : decode cX4_mayFollow 111 = .ok (.iconst 0, 1) := by decide +kernel
theorem dX4_mayFollow_112 : decode cX4_mayFollow 112 = .ok (.ireturn, 1) := by decide +kernel
theorem dX4_mayFollow_113 : decode cX4_mayFollow 113 = .ok (.aload_n 0, 1) := by decide +kernel
theorem dX4_mayFollow_114 : decode cX4_mayFollow 114 = .ok (.getfield 45, 3) := by decide +kernel
theorem dX4_mayFollow_117 : decode cX4_mayFollow 117 = .ok (.iconst 3, 1) := by decide +kernel
theorem dX4_mayFollow_118 : decode cX4_mayFollow 118 = .ok (.if_icmp .eq 20, 3) := by decide +kernel
theorem dX4_mayFollow_121 : decode cX4_mayFollow 121 = .ok (.aload_n 0, 1) := by decide +kernel
theorem dX4_mayFollow_122 : decode cX4_mayFollow 122 = .ok (.getfield 45, 3) := by decide +kernel
theorem dX4_mayFollow_125 : decode cX4_mayFollow 125 = .ok (.iconst 5, 1) := by decide +kernel
theorem dX4_mayFollow_126 : decode cX4_mayFollow 126 = .ok (.if_icmp .eq 12, 3) := by decide +kernel
theorem dX4_mayFollow_129 : decode cX4_mayFollow 129 = .ok (.aload_n 0, 1) := by decide +kernel
theorem dX4_mayFollow_130 : decode cX4_mayFollow 130 = .ok (.getfield 45, 3) := by decide +kernel
theorem dX4_mayFollow_133 : decode cX4_mayFollow 133 = .ok (.bipush 10, 2) := by decide +kernel
theorem dX4_mayFollow_135 : decode cX4_mayFollow 135 = .ok (.if_icmp .ne 7, 3) := by decide +kernel
theorem dX4_mayFollow_138 : decode cX4_mayFollow 138 = .ok (.iconst 1, 1) := by decide +kernel
theorem dX4_mayFollow_139 : decode cX4_mayFollow 139 = .ok (.goto 4, 3) := by decide +kernel
theorem dX4_mayFollow_142 : decode cX4_mayFollow 142 = .ok (.iconst 0, 1) := by decide +kernel
theorem dX4_mayFollow_143 : decode cX4_mayFollow 143 = .ok (.ireturn, 1) := by decide +kernel
theorem dX4_mayFollow_144 : decode cX4_mayFollow 144 = .ok (.aload_n 0, 1) := by decide +kernel
theorem dX4_mayFollow_145 : decode cX4_mayFollow 145 = .ok (.getfield 45, 3) := by decide +kernel
theorem dX4_mayFollow_148 : decode cX4_mayFollow 148 = .ok (.iconst 4, 1) := by decide +kernel
theorem dX4_mayFollow_149 : decode cX4_mayFollow 149 = .ok (.if_icmp .ne 7, 3) := by decide +kernel
theorem dX4_mayFollow_152 : decode cX4_mayFollow 152 = .ok (.iconst 1, 1) := by decide +kernel
theorem dX4_mayFollow_153 : decode cX4_mayFollow 153 = .ok (.goto 4, 3) := by decide +kernel
theorem dX4_mayFollow_156 : decode cX4_mayFollow 156 = .ok (.iconst 0, 1) := by decide +kernel
theorem dX4_mayFollow_157 : decode cX4_mayFollow 157 = .ok (.ireturn, 1) := by decide +kernel
theorem dX4_mayFollow_158 : decode cX4_mayFollow 158 = .ok (.aload_n 0, 1) := by decide +kernel
theorem dX4_mayFollow_159 : decode cX4_mayFollow 159 = .ok (.getfield 45, 3) := by decide +kernel
theorem dX4_mayFollow_162 : decode cX4_mayFollow 162 = .ok (.iconst 5, 1) := by decide +kernel
theorem dX4_mayFollow_163 : decode cX4_mayFollow 163 = .ok (.if_icmp .eq 12, 3) := by decide +kernel
theorem dX4_mayFollow_166 : decode cX4_mayFollow 166 = .ok (.aload_n 0, 1) := by decide +kernel
theorem dX4_mayFollow_167 : decode cX4_mayFollow 167 = .ok (.getfield 45, 3) := by decide +kernel
theorem dX4_mayFollow_170 : decode cX4_mayFollow 170 = .ok (.bipush 10, 2) := by decide +kernel
theorem dX4_mayFollow_172 : decode cX4_mayFollow 172 = .ok (.if_icmp .ne 7, 3) := by decide +kernel
theorem dX4_mayFollow_175 : decode cX4_mayFollow 175 = .ok (.iconst 1, 1) := by decide +kernel
theorem dX4_mayFollow_176 : decode cX4_mayFollow 176 = .ok (.goto 4, 3) := by decide +kernel
theorem dX4_mayFollow_179 : decode cX4_mayFollow 179 = .ok (.iconst 0, 1) := by decide +kernel
theorem dX4_mayFollow_180 : decode cX4_mayFollow 180 = .ok (.ireturn, 1) := by decide +kernel
theorem dX4_mayFollow_181 : decode cX4_mayFollow 181 = .ok (.aload_n 0, 1) := by decide +kernel
theorem dX4_mayFollow_182 : decode cX4_mayFollow 182 = .ok (.getfield 45, 3) := by decide +kernel
theorem dX4_mayFollow_185 : decode cX4_mayFollow 185 = .ok (.bipush 6, 2) := by decide +kernel
theorem dX4_mayFollow_187 : decode cX4_mayFollow 187 = .ok (.if_icmp .eq 21, 3) := by decide +kernel
theorem dX4_mayFollow_190 : decode cX4_mayFollow 190 = .ok (.aload_n 0, 1) := by decide +kernel
theorem dX4_mayFollow_191 : decode cX4_mayFollow 191 = .ok (.getfield 45, 3) := by decide +kernel
theorem dX4_mayFollow_194 : decode cX4_mayFollow 194 = .ok (.bipush 7, 2) := by decide +kernel
theorem dX4_mayFollow_196 : decode cX4_mayFollow 196 = .ok (.if_icmp .eq 12, 3) := by decide +kernel
theorem dX4_mayFollow_199 : decode cX4_mayFollow 199 = .ok (.aload_n 0, 1) := by decide +kernel
theorem dX4_mayFollow_200 : decode cX4_mayFollow 200 = .ok (.getfield 45, 3) := by decide +kernel
theorem dX4_mayFollow_203 : decode cX4_mayFollow 203 = .ok (.bipush 9, 2) := by decide +kernel
theorem dX4_mayFollow_205 : decode cX4_mayFollow 205 = .ok (.if_icmp .ne 7, 3) := by decide +kernel
theorem dX4_mayFollow_208 : decode cX4_mayFollow 208 = .ok (.iconst 1, 1) := by decide +kernel
theorem dX4_mayFollow_209 : decode cX4_mayFollow 209 = .ok (.goto 4, 3) := by decide +kernel
theorem dX4_mayFollow_212 : decode cX4_mayFollow 212 = .ok (.iconst 0, 1) := by decide +kernel
theorem dX4_mayFollow_213 : decode cX4_mayFollow 213 = .ok (.ireturn, 1) := by decide +kernel
theorem dX4_mayFollow_214 : decode cX4_mayFollow 214 = .ok (.aload_n 0, 1) := by decide +kernel
theorem dX4_mayFollow_215 : decode cX4_mayFollow 215 = .ok (.getfield 45, 3) := by decide +kernel
theorem dX4_mayFollow_218 : decode cX4_mayFollow 218 = .ok (.bipush 7, 2) := by decide +kernel
theorem dX4_mayFollow_220 : decode cX4_mayFollow 220 = .ok (.if_icmp .eq 12, 3) := by decide +kernel
theorem dX4_mayFollow_223 : decode cX4_mayFollow 223 = .ok (.aload_n 0, 1) := by decide +kernel
theorem dX4_mayFollow_224 : decode cX4_mayFollow 224 = .ok (.getfield 45, 3) := by decide +kernel
theorem dX4_mayFollow_227 : decode cX4_mayFollow 227 = .ok (.bipush 9, 2) := by decide +kernel
theorem dX4_mayFollow_229 : decode cX4_mayFollow 229 = .ok (.if_icmp .ne 7, 3) := by decide +kernel
theorem dX4_mayFollow_232 : decode cX4_mayFollow 232 = .ok (.iconst 1, 1) := by decide +kernel
theorem dX4_mayFollow_233 : decode cX4_mayFollow 233 = .ok (.goto 4, 3) := by decide +kernel
theorem dX4_mayFollow_236 : decode cX4_mayFollow 236 = .ok (.iconst 0, 1) := by decide +kernel
theorem dX4_mayFollow_237 : decode cX4_mayFollow 237 = .ok (.ireturn, 1) := by decide +kernel
theorem dX4_mayFollow_238 : decode cX4_mayFollow 238 = .ok (.aload_n 0, 1) := by decide +kernel
theorem dX4_mayFollow_239 : decode cX4_mayFollow 239 = .ok (.getfield 45, 3) := by decide +kernel
theorem dX4_mayFollow_242 : decode cX4_mayFollow 242 = .ok (.bipush 8, 2) := by decide +kernel
theorem dX4_mayFollow_244 : decode cX4_mayFollow 244 = .ok (.if_icmp .ne 7, 3) := by decide +kernel
theorem dX4_mayFollow_247 : decode cX4_mayFollow 247 = .ok (.iconst 1, 1) := by decide +kernel
theorem dX4_mayFollow_248 : decode cX4_mayFollow 248 = .ok (.goto 4, 3) := by decide +kernel
theorem dX4_mayFollow_251 : decode cX4_mayFollow 251 = .ok (.iconst 0, 1) := by decide +kernel
theorem dX4_mayFollow_252 : decode cX4_mayFollow 252 = .ok (.ireturn, 1) := by decide +kernel
theorem dX4_mayFollow_253 : decode cX4_mayFollow 253 = .ok (.aload_n 0, 1) := by decide +kernel
theorem dX4_mayFollow_254 : decode cX4_mayFollow 254 = .ok (.getfield 45, 3) := by decide +kernel
theorem dX4_mayFollow_257 : decode cX4_mayFollow 257 = .ok (.ifCond .eq 12, 3) := by decide +kernel
theorem dX4_mayFollow_260 : decode cX4_mayFollow 260 = .ok (.aload_n 0, 1) := by decide +kernel
theorem dX4_mayFollow_261 : decode cX4_mayFollow 261 = .ok (.getfield 45, 3) := by decide +kernel
theorem dX4_mayFollow_264 : decode cX4_mayFollow 264 = .ok (.bipush 11, 2) := by decide +kernel
theorem dX4_mayFollow_266 : decode cX4_mayFollow 266 = .ok (.if_icmp .ne 7, 3) := by decide +kernel
theorem dX4_mayFollow_269 : decode cX4_mayFollow 269 = .ok (.iconst 1, 1) := by decide +kernel
theorem dX4_mayFollow_270 : decode cX4_mayFollow 270 = .ok (.goto 4, 3) := by decide +kernel
theorem dX4_mayFollow_273 : decode cX4_mayFollow 273 = .ok (.iconst 0, 1) := by decide +kernel
theorem dX4_mayFollow_274 : decode cX4_mayFollow 274 = .ok (.ireturn, 1) := by decide +kernel
theorem dX4_mayFollow_275 : decode cX4_mayFollow 275 = .ok (.aload_n 0, 1) := by decide +kernel
theorem dX4_mayFollow_276 : decode cX4_mayFollow 276 = .ok (.getfield 45, 3) := by decide +kernel
theorem dX4_mayFollow_279 : decode cX4_mayFollow 279 = .ok (.ifCond .ne 7, 3) := by decide +kernel
theorem dX4_mayFollow_282 : decode cX4_mayFollow 282 = .ok (.iconst 1, 1) := by decide +kernel
theorem dX4_mayFollow_283 : decode cX4_mayFollow 283 = .ok (.goto 4, 3) := by decide +kernel
theorem dX4_mayFollow_286 : decode cX4_mayFollow 286 = .ok (.iconst 0, 1) := by decide +kernel
theorem dX4_mayFollow_287 : decode cX4_mayFollow 287 = .ok (.ireturn, 1) := by decide +kernel
theorem dX4_readPair_0 : decode cX4_readPair 0 = .ok (.aload_n 0, 1) := by decide +kernel
theorem dX4_readPair_1 : decode cX4_readPair 1 = .ok (.getfield 45, 3) := by decide +kernel
theorem dX4_readPair_4 : decode cX4_readPair 4 = .ok (.bipush 10, 2) := by decide +kernel
theorem dX4_readPair_6 : decode cX4_readPair 6 = .ok (.if_icmp .ne 18, 3) := by decide +kernel
theorem dX4_readPair_9 : decode cX4_readPair 9 = .ok (.aload_n 0, 1) := by decide +kernel
theorem dX4_readPair_10 : decode cX4_readPair 10 = .ok (.getfield 18, 3) := by decide +kernel
theorem dX4_readPair_13 : decode cX4_readPair 13 = .ok (.dup, 1) := by decide +kernel
theorem dX4_readPair_14 : decode cX4_readPair 14 = .ok (.getfield 22, 3) := by decide +kernel
theorem dX4_readPair_17 : decode cX4_readPair 17 = .ok (.iconst 1, 1) := by decide +kernel
theorem dX4_readPair_18 : decode cX4_readPair 18 = .ok (.iadd, 1) := by decide +kernel
theorem dX4_readPair_19 : decode cX4_readPair 19 = .ok (.putfield 22, 3) := by decide +kernel
theorem dX4_readPair_22 : decode cX4_readPair 22 = .ok (.iconst 1, 1) := by decide +kernel
theorem dX4_readPair_23 : decode cX4_readPair 23 = .ok (.ireturn, 1) := by decide +kernel
theorem dX4_readPair_24 : decode cX4_readPair 24 = .ok (.aload_n 0, 1) := by decide +kernel
theorem dX4_readPair_25 : decode cX4_readPair 25 = .ok (.getfield 45, 3) := by decide +kernel
theorem dX4_readPair_28 : decode cX4_readPair 28 = .ok (.ifCond .ne 34, 3) := by decide +kernel
theorem dX4_readPair_31 : decode cX4_readPair 31 = .ok (.aload_n 0, 1) := by decide +kernel
theorem dX4_readPair_32 : decode cX4_readPair 32 = .ok (.aload_n 0, 1) := by decide +kernel
theorem dX4_readPair_33 : decode cX4_readPair 33 = .ok (.getfield 18, 3) := by decide +kernel
theorem dX4_readPair_36 : decode cX4_readPair 36 = .ok (.invokevirtual 52, 3) := by decide +kernel
theorem dX4_readPair_39 : decode cX4_readPair 39 = .ok (.putfield 56, 3) := by decide +kernel
theorem dX4_readPair_42 : decode cX4_readPair 42 = .ok (.aload_n 0, 1) := by decide +kernel
theorem dX4_readPair_43 : decode cX4_readPair 43 = .ok (.getfield 56, 3) := by decide +kernel
theorem dX4_readPair_46 : decode cX4_readPair 46 = .ok (.ifnonnull 11, 3) := by decide +kernel
theorem dX4_readPair_49 : decode cX4_readPair 49 = .ok (.aload_n 0, 1) := by decide +kernel
theorem dX4_readPair_50 : decode cX4_readPair 50 = .ok (.iconst 4, 1) := by decide +kernel
theorem dX4_readPair_51 : decode cX4_readPair 51 = .ok (.invokevirtual 42, 3) := by decide +kernel
theorem dX4_readPair_54 : decode cX4_readPair 54 = .ok (.goto 7, 3) := by decide +kernel
theorem dX4_readPair_57 : decode cX4_readPair 57 = .ok (.aload_n 0, 1) := by decide +kernel
theorem dX4_readPair_58 : decode cX4_readPair 58 = .ok (.invokevirtual 60, 3) := by decide +kernel
theorem dX4_readPair_61 : decode cX4_readPair 61 = .ok (.ireturn, 1) := by decide +kernel
theorem dX4_readPair_62 : decode cX4_readPair 62 = .ok (.aload_n 0, 1) := by decide +kernel
theorem dX4_readPair_63 : decode cX4_readPair 63 = .ok (.getfield 45, 3) := by decide +kernel
theorem dX4_readPair_66 : decode cX4_readPair 66 = .ok (.bipush 7, 2) := by decide +kernel
theorem dX4_readPair_68 : decode cX4_readPair 68 = .ok (.if_icmp .ne 27, 3) := by decide +kernel
theorem dX4_readPair_71 : decode cX4_readPair 71 = .ok (.aload_n 0, 1) := by decide +kernel
theorem dX4_readPair_72 : decode cX4_readPair 72 = .ok (.getfield 63, 3) := by decide +kernel
theorem dX4_readPair_75 : decode cX4_readPair 75 = .ok (.ifnull 20, 3) := by decide +kernel
theorem dX4_readPair_78 : decode cX4_readPair 78 = .ok (.aload_n 0, 1) := by decide +kernel
theorem dX4_readPair_79 : decode cX4_readPair 79 = .ok (.getfield 63, 3) := by decide +kernel
theorem dX4_readPair_82 : decode cX4_readPair 82 = .ok (.getfield 67, 3) := by decide +kernel
theorem dX4_readPair_85 : decode cX4_readPair 85 = .ok (.iconst 3, 1) := by decide +kernel
theorem dX4_readPair_86 : decode cX4_readPair 86 = .ok (.if_icmp .lt 9, 3) := by decide +kernel
theorem dX4_readPair_89 : decode cX4_readPair 89 = .ok (.aload_n 0, 1) := by decide +kernel
theorem dX4_readPair_90 : decode cX4_readPair 90 = .ok (.iconst 4, 1) := by decide +kernel
theorem dX4_readPair_91 : decode cX4_readPair 91 = .ok (.invokevirtual 42, 3) := by decide +kernel
theorem dX4_readPair_94 : decode cX4_readPair 94 = .ok (.ireturn, 1) := by decide +kernel
theorem dX4_readPair_95 : decode cX4_readPair 95 = .ok (.aload_n 0, 1) := by decide +kernel
theorem dX4_readPair_96 : decode cX4_readPair 96 = .ok (.aload_n 0, 1) := by decide +kernel
theorem dX4_readPair_97 : decode cX4_readPair 97 = .ok (.getfield 45, 3) := by decide +kernel
theorem dX4_readPair_100 : decode cX4_readPair 100 = .ok (.invokevirtual 72, 3) := by decide +kernel
theorem dX4_readPair_103 : decode cX4_readPair 103 = .ok (.ireturn, 1) := by decide +kernel
theorem dX4_readName_0 : decode cX4_readName 0 = .ok (.aload_n 0, 1) := by decide +kernel
theorem dX4_readName_1 : decode cX4_readName 1 = .ok (.invokevirtual 35, 3) := by decide +kernel
theorem dX4_readName_4 : decode cX4_readName 4 = .ok (.aload_n 0, 1) := by decide +kernel
theorem dX4_readName_5 : decode cX4_readName 5 = .ok (.getfield 75, 3) := by decide +kernel
theorem dX4_readName_8 : decode cX4_readName 8 = .ok (.iconst 1, 1) := by decide +kernel
theorem dX4_readName_9 : decode cX4_readName 9 = .ok (.if_icmp .ne 11, 3) := by decide +kernel
theorem dX4_readName_12 : decode cX4_readName 12 = .ok (.aload_n 0, 1) := by decide +kernel
theorem dX4_readName_13 : decode cX4_readName 13 = .ok (.getfield 45, 3) := by decide +kernel
theorem dX4_readName_16 : decode cX4_readName 16 = .ok (.iconst (-1), 1) := by decide +kernel
theorem dX4_readName_17 : decode cX4_readName 17 = .ok (.if_icmp .eq 9, 3) := by decide +kernel
theorem dX4_readName_20 : decode cX4_readName 20 = .ok (.aload_n 0, 1) := by decide +kernel
theorem dX4_readName_21 : decode cX4_readName 21 = .ok (.iconst 1, 1) := by decide +kernel
theorem dX4_readName_22 : decode cX4_readName 22 = .ok (.invokevirtual 42, 3) := by decide +kernel
theorem dX4_readName_25 : decode cX4_readName 25 = .ok (.ireturn, 1) := by decide +kernel
theorem dX4_readName_26 : decode cX4_readName 26 = .ok (.aload_n 0, 1) := by decide +kernel
theorem dX4_readName_27 : decode cX4_readName 27 = .ok (.getfield 18, 3) := by decide +kernel
theorem dX4_readName_30 : decode cX4_readName 30 = .ok (.aload_n 0, 1) := by decide +kernel
theorem dX4_readName_31 : decode cX4_readName 31 = .ok (.getfield 78, 3) := by decide +kernel
theorem dX4_readName_34 : decode cX4_readName 34 = .ok (.invokevirtual 82, 3) := by decide +kernel
theorem dX4_readName_37 : decode cX4_readName 37 = .ok (.ifCond .eq 9, 3) := by decide +kernel
theorem dX4_readName_40 : decode cX4_readName 40 = .ok (.aload_n 0, 1) := by decide +kernel
theorem dX4_readName_41 : decode cX4_readName 41 = .ok (.iconst 3, 1) := by decide +kernel
theorem dX4_readName_42 : decode cX4_readName 42 = .ok (.invokevirtual 42, 3) := by decide +kernel
theorem dX4_readName_45 : decode cX4_readName 45 = .ok (.ireturn, 1) := by decide +kernel
theorem dX4_readName_46 : decode cX4_readName 46 = .ok (.aload_n 0, 1) := by decide +kernel
theorem dX4_readName_47 : decode cX4_readName 47 = .ok (.getfield 56, 3) := by decide +kernel
theorem dX4_readName_50 : decode cX4_readName 50 = .ok (.ifnull 25, 3) := by decide +kernel
theorem dX4_readName_53 : decode cX4_readName 53 = .ok (.aload_n 0, 1) := by decide +kernel
theorem dX4_readName_54 : decode cX4_readName 54 = .ok (.getfield 56, 3) := by decide +kernel
theorem dX4_readName_57 : decode cX4_readName 57 = .ok (.aload_n 0, 1) := by decide +kernel
theorem dX4_readName_58 : decode cX4_readName 58 = .ok (.getfield 78, 3) := by decide +kernel
theorem dX4_readName_61 : decode cX4_readName 61 = .ok (.putfield 86, 3) := by decide +kernel
theorem dX4_readName_64 : decode cX4_readName 64 = .ok (.aload_n 0, 1) := by decide +kernel
theorem dX4_readName_65 : decode cX4_readName 65 = .ok (.getfield 56, 3) := by decide +kernel
theorem dX4_readName_68 : decode cX4_readName 68 = .ok (.aload_n 0, 1) := by decide +kernel
theorem dX4_readName_69 : decode cX4_readName 69 = .ok (.getfield 32, 3) := by decide +kernel
theorem dX4_readName_72 : decode cX4_readName 72 = .ok (.putfield 91, 3) := by decide +kernel
theorem dX4_readName_75 : decode cX4_readName 75 = .ok (.iconst 1, 1) := by decide +kernel
theorem dX4_readName_76 : decode cX4_readName 76 = .ok (.ireturn, 1) := by decide +kernel
theorem dX4_readNumber_0 : decode cX4_readNumber 0 = .ok (.aload_n 0, 1) := by decide +kernel
theorem dX4_readNumber_1 : decode cX4_readNumber 1 = .ok (.invokevirtual 35, 3) := by decide +kernel
theorem dX4_readNumber_4 : decode cX4_readNumber 4 = .ok (.aload_n 0, 1) := by decide +kernel
theorem dX4_readNumber_5 : decode cX4_readNumber 5 = .ok (.getfield 75, 3) := by decide +kernel
theorem dX4_readNumber_8 : decode cX4_readNumber 8 = .ok (.iconst 2, 1) := by decide +kernel
theorem dX4_readNumber_9 : decode cX4_readNumber 9 = .ok (.if_icmp .eq 9, 3) := by decide +kernel
theorem dX4_readNumber_12 : decode cX4_readNumber 12 = .ok (.aload_n 0, 1) := by decide +kernel
theorem dX4_readNumber_13 : decode cX4_readNumber 13 = .ok (.iconst 1, 1) := by decide +kernel
theorem dX4_readNumber_14 : decode cX4_readNumber 14 = .ok (.invokevirtual 42, 3) := by decide +kernel
theorem dX4_readNumber_17 : decode cX4_readNumber 17 = .ok (.ireturn, 1) := by decide +kernel
theorem dX4_readNumber_18 : decode cX4_readNumber 18 = .ok (.aload_n 0, 1) := by decide +kernel
theorem dX4_readNumber_19 : decode cX4_readNumber 19 = .ok (.getfield 94, 3) := by decide +kernel
theorem dX4_readNumber_22 : decode cX4_readNumber 22 = .ok (.aload_n 0, 1) := by decide +kernel
theorem dX4_readNumber_23 : decode cX4_readNumber 23 = .ok (.iload_n 1, 1) := by decide +kernel
theorem dX4_readNumber_24 : decode cX4_readNumber 24 = .ok (.invokevirtual 97, 3) := by decide +kernel
theorem dX4_readNumber_27 : decode cX4_readNumber 27 = .ok (.iload_n 1, 1) := by decide +kernel
theorem dX4_readNumber_28 : decode cX4_readNumber 28 = .ok (.invokestatic 101, 3) := by decide +kernel
theorem dX4_readNumber_31 : decode cX4_readNumber 31 = .ok (.invokestatic 104, 3) := by decide +kernel
theorem dX4_readNumber_34 : decode cX4_readNumber 34 = .ok (.ifCond .ne 9, 3) := by decide +kernel
theorem dX4_readNumber_37 : decode cX4_readNumber 37 = .ok (.aload_n 0, 1) := by decide +kernel
theorem dX4_readNumber_38 : decode cX4_readNumber 38 = .ok (.iconst 2, 1) := by decide +kernel
theorem dX4_readNumber_39 : decode cX4_readNumber 39 = .ok (.invokevirtual 42, 3) := by decide +kernel
theorem dX4_readNumber_42 : decode cX4_readNumber 42 = .ok (.ireturn, 1) := by decide +kernel
theorem dX4_readNumber_43 : decode cX4_readNumber 43 = .ok (.iload_n 1, 1) := by decide +kernel
theorem dX4_readNumber_44 : decode cX4_readNumber 44 = .ok (.iconst 5, 1) := by decide +kernel
theorem dX4_readNumber_45 : decode cX4_readNumber 45 = .ok (.if_icmp .ne 30, 3) := by decide +kernel
theorem dX4_readNumber_48 : decode cX4_readNumber 48 = .ok (.aload_n 0, 1) := by decide +kernel
theorem dX4_readNumber_49 : decode cX4_readNumber 49 = .ok (.getfield 56, 3) := by decide +kernel
theorem dX4_readNumber_52 : decode cX4_readNumber 52 = .ok (.ifnull 23, 3) := by decide +kernel
theorem dX4_readNumber_55 : decode cX4_readNumber 55 = .ok (.aload_n 0, 1) := by decide +kernel
theorem dX4_readNumber_56 : decode cX4_readNumber 56 = .ok (.getfield 56, 3) := by decide +kernel
theorem dX4_readNumber_59 : decode cX4_readNumber 59 = .ok (.aload_n 0, 1) := by decide +kernel
theorem dX4_readNumber_60 : decode cX4_readNumber 60 = .ok (.getfield 94, 3) := by decide +kernel
theorem dX4_readNumber_63 : decode cX4_readNumber 63 = .ok (.invokevirtual 108, 3) := by decide +kernel
theorem dX4_readNumber_66 : decode cX4_readNumber 66 = .ok (.ifnull 9, 3) := by decide +kernel
theorem dX4_readNumber_69 : decode cX4_readNumber 69 = .ok (.aload_n 0, 1) := by decide +kernel
theorem dX4_readNumber_70 : decode cX4_readNumber 70 = .ok (.iconst 3, 1) := by decide +kernel
theorem dX4_readNumber_71 : decode cX4_readNumber 71 = .ok (.invokevirtual 42, 3) := by decide +kernel
theorem dX4_readNumber_74 : decode cX4_readNumber 74 = .ok (.ireturn, 1) := by decide +kernel
theorem dX4_readNumber_75 : decode cX4_readNumber 75 = .ok (.aload_n 0, 1) := by decide +kernel
theorem dX4_readNumber_76 : decode cX4_readNumber 76 = .ok (.iload_n 1, 1) := by decide +kernel
theorem dX4_readNumber_77 : decode cX4_readNumber 77 = .ok (.invokevirtual 112, 3) := by decide +kernel
theorem dX4_readNumber_80 : decode cX4_readNumber 80 = .ok (.aload_n 0, 1) := by decide +kernel
theorem dX4_readNumber_81 : decode cX4_readNumber 81 = .ok (.iload_n 1, 1) := by decide +kernel
theorem dX4_readNumber_82 : decode cX4_readNumber 82 = .ok (.invokevirtual 116, 3) := by decide +kernel
theorem dX4_readNumber_85 : decode cX4_readNumber 85 = .ok (.iconst 1, 1) := by decide +kernel
theorem dX4_readNumber_86 : decode cX4_readNumber 86 = .ok (.ireturn, 1) := by decide +kernel
theorem dX4_leastBehind_0 : decode cX4_leastBehind 0 = .ok (.iload_n 1, 1) := by decide +kernel
theorem dX4_leastBehind_1 : decode cX4_leastBehind 1 = .ok (.lookupswitch 77 #[(2, 35), (4, 37), (7, 56)], 35) := by decide +kernel
theorem dX4_leastBehind_36 : decode cX4_leastBehind 36 = .ok (.iconst 1, 1) := by decide +kernel
theorem dX4_leastBehind_37 : decode cX4_leastBehind 37 = .ok (.ireturn, 1) := by decide +kernel
theorem dX4_leastBehind_38 : decode cX4_leastBehind 38 = .ok (.aload_n 0, 1) := by decide +kernel
theorem dX4_leastBehind_39 : decode cX4_leastBehind 39 = .ok (.getfield 56, 3) := by decide +kernel
theorem dX4_leastBehind_42 : decode cX4_leastBehind 42 = .ok (.ifnonnull 7, 3) := by decide +kernel
theorem dX4_leastBehind_45 : decode cX4_leastBehind 45 = .ok (.iconst 0, 1) := by decide +kernel
theorem dX4_leastBehind_46 : decode cX4_leastBehind 46 = .ok (.goto 10, 3) := by decide +kernel
theorem dX4_leastBehind_49 : decode cX4_leastBehind 49 = .ok (.aload_n 0, 1) := by decide +kernel
theorem dX4_leastBehind_50 : decode cX4_leastBehind 50 = .ok (.getfield 56, 3) := by decide +kernel
theorem dX4_leastBehind_53 : decode cX4_leastBehind 53 = .ok (.getfield 119, 3) := by decide +kernel
theorem dX4_leastBehind_56 : decode cX4_leastBehind 56 = .ok (.ireturn, 1) := by decide +kernel
theorem dX4_leastBehind_57 : decode cX4_leastBehind 57 = .ok (.aload_n 0, 1) := by decide +kernel
theorem dX4_leastBehind_58 : decode cX4_leastBehind 58 = .ok (.getfield 63, 3) := by decide +kernel
theorem dX4_leastBehind_61 : decode cX4_leastBehind 61 = .ok (.ifnonnull 7, 3) := by decide +kernel
theorem dX4_leastBehind_64 : decode cX4_leastBehind 64 = .ok (.iconst 1, 1) := by decide +kernel
theorem dX4_leastBehind_65 : decode cX4_leastBehind 65 = .ok (.goto 12, 3) := by decide +kernel
theorem dX4_leastBehind_68 : decode cX4_leastBehind 68 = .ok (.aload_n 0, 1) := by decide +kernel
theorem dX4_leastBehind_69 : decode cX4_leastBehind 69 = .ok (.getfield 63, 3) := by decide +kernel
theorem dX4_leastBehind_72 : decode cX4_leastBehind 72 = .ok (.invokevirtual 122, 3) := by decide +kernel
theorem dX4_leastBehind_75 : decode cX4_leastBehind 75 = .ok (.iconst 1, 1) := by decide +kernel
theorem dX4_leastBehind_76 : decode cX4_leastBehind 76 = .ok (.iadd, 1) := by decide +kernel
theorem dX4_leastBehind_77 : decode cX4_leastBehind 77 = .ok (.ireturn, 1) := by decide +kernel
theorem dX4_leastBehind_78 : decode cX4_leastBehind 78 = .ok (.iconst 0, 1) := by decide +kernel
theorem dX4_leastBehind_79 : decode cX4_leastBehind 79 = .ok (.ireturn, 1) := by decide +kernel
theorem dX4_greatestBehind_0 : decode cX4_greatestBehind 0 = .ok (.iload_n 0, 1) := by decide +kernel
theorem dX4_greatestBehind_1 : decode cX4_greatestBehind 1 = .ok (.tableswitch 58 1 7 #[43, 46, 49, 49, 52, 54, 54], 43) := by decide +kernel
theorem dX4_greatestBehind_44 : decode cX4_greatestBehind 44 = .ok (.ldc 126, 2) := by decide +kernel
theorem dX4_greatestBehind_46 : decode cX4_greatestBehind 46 = .ok (.ireturn, 1) := by decide +kernel
theorem dX4_greatestBehind_47 : decode cX4_greatestBehind 47 = .ok (.bipush 24, 2) := by decide +kernel
theorem dX4_greatestBehind_49 : decode cX4_greatestBehind 49 = .ok (.ireturn, 1) := by decide +kernel
theorem dX4_greatestBehind_50 : decode cX4_greatestBehind 50 = .ok (.bipush 23, 2) := by decide +kernel
theorem dX4_greatestBehind_52 : decode cX4_greatestBehind 52 = .ok (.ireturn, 1) := by decide +kernel
theorem dX4_greatestBehind_53 : decode cX4_greatestBehind 53 = .ok (.iconst 3, 1) := by decide +kernel
theorem dX4_greatestBehind_54 : decode cX4_greatestBehind 54 = .ok (.ireturn, 1) := by decide +kernel
theorem dX4_greatestBehind_55 : decode cX4_greatestBehind 55 = .ok (.sipush 20000, 3) := by decide +kernel
theorem dX4_greatestBehind_58 : decode cX4_greatestBehind 58 = .ok (.ireturn, 1) := by decide +kernel
theorem dX4_greatestBehind_59 : decode cX4_greatestBehind 59 = .ok (.sipush 9999, 3) := by decide +kernel
theorem dX4_greatestBehind_62 : decode cX4_greatestBehind 62 = .ok (.ireturn, 1) := by decide +kernel
theorem dX4_putInPlan_0 : decode cX4_putInPlan 0 = .ok (.aload_n 0, 1) := by decide +kernel
theorem dX4_putInPlan_1 : decode cX4_putInPlan 1 = .ok (.getfield 56, 3) := by decide +kernel
theorem dX4_putInPlan_4 : decode cX4_putInPlan 4 = .ok (.ifnonnull 4, 3) := by decide +kernel
theorem dX4_putInPlan_7 : decode cX4_putInPlan 7 = .ok (.return_, 1) := by decide +kernel
theorem dX4_putInPlan_8 : decode cX4_putInPlan 8 = .ok (.iload_n 1, 1) := by decide +kernel
theorem dX4_putInPlan_9 : decode cX4_putInPlan 9 = .ok (.tableswitch 109 1 5 #[35, 49, 63, 77, 91], 35) := by decide +kernel
theorem dX4_putInPlan_44 : decode cX4_putInPlan 44 = .ok (.aload_n 0, 1) := by decide +kernel
theorem dX4_putInPlan_45 : decode cX4_putInPlan 45 = .ok (.getfield 56, 3) := by decide +kernel
theorem dX4_putInPlan_48 : decode cX4_putInPlan 48 = .ok (.aload_n 0, 1) := by decide +kernel
theorem dX4_putInPlan_49 : decode cX4_putInPlan 49 = .ok (.getfield 94, 3) := by decide +kernel
theorem dX4_putInPlan_52 : decode cX4_putInPlan 52 = .ok (.putfield 127, 3) := by decide +kernel
theorem dX4_putInPlan_55 : decode cX4_putInPlan 55 = .ok (.goto 63, 3) := by decide +kernel
theorem dX4_putInPlan_58 : decode cX4_putInPlan 58 = .ok (.aload_n 0, 1) := by decide +kernel
theorem dX4_putInPlan_59 : decode cX4_putInPlan 59 = .ok (.getfield 56, 3) := by decide +kernel
theorem dX4_putInPlan_62 : decode cX4_putInPlan 62 = .ok (.aload_n 0, 1) := by decide +kernel
theorem dX4_putInPlan_63 : decode cX4_putInPlan 63 = .ok (.getfield 94, 3) := by decide +kernel
theorem dX4_putInPlan_66 : decode cX4_putInPlan 66 = .ok (.putfield 130, 3) := by decide +kernel
theorem dX4_putInPlan_69 : decode cX4_putInPlan 69 = .ok (.goto 49, 3) := by decide +kernel
theorem dX4_putInPlan_72 : decode cX4_putInPlan 72 = .ok (.aload_n 0, 1) := by decide +kernel
theorem dX4_putInPlan_73 : decode cX4_putInPlan 73 = .ok (.getfield 56, 3) := by decide +kernel
theorem dX4_putInPlan_76 : decode cX4_putInPlan 76 = .ok (.aload_n 0, 1) := by decide +kernel
theorem dX4_putInPlan_77 : decode cX4_putInPlan 77 = .ok (.getfield 94, 3) := by decide +kernel
theorem dX4_putInPlan_80 : decode cX4_putInPlan 80 = .ok (.putfield 119, 3) := by decide +kernel
theorem dX4_putInPlan_83 : decode cX4_putInPlan 83 = .ok (.goto 35, 3) := by decide +kernel
theorem dX4_putInPlan_86 : decode cX4_putInPlan 86 = .ok (.aload_n 0, 1) := by decide +kernel
theorem dX4_putInPlan_87 : decode cX4_putInPlan 87 = .ok (.getfield 56, 3) := by decide +kernel
theorem dX4_putInPlan_90 : decode cX4_putInPlan 90 = .ok (.aload_n 0, 1) := by decide +kernel
theorem dX4_putInPlan_91 : decode cX4_putInPlan 91 = .ok (.getfield 94, 3) := by decide +kernel
theorem dX4_putInPlan_94 : decode cX4_putInPlan 94 = .ok (.putfield 133, 3) := by decide +kernel
theorem dX4_putInPlan_97 : decode cX4_putInPlan 97 = .ok (.goto 21, 3) := by decide +kernel
theorem dX4_putInPlan_100 : decode cX4_putInPlan 100 = .ok (.aload_n 0, 1) := by decide +kernel
theorem dX4_putInPlan_101 : decode cX4_putInPlan 101 = .ok (.aload_n 0, 1) := by decide +kernel
theorem dX4_putInPlan_102 : decode cX4_putInPlan 102 = .ok (.getfield 56, 3) := by decide +kernel
theorem dX4_putInPlan_105 : decode cX4_putInPlan 105 = .ok (.aload_n 0, 1) := by decide +kernel
theorem dX4_putInPlan_106 : decode cX4_putInPlan 106 = .ok (.getfield 94, 3) := by decide +kernel
theorem dX4_putInPlan_109 : decode cX4_putInPlan 109 = .ok (.invokevirtual 136, 3) := by decide +kernel
theorem dX4_putInPlan_112 : decode cX4_putInPlan 112 = .ok (.putfield 63, 3) := by decide +kernel
theorem dX4_putInPlan_115 : decode cX4_putInPlan 115 = .ok (.goto 3, 3) := by decide +kernel
theorem dX4_putInPlan_118 : decode cX4_putInPlan 118 = .ok (.return_, 1) := by decide +kernel
theorem dX4_putInPart_0 : decode cX4_putInPart 0 = .ok (.aload_n 0, 1) := by decide +kernel
theorem dX4_putInPart_1 : decode cX4_putInPart 1 = .ok (.getfield 63, 3) := by decide +kernel
theorem dX4_putInPart_4 : decode cX4_putInPart 4 = .ok (.ifnonnull 4, 3) := by decide +kernel
theorem dX4_putInPart_7 : decode cX4_putInPart 7 = .ok (.return_, 1) := by decide +kernel
theorem dX4_putInPart_8 : decode cX4_putInPart 8 = .ok (.iload_n 1, 1) := by decide +kernel
theorem dX4_putInPart_9 : decode cX4_putInPart 9 = .ok (.tableswitch 87 6 9 #[31, 45, 59, 73], 31) := by decide +kernel
theorem dX4_putInPart_40 : decode cX4_putInPart 40 = .ok (.aload_n 0, 1) := by decide +kernel
theorem dX4_putInPart_41 : decode cX4_putInPart 41 = .ok (.getfield 63, 3) := by decide +kernel
theorem dX4_putInPart_44 : decode cX4_putInPart 44 = .ok (.aload_n 0, 1) := by decide +kernel
theorem dX4_putInPart_45 : decode cX4_putInPart 45 = .ok (.getfield 94, 3) := by decide +kernel
theorem dX4_putInPart_48 : decode cX4_putInPart 48 = .ok (.putfield 139, 3) := by decide +kernel
theorem dX4_putInPart_51 : decode cX4_putInPart 51 = .ok (.goto 45, 3) := by decide +kernel
theorem dX4_putInPart_54 : decode cX4_putInPart 54 = .ok (.aload_n 0, 1) := by decide +kernel
theorem dX4_putInPart_55 : decode cX4_putInPart 55 = .ok (.getfield 63, 3) := by decide +kernel
theorem dX4_putInPart_58 : decode cX4_putInPart 58 = .ok (.aload_n 0, 1) := by decide +kernel
theorem dX4_putInPart_59 : decode cX4_putInPart 59 = .ok (.getfield 94, 3) := by decide +kernel
theorem dX4_putInPart_62 : decode cX4_putInPart 62 = .ok (.invokevirtual 142, 3) := by decide +kernel
theorem dX4_putInPart_65 : decode cX4_putInPart 65 = .ok (.goto 31, 3) := by decide +kernel
theorem dX4_putInPart_68 : decode cX4_putInPart 68 = .ok (.aload_n 0, 1) := by decide +kernel
theorem dX4_putInPart_69 : decode cX4_putInPart 69 = .ok (.getfield 63, 3) := by decide +kernel
theorem dX4_putInPart_72 : decode cX4_putInPart 72 = .ok (.aload_n 0, 1) := by decide +kernel
theorem dX4_putInPart_73 : decode cX4_putInPart 73 = .ok (.getfield 94, 3) := by decide +kernel
theorem dX4_putInPart_76 : decode cX4_putInPart 76 = .ok (.invokevirtual 145, 3) := by decide +kernel
theorem dX4_putInPart_79 : decode cX4_putInPart 79 = .ok (.goto 17, 3) := by decide +kernel
theorem dX4_putInPart_82 : decode cX4_putInPart 82 = .ok (.aload_n 0, 1) := by decide +kernel
theorem dX4_putInPart_83 : decode cX4_putInPart 83 = .ok (.getfield 63, 3) := by decide +kernel
theorem dX4_putInPart_86 : decode cX4_putInPart 86 = .ok (.aload_n 0, 1) := by decide +kernel
theorem dX4_putInPart_87 : decode cX4_putInPart 87 = .ok (.getfield 94, 3) := by decide +kernel
theorem dX4_putInPart_90 : decode cX4_putInPart 90 = .ok (.putfield 148, 3) := by decide +kernel
theorem dX4_putInPart_93 : decode cX4_putInPart 93 = .ok (.goto 3, 3) := by decide +kernel
theorem dX4_putInPart_96 : decode cX4_putInPart 96 = .ok (.return_, 1) := by decide +kernel
theorem dX4_refuse_0 : decode cX4_refuse 0 = .ok (.aload_n 0, 1) := by decide +kernel
theorem dX4_refuse_1 : decode cX4_refuse 1 = .ok (.iload_n 1, 1) := by decide +kernel
theorem dX4_refuse_2 : decode cX4_refuse 2 = .ok (.putfield 26, 3) := by decide +kernel
theorem dX4_refuse_5 : decode cX4_refuse 5 = .ok (.aload_n 0, 1) := by decide +kernel
theorem dX4_refuse_6 : decode cX4_refuse 6 = .ok (.aload_n 0, 1) := by decide +kernel
theorem dX4_refuse_7 : decode cX4_refuse 7 = .ok (.getfield 29, 3) := by decide +kernel
theorem dX4_refuse_10 : decode cX4_refuse 10 = .ok (.putfield 151, 3) := by decide +kernel
theorem dX4_refuse_13 : decode cX4_refuse 13 = .ok (.iconst 0, 1) := by decide +kernel
theorem dX4_refuse_14 : decode cX4_refuse 14 = .ok (.ireturn, 1) := by decide +kernel
theorem dX4_scan_0 : decode cX4_scan 0 = .ok (.aload_n 0, 1) := by decide +kernel
theorem dX4_scan_1 : decode cX4_scan 1 = .ok (.getfield 29, 3) := by decide +kernel
theorem dX4_scan_4 : decode cX4_scan 4 = .ok (.aload_n 0, 1) := by decide +kernel
theorem dX4_scan_5 : decode cX4_scan 5 = .ok (.getfield 32, 3) := by decide +kernel
theorem dX4_scan_8 : decode cX4_scan 8 = .ok (.iadd, 1) := by decide +kernel
theorem dX4_scan_9 : decode cX4_scan 9 = .ok (.istore_n 1, 1) := by decide +kernel
theorem dX4_scan_10 : decode cX4_scan 10 = .ok (.iload_n 1, 1) := by decide +kernel
theorem dX4_scan_11 : decode cX4_scan 11 = .ok (.aload_n 0, 1) := by decide +kernel
theorem dX4_scan_12 : decode cX4_scan 12 = .ok (.getfield 9, 3) := by decide +kernel
theorem dX4_scan_15 : decode cX4_scan 15 = .ok (.getfield 154, 3) := by decide +kernel
theorem dX4_scan_18 : decode cX4_scan 18 = .ok (.if_icmp .ge 23, 3) := by decide +kernel
theorem dX4_scan_21 : decode cX4_scan 21 = .ok (.aload_n 0, 1) := by decide +kernel
theorem dX4_scan_22 : decode cX4_scan 22 = .ok (.getfield 9, 3) := by decide +kernel
theorem dX4_scan_25 : decode cX4_scan 25 = .ok (.iload_n 1, 1) := by decide +kernel
theorem dX4_scan_26 : decode cX4_scan 26 = .ok (.invokevirtual 159, 3) := by decide +kernel
theorem dX4_scan_29 : decode cX4_scan 29 = .ok (.invokestatic 162, 3) := by decide +kernel
theorem dX4_scan_32 : decode cX4_scan 32 = .ok (.ifCond .eq 9, 3) := by decide +kernel
theorem dX4_scan_35 : decode cX4_scan 35 = .ok (.iinc 1 1, 3) := by decide +kernel
theorem dX4_scan_38 : decode cX4_scan 38 = .ok (.goto (-28), 3) := by decide +kernel
theorem dX4_scan_41 : decode cX4_scan 41 = .ok (.aload_n 0, 1) := by decide +kernel
theorem dX4_scan_42 : decode cX4_scan 42 = .ok (.iload_n 1, 1) := by decide +kernel
theorem dX4_scan_43 : decode cX4_scan 43 = .ok (.sipush 800, 3) := by decide +kernel
theorem dX4_scan_46 : decode cX4_scan 46 = .ok (.invokestatic 165, 3) := by decide +kernel
theorem dX4_scan_49 : decode cX4_scan 49 = .ok (.putfield 29, 3) := by decide +kernel
theorem dX4_scan_52 : decode cX4_scan 52 = .ok (.aload_n 0, 1) := by decide +kernel
theorem dX4_scan_53 : decode cX4_scan 53 = .ok (.iconst 0, 1) := by decide +kernel
theorem dX4_scan_54 : decode cX4_scan 54 = .ok (.putfield 32, 3) := by decide +kernel
theorem dX4_scan_57 : decode cX4_scan 57 = .ok (.aload_n 0, 1) := by decide +kernel
theorem dX4_scan_58 : decode cX4_scan 58 = .ok (.iconst (-1), 1) := by decide +kernel
theorem dX4_scan_59 : decode cX4_scan 59 = .ok (.putfield 75, 3) := by decide +kernel
theorem dX4_scan_62 : decode cX4_scan 62 = .ok (.aload_n 0, 1) := by decide +kernel
theorem dX4_scan_63 : decode cX4_scan 63 = .ok (.iconst (-1), 1) := by decide +kernel
theorem dX4_scan_64 : decode cX4_scan 64 = .ok (.putfield 45, 3) := by decide +kernel
theorem dX4_scan_67 : decode cX4_scan 67 = .ok (.iload_n 1, 1) := by decide +kernel
theorem dX4_scan_68 : decode cX4_scan 68 = .ok (.sipush 800, 3) := by decide +kernel
theorem dX4_scan_71 : decode cX4_scan 71 = .ok (.if_icmp .lt 17, 3) := by decide +kernel
theorem dX4_scan_74 : decode cX4_scan 74 = .ok (.aload_n 0, 1) := by decide +kernel
theorem dX4_scan_75 : decode cX4_scan 75 = .ok (.getfield 9, 3) := by decide +kernel
theorem dX4_scan_78 : decode cX4_scan 78 = .ok (.getfield 154, 3) := by decide +kernel
theorem dX4_scan_81 : decode cX4_scan 81 = .ok (.sipush 800, 3) := by decide +kernel
theorem dX4_scan_84 : decode cX4_scan 84 = .ok (.if_icmp .le 4, 3) := by decide +kernel
theorem dX4_scan_87 : decode cX4_scan 87 = .ok (.return_, 1) := by decide +kernel
theorem dX4_scan_88 : decode cX4_scan 88 = .ok (.iload_n 1, 1) := by decide +kernel
theorem dX4_scan_89 : decode cX4_scan 89 = .ok (.aload_n 0, 1) := by decide +kernel
theorem dX4_scan_90 : decode cX4_scan 90 = .ok (.getfield 9, 3) := by decide +kernel
theorem dX4_scan_93 : decode cX4_scan 93 = .ok (.getfield 154, 3) := by decide +kernel
theorem dX4_scan_96 : decode cX4_scan 96 = .ok (.if_icmp .lt 12, 3) := by decide +kernel
theorem dX4_scan_99 : decode cX4_scan 99 = .ok (.aload_n 0, 1) := by decide +kernel
theorem dX4_scan_100 : decode cX4_scan 100 = .ok (.bipush 11, 2) := by decide +kernel
theorem dX4_scan_102 : decode cX4_scan 102 = .ok (.putfield 45, 3) := by decide +kernel
theorem dX4_scan_105 : decode cX4_scan 105 = .ok (.goto 34, 3) := by decide +kernel
theorem dX4_scan_108 : decode cX4_scan 108 = .ok (.aload_n 0, 1) := by decide +kernel
theorem dX4_scan_109 : decode cX4_scan 109 = .ok (.getfield 9, 3) := by decide +kernel
theorem dX4_scan_112 : decode cX4_scan 112 = .ok (.iload_n 1, 1) := by decide +kernel
theorem dX4_scan_113 : decode cX4_scan 113 = .ok (.invokevirtual 159, 3) := by decide +kernel
theorem dX4_scan_116 : decode cX4_scan 116 = .ok (.bipush 59, 2) := by decide +kernel
theorem dX4_scan_118 : decode cX4_scan 118 = .ok (.if_icmp .ne 17, 3) := by decide +kernel
theorem dX4_scan_121 : decode cX4_scan 121 = .ok (.aload_n 0, 1) := by decide +kernel
theorem dX4_scan_122 : decode cX4_scan 122 = .ok (.bipush 10, 2) := by decide +kernel
theorem dX4_scan_124 : decode cX4_scan 124 = .ok (.putfield 45, 3) := by decide +kernel
theorem dX4_scan_127 : decode cX4_scan 127 = .ok (.aload_n 0, 1) := by decide +kernel
theorem dX4_scan_128 : decode cX4_scan 128 = .ok (.iconst 1, 1) := by decide +kernel
theorem dX4_scan_129 : decode cX4_scan 129 = .ok (.putfield 32, 3) := by decide +kernel
theorem dX4_scan_132 : decode cX4_scan 132 = .ok (.goto 7, 3) := by decide +kernel
theorem dX4_scan_135 : decode cX4_scan 135 = .ok (.aload_n 0, 1) := by decide +kernel
theorem dX4_scan_136 : decode cX4_scan 136 = .ok (.invokevirtual 171, 3) := by decide +kernel
theorem dX4_scan_139 : decode cX4_scan 139 = .ok (.return_, 1) := by decide +kernel
theorem dX4_scanRun_0 : decode cX4_scanRun 0 = .ok (.iconst 0, 1) := by decide +kernel
theorem dX4_scanRun_1 : decode cX4_scanRun 1 = .ok (.istore_n 1, 1) := by decide +kernel
theorem dX4_scanRun_2 : decode cX4_scanRun 2 = .ok (.aload_n 0, 1) := by decide +kernel
theorem dX4_scanRun_3 : decode cX4_scanRun 3 = .ok (.lconst 0, 1) := by decide +kernel
theorem dX4_scanRun_4 : decode cX4_scanRun 4 = .ok (.putfield 78, 3) := by decide +kernel
theorem dX4_scanRun_7 : decode cX4_scanRun 7 = .ok (.aload_n 0, 1) := by decide +kernel
theorem dX4_scanRun_8 : decode cX4_scanRun 8 = .ok (.iconst 0, 1) := by decide +kernel
theorem dX4_scanRun_9 : decode cX4_scanRun 9 = .ok (.putfield 94, 3) := by decide +kernel
theorem dX4_scanRun_12 : decode cX4_scanRun 12 = .ok (.aload_n 0, 1) := by decide +kernel
theorem dX4_scanRun_13 : decode cX4_scanRun 13 = .ok (.getfield 29, 3) := by decide +kernel
theorem dX4_scanRun_16 : decode cX4_scanRun 16 = .ok (.istore_n 2, 1) := by decide +kernel
theorem dX4_scanRun_17 : decode cX4_scanRun 17 = .ok (.iload_n 2, 1) := by decide +kernel
theorem dX4_scanRun_18 : decode cX4_scanRun 18 = .ok (.aload_n 0, 1) := by decide +kernel
theorem dX4_scanRun_19 : decode cX4_scanRun 19 = .ok (.getfield 9, 3) := by decide +kernel
theorem dX4_scanRun_22 : decode cX4_scanRun 22 = .ok (.getfield 154, 3) := by decide +kernel
theorem dX4_scanRun_25 : decode cX4_scanRun 25 = .ok (.if_icmp .ge 95, 3) := by decide +kernel
theorem dX4_scanRun_28 : decode cX4_scanRun 28 = .ok (.aload_n 0, 1) := by decide +kernel
theorem dX4_scanRun_29 : decode cX4_scanRun 29 = .ok (.getfield 9, 3) := by decide +kernel
theorem dX4_scanRun_32 : decode cX4_scanRun 32 = .ok (.iload_n 2, 1) := by decide +kernel
theorem dX4_scanRun_33 : decode cX4_scanRun 33 = .ok (.invokevirtual 159, 3) := by decide +kernel
theorem dX4_scanRun_36 : decode cX4_scanRun 36 = .ok (.istore_n 3, 1) := by decide +kernel
theorem dX4_scanRun_37 : decode cX4_scanRun 37 = .ok (.iload_n 3, 1) := by decide +kernel
theorem dX4_scanRun_38 : decode cX4_scanRun 38 = .ok (.bipush 48, 2) := by decide +kernel
theorem dX4_scanRun_40 : decode cX4_scanRun 40 = .ok (.bipush 57, 2) := by decide +kernel
theorem dX4_scanRun_42 : decode cX4_scanRun 42 = .ok (.invokestatic 104, 3) := by decide +kernel
theorem dX4_scanRun_45 : decode cX4_scanRun 45 = .ok (.istore 4, 2) := by decide +kernel
theorem dX4_scanRun_47 : decode cX4_scanRun 47 = .ok (.iload 4, 2) := by decide +kernel
theorem dX4_scanRun_49 : decode cX4_scanRun 49 = .ok (.ifCond .ne 17, 3) := by decide +kernel
theorem dX4_scanRun_52 : decode cX4_scanRun 52 = .ok (.iload_n 3, 1) := by decide +kernel
theorem dX4_scanRun_53 : decode cX4_scanRun 53 = .ok (.bipush 97, 2) := by decide +kernel
theorem dX4_scanRun_55 : decode cX4_scanRun 55 = .ok (.bipush 122, 2) := by decide +kernel
theorem dX4_scanRun_57 : decode cX4_scanRun 57 = .ok (.invokestatic 104, 3) := by decide +kernel
theorem dX4_scanRun_60 : decode cX4_scanRun 60 = .ok (.ifCond .ne 6, 3) := by decide +kernel
theorem dX4_scanRun_63 : decode cX4_scanRun 63 = .ok (.goto 57, 3) := by decide +kernel
theorem dX4_scanRun_66 : decode cX4_scanRun 66 = .ok (.iload 4, 2) := by decide +kernel
theorem dX4_scanRun_68 : decode cX4_scanRun 68 = .ok (.ifCond .eq 22, 3) := by decide +kernel
theorem dX4_scanRun_71 : decode cX4_scanRun 71 = .ok (.iinc 1 1, 3) := by decide +kernel
theorem dX4_scanRun_74 : decode cX4_scanRun 74 = .ok (.aload_n 0, 1) := by decide +kernel
theorem dX4_scanRun_75 : decode cX4_scanRun 75 = .ok (.aload_n 0, 1) := by decide +kernel
theorem dX4_scanRun_76 : decode cX4_scanRun 76 = .ok (.getfield 94, 3) := by decide +kernel
theorem dX4_scanRun_79 : decode cX4_scanRun 79 = .ok (.bipush 10, 2) := by decide +kernel
theorem dX4_scanRun_81 : decode cX4_scanRun 81 = .ok (.imul, 1) := by decide +kernel
theorem dX4_scanRun_82 : decode cX4_scanRun 82 = .ok (.iload_n 3, 1) := by decide +kernel
theorem dX4_scanRun_83 : decode cX4_scanRun 83 = .ok (.bipush 48, 2) := by decide +kernel
theorem dX4_scanRun_85 : decode cX4_scanRun 85 = .ok (.isub, 1) := by decide +kernel
theorem dX4_scanRun_86 : decode cX4_scanRun 86 = .ok (.iadd, 1) := by decide +kernel
theorem dX4_scanRun_87 : decode cX4_scanRun 87 = .ok (.putfield 94, 3) := by decide +kernel
theorem dX4_scanRun_90 : decode cX4_scanRun 90 = .ok (.aload_n 0, 1) := by decide +kernel
theorem dX4_scanRun_91 : decode cX4_scanRun 91 = .ok (.aload_n 0, 1) := by decide +kernel
theorem dX4_scanRun_92 : decode cX4_scanRun 92 = .ok (.getfield 78, 3) := by decide +kernel
theorem dX4_scanRun_95 : decode cX4_scanRun 95 = .ok (.bipush 8, 2) := by decide +kernel
theorem dX4_scanRun_97 : decode cX4_scanRun 97 = .ok (.lshl, 1) := by decide +kernel
theorem dX4_scanRun_98 : decode cX4_scanRun 98 = .ok (.iload_n 3, 1) := by decide +kernel
theorem dX4_scanRun_99 : decode cX4_scanRun 99 = .ok (.i2l, 1) := by decide +kernel
theorem dX4_scanRun_100 : decode cX4_scanRun 100 = .ok (.lor, 1) := by decide +kernel
theorem dX4_scanRun_101 : decode cX4_scanRun 101 = .ok (.putfield 78, 3) := by decide +kernel
theorem dX4_scanRun_104 : decode cX4_scanRun 104 = .ok (.aload_n 0, 1) := by decide +kernel
theorem dX4_scanRun_105 : decode cX4_scanRun 105 = .ok (.dup, 1) := by decide +kernel
theorem dX4_scanRun_106 : decode cX4_scanRun 106 = .ok (.getfield 32, 3) := by decide +kernel
theorem dX4_scanRun_109 : decode cX4_scanRun 109 = .ok (.iconst 1, 1) := by decide +kernel
theorem dX4_scanRun_110 : decode cX4_scanRun 110 = .ok (.iadd, 1) := by decide +kernel
theorem dX4_scanRun_111 : decode cX4_scanRun 111 = .ok (.putfield 32, 3) := by decide +kernel
theorem dX4_scanRun_114 : decode cX4_scanRun 114 = .ok (.iinc 2 1, 3) := by decide +kernel
theorem dX4_scanRun_117 : decode cX4_scanRun 117 = .ok (.goto (-100), 3) := by decide +kernel
theorem dX4_scanRun_120 : decode cX4_scanRun 120 = .ok (.iload_n 1, 1) := by decide +kernel
theorem dX4_scanRun_121 : decode cX4_scanRun 121 = .ok (.ifCond .ne 35, 3) := by decide +kernel
theorem dX4_scanRun_124 : decode cX4_scanRun 124 = .ok (.aload_n 0, 1) := by decide +kernel
theorem dX4_scanRun_125 : decode cX4_scanRun 125 = .ok (.getfield 32, 3) := by decide +kernel
theorem dX4_scanRun_128 : decode cX4_scanRun 128 = .ok (.iconst 1, 1) := by decide +kernel
theorem dX4_scanRun_129 : decode cX4_scanRun 129 = .ok (.bipush 8, 2) := by decide +kernel
theorem dX4_scanRun_131 : decode cX4_scanRun 131 = .ok (.invokestatic 104, 3) := by decide +kernel
theorem dX4_scanRun_134 : decode cX4_scanRun 134 = .ok (.ifCond .eq 22, 3) := by decide +kernel
theorem dX4_scanRun_137 : decode cX4_scanRun 137 = .ok (.aload_n 0, 1) := by decide +kernel
theorem dX4_scanRun_138 : decode cX4_scanRun 138 = .ok (.iconst 1, 1) := by decide +kernel
theorem dX4_scanRun_139 : decode cX4_scanRun 139 = .ok (.putfield 75, 3) := by decide +kernel
theorem dX4_scanRun_142 : decode cX4_scanRun 142 = .ok (.aload_n 0, 1) := by decide +kernel
theorem dX4_scanRun_143 : decode cX4_scanRun 143 = .ok (.aload_n 0, 1) := by decide +kernel
theorem dX4_scanRun_144 : decode cX4_scanRun 144 = .ok (.getfield 78, 3) := by decide +kernel
theorem dX4_scanRun_147 : decode cX4_scanRun 147 = .ok (.invokestatic 174, 3) := by decide +kernel
theorem dX4_scanRun_150 : decode cX4_scanRun 150 = .ok (.putfield 45, 3) := by decide +kernel
theorem dX4_scanRun_153 : decode cX4_scanRun 153 = .ok (.goto 29, 3) := by decide +kernel
theorem dX4_scanRun_156 : decode cX4_scanRun 156 = .ok (.iload_n 1, 1) := by decide +kernel
theorem dX4_scanRun_157 : decode cX4_scanRun 157 = .ok (.aload_n 0, 1) := by decide +kernel
theorem dX4_scanRun_158 : decode cX4_scanRun 158 = .ok (.getfield 32, 3) := by decide +kernel
theorem dX4_scanRun_161 : decode cX4_scanRun 161 = .ok (.if_icmp .ne 21, 3) := by decide +kernel
theorem dX4_scanRun_164 : decode cX4_scanRun 164 = .ok (.aload_n 0, 1) := by decide +kernel
theorem dX4_scanRun_165 : decode cX4_scanRun 165 = .ok (.getfield 32, 3) := by decide +kernel
theorem dX4_scanRun_168 : decode cX4_scanRun 168 = .ok (.iconst 1, 1) := by decide +kernel
theorem dX4_scanRun_169 : decode cX4_scanRun 169 = .ok (.bipush 6, 2) := by decide +kernel
theorem dX4_scanRun_171 : decode cX4_scanRun 171 = .ok (.invokestatic 104, 3) := by decide +kernel
theorem dX4_scanRun_174 : decode cX4_scanRun 174 = .ok (.ifCond .eq 8, 3) := by decide +kernel
theorem dX4_scanRun_177 : decode cX4_scanRun 177 = .ok (.aload_n 0, 1) := by decide +kernel
theorem dX4_scanRun_178 : decode cX4_scanRun 178 = .ok (.iconst 2, 1) := by decide +kernel
theorem dX4_scanRun_179 : decode cX4_scanRun 179 = .ok (.putfield 75, 3) := by decide +kernel
theorem dX4_scanRun_182 : decode cX4_scanRun 182 = .ok (.return_, 1) := by decide +kernel
theorem dX4_wordOf_0 : decode cX4_wordOf 0 = .ok (.iconst 0, 1) := by decide +kernel
theorem dX4_wordOf_1 : decode cX4_wordOf 1 = .ok (.istore_n 2, 1) := by decide +kernel
theorem dX4_wordOf_2 : decode cX4_wordOf 2 = .ok (.iload_n 2, 1) := by decide +kernel
theorem dX4_wordOf_3 : decode cX4_wordOf 3 = .ok (.getstatic 178, 3) := by decide +kernel
theorem dX4_wordOf_6 : decode cX4_wordOf 6 = .ok (.arraylength, 1) := by decide +kernel
theorem dX4_wordOf_7 : decode cX4_wordOf 7 = .ok (.if_icmp .ge 21, 3) := by decide +kernel
theorem dX4_wordOf_10 : decode cX4_wordOf 10 = .ok (.getstatic 178, 3) := by decide +kernel
theorem dX4_wordOf_13 : decode cX4_wordOf 13 = .ok (.iload_n 2, 1) := by decide +kernel
theorem dX4_wordOf_14 : decode cX4_wordOf 14 = .ok (.laload, 1) := by decide +kernel
theorem dX4_wordOf_15 : decode cX4_wordOf 15 = .ok (.lload_n 0, 1) := by decide +kernel
theorem dX4_wordOf_16 : decode cX4_wordOf 16 = .ok (.lcmp, 1) := by decide +kernel
theorem dX4_wordOf_17 : decode cX4_wordOf 17 = .ok (.ifCond .ne 5, 3) := by decide +kernel
theorem dX4_wordOf_20 : decode cX4_wordOf 20 = .ok (.iload_n 2, 1) := by decide +kernel
theorem dX4_wordOf_21 : decode cX4_wordOf 21 = .ok (.ireturn, 1) := by decide +kernel
theorem dX4_wordOf_22 : decode cX4_wordOf 22 = .ok (.iinc 2 1, 3) := by decide +kernel
theorem dX4_wordOf_25 : decode cX4_wordOf 25 = .ok (.goto (-23), 3) := by decide +kernel
theorem dX4_wordOf_28 : decode cX4_wordOf 28 = .ok (.iconst (-1), 1) := by decide +kernel
theorem dX4_wordOf_29 : decode cX4_wordOf 29 = .ok (.ireturn, 1) := by decide +kernel
theorem dX4_isBlank_0 : decode cX4_isBlank 0 = .ok (.iload_n 0, 1) := by decide +kernel
theorem dX4_isBlank_1 : decode cX4_isBlank 1 = .ok (.bipush 32, 2) := by decide +kernel
theorem dX4_isBlank_3 : decode cX4_isBlank 3 = .ok (.if_icmp .eq 9, 3) := by decide +kernel
theorem dX4_isBlank_6 : decode cX4_isBlank 6 = .ok (.iload_n 0, 1) := by decide +kernel
theorem dX4_isBlank_7 : decode cX4_isBlank 7 = .ok (.bipush 10, 2) := by decide +kernel
theorem dX4_isBlank_9 : decode cX4_isBlank 9 = .ok (.if_icmp .ne 7, 3) := by decide +kernel
theorem dX4_isBlank_12 : decode cX4_isBlank 12 = .ok (.iconst 1, 1) := by decide +kernel
theorem dX4_isBlank_13 : decode cX4_isBlank 13 = .ok (.goto 4, 3) := by decide +kernel
theorem dX4_isBlank_16 : decode cX4_isBlank 16 = .ok (.iconst 0, 1) := by decide +kernel
theorem dX4_isBlank_17 : decode cX4_isBlank 17 = .ok (.ireturn, 1) := by decide +kernel
theorem dX5_init_0 : decode cX5_init 0 = .ok (.aload_n 0, 1) := by decide +kernel
theorem dX5_init_1 : decode cX5_init 1 = .ok (.invokespecial 3, 3) := by decide +kernel
theorem dX5_init_4 : decode cX5_init 4 = .ok (.aload_n 0, 1) := by decide +kernel
theorem dX5_init_5 : decode cX5_init 5 = .ok (.sipush 240, 3) := by decide +kernel
theorem dX5_init_8 : decode cX5_init 8 = .ok (.newarray .long, 2) := by decide +kernel
theorem dX5_init_10 : decode cX5_init 10 = .ok (.putfield 9, 3) := by decide +kernel
theorem dX5_init_13 : decode cX5_init 13 = .ok (.aload_n 0, 1) := by decide +kernel
theorem dX5_init_14 : decode cX5_init 14 = .ok (.sipush 240, 3) := by decide +kernel
theorem dX5_init_17 : decode cX5_init 17 = .ok (.newarray .long, 2) := by decide +kernel
theorem dX5_init_19 : decode cX5_init 19 = .ok (.putfield 15, 3) := by decide +kernel
theorem dX5_init_22 : decode cX5_init 22 = .ok (.aload_n 0, 1) := by decide +kernel
theorem dX5_init_23 : decode cX5_init 23 = .ok (.sipush 240, 3) := by decide +kernel
theorem dX5_init_26 : decode cX5_init 26 = .ok (.newarray .long, 2) := by decide +kernel
theorem dX5_init_28 : decode cX5_init 28 = .ok (.putfield 18, 3) := by decide +kernel
theorem dX5_init_31 : decode cX5_init 31 = .ok (.aload_n 0, 1) := by decide +kernel
theorem dX5_init_32 : decode cX5_init 32 = .ok (.sipush 240, 3) := by decide +kernel
theorem dX5_init_35 : decode cX5_init 35 = .ok (.newarray .int, 2) := by decide +kernel
theorem dX5_init_37 : decode cX5_init 37 = .ok (.putfield 21, 3) := by decide +kernel
theorem dX5_init_40 : decode cX5_init 40 = .ok (.return_, 1) := by decide +kernel
theorem dX5_search_0 : decode cX5_search 0 = .ok (.aload_n 0, 1) := by decide +kernel
theorem dX5_search_1 : decode cX5_search 1 = .ok (.aload_n 1, 1) := by decide +kernel
theorem dX5_search_2 : decode cX5_search 2 = .ok (.putfield 25, 3) := by decide +kernel
theorem dX5_search_5 : decode cX5_search 5 = .ok (.aload_n 0, 1) := by decide +kernel
theorem dX5_search_6 : decode cX5_search 6 = .ok (.iload 4, 2) := by decide +kernel
theorem dX5_search_8 : decode cX5_search 8 = .ok (.iconst 0, 1) := by decide +kernel
theorem dX5_search_9 : decode cX5_search 9 = .ok (.invokestatic 29, 3) := by decide +kernel
theorem dX5_search_12 : decode cX5_search 12 = .ok (.putfield 35, 3) := by decide +kernel
theorem dX5_search_15 : decode cX5_search 15 = .ok (.aload_n 0, 1) := by decide +kernel
theorem dX5_search_16 : decode cX5_search 16 = .ok (.iload 5, 2) := by decide +kernel
theorem dX5_search_18 : decode cX5_search 18 = .ok (.bipush 24, 2) := by decide +kernel
theorem dX5_search_20 : decode cX5_search 20 = .ok (.invokestatic 39, 3) := by decide +kernel
theorem dX5_search_23 : decode cX5_search 23 = .ok (.putfield 42, 3) := by decide +kernel
theorem dX5_search_26 : decode cX5_search 26 = .ok (.aload_n 0, 1) := by decide +kernel
theorem dX5_search_27 : decode cX5_search 27 = .ok (.getfield 42, 3) := by decide +kernel
theorem dX5_search_30 : decode cX5_search 30 = .ok (.iconst 1, 1) := by decide +kernel
theorem dX5_search_31 : decode cX5_search 31 = .ok (.isub, 1) := by decide +kernel
theorem dX5_search_32 : decode cX5_search 32 = .ok (.istore 7, 2) := by decide +kernel
theorem dX5_search_34 : decode cX5_search 34 = .ok (.iload 7, 2) := by decide +kernel
theorem dX5_search_36 : decode cX5_search 36 = .ok (.aload_n 0, 1) := by decide +kernel
theorem dX5_search_37 : decode cX5_search 37 = .ok (.getfield 35, 3) := by decide +kernel
theorem dX5_search_40 : decode cX5_search 40 = .ok (.if_icmp .lt 82, 3) := by decide +kernel
theorem dX5_search_43 : decode cX5_search 43 = .ok (.aload_n 0, 1) := by decide +kernel
theorem dX5_search_44 : decode cX5_search 44 = .ok (.aload_n 2, 1) := by decide +kernel
theorem dX5_search_45 : decode cX5_search 45 = .ok (.iload_n 3, 1) := by decide +kernel
theorem dX5_search_46 : decode cX5_search 46 = .ok (.iload 7, 2) := by decide +kernel
theorem dX5_search_48 : decode cX5_search 48 = .ok (.invokevirtual 45, 3) := by decide +kernel
theorem dX5_search_51 : decode cX5_search 51 = .ok (.iload 7, 2) := by decide +kernel
theorem dX5_search_53 : decode cX5_search 53 = .ok (.invokevirtual 51, 3) := by decide +kernel
theorem dX5_search_56 : decode cX5_search 56 = .ok (.iconst 0, 1) := by decide +kernel
theorem dX5_search_57 : decode cX5_search 57 = .ok (.istore 8, 2) := by decide +kernel
theorem dX5_search_59 : decode cX5_search 59 = .ok (.iload 8, 2) := by decide +kernel
theorem dX5_search_61 : decode cX5_search 61 = .ok (.aload_n 0, 1) := by decide +kernel
theorem dX5_search_62 : decode cX5_search 62 = .ok (.getfield 25, 3) := by decide +kernel
theorem dX5_search_65 : decode cX5_search 65 = .ok (.getfield 55, 3) := by decide +kernel
theorem dX5_search_68 : decode cX5_search 68 = .ok (.if_icmp .ge 17, 3) := by decide +kernel
theorem dX5_search_71 : decode cX5_search 71 = .ok (.aload_n 0, 1) := by decide +kernel
theorem dX5_search_72 : decode cX5_search 72 = .ok (.iload 8, 2) := by decide +kernel
theorem dX5_search_74 : decode cX5_search 74 = .ok (.iload 7, 2) := by decide +kernel
theorem dX5_search_76 : decode cX5_search 76 = .ok (.invokevirtual 60, 3) := by decide +kernel
theorem dX5_search_79 : decode cX5_search 79 = .ok (.iinc 8 1, 3) := by decide +kernel
theorem dX5_search_82 : decode cX5_search 82 = .ok (.goto (-23), 3) := by decide +kernel
theorem dX5_search_85 : decode cX5_search 85 = .ok (.iconst 0, 1) := by decide +kernel
theorem dX5_search_86 : decode cX5_search 86 = .ok (.istore 8, 2) := by decide +kernel
theorem dX5_search_88 : decode cX5_search 88 = .ok (.iload 8, 2) := by decide +kernel
theorem dX5_search_90 : decode cX5_search 90 = .ok (.aload_n 0, 1) := by decide +kernel
theorem dX5_search_91 : decode cX5_search 91 = .ok (.getfield 25, 3) := by decide +kernel
theorem dX5_search_94 : decode cX5_search 94 = .ok (.getfield 55, 3) := by decide +kernel
theorem dX5_search_97 : decode cX5_search 97 = .ok (.if_icmp .ge 19, 3) := by decide +kernel
theorem dX5_search_100 : decode cX5_search 100 = .ok (.aload_n 0, 1) := by decide +kernel
theorem dX5_search_101 : decode cX5_search 101 = .ok (.iload 8, 2) := by decide +kernel
theorem dX5_search_103 : decode cX5_search 103 = .ok (.iload 7, 2) := by decide +kernel
theorem dX5_search_105 : decode cX5_search 105 = .ok (.iload 6, 2) := by decide +kernel
theorem dX5_search_107 : decode cX5_search 107 = .ok (.invokevirtual 64, 3) := by decide +kernel
theorem dX5_search_110 : decode cX5_search 110 = .ok (.iinc 8 1, 3) := by decide +kernel
theorem dX5_search_113 : decode cX5_search 113 = .ok (.goto (-25), 3) := by decide +kernel
theorem dX5_search_116 : decode cX5_search 116 = .ok (.iinc 7 (-1), 3) := by decide +kernel
theorem dX5_search_119 : decode cX5_search 119 = .ok (.goto (-85), 3) := by decide +kernel
theorem dX5_search_122 : decode cX5_search 122 = .ok (.aload_n 0, 1) := by decide +kernel
theorem dX5_search_123 : decode cX5_search 123 = .ok (.invokevirtual 68, 3) := by decide +kernel
theorem dX5_search_126 : decode cX5_search 126 = .ok (.lreturn, 1) := by decide +kernel
theorem dX5_writeRow_0 : decode cX5_writeRow 0 = .ok (.aload_n 0, 1) := by decide +kernel
theorem dX5_writeRow_1 : decode cX5_writeRow 1 = .ok (.getfield 72, 3) := by decide +kernel
theorem dX5_writeRow_4 : decode cX5_writeRow 4 = .ok (.istore_n 2, 1) := by decide +kernel
theorem dX5_writeRow_5 : decode cX5_writeRow 5 = .ok (.aload_n 0, 1) := by decide +kernel
theorem dX5_writeRow_6 : decode cX5_writeRow 6 = .ok (.getfield 35, 3) := by decide +kernel
theorem dX5_writeRow_9 : decode cX5_writeRow 9 = .ok (.aload_n 0, 1) := by decide +kernel
theorem dX5_writeRow_10 : decode cX5_writeRow 10 = .ok (.iload_n 2, 1) := by decide +kernel
theorem dX5_writeRow_11 : decode cX5_writeRow 11 = .ok (.invokevirtual 75, 3) := by decide +kernel
theorem dX5_writeRow_14 : decode cX5_writeRow 14 = .ok (.iadd, 1) := by decide +kernel
theorem dX5_writeRow_15 : decode cX5_writeRow 15 = .ok (.istore_n 3, 1) := by decide +kernel
theorem dX5_writeRow_16 : decode cX5_writeRow 16 = .ok (.aload_n 0, 1) := by decide +kernel
theorem dX5_writeRow_17 : decode cX5_writeRow 17 = .ok (.getfield 35, 3) := by decide +kernel
theorem dX5_writeRow_20 : decode cX5_writeRow 20 = .ok (.istore 4, 2) := by decide +kernel
theorem dX5_writeRow_22 : decode cX5_writeRow 22 = .ok (.iload 4, 2) := by decide +kernel
theorem dX5_writeRow_24 : decode cX5_writeRow 24 = .ok (.aload_n 0, 1) := by decide +kernel
theorem dX5_writeRow_25 : decode cX5_writeRow 25 = .ok (.getfield 42, 3) := by decide +kernel
theorem dX5_writeRow_28 : decode cX5_writeRow 28 = .ok (.if_icmp .ge 55, 3) := by decide +kernel
theorem dX5_writeRow_31 : decode cX5_writeRow 31 = .ok (.iload 4, 2) := by decide +kernel
theorem dX5_writeRow_33 : decode cX5_writeRow 33 = .ok (.aload_n 1, 1) := by decide +kernel
theorem dX5_writeRow_34 : decode cX5_writeRow 34 = .ok (.arraylength, 1) := by decide +kernel
theorem dX5_writeRow_35 : decode cX5_writeRow 35 = .ok (.if_icmp .ge 48, 3) := by decide +kernel
theorem dX5_writeRow_38 : decode cX5_writeRow 38 = .ok (.iload 4, 2) := by decide +kernel
theorem dX5_writeRow_40 : decode cX5_writeRow 40 = .ok (.iload_n 3, 1) := by decide +kernel
theorem dX5_writeRow_41 : decode cX5_writeRow 41 = .ok (.if_icmp .lt 31, 3) := by decide +kernel
theorem dX5_writeRow_44 : decode cX5_writeRow 44 = .ok (.aload_n 0, 1) := by decide +kernel
theorem dX5_writeRow_45 : decode cX5_writeRow 45 = .ok (.iload 4, 2) := by decide +kernel
theorem dX5_writeRow_47 : decode cX5_writeRow 47 = .ok (.iload_n 2, 1) := by decide +kernel
theorem dX5_writeRow_48 : decode cX5_writeRow 48 = .ok (.invokevirtual 79, 3) := by decide +kernel
theorem dX5_writeRow_51 : decode cX5_writeRow 51 = .ok (.iload_n 2, 1) := by decide +kernel
theorem dX5_writeRow_52 : decode cX5_writeRow 52 = .ok (.if_icmp .eq 20, 3) := by decide +kernel
theorem dX5_writeRow_55 : decode cX5_writeRow 55 = .ok (.aload_n 0, 1) := by decide +kernel
theorem dX5_writeRow_56 : decode cX5_writeRow 56 = .ok (.iload 4, 2) := by decide +kernel
theorem dX5_writeRow_58 : decode cX5_writeRow 58 = .ok (.iload_n 2, 1) := by decide +kernel
theorem dX5_writeRow_59 : decode cX5_writeRow 59 = .ok (.invokevirtual 79, 3) := by decide +kernel
theorem dX5_writeRow_62 : decode cX5_writeRow 62 = .ok (.istore_n 2, 1) := by decide +kernel
theorem dX5_writeRow_63 : decode cX5_writeRow 63 = .ok (.iload 4, 2) := by decide +kernel
theorem dX5_writeRow_65 : decode cX5_writeRow 65 = .ok (.aload_n 0, 1) := by decide +kernel
theorem dX5_writeRow_66 : decode cX5_writeRow 66 = .ok (.iload_n 2, 1) := by decide +kernel
theorem dX5_writeRow_67 : decode cX5_writeRow 67 = .ok (.invokevirtual 75, 3) := by decide +kernel
theorem dX5_writeRow_70 : decode cX5_writeRow 70 = .ok (.iadd, 1) := by decide +kernel
theorem dX5_writeRow_71 : decode cX5_writeRow 71 = .ok (.istore_n 3, 1) := by decide +kernel
theorem dX5_writeRow_72 : decode cX5_writeRow 72 = .ok (.aload_n 1, 1) := by decide +kernel
theorem dX5_writeRow_73 : decode cX5_writeRow 73 = .ok (.iload 4, 2) := by decide +kernel
theorem dX5_writeRow_75 : decode cX5_writeRow 75 = .ok (.iload_n 2, 1) := by decide +kernel
theorem dX5_writeRow_76 : decode cX5_writeRow 76 = .ok (.iastore, 1) := by decide +kernel
theorem dX5_writeRow_77 : decode cX5_writeRow 77 = .ok (.iinc 4 1, 3) := by decide +kernel
theorem dX5_writeRow_80 : decode cX5_writeRow 80 = .ok (.goto (-58), 3) := by decide +kernel
theorem dX5_writeRow_83 : decode cX5_writeRow 83 = .ok (.return_, 1) := by decide +kernel
theorem dX5_slot_0 : decode cX5_slot 0 = .ok (.iload_n 0, 1) := by decide +kernel
theorem dX5_slot_1 : decode cX5_slot 1 = .ok (.iconst 0, 1) := by decide +kernel
theorem dX5_slot_2 : decode cX5_slot 2 = .ok (.bipush 23, 2) := by decide +kernel
theorem dX5_slot_4 : decode cX5_slot 4 = .ok (.invokestatic 82, 3) := by decide +kernel
theorem dX5_slot_7 : decode cX5_slot 7 = .ok (.ifCond .eq 22, 3) := by decide +kernel
theorem dX5_slot_10 : decode cX5_slot 10 = .ok (.iload_n 1, 1) := by decide +kernel
theorem dX5_slot_11 : decode cX5_slot 11 = .ok (.iconst 0, 1) := by decide +kernel
theorem dX5_slot_12 : decode cX5_slot 12 = .ok (.bipush 9, 2) := by decide +kernel
theorem dX5_slot_14 : decode cX5_slot 14 = .ok (.invokestatic 82, 3) := by decide +kernel
theorem dX5_slot_17 : decode cX5_slot 17 = .ok (.ifCond .eq 12, 3) := by decide +kernel
theorem dX5_slot_20 : decode cX5_slot 20 = .ok (.iload_n 0, 1) := by decide +kernel
theorem dX5_slot_21 : decode cX5_slot 21 = .ok (.bipush 10, 2) := by decide +kernel
theorem dX5_slot_23 : decode cX5_slot 23 = .ok (.imul, 1) := by decide +kernel
theorem dX5_slot_24 : decode cX5_slot 24 = .ok (.iload_n 1, 1) := by decide +kernel
theorem dX5_slot_25 : decode cX5_slot 25 = .ok (.iadd, 1) := by decide +kernel
theorem dX5_slot_26 : decode cX5_slot 26 = .ok (.goto 4, 3) := by decide +kernel
theorem dX5_slot_29 : decode cX5_slot 29 = .ok (.iconst 0, 1) := by decide +kernel
theorem dX5_slot_30 : decode cX5_slot 30 = .ok (.ireturn, 1) := by decide +kernel
theorem dX5_termOf_0 : decode cX5_termOf 0 = .ok (.aload_n 0, 1) := by decide +kernel
theorem dX5_termOf_1 : decode cX5_termOf 1 = .ok (.getfield 25, 3) := by decide +kernel
theorem dX5_termOf_4 : decode cX5_termOf 4 = .ok (.ifnonnull 7, 3) := by decide +kernel
theorem dX5_termOf_7 : decode cX5_termOf 7 = .ok (.aconst_null, 1) := by decide +kernel
theorem dX5_termOf_8 : decode cX5_termOf 8 = .ok (.goto 11, 3) := by decide +kernel
theorem dX5_termOf_11 : decode cX5_termOf 11 = .ok (.aload_n 0, 1) := by decide +kernel
theorem dX5_termOf_12 : decode cX5_termOf 12 = .ok (.getfield 25, 3) := by decide +kernel
theorem dX5_termOf_15 : decode cX5_termOf 15 = .ok (.iload_n 1, 1) := by decide +kernel
theorem dX5_termOf_16 : decode cX5_termOf 16 = .ok (.invokevirtual 86, 3) := by decide +kernel
theorem dX5_termOf_19 : decode cX5_termOf 19 = .ok (.astore_n 2, 1) := by decide +kernel
theorem dX5_termOf_20 : decode cX5_termOf 20 = .ok (.aload_n 2, 1) := by decide +kernel
theorem dX5_termOf_21 : decode cX5_termOf 21 = .ok (.ifnonnull 7, 3) := by decide +kernel
theorem dX5_termOf_24 : decode cX5_termOf 24 = .ok (.iconst 1, 1) := by decide +kernel
theorem dX5_termOf_25 : decode cX5_termOf 25 = .ok (.goto 7, 3) := by decide +kernel
theorem dX5_termOf_28 : decode cX5_termOf 28 = .ok (.aload_n 2, 1) := by decide +kernel
theorem dX5_termOf_29 : decode cX5_termOf 29 = .ok (.getfield 90, 3) := by decide +kernel
theorem dX5_termOf_32 : decode cX5_termOf 32 = .ok (.ireturn, 1) := by decide +kernel
theorem dX5_choiceAt_0 : decode cX5_choiceAt 0 = .ok (.aload_n 0, 1) := by decide +kernel
theorem dX5_choiceAt_1 : decode cX5_choiceAt 1 = .ok (.getfield 21, 3) := by decide +kernel
theorem dX5_choiceAt_4 : decode cX5_choiceAt 4 = .ok (.iload_n 1, 1) := by decide +kernel
theorem dX5_choiceAt_5 : decode cX5_choiceAt 5 = .ok (.iload_n 2, 1) := by decide +kernel
theorem dX5_choiceAt_6 : decode cX5_choiceAt 6 = .ok (.invokestatic 95, 3) := by decide +kernel
theorem dX5_choiceAt_9 : decode cX5_choiceAt 9 = .ok (.iaload, 1) := by decide +kernel
theorem dX5_choiceAt_10 : decode cX5_choiceAt 10 = .ok (.ireturn, 1) := by decide +kernel
theorem dX5_fillMonthCents_0 : decode cX5_fillMonthCents 0 = .ok (.iconst 0, 1) := by decide +kernel
theorem dX5_fillMonthCents_1 : decode cX5_fillMonthCents 1 = .ok (.istore_n 3, 1) := by decide +kernel
theorem dX5_fillMonthCents_2 : decode cX5_fillMonthCents 2 = .ok (.iload_n 3, 1) := by decide +kernel
theorem dX5_fillMonthCents_3 : decode cX5_fillMonthCents 3 = .ok (.aload_n 0, 1) := by decide +kernel
theorem dX5_fillMonthCents_4 : decode cX5_fillMonthCents 4 = .ok (.getfield 25, 3) := by decide +kernel
theorem dX5_fillMonthCents_7 : decode cX5_fillMonthCents 7 = .ok (.getfield 55, 3) := by decide +kernel
theorem dX5_fillMonthCents_10 : decode cX5_fillMonthCents 10 = .ok (.if_icmp .ge 46, 3) := by decide +kernel
theorem dX5_fillMonthCents_13 : decode cX5_fillMonthCents 13 = .ok (.aload_n 0, 1) := by decide +kernel
theorem dX5_fillMonthCents_14 : decode cX5_fillMonthCents 14 = .ok (.getfield 25, 3) := by decide +kernel
theorem dX5_fillMonthCents_17 : decode cX5_fillMonthCents 17 = .ok (.iload_n 3, 1) := by decide +kernel
theorem dX5_fillMonthCents_18 : decode cX5_fillMonthCents 18 = .ok (.invokevirtual 86, 3) := by decide +kernel
theorem dX5_fillMonthCents_21 : decode cX5_fillMonthCents 21 = .ok (.astore 4, 2) := by decide +kernel
theorem dX5_fillMonthCents_23 : decode cX5_fillMonthCents 23 = .ok (.aload_n 0, 1) := by decide +kernel
theorem dX5_fillMonthCents_24 : decode cX5_fillMonthCents 24 = .ok (.getfield 9, 3) := by decide +kernel
theorem dX5_fillMonthCents_27 : decode cX5_fillMonthCents 27 = .ok (.iload_n 2, 1) := by decide +kernel
theorem dX5_fillMonthCents_28 : decode cX5_fillMonthCents 28 = .ok (.iload_n 3, 1) := by decide +kernel
theorem dX5_fillMonthCents_29 : decode cX5_fillMonthCents 29 = .ok (.invokestatic 95, 3) := by decide +kernel
theorem dX5_fillMonthCents_32 : decode cX5_fillMonthCents 32 = .ok (.aload 4, 2) := by decide +kernel
theorem dX5_fillMonthCents_34 : decode cX5_fillMonthCents 34 = .ok (.ifnonnull 9, 3) := by decide +kernel
theorem dX5_fillMonthCents_37 : decode cX5_fillMonthCents 37 = .ok (.ldc2_w 98, 3) := by decide +kernel
theorem dX5_fillMonthCents_40 : decode cX5_fillMonthCents 40 = .ok (.goto 9, 3) := by decide +kernel
theorem dX5_fillMonthCents_43 : decode cX5_fillMonthCents 43 = .ok (.aload 4, 2) := by decide +kernel
theorem dX5_fillMonthCents_45 : decode cX5_fillMonthCents 45 = .ok (.aload_n 1, 1) := by decide +kernel
theorem dX5_fillMonthCents_46 : decode cX5_fillMonthCents 46 = .ok (.invokevirtual 100, 3) := by decide +kernel
theorem dX5_fillMonthCents_49 : decode cX5_fillMonthCents 49 = .ok (.lastore, 1) := by decide +kernel
theorem dX5_fillMonthCents_50 : decode cX5_fillMonthCents 50 = .ok (.iinc 3 1, 3) := by decide +kernel
theorem dX5_fillMonthCents_53 : decode cX5_fillMonthCents 53 = .ok (.goto (-51), 3) := by decide +kernel
theorem dX5_fillMonthCents_56 : decode cX5_fillMonthCents 56 = .ok (.return_, 1) := by decide +kernel
theorem dX5_fillBegun_0 : decode cX5_fillBegun 0 = .ok (.aload_n 0, 1) := by decide +kernel
theorem dX5_fillBegun_1 : decode cX5_fillBegun 1 = .ok (.getfield 25, 3) := by decide +kernel
theorem dX5_fillBegun_4 : decode cX5_fillBegun 4 = .ok (.iload_n 1, 1) := by decide +kernel
theorem dX5_fillBegun_5 : decode cX5_fillBegun 5 = .ok (.invokevirtual 86, 3) := by decide +kernel
theorem dX5_fillBegun_8 : decode cX5_fillBegun 8 = .ok (.astore_n 3, 1) := by decide +kernel
theorem dX5_fillBegun_9 : decode cX5_fillBegun 9 = .ok (.ldc2_w 98, 3) := by decide +kernel
theorem dX5_fillBegun_12 : decode cX5_fillBegun 12 = .ok (.lstore 4, 2) := by decide +kernel
theorem dX5_fillBegun_14 : decode cX5_fillBegun 14 = .ok (.aload_n 3, 1) := by decide +kernel
theorem dX5_fillBegun_15 : decode cX5_fillBegun 15 = .ok (.ifnull 86, 3) := by decide +kernel
theorem dX5_fillBegun_18 : decode cX5_fillBegun 18 = .ok (.aload_n 3, 1) := by decide +kernel
theorem dX5_fillBegun_19 : decode cX5_fillBegun 19 = .ok (.iload_n 2, 1) := by decide +kernel
theorem dX5_fillBegun_20 : decode cX5_fillBegun 20 = .ok (.invokevirtual 103, 3) := by decide +kernel
theorem dX5_fillBegun_23 : decode cX5_fillBegun 23 = .ok (.ifCond .eq 78, 3) := by decide +kernel
theorem dX5_fillBegun_26 : decode cX5_fillBegun 26 = .ok (.iload_n 2, 1) := by decide +kernel
theorem dX5_fillBegun_27 : decode cX5_fillBegun 27 = .ok (.aload_n 3, 1) := by decide +kernel
theorem dX5_fillBegun_28 : decode cX5_fillBegun 28 = .ok (.getfield 90, 3) := by decide +kernel
theorem dX5_fillBegun_31 : decode cX5_fillBegun 31 = .ok (.iadd, 1) := by decide +kernel
theorem dX5_fillBegun_32 : decode cX5_fillBegun 32 = .ok (.aload_n 0, 1) := by decide +kernel
theorem dX5_fillBegun_33 : decode cX5_fillBegun 33 = .ok (.getfield 42, 3) := by decide +kernel
theorem dX5_fillBegun_36 : decode cX5_fillBegun 36 = .ok (.invokestatic 39, 3) := by decide +kernel
theorem dX5_fillBegun_39 : decode cX5_fillBegun 39 = .ok (.istore 6, 2) := by decide +kernel
theorem dX5_fillBegun_41 : decode cX5_fillBegun 41 = .ok (.iload 6, 2) := by decide +kernel
theorem dX5_fillBegun_43 : decode cX5_fillBegun 43 = .ok (.aload_n 0, 1) := by decide +kernel
theorem dX5_fillBegun_44 : decode cX5_fillBegun 44 = .ok (.getfield 42, 3) := by decide +kernel
theorem dX5_fillBegun_47 : decode cX5_fillBegun 47 = .ok (.if_icmp .ge 17, 3) := by decide +kernel
theorem dX5_fillBegun_50 : decode cX5_fillBegun 50 = .ok (.aload_n 0, 1) := by decide +kernel
theorem dX5_fillBegun_51 : decode cX5_fillBegun 51 = .ok (.getfield 18, 3) := by decide +kernel
theorem dX5_fillBegun_54 : decode cX5_fillBegun 54 = .ok (.iload 6, 2) := by decide +kernel
theorem dX5_fillBegun_56 : decode cX5_fillBegun 56 = .ok (.iload_n 1, 1) := by decide +kernel
theorem dX5_fillBegun_57 : decode cX5_fillBegun 57 = .ok (.invokestatic 95, 3) := by decide +kernel
theorem dX5_fillBegun_60 : decode cX5_fillBegun 60 = .ok (.laload, 1) := by decide +kernel
theorem dX5_fillBegun_61 : decode cX5_fillBegun 61 = .ok (.goto 4, 3) := by decide +kernel
theorem dX5_fillBegun_64 : decode cX5_fillBegun 64 = .ok (.lconst 0, 1) := by decide +kernel
theorem dX5_fillBegun_65 : decode cX5_fillBegun 65 = .ok (.lstore 4, 2) := by decide +kernel
theorem dX5_fillBegun_67 : decode cX5_fillBegun 67 = .ok (.iload_n 2, 1) := by decide +kernel
theorem dX5_fillBegun_68 : decode cX5_fillBegun 68 = .ok (.istore 7, 2) := by decide +kernel
theorem dX5_fillBegun_70 : decode cX5_fillBegun 70 = .ok (.iload 7, 2) := by decide +kernel
theorem dX5_fillBegun_72 : decode cX5_fillBegun 72 = .ok (.iload 6, 2) := by decide +kernel
theorem dX5_fillBegun_74 : decode cX5_fillBegun 74 = .ok (.if_icmp .ge 27, 3) := by decide +kernel
theorem dX5_fillBegun_77 : decode cX5_fillBegun 77 = .ok (.lload 4, 2) := by decide +kernel
theorem dX5_fillBegun_79 : decode cX5_fillBegun 79 = .ok (.aload_n 0, 1) := by decide +kernel
theorem dX5_fillBegun_80 : decode cX5_fillBegun 80 = .ok (.getfield 9, 3) := by decide +kernel
theorem dX5_fillBegun_83 : decode cX5_fillBegun 83 = .ok (.iload 7, 2) := by decide +kernel
theorem dX5_fillBegun_85 : decode cX5_fillBegun 85 = .ok (.iload_n 1, 1) := by decide +kernel
theorem dX5_fillBegun_86 : decode cX5_fillBegun 86 = .ok (.invokestatic 95, 3) := by decide +kernel
theorem dX5_fillBegun_89 : decode cX5_fillBegun 89 = .ok (.laload, 1) := by decide +kernel
theorem dX5_fillBegun_90 : decode cX5_fillBegun 90 = .ok (.invokestatic 107, 3) := by decide +kernel
theorem dX5_fillBegun_93 : decode cX5_fillBegun 93 = .ok (.lstore 4, 2) := by decide +kernel
theorem dX5_fillBegun_95 : decode cX5_fillBegun 95 = .ok (.iinc 7 1, 3) := by decide +kernel
theorem dX5_fillBegun_98 : decode cX5_fillBegun 98 = .ok (.goto (-28), 3) := by decide +kernel
theorem dX5_fillBegun_101 : decode cX5_fillBegun 101 = .ok (.aload_n 0, 1) := by decide +kernel
theorem dX5_fillBegun_102 : decode cX5_fillBegun 102 = .ok (.getfield 15, 3) := by decide +kernel
theorem dX5_fillBegun_105 : decode cX5_fillBegun 105 = .ok (.iload_n 2, 1) := by decide +kernel
theorem dX5_fillBegun_106 : decode cX5_fillBegun 106 = .ok (.iload_n 1, 1) := by decide +kernel
theorem dX5_fillBegun_107 : decode cX5_fillBegun 107 = .ok (.invokestatic 95, 3) := by decide +kernel
theorem dX5_fillBegun_110 : decode cX5_fillBegun 110 = .ok (.lload 4, 2) := by decide +kernel
theorem dX5_fillBegun_112 : decode cX5_fillBegun 112 = .ok (.lastore, 1) := by decide +kernel
theorem dX5_fillBegun_113 : decode cX5_fillBegun 113 = .ok (.return_, 1) := by decide +kernel
theorem dX5_fillFreed_0 : decode cX5_fillFreed 0 = .ok (.ldc2_w 98, 3) := by decide +kernel
theorem dX5_fillFreed_3 : decode cX5_fillFreed 3 = .ok (.lstore 4, 2) := by decide +kernel
theorem dX5_fillFreed_5 : decode cX5_fillFreed 5 = .ok (.iconst (-1), 1) := by decide +kernel
theorem dX5_fillFreed_6 : decode cX5_fillFreed 6 = .ok (.istore 6, 2) := by decide +kernel
theorem dX5_fillFreed_8 : decode cX5_fillFreed 8 = .ok (.iconst 0, 1) := by decide +kernel
theorem dX5_fillFreed_9 : decode cX5_fillFreed 9 = .ok (.istore 7, 2) := by decide +kernel
theorem dX5_fillFreed_11 : decode cX5_fillFreed 11 = .ok (.iload 7, 2) := by decide +kernel
theorem dX5_fillFreed_13 : decode cX5_fillFreed 13 = .ok (.aload_n 0, 1) := by decide +kernel
theorem dX5_fillFreed_14 : decode cX5_fillFreed 14 = .ok (.getfield 25, 3) := by decide +kernel
theorem dX5_fillFreed_17 : decode cX5_fillFreed 17 = .ok (.getfield 55, 3) := by decide +kernel
theorem dX5_fillFreed_20 : decode cX5_fillFreed 20 = .ok (.if_icmp .ge 60, 3) := by decide +kernel
theorem dX5_fillFreed_23 : decode cX5_fillFreed 23 = .ok (.iload 7, 2) := by decide +kernel
theorem dX5_fillFreed_25 : decode cX5_fillFreed 25 = .ok (.iload_n 1, 1) := by decide +kernel
theorem dX5_fillFreed_26 : decode cX5_fillFreed 26 = .ok (.if_icmp .ne 12, 3) := by decide +kernel
theorem dX5_fillFreed_29 : decode cX5_fillFreed 29 = .ok (.aload_n 0, 1) := by decide +kernel
theorem dX5_fillFreed_30 : decode cX5_fillFreed 30 = .ok (.iload_n 1, 1) := by decide +kernel
theorem dX5_fillFreed_31 : decode cX5_fillFreed 31 = .ok (.iload_n 2, 1) := by decide +kernel
theorem dX5_fillFreed_32 : decode cX5_fillFreed 32 = .ok (.invokevirtual 111, 3) := by decide +kernel
theorem dX5_fillFreed_35 : decode cX5_fillFreed 35 = .ok (.goto 19, 3) := by decide +kernel
theorem dX5_fillFreed_38 : decode cX5_fillFreed 38 = .ok (.aload_n 0, 1) := by decide +kernel
theorem dX5_fillFreed_39 : decode cX5_fillFreed 39 = .ok (.getfield 15, 3) := by decide +kernel
theorem dX5_fillFreed_42 : decode cX5_fillFreed 42 = .ok (.iload_n 2, 1) := by decide +kernel
theorem dX5_fillFreed_43 : decode cX5_fillFreed 43 = .ok (.iload 7, 2) := by decide +kernel
theorem dX5_fillFreed_45 : decode cX5_fillFreed 45 = .ok (.invokestatic 95, 3) := by decide +kernel
theorem dX5_fillFreed_48 : decode cX5_fillFreed 48 = .ok (.laload, 1) := by decide +kernel
theorem dX5_fillFreed_49 : decode cX5_fillFreed 49 = .ok (.iload_n 3, 1) := by decide +kernel
theorem dX5_fillFreed_50 : decode cX5_fillFreed 50 = .ok (.i2l, 1) := by decide +kernel
theorem dX5_fillFreed_51 : decode cX5_fillFreed 51 = .ok (.invokestatic 107, 3) := by decide +kernel
theorem dX5_fillFreed_54 : decode cX5_fillFreed 54 = .ok (.lstore 8, 2) := by decide +kernel
theorem dX5_fillFreed_56 : decode cX5_fillFreed 56 = .ok (.lload 8, 2) := by decide +kernel
theorem dX5_fillFreed_58 : decode cX5_fillFreed 58 = .ok (.lload 4, 2) := by decide +kernel
theorem dX5_fillFreed_60 : decode cX5_fillFreed 60 = .ok (.invokestatic 115, 3) := by decide +kernel
theorem dX5_fillFreed_63 : decode cX5_fillFreed 63 = .ok (.ifCond .eq 11, 3) := by decide +kernel
theorem dX5_fillFreed_66 : decode cX5_fillFreed 66 = .ok (.lload 8, 2) := by decide +kernel
theorem dX5_fillFreed_68 : decode cX5_fillFreed 68 = .ok (.lstore 4, 2) := by decide +kernel
theorem dX5_fillFreed_70 : decode cX5_fillFreed 70 = .ok (.iload 7, 2) := by decide +kernel
theorem dX5_fillFreed_72 : decode cX5_fillFreed 72 = .ok (.istore 6, 2) := by decide +kernel
theorem dX5_fillFreed_74 : decode cX5_fillFreed 74 = .ok (.iinc 7 1, 3) := by decide +kernel
theorem dX5_fillFreed_77 : decode cX5_fillFreed 77 = .ok (.goto (-66), 3) := by decide +kernel
theorem dX5_fillFreed_80 : decode cX5_fillFreed 80 = .ok (.aload_n 0, 1) := by decide +kernel
theorem dX5_fillFreed_81 : decode cX5_fillFreed 81 = .ok (.getfield 18, 3) := by decide +kernel
theorem dX5_fillFreed_84 : decode cX5_fillFreed 84 = .ok (.iload_n 2, 1) := by decide +kernel
end
section
theorem dX5_fillFreed_85 : decode cX5_fillFreed 85 = .ok (.iload_n 1, 1) := by decide +kernel
theorem dX5_fillFreed_86 : decode cX5_fillFreed 86 = .ok (.invokestatic 95, 3) := by decide +kernel
theorem dX5_fillFreed_89 : decode cX5_fillFreed 89 = .ok (.lload 4, 2) := by decide +kernel
theorem dX5_fillFreed_91 : decode cX5_fillFreed 91 = .ok (.lastore, 1) := by decide +kernel
theorem dX5_fillFreed_92 : decode cX5_fillFreed 92 = .ok (.aload_n 0, 1) := by decide +kernel
theorem dX5_fillFreed_93 : decode cX5_fillFreed 93 = .ok (.getfield 21, 3) := by decide +kernel
theorem dX5_fillFreed_96 : decode cX5_fillFreed 96 = .ok (.iload_n 2, 1) := by decide +kernel
theorem dX5_fillFreed_97 : decode cX5_fillFreed 97 = .ok (.iload_n 1, 1) := by decide +kernel
theorem dX5_fillFreed_98 : decode cX5_fillFreed 98 = .ok (.invokestatic 95, 3) := by decide +kernel
theorem dX5_fillFreed_101 : decode cX5_fillFreed 101 = .ok (.iload 6, 2) := by decide +kernel
theorem dX5_fillFreed_103 : decode cX5_fillFreed 103 = .ok (.iastore, 1) := by decide +kernel
theorem dX5_fillFreed_104 : decode cX5_fillFreed 104 = .ok (.return_, 1) := by decide +kernel
theorem dX5_keptCents_0 : decode cX5_keptCents 0 = .ok (.iload_n 2, 1) := by decide +kernel
theorem dX5_keptCents_1 : decode cX5_keptCents 1 = .ok (.iconst 1, 1) := by decide +kernel
theorem dX5_keptCents_2 : decode cX5_keptCents 2 = .ok (.iadd, 1) := by decide +kernel
theorem dX5_keptCents_3 : decode cX5_keptCents 3 = .ok (.aload_n 0, 1) := by decide +kernel
theorem dX5_keptCents_4 : decode cX5_keptCents 4 = .ok (.getfield 42, 3) := by decide +kernel
theorem dX5_keptCents_7 : decode cX5_keptCents 7 = .ok (.if_icmp .ge 18, 3) := by decide +kernel
theorem dX5_keptCents_10 : decode cX5_keptCents 10 = .ok (.aload_n 0, 1) := by decide +kernel
theorem dX5_keptCents_11 : decode cX5_keptCents 11 = .ok (.getfield 18, 3) := by decide +kernel
theorem dX5_keptCents_14 : decode cX5_keptCents 14 = .ok (.iload_n 2, 1) := by decide +kernel
theorem dX5_keptCents_15 : decode cX5_keptCents 15 = .ok (.iconst 1, 1) := by decide +kernel
theorem dX5_keptCents_16 : decode cX5_keptCents 16 = .ok (.iadd, 1) := by decide +kernel
theorem dX5_keptCents_17 : decode cX5_keptCents 17 = .ok (.iload_n 1, 1) := by decide +kernel
theorem dX5_keptCents_18 : decode cX5_keptCents 18 = .ok (.invokestatic 95, 3) := by decide +kernel
theorem dX5_keptCents_21 : decode cX5_keptCents 21 = .ok (.laload, 1) := by decide +kernel
theorem dX5_keptCents_22 : decode cX5_keptCents 22 = .ok (.goto 4, 3) := by decide +kernel
theorem dX5_keptCents_25 : decode cX5_keptCents 25 = .ok (.lconst 0, 1) := by decide +kernel
theorem dX5_keptCents_26 : decode cX5_keptCents 26 = .ok (.lstore_n 3, 1) := by decide +kernel
theorem dX5_keptCents_27 : decode cX5_keptCents 27 = .ok (.aload_n 0, 1) := by decide +kernel
theorem dX5_keptCents_28 : decode cX5_keptCents 28 = .ok (.getfield 9, 3) := by decide +kernel
theorem dX5_keptCents_31 : decode cX5_keptCents 31 = .ok (.iload_n 2, 1) := by decide +kernel
theorem dX5_keptCents_32 : decode cX5_keptCents 32 = .ok (.iload_n 1, 1) := by decide +kernel
theorem dX5_keptCents_33 : decode cX5_keptCents 33 = .ok (.invokestatic 95, 3) := by decide +kernel
theorem dX5_keptCents_36 : decode cX5_keptCents 36 = .ok (.laload, 1) := by decide +kernel
theorem dX5_keptCents_37 : decode cX5_keptCents 37 = .ok (.lload_n 3, 1) := by decide +kernel
theorem dX5_keptCents_38 : decode cX5_keptCents 38 = .ok (.invokestatic 107, 3) := by decide +kernel
theorem dX5_keptCents_41 : decode cX5_keptCents 41 = .ok (.lreturn, 1) := by decide +kernel
theorem dX5_chooseFirst_0 : decode cX5_chooseFirst 0 = .ok (.ldc2_w 98, 3) := by decide +kernel
theorem dX5_chooseFirst_3 : decode cX5_chooseFirst 3 = .ok (.lstore_n 1, 1) := by decide +kernel
theorem dX5_chooseFirst_4 : decode cX5_chooseFirst 4 = .ok (.iconst 0, 1) := by decide +kernel
theorem dX5_chooseFirst_5 : decode cX5_chooseFirst 5 = .ok (.istore_n 3, 1) := by decide +kernel
theorem dX5_chooseFirst_6 : decode cX5_chooseFirst 6 = .ok (.iload_n 3, 1) := by decide +kernel
theorem dX5_chooseFirst_7 : decode cX5_chooseFirst 7 = .ok (.aload_n 0, 1) := by decide +kernel
theorem dX5_chooseFirst_8 : decode cX5_chooseFirst 8 = .ok (.getfield 25, 3) := by decide +kernel
theorem dX5_chooseFirst_11 : decode cX5_chooseFirst 11 = .ok (.getfield 55, 3) := by decide +kernel
theorem dX5_chooseFirst_14 : decode cX5_chooseFirst 14 = .ok (.if_icmp .ge 41, 3) := by decide +kernel
theorem dX5_chooseFirst_17 : decode cX5_chooseFirst 17 = .ok (.aload_n 0, 1) := by decide +kernel
theorem dX5_chooseFirst_18 : decode cX5_chooseFirst 18 = .ok (.getfield 15, 3) := by decide +kernel
theorem dX5_chooseFirst_21 : decode cX5_chooseFirst 21 = .ok (.aload_n 0, 1) := by decide +kernel
theorem dX5_chooseFirst_22 : decode cX5_chooseFirst 22 = .ok (.getfield 35, 3) := by decide +kernel
theorem dX5_chooseFirst_25 : decode cX5_chooseFirst 25 = .ok (.iload_n 3, 1) := by decide +kernel
theorem dX5_chooseFirst_26 : decode cX5_chooseFirst 26 = .ok (.invokestatic 95, 3) := by decide +kernel
theorem dX5_chooseFirst_29 : decode cX5_chooseFirst 29 = .ok (.laload, 1) := by decide +kernel
theorem dX5_chooseFirst_30 : decode cX5_chooseFirst 30 = .ok (.lstore 4, 2) := by decide +kernel
theorem dX5_chooseFirst_32 : decode cX5_chooseFirst 32 = .ok (.lload 4, 2) := by decide +kernel
theorem dX5_chooseFirst_34 : decode cX5_chooseFirst 34 = .ok (.lload_n 1, 1) := by decide +kernel
theorem dX5_chooseFirst_35 : decode cX5_chooseFirst 35 = .ok (.invokestatic 115, 3) := by decide +kernel
theorem dX5_chooseFirst_38 : decode cX5_chooseFirst 38 = .ok (.ifCond .eq 11, 3) := by decide +kernel
theorem dX5_chooseFirst_41 : decode cX5_chooseFirst 41 = .ok (.lload 4, 2) := by decide +kernel
theorem dX5_chooseFirst_43 : decode cX5_chooseFirst 43 = .ok (.lstore_n 1, 1) := by decide +kernel
theorem dX5_chooseFirst_44 : decode cX5_chooseFirst 44 = .ok (.aload_n 0, 1) := by decide +kernel
theorem dX5_chooseFirst_45 : decode cX5_chooseFirst 45 = .ok (.iload_n 3, 1) := by decide +kernel
theorem dX5_chooseFirst_46 : decode cX5_chooseFirst 46 = .ok (.putfield 72, 3) := by decide +kernel
theorem dX5_chooseFirst_49 : decode cX5_chooseFirst 49 = .ok (.iinc 3 1, 3) := by decide +kernel
theorem dX5_chooseFirst_52 : decode cX5_chooseFirst 52 = .ok (.goto (-46), 3) := by decide +kernel
theorem dX5_chooseFirst_55 : decode cX5_chooseFirst 55 = .ok (.lload_n 1, 1) := by decide +kernel
theorem dX5_chooseFirst_56 : decode cX5_chooseFirst 56 = .ok (.lreturn, 1) := by decide +kernel
theorem dX6_init_0 : decode cX6_init 0 = .ok (.aload_n 0, 1) := by decide +kernel
theorem dX6_init_1 : decode cX6_init 1 = .ok (.invokespecial 3, 3) := by decide +kernel
theorem dX6_init_4 : decode cX6_init 4 = .ok (.aload_n 0, 1) := by decide +kernel
theorem dX6_init_5 : decode cX6_init 5 = .ok (.sipush 840, 3) := by decide +kernel
theorem dX6_init_8 : decode cX6_init 8 = .ok (.newarray .byte, 2) := by decide +kernel
theorem dX6_init_10 : decode cX6_init 10 = .ok (.putfield 9, 3) := by decide +kernel
theorem dX6_init_13 : decode cX6_init 13 = .ok (.return_, 1) := by decide +kernel
theorem dX6_append_0 : decode cX6_append 0 = .ok (.bipush 24, 2) := by decide +kernel
theorem dX6_append_2 : decode cX6_append 2 = .ok (.istore_n 2, 1) := by decide +kernel
theorem dX6_append_3 : decode cX6_append 3 = .ok (.iload_n 2, 1) := by decide +kernel
theorem dX6_append_4 : decode cX6_append 4 = .ok (.ifCond .lt 42, 3) := by decide +kernel
theorem dX6_append_7 : decode cX6_append 7 = .ok (.aload_n 0, 1) := by decide +kernel
theorem dX6_append_8 : decode cX6_append 8 = .ok (.getfield 15, 3) := by decide +kernel
theorem dX6_append_11 : decode cX6_append 11 = .ok (.sipush 840, 3) := by decide +kernel
theorem dX6_append_14 : decode cX6_append 14 = .ok (.if_icmp .ge 32, 3) := by decide +kernel
theorem dX6_append_17 : decode cX6_append 17 = .ok (.aload_n 0, 1) := by decide +kernel
theorem dX6_append_18 : decode cX6_append 18 = .ok (.getfield 9, 3) := by decide +kernel
theorem dX6_append_21 : decode cX6_append 21 = .ok (.aload_n 0, 1) := by decide +kernel
theorem dX6_append_22 : decode cX6_append 22 = .ok (.getfield 15, 3) := by decide +kernel
theorem dX6_append_25 : decode cX6_append 25 = .ok (.iload_n 1, 1) := by decide +kernel
theorem dX6_append_26 : decode cX6_append 26 = .ok (.iload_n 2, 1) := by decide +kernel
theorem dX6_append_27 : decode cX6_append 27 = .ok (.ishr, 1) := by decide +kernel
theorem dX6_append_28 : decode cX6_append 28 = .ok (.i2b, 1) := by decide +kernel
theorem dX6_append_29 : decode cX6_append 29 = .ok (.bastore, 1) := by decide +kernel
theorem dX6_append_30 : decode cX6_append 30 = .ok (.aload_n 0, 1) := by decide +kernel
theorem dX6_append_31 : decode cX6_append 31 = .ok (.dup, 1) := by decide +kernel
theorem dX6_append_32 : decode cX6_append 32 = .ok (.getfield 15, 3) := by decide +kernel
theorem dX6_append_35 : decode cX6_append 35 = .ok (.iconst 1, 1) := by decide +kernel
theorem dX6_append_36 : decode cX6_append 36 = .ok (.iadd, 1) := by decide +kernel
theorem dX6_append_37 : decode cX6_append 37 = .ok (.putfield 15, 3) := by decide +kernel
theorem dX6_append_40 : decode cX6_append 40 = .ok (.iinc 2 (-8), 3) := by decide +kernel
theorem dX6_append_43 : decode cX6_append 43 = .ok (.goto (-40), 3) := by decide +kernel
theorem dX6_append_46 : decode cX6_append 46 = .ok (.return_, 1) := by decide +kernel
theorem dX6_byteAt_0 : decode cX6_byteAt 0 = .ok (.iload_n 1, 1) := by decide +kernel
theorem dX6_byteAt_1 : decode cX6_byteAt 1 = .ok (.ifCond .lt 18, 3) := by decide +kernel
theorem dX6_byteAt_4 : decode cX6_byteAt 4 = .ok (.iload_n 1, 1) := by decide +kernel
theorem dX6_byteAt_5 : decode cX6_byteAt 5 = .ok (.aload_n 0, 1) := by decide +kernel
theorem dX6_byteAt_6 : decode cX6_byteAt 6 = .ok (.getfield 15, 3) := by decide +kernel
theorem dX6_byteAt_9 : decode cX6_byteAt 9 = .ok (.if_icmp .ge 10, 3) := by decide +kernel
theorem dX6_byteAt_12 : decode cX6_byteAt 12 = .ok (.iload_n 1, 1) := by decide +kernel
theorem dX6_byteAt_13 : decode cX6_byteAt 13 = .ok (.sipush 840, 3) := by decide +kernel
theorem dX6_byteAt_16 : decode cX6_byteAt 16 = .ok (.if_icmp .lt 7, 3) := by decide +kernel
theorem dX6_byteAt_19 : decode cX6_byteAt 19 = .ok (.iconst (-1), 1) := by decide +kernel
theorem dX6_byteAt_20 : decode cX6_byteAt 20 = .ok (.goto 13, 3) := by decide +kernel
theorem dX6_byteAt_23 : decode cX6_byteAt 23 = .ok (.aload_n 0, 1) := by decide +kernel
theorem dX6_byteAt_24 : decode cX6_byteAt 24 = .ok (.getfield 9, 3) := by decide +kernel
theorem dX6_byteAt_27 : decode cX6_byteAt 27 = .ok (.iload_n 1, 1) := by decide +kernel
theorem dX6_byteAt_28 : decode cX6_byteAt 28 = .ok (.baload, 1) := by decide +kernel
theorem dX6_byteAt_29 : decode cX6_byteAt 29 = .ok (.sipush 255, 3) := by decide +kernel
theorem dX6_byteAt_32 : decode cX6_byteAt 32 = .ok (.iand, 1) := by decide +kernel
theorem dX6_byteAt_33 : decode cX6_byteAt 33 = .ok (.ireturn, 1) := by decide +kernel
theorem dX7_init_0 : decode cX7_init 0 = .ok (.aload_n 0, 1) := by decide +kernel
theorem dX7_init_1 : decode cX7_init 1 = .ok (.invokespecial 3, 3) := by decide +kernel
theorem dX7_init_4 : decode cX7_init 4 = .ok (.aload_n 0, 1) := by decide +kernel
theorem dX7_init_5 : decode cX7_init 5 = .ok (.sipush 384, 3) := by decide +kernel
theorem dX7_init_8 : decode cX7_init 8 = .ok (.newarray .int, 2) := by decide +kernel
theorem dX7_init_10 : decode cX7_init 10 = .ok (.putfield 9, 3) := by decide +kernel
theorem dX7_init_13 : decode cX7_init 13 = .ok (.aload_n 0, 1) := by decide +kernel
theorem dX7_init_14 : decode cX7_init 14 = .ok (.iconst 4, 1) := by decide +kernel
theorem dX7_init_15 : decode cX7_init 15 = .ok (.newarray .int, 2) := by decide +kernel
theorem dX7_init_17 : decode cX7_init 17 = .ok (.putfield 15, 3) := by decide +kernel
theorem dX7_init_20 : decode cX7_init 20 = .ok (.return_, 1) := by decide +kernel
theorem dX7_slot_0 : decode cX7_slot 0 = .ok (.iload_n 0, 1) := by decide +kernel
theorem dX7_slot_1 : decode cX7_slot 1 = .ok (.iconst 0, 1) := by decide +kernel
theorem dX7_slot_2 : decode cX7_slot 2 = .ok (.iconst 3, 1) := by decide +kernel
theorem dX7_slot_3 : decode cX7_slot 3 = .ok (.invokestatic 18, 3) := by decide +kernel
theorem dX7_slot_6 : decode cX7_slot 6 = .ok (.ifCond .eq 22, 3) := by decide +kernel
theorem dX7_slot_9 : decode cX7_slot 9 = .ok (.iload_n 1, 1) := by decide +kernel
theorem dX7_slot_10 : decode cX7_slot 10 = .ok (.iconst 0, 1) := by decide +kernel
theorem dX7_slot_11 : decode cX7_slot 11 = .ok (.iconst 3, 1) := by decide +kernel
theorem dX7_slot_12 : decode cX7_slot 12 = .ok (.invokestatic 18, 3) := by decide +kernel
theorem dX7_slot_15 : decode cX7_slot 15 = .ok (.ifCond .eq 13, 3) := by decide +kernel
theorem dX7_slot_18 : decode cX7_slot 18 = .ok (.iload_n 2, 1) := by decide +kernel
theorem dX7_slot_19 : decode cX7_slot 19 = .ok (.iconst 0, 1) := by decide +kernel
theorem dX7_slot_20 : decode cX7_slot 20 = .ok (.bipush 23, 2) := by decide +kernel
theorem dX7_slot_22 : decode cX7_slot 22 = .ok (.invokestatic 18, 3) := by decide +kernel
theorem dX7_slot_25 : decode cX7_slot 25 = .ok (.ifCond .ne 5, 3) := by decide +kernel
theorem dX7_slot_28 : decode cX7_slot 28 = .ok (.iconst (-1), 1) := by decide +kernel
theorem dX7_slot_29 : decode cX7_slot 29 = .ok (.ireturn, 1) := by decide +kernel
theorem dX7_slot_30 : decode cX7_slot 30 = .ok (.iload_n 0, 1) := by decide +kernel
theorem dX7_slot_31 : decode cX7_slot 31 = .ok (.iconst 4, 1) := by decide +kernel
theorem dX7_slot_32 : decode cX7_slot 32 = .ok (.imul, 1) := by decide +kernel
theorem dX7_slot_33 : decode cX7_slot 33 = .ok (.iload_n 1, 1) := by decide +kernel
theorem dX7_slot_34 : decode cX7_slot 34 = .ok (.iadd, 1) := by decide +kernel
theorem dX7_slot_35 : decode cX7_slot 35 = .ok (.bipush 24, 2) := by decide +kernel
theorem dX7_slot_37 : decode cX7_slot 37 = .ok (.imul, 1) := by decide +kernel
theorem dX7_slot_38 : decode cX7_slot 38 = .ok (.iload_n 2, 1) := by decide +kernel
theorem dX7_slot_39 : decode cX7_slot 39 = .ok (.iadd, 1) := by decide +kernel
theorem dX7_slot_40 : decode cX7_slot 40 = .ok (.ireturn, 1) := by decide +kernel
theorem dX7_at_0 : decode cX7_at 0 = .ok (.iload_n 1, 1) := by decide +kernel
theorem dX7_at_1 : decode cX7_at 1 = .ok (.iload_n 2, 1) := by decide +kernel
theorem dX7_at_2 : decode cX7_at 2 = .ok (.iload_n 3, 1) := by decide +kernel
theorem dX7_at_3 : decode cX7_at 3 = .ok (.invokestatic 22, 3) := by decide +kernel
theorem dX7_at_6 : decode cX7_at 6 = .ok (.istore 4, 2) := by decide +kernel
theorem dX7_at_8 : decode cX7_at 8 = .ok (.iload 4, 2) := by decide +kernel
theorem dX7_at_10 : decode cX7_at 10 = .ok (.iconst (-1), 1) := by decide +kernel
theorem dX7_at_11 : decode cX7_at 11 = .ok (.if_icmp .ne 7, 3) := by decide +kernel
theorem dX7_at_14 : decode cX7_at 14 = .ok (.iconst (-1), 1) := by decide +kernel
theorem dX7_at_15 : decode cX7_at 15 = .ok (.goto 10, 3) := by decide +kernel
theorem dX7_at_18 : decode cX7_at 18 = .ok (.aload_n 0, 1) := by decide +kernel
theorem dX7_at_19 : decode cX7_at 19 = .ok (.getfield 9, 3) := by decide +kernel
theorem dX7_at_22 : decode cX7_at 22 = .ok (.iload 4, 2) := by decide +kernel
theorem dX7_at_24 : decode cX7_at 24 = .ok (.iaload, 1) := by decide +kernel
theorem dX7_at_25 : decode cX7_at 25 = .ok (.ireturn, 1) := by decide +kernel
theorem dX7_take_0 : decode cX7_take 0 = .ok (.iload_n 2, 1) := by decide +kernel
theorem dX7_take_1 : decode cX7_take 1 = .ok (.iload_n 3, 1) := by decide +kernel
theorem dX7_take_2 : decode cX7_take 2 = .ok (.iload 4, 2) := by decide +kernel
theorem dX7_take_4 : decode cX7_take 4 = .ok (.invokestatic 22, 3) := by decide +kernel
theorem dX7_take_7 : decode cX7_take 7 = .ok (.istore 5, 2) := by decide +kernel
theorem dX7_take_9 : decode cX7_take 9 = .ok (.aload_n 1, 1) := by decide +kernel
theorem dX7_take_10 : decode cX7_take 10 = .ok (.getfield 26, 3) := by decide +kernel
theorem dX7_take_13 : decode cX7_take 13 = .ok (.iconst 2, 1) := by decide +kernel
theorem dX7_take_14 : decode cX7_take 14 = .ok (.idiv, 1) := by decide +kernel
theorem dX7_take_15 : decode cX7_take 15 = .ok (.istore 6, 2) := by decide +kernel
theorem dX7_take_17 : decode cX7_take 17 = .ok (.iload 5, 2) := by decide +kernel
theorem dX7_take_19 : decode cX7_take 19 = .ok (.iconst (-1), 1) := by decide +kernel
theorem dX7_take_20 : decode cX7_take 20 = .ok (.if_icmp .eq 22, 3) := by decide +kernel
theorem dX7_take_23 : decode cX7_take 23 = .ok (.aload_n 1, 1) := by decide +kernel
theorem dX7_take_24 : decode cX7_take 24 = .ok (.getfield 26, 3) := by decide +kernel
theorem dX7_take_27 : decode cX7_take 27 = .ok (.iconst 2, 1) := by decide +kernel
theorem dX7_take_28 : decode cX7_take 28 = .ok (.irem, 1) := by decide +kernel
theorem dX7_take_29 : decode cX7_take 29 = .ok (.ifCond .ne 13, 3) := by decide +kernel
theorem dX7_take_32 : decode cX7_take 32 = .ok (.iload 6, 2) := by decide +kernel
theorem dX7_take_34 : decode cX7_take 34 = .ok (.bipush 24, 2) := by decide +kernel
theorem dX7_take_36 : decode cX7_take 36 = .ok (.iload 4, 2) := by decide +kernel
theorem dX7_take_38 : decode cX7_take 38 = .ok (.isub, 1) := by decide +kernel
theorem dX7_take_39 : decode cX7_take 39 = .ok (.if_icmp .le 5, 3) := by decide +kernel
theorem dX7_take_42 : decode cX7_take 42 = .ok (.iconst (-1), 1) := by decide +kernel
theorem dX7_take_43 : decode cX7_take 43 = .ok (.ireturn, 1) := by decide +kernel
theorem dX7_take_44 : decode cX7_take 44 = .ok (.iconst 0, 1) := by decide +kernel
theorem dX7_take_45 : decode cX7_take 45 = .ok (.istore 7, 2) := by decide +kernel
theorem dX7_take_47 : decode cX7_take 47 = .ok (.iload 7, 2) := by decide +kernel
theorem dX7_take_49 : decode cX7_take 49 = .ok (.iload 6, 2) := by decide +kernel
theorem dX7_take_51 : decode cX7_take 51 = .ok (.if_icmp .ge 23, 3) := by decide +kernel
theorem dX7_take_54 : decode cX7_take 54 = .ok (.aload_n 1, 1) := by decide +kernel
theorem dX7_take_55 : decode cX7_take 55 = .ok (.iload 7, 2) := by decide +kernel
theorem dX7_take_57 : decode cX7_take 57 = .ok (.invokestatic 32, 3) := by decide +kernel
theorem dX7_take_60 : decode cX7_take 60 = .ok (.sipush 20000, 3) := by decide +kernel
theorem dX7_take_63 : decode cX7_take 63 = .ok (.if_icmp .le 5, 3) := by decide +kernel
theorem dX7_take_66 : decode cX7_take 66 = .ok (.iconst (-1), 1) := by decide +kernel
theorem dX7_take_67 : decode cX7_take 67 = .ok (.ireturn, 1) := by decide +kernel
theorem dX7_take_68 : decode cX7_take 68 = .ok (.iinc 7 1, 3) := by decide +kernel
theorem dX7_take_71 : decode cX7_take 71 = .ok (.goto (-24), 3) := by decide +kernel
theorem dX7_take_74 : decode cX7_take 74 = .ok (.iconst 0, 1) := by decide +kernel
theorem dX7_take_75 : decode cX7_take 75 = .ok (.istore 7, 2) := by decide +kernel
theorem dX7_take_77 : decode cX7_take 77 = .ok (.iload 7, 2) := by decide +kernel
theorem dX7_take_79 : decode cX7_take 79 = .ok (.iload 6, 2) := by decide +kernel
theorem dX7_take_81 : decode cX7_take 81 = .ok (.if_icmp .ge 38, 3) := by decide +kernel
theorem dX7_take_84 : decode cX7_take 84 = .ok (.iload 5, 2) := by decide +kernel
theorem dX7_take_86 : decode cX7_take 86 = .ok (.iload 7, 2) := by decide +kernel
theorem dX7_take_88 : decode cX7_take 88 = .ok (.iadd, 1) := by decide +kernel
theorem dX7_take_89 : decode cX7_take 89 = .ok (.aload_n 0, 1) := by decide +kernel
theorem dX7_take_90 : decode cX7_take 90 = .ok (.getfield 9, 3) := by decide +kernel
theorem dX7_take_93 : decode cX7_take 93 = .ok (.arraylength, 1) := by decide +kernel
theorem dX7_take_94 : decode cX7_take 94 = .ok (.if_icmp .ge 25, 3) := by decide +kernel
theorem dX7_take_97 : decode cX7_take 97 = .ok (.aload_n 0, 1) := by decide +kernel
theorem dX7_take_98 : decode cX7_take 98 = .ok (.getfield 9, 3) := by decide +kernel
theorem dX7_take_101 : decode cX7_take 101 = .ok (.iload 5, 2) := by decide +kernel
theorem dX7_take_103 : decode cX7_take 103 = .ok (.iload 7, 2) := by decide +kernel
theorem dX7_take_105 : decode cX7_take 105 = .ok (.iadd, 1) := by decide +kernel
theorem dX7_take_106 : decode cX7_take 106 = .ok (.aload_n 1, 1) := by decide +kernel
theorem dX7_take_107 : decode cX7_take 107 = .ok (.iload 7, 2) := by decide +kernel
theorem dX7_take_109 : decode cX7_take 109 = .ok (.invokestatic 32, 3) := by decide +kernel
theorem dX7_take_112 : decode cX7_take 112 = .ok (.iastore, 1) := by decide +kernel
theorem dX7_take_113 : decode cX7_take 113 = .ok (.iinc 7 1, 3) := by decide +kernel
theorem dX7_take_116 : decode cX7_take 116 = .ok (.goto (-39), 3) := by decide +kernel
theorem dX7_take_119 : decode cX7_take 119 = .ok (.iload 6, 2) := by decide +kernel
theorem dX7_take_121 : decode cX7_take 121 = .ok (.ireturn, 1) := by decide +kernel
theorem dX7_numberAt_0 : decode cX7_numberAt 0 = .ok (.aload_n 0, 1) := by decide +kernel
theorem dX7_numberAt_1 : decode cX7_numberAt 1 = .ok (.iconst 2, 1) := by decide +kernel
theorem dX7_numberAt_2 : decode cX7_numberAt 2 = .ok (.iload_n 1, 1) := by decide +kernel
theorem dX7_numberAt_3 : decode cX7_numberAt 3 = .ok (.imul, 1) := by decide +kernel
theorem dX7_numberAt_4 : decode cX7_numberAt 4 = .ok (.invokevirtual 36, 3) := by decide +kernel
theorem dX7_numberAt_7 : decode cX7_numberAt 7 = .ok (.bipush 8, 2) := by decide +kernel
theorem dX7_numberAt_9 : decode cX7_numberAt 9 = .ok (.ishl, 1) := by decide +kernel
theorem dX7_numberAt_10 : decode cX7_numberAt 10 = .ok (.aload_n 0, 1) := by decide +kernel
theorem dX7_numberAt_11 : decode cX7_numberAt 11 = .ok (.iconst 2, 1) := by decide +kernel
theorem dX7_numberAt_12 : decode cX7_numberAt 12 = .ok (.iload_n 1, 1) := by decide +kernel
theorem dX7_numberAt_13 : decode cX7_numberAt 13 = .ok (.imul, 1) := by decide +kernel
theorem dX7_numberAt_14 : decode cX7_numberAt 14 = .ok (.iconst 1, 1) := by decide +kernel
theorem dX7_numberAt_15 : decode cX7_numberAt 15 = .ok (.iadd, 1) := by decide +kernel
theorem dX7_numberAt_16 : decode cX7_numberAt 16 = .ok (.invokevirtual 36, 3) := by decide +kernel
theorem dX7_numberAt_19 : decode cX7_numberAt 19 = .ok (.ior, 1) := by decide +kernel
theorem dX7_numberAt_20 : decode cX7_numberAt 20 = .ok (.ireturn, 1) := by decide +kernel
theorem dX7_together_0 : decode cX7_together 0 = .ok (.iconst 0, 1) := by decide +kernel
theorem dX7_together_1 : decode cX7_together 1 = .ok (.istore_n 3, 1) := by decide +kernel
theorem dX7_together_2 : decode cX7_together 2 = .ok (.iload_n 3, 1) := by decide +kernel
theorem dX7_together_3 : decode cX7_together 3 = .ok (.iconst 4, 1) := by decide +kernel
theorem dX7_together_4 : decode cX7_together 4 = .ok (.if_icmp .ge 57, 3) := by decide +kernel
theorem dX7_together_7 : decode cX7_together 7 = .ok (.iconst 0, 1) := by decide +kernel
theorem dX7_together_8 : decode cX7_together 8 = .ok (.istore 4, 2) := by decide +kernel
theorem dX7_together_10 : decode cX7_together 10 = .ok (.iconst 0, 1) := by decide +kernel
theorem dX7_together_11 : decode cX7_together 11 = .ok (.istore 5, 2) := by decide +kernel
theorem dX7_together_13 : decode cX7_together 13 = .ok (.iload 5, 2) := by decide +kernel
theorem dX7_together_15 : decode cX7_together 15 = .ok (.iconst 4, 1) := by decide +kernel
theorem dX7_together_16 : decode cX7_together 16 = .ok (.if_icmp .ge 31, 3) := by decide +kernel
theorem dX7_together_19 : decode cX7_together 19 = .ok (.iload_n 1, 1) := by decide +kernel
theorem dX7_together_20 : decode cX7_together 20 = .ok (.iload 5, 2) := by decide +kernel
theorem dX7_together_22 : decode cX7_together 22 = .ok (.ishr, 1) := by decide +kernel
theorem dX7_together_23 : decode cX7_together 23 = .ok (.iconst 1, 1) := by decide +kernel
theorem dX7_together_24 : decode cX7_together 24 = .ok (.iand, 1) := by decide +kernel
theorem dX7_together_25 : decode cX7_together 25 = .ok (.ifCond .eq 16, 3) := by decide +kernel
theorem dX7_together_28 : decode cX7_together 28 = .ok (.iload 4, 2) := by decide +kernel
theorem dX7_together_30 : decode cX7_together 30 = .ok (.aload_n 0, 1) := by decide +kernel
theorem dX7_together_31 : decode cX7_together 31 = .ok (.iload 5, 2) := by decide +kernel
theorem dX7_together_33 : decode cX7_together 33 = .ok (.iload_n 3, 1) := by decide +kernel
theorem dX7_together_34 : decode cX7_together 34 = .ok (.iload_n 2, 1) := by decide +kernel
theorem dX7_together_35 : decode cX7_together 35 = .ok (.invokevirtual 40, 3) := by decide +kernel
theorem dX7_together_38 : decode cX7_together 38 = .ok (.iadd, 1) := by decide +kernel
theorem dX7_together_39 : decode cX7_together 39 = .ok (.istore 4, 2) := by decide +kernel
theorem dX7_together_41 : decode cX7_together 41 = .ok (.iinc 5 1, 3) := by decide +kernel
theorem dX7_together_44 : decode cX7_together 44 = .ok (.goto (-31), 3) := by decide +kernel
theorem dX7_together_47 : decode cX7_together 47 = .ok (.aload_n 0, 1) := by decide +kernel
theorem dX7_together_48 : decode cX7_together 48 = .ok (.getfield 15, 3) := by decide +kernel
theorem dX7_together_51 : decode cX7_together 51 = .ok (.iload_n 3, 1) := by decide +kernel
theorem dX7_together_52 : decode cX7_together 52 = .ok (.iload 4, 2) := by decide +kernel
theorem dX7_together_54 : decode cX7_together 54 = .ok (.iastore, 1) := by decide +kernel
theorem dX7_together_55 : decode cX7_together 55 = .ok (.iinc 3 1, 3) := by decide +kernel
theorem dX7_together_58 : decode cX7_together 58 = .ok (.goto (-56), 3) := by decide +kernel
theorem dX7_together_61 : decode cX7_together 61 = .ok (.aload_n 0, 1) := by decide +kernel
theorem dX7_together_62 : decode cX7_together 62 = .ok (.getfield 15, 3) := by decide +kernel
theorem dX7_together_65 : decode cX7_together 65 = .ok (.areturn, 1) := by decide +kernel
theorem dX8_init_0 : decode cX8_init 0 = .ok (.aload_n 0, 1) := by decide +kernel
theorem dX8_init_1 : decode cX8_init 1 = .ok (.invokespecial 1, 3) := by decide +kernel
theorem dX8_init_4 : decode cX8_init 4 = .ok (.aload_n 0, 1) := by decide +kernel
theorem dX8_init_5 : decode cX8_init 5 = .ok (.new 7, 3) := by decide +kernel
theorem dX8_init_8 : decode cX8_init 8 = .ok (.dup, 1) := by decide +kernel
theorem dX8_init_9 : decode cX8_init 9 = .ok (.invokespecial 9, 3) := by decide +kernel
theorem dX8_init_12 : decode cX8_init 12 = .ok (.putfield 10, 3) := by decide +kernel
theorem dX8_init_15 : decode cX8_init 15 = .ok (.aload_n 0, 1) := by decide +kernel
theorem dX8_init_16 : decode cX8_init 16 = .ok (.new 16, 3) := by decide +kernel
theorem dX8_init_19 : decode cX8_init 19 = .ok (.dup, 1) := by decide +kernel
theorem dX8_init_20 : decode cX8_init 20 = .ok (.aload_n 0, 1) := by decide +kernel
theorem dX8_init_21 : decode cX8_init 21 = .ok (.getfield 10, 3) := by decide +kernel
theorem dX8_init_24 : decode cX8_init 24 = .ok (.invokespecial 18, 3) := by decide +kernel
theorem dX8_init_27 : decode cX8_init 27 = .ok (.putfield 21, 3) := by decide +kernel
theorem dX8_init_30 : decode cX8_init 30 = .ok (.aload_n 0, 1) := by decide +kernel
theorem dX8_init_31 : decode cX8_init 31 = .ok (.new 25, 3) := by decide +kernel
theorem dX8_init_34 : decode cX8_init 34 = .ok (.dup, 1) := by decide +kernel
theorem dX8_init_35 : decode cX8_init 35 = .ok (.invokespecial 27, 3) := by decide +kernel
theorem dX8_init_38 : decode cX8_init 38 = .ok (.putfield 28, 3) := by decide +kernel
theorem dX8_init_41 : decode cX8_init 41 = .ok (.aload_n 0, 1) := by decide +kernel
theorem dX8_init_42 : decode cX8_init 42 = .ok (.new 32, 3) := by decide +kernel
theorem dX8_init_45 : decode cX8_init 45 = .ok (.dup, 1) := by decide +kernel
theorem dX8_init_46 : decode cX8_init 46 = .ok (.invokespecial 34, 3) := by decide +kernel
theorem dX8_init_49 : decode cX8_init 49 = .ok (.putfield 35, 3) := by decide +kernel
theorem dX8_init_52 : decode cX8_init 52 = .ok (.aload_n 0, 1) := by decide +kernel
theorem dX8_init_53 : decode cX8_init 53 = .ok (.new 39, 3) := by decide +kernel
theorem dX8_init_56 : decode cX8_init 56 = .ok (.dup, 1) := by decide +kernel
theorem dX8_init_57 : decode cX8_init 57 = .ok (.invokespecial 41, 3) := by decide +kernel
theorem dX8_init_60 : decode cX8_init 60 = .ok (.putfield 42, 3) := by decide +kernel
theorem dX8_init_63 : decode cX8_init 63 = .ok (.aload_n 0, 1) := by decide +kernel
theorem dX8_init_64 : decode cX8_init 64 = .ok (.iconst 4, 1) := by decide +kernel
theorem dX8_init_65 : decode cX8_init 65 = .ok (.newarray .int, 2) := by decide +kernel
theorem dX8_init_67 : decode cX8_init 67 = .ok (.putfield 46, 3) := by decide +kernel
theorem dX8_init_70 : decode cX8_init 70 = .ok (.aload_n 0, 1) := by decide +kernel
theorem dX8_init_71 : decode cX8_init 71 = .ok (.iconst 4, 1) := by decide +kernel
theorem dX8_init_72 : decode cX8_init 72 = .ok (.newarray .int, 2) := by decide +kernel
theorem dX8_init_74 : decode cX8_init 74 = .ok (.putfield 50, 3) := by decide +kernel
theorem dX8_init_77 : decode cX8_init 77 = .ok (.aload_n 0, 1) := by decide +kernel
theorem dX8_init_78 : decode cX8_init 78 = .ok (.bipush 24, 2) := by decide +kernel
theorem dX8_init_80 : decode cX8_init 80 = .ok (.newarray .int, 2) := by decide +kernel
theorem dX8_init_82 : decode cX8_init 82 = .ok (.putfield 53, 3) := by decide +kernel
theorem dX8_init_85 : decode cX8_init 85 = .ok (.aload_n 0, 1) := by decide +kernel
theorem dX8_init_86 : decode cX8_init 86 = .ok (.new 56, 3) := by decide +kernel
theorem dX8_init_89 : decode cX8_init 89 = .ok (.dup, 1) := by decide +kernel
theorem dX8_init_90 : decode cX8_init 90 = .ok (.invokespecial 58, 3) := by decide +kernel
theorem dX8_init_93 : decode cX8_init 93 = .ok (.putfield 59, 3) := by decide +kernel
theorem dX8_init_96 : decode cX8_init 96 = .ok (.aload_n 0, 1) := by decide +kernel
theorem dX8_init_97 : decode cX8_init 97 = .ok (.invokevirtual 63, 3) := by decide +kernel
theorem dX8_init_100 : decode cX8_init 100 = .ok (.return_, 1) := by decide +kernel
theorem dX8_feed_0 : decode cX8_feed 0 = .ok (.aload_n 0, 1) := by decide +kernel
theorem dX8_feed_1 : decode cX8_feed 1 = .ok (.getfield 10, 3) := by decide +kernel
theorem dX8_feed_4 : decode cX8_feed 4 = .ok (.getfield 66, 3) := by decide +kernel
theorem dX8_feed_7 : decode cX8_feed 7 = .ok (.bipush 20, 2) := by decide +kernel
theorem dX8_feed_9 : decode cX8_feed 9 = .ok (.iadd, 1) := by decide +kernel
theorem dX8_feed_10 : decode cX8_feed 10 = .ok (.sipush 840, 3) := by decide +kernel
theorem dX8_feed_13 : decode cX8_feed 13 = .ok (.if_icmp .le 5, 3) := by decide +kernel
theorem dX8_feed_16 : decode cX8_feed 16 = .ok (.iconst (-1), 1) := by decide +kernel
theorem dX8_feed_17 : decode cX8_feed 17 = .ok (.ireturn, 1) := by decide +kernel
theorem dX8_feed_18 : decode cX8_feed 18 = .ok (.aload_n 0, 1) := by decide +kernel
theorem dX8_feed_19 : decode cX8_feed 19 = .ok (.getfield 10, 3) := by decide +kernel
theorem dX8_feed_22 : decode cX8_feed 22 = .ok (.iload_n 1, 1) := by decide +kernel
theorem dX8_feed_23 : decode cX8_feed 23 = .ok (.invokevirtual 70, 3) := by decide +kernel
theorem dX8_feed_26 : decode cX8_feed 26 = .ok (.aload_n 0, 1) := by decide +kernel
theorem dX8_feed_27 : decode cX8_feed 27 = .ok (.getfield 10, 3) := by decide +kernel
theorem dX8_feed_30 : decode cX8_feed 30 = .ok (.iload_n 2, 1) := by decide +kernel
theorem dX8_feed_31 : decode cX8_feed 31 = .ok (.invokevirtual 70, 3) := by decide +kernel
theorem dX8_feed_34 : decode cX8_feed 34 = .ok (.aload_n 0, 1) := by decide +kernel
theorem dX8_feed_35 : decode cX8_feed 35 = .ok (.getfield 10, 3) := by decide +kernel
theorem dX8_feed_38 : decode cX8_feed 38 = .ok (.iload_n 3, 1) := by decide +kernel
theorem dX8_feed_39 : decode cX8_feed 39 = .ok (.invokevirtual 70, 3) := by decide +kernel
theorem dX8_feed_42 : decode cX8_feed 42 = .ok (.aload_n 0, 1) := by decide +kernel
theorem dX8_feed_43 : decode cX8_feed 43 = .ok (.getfield 10, 3) := by decide +kernel
theorem dX8_feed_46 : decode cX8_feed 46 = .ok (.iload 4, 2) := by decide +kernel
theorem dX8_feed_48 : decode cX8_feed 48 = .ok (.invokevirtual 70, 3) := by decide +kernel
theorem dX8_feed_51 : decode cX8_feed 51 = .ok (.aload_n 0, 1) := by decide +kernel
theorem dX8_feed_52 : decode cX8_feed 52 = .ok (.getfield 10, 3) := by decide +kernel
theorem dX8_feed_55 : decode cX8_feed 55 = .ok (.iload 5, 2) := by decide +kernel
theorem dX8_feed_57 : decode cX8_feed 57 = .ok (.invokevirtual 70, 3) := by decide +kernel
theorem dX8_feed_60 : decode cX8_feed 60 = .ok (.aload_n 0, 1) := by decide +kernel
theorem dX8_feed_61 : decode cX8_feed 61 = .ok (.getfield 10, 3) := by decide +kernel
theorem dX8_feed_64 : decode cX8_feed 64 = .ok (.getfield 66, 3) := by decide +kernel
theorem dX8_feed_67 : decode cX8_feed 67 = .ok (.ireturn, 1) := by decide +kernel
theorem dX8_end_0 : decode cX8_end 0 = .ok (.iload_n 1, 1) := by decide +kernel
theorem dX8_end_1 : decode cX8_end 1 = .ok (.ifCond .lt 14, 3) := by decide +kernel
theorem dX8_end_4 : decode cX8_end 4 = .ok (.iload_n 1, 1) := by decide +kernel
theorem dX8_end_5 : decode cX8_end 5 = .ok (.aload_n 0, 1) := by decide +kernel
theorem dX8_end_6 : decode cX8_end 6 = .ok (.getfield 10, 3) := by decide +kernel
theorem dX8_end_9 : decode cX8_end 9 = .ok (.getfield 66, 3) := by decide +kernel
theorem dX8_end_12 : decode cX8_end 12 = .ok (.if_icmp .le 5, 3) := by decide +kernel
theorem dX8_end_15 : decode cX8_end 15 = .ok (.iconst 0, 1) := by decide +kernel
theorem dX8_end_16 : decode cX8_end 16 = .ok (.ireturn, 1) := by decide +kernel
theorem dX8_end_17 : decode cX8_end 17 = .ok (.aload_n 0, 1) := by decide +kernel
theorem dX8_end_18 : decode cX8_end 18 = .ok (.getfield 10, 3) := by decide +kernel
theorem dX8_end_21 : decode cX8_end 21 = .ok (.iload_n 1, 1) := by decide +kernel
theorem dX8_end_22 : decode cX8_end 22 = .ok (.putfield 66, 3) := by decide +kernel
theorem dX8_end_25 : decode cX8_end 25 = .ok (.iconst 1, 1) := by decide +kernel
theorem dX8_end_26 : decode cX8_end 26 = .ok (.ireturn, 1) := by decide +kernel
theorem dX8_plans_0 : decode cX8_plans 0 = .ok (.aload_n 0, 1) := by decide +kernel
theorem dX8_plans_1 : decode cX8_plans 1 = .ok (.getfield 21, 3) := by decide +kernel
theorem dX8_plans_4 : decode cX8_plans 4 = .ok (.invokevirtual 74, 3) := by decide +kernel
theorem dX8_plans_7 : decode cX8_plans 7 = .ok (.istore_n 1, 1) := by decide +kernel
theorem dX8_plans_8 : decode cX8_plans 8 = .ok (.aload_n 0, 1) := by decide +kernel
theorem dX8_plans_9 : decode cX8_plans 9 = .ok (.getfield 10, 3) := by decide +kernel
theorem dX8_plans_12 : decode cX8_plans 12 = .ok (.iconst 0, 1) := by decide +kernel
theorem dX8_plans_13 : decode cX8_plans 13 = .ok (.putfield 66, 3) := by decide +kernel
theorem dX8_plans_16 : decode cX8_plans 16 = .ok (.iload_n 1, 1) := by decide +kernel
theorem dX8_plans_17 : decode cX8_plans 17 = .ok (.ifCond .ne 13, 3) := by decide +kernel
theorem dX8_plans_20 : decode cX8_plans 20 = .ok (.iconst (-1), 1) := by decide +kernel
theorem dX8_plans_21 : decode cX8_plans 21 = .ok (.aload_n 0, 1) := by decide +kernel
theorem dX8_plans_22 : decode cX8_plans 22 = .ok (.getfield 21, 3) := by decide +kernel
theorem dX8_plans_25 : decode cX8_plans 25 = .ok (.getfield 78, 3) := by decide +kernel
theorem dX8_plans_28 : decode cX8_plans 28 = .ok (.isub, 1) := by decide +kernel
theorem dX8_plans_29 : decode cX8_plans 29 = .ok (.ireturn, 1) := by decide +kernel
theorem dX8_plans_30 : decode cX8_plans 30 = .ok (.aload_n 0, 1) := by decide +kernel
theorem dX8_plans_31 : decode cX8_plans 31 = .ok (.aload_n 0, 1) := by decide +kernel
theorem dX8_plans_32 : decode cX8_plans 32 = .ok (.getfield 21, 3) := by decide +kernel
theorem dX8_plans_35 : decode cX8_plans 35 = .ok (.aload_n 0, 1) := by decide +kernel
theorem dX8_plans_36 : decode cX8_plans 36 = .ok (.getfield 59, 3) := by decide +kernel
theorem dX8_plans_39 : decode cX8_plans 39 = .ok (.invokevirtual 81, 3) := by decide +kernel
theorem dX8_plans_42 : decode cX8_plans 42 = .ok (.putfield 59, 3) := by decide +kernel
theorem dX8_plans_45 : decode cX8_plans 45 = .ok (.aload_n 0, 1) := by decide +kernel
theorem dX8_plans_46 : decode cX8_plans 46 = .ok (.invokevirtual 63, 3) := by decide +kernel
theorem dX8_plans_49 : decode cX8_plans 49 = .ok (.aload_n 0, 1) := by decide +kernel
theorem dX8_plans_50 : decode cX8_plans 50 = .ok (.getfield 42, 3) := by decide +kernel
theorem dX8_plans_53 : decode cX8_plans 53 = .ok (.invokevirtual 85, 3) := by decide +kernel
theorem dX8_plans_56 : decode cX8_plans 56 = .ok (.aload_n 0, 1) := by decide +kernel
theorem dX8_plans_57 : decode cX8_plans 57 = .ok (.getfield 59, 3) := by decide +kernel
theorem dX8_plans_60 : decode cX8_plans 60 = .ok (.getfield 88, 3) := by decide +kernel
theorem dX8_plans_63 : decode cX8_plans 63 = .ok (.ireturn, 1) := by decide +kernel
theorem dX8_fault_0 : decode cX8_fault 0 = .ok (.aload_n 0, 1) := by decide +kernel
theorem dX8_fault_1 : decode cX8_fault 1 = .ok (.getfield 21, 3) := by decide +kernel
theorem dX8_fault_4 : decode cX8_fault 4 = .ok (.getfield 91, 3) := by decide +kernel
theorem dX8_fault_7 : decode cX8_fault 7 = .ok (.ireturn, 1) := by decide +kernel
theorem dX8_plan_0 : decode cX8_plan 0 = .ok (.aload_n 0, 1) := by decide +kernel
theorem dX8_plan_1 : decode cX8_plan 1 = .ok (.getfield 59, 3) := by decide +kernel
theorem dX8_plan_4 : decode cX8_plan 4 = .ok (.iload_n 1, 1) := by decide +kernel
theorem dX8_plan_5 : decode cX8_plan 5 = .ok (.invokevirtual 94, 3) := by decide +kernel
theorem dX8_plan_8 : decode cX8_plan 8 = .ok (.astore_n 3, 1) := by decide +kernel
theorem dX8_plan_9 : decode cX8_plan 9 = .ok (.aload_n 3, 1) := by decide +kernel
theorem dX8_plan_10 : decode cX8_plan 10 = .ok (.ifnonnull 11, 3) := by decide +kernel
theorem dX8_plan_13 : decode cX8_plan 13 = .ok (.new 98, 3) := by decide +kernel
theorem dX8_plan_16 : decode cX8_plan 16 = .ok (.dup, 1) := by decide +kernel
theorem dX8_plan_17 : decode cX8_plan 17 = .ok (.invokespecial 100, 3) := by decide +kernel
theorem dX8_plan_20 : decode cX8_plan 20 = .ok (.athrow, 1) := by decide +kernel
theorem dX8_plan_21 : decode cX8_plan 21 = .ok (.iload_n 2, 1) := by decide +kernel
theorem dX8_plan_22 : decode cX8_plan 22 = .ok (.tableswitch 59 0 4 #[34, 39, 44, 49, 54], 34) := by decide +kernel
theorem dX8_plan_56 : decode cX8_plan 56 = .ok (.aload_n 3, 1) := by decide +kernel
theorem dX8_plan_57 : decode cX8_plan 57 = .ok (.getfield 101, 3) := by decide +kernel
theorem dX8_plan_60 : decode cX8_plan 60 = .ok (.ireturn, 1) := by decide +kernel
theorem dX8_plan_61 : decode cX8_plan 61 = .ok (.aload_n 3, 1) := by decide +kernel
theorem dX8_plan_62 : decode cX8_plan 62 = .ok (.getfield 106, 3) := by decide +kernel
theorem dX8_plan_65 : decode cX8_plan 65 = .ok (.ireturn, 1) := by decide +kernel
theorem dX8_plan_66 : decode cX8_plan 66 = .ok (.aload_n 3, 1) := by decide +kernel
theorem dX8_plan_67 : decode cX8_plan 67 = .ok (.getfield 109, 3) := by decide +kernel
theorem dX8_plan_70 : decode cX8_plan 70 = .ok (.ireturn, 1) := by decide +kernel
theorem dX8_plan_71 : decode cX8_plan 71 = .ok (.aload_n 3, 1) := by decide +kernel
theorem dX8_plan_72 : decode cX8_plan 72 = .ok (.getfield 112, 3) := by decide +kernel
theorem dX8_plan_75 : decode cX8_plan 75 = .ok (.ireturn, 1) := by decide +kernel
theorem dX8_plan_76 : decode cX8_plan 76 = .ok (.aload_n 3, 1) := by decide +kernel
theorem dX8_plan_77 : decode cX8_plan 77 = .ok (.getfield 115, 3) := by decide +kernel
theorem dX8_plan_80 : decode cX8_plan 80 = .ok (.ireturn, 1) := by decide +kernel
theorem dX8_plan_81 : decode cX8_plan 81 = .ok (.new 98, 3) := by decide +kernel
theorem dX8_plan_84 : decode cX8_plan 84 = .ok (.dup, 1) := by decide +kernel
theorem dX8_plan_85 : decode cX8_plan 85 = .ok (.invokespecial 100, 3) := by decide +kernel
theorem dX8_plan_88 : decode cX8_plan 88 = .ok (.athrow, 1) := by decide +kernel
theorem dX8_name_0 : decode cX8_name 0 = .ok (.aload_n 0, 1) := by decide +kernel
theorem dX8_name_1 : decode cX8_name 1 = .ok (.getfield 59, 3) := by decide +kernel
theorem dX8_name_4 : decode cX8_name 4 = .ok (.iload_n 1, 1) := by decide +kernel
theorem dX8_name_5 : decode cX8_name 5 = .ok (.invokevirtual 94, 3) := by decide +kernel
theorem dX8_name_8 : decode cX8_name 8 = .ok (.astore_n 2, 1) := by decide +kernel
theorem dX8_name_9 : decode cX8_name 9 = .ok (.aload_n 2, 1) := by decide +kernel
theorem dX8_name_10 : decode cX8_name 10 = .ok (.ifnonnull 5, 3) := by decide +kernel
theorem dX8_name_13 : decode cX8_name 13 = .ok (.iconst (-1), 1) := by decide +kernel
theorem dX8_name_14 : decode cX8_name 14 = .ok (.ireturn, 1) := by decide +kernel
theorem dX8_name_15 : decode cX8_name 15 = .ok (.aload_n 0, 1) := by decide +kernel
theorem dX8_name_16 : decode cX8_name 16 = .ok (.aload_n 2, 1) := by decide +kernel
theorem dX8_name_17 : decode cX8_name 17 = .ok (.getfield 118, 3) := by decide +kernel
theorem dX8_name_20 : decode cX8_name 20 = .ok (.putfield 122, 3) := by decide +kernel
theorem dX8_name_23 : decode cX8_name 23 = .ok (.aload_n 0, 1) := by decide +kernel
theorem dX8_name_24 : decode cX8_name 24 = .ok (.aload_n 2, 1) := by decide +kernel
theorem dX8_name_25 : decode cX8_name 25 = .ok (.getfield 125, 3) := by decide +kernel
theorem dX8_name_28 : decode cX8_name 28 = .ok (.putfield 128, 3) := by decide +kernel
theorem dX8_name_31 : decode cX8_name 31 = .ok (.aload_n 0, 1) := by decide +kernel
theorem dX8_name_32 : decode cX8_name 32 = .ok (.getfield 128, 3) := by decide +kernel
theorem dX8_name_35 : decode cX8_name 35 = .ok (.ireturn, 1) := by decide +kernel
theorem dX8_octet_0 : decode cX8_octet 0 = .ok (.iload_n 1, 1) := by decide +kernel
theorem dX8_octet_1 : decode cX8_octet 1 = .ok (.ifCond .lt 11, 3) := by decide +kernel
theorem dX8_octet_4 : decode cX8_octet 4 = .ok (.iload_n 1, 1) := by decide +kernel
theorem dX8_octet_5 : decode cX8_octet 5 = .ok (.aload_n 0, 1) := by decide +kernel
theorem dX8_octet_6 : decode cX8_octet 6 = .ok (.getfield 128, 3) := by decide +kernel
theorem dX8_octet_9 : decode cX8_octet 9 = .ok (.if_icmp .lt 11, 3) := by decide +kernel
theorem dX8_octet_12 : decode cX8_octet 12 = .ok (.new 98, 3) := by decide +kernel
theorem dX8_octet_15 : decode cX8_octet 15 = .ok (.dup, 1) := by decide +kernel
theorem dX8_octet_16 : decode cX8_octet 16 = .ok (.invokespecial 100, 3) := by decide +kernel
theorem dX8_octet_19 : decode cX8_octet 19 = .ok (.athrow, 1) := by decide +kernel
theorem dX8_octet_20 : decode cX8_octet 20 = .ok (.aload_n 0, 1) := by decide +kernel
theorem dX8_octet_21 : decode cX8_octet 21 = .ok (.getfield 122, 3) := by decide +kernel
theorem dX8_octet_24 : decode cX8_octet 24 = .ok (.bipush 8, 2) := by decide +kernel
theorem dX8_octet_26 : decode cX8_octet 26 = .ok (.aload_n 0, 1) := by decide +kernel
theorem dX8_octet_27 : decode cX8_octet 27 = .ok (.getfield 128, 3) := by decide +kernel
theorem dX8_octet_30 : decode cX8_octet 30 = .ok (.iconst 1, 1) := by decide +kernel
theorem dX8_octet_31 : decode cX8_octet 31 = .ok (.isub, 1) := by decide +kernel
theorem dX8_octet_32 : decode cX8_octet 32 = .ok (.iload_n 1, 1) := by decide +kernel
theorem dX8_octet_33 : decode cX8_octet 33 = .ok (.isub, 1) := by decide +kernel
theorem dX8_octet_34 : decode cX8_octet 34 = .ok (.imul, 1) := by decide +kernel
theorem dX8_octet_35 : decode cX8_octet 35 = .ok (.lshr, 1) := by decide +kernel
theorem dX8_octet_36 : decode cX8_octet 36 = .ok (.l2i, 1) := by decide +kernel
theorem dX8_octet_37 : decode cX8_octet 37 = .ok (.sipush 255, 3) := by decide +kernel
theorem dX8_octet_40 : decode cX8_octet 40 = .ok (.iand, 1) := by decide +kernel
theorem dX8_octet_41 : decode cX8_octet 41 = .ok (.ireturn, 1) := by decide +kernel
theorem dX8_uses_0 : decode cX8_uses 0 = .ok (.aload_n 0, 1) := by decide +kernel
theorem dX8_uses_1 : decode cX8_uses 1 = .ok (.getfield 28, 3) := by decide +kernel
theorem dX8_uses_4 : decode cX8_uses 4 = .ok (.aload_n 0, 1) := by decide +kernel
theorem dX8_uses_5 : decode cX8_uses 5 = .ok (.getfield 10, 3) := by decide +kernel
theorem dX8_uses_8 : decode cX8_uses 8 = .ok (.iload_n 1, 1) := by decide +kernel
theorem dX8_uses_9 : decode cX8_uses 9 = .ok (.iload_n 2, 1) := by decide +kernel
theorem dX8_uses_10 : decode cX8_uses 10 = .ok (.iload_n 3, 1) := by decide +kernel
theorem dX8_uses_11 : decode cX8_uses 11 = .ok (.invokevirtual 131, 3) := by decide +kernel
theorem dX8_uses_14 : decode cX8_uses 14 = .ok (.istore 4, 2) := by decide +kernel
theorem dX8_uses_16 : decode cX8_uses 16 = .ok (.aload_n 0, 1) := by decide +kernel
theorem dX8_uses_17 : decode cX8_uses 17 = .ok (.getfield 10, 3) := by decide +kernel
theorem dX8_uses_20 : decode cX8_uses 20 = .ok (.iconst 0, 1) := by decide +kernel
theorem dX8_uses_21 : decode cX8_uses 21 = .ok (.putfield 66, 3) := by decide +kernel
theorem dX8_uses_24 : decode cX8_uses 24 = .ok (.iload 4, 2) := by decide +kernel
theorem dX8_uses_26 : decode cX8_uses 26 = .ok (.ireturn, 1) := by decide +kernel
theorem dX8_use_0 : decode cX8_use 0 = .ok (.aload_n 0, 1) := by decide +kernel
theorem dX8_use_1 : decode cX8_use 1 = .ok (.getfield 28, 3) := by decide +kernel
theorem dX8_use_4 : decode cX8_use 4 = .ok (.iload_n 1, 1) := by decide +kernel
theorem dX8_use_5 : decode cX8_use 5 = .ok (.iload_n 2, 1) := by decide +kernel
theorem dX8_use_6 : decode cX8_use 6 = .ok (.iload_n 3, 1) := by decide +kernel
theorem dX8_use_7 : decode cX8_use 7 = .ok (.invokevirtual 135, 3) := by decide +kernel
theorem dX8_use_10 : decode cX8_use 10 = .ok (.ireturn, 1) := by decide +kernel
theorem dX8_change_0 : decode cX8_change 0 = .ok (.iload_n 1, 1) := by decide +kernel
theorem dX8_change_1 : decode cX8_change 1 = .ok (.ifCond .lt 9, 3) := by decide +kernel
theorem dX8_change_4 : decode cX8_change 4 = .ok (.iload_n 1, 1) := by decide +kernel
theorem dX8_change_5 : decode cX8_change 5 = .ok (.ldc 138, 2) := by decide +kernel
theorem dX8_change_7 : decode cX8_change 7 = .ok (.if_icmp .le 5, 3) := by decide +kernel
theorem dX8_change_10 : decode cX8_change 10 = .ok (.iconst 0, 1) := by decide +kernel
theorem dX8_change_11 : decode cX8_change 11 = .ok (.ireturn, 1) := by decide +kernel
theorem dX8_change_12 : decode cX8_change 12 = .ok (.aload_n 0, 1) := by decide +kernel
theorem dX8_change_13 : decode cX8_change 13 = .ok (.iload_n 1, 1) := by decide +kernel
theorem dX8_change_14 : decode cX8_change 14 = .ok (.putfield 139, 3) := by decide +kernel
theorem dX8_change_17 : decode cX8_change 17 = .ok (.iconst 1, 1) := by decide +kernel
theorem dX8_change_18 : decode cX8_change 18 = .ok (.ireturn, 1) := by decide +kernel
theorem dX8_cost_0 : decode cX8_cost 0 = .ok (.aload_n 0, 1) := by decide +kernel
theorem dX8_cost_1 : decode cX8_cost 1 = .ok (.iload_n 1, 1) := by decide +kernel
theorem dX8_cost_2 : decode cX8_cost 2 = .ok (.iload_n 2, 1) := by decide +kernel
theorem dX8_cost_3 : decode cX8_cost 3 = .ok (.iload_n 3, 1) := by decide +kernel
theorem dX8_cost_4 : decode cX8_cost 4 = .ok (.iload 4, 2) := by decide +kernel
theorem dX8_cost_6 : decode cX8_cost 6 = .ok (.invokevirtual 142, 3) := by decide +kernel
theorem dX8_cost_9 : decode cX8_cost 9 = .ok (.lstore 5, 2) := by decide +kernel
theorem dX8_cost_11 : decode cX8_cost 11 = .ok (.lload 5, 2) := by decide +kernel
theorem dX8_cost_13 : decode cX8_cost 13 = .ok (.ldc2_w 146, 3) := by decide +kernel
theorem dX8_cost_16 : decode cX8_cost 16 = .ok (.lcmp, 1) := by decide +kernel
theorem dX8_cost_17 : decode cX8_cost 17 = .ok (.ifCond .ne 11, 3) := by decide +kernel
theorem dX8_cost_20 : decode cX8_cost 20 = .ok (.new 98, 3) := by decide +kernel
theorem dX8_cost_23 : decode cX8_cost 23 = .ok (.dup, 1) := by decide +kernel
theorem dX8_cost_24 : decode cX8_cost 24 = .ok (.invokespecial 100, 3) := by decide +kernel
theorem dX8_cost_27 : decode cX8_cost 27 = .ok (.athrow, 1) := by decide +kernel
theorem dX8_cost_28 : decode cX8_cost 28 = .ok (.lload 5, 2) := by decide +kernel
theorem dX8_cost_30 : decode cX8_cost 30 = .ok (.lreturn, 1) := by decide +kernel
theorem dX8_bill_0 : decode cX8_bill 0 = .ok (.iload_n 2, 1) := by decide +kernel
theorem dX8_bill_1 : decode cX8_bill 1 = .ok (.iconst 0, 1) := by decide +kernel
theorem dX8_bill_2 : decode cX8_bill 2 = .ok (.iconst 3, 1) := by decide +kernel
theorem dX8_bill_3 : decode cX8_bill 3 = .ok (.invokestatic 148, 3) := by decide +kernel
theorem dX8_bill_6 : decode cX8_bill 6 = .ok (.ifCond .eq 16, 3) := by decide +kernel
theorem dX8_bill_9 : decode cX8_bill 9 = .ok (.aload_n 0, 1) := by decide +kernel
theorem dX8_bill_10 : decode cX8_bill 10 = .ok (.iload_n 1, 1) := by decide +kernel
theorem dX8_bill_11 : decode cX8_bill 11 = .ok (.iconst 1, 1) := by decide +kernel
theorem dX8_bill_12 : decode cX8_bill 12 = .ok (.iload_n 2, 1) := by decide +kernel
theorem dX8_bill_13 : decode cX8_bill 13 = .ok (.ishl, 1) := by decide +kernel
theorem dX8_bill_14 : decode cX8_bill 14 = .ok (.iload_n 3, 1) := by decide +kernel
theorem dX8_bill_15 : decode cX8_bill 15 = .ok (.iconst 0, 1) := by decide +kernel
theorem dX8_bill_16 : decode cX8_bill 16 = .ok (.invokevirtual 142, 3) := by decide +kernel
theorem dX8_bill_19 : decode cX8_bill 19 = .ok (.goto 6, 3) := by decide +kernel
theorem dX8_bill_22 : decode cX8_bill 22 = .ok (.ldc2_w 146, 3) := by decide +kernel
theorem dX8_bill_25 : decode cX8_bill 25 = .ok (.lstore 6, 2) := by decide +kernel
theorem dX8_bill_27 : decode cX8_bill 27 = .ok (.lload 6, 2) := by decide +kernel
theorem dX8_bill_29 : decode cX8_bill 29 = .ok (.ldc2_w 146, 3) := by decide +kernel
theorem dX8_bill_32 : decode cX8_bill 32 = .ok (.lcmp, 1) := by decide +kernel
theorem dX8_bill_33 : decode cX8_bill 33 = .ok (.ifCond .ne 11, 3) := by decide +kernel
theorem dX8_bill_36 : decode cX8_bill 36 = .ok (.new 98, 3) := by decide +kernel
theorem dX8_bill_39 : decode cX8_bill 39 = .ok (.dup, 1) := by decide +kernel
theorem dX8_bill_40 : decode cX8_bill 40 = .ok (.invokespecial 100, 3) := by decide +kernel
theorem dX8_bill_43 : decode cX8_bill 43 = .ok (.athrow, 1) := by decide +kernel
theorem dX8_bill_44 : decode cX8_bill 44 = .ok (.lload 4, 2) := by decide +kernel
theorem dX8_bill_46 : decode cX8_bill 46 = .ok (.lload 6, 2) := by decide +kernel
theorem dX8_bill_48 : decode cX8_bill 48 = .ok (.lsub, 1) := by decide +kernel
theorem dX8_bill_49 : decode cX8_bill 49 = .ok (.lreturn, 1) := by decide +kernel
theorem dX8_best_0 : decode cX8_best 0 = .ok (.iload_n 1, 1) := by decide +kernel
theorem dX8_best_1 : decode cX8_best 1 = .ok (.iconst 1, 1) := by decide +kernel
theorem dX8_best_2 : decode cX8_best 2 = .ok (.bipush 15, 2) := by decide +kernel
theorem dX8_best_4 : decode cX8_best 4 = .ok (.invokestatic 148, 3) := by decide +kernel
theorem dX8_best_7 : decode cX8_best 7 = .ok (.ifCond .eq 18, 3) := by decide +kernel
theorem dX8_best_10 : decode cX8_best 10 = .ok (.iload_n 2, 1) := by decide +kernel
theorem dX8_best_11 : decode cX8_best 11 = .ok (.ifCond .lt 14, 3) := by decide +kernel
theorem dX8_best_14 : decode cX8_best 14 = .ok (.iload_n 2, 1) := by decide +kernel
theorem dX8_best_15 : decode cX8_best 15 = .ok (.iload_n 3, 1) := by decide +kernel
theorem dX8_best_16 : decode cX8_best 16 = .ok (.if_icmp .ge 9, 3) := by decide +kernel
theorem dX8_best_19 : decode cX8_best 19 = .ok (.iload_n 3, 1) := by decide +kernel
theorem dX8_best_20 : decode cX8_best 20 = .ok (.bipush 24, 2) := by decide +kernel
theorem dX8_best_22 : decode cX8_best 22 = .ok (.if_icmp .le 7, 3) := by decide +kernel
theorem dX8_best_25 : decode cX8_best 25 = .ok (.ldc2_w 146, 3) := by decide +kernel
theorem dX8_best_28 : decode cX8_best 28 = .ok (.lreturn, 1) := by decide +kernel
theorem dX8_best_29 : decode cX8_best 29 = .ok (.aload_n 0, 1) := by decide +kernel
theorem dX8_best_30 : decode cX8_best 30 = .ok (.getfield 35, 3) := by decide +kernel
theorem dX8_best_33 : decode cX8_best 33 = .ok (.aload_n 0, 1) := by decide +kernel
theorem dX8_best_34 : decode cX8_best 34 = .ok (.getfield 59, 3) := by decide +kernel
theorem dX8_best_37 : decode cX8_best 37 = .ok (.aload_n 0, 1) := by decide +kernel
theorem dX8_best_38 : decode cX8_best 38 = .ok (.getfield 28, 3) := by decide +kernel
theorem dX8_best_41 : decode cX8_best 41 = .ok (.iload_n 1, 1) := by decide +kernel
theorem dX8_best_42 : decode cX8_best 42 = .ok (.iload_n 2, 1) := by decide +kernel
theorem dX8_best_43 : decode cX8_best 43 = .ok (.iload_n 3, 1) := by decide +kernel
theorem dX8_best_44 : decode cX8_best 44 = .ok (.aload_n 0, 1) := by decide +kernel
theorem dX8_best_45 : decode cX8_best 45 = .ok (.getfield 139, 3) := by decide +kernel
theorem dX8_best_48 : decode cX8_best 48 = .ok (.invokevirtual 152, 3) := by decide +kernel
theorem dX8_best_51 : decode cX8_best 51 = .ok (.lstore 4, 2) := by decide +kernel
theorem dX8_best_53 : decode cX8_best 53 = .ok (.lload 4, 2) := by decide +kernel
theorem dX8_best_55 : decode cX8_best 55 = .ok (.ldc2_w 146, 3) := by decide +kernel
theorem dX8_best_58 : decode cX8_best 58 = .ok (.lcmp, 1) := by decide +kernel
theorem dX8_best_59 : decode cX8_best 59 = .ok (.ifCond .eq 18, 3) := by decide +kernel
theorem dX8_best_62 : decode cX8_best 62 = .ok (.aload_n 0, 1) := by decide +kernel
theorem dX8_best_63 : decode cX8_best 63 = .ok (.invokevirtual 63, 3) := by decide +kernel
theorem dX8_best_66 : decode cX8_best 66 = .ok (.aload_n 0, 1) := by decide +kernel
theorem dX8_best_67 : decode cX8_best 67 = .ok (.getfield 35, 3) := by decide +kernel
theorem dX8_best_70 : decode cX8_best 70 = .ok (.aload_n 0, 1) := by decide +kernel
theorem dX8_best_71 : decode cX8_best 71 = .ok (.getfield 53, 3) := by decide +kernel
theorem dX8_best_74 : decode cX8_best 74 = .ok (.invokevirtual 156, 3) := by decide +kernel
theorem dX8_best_77 : decode cX8_best 77 = .ok (.lload 4, 2) := by decide +kernel
theorem dX8_best_79 : decode cX8_best 79 = .ok (.lreturn, 1) := by decide +kernel
theorem dX8_had_0 : decode cX8_had 0 = .ok (.iload_n 1, 1) := by decide +kernel
theorem dX8_had_1 : decode cX8_had 1 = .ok (.iconst 0, 1) := by decide +kernel
theorem dX8_had_2 : decode cX8_had 2 = .ok (.bipush 23, 2) := by decide +kernel
theorem dX8_had_4 : decode cX8_had 4 = .ok (.invokestatic 148, 3) := by decide +kernel
theorem dX8_had_7 : decode cX8_had 7 = .ok (.ifCond .eq 12, 3) := by decide +kernel
theorem dX8_had_10 : decode cX8_had 10 = .ok (.aload_n 0, 1) := by decide +kernel
theorem dX8_had_11 : decode cX8_had 11 = .ok (.getfield 53, 3) := by decide +kernel
theorem dX8_had_14 : decode cX8_had 14 = .ok (.iload_n 1, 1) := by decide +kernel
theorem dX8_had_15 : decode cX8_had 15 = .ok (.iaload, 1) := by decide +kernel
theorem dX8_had_16 : decode cX8_had 16 = .ok (.goto 4, 3) := by decide +kernel
theorem dX8_had_19 : decode cX8_had 19 = .ok (.iconst (-1), 1) := by decide +kernel
theorem dX8_had_20 : decode cX8_had 20 = .ok (.ireturn, 1) := by decide +kernel
theorem dX8_bills_0 : decode cX8_bills 0 = .ok (.iconst 1, 1) := by decide +kernel
theorem dX8_bills_1 : decode cX8_bills 1 = .ok (.istore_n 1, 1) := by decide +kernel
theorem dX8_bills_2 : decode cX8_bills 2 = .ok (.iload_n 1, 1) := by decide +kernel
theorem dX8_bills_3 : decode cX8_bills 3 = .ok (.bipush 15, 2) := by decide +kernel
theorem dX8_bills_5 : decode cX8_bills 5 = .ok (.if_icmp .gt 40, 3) := by decide +kernel
theorem dX8_bills_8 : decode cX8_bills 8 = .ok (.aload_n 0, 1) := by decide +kernel
theorem dX8_bills_9 : decode cX8_bills 9 = .ok (.getfield 42, 3) := by decide +kernel
theorem dX8_bills_12 : decode cX8_bills 12 = .ok (.iload_n 1, 1) := by decide +kernel
theorem dX8_bills_13 : decode cX8_bills 13 = .ok (.aload_n 0, 1) := by decide +kernel
theorem dX8_bills_14 : decode cX8_bills 14 = .ok (.getfield 35, 3) := by decide +kernel
theorem dX8_bills_17 : decode cX8_bills 17 = .ok (.aload_n 0, 1) := by decide +kernel
theorem dX8_bills_18 : decode cX8_bills 18 = .ok (.getfield 59, 3) := by decide +kernel
theorem dX8_bills_21 : decode cX8_bills 21 = .ok (.aload_n 0, 1) := by decide +kernel
theorem dX8_bills_22 : decode cX8_bills 22 = .ok (.getfield 28, 3) := by decide +kernel
theorem dX8_bills_25 : decode cX8_bills 25 = .ok (.iload_n 1, 1) := by decide +kernel
theorem dX8_bills_26 : decode cX8_bills 26 = .ok (.iconst 0, 1) := by decide +kernel
theorem dX8_bills_27 : decode cX8_bills 27 = .ok (.bipush 24, 2) := by decide +kernel
theorem dX8_bills_29 : decode cX8_bills 29 = .ok (.aload_n 0, 1) := by decide +kernel
theorem dX8_bills_30 : decode cX8_bills 30 = .ok (.getfield 139, 3) := by decide +kernel
theorem dX8_bills_33 : decode cX8_bills 33 = .ok (.invokevirtual 152, 3) := by decide +kernel
theorem dX8_bills_36 : decode cX8_bills 36 = .ok (.invokevirtual 160, 3) := by decide +kernel
theorem dX8_bills_39 : decode cX8_bills 39 = .ok (.iinc 1 1, 3) := by decide +kernel
theorem dX8_bills_42 : decode cX8_bills 42 = .ok (.goto (-40), 3) := by decide +kernel
theorem dX8_bills_45 : decode cX8_bills 45 = .ok (.aload_n 0, 1) := by decide +kernel
theorem dX8_bills_46 : decode cX8_bills 46 = .ok (.getfield 42, 3) := by decide +kernel
theorem dX8_bills_49 : decode cX8_bills 49 = .ok (.invokevirtual 164, 3) := by decide +kernel
theorem dX8_bills_52 : decode cX8_bills 52 = .ok (.lreturn, 1) := by decide +kernel
theorem dX8_group_0 : decode cX8_group 0 = .ok (.iload_n 1, 1) := by decide +kernel
theorem dX8_group_1 : decode cX8_group 1 = .ok (.iconst 0, 1) := by decide +kernel
theorem dX8_group_2 : decode cX8_group 2 = .ok (.iconst 3, 1) := by decide +kernel
theorem dX8_group_3 : decode cX8_group 3 = .ok (.invokestatic 148, 3) := by decide +kernel
theorem dX8_group_6 : decode cX8_group 6 = .ok (.ifCond .eq 15, 3) := by decide +kernel
theorem dX8_group_9 : decode cX8_group 9 = .ok (.aload_n 0, 1) := by decide +kernel
theorem dX8_group_10 : decode cX8_group 10 = .ok (.getfield 42, 3) := by decide +kernel
theorem dX8_group_13 : decode cX8_group 13 = .ok (.getfield 168, 3) := by decide +kernel
theorem dX8_group_16 : decode cX8_group 16 = .ok (.iload_n 1, 1) := by decide +kernel
theorem dX8_group_17 : decode cX8_group 17 = .ok (.iaload, 1) := by decide +kernel
theorem dX8_group_18 : decode cX8_group 18 = .ok (.goto 4, 3) := by decide +kernel
theorem dX8_group_21 : decode cX8_group 21 = .ok (.iconst (-1), 1) := by decide +kernel
theorem dX8_group_22 : decode cX8_group 22 = .ok (.ireturn, 1) := by decide +kernel
theorem dX8_span_0 : decode cX8_span 0 = .ok (.iload_n 1, 1) := by decide +kernel
theorem dX8_span_1 : decode cX8_span 1 = .ok (.iconst 0, 1) := by decide +kernel
theorem dX8_span_2 : decode cX8_span 2 = .ok (.iconst 3, 1) := by decide +kernel
theorem dX8_span_3 : decode cX8_span 3 = .ok (.invokestatic 148, 3) := by decide +kernel
theorem dX8_span_6 : decode cX8_span 6 = .ok (.ifCond .eq 19, 3) := by decide +kernel
theorem dX8_span_9 : decode cX8_span 9 = .ok (.iload_n 2, 1) := by decide +kernel
theorem dX8_span_10 : decode cX8_span 10 = .ok (.ifCond .lt 15, 3) := by decide +kernel
theorem dX8_span_13 : decode cX8_span 13 = .ok (.iload_n 2, 1) := by decide +kernel
theorem dX8_span_14 : decode cX8_span 14 = .ok (.iload_n 3, 1) := by decide +kernel
theorem dX8_span_15 : decode cX8_span 15 = .ok (.if_icmp .gt 10, 3) := by decide +kernel
theorem dX8_span_18 : decode cX8_span 18 = .ok (.iload_n 3, 1) := by decide +kernel
theorem dX8_span_19 : decode cX8_span 19 = .ok (.sipush 20000, 3) := by decide +kernel
theorem dX8_span_22 : decode cX8_span 22 = .ok (.if_icmp .le 5, 3) := by decide +kernel
theorem dX8_span_25 : decode cX8_span 25 = .ok (.iconst 0, 1) := by decide +kernel
theorem dX8_span_26 : decode cX8_span 26 = .ok (.ireturn, 1) := by decide +kernel
theorem dX8_span_27 : decode cX8_span 27 = .ok (.aload_n 0, 1) := by decide +kernel
theorem dX8_span_28 : decode cX8_span 28 = .ok (.getfield 46, 3) := by decide +kernel
theorem dX8_span_31 : decode cX8_span 31 = .ok (.iload_n 1, 1) := by decide +kernel
theorem dX8_span_32 : decode cX8_span 32 = .ok (.iload_n 2, 1) := by decide +kernel
theorem dX8_span_33 : decode cX8_span 33 = .ok (.iastore, 1) := by decide +kernel
theorem dX8_span_34 : decode cX8_span 34 = .ok (.aload_n 0, 1) := by decide +kernel
theorem dX8_span_35 : decode cX8_span 35 = .ok (.getfield 50, 3) := by decide +kernel
theorem dX8_span_38 : decode cX8_span 38 = .ok (.iload_n 1, 1) := by decide +kernel
theorem dX8_span_39 : decode cX8_span 39 = .ok (.iload_n 3, 1) := by decide +kernel
theorem dX8_span_40 : decode cX8_span 40 = .ok (.iastore, 1) := by decide +kernel
theorem dX8_span_41 : decode cX8_span 41 = .ok (.iconst 1, 1) := by decide +kernel
theorem dX8_span_42 : decode cX8_span 42 = .ok (.ireturn, 1) := by decide +kernel
theorem dX8_above_0 : decode cX8_above 0 = .ok (.aload_n 0, 1) := by decide +kernel
theorem dX8_above_1 : decode cX8_above 1 = .ok (.getfield 59, 3) := by decide +kernel
theorem dX8_above_4 : decode cX8_above 4 = .ok (.iload_n 1, 1) := by decide +kernel
theorem dX8_above_5 : decode cX8_above 5 = .ok (.invokevirtual 94, 3) := by decide +kernel
theorem dX8_above_8 : decode cX8_above 8 = .ok (.astore 4, 2) := by decide +kernel
theorem dX8_above_10 : decode cX8_above 10 = .ok (.aload_n 0, 1) := by decide +kernel
theorem dX8_above_11 : decode cX8_above 11 = .ok (.getfield 59, 3) := by decide +kernel
theorem dX8_above_14 : decode cX8_above 14 = .ok (.iload_n 2, 1) := by decide +kernel
theorem dX8_above_15 : decode cX8_above 15 = .ok (.invokevirtual 94, 3) := by decide +kernel
theorem dX8_above_18 : decode cX8_above 18 = .ok (.astore 5, 2) := by decide +kernel
theorem dX8_above_20 : decode cX8_above 20 = .ok (.aload 4, 2) := by decide +kernel
theorem dX8_above_22 : decode cX8_above 22 = .ok (.ifnull 8, 3) := by decide +kernel
theorem dX8_above_25 : decode cX8_above 25 = .ok (.aload 5, 2) := by decide +kernel
theorem dX8_above_27 : decode cX8_above 27 = .ok (.ifnonnull 11, 3) := by decide +kernel
theorem dX8_above_30 : decode cX8_above 30 = .ok (.new 98, 3) := by decide +kernel
theorem dX8_above_33 : decode cX8_above 33 = .ok (.dup, 1) := by decide +kernel
theorem dX8_above_34 : decode cX8_above 34 = .ok (.invokespecial 100, 3) := by decide +kernel
theorem dX8_above_37 : decode cX8_above 37 = .ok (.athrow, 1) := by decide +kernel
theorem dX8_above_38 : decode cX8_above 38 = .ok (.aload 4, 2) := by decide +kernel
theorem dX8_above_40 : decode cX8_above 40 = .ok (.getfield 101, 3) := by decide +kernel
theorem dX8_above_43 : decode cX8_above 43 = .ok (.i2l, 1) := by decide +kernel
theorem dX8_above_44 : decode cX8_above 44 = .ok (.aload 5, 2) := by decide +kernel
theorem dX8_above_46 : decode cX8_above 46 = .ok (.getfield 101, 3) := by decide +kernel
theorem dX8_above_49 : decode cX8_above 49 = .ok (.i2l, 1) := by decide +kernel
theorem dX8_above_50 : decode cX8_above 50 = .ok (.lsub, 1) := by decide +kernel
theorem dX8_above_51 : decode cX8_above 51 = .ok (.lstore 6, 2) := by decide +kernel
theorem dX8_above_53 : decode cX8_above 53 = .ok (.iconst 0, 1) := by decide +kernel
theorem dX8_above_54 : decode cX8_above 54 = .ok (.istore 8, 2) := by decide +kernel
theorem dX8_above_56 : decode cX8_above 56 = .ok (.iload 8, 2) := by decide +kernel
theorem dX8_above_58 : decode cX8_above 58 = .ok (.iconst 4, 1) := by decide +kernel
theorem dX8_above_59 : decode cX8_above 59 = .ok (.if_icmp .ge 71, 3) := by decide +kernel
theorem dX8_above_62 : decode cX8_above 62 = .ok (.aload_n 0, 1) := by decide +kernel
theorem dX8_above_63 : decode cX8_above 63 = .ok (.getfield 50, 3) := by decide +kernel
theorem dX8_above_66 : decode cX8_above 66 = .ok (.iload 8, 2) := by decide +kernel
theorem dX8_above_68 : decode cX8_above 68 = .ok (.iaload, 1) := by decide +kernel
theorem dX8_above_69 : decode cX8_above 69 = .ok (.ifCond .le 55, 3) := by decide +kernel
theorem dX8_above_72 : decode cX8_above 72 = .ok (.aload 4, 2) := by decide +kernel
theorem dX8_above_74 : decode cX8_above 74 = .ok (.iload 8, 2) := by decide +kernel
theorem dX8_above_76 : decode cX8_above 76 = .ok (.invokevirtual 171, 3) := by decide +kernel
theorem dX8_above_79 : decode cX8_above 79 = .ok (.astore 9, 2) := by decide +kernel
theorem dX8_above_81 : decode cX8_above 81 = .ok (.aload 5, 2) := by decide +kernel
theorem dX8_above_83 : decode cX8_above 83 = .ok (.iload 8, 2) := by decide +kernel
theorem dX8_above_85 : decode cX8_above 85 = .ok (.invokevirtual 171, 3) := by decide +kernel
theorem dX8_above_88 : decode cX8_above 88 = .ok (.astore 10, 2) := by decide +kernel
theorem dX8_above_90 : decode cX8_above 90 = .ok (.aload 9, 2) := by decide +kernel
theorem dX8_above_92 : decode cX8_above 92 = .ok (.ifnull 8, 3) := by decide +kernel
theorem dX8_above_95 : decode cX8_above 95 = .ok (.aload 10, 2) := by decide +kernel
theorem dX8_above_97 : decode cX8_above 97 = .ok (.ifnonnull 11, 3) := by decide +kernel
theorem dX8_above_100 : decode cX8_above 100 = .ok (.new 98, 3) := by decide +kernel
theorem dX8_above_103 : decode cX8_above 103 = .ok (.dup, 1) := by decide +kernel
theorem dX8_above_104 : decode cX8_above 104 = .ok (.invokespecial 100, 3) := by decide +kernel
theorem dX8_above_107 : decode cX8_above 107 = .ok (.athrow, 1) := by decide +kernel
theorem dX8_above_108 : decode cX8_above 108 = .ok (.lload 6, 2) := by decide +kernel
theorem dX8_above_110 : decode cX8_above 110 = .ok (.aload_n 0, 1) := by decide +kernel
theorem dX8_above_111 : decode cX8_above 111 = .ok (.aload 9, 2) := by decide +kernel
theorem dX8_above_113 : decode cX8_above 113 = .ok (.aload 10, 2) := by decide +kernel
theorem dX8_above_115 : decode cX8_above 115 = .ok (.iload 8, 2) := by decide +kernel
theorem dX8_above_117 : decode cX8_above 117 = .ok (.iload_n 3, 1) := by decide +kernel
theorem dX8_above_118 : decode cX8_above 118 = .ok (.invokevirtual 175, 3) := by decide +kernel
theorem dX8_above_121 : decode cX8_above 121 = .ok (.ladd, 1) := by decide +kernel
theorem dX8_above_122 : decode cX8_above 122 = .ok (.lstore 6, 2) := by decide +kernel
theorem dX8_above_124 : decode cX8_above 124 = .ok (.iinc 8 1, 3) := by decide +kernel
theorem dX8_above_127 : decode cX8_above 127 = .ok (.goto (-71), 3) := by decide +kernel
theorem dX8_above_130 : decode cX8_above 130 = .ok (.lload 6, 2) := by decide +kernel
theorem dX8_above_132 : decode cX8_above 132 = .ok (.lreturn, 1) := by decide +kernel
theorem dX8_count_0 : decode cX8_count 0 = .ok (.iload_n 1, 1) := by decide +kernel
theorem dX8_count_1 : decode cX8_count 1 = .ok (.tableswitch 57 0 3 #[31, 39, 44, 52], 31) := by decide +kernel
theorem dX8_count_32 : decode cX8_count 32 = .ok (.aload_n 0, 1) := by decide +kernel
theorem dX8_count_33 : decode cX8_count 33 = .ok (.getfield 59, 3) := by decide +kernel
theorem dX8_count_36 : decode cX8_count 36 = .ok (.getfield 88, 3) := by decide +kernel
theorem dX8_count_39 : decode cX8_count 39 = .ok (.ireturn, 1) := by decide +kernel
theorem dX8_count_40 : decode cX8_count 40 = .ok (.aload_n 0, 1) := by decide +kernel
theorem dX8_count_41 : decode cX8_count 41 = .ok (.getfield 139, 3) := by decide +kernel
theorem dX8_count_44 : decode cX8_count 44 = .ok (.ireturn, 1) := by decide +kernel
theorem dX8_count_45 : decode cX8_count 45 = .ok (.aload_n 0, 1) := by decide +kernel
theorem dX8_count_46 : decode cX8_count 46 = .ok (.getfield 10, 3) := by decide +kernel
theorem dX8_count_49 : decode cX8_count 49 = .ok (.getfield 66, 3) := by decide +kernel
theorem dX8_count_52 : decode cX8_count 52 = .ok (.ireturn, 1) := by decide +kernel
theorem dX8_count_53 : decode cX8_count 53 = .ok (.aload_n 0, 1) := by decide +kernel
theorem dX8_count_54 : decode cX8_count 54 = .ok (.getfield 128, 3) := by decide +kernel
theorem dX8_count_57 : decode cX8_count 57 = .ok (.ireturn, 1) := by decide +kernel
theorem dX8_count_58 : decode cX8_count 58 = .ok (.iconst (-1), 1) := by decide +kernel
theorem dX8_count_59 : decode cX8_count 59 = .ok (.ireturn, 1) := by decide +kernel
theorem dX8_isWithin_0 : decode cX8_isWithin 0 = .ok (.iload_n 0, 1) := by decide +kernel
theorem dX8_isWithin_1 : decode cX8_isWithin 1 = .ok (.iload_n 1, 1) := by decide +kernel
theorem dX8_isWithin_2 : decode cX8_isWithin 2 = .ok (.if_icmp .lt 12, 3) := by decide +kernel
theorem dX8_isWithin_5 : decode cX8_isWithin 5 = .ok (.iload_n 0, 1) := by decide +kernel
theorem dX8_isWithin_6 : decode cX8_isWithin 6 = .ok (.iload_n 2, 1) := by decide +kernel
theorem dX8_isWithin_7 : decode cX8_isWithin 7 = .ok (.if_icmp .gt 7, 3) := by decide +kernel
theorem dX8_isWithin_10 : decode cX8_isWithin 10 = .ok (.iconst 1, 1) := by decide +kernel
theorem dX8_isWithin_11 : decode cX8_isWithin 11 = .ok (.goto 4, 3) := by decide +kernel
theorem dX8_isWithin_14 : decode cX8_isWithin 14 = .ok (.iconst 0, 1) := by decide +kernel
theorem dX8_isWithin_15 : decode cX8_isWithin 15 = .ok (.ireturn, 1) := by decide +kernel
theorem dX8_plus_0 : decode cX8_plus 0 = .ok (.lload_n 0, 1) := by decide +kernel
theorem dX8_plus_1 : decode cX8_plus 1 = .ok (.ldc2_w 146, 3) := by decide +kernel
theorem dX8_plus_4 : decode cX8_plus 4 = .ok (.lcmp, 1) := by decide +kernel
theorem dX8_plus_5 : decode cX8_plus 5 = .ok (.ifCond .eq 11, 3) := by decide +kernel
theorem dX8_plus_8 : decode cX8_plus 8 = .ok (.lload_n 2, 1) := by decide +kernel
theorem dX8_plus_9 : decode cX8_plus 9 = .ok (.ldc2_w 146, 3) := by decide +kernel
theorem dX8_plus_12 : decode cX8_plus 12 = .ok (.lcmp, 1) := by decide +kernel
theorem dX8_plus_13 : decode cX8_plus 13 = .ok (.ifCond .ne 9, 3) := by decide +kernel
theorem dX8_plus_16 : decode cX8_plus 16 = .ok (.ldc2_w 146, 3) := by decide +kernel
theorem dX8_plus_19 : decode cX8_plus 19 = .ok (.goto 6, 3) := by decide +kernel
theorem dX8_plus_22 : decode cX8_plus 22 = .ok (.lload_n 0, 1) := by decide +kernel
theorem dX8_plus_23 : decode cX8_plus 23 = .ok (.lload_n 2, 1) := by decide +kernel
theorem dX8_plus_24 : decode cX8_plus 24 = .ok (.ladd, 1) := by decide +kernel
theorem dX8_plus_25 : decode cX8_plus 25 = .ok (.lreturn, 1) := by decide +kernel
theorem dX8_isCheaper_0 : decode cX8_isCheaper 0 = .ok (.lload_n 0, 1) := by decide +kernel
theorem dX8_isCheaper_1 : decode cX8_isCheaper 1 = .ok (.ldc2_w 146, 3) := by decide +kernel
theorem dX8_isCheaper_4 : decode cX8_isCheaper 4 = .ok (.lcmp, 1) := by decide +kernel
theorem dX8_isCheaper_5 : decode cX8_isCheaper 5 = .ok (.ifCond .eq 21, 3) := by decide +kernel
theorem dX8_isCheaper_8 : decode cX8_isCheaper 8 = .ok (.lload_n 2, 1) := by decide +kernel
theorem dX8_isCheaper_9 : decode cX8_isCheaper 9 = .ok (.ldc2_w 146, 3) := by decide +kernel
theorem dX8_isCheaper_12 : decode cX8_isCheaper 12 = .ok (.lcmp, 1) := by decide +kernel
theorem dX8_isCheaper_13 : decode cX8_isCheaper 13 = .ok (.ifCond .eq 9, 3) := by decide +kernel
theorem dX8_isCheaper_16 : decode cX8_isCheaper 16 = .ok (.lload_n 0, 1) := by decide +kernel
theorem dX8_isCheaper_17 : decode cX8_isCheaper 17 = .ok (.lload_n 2, 1) := by decide +kernel
theorem dX8_isCheaper_18 : decode cX8_isCheaper 18 = .ok (.lcmp, 1) := by decide +kernel
theorem dX8_isCheaper_19 : decode cX8_isCheaper 19 = .ok (.ifCond .ge 7, 3) := by decide +kernel
theorem dX8_isCheaper_22 : decode cX8_isCheaper 22 = .ok (.iconst 1, 1) := by decide +kernel
theorem dX8_isCheaper_23 : decode cX8_isCheaper 23 = .ok (.goto 4, 3) := by decide +kernel
theorem dX8_isCheaper_26 : decode cX8_isCheaper 26 = .ok (.iconst 0, 1) := by decide +kernel
theorem dX8_isCheaper_27 : decode cX8_isCheaper 27 = .ok (.ireturn, 1) := by decide +kernel
theorem dX8_forgetRow_0 : decode cX8_forgetRow 0 = .ok (.iconst 0, 1) := by decide +kernel
theorem dX8_forgetRow_1 : decode cX8_forgetRow 1 = .ok (.istore_n 1, 1) := by decide +kernel
theorem dX8_forgetRow_2 : decode cX8_forgetRow 2 = .ok (.iload_n 1, 1) := by decide +kernel
theorem dX8_forgetRow_3 : decode cX8_forgetRow 3 = .ok (.bipush 24, 2) := by decide +kernel
theorem dX8_forgetRow_5 : decode cX8_forgetRow 5 = .ok (.if_icmp .ge 16, 3) := by decide +kernel
theorem dX8_forgetRow_8 : decode cX8_forgetRow 8 = .ok (.aload_n 0, 1) := by decide +kernel
theorem dX8_forgetRow_9 : decode cX8_forgetRow 9 = .ok (.getfield 53, 3) := by decide +kernel
theorem dX8_forgetRow_12 : decode cX8_forgetRow 12 = .ok (.iload_n 1, 1) := by decide +kernel
theorem dX8_forgetRow_13 : decode cX8_forgetRow 13 = .ok (.iconst (-1), 1) := by decide +kernel
theorem dX8_forgetRow_14 : decode cX8_forgetRow 14 = .ok (.iastore, 1) := by decide +kernel
theorem dX8_forgetRow_15 : decode cX8_forgetRow 15 = .ok (.iinc 1 1, 3) := by decide +kernel
theorem dX8_forgetRow_18 : decode cX8_forgetRow 18 = .ok (.goto (-16), 3) := by decide +kernel
theorem dX8_forgetRow_21 : decode cX8_forgetRow 21 = .ok (.return_, 1) := by decide +kernel
theorem dX8_centsOf_0 : decode cX8_centsOf 0 = .ok (.aload_n 0, 1) := by decide +kernel
theorem dX8_centsOf_1 : decode cX8_centsOf 1 = .ok (.getfield 59, 3) := by decide +kernel
theorem dX8_centsOf_4 : decode cX8_centsOf 4 = .ok (.iload_n 1, 1) := by decide +kernel
theorem dX8_centsOf_5 : decode cX8_centsOf 5 = .ok (.invokevirtual 94, 3) := by decide +kernel
theorem dX8_centsOf_8 : decode cX8_centsOf 8 = .ok (.astore 5, 2) := by decide +kernel
theorem dX8_centsOf_10 : decode cX8_centsOf 10 = .ok (.aload 5, 2) := by decide +kernel
theorem dX8_centsOf_12 : decode cX8_centsOf 12 = .ok (.ifnull 33, 3) := by decide +kernel
theorem dX8_centsOf_15 : decode cX8_centsOf 15 = .ok (.iload_n 2, 1) := by decide +kernel
theorem dX8_centsOf_16 : decode cX8_centsOf 16 = .ok (.iconst 1, 1) := by decide +kernel
theorem dX8_centsOf_17 : decode cX8_centsOf 17 = .ok (.bipush 15, 2) := by decide +kernel
theorem dX8_centsOf_19 : decode cX8_centsOf 19 = .ok (.invokestatic 148, 3) := by decide +kernel
theorem dX8_centsOf_22 : decode cX8_centsOf 22 = .ok (.ifCond .eq 23, 3) := by decide +kernel
theorem dX8_centsOf_25 : decode cX8_centsOf 25 = .ok (.iload_n 3, 1) := by decide +kernel
theorem dX8_centsOf_26 : decode cX8_centsOf 26 = .ok (.iconst 0, 1) := by decide +kernel
theorem dX8_centsOf_27 : decode cX8_centsOf 27 = .ok (.bipush 23, 2) := by decide +kernel
theorem dX8_centsOf_29 : decode cX8_centsOf 29 = .ok (.invokestatic 148, 3) := by decide +kernel
theorem dX8_centsOf_32 : decode cX8_centsOf 32 = .ok (.ifCond .eq 13, 3) := by decide +kernel
theorem dX8_centsOf_35 : decode cX8_centsOf 35 = .ok (.iload 4, 2) := by decide +kernel
theorem dX8_centsOf_37 : decode cX8_centsOf 37 = .ok (.iconst 0, 1) := by decide +kernel
theorem dX8_centsOf_38 : decode cX8_centsOf 38 = .ok (.iconst 5, 1) := by decide +kernel
theorem dX8_centsOf_39 : decode cX8_centsOf 39 = .ok (.invokestatic 148, 3) := by decide +kernel
theorem dX8_centsOf_42 : decode cX8_centsOf 42 = .ok (.ifCond .ne 7, 3) := by decide +kernel
theorem dX8_centsOf_45 : decode cX8_centsOf 45 = .ok (.ldc2_w 146, 3) := by decide +kernel
theorem dX8_centsOf_48 : decode cX8_centsOf 48 = .ok (.lreturn, 1) := by decide +kernel
theorem dX8_centsOf_49 : decode cX8_centsOf 49 = .ok (.aload_n 0, 1) := by decide +kernel
theorem dX8_centsOf_50 : decode cX8_centsOf 50 = .ok (.getfield 28, 3) := by decide +kernel
theorem dX8_centsOf_53 : decode cX8_centsOf 53 = .ok (.iload_n 2, 1) := by decide +kernel
theorem dX8_centsOf_54 : decode cX8_centsOf 54 = .ok (.iload_n 3, 1) := by decide +kernel
theorem dX8_centsOf_55 : decode cX8_centsOf 55 = .ok (.invokevirtual 179, 3) := by decide +kernel
theorem dX8_centsOf_58 : decode cX8_centsOf 58 = .ok (.astore 6, 2) := by decide +kernel
theorem dX8_centsOf_60 : decode cX8_centsOf 60 = .ok (.aload 5, 2) := by decide +kernel
theorem dX8_centsOf_62 : decode cX8_centsOf 62 = .ok (.aload 6, 2) := by decide +kernel
theorem dX8_centsOf_64 : decode cX8_centsOf 64 = .ok (.invokevirtual 183, 3) := by decide +kernel
theorem dX8_centsOf_67 : decode cX8_centsOf 67 = .ok (.lstore 7, 2) := by decide +kernel
theorem dX8_centsOf_69 : decode cX8_centsOf 69 = .ok (.lload 7, 2) := by decide +kernel
theorem dX8_centsOf_71 : decode cX8_centsOf 71 = .ok (.ldc2_w 146, 3) := by decide +kernel
theorem dX8_centsOf_74 : decode cX8_centsOf 74 = .ok (.lcmp, 1) := by decide +kernel
theorem dX8_centsOf_75 : decode cX8_centsOf 75 = .ok (.ifCond .eq 8, 3) := by decide +kernel
theorem dX8_centsOf_78 : decode cX8_centsOf 78 = .ok (.iload 4, 2) := by decide +kernel
theorem dX8_centsOf_80 : decode cX8_centsOf 80 = .ok (.ifCond .ne 6, 3) := by decide +kernel
theorem dX8_centsOf_83 : decode cX8_centsOf 83 = .ok (.lload 7, 2) := by decide +kernel
theorem dX8_centsOf_85 : decode cX8_centsOf 85 = .ok (.lreturn, 1) := by decide +kernel
theorem dX8_centsOf_86 : decode cX8_centsOf 86 = .ok (.iload 4, 2) := by decide +kernel
theorem dX8_centsOf_88 : decode cX8_centsOf 88 = .ok (.iconst 1, 1) := by decide +kernel
theorem dX8_centsOf_89 : decode cX8_centsOf 89 = .ok (.if_icmp .ne 12, 3) := by decide +kernel
theorem dX8_centsOf_92 : decode cX8_centsOf 92 = .ok (.aload 5, 2) := by decide +kernel
theorem dX8_centsOf_94 : decode cX8_centsOf 94 = .ok (.getfield 101, 3) := by decide +kernel
theorem dX8_centsOf_97 : decode cX8_centsOf 97 = .ok (.i2l, 1) := by decide +kernel
theorem dX8_centsOf_98 : decode cX8_centsOf 98 = .ok (.goto 14, 3) := by decide +kernel
theorem dX8_centsOf_101 : decode cX8_centsOf 101 = .ok (.aload 5, 2) := by decide +kernel
theorem dX8_centsOf_103 : decode cX8_centsOf 103 = .ok (.aload 6, 2) := by decide +kernel
theorem dX8_centsOf_105 : decode cX8_centsOf 105 = .ok (.iload 4, 2) := by decide +kernel
theorem dX8_centsOf_107 : decode cX8_centsOf 107 = .ok (.iconst 2, 1) := by decide +kernel
theorem dX8_centsOf_108 : decode cX8_centsOf 108 = .ok (.isub, 1) := by decide +kernel
theorem dX8_centsOf_109 : decode cX8_centsOf 109 = .ok (.invokevirtual 187, 3) := by decide +kernel
theorem dX8_centsOf_112 : decode cX8_centsOf 112 = .ok (.lreturn, 1) := by decide +kernel
theorem dX8_partAbove_0 : decode cX8_partAbove 0 = .ok (.aload_n 0, 1) := by decide +kernel
theorem dX8_partAbove_1 : decode cX8_partAbove 1 = .ok (.getfield 46, 3) := by decide +kernel
theorem dX8_partAbove_4 : decode cX8_partAbove 4 = .ok (.iload_n 3, 1) := by decide +kernel
theorem dX8_partAbove_5 : decode cX8_partAbove 5 = .ok (.iaload, 1) := by decide +kernel
theorem dX8_partAbove_6 : decode cX8_partAbove 6 = .ok (.istore 5, 2) := by decide +kernel
theorem dX8_partAbove_8 : decode cX8_partAbove 8 = .ok (.aload_n 0, 1) := by decide +kernel
theorem dX8_partAbove_9 : decode cX8_partAbove 9 = .ok (.getfield 50, 3) := by decide +kernel
theorem dX8_partAbove_12 : decode cX8_partAbove 12 = .ok (.iload_n 3, 1) := by decide +kernel
theorem dX8_partAbove_13 : decode cX8_partAbove 13 = .ok (.iaload, 1) := by decide +kernel
theorem dX8_partAbove_14 : decode cX8_partAbove 14 = .ok (.istore 6, 2) := by decide +kernel
theorem dX8_partAbove_16 : decode cX8_partAbove 16 = .ok (.aload_n 1, 1) := by decide +kernel
theorem dX8_partAbove_17 : decode cX8_partAbove 17 = .ok (.aload_n 2, 1) := by decide +kernel
theorem dX8_partAbove_18 : decode cX8_partAbove 18 = .ok (.iload 5, 2) := by decide +kernel
theorem dX8_partAbove_20 : decode cX8_partAbove 20 = .ok (.invokestatic 191, 3) := by decide +kernel
theorem dX8_partAbove_23 : decode cX8_partAbove 23 = .ok (.aload_n 1, 1) := by decide +kernel
theorem dX8_partAbove_24 : decode cX8_partAbove 24 = .ok (.aload_n 2, 1) := by decide +kernel
theorem dX8_partAbove_25 : decode cX8_partAbove 25 = .ok (.iload 6, 2) := by decide +kernel
theorem dX8_partAbove_27 : decode cX8_partAbove 27 = .ok (.invokestatic 191, 3) := by decide +kernel
theorem dX8_partAbove_30 : decode cX8_partAbove 30 = .ok (.iload 4, 2) := by decide +kernel
theorem dX8_partAbove_32 : decode cX8_partAbove 32 = .ok (.invokestatic 195, 3) := by decide +kernel
theorem dX8_partAbove_35 : decode cX8_partAbove 35 = .ok (.lstore 7, 2) := by decide +kernel
theorem dX8_partAbove_37 : decode cX8_partAbove 37 = .ok (.iconst 0, 1) := by decide +kernel
theorem dX8_partAbove_38 : decode cX8_partAbove 38 = .ok (.istore 9, 2) := by decide +kernel
theorem dX8_partAbove_40 : decode cX8_partAbove 40 = .ok (.iload 9, 2) := by decide +kernel
theorem dX8_partAbove_42 : decode cX8_partAbove 42 = .ok (.iconst 3, 1) := by decide +kernel
theorem dX8_partAbove_43 : decode cX8_partAbove 43 = .ok (.if_icmp .gt 81, 3) := by decide +kernel
theorem dX8_partAbove_46 : decode cX8_partAbove 46 = .ok (.aload_n 1, 1) := by decide +kernel
theorem dX8_partAbove_47 : decode cX8_partAbove 47 = .ok (.iload 9, 2) := by decide +kernel
theorem dX8_partAbove_49 : decode cX8_partAbove 49 = .ok (.invokevirtual 199, 3) := by decide +kernel
theorem dX8_partAbove_52 : decode cX8_partAbove 52 = .ok (.istore 10, 2) := by decide +kernel
theorem dX8_partAbove_54 : decode cX8_partAbove 54 = .ok (.iload 10, 2) := by decide +kernel
theorem dX8_partAbove_56 : decode cX8_partAbove 56 = .ok (.iload 5, 2) := by decide +kernel
theorem dX8_partAbove_58 : decode cX8_partAbove 58 = .ok (.iload 6, 2) := by decide +kernel
theorem dX8_partAbove_60 : decode cX8_partAbove 60 = .ok (.invokestatic 148, 3) := by decide +kernel
theorem dX8_partAbove_63 : decode cX8_partAbove 63 = .ok (.ifCond .eq 19, 3) := by decide +kernel
theorem dX8_partAbove_66 : decode cX8_partAbove 66 = .ok (.lload 7, 2) := by decide +kernel
theorem dX8_partAbove_68 : decode cX8_partAbove 68 = .ok (.aload_n 1, 1) := by decide +kernel
theorem dX8_partAbove_69 : decode cX8_partAbove 69 = .ok (.aload_n 2, 1) := by decide +kernel
theorem dX8_partAbove_70 : decode cX8_partAbove 70 = .ok (.iload 10, 2) := by decide +kernel
theorem dX8_partAbove_72 : decode cX8_partAbove 72 = .ok (.invokestatic 191, 3) := by decide +kernel
theorem dX8_partAbove_75 : decode cX8_partAbove 75 = .ok (.iload 4, 2) := by decide +kernel
theorem dX8_partAbove_77 : decode cX8_partAbove 77 = .ok (.invokestatic 195, 3) := by decide +kernel
theorem dX8_partAbove_80 : decode cX8_partAbove 80 = .ok (.lstore 7, 2) := by decide +kernel
theorem dX8_partAbove_82 : decode cX8_partAbove 82 = .ok (.aload_n 2, 1) := by decide +kernel
theorem dX8_partAbove_83 : decode cX8_partAbove 83 = .ok (.iload 9, 2) := by decide +kernel
theorem dX8_partAbove_85 : decode cX8_partAbove 85 = .ok (.invokevirtual 199, 3) := by decide +kernel
theorem dX8_partAbove_88 : decode cX8_partAbove 88 = .ok (.istore 11, 2) := by decide +kernel
theorem dX8_partAbove_90 : decode cX8_partAbove 90 = .ok (.iload 11, 2) := by decide +kernel
theorem dX8_partAbove_92 : decode cX8_partAbove 92 = .ok (.iload 5, 2) := by decide +kernel
theorem dX8_partAbove_94 : decode cX8_partAbove 94 = .ok (.iload 6, 2) := by decide +kernel
theorem dX8_partAbove_96 : decode cX8_partAbove 96 = .ok (.invokestatic 148, 3) := by decide +kernel
theorem dX8_partAbove_99 : decode cX8_partAbove 99 = .ok (.ifCond .eq 19, 3) := by decide +kernel
theorem dX8_partAbove_102 : decode cX8_partAbove 102 = .ok (.lload 7, 2) := by decide +kernel
theorem dX8_partAbove_104 : decode cX8_partAbove 104 = .ok (.aload_n 1, 1) := by decide +kernel
theorem dX8_partAbove_105 : decode cX8_partAbove 105 = .ok (.aload_n 2, 1) := by decide +kernel
theorem dX8_partAbove_106 : decode cX8_partAbove 106 = .ok (.iload 11, 2) := by decide +kernel
theorem dX8_partAbove_108 : decode cX8_partAbove 108 = .ok (.invokestatic 191, 3) := by decide +kernel
theorem dX8_partAbove_111 : decode cX8_partAbove 111 = .ok (.iload 4, 2) := by decide +kernel
theorem dX8_partAbove_113 : decode cX8_partAbove 113 = .ok (.invokestatic 195, 3) := by decide +kernel
theorem dX8_partAbove_116 : decode cX8_partAbove 116 = .ok (.lstore 7, 2) := by decide +kernel
theorem dX8_partAbove_118 : decode cX8_partAbove 118 = .ok (.iinc 9 1, 3) := by decide +kernel
theorem dX8_partAbove_121 : decode cX8_partAbove 121 = .ok (.goto (-81), 3) := by decide +kernel
theorem dX8_partAbove_124 : decode cX8_partAbove 124 = .ok (.lload 7, 2) := by decide +kernel
theorem dX8_partAbove_126 : decode cX8_partAbove 126 = .ok (.lreturn, 1) := by decide +kernel
theorem dX8_differenceAt_0 : decode cX8_differenceAt 0 = .ok (.aload_n 0, 1) := by decide +kernel
theorem dX8_differenceAt_1 : decode cX8_differenceAt 1 = .ok (.iload_n 2, 1) := by decide +kernel
theorem dX8_differenceAt_2 : decode cX8_differenceAt 2 = .ok (.invokevirtual 205, 3) := by decide +kernel
theorem dX8_differenceAt_5 : decode cX8_differenceAt 5 = .ok (.aload_n 1, 1) := by decide +kernel
theorem dX8_differenceAt_6 : decode cX8_differenceAt 6 = .ok (.iload_n 2, 1) := by decide +kernel
theorem dX8_differenceAt_7 : decode cX8_differenceAt 7 = .ok (.invokevirtual 205, 3) := by decide +kernel
theorem dX8_differenceAt_10 : decode cX8_differenceAt 10 = .ok (.lsub, 1) := by decide +kernel
theorem dX8_differenceAt_11 : decode cX8_differenceAt 11 = .ok (.lreturn, 1) := by decide +kernel
theorem dX8_further_0 : decode cX8_further 0 = .ok (.iload 4, 2) := by decide +kernel
theorem dX8_further_2 : decode cX8_further 2 = .ok (.ifCond .eq 11, 3) := by decide +kernel
theorem dX8_further_5 : decode cX8_further 5 = .ok (.lload_n 0, 1) := by decide +kernel
theorem dX8_further_6 : decode cX8_further 6 = .ok (.lload_n 2, 1) := by decide +kernel
theorem dX8_further_7 : decode cX8_further 7 = .ok (.invokestatic 209, 3) := by decide +kernel
theorem dX8_further_10 : decode cX8_further 10 = .ok (.goto 8, 3) := by decide +kernel
theorem dX8_further_13 : decode cX8_further 13 = .ok (.lload_n 0, 1) := by decide +kernel
theorem dX8_further_14 : decode cX8_further 14 = .ok (.lload_n 2, 1) := by decide +kernel
theorem dX8_further_15 : decode cX8_further 15 = .ok (.invokestatic 215, 3) := by decide +kernel
theorem dX8_further_18 : decode cX8_further 18 = .ok (.lreturn, 1) := by decide +kernel
theorem dX9_init_0 : decode cX9_init 0 = .ok (.aload_n 0, 1) := by decide +kernel
theorem dX9_init_1 : decode cX9_init 1 = .ok (.invokespecial 1, 3) := by decide +kernel
theorem dX9_init_4 : decode cX9_init 4 = .ok (.aload_n 0, 1) := by decide +kernel
theorem dX9_init_5 : decode cX9_init 5 = .ok (.sipush 840, 3) := by decide +kernel
theorem dX9_init_8 : decode cX9_init 8 = .ok (.newarray .int, 2) := by decide +kernel
theorem dX9_init_10 : decode cX9_init 10 = .ok (.putfield 7, 3) := by decide +kernel
theorem dX9_init_13 : decode cX9_init 13 = .ok (.aload_n 0, 1) := by decide +kernel
theorem dX9_init_14 : decode cX9_init 14 = .ok (.bipush 20, 2) := by decide +kernel
theorem dX9_init_16 : decode cX9_init 16 = .ok (.newarray .long, 2) := by decide +kernel
theorem dX9_init_18 : decode cX9_init 18 = .ok (.putfield 13, 3) := by decide +kernel
theorem dX9_init_21 : decode cX9_init 21 = .ok (.aload_n 0, 1) := by decide +kernel
theorem dX9_init_22 : decode cX9_init 22 = .ok (.bipush 20, 2) := by decide +kernel
theorem dX9_init_24 : decode cX9_init 24 = .ok (.newarray .int, 2) := by decide +kernel
theorem dX9_init_26 : decode cX9_init 26 = .ok (.putfield 17, 3) := by decide +kernel
theorem dX9_init_29 : decode cX9_init 29 = .ok (.aload_n 0, 1) := by decide +kernel
theorem dX9_init_30 : decode cX9_init 30 = .ok (.bipush 20, 2) := by decide +kernel
theorem dX9_init_32 : decode cX9_init 32 = .ok (.newarray .int, 2) := by decide +kernel
theorem dX9_init_34 : decode cX9_init 34 = .ok (.putfield 20, 3) := by decide +kernel
theorem dX9_init_37 : decode cX9_init 37 = .ok (.aload_n 0, 1) := by decide +kernel
theorem dX9_init_38 : decode cX9_init 38 = .ok (.bipush 20, 2) := by decide +kernel
theorem dX9_init_40 : decode cX9_init 40 = .ok (.newarray .int, 2) := by decide +kernel
theorem dX9_init_42 : decode cX9_init 42 = .ok (.putfield 23, 3) := by decide +kernel
theorem dX9_init_45 : decode cX9_init 45 = .ok (.aload_n 0, 1) := by decide +kernel
theorem dX9_init_46 : decode cX9_init 46 = .ok (.bipush 20, 2) := by decide +kernel
theorem dX9_init_48 : decode cX9_init 48 = .ok (.newarray .int, 2) := by decide +kernel
theorem dX9_init_50 : decode cX9_init 50 = .ok (.putfield 26, 3) := by decide +kernel
theorem dX9_init_53 : decode cX9_init 53 = .ok (.aload_n 0, 1) := by decide +kernel
theorem dX9_init_54 : decode cX9_init 54 = .ok (.bipush 80, 2) := by decide +kernel
theorem dX9_init_56 : decode cX9_init 56 = .ok (.newarray .boolean, 2) := by decide +kernel
theorem dX9_init_58 : decode cX9_init 58 = .ok (.putfield 29, 3) := by decide +kernel
theorem dX9_init_61 : decode cX9_init 61 = .ok (.aload_n 0, 1) := by decide +kernel
theorem dX9_init_62 : decode cX9_init 62 = .ok (.bipush 80, 2) := by decide +kernel
theorem dX9_init_64 : decode cX9_init 64 = .ok (.newarray .int, 2) := by decide +kernel
theorem dX9_init_66 : decode cX9_init 66 = .ok (.putfield 33, 3) := by decide +kernel
theorem dX9_init_69 : decode cX9_init 69 = .ok (.aload_n 0, 1) := by decide +kernel
theorem dX9_init_70 : decode cX9_init 70 = .ok (.bipush 80, 2) := by decide +kernel
theorem dX9_init_72 : decode cX9_init 72 = .ok (.newarray .int, 2) := by decide +kernel
theorem dX9_init_74 : decode cX9_init 74 = .ok (.putfield 36, 3) := by decide +kernel
theorem dX9_init_77 : decode cX9_init 77 = .ok (.aload_n 0, 1) := by decide +kernel
theorem dX9_init_78 : decode cX9_init 78 = .ok (.sipush 240, 3) := by decide +kernel
theorem dX9_init_81 : decode cX9_init 81 = .ok (.newarray .int, 2) := by decide +kernel
theorem dX9_init_83 : decode cX9_init 83 = .ok (.putfield 39, 3) := by decide +kernel
theorem dX9_init_86 : decode cX9_init 86 = .ok (.aload_n 0, 1) := by decide +kernel
theorem dX9_init_87 : decode cX9_init 87 = .ok (.sipush 240, 3) := by decide +kernel
theorem dX9_init_90 : decode cX9_init 90 = .ok (.newarray .int, 2) := by decide +kernel
theorem dX9_init_92 : decode cX9_init 92 = .ok (.putfield 42, 3) := by decide +kernel
theorem dX9_init_95 : decode cX9_init 95 = .ok (.aload_n 0, 1) := by decide +kernel
theorem dX9_init_96 : decode cX9_init 96 = .ok (.bipush 80, 2) := by decide +kernel
theorem dX9_init_98 : decode cX9_init 98 = .ok (.newarray .int, 2) := by decide +kernel
theorem dX9_init_100 : decode cX9_init 100 = .ok (.putfield 45, 3) := by decide +kernel
theorem dX9_init_103 : decode cX9_init 103 = .ok (.aload_n 0, 1) := by decide +kernel
theorem dX9_init_104 : decode cX9_init 104 = .ok (.bipush 8, 2) := by decide +kernel
theorem dX9_init_106 : decode cX9_init 106 = .ok (.newarray .int, 2) := by decide +kernel
theorem dX9_init_108 : decode cX9_init 108 = .ok (.putfield 48, 3) := by decide +kernel
theorem dX9_init_111 : decode cX9_init 111 = .ok (.aload_n 0, 1) := by decide +kernel
theorem dX9_init_112 : decode cX9_init 112 = .ok (.sipush 384, 3) := by decide +kernel
theorem dX9_init_115 : decode cX9_init 115 = .ok (.newarray .int, 2) := by decide +kernel
theorem dX9_init_117 : decode cX9_init 117 = .ok (.putfield 51, 3) := by decide +kernel
theorem dX9_init_120 : decode cX9_init 120 = .ok (.aload_n 0, 1) := by decide +kernel
theorem dX9_init_121 : decode cX9_init 121 = .ok (.sipush 250, 3) := by decide +kernel
theorem dX9_init_124 : decode cX9_init 124 = .ok (.newarray .long, 2) := by decide +kernel
theorem dX9_init_126 : decode cX9_init 126 = .ok (.putfield 54, 3) := by decide +kernel
theorem dX9_init_129 : decode cX9_init 129 = .ok (.aload_n 0, 1) := by decide +kernel
theorem dX9_init_130 : decode cX9_init 130 = .ok (.sipush 250, 3) := by decide +kernel
theorem dX9_init_133 : decode cX9_init 133 = .ok (.newarray .long, 2) := by decide +kernel
theorem dX9_init_135 : decode cX9_init 135 = .ok (.putfield 57, 3) := by decide +kernel
theorem dX9_init_138 : decode cX9_init 138 = .ok (.aload_n 0, 1) := by decide +kernel
theorem dX9_init_139 : decode cX9_init 139 = .ok (.sipush 6000, 3) := by decide +kernel
theorem dX9_init_142 : decode cX9_init 142 = .ok (.newarray .int, 2) := by decide +kernel
theorem dX9_init_144 : decode cX9_init 144 = .ok (.putfield 60, 3) := by decide +kernel
theorem dX9_init_147 : decode cX9_init 147 = .ok (.aload_n 0, 1) := by decide +kernel
theorem dX9_init_148 : decode cX9_init 148 = .ok (.sipush 6000, 3) := by decide +kernel
theorem dX9_init_151 : decode cX9_init 151 = .ok (.newarray .int, 2) := by decide +kernel
theorem dX9_init_153 : decode cX9_init 153 = .ok (.putfield 63, 3) := by decide +kernel
theorem dX9_init_156 : decode cX9_init 156 = .ok (.aload_n 0, 1) := by decide +kernel
theorem dX9_init_157 : decode cX9_init 157 = .ok (.bipush 24, 2) := by decide +kernel
theorem dX9_init_159 : decode cX9_init 159 = .ok (.newarray .int, 2) := by decide +kernel
theorem dX9_init_161 : decode cX9_init 161 = .ok (.putfield 66, 3) := by decide +kernel
theorem dX9_init_164 : decode cX9_init 164 = .ok (.aload_n 0, 1) := by decide +kernel
theorem dX9_init_165 : decode cX9_init 165 = .ok (.bipush 16, 2) := by decide +kernel
theorem dX9_init_167 : decode cX9_init 167 = .ok (.newarray .long, 2) := by decide +kernel
theorem dX9_init_169 : decode cX9_init 169 = .ok (.putfield 69, 3) := by decide +kernel
theorem dX9_init_172 : decode cX9_init 172 = .ok (.aload_n 0, 1) := by decide +kernel
theorem dX9_init_173 : decode cX9_init 173 = .ok (.bipush 16, 2) := by decide +kernel
theorem dX9_init_175 : decode cX9_init 175 = .ok (.newarray .long, 2) := by decide +kernel
theorem dX9_init_177 : decode cX9_init 177 = .ok (.putfield 72, 3) := by decide +kernel
theorem dX9_init_180 : decode cX9_init 180 = .ok (.aload_n 0, 1) := by decide +kernel
theorem dX9_init_181 : decode cX9_init 181 = .ok (.bipush 16, 2) := by decide +kernel
theorem dX9_init_183 : decode cX9_init 183 = .ok (.newarray .int, 2) := by decide +kernel
theorem dX9_init_185 : decode cX9_init 185 = .ok (.putfield 75, 3) := by decide +kernel
theorem dX9_init_188 : decode cX9_init 188 = .ok (.aload_n 0, 1) := by decide +kernel
theorem dX9_init_189 : decode cX9_init 189 = .ok (.iconst 4, 1) := by decide +kernel
theorem dX9_init_190 : decode cX9_init 190 = .ok (.newarray .int, 2) := by decide +kernel
theorem dX9_init_192 : decode cX9_init 192 = .ok (.putfield 78, 3) := by decide +kernel
theorem dX9_init_195 : decode cX9_init 195 = .ok (.aload_n 0, 1) := by decide +kernel
theorem dX9_init_196 : decode cX9_init 196 = .ok (.iconst 4, 1) := by decide +kernel
theorem dX9_init_197 : decode cX9_init 197 = .ok (.newarray .int, 2) := by decide +kernel
theorem dX9_init_199 : decode cX9_init 199 = .ok (.putfield 81, 3) := by decide +kernel
theorem dX9_init_202 : decode cX9_init 202 = .ok (.aload_n 0, 1) := by decide +kernel
theorem dX9_init_203 : decode cX9_init 203 = .ok (.iconst 4, 1) := by decide +kernel
theorem dX9_init_204 : decode cX9_init 204 = .ok (.newarray .int, 2) := by decide +kernel
theorem dX9_init_206 : decode cX9_init 206 = .ok (.putfield 84, 3) := by decide +kernel
theorem dX9_init_209 : decode cX9_init 209 = .ok (.return_, 1) := by decide +kernel
theorem dX9_thrown_0 : decode cX9_thrown 0 = .ok (.aload_n 0, 1) := by decide +kernel
theorem dX9_thrown_1 : decode cX9_thrown 1 = .ok (.getfield 87, 3) := by decide +kernel
theorem dX9_thrown_4 : decode cX9_thrown 4 = .ok (.ireturn, 1) := by decide +kernel
theorem dX9_refuse_0 : decode cX9_refuse 0 = .ok (.aload_n 0, 1) := by decide +kernel
theorem dX9_refuse_1 : decode cX9_refuse 1 = .ok (.iconst 1, 1) := by decide +kernel
theorem dX9_refuse_2 : decode cX9_refuse 2 = .ok (.putfield 87, 3) := by decide +kernel
theorem dX9_refuse_5 : decode cX9_refuse 5 = .ok (.iconst 0, 1) := by decide +kernel
theorem dX9_refuse_6 : decode cX9_refuse 6 = .ok (.ireturn, 1) := by decide +kernel
theorem dX9_come_0 : decode cX9_come 0 = .ok (.bipush 24, 2) := by decide +kernel
theorem dX9_come_2 : decode cX9_come 2 = .ok (.istore_n 2, 1) := by decide +kernel
theorem dX9_come_3 : decode cX9_come 3 = .ok (.iload_n 2, 1) := by decide +kernel
theorem dX9_come_4 : decode cX9_come 4 = .ok (.ifCond .lt 35, 3) := by decide +kernel
theorem dX9_come_7 : decode cX9_come 7 = .ok (.aload_n 0, 1) := by decide +kernel
theorem dX9_come_8 : decode cX9_come 8 = .ok (.getfield 7, 3) := by decide +kernel
theorem dX9_come_11 : decode cX9_come 11 = .ok (.aload_n 0, 1) := by decide +kernel
theorem dX9_come_12 : decode cX9_come 12 = .ok (.getfield 91, 3) := by decide +kernel
theorem dX9_come_15 : decode cX9_come 15 = .ok (.iload_n 1, 1) := by decide +kernel
theorem dX9_come_16 : decode cX9_come 16 = .ok (.iload_n 2, 1) := by decide +kernel
theorem dX9_come_17 : decode cX9_come 17 = .ok (.iushr, 1) := by decide +kernel
theorem dX9_come_18 : decode cX9_come 18 = .ok (.sipush 255, 3) := by decide +kernel
theorem dX9_come_21 : decode cX9_come 21 = .ok (.iand, 1) := by decide +kernel
theorem dX9_come_22 : decode cX9_come 22 = .ok (.iastore, 1) := by decide +kernel
theorem dX9_come_23 : decode cX9_come 23 = .ok (.aload_n 0, 1) := by decide +kernel
theorem dX9_come_24 : decode cX9_come 24 = .ok (.dup, 1) := by decide +kernel
theorem dX9_come_25 : decode cX9_come 25 = .ok (.getfield 91, 3) := by decide +kernel
theorem dX9_come_28 : decode cX9_come 28 = .ok (.iconst 1, 1) := by decide +kernel
theorem dX9_come_29 : decode cX9_come 29 = .ok (.iadd, 1) := by decide +kernel
theorem dX9_come_30 : decode cX9_come 30 = .ok (.putfield 91, 3) := by decide +kernel
theorem dX9_come_33 : decode cX9_come 33 = .ok (.iinc 2 (-8), 3) := by decide +kernel
theorem dX9_come_36 : decode cX9_come 36 = .ok (.goto (-33), 3) := by decide +kernel
theorem dX9_come_39 : decode cX9_come 39 = .ok (.return_, 1) := by decide +kernel
theorem dX9_feed_0 : decode cX9_feed 0 = .ok (.aload_n 0, 1) := by decide +kernel
theorem dX9_feed_1 : decode cX9_feed 1 = .ok (.iconst 0, 1) := by decide +kernel
theorem dX9_feed_2 : decode cX9_feed 2 = .ok (.putfield 87, 3) := by decide +kernel
theorem dX9_feed_5 : decode cX9_feed 5 = .ok (.aload_n 0, 1) := by decide +kernel
theorem dX9_feed_6 : decode cX9_feed 6 = .ok (.getfield 91, 3) := by decide +kernel
theorem dX9_feed_9 : decode cX9_feed 9 = .ok (.bipush 20, 2) := by decide +kernel
theorem dX9_feed_11 : decode cX9_feed 11 = .ok (.iadd, 1) := by decide +kernel
theorem dX9_feed_12 : decode cX9_feed 12 = .ok (.sipush 840, 3) := by decide +kernel
theorem dX9_feed_15 : decode cX9_feed 15 = .ok (.if_icmp .le 5, 3) := by decide +kernel
theorem dX9_feed_18 : decode cX9_feed 18 = .ok (.iconst (-1), 1) := by decide +kernel
theorem dX9_feed_19 : decode cX9_feed 19 = .ok (.ireturn, 1) := by decide +kernel
theorem dX9_feed_20 : decode cX9_feed 20 = .ok (.aload_n 0, 1) := by decide +kernel
theorem dX9_feed_21 : decode cX9_feed 21 = .ok (.iload_n 1, 1) := by decide +kernel
theorem dX9_feed_22 : decode cX9_feed 22 = .ok (.invokevirtual 94, 3) := by decide +kernel
theorem dX9_feed_25 : decode cX9_feed 25 = .ok (.aload_n 0, 1) := by decide +kernel
theorem dX9_feed_26 : decode cX9_feed 26 = .ok (.iload_n 2, 1) := by decide +kernel
theorem dX9_feed_27 : decode cX9_feed 27 = .ok (.invokevirtual 94, 3) := by decide +kernel
theorem dX9_feed_30 : decode cX9_feed 30 = .ok (.aload_n 0, 1) := by decide +kernel
theorem dX9_feed_31 : decode cX9_feed 31 = .ok (.iload_n 3, 1) := by decide +kernel
theorem dX9_feed_32 : decode cX9_feed 32 = .ok (.invokevirtual 94, 3) := by decide +kernel
theorem dX9_feed_35 : decode cX9_feed 35 = .ok (.aload_n 0, 1) := by decide +kernel
theorem dX9_feed_36 : decode cX9_feed 36 = .ok (.iload 4, 2) := by decide +kernel
theorem dX9_feed_38 : decode cX9_feed 38 = .ok (.invokevirtual 94, 3) := by decide +kernel
theorem dX9_feed_41 : decode cX9_feed 41 = .ok (.aload_n 0, 1) := by decide +kernel
theorem dX9_feed_42 : decode cX9_feed 42 = .ok (.iload 5, 2) := by decide +kernel
theorem dX9_feed_44 : decode cX9_feed 44 = .ok (.invokevirtual 94, 3) := by decide +kernel
theorem dX9_feed_47 : decode cX9_feed 47 = .ok (.aload_n 0, 1) := by decide +kernel
theorem dX9_feed_48 : decode cX9_feed 48 = .ok (.getfield 91, 3) := by decide +kernel
theorem dX9_feed_51 : decode cX9_feed 51 = .ok (.ireturn, 1) := by decide +kernel
theorem dX9_end_0 : decode cX9_end 0 = .ok (.aload_n 0, 1) := by decide +kernel
theorem dX9_end_1 : decode cX9_end 1 = .ok (.iconst 0, 1) := by decide +kernel
theorem dX9_end_2 : decode cX9_end 2 = .ok (.putfield 87, 3) := by decide +kernel
theorem dX9_end_5 : decode cX9_end 5 = .ok (.iload_n 1, 1) := by decide +kernel
theorem dX9_end_6 : decode cX9_end 6 = .ok (.ifCond .lt 11, 3) := by decide +kernel
theorem dX9_end_9 : decode cX9_end 9 = .ok (.iload_n 1, 1) := by decide +kernel
theorem dX9_end_10 : decode cX9_end 10 = .ok (.aload_n 0, 1) := by decide +kernel
theorem dX9_end_11 : decode cX9_end 11 = .ok (.getfield 91, 3) := by decide +kernel
theorem dX9_end_14 : decode cX9_end 14 = .ok (.if_icmp .le 5, 3) := by decide +kernel
theorem dX9_end_17 : decode cX9_end 17 = .ok (.iconst 0, 1) := by decide +kernel
theorem dX9_end_18 : decode cX9_end 18 = .ok (.ireturn, 1) := by decide +kernel
theorem dX9_end_19 : decode cX9_end 19 = .ok (.aload_n 0, 1) := by decide +kernel
theorem dX9_end_20 : decode cX9_end 20 = .ok (.iload_n 1, 1) := by decide +kernel
theorem dX9_end_21 : decode cX9_end 21 = .ok (.putfield 91, 3) := by decide +kernel
theorem dX9_end_24 : decode cX9_end 24 = .ok (.iconst 1, 1) := by decide +kernel
theorem dX9_end_25 : decode cX9_end 25 = .ok (.ireturn, 1) := by decide +kernel
theorem dX9_byteAt_0 : decode cX9_byteAt 0 = .ok (.iload_n 1, 1) := by decide +kernel
theorem dX9_byteAt_1 : decode cX9_byteAt 1 = .ok (.aload_n 0, 1) := by decide +kernel
theorem dX9_byteAt_2 : decode cX9_byteAt 2 = .ok (.getfield 98, 3) := by decide +kernel
theorem dX9_byteAt_5 : decode cX9_byteAt 5 = .ok (.if_icmp .ge 12, 3) := by decide +kernel
theorem dX9_byteAt_8 : decode cX9_byteAt 8 = .ok (.aload_n 0, 1) := by decide +kernel
theorem dX9_byteAt_9 : decode cX9_byteAt 9 = .ok (.getfield 7, 3) := by decide +kernel
theorem dX9_byteAt_12 : decode cX9_byteAt 12 = .ok (.iload_n 1, 1) := by decide +kernel
theorem dX9_byteAt_13 : decode cX9_byteAt 13 = .ok (.iaload, 1) := by decide +kernel
theorem dX9_byteAt_14 : decode cX9_byteAt 14 = .ok (.goto 4, 3) := by decide +kernel
theorem dX9_byteAt_17 : decode cX9_byteAt 17 = .ok (.iconst 0, 1) := by decide +kernel
theorem dX9_byteAt_18 : decode cX9_byteAt 18 = .ok (.ireturn, 1) := by decide +kernel
theorem dX9_isDigit_0 : decode cX9_isDigit 0 = .ok (.iload_n 0, 1) := by decide +kernel
theorem dX9_isDigit_1 : decode cX9_isDigit 1 = .ok (.bipush 48, 2) := by decide +kernel
theorem dX9_isDigit_3 : decode cX9_isDigit 3 = .ok (.if_icmp .lt 13, 3) := by decide +kernel
theorem dX9_isDigit_6 : decode cX9_isDigit 6 = .ok (.iload_n 0, 1) := by decide +kernel
theorem dX9_isDigit_7 : decode cX9_isDigit 7 = .ok (.bipush 57, 2) := by decide +kernel
theorem dX9_isDigit_9 : decode cX9_isDigit 9 = .ok (.if_icmp .gt 7, 3) := by decide +kernel
theorem dX9_isDigit_12 : decode cX9_isDigit 12 = .ok (.iconst 1, 1) := by decide +kernel
theorem dX9_isDigit_13 : decode cX9_isDigit 13 = .ok (.goto 4, 3) := by decide +kernel
theorem dX9_isDigit_16 : decode cX9_isDigit 16 = .ok (.iconst 0, 1) := by decide +kernel
theorem dX9_isDigit_17 : decode cX9_isDigit 17 = .ok (.ireturn, 1) := by decide +kernel
theorem dX9_isLetter_0 : decode cX9_isLetter 0 = .ok (.iload_n 0, 1) := by decide +kernel
theorem dX9_isLetter_1 : decode cX9_isLetter 1 = .ok (.bipush 97, 2) := by decide +kernel
theorem dX9_isLetter_3 : decode cX9_isLetter 3 = .ok (.if_icmp .lt 13, 3) := by decide +kernel
theorem dX9_isLetter_6 : decode cX9_isLetter 6 = .ok (.iload_n 0, 1) := by decide +kernel
theorem dX9_isLetter_7 : decode cX9_isLetter 7 = .ok (.bipush 122, 2) := by decide +kernel
theorem dX9_isLetter_9 : decode cX9_isLetter 9 = .ok (.if_icmp .gt 7, 3) := by decide +kernel
theorem dX9_isLetter_12 : decode cX9_isLetter 12 = .ok (.iconst 1, 1) := by decide +kernel
theorem dX9_isLetter_13 : decode cX9_isLetter 13 = .ok (.goto 4, 3) := by decide +kernel
theorem dX9_isLetter_16 : decode cX9_isLetter 16 = .ok (.iconst 0, 1) := by decide +kernel
theorem dX9_isLetter_17 : decode cX9_isLetter 17 = .ok (.ireturn, 1) := by decide +kernel
theorem dX9_go_0 : decode cX9_go 0 = .ok (.aload_n 0, 1) := by decide +kernel
theorem dX9_go_1 : decode cX9_go 1 = .ok (.getfield 101, 3) := by decide +kernel
theorem dX9_go_4 : decode cX9_go 4 = .ok (.aload_n 0, 1) := by decide +kernel
theorem dX9_go_5 : decode cX9_go 5 = .ok (.getfield 98, 3) := by decide +kernel
theorem dX9_go_8 : decode cX9_go 8 = .ok (.if_icmp .ge 44, 3) := by decide +kernel
theorem dX9_go_11 : decode cX9_go 11 = .ok (.aload_n 0, 1) := by decide +kernel
theorem dX9_go_12 : decode cX9_go 12 = .ok (.getfield 7, 3) := by decide +kernel
theorem dX9_go_15 : decode cX9_go 15 = .ok (.aload_n 0, 1) := by decide +kernel
theorem dX9_go_16 : decode cX9_go 16 = .ok (.getfield 101, 3) := by decide +kernel
theorem dX9_go_19 : decode cX9_go 19 = .ok (.iaload, 1) := by decide +kernel
theorem dX9_go_20 : decode cX9_go 20 = .ok (.bipush 32, 2) := by decide +kernel
theorem dX9_go_22 : decode cX9_go 22 = .ok (.if_icmp .eq 17, 3) := by decide +kernel
theorem dX9_go_25 : decode cX9_go 25 = .ok (.aload_n 0, 1) := by decide +kernel
theorem dX9_go_26 : decode cX9_go 26 = .ok (.getfield 7, 3) := by decide +kernel
theorem dX9_go_29 : decode cX9_go 29 = .ok (.aload_n 0, 1) := by decide +kernel
theorem dX9_go_30 : decode cX9_go 30 = .ok (.getfield 101, 3) := by decide +kernel
theorem dX9_go_33 : decode cX9_go 33 = .ok (.iaload, 1) := by decide +kernel
theorem dX9_go_34 : decode cX9_go 34 = .ok (.bipush 10, 2) := by decide +kernel
theorem dX9_go_36 : decode cX9_go 36 = .ok (.if_icmp .ne 16, 3) := by decide +kernel
theorem dX9_go_39 : decode cX9_go 39 = .ok (.aload_n 0, 1) := by decide +kernel
theorem dX9_go_40 : decode cX9_go 40 = .ok (.dup, 1) := by decide +kernel
theorem dX9_go_41 : decode cX9_go 41 = .ok (.getfield 101, 3) := by decide +kernel
theorem dX9_go_44 : decode cX9_go 44 = .ok (.iconst 1, 1) := by decide +kernel
theorem dX9_go_45 : decode cX9_go 45 = .ok (.iadd, 1) := by decide +kernel
theorem dX9_go_46 : decode cX9_go 46 = .ok (.putfield 101, 3) := by decide +kernel
theorem dX9_go_49 : decode cX9_go 49 = .ok (.goto (-49), 3) := by decide +kernel
theorem dX9_go_52 : decode cX9_go 52 = .ok (.aload_n 0, 1) := by decide +kernel
theorem dX9_go_53 : decode cX9_go 53 = .ok (.aload_n 0, 1) := by decide +kernel
theorem dX9_go_54 : decode cX9_go 54 = .ok (.getfield 101, 3) := by decide +kernel
theorem dX9_go_57 : decode cX9_go 57 = .ok (.putfield 104, 3) := by decide +kernel
theorem dX9_go_60 : decode cX9_go 60 = .ok (.aload_n 0, 1) := by decide +kernel
theorem dX9_go_61 : decode cX9_go 61 = .ok (.getfield 98, 3) := by decide +kernel
theorem dX9_go_64 : decode cX9_go 64 = .ok (.sipush 800, 3) := by decide +kernel
theorem dX9_go_67 : decode cX9_go 67 = .ok (.if_icmp .le 26, 3) := by decide +kernel
theorem dX9_go_70 : decode cX9_go 70 = .ok (.aload_n 0, 1) := by decide +kernel
theorem dX9_go_71 : decode cX9_go 71 = .ok (.getfield 104, 3) := by decide +kernel
theorem dX9_go_74 : decode cX9_go 74 = .ok (.sipush 800, 3) := by decide +kernel
theorem dX9_go_77 : decode cX9_go 77 = .ok (.if_icmp .lt 16, 3) := by decide +kernel
theorem dX9_go_80 : decode cX9_go 80 = .ok (.aload_n 0, 1) := by decide +kernel
theorem dX9_go_81 : decode cX9_go 81 = .ok (.sipush 800, 3) := by decide +kernel
theorem dX9_go_84 : decode cX9_go 84 = .ok (.putfield 104, 3) := by decide +kernel
theorem dX9_go_87 : decode cX9_go 87 = .ok (.aload_n 0, 1) := by decide +kernel
theorem dX9_go_88 : decode cX9_go 88 = .ok (.iconst 1, 1) := by decide +kernel
theorem dX9_go_89 : decode cX9_go 89 = .ok (.putfield 107, 3) := by decide +kernel
theorem dX9_go_92 : decode cX9_go 92 = .ok (.return_, 1) := by decide +kernel
theorem dX9_go_93 : decode cX9_go 93 = .ok (.aload_n 0, 1) := by decide +kernel
theorem dX9_go_94 : decode cX9_go 94 = .ok (.getfield 101, 3) := by decide +kernel
theorem dX9_go_97 : decode cX9_go 97 = .ok (.aload_n 0, 1) := by decide +kernel
theorem dX9_go_98 : decode cX9_go 98 = .ok (.getfield 98, 3) := by decide +kernel
theorem dX9_go_101 : decode cX9_go 101 = .ok (.if_icmp .lt 9, 3) := by decide +kernel
theorem dX9_go_104 : decode cX9_go 104 = .ok (.aload_n 0, 1) := by decide +kernel
theorem dX9_go_105 : decode cX9_go 105 = .ok (.iconst 0, 1) := by decide +kernel
theorem dX9_go_106 : decode cX9_go 106 = .ok (.putfield 107, 3) := by decide +kernel
theorem dX9_go_109 : decode cX9_go 109 = .ok (.return_, 1) := by decide +kernel
theorem dX9_go_110 : decode cX9_go 110 = .ok (.aload_n 0, 1) := by decide +kernel
theorem dX9_go_111 : decode cX9_go 111 = .ok (.getfield 7, 3) := by decide +kernel
theorem dX9_go_114 : decode cX9_go 114 = .ok (.aload_n 0, 1) := by decide +kernel
theorem dX9_go_115 : decode cX9_go 115 = .ok (.getfield 101, 3) := by decide +kernel
theorem dX9_go_118 : decode cX9_go 118 = .ok (.iaload, 1) := by decide +kernel
theorem dX9_go_119 : decode cX9_go 119 = .ok (.istore_n 1, 1) := by decide +kernel
theorem dX9_go_120 : decode cX9_go 120 = .ok (.iload_n 1, 1) := by decide +kernel
theorem dX9_go_121 : decode cX9_go 121 = .ok (.invokestatic 110, 3) := by decide +kernel
theorem dX9_go_124 : decode cX9_go 124 = .ok (.ifCond .ne 36, 3) := by decide +kernel
theorem dX9_go_127 : decode cX9_go 127 = .ok (.iload_n 1, 1) := by decide +kernel
theorem dX9_go_128 : decode cX9_go 128 = .ok (.invokestatic 114, 3) := by decide +kernel
theorem dX9_go_131 : decode cX9_go 131 = .ok (.ifCond .ne 29, 3) := by decide +kernel
theorem dX9_go_134 : decode cX9_go 134 = .ok (.aload_n 0, 1) := by decide +kernel
theorem dX9_go_135 : decode cX9_go 135 = .ok (.iload_n 1, 1) := by decide +kernel
theorem dX9_go_136 : decode cX9_go 136 = .ok (.bipush 59, 2) := by decide +kernel
theorem dX9_go_138 : decode cX9_go 138 = .ok (.if_icmp .ne 7, 3) := by decide +kernel
theorem dX9_go_141 : decode cX9_go 141 = .ok (.iconst 4, 1) := by decide +kernel
theorem dX9_go_142 : decode cX9_go 142 = .ok (.goto 4, 3) := by decide +kernel
theorem dX9_go_145 : decode cX9_go 145 = .ok (.iconst 1, 1) := by decide +kernel
theorem dX9_go_146 : decode cX9_go 146 = .ok (.putfield 107, 3) := by decide +kernel
theorem dX9_go_149 : decode cX9_go 149 = .ok (.aload_n 0, 1) := by decide +kernel
theorem dX9_go_150 : decode cX9_go 150 = .ok (.dup, 1) := by decide +kernel
theorem dX9_go_151 : decode cX9_go 151 = .ok (.getfield 101, 3) := by decide +kernel
theorem dX9_go_154 : decode cX9_go 154 = .ok (.iconst 1, 1) := by decide +kernel
theorem dX9_go_155 : decode cX9_go 155 = .ok (.iadd, 1) := by decide +kernel
theorem dX9_go_156 : decode cX9_go 156 = .ok (.putfield 101, 3) := by decide +kernel
theorem dX9_go_159 : decode cX9_go 159 = .ok (.return_, 1) := by decide +kernel
theorem dX9_go_160 : decode cX9_go 160 = .ok (.iload_n 1, 1) := by decide +kernel
theorem dX9_go_161 : decode cX9_go 161 = .ok (.invokestatic 110, 3) := by decide +kernel
theorem dX9_go_164 : decode cX9_go 164 = .ok (.istore_n 2, 1) := by decide +kernel
theorem dX9_go_165 : decode cX9_go 165 = .ok (.iconst 1, 1) := by decide +kernel
theorem dX9_go_166 : decode cX9_go 166 = .ok (.istore_n 3, 1) := by decide +kernel
theorem dX9_go_167 : decode cX9_go 167 = .ok (.aload_n 0, 1) := by decide +kernel
theorem dX9_go_168 : decode cX9_go 168 = .ok (.lconst 0, 1) := by decide +kernel
theorem dX9_go_169 : decode cX9_go 169 = .ok (.putfield 117, 3) := by decide +kernel
theorem dX9_go_172 : decode cX9_go 172 = .ok (.aload_n 0, 1) := by decide +kernel
theorem dX9_go_173 : decode cX9_go 173 = .ok (.iconst 0, 1) := by decide +kernel
theorem dX9_go_174 : decode cX9_go 174 = .ok (.putfield 121, 3) := by decide +kernel
theorem dX9_go_177 : decode cX9_go 177 = .ok (.aload_n 0, 1) := by decide +kernel
theorem dX9_go_178 : decode cX9_go 178 = .ok (.aload_n 0, 1) := by decide +kernel
theorem dX9_go_179 : decode cX9_go 179 = .ok (.getfield 101, 3) := by decide +kernel
theorem dX9_go_182 : decode cX9_go 182 = .ok (.invokevirtual 124, 3) := by decide +kernel
theorem dX9_go_185 : decode cX9_go 185 = .ok (.invokestatic 110, 3) := by decide +kernel
theorem dX9_go_188 : decode cX9_go 188 = .ok (.ifCond .ne 17, 3) := by decide +kernel
theorem dX9_go_191 : decode cX9_go 191 = .ok (.aload_n 0, 1) := by decide +kernel
theorem dX9_go_192 : decode cX9_go 192 = .ok (.aload_n 0, 1) := by decide +kernel
theorem dX9_go_193 : decode cX9_go 193 = .ok (.getfield 101, 3) := by decide +kernel
theorem dX9_go_196 : decode cX9_go 196 = .ok (.invokevirtual 124, 3) := by decide +kernel
theorem dX9_go_199 : decode cX9_go 199 = .ok (.invokestatic 114, 3) := by decide +kernel
theorem dX9_go_202 : decode cX9_go 202 = .ok (.ifCond .eq 111, 3) := by decide +kernel
theorem dX9_go_205 : decode cX9_go 205 = .ok (.aload_n 0, 1) := by decide +kernel
theorem dX9_go_206 : decode cX9_go 206 = .ok (.getfield 7, 3) := by decide +kernel
theorem dX9_go_209 : decode cX9_go 209 = .ok (.aload_n 0, 1) := by decide +kernel
theorem dX9_go_210 : decode cX9_go 210 = .ok (.getfield 101, 3) := by decide +kernel
theorem dX9_go_213 : decode cX9_go 213 = .ok (.iaload, 1) := by decide +kernel
theorem dX9_go_214 : decode cX9_go 214 = .ok (.istore 4, 2) := by decide +kernel
theorem dX9_go_216 : decode cX9_go 216 = .ok (.iload_n 3, 1) := by decide +kernel
theorem dX9_go_217 : decode cX9_go 217 = .ok (.ifCond .eq 16, 3) := by decide +kernel
theorem dX9_go_220 : decode cX9_go 220 = .ok (.iload 4, 2) := by decide +kernel
theorem dX9_go_222 : decode cX9_go 222 = .ok (.invokestatic 110, 3) := by decide +kernel
theorem dX9_go_225 : decode cX9_go 225 = .ok (.iload_n 2, 1) := by decide +kernel
theorem dX9_go_226 : decode cX9_go 226 = .ok (.if_icmp .ne 7, 3) := by decide +kernel
theorem dX9_go_229 : decode cX9_go 229 = .ok (.iconst 1, 1) := by decide +kernel
theorem dX9_go_230 : decode cX9_go 230 = .ok (.goto 4, 3) := by decide +kernel
theorem dX9_go_233 : decode cX9_go 233 = .ok (.iconst 0, 1) := by decide +kernel
theorem dX9_go_234 : decode cX9_go 234 = .ok (.istore_n 3, 1) := by decide +kernel
theorem dX9_go_235 : decode cX9_go 235 = .ok (.aload_n 0, 1) := by decide +kernel
theorem dX9_go_236 : decode cX9_go 236 = .ok (.getfield 101, 3) := by decide +kernel
theorem dX9_go_239 : decode cX9_go 239 = .ok (.aload_n 0, 1) := by decide +kernel
theorem dX9_go_240 : decode cX9_go 240 = .ok (.getfield 104, 3) := by decide +kernel
theorem dX9_go_243 : decode cX9_go 243 = .ok (.isub, 1) := by decide +kernel
theorem dX9_go_244 : decode cX9_go 244 = .ok (.bipush 8, 2) := by decide +kernel
theorem dX9_go_246 : decode cX9_go 246 = .ok (.if_icmp .ge 23, 3) := by decide +kernel
theorem dX9_go_249 : decode cX9_go 249 = .ok (.aload_n 0, 1) := by decide +kernel
theorem dX9_go_250 : decode cX9_go 250 = .ok (.ldc2_w 128, 3) := by decide +kernel
theorem dX9_go_253 : decode cX9_go 253 = .ok (.aload_n 0, 1) := by decide +kernel
theorem dX9_go_254 : decode cX9_go 254 = .ok (.getfield 117, 3) := by decide +kernel
theorem dX9_go_257 : decode cX9_go 257 = .ok (.lmul, 1) := by decide +kernel
theorem dX9_go_258 : decode cX9_go 258 = .ok (.iload 4, 2) := by decide +kernel
theorem dX9_go_260 : decode cX9_go 260 = .ok (.i2l, 1) := by decide +kernel
theorem dX9_go_261 : decode cX9_go 261 = .ok (.ladd, 1) := by decide +kernel
theorem dX9_go_262 : decode cX9_go 262 = .ok (.ldc2_w 130, 3) := by decide +kernel
theorem dX9_go_265 : decode cX9_go 265 = .ok (.lsub, 1) := by decide +kernel
theorem dX9_go_266 : decode cX9_go 266 = .ok (.putfield 117, 3) := by decide +kernel
theorem dX9_go_269 : decode cX9_go 269 = .ok (.aload_n 0, 1) := by decide +kernel
theorem dX9_go_270 : decode cX9_go 270 = .ok (.getfield 101, 3) := by decide +kernel
theorem dX9_go_273 : decode cX9_go 273 = .ok (.aload_n 0, 1) := by decide +kernel
theorem dX9_go_274 : decode cX9_go 274 = .ok (.getfield 104, 3) := by decide +kernel
theorem dX9_go_277 : decode cX9_go 277 = .ok (.isub, 1) := by decide +kernel
theorem dX9_go_278 : decode cX9_go 278 = .ok (.bipush 6, 2) := by decide +kernel
theorem dX9_go_280 : decode cX9_go 280 = .ok (.if_icmp .ge 20, 3) := by decide +kernel
theorem dX9_go_283 : decode cX9_go 283 = .ok (.aload_n 0, 1) := by decide +kernel
theorem dX9_go_284 : decode cX9_go 284 = .ok (.bipush 10, 2) := by decide +kernel
theorem dX9_go_286 : decode cX9_go 286 = .ok (.aload_n 0, 1) := by decide +kernel
theorem dX9_go_287 : decode cX9_go 287 = .ok (.getfield 121, 3) := by decide +kernel
theorem dX9_go_290 : decode cX9_go 290 = .ok (.imul, 1) := by decide +kernel
theorem dX9_go_291 : decode cX9_go 291 = .ok (.iload 4, 2) := by decide +kernel
theorem dX9_go_293 : decode cX9_go 293 = .ok (.iadd, 1) := by decide +kernel
theorem dX9_go_294 : decode cX9_go 294 = .ok (.bipush 48, 2) := by decide +kernel
theorem dX9_go_296 : decode cX9_go 296 = .ok (.isub, 1) := by decide +kernel
theorem dX9_go_297 : decode cX9_go 297 = .ok (.putfield 121, 3) := by decide +kernel
theorem dX9_go_300 : decode cX9_go 300 = .ok (.aload_n 0, 1) := by decide +kernel
theorem dX9_go_301 : decode cX9_go 301 = .ok (.dup, 1) := by decide +kernel
theorem dX9_go_302 : decode cX9_go 302 = .ok (.getfield 101, 3) := by decide +kernel
theorem dX9_go_305 : decode cX9_go 305 = .ok (.iconst 1, 1) := by decide +kernel
theorem dX9_go_306 : decode cX9_go 306 = .ok (.iadd, 1) := by decide +kernel
theorem dX9_go_307 : decode cX9_go 307 = .ok (.putfield 101, 3) := by decide +kernel
theorem dX9_go_310 : decode cX9_go 310 = .ok (.goto (-133), 3) := by decide +kernel
theorem dX9_go_313 : decode cX9_go 313 = .ok (.aload_n 0, 1) := by decide +kernel
theorem dX9_go_314 : decode cX9_go 314 = .ok (.iload_n 3, 1) := by decide +kernel
theorem dX9_go_315 : decode cX9_go 315 = .ok (.ifCond .eq 26, 3) := by decide +kernel
theorem dX9_go_318 : decode cX9_go 318 = .ok (.aload_n 0, 1) := by decide +kernel
theorem dX9_go_319 : decode cX9_go 319 = .ok (.getfield 101, 3) := by decide +kernel
theorem dX9_go_322 : decode cX9_go 322 = .ok (.aload_n 0, 1) := by decide +kernel
theorem dX9_go_323 : decode cX9_go 323 = .ok (.getfield 104, 3) := by decide +kernel
theorem dX9_go_326 : decode cX9_go 326 = .ok (.isub, 1) := by decide +kernel
theorem dX9_go_327 : decode cX9_go 327 = .ok (.iload_n 2, 1) := by decide +kernel
theorem dX9_go_328 : decode cX9_go 328 = .ok (.ifCond .eq 8, 3) := by decide +kernel
theorem dX9_go_331 : decode cX9_go 331 = .ok (.bipush 8, 2) := by decide +kernel
theorem dX9_go_333 : decode cX9_go 333 = .ok (.goto 5, 3) := by decide +kernel
theorem dX9_go_336 : decode cX9_go 336 = .ok (.bipush 6, 2) := by decide +kernel
theorem dX9_go_338 : decode cX9_go 338 = .ok (.if_icmp .le 7, 3) := by decide +kernel
theorem dX9_go_341 : decode cX9_go 341 = .ok (.iconst 1, 1) := by decide +kernel
theorem dX9_go_342 : decode cX9_go 342 = .ok (.goto 12, 3) := by decide +kernel
theorem dX9_go_345 : decode cX9_go 345 = .ok (.iload_n 2, 1) := by decide +kernel
theorem dX9_go_346 : decode cX9_go 346 = .ok (.ifCond .eq 7, 3) := by decide +kernel
theorem dX9_go_349 : decode cX9_go 349 = .ok (.iconst 2, 1) := by decide +kernel
theorem dX9_go_350 : decode cX9_go 350 = .ok (.goto 4, 3) := by decide +kernel
theorem dX9_go_353 : decode cX9_go 353 = .ok (.iconst 3, 1) := by decide +kernel
theorem dX9_go_354 : decode cX9_go 354 = .ok (.putfield 107, 3) := by decide +kernel
theorem dX9_go_357 : decode cX9_go 357 = .ok (.return_, 1) := by decide +kernel
theorem dX9_isKey_0 : decode cX9_isKey 0 = .ok (.aload_n 0, 1) := by decide +kernel
theorem dX9_isKey_1 : decode cX9_isKey 1 = .ok (.getfield 107, 3) := by decide +kernel
theorem dX9_isKey_4 : decode cX9_isKey 4 = .ok (.iconst 2, 1) := by decide +kernel
theorem dX9_isKey_5 : decode cX9_isKey 5 = .ok (.if_icmp .ne 16, 3) := by decide +kernel
theorem dX9_isKey_8 : decode cX9_isKey 8 = .ok (.aload_n 0, 1) := by decide +kernel
theorem dX9_isKey_9 : decode cX9_isKey 9 = .ok (.getfield 117, 3) := by decide +kernel
theorem dX9_isKey_12 : decode cX9_isKey 12 = .ok (.lload_n 1, 1) := by decide +kernel
theorem dX9_isKey_13 : decode cX9_isKey 13 = .ok (.lcmp, 1) := by decide +kernel
theorem dX9_isKey_14 : decode cX9_isKey 14 = .ok (.ifCond .ne 7, 3) := by decide +kernel
theorem dX9_isKey_17 : decode cX9_isKey 17 = .ok (.iconst 1, 1) := by decide +kernel
theorem dX9_isKey_18 : decode cX9_isKey 18 = .ok (.goto 4, 3) := by decide +kernel
theorem dX9_isKey_21 : decode cX9_isKey 21 = .ok (.iconst 0, 1) := by decide +kernel
theorem dX9_isKey_22 : decode cX9_isKey 22 = .ok (.ireturn, 1) := by decide +kernel
theorem dX9_isFree_0 : decode cX9_isFree 0 = .ok (.aload_n 0, 1) := by decide +kernel
theorem dX9_isFree_1 : decode cX9_isFree 1 = .ok (.getfield 107, 3) := by decide +kernel
theorem dX9_isFree_4 : decode cX9_isFree 4 = .ok (.iconst 2, 1) := by decide +kernel
theorem dX9_isFree_5 : decode cX9_isFree 5 = .ok (.if_icmp .ne 117, 3) := by decide +kernel
theorem dX9_isFree_8 : decode cX9_isFree 8 = .ok (.aload_n 0, 1) := by decide +kernel
theorem dX9_isFree_9 : decode cX9_isFree 9 = .ok (.getfield 117, 3) := by decide +kernel
theorem dX9_isFree_12 : decode cX9_isFree 12 = .ok (.getstatic 132, 3) := by decide +kernel
theorem dX9_isFree_15 : decode cX9_isFree 15 = .ok (.lcmp, 1) := by decide +kernel
theorem dX9_isFree_16 : decode cX9_isFree 16 = .ok (.ifCond .eq 106, 3) := by decide +kernel
theorem dX9_isFree_19 : decode cX9_isFree 19 = .ok (.aload_n 0, 1) := by decide +kernel
theorem dX9_isFree_20 : decode cX9_isFree 20 = .ok (.getfield 117, 3) := by decide +kernel
theorem dX9_isFree_23 : decode cX9_isFree 23 = .ok (.getstatic 135, 3) := by decide +kernel
theorem dX9_isFree_26 : decode cX9_isFree 26 = .ok (.lcmp, 1) := by decide +kernel
theorem dX9_isFree_27 : decode cX9_isFree 27 = .ok (.ifCond .eq 95, 3) := by decide +kernel
theorem dX9_isFree_30 : decode cX9_isFree 30 = .ok (.aload_n 0, 1) := by decide +kernel
theorem dX9_isFree_31 : decode cX9_isFree 31 = .ok (.getfield 117, 3) := by decide +kernel
theorem dX9_isFree_34 : decode cX9_isFree 34 = .ok (.getstatic 138, 3) := by decide +kernel
theorem dX9_isFree_37 : decode cX9_isFree 37 = .ok (.lcmp, 1) := by decide +kernel
theorem dX9_isFree_38 : decode cX9_isFree 38 = .ok (.ifCond .eq 84, 3) := by decide +kernel
theorem dX9_isFree_41 : decode cX9_isFree 41 = .ok (.aload_n 0, 1) := by decide +kernel
theorem dX9_isFree_42 : decode cX9_isFree 42 = .ok (.getfield 117, 3) := by decide +kernel
theorem dX9_isFree_45 : decode cX9_isFree 45 = .ok (.getstatic 141, 3) := by decide +kernel
theorem dX9_isFree_48 : decode cX9_isFree 48 = .ok (.lcmp, 1) := by decide +kernel
theorem dX9_isFree_49 : decode cX9_isFree 49 = .ok (.ifCond .eq 73, 3) := by decide +kernel
theorem dX9_isFree_52 : decode cX9_isFree 52 = .ok (.aload_n 0, 1) := by decide +kernel
theorem dX9_isFree_53 : decode cX9_isFree 53 = .ok (.getfield 117, 3) := by decide +kernel
theorem dX9_isFree_56 : decode cX9_isFree 56 = .ok (.getstatic 144, 3) := by decide +kernel
theorem dX9_isFree_59 : decode cX9_isFree 59 = .ok (.lcmp, 1) := by decide +kernel
theorem dX9_isFree_60 : decode cX9_isFree 60 = .ok (.ifCond .eq 62, 3) := by decide +kernel
theorem dX9_isFree_63 : decode cX9_isFree 63 = .ok (.aload_n 0, 1) := by decide +kernel
theorem dX9_isFree_64 : decode cX9_isFree 64 = .ok (.getfield 117, 3) := by decide +kernel
theorem dX9_isFree_67 : decode cX9_isFree 67 = .ok (.getstatic 147, 3) := by decide +kernel
theorem dX9_isFree_70 : decode cX9_isFree 70 = .ok (.lcmp, 1) := by decide +kernel
theorem dX9_isFree_71 : decode cX9_isFree 71 = .ok (.ifCond .eq 51, 3) := by decide +kernel
theorem dX9_isFree_74 : decode cX9_isFree 74 = .ok (.aload_n 0, 1) := by decide +kernel
theorem dX9_isFree_75 : decode cX9_isFree 75 = .ok (.getfield 117, 3) := by decide +kernel
theorem dX9_isFree_78 : decode cX9_isFree 78 = .ok (.getstatic 150, 3) := by decide +kernel
theorem dX9_isFree_81 : decode cX9_isFree 81 = .ok (.lcmp, 1) := by decide +kernel
theorem dX9_isFree_82 : decode cX9_isFree 82 = .ok (.ifCond .eq 40, 3) := by decide +kernel
theorem dX9_isFree_85 : decode cX9_isFree 85 = .ok (.aload_n 0, 1) := by decide +kernel
theorem dX9_isFree_86 : decode cX9_isFree 86 = .ok (.getfield 117, 3) := by decide +kernel
theorem dX9_isFree_89 : decode cX9_isFree 89 = .ok (.getstatic 153, 3) := by decide +kernel
theorem dX9_isFree_92 : decode cX9_isFree 92 = .ok (.lcmp, 1) := by decide +kernel
theorem dX9_isFree_93 : decode cX9_isFree 93 = .ok (.ifCond .eq 29, 3) := by decide +kernel
theorem dX9_isFree_96 : decode cX9_isFree 96 = .ok (.aload_n 0, 1) := by decide +kernel
theorem dX9_isFree_97 : decode cX9_isFree 97 = .ok (.getfield 117, 3) := by decide +kernel
theorem dX9_isFree_100 : decode cX9_isFree 100 = .ok (.getstatic 156, 3) := by decide +kernel
theorem dX9_isFree_103 : decode cX9_isFree 103 = .ok (.lcmp, 1) := by decide +kernel
theorem dX9_isFree_104 : decode cX9_isFree 104 = .ok (.ifCond .eq 18, 3) := by decide +kernel
theorem dX9_isFree_107 : decode cX9_isFree 107 = .ok (.aload_n 0, 1) := by decide +kernel
theorem dX9_isFree_108 : decode cX9_isFree 108 = .ok (.getfield 117, 3) := by decide +kernel
theorem dX9_isFree_111 : decode cX9_isFree 111 = .ok (.getstatic 159, 3) := by decide +kernel
theorem dX9_isFree_114 : decode cX9_isFree 114 = .ok (.lcmp, 1) := by decide +kernel
theorem dX9_isFree_115 : decode cX9_isFree 115 = .ok (.ifCond .eq 7, 3) := by decide +kernel
theorem dX9_isFree_118 : decode cX9_isFree 118 = .ok (.iconst 1, 1) := by decide +kernel
theorem dX9_isFree_119 : decode cX9_isFree 119 = .ok (.goto 4, 3) := by decide +kernel
theorem dX9_isFree_122 : decode cX9_isFree 122 = .ok (.iconst 0, 1) := by decide +kernel
theorem dX9_isFree_123 : decode cX9_isFree 123 = .ok (.ireturn, 1) := by decide +kernel
theorem dX9_bad_0 : decode cX9_bad 0 = .ok (.aload_n 0, 1) := by decide +kernel
theorem dX9_bad_1 : decode cX9_bad 1 = .ok (.aload_n 0, 1) := by decide +kernel
theorem dX9_bad_2 : decode cX9_bad 2 = .ok (.getfield 107, 3) := by decide +kernel
theorem dX9_bad_5 : decode cX9_bad 5 = .ok (.iconst 1, 1) := by decide +kernel
theorem dX9_bad_6 : decode cX9_bad 6 = .ok (.if_icmp .ne 7, 3) := by decide +kernel
theorem dX9_bad_9 : decode cX9_bad 9 = .ok (.iconst 1, 1) := by decide +kernel
theorem dX9_bad_10 : decode cX9_bad 10 = .ok (.goto 4, 3) := by decide +kernel
theorem dX9_bad_13 : decode cX9_bad 13 = .ok (.iload_n 1, 1) := by decide +kernel
theorem dX9_bad_14 : decode cX9_bad 14 = .ok (.putfield 162, 3) := by decide +kernel
theorem dX9_bad_17 : decode cX9_bad 17 = .ok (.aload_n 0, 1) := by decide +kernel
theorem dX9_bad_18 : decode cX9_bad 18 = .ok (.aload_n 0, 1) := by decide +kernel
theorem dX9_bad_19 : decode cX9_bad 19 = .ok (.getfield 104, 3) := by decide +kernel
theorem dX9_bad_22 : decode cX9_bad 22 = .ok (.putfield 165, 3) := by decide +kernel
theorem dX9_bad_25 : decode cX9_bad 25 = .ok (.iconst 0, 1) := by decide +kernel
theorem dX9_bad_26 : decode cX9_bad 26 = .ok (.ireturn, 1) := by decide +kernel
theorem dX9_readNumber_0 : decode cX9_readNumber 0 = .ok (.aload_n 0, 1) := by decide +kernel
theorem dX9_readNumber_1 : decode cX9_readNumber 1 = .ok (.getfield 107, 3) := by decide +kernel
theorem dX9_readNumber_4 : decode cX9_readNumber 4 = .ok (.iconst 3, 1) := by decide +kernel
theorem dX9_readNumber_5 : decode cX9_readNumber 5 = .ok (.if_icmp .eq 9, 3) := by decide +kernel
theorem dX9_readNumber_8 : decode cX9_readNumber 8 = .ok (.aload_n 0, 1) := by decide +kernel
theorem dX9_readNumber_9 : decode cX9_readNumber 9 = .ok (.iconst 1, 1) := by decide +kernel
theorem dX9_readNumber_10 : decode cX9_readNumber 10 = .ok (.invokevirtual 168, 3) := by decide +kernel
theorem dX9_readNumber_13 : decode cX9_readNumber 13 = .ok (.ireturn, 1) := by decide +kernel
theorem dX9_readNumber_14 : decode cX9_readNumber 14 = .ok (.aload_n 0, 1) := by decide +kernel
theorem dX9_readNumber_15 : decode cX9_readNumber 15 = .ok (.getfield 121, 3) := by decide +kernel
theorem dX9_readNumber_18 : decode cX9_readNumber 18 = .ok (.iload_n 1, 1) := by decide +kernel
theorem dX9_readNumber_19 : decode cX9_readNumber 19 = .ok (.if_icmp .lt 11, 3) := by decide +kernel
theorem dX9_readNumber_22 : decode cX9_readNumber 22 = .ok (.aload_n 0, 1) := by decide +kernel
theorem dX9_readNumber_23 : decode cX9_readNumber 23 = .ok (.getfield 121, 3) := by decide +kernel
theorem dX9_readNumber_26 : decode cX9_readNumber 26 = .ok (.iload_n 2, 1) := by decide +kernel
theorem dX9_readNumber_27 : decode cX9_readNumber 27 = .ok (.if_icmp .le 9, 3) := by decide +kernel
theorem dX9_readNumber_30 : decode cX9_readNumber 30 = .ok (.aload_n 0, 1) := by decide +kernel
theorem dX9_readNumber_31 : decode cX9_readNumber 31 = .ok (.iconst 2, 1) := by decide +kernel
theorem dX9_readNumber_32 : decode cX9_readNumber 32 = .ok (.invokevirtual 168, 3) := by decide +kernel
theorem dX9_readNumber_35 : decode cX9_readNumber 35 = .ok (.ireturn, 1) := by decide +kernel
theorem dX9_readNumber_36 : decode cX9_readNumber 36 = .ok (.aload_n 0, 1) := by decide +kernel
theorem dX9_readNumber_37 : decode cX9_readNumber 37 = .ok (.aload_n 0, 1) := by decide +kernel
theorem dX9_readNumber_38 : decode cX9_readNumber 38 = .ok (.getfield 121, 3) := by decide +kernel
theorem dX9_readNumber_41 : decode cX9_readNumber 41 = .ok (.putfield 171, 3) := by decide +kernel
theorem dX9_readNumber_44 : decode cX9_readNumber 44 = .ok (.aload_n 0, 1) := by decide +kernel
theorem dX9_readNumber_45 : decode cX9_readNumber 45 = .ok (.invokevirtual 174, 3) := by decide +kernel
theorem dX9_readNumber_48 : decode cX9_readNumber 48 = .ok (.iconst 1, 1) := by decide +kernel
theorem dX9_readNumber_49 : decode cX9_readNumber 49 = .ok (.ireturn, 1) := by decide +kernel
theorem dX9_readKey_0 : decode cX9_readKey 0 = .ok (.aload_n 0, 1) := by decide +kernel
theorem dX9_readKey_1 : decode cX9_readKey 1 = .ok (.lload_n 1, 1) := by decide +kernel
theorem dX9_readKey_2 : decode cX9_readKey 2 = .ok (.invokevirtual 177, 3) := by decide +kernel
theorem dX9_readKey_5 : decode cX9_readKey 5 = .ok (.ifCond .ne 9, 3) := by decide +kernel
theorem dX9_readKey_8 : decode cX9_readKey 8 = .ok (.aload_n 0, 1) := by decide +kernel
theorem dX9_readKey_9 : decode cX9_readKey 9 = .ok (.iconst 1, 1) := by decide +kernel
theorem dX9_readKey_10 : decode cX9_readKey 10 = .ok (.invokevirtual 168, 3) := by decide +kernel
theorem dX9_readKey_13 : decode cX9_readKey 13 = .ok (.ireturn, 1) := by decide +kernel
theorem dX9_readKey_14 : decode cX9_readKey 14 = .ok (.aload_n 0, 1) := by decide +kernel
theorem dX9_readKey_15 : decode cX9_readKey 15 = .ok (.invokevirtual 174, 3) := by decide +kernel
theorem dX9_readKey_18 : decode cX9_readKey 18 = .ok (.iconst 1, 1) := by decide +kernel
theorem dX9_readKey_19 : decode cX9_readKey 19 = .ok (.ireturn, 1) := by decide +kernel
theorem dX9_readPart_0 : decode cX9_readPart 0 = .ok (.aload_n 0, 1) := by decide +kernel
theorem dX9_readPart_1 : decode cX9_readPart 1 = .ok (.getfield 107, 3) := by decide +kernel
theorem dX9_readPart_4 : decode cX9_readPart 4 = .ok (.iconst 3, 1) := by decide +kernel
theorem dX9_readPart_5 : decode cX9_readPart 5 = .ok (.if_icmp .ne 33, 3) := by decide +kernel
theorem dX9_readPart_8 : decode cX9_readPart 8 = .ok (.aload_n 0, 1) := by decide +kernel
theorem dX9_readPart_9 : decode cX9_readPart 9 = .ok (.getfield 121, 3) := by decide +kernel
end
section
theorem dX9_readPart_12 : decode cX9_readPart 12 = .ok (.iconst 4, 1) := by decide +kernel
theorem dX9_readPart_13 : decode cX9_readPart 13 = .ok (.if_icmp .ge 25, 3) := by decide +kernel
theorem dX9_readPart_16 : decode cX9_readPart 16 = .ok (.aload_n 0, 1) := by decide +kernel
theorem dX9_readPart_17 : decode cX9_readPart 17 = .ok (.getfield 29, 3) := by decide +kernel
theorem dX9_readPart_20 : decode cX9_readPart 20 = .ok (.iconst 4, 1) := by decide +kernel
theorem dX9_readPart_21 : decode cX9_readPart 21 = .ok (.iload_n 1, 1) := by decide +kernel
theorem dX9_readPart_22 : decode cX9_readPart 22 = .ok (.imul, 1) := by decide +kernel
theorem dX9_readPart_23 : decode cX9_readPart 23 = .ok (.aload_n 0, 1) := by decide +kernel
theorem dX9_readPart_24 : decode cX9_readPart 24 = .ok (.getfield 121, 3) := by decide +kernel
theorem dX9_readPart_27 : decode cX9_readPart 27 = .ok (.iadd, 1) := by decide +kernel
theorem dX9_readPart_28 : decode cX9_readPart 28 = .ok (.baload, 1) := by decide +kernel
theorem dX9_readPart_29 : decode cX9_readPart 29 = .ok (.ifCond .eq 9, 3) := by decide +kernel
theorem dX9_readPart_32 : decode cX9_readPart 32 = .ok (.aload_n 0, 1) := by decide +kernel
theorem dX9_readPart_33 : decode cX9_readPart 33 = .ok (.iconst 3, 1) := by decide +kernel
theorem dX9_readPart_34 : decode cX9_readPart 34 = .ok (.invokevirtual 168, 3) := by decide +kernel
theorem dX9_readPart_37 : decode cX9_readPart 37 = .ok (.ireturn, 1) := by decide +kernel
theorem dX9_readPart_38 : decode cX9_readPart 38 = .ok (.aload_n 0, 1) := by decide +kernel
theorem dX9_readPart_39 : decode cX9_readPart 39 = .ok (.iconst 0, 1) := by decide +kernel
theorem dX9_readPart_40 : decode cX9_readPart 40 = .ok (.iconst 3, 1) := by decide +kernel
theorem dX9_readPart_41 : decode cX9_readPart 41 = .ok (.invokevirtual 181, 3) := by decide +kernel
theorem dX9_readPart_44 : decode cX9_readPart 44 = .ok (.ifCond .ne 5, 3) := by decide +kernel
theorem dX9_readPart_47 : decode cX9_readPart 47 = .ok (.iconst 0, 1) := by decide +kernel
theorem dX9_readPart_48 : decode cX9_readPart 48 = .ok (.ireturn, 1) := by decide +kernel
theorem dX9_readPart_49 : decode cX9_readPart 49 = .ok (.iconst 4, 1) := by decide +kernel
theorem dX9_readPart_50 : decode cX9_readPart 50 = .ok (.iload_n 1, 1) := by decide +kernel
theorem dX9_readPart_51 : decode cX9_readPart 51 = .ok (.imul, 1) := by decide +kernel
theorem dX9_readPart_52 : decode cX9_readPart 52 = .ok (.aload_n 0, 1) := by decide +kernel
theorem dX9_readPart_53 : decode cX9_readPart 53 = .ok (.getfield 171, 3) := by decide +kernel
theorem dX9_readPart_56 : decode cX9_readPart 56 = .ok (.iadd, 1) := by decide +kernel
theorem dX9_readPart_57 : decode cX9_readPart 57 = .ok (.istore_n 2, 1) := by decide +kernel
theorem dX9_readPart_58 : decode cX9_readPart 58 = .ok (.aload_n 0, 1) := by decide +kernel
theorem dX9_readPart_59 : decode cX9_readPart 59 = .ok (.getfield 29, 3) := by decide +kernel
theorem dX9_readPart_62 : decode cX9_readPart 62 = .ok (.iload_n 2, 1) := by decide +kernel
theorem dX9_readPart_63 : decode cX9_readPart 63 = .ok (.iconst 1, 1) := by decide +kernel
theorem dX9_readPart_64 : decode cX9_readPart 64 = .ok (.bastore, 1) := by decide +kernel
theorem dX9_readPart_65 : decode cX9_readPart 65 = .ok (.aload_n 0, 1) := by decide +kernel
theorem dX9_readPart_66 : decode cX9_readPart 66 = .ok (.getfield 33, 3) := by decide +kernel
theorem dX9_readPart_69 : decode cX9_readPart 69 = .ok (.iload_n 2, 1) := by decide +kernel
theorem dX9_readPart_70 : decode cX9_readPart 70 = .ok (.iconst 0, 1) := by decide +kernel
theorem dX9_readPart_71 : decode cX9_readPart 71 = .ok (.iastore, 1) := by decide +kernel
theorem dX9_readPart_72 : decode cX9_readPart 72 = .ok (.aload_n 0, 1) := by decide +kernel
theorem dX9_readPart_73 : decode cX9_readPart 73 = .ok (.getfield 36, 3) := by decide +kernel
theorem dX9_readPart_76 : decode cX9_readPart 76 = .ok (.iload_n 2, 1) := by decide +kernel
theorem dX9_readPart_77 : decode cX9_readPart 77 = .ok (.iconst 0, 1) := by decide +kernel
theorem dX9_readPart_78 : decode cX9_readPart 78 = .ok (.iastore, 1) := by decide +kernel
theorem dX9_readPart_79 : decode cX9_readPart 79 = .ok (.aload_n 0, 1) := by decide +kernel
theorem dX9_readPart_80 : decode cX9_readPart 80 = .ok (.getstatic 150, 3) := by decide +kernel
theorem dX9_readPart_83 : decode cX9_readPart 83 = .ok (.invokevirtual 177, 3) := by decide +kernel
theorem dX9_readPart_86 : decode cX9_readPart 86 = .ok (.ifCond .eq 30, 3) := by decide +kernel
theorem dX9_readPart_89 : decode cX9_readPart 89 = .ok (.aload_n 0, 1) := by decide +kernel
theorem dX9_readPart_90 : decode cX9_readPart 90 = .ok (.invokevirtual 174, 3) := by decide +kernel
theorem dX9_readPart_93 : decode cX9_readPart 93 = .ok (.aload_n 0, 1) := by decide +kernel
theorem dX9_readPart_94 : decode cX9_readPart 94 = .ok (.iconst 0, 1) := by decide +kernel
theorem dX9_readPart_95 : decode cX9_readPart 95 = .ok (.sipush 20000, 3) := by decide +kernel
theorem dX9_readPart_98 : decode cX9_readPart 98 = .ok (.invokevirtual 181, 3) := by decide +kernel
theorem dX9_readPart_101 : decode cX9_readPart 101 = .ok (.ifCond .ne 5, 3) := by decide +kernel
theorem dX9_readPart_104 : decode cX9_readPart 104 = .ok (.iconst 0, 1) := by decide +kernel
theorem dX9_readPart_105 : decode cX9_readPart 105 = .ok (.ireturn, 1) := by decide +kernel
theorem dX9_readPart_106 : decode cX9_readPart 106 = .ok (.aload_n 0, 1) := by decide +kernel
theorem dX9_readPart_107 : decode cX9_readPart 107 = .ok (.getfield 33, 3) := by decide +kernel
theorem dX9_readPart_110 : decode cX9_readPart 110 = .ok (.iload_n 2, 1) := by decide +kernel
theorem dX9_readPart_111 : decode cX9_readPart 111 = .ok (.aload_n 0, 1) := by decide +kernel
theorem dX9_readPart_112 : decode cX9_readPart 112 = .ok (.getfield 171, 3) := by decide +kernel
theorem dX9_readPart_115 : decode cX9_readPart 115 = .ok (.iastore, 1) := by decide +kernel
theorem dX9_readPart_116 : decode cX9_readPart 116 = .ok (.iconst 0, 1) := by decide +kernel
theorem dX9_readPart_117 : decode cX9_readPart 117 = .ok (.istore_n 3, 1) := by decide +kernel
theorem dX9_readPart_118 : decode cX9_readPart 118 = .ok (.aload_n 0, 1) := by decide +kernel
theorem dX9_readPart_119 : decode cX9_readPart 119 = .ok (.getstatic 153, 3) := by decide +kernel
theorem dX9_readPart_122 : decode cX9_readPart 122 = .ok (.invokevirtual 177, 3) := by decide +kernel
theorem dX9_readPart_125 : decode cX9_readPart 125 = .ok (.ifCond .eq 113, 3) := by decide +kernel
theorem dX9_readPart_128 : decode cX9_readPart 128 = .ok (.aload_n 0, 1) := by decide +kernel
theorem dX9_readPart_129 : decode cX9_readPart 129 = .ok (.getfield 36, 3) := by decide +kernel
theorem dX9_readPart_132 : decode cX9_readPart 132 = .ok (.iload_n 2, 1) := by decide +kernel
theorem dX9_readPart_133 : decode cX9_readPart 133 = .ok (.iaload, 1) := by decide +kernel
theorem dX9_readPart_134 : decode cX9_readPart 134 = .ok (.iconst 3, 1) := by decide +kernel
theorem dX9_readPart_135 : decode cX9_readPart 135 = .ok (.if_icmp .ne 9, 3) := by decide +kernel
theorem dX9_readPart_138 : decode cX9_readPart 138 = .ok (.aload_n 0, 1) := by decide +kernel
theorem dX9_readPart_139 : decode cX9_readPart 139 = .ok (.iconst 4, 1) := by decide +kernel
theorem dX9_readPart_140 : decode cX9_readPart 140 = .ok (.invokevirtual 168, 3) := by decide +kernel
theorem dX9_readPart_143 : decode cX9_readPart 143 = .ok (.ireturn, 1) := by decide +kernel
theorem dX9_readPart_144 : decode cX9_readPart 144 = .ok (.aload_n 0, 1) := by decide +kernel
theorem dX9_readPart_145 : decode cX9_readPart 145 = .ok (.invokevirtual 174, 3) := by decide +kernel
theorem dX9_readPart_148 : decode cX9_readPart 148 = .ok (.aload_n 0, 1) := by decide +kernel
theorem dX9_readPart_149 : decode cX9_readPart 149 = .ok (.iload_n 3, 1) := by decide +kernel
theorem dX9_readPart_150 : decode cX9_readPart 150 = .ok (.iconst 1, 1) := by decide +kernel
theorem dX9_readPart_151 : decode cX9_readPart 151 = .ok (.iadd, 1) := by decide +kernel
theorem dX9_readPart_152 : decode cX9_readPart 152 = .ok (.sipush 20000, 3) := by decide +kernel
theorem dX9_readPart_155 : decode cX9_readPart 155 = .ok (.invokevirtual 181, 3) := by decide +kernel
theorem dX9_readPart_158 : decode cX9_readPart 158 = .ok (.ifCond .ne 5, 3) := by decide +kernel
theorem dX9_readPart_161 : decode cX9_readPart 161 = .ok (.iconst 0, 1) := by decide +kernel
theorem dX9_readPart_162 : decode cX9_readPart 162 = .ok (.ireturn, 1) := by decide +kernel
theorem dX9_readPart_163 : decode cX9_readPart 163 = .ok (.aload_n 0, 1) := by decide +kernel
theorem dX9_readPart_164 : decode cX9_readPart 164 = .ok (.getfield 171, 3) := by decide +kernel
theorem dX9_readPart_167 : decode cX9_readPart 167 = .ok (.istore_n 3, 1) := by decide +kernel
theorem dX9_readPart_168 : decode cX9_readPart 168 = .ok (.iconst 3, 1) := by decide +kernel
theorem dX9_readPart_169 : decode cX9_readPart 169 = .ok (.iload_n 2, 1) := by decide +kernel
theorem dX9_readPart_170 : decode cX9_readPart 170 = .ok (.imul, 1) := by decide +kernel
theorem dX9_readPart_171 : decode cX9_readPart 171 = .ok (.aload_n 0, 1) := by decide +kernel
theorem dX9_readPart_172 : decode cX9_readPart 172 = .ok (.getfield 36, 3) := by decide +kernel
theorem dX9_readPart_175 : decode cX9_readPart 175 = .ok (.iload_n 2, 1) := by decide +kernel
theorem dX9_readPart_176 : decode cX9_readPart 176 = .ok (.iaload, 1) := by decide +kernel
theorem dX9_readPart_177 : decode cX9_readPart 177 = .ok (.iadd, 1) := by decide +kernel
theorem dX9_readPart_178 : decode cX9_readPart 178 = .ok (.istore 4, 2) := by decide +kernel
theorem dX9_readPart_180 : decode cX9_readPart 180 = .ok (.aload_n 0, 1) := by decide +kernel
theorem dX9_readPart_181 : decode cX9_readPart 181 = .ok (.getfield 39, 3) := by decide +kernel
theorem dX9_readPart_184 : decode cX9_readPart 184 = .ok (.iload 4, 2) := by decide +kernel
theorem dX9_readPart_186 : decode cX9_readPart 186 = .ok (.aload_n 0, 1) := by decide +kernel
theorem dX9_readPart_187 : decode cX9_readPart 187 = .ok (.getfield 171, 3) := by decide +kernel
theorem dX9_readPart_190 : decode cX9_readPart 190 = .ok (.iastore, 1) := by decide +kernel
theorem dX9_readPart_191 : decode cX9_readPart 191 = .ok (.aload_n 0, 1) := by decide +kernel
theorem dX9_readPart_192 : decode cX9_readPart 192 = .ok (.getstatic 156, 3) := by decide +kernel
theorem dX9_readPart_195 : decode cX9_readPart 195 = .ok (.invokevirtual 185, 3) := by decide +kernel
theorem dX9_readPart_198 : decode cX9_readPart 198 = .ok (.ifCond .eq 14, 3) := by decide +kernel
theorem dX9_readPart_201 : decode cX9_readPart 201 = .ok (.aload_n 0, 1) := by decide +kernel
theorem dX9_readPart_202 : decode cX9_readPart 202 = .ok (.iconst 0, 1) := by decide +kernel
theorem dX9_readPart_203 : decode cX9_readPart 203 = .ok (.sipush 9999, 3) := by decide +kernel
theorem dX9_readPart_206 : decode cX9_readPart 206 = .ok (.invokevirtual 181, 3) := by decide +kernel
theorem dX9_readPart_209 : decode cX9_readPart 209 = .ok (.ifCond .ne 5, 3) := by decide +kernel
theorem dX9_readPart_212 : decode cX9_readPart 212 = .ok (.iconst 0, 1) := by decide +kernel
theorem dX9_readPart_213 : decode cX9_readPart 213 = .ok (.ireturn, 1) := by decide +kernel
theorem dX9_readPart_214 : decode cX9_readPart 214 = .ok (.aload_n 0, 1) := by decide +kernel
theorem dX9_readPart_215 : decode cX9_readPart 215 = .ok (.getfield 42, 3) := by decide +kernel
theorem dX9_readPart_218 : decode cX9_readPart 218 = .ok (.iload 4, 2) := by decide +kernel
theorem dX9_readPart_220 : decode cX9_readPart 220 = .ok (.aload_n 0, 1) := by decide +kernel
theorem dX9_readPart_221 : decode cX9_readPart 221 = .ok (.getfield 171, 3) := by decide +kernel
theorem dX9_readPart_224 : decode cX9_readPart 224 = .ok (.iastore, 1) := by decide +kernel
theorem dX9_readPart_225 : decode cX9_readPart 225 = .ok (.aload_n 0, 1) := by decide +kernel
theorem dX9_readPart_226 : decode cX9_readPart 226 = .ok (.getfield 36, 3) := by decide +kernel
theorem dX9_readPart_229 : decode cX9_readPart 229 = .ok (.iload_n 2, 1) := by decide +kernel
theorem dX9_readPart_230 : decode cX9_readPart 230 = .ok (.dup2, 1) := by decide +kernel
theorem dX9_readPart_231 : decode cX9_readPart 231 = .ok (.iaload, 1) := by decide +kernel
theorem dX9_readPart_232 : decode cX9_readPart 232 = .ok (.iconst 1, 1) := by decide +kernel
theorem dX9_readPart_233 : decode cX9_readPart 233 = .ok (.iadd, 1) := by decide +kernel
theorem dX9_readPart_234 : decode cX9_readPart 234 = .ok (.iastore, 1) := by decide +kernel
theorem dX9_readPart_235 : decode cX9_readPart 235 = .ok (.goto (-117), 3) := by decide +kernel
theorem dX9_readPart_238 : decode cX9_readPart 238 = .ok (.aload_n 0, 1) := by decide +kernel
theorem dX9_readPart_239 : decode cX9_readPart 239 = .ok (.getstatic 159, 3) := by decide +kernel
theorem dX9_readPart_242 : decode cX9_readPart 242 = .ok (.invokevirtual 185, 3) := by decide +kernel
theorem dX9_readPart_245 : decode cX9_readPart 245 = .ok (.ifCond .eq 14, 3) := by decide +kernel
theorem dX9_readPart_248 : decode cX9_readPart 248 = .ok (.aload_n 0, 1) := by decide +kernel
theorem dX9_readPart_249 : decode cX9_readPart 249 = .ok (.iconst 0, 1) := by decide +kernel
theorem dX9_readPart_250 : decode cX9_readPart 250 = .ok (.sipush 9999, 3) := by decide +kernel
theorem dX9_readPart_253 : decode cX9_readPart 253 = .ok (.invokevirtual 181, 3) := by decide +kernel
theorem dX9_readPart_256 : decode cX9_readPart 256 = .ok (.ifCond .ne 5, 3) := by decide +kernel
theorem dX9_readPart_259 : decode cX9_readPart 259 = .ok (.iconst 0, 1) := by decide +kernel
theorem dX9_readPart_260 : decode cX9_readPart 260 = .ok (.ireturn, 1) := by decide +kernel
theorem dX9_readPart_261 : decode cX9_readPart 261 = .ok (.aload_n 0, 1) := by decide +kernel
theorem dX9_readPart_262 : decode cX9_readPart 262 = .ok (.getfield 45, 3) := by decide +kernel
theorem dX9_readPart_265 : decode cX9_readPart 265 = .ok (.iload_n 2, 1) := by decide +kernel
theorem dX9_readPart_266 : decode cX9_readPart 266 = .ok (.aload_n 0, 1) := by decide +kernel
theorem dX9_readPart_267 : decode cX9_readPart 267 = .ok (.getfield 171, 3) := by decide +kernel
theorem dX9_readPart_270 : decode cX9_readPart 270 = .ok (.iastore, 1) := by decide +kernel
theorem dX9_readPart_271 : decode cX9_readPart 271 = .ok (.iconst 1, 1) := by decide +kernel
theorem dX9_readPart_272 : decode cX9_readPart 272 = .ok (.ireturn, 1) := by decide +kernel
theorem dX9_readPlan_0 : decode cX9_readPlan 0 = .ok (.bipush 10, 2) := by decide +kernel
theorem dX9_readPlan_2 : decode cX9_readPlan 2 = .ok (.iload_n 1, 1) := by decide +kernel
theorem dX9_readPlan_3 : decode cX9_readPlan 3 = .ok (.iadd, 1) := by decide +kernel
theorem dX9_readPlan_4 : decode cX9_readPlan 4 = .ok (.istore_n 2, 1) := by decide +kernel
theorem dX9_readPlan_5 : decode cX9_readPlan 5 = .ok (.aload_n 0, 1) := by decide +kernel
theorem dX9_readPlan_6 : decode cX9_readPlan 6 = .ok (.invokevirtual 188, 3) := by decide +kernel
theorem dX9_readPlan_9 : decode cX9_readPlan 9 = .ok (.ifCond .ne 9, 3) := by decide +kernel
theorem dX9_readPlan_12 : decode cX9_readPlan 12 = .ok (.aload_n 0, 1) := by decide +kernel
theorem dX9_readPlan_13 : decode cX9_readPlan 13 = .ok (.iconst 1, 1) := by decide +kernel
theorem dX9_readPlan_14 : decode cX9_readPlan 14 = .ok (.invokevirtual 168, 3) := by decide +kernel
theorem dX9_readPlan_17 : decode cX9_readPlan 17 = .ok (.ireturn, 1) := by decide +kernel
theorem dX9_readPlan_18 : decode cX9_readPlan 18 = .ok (.bipush 10, 2) := by decide +kernel
theorem dX9_readPlan_20 : decode cX9_readPlan 20 = .ok (.istore_n 3, 1) := by decide +kernel
theorem dX9_readPlan_21 : decode cX9_readPlan 21 = .ok (.iload_n 3, 1) := by decide +kernel
theorem dX9_readPlan_22 : decode cX9_readPlan 22 = .ok (.iload_n 2, 1) := by decide +kernel
theorem dX9_readPlan_23 : decode cX9_readPlan 23 = .ok (.if_icmp .ge 29, 3) := by decide +kernel
theorem dX9_readPlan_26 : decode cX9_readPlan 26 = .ok (.aload_n 0, 1) := by decide +kernel
theorem dX9_readPlan_27 : decode cX9_readPlan 27 = .ok (.getfield 13, 3) := by decide +kernel
theorem dX9_readPlan_30 : decode cX9_readPlan 30 = .ok (.iload_n 3, 1) := by decide +kernel
theorem dX9_readPlan_31 : decode cX9_readPlan 31 = .ok (.laload, 1) := by decide +kernel
theorem dX9_readPlan_32 : decode cX9_readPlan 32 = .ok (.aload_n 0, 1) := by decide +kernel
theorem dX9_readPlan_33 : decode cX9_readPlan 33 = .ok (.getfield 117, 3) := by decide +kernel
theorem dX9_readPlan_36 : decode cX9_readPlan 36 = .ok (.lcmp, 1) := by decide +kernel
theorem dX9_readPlan_37 : decode cX9_readPlan 37 = .ok (.ifCond .ne 9, 3) := by decide +kernel
theorem dX9_readPlan_40 : decode cX9_readPlan 40 = .ok (.aload_n 0, 1) := by decide +kernel
theorem dX9_readPlan_41 : decode cX9_readPlan 41 = .ok (.iconst 3, 1) := by decide +kernel
theorem dX9_readPlan_42 : decode cX9_readPlan 42 = .ok (.invokevirtual 168, 3) := by decide +kernel
theorem dX9_readPlan_45 : decode cX9_readPlan 45 = .ok (.ireturn, 1) := by decide +kernel
theorem dX9_readPlan_46 : decode cX9_readPlan 46 = .ok (.iinc 3 1, 3) := by decide +kernel
theorem dX9_readPlan_49 : decode cX9_readPlan 49 = .ok (.goto (-28), 3) := by decide +kernel
theorem dX9_readPlan_52 : decode cX9_readPlan 52 = .ok (.aload_n 0, 1) := by decide +kernel
theorem dX9_readPlan_53 : decode cX9_readPlan 53 = .ok (.getfield 13, 3) := by decide +kernel
theorem dX9_readPlan_56 : decode cX9_readPlan 56 = .ok (.iload_n 2, 1) := by decide +kernel
theorem dX9_readPlan_57 : decode cX9_readPlan 57 = .ok (.aload_n 0, 1) := by decide +kernel
theorem dX9_readPlan_58 : decode cX9_readPlan 58 = .ok (.getfield 117, 3) := by decide +kernel
theorem dX9_readPlan_61 : decode cX9_readPlan 61 = .ok (.lastore, 1) := by decide +kernel
theorem dX9_readPlan_62 : decode cX9_readPlan 62 = .ok (.aload_n 0, 1) := by decide +kernel
theorem dX9_readPlan_63 : decode cX9_readPlan 63 = .ok (.getfield 20, 3) := by decide +kernel
theorem dX9_readPlan_66 : decode cX9_readPlan 66 = .ok (.iload_n 2, 1) := by decide +kernel
theorem dX9_readPlan_67 : decode cX9_readPlan 67 = .ok (.iconst 1, 1) := by decide +kernel
theorem dX9_readPlan_68 : decode cX9_readPlan 68 = .ok (.iastore, 1) := by decide +kernel
theorem dX9_readPlan_69 : decode cX9_readPlan 69 = .ok (.aload_n 0, 1) := by decide +kernel
theorem dX9_readPlan_70 : decode cX9_readPlan 70 = .ok (.getfield 23, 3) := by decide +kernel
theorem dX9_readPlan_73 : decode cX9_readPlan 73 = .ok (.iload_n 2, 1) := by decide +kernel
theorem dX9_readPlan_74 : decode cX9_readPlan 74 = .ok (.iconst 0, 1) := by decide +kernel
theorem dX9_readPlan_75 : decode cX9_readPlan 75 = .ok (.iastore, 1) := by decide +kernel
theorem dX9_readPlan_76 : decode cX9_readPlan 76 = .ok (.aload_n 0, 1) := by decide +kernel
theorem dX9_readPlan_77 : decode cX9_readPlan 77 = .ok (.getfield 26, 3) := by decide +kernel
theorem dX9_readPlan_80 : decode cX9_readPlan 80 = .ok (.iload_n 2, 1) := by decide +kernel
theorem dX9_readPlan_81 : decode cX9_readPlan 81 = .ok (.bipush 23, 2) := by decide +kernel
theorem dX9_readPlan_83 : decode cX9_readPlan 83 = .ok (.iastore, 1) := by decide +kernel
theorem dX9_readPlan_84 : decode cX9_readPlan 84 = .ok (.iconst 0, 1) := by decide +kernel
theorem dX9_readPlan_85 : decode cX9_readPlan 85 = .ok (.istore_n 3, 1) := by decide +kernel
theorem dX9_readPlan_86 : decode cX9_readPlan 86 = .ok (.iload_n 3, 1) := by decide +kernel
theorem dX9_readPlan_87 : decode cX9_readPlan 87 = .ok (.iconst 4, 1) := by decide +kernel
theorem dX9_readPlan_88 : decode cX9_readPlan 88 = .ok (.if_icmp .ge 20, 3) := by decide +kernel
theorem dX9_readPlan_91 : decode cX9_readPlan 91 = .ok (.aload_n 0, 1) := by decide +kernel
theorem dX9_readPlan_92 : decode cX9_readPlan 92 = .ok (.getfield 29, 3) := by decide +kernel
theorem dX9_readPlan_95 : decode cX9_readPlan 95 = .ok (.iconst 4, 1) := by decide +kernel
theorem dX9_readPlan_96 : decode cX9_readPlan 96 = .ok (.iload_n 2, 1) := by decide +kernel
theorem dX9_readPlan_97 : decode cX9_readPlan 97 = .ok (.imul, 1) := by decide +kernel
theorem dX9_readPlan_98 : decode cX9_readPlan 98 = .ok (.iload_n 3, 1) := by decide +kernel
theorem dX9_readPlan_99 : decode cX9_readPlan 99 = .ok (.iadd, 1) := by decide +kernel
theorem dX9_readPlan_100 : decode cX9_readPlan 100 = .ok (.iconst 0, 1) := by decide +kernel
theorem dX9_readPlan_101 : decode cX9_readPlan 101 = .ok (.bastore, 1) := by decide +kernel
theorem dX9_readPlan_102 : decode cX9_readPlan 102 = .ok (.iinc 3 1, 3) := by decide +kernel
theorem dX9_readPlan_105 : decode cX9_readPlan 105 = .ok (.goto (-19), 3) := by decide +kernel
theorem dX9_readPlan_108 : decode cX9_readPlan 108 = .ok (.aload_n 0, 1) := by decide +kernel
theorem dX9_readPlan_109 : decode cX9_readPlan 109 = .ok (.invokevirtual 174, 3) := by decide +kernel
theorem dX9_readPlan_112 : decode cX9_readPlan 112 = .ok (.aload_n 0, 1) := by decide +kernel
theorem dX9_readPlan_113 : decode cX9_readPlan 113 = .ok (.getstatic 135, 3) := by decide +kernel
theorem dX9_readPlan_116 : decode cX9_readPlan 116 = .ok (.invokevirtual 185, 3) := by decide +kernel
theorem dX9_readPlan_119 : decode cX9_readPlan 119 = .ok (.ifCond .eq 13, 3) := by decide +kernel
theorem dX9_readPlan_122 : decode cX9_readPlan 122 = .ok (.aload_n 0, 1) := by decide +kernel
theorem dX9_readPlan_123 : decode cX9_readPlan 123 = .ok (.iconst 0, 1) := by decide +kernel
theorem dX9_readPlan_124 : decode cX9_readPlan 124 = .ok (.ldc 192, 2) := by decide +kernel
theorem dX9_readPlan_126 : decode cX9_readPlan 126 = .ok (.invokevirtual 181, 3) := by decide +kernel
theorem dX9_readPlan_129 : decode cX9_readPlan 129 = .ok (.ifCond .ne 5, 3) := by decide +kernel
theorem dX9_readPlan_132 : decode cX9_readPlan 132 = .ok (.iconst 0, 1) := by decide +kernel
theorem dX9_readPlan_133 : decode cX9_readPlan 133 = .ok (.ireturn, 1) := by decide +kernel
theorem dX9_readPlan_134 : decode cX9_readPlan 134 = .ok (.aload_n 0, 1) := by decide +kernel
theorem dX9_readPlan_135 : decode cX9_readPlan 135 = .ok (.getfield 17, 3) := by decide +kernel
theorem dX9_readPlan_138 : decode cX9_readPlan 138 = .ok (.iload_n 2, 1) := by decide +kernel
theorem dX9_readPlan_139 : decode cX9_readPlan 139 = .ok (.aload_n 0, 1) := by decide +kernel
theorem dX9_readPlan_140 : decode cX9_readPlan 140 = .ok (.getfield 171, 3) := by decide +kernel
theorem dX9_readPlan_143 : decode cX9_readPlan 143 = .ok (.iastore, 1) := by decide +kernel
theorem dX9_readPlan_144 : decode cX9_readPlan 144 = .ok (.aload_n 0, 1) := by decide +kernel
theorem dX9_readPlan_145 : decode cX9_readPlan 145 = .ok (.getstatic 138, 3) := by decide +kernel
theorem dX9_readPlan_148 : decode cX9_readPlan 148 = .ok (.invokevirtual 177, 3) := by decide +kernel
theorem dX9_readPlan_151 : decode cX9_readPlan 151 = .ok (.ifCond .eq 29, 3) := by decide +kernel
theorem dX9_readPlan_154 : decode cX9_readPlan 154 = .ok (.aload_n 0, 1) := by decide +kernel
theorem dX9_readPlan_155 : decode cX9_readPlan 155 = .ok (.invokevirtual 174, 3) := by decide +kernel
theorem dX9_readPlan_158 : decode cX9_readPlan 158 = .ok (.aload_n 0, 1) := by decide +kernel
theorem dX9_readPlan_159 : decode cX9_readPlan 159 = .ok (.iconst 1, 1) := by decide +kernel
theorem dX9_readPlan_160 : decode cX9_readPlan 160 = .ok (.bipush 24, 2) := by decide +kernel
theorem dX9_readPlan_162 : decode cX9_readPlan 162 = .ok (.invokevirtual 181, 3) := by decide +kernel
theorem dX9_readPlan_165 : decode cX9_readPlan 165 = .ok (.ifCond .ne 5, 3) := by decide +kernel
theorem dX9_readPlan_168 : decode cX9_readPlan 168 = .ok (.iconst 0, 1) := by decide +kernel
theorem dX9_readPlan_169 : decode cX9_readPlan 169 = .ok (.ireturn, 1) := by decide +kernel
theorem dX9_readPlan_170 : decode cX9_readPlan 170 = .ok (.aload_n 0, 1) := by decide +kernel
theorem dX9_readPlan_171 : decode cX9_readPlan 171 = .ok (.getfield 20, 3) := by decide +kernel
theorem dX9_readPlan_174 : decode cX9_readPlan 174 = .ok (.iload_n 2, 1) := by decide +kernel
theorem dX9_readPlan_175 : decode cX9_readPlan 175 = .ok (.aload_n 0, 1) := by decide +kernel
theorem dX9_readPlan_176 : decode cX9_readPlan 176 = .ok (.getfield 171, 3) := by decide +kernel
theorem dX9_readPlan_179 : decode cX9_readPlan 179 = .ok (.iastore, 1) := by decide +kernel
theorem dX9_readPlan_180 : decode cX9_readPlan 180 = .ok (.aload_n 0, 1) := by decide +kernel
theorem dX9_readPlan_181 : decode cX9_readPlan 181 = .ok (.getstatic 141, 3) := by decide +kernel
theorem dX9_readPlan_184 : decode cX9_readPlan 184 = .ok (.invokevirtual 177, 3) := by decide +kernel
theorem dX9_readPlan_187 : decode cX9_readPlan 187 = .ok (.ifCond .eq 66, 3) := by decide +kernel
theorem dX9_readPlan_190 : decode cX9_readPlan 190 = .ok (.aload_n 0, 1) := by decide +kernel
theorem dX9_readPlan_191 : decode cX9_readPlan 191 = .ok (.invokevirtual 174, 3) := by decide +kernel
theorem dX9_readPlan_194 : decode cX9_readPlan 194 = .ok (.aload_n 0, 1) := by decide +kernel
theorem dX9_readPlan_195 : decode cX9_readPlan 195 = .ok (.iconst 0, 1) := by decide +kernel
theorem dX9_readPlan_196 : decode cX9_readPlan 196 = .ok (.bipush 23, 2) := by decide +kernel
theorem dX9_readPlan_198 : decode cX9_readPlan 198 = .ok (.invokevirtual 181, 3) := by decide +kernel
theorem dX9_readPlan_201 : decode cX9_readPlan 201 = .ok (.ifCond .ne 5, 3) := by decide +kernel
theorem dX9_readPlan_204 : decode cX9_readPlan 204 = .ok (.iconst 0, 1) := by decide +kernel
theorem dX9_readPlan_205 : decode cX9_readPlan 205 = .ok (.ireturn, 1) := by decide +kernel
theorem dX9_readPlan_206 : decode cX9_readPlan 206 = .ok (.aload_n 0, 1) := by decide +kernel
theorem dX9_readPlan_207 : decode cX9_readPlan 207 = .ok (.getfield 23, 3) := by decide +kernel
theorem dX9_readPlan_210 : decode cX9_readPlan 210 = .ok (.iload_n 2, 1) := by decide +kernel
theorem dX9_readPlan_211 : decode cX9_readPlan 211 = .ok (.aload_n 0, 1) := by decide +kernel
theorem dX9_readPlan_212 : decode cX9_readPlan 212 = .ok (.getfield 171, 3) := by decide +kernel
theorem dX9_readPlan_215 : decode cX9_readPlan 215 = .ok (.iastore, 1) := by decide +kernel
theorem dX9_readPlan_216 : decode cX9_readPlan 216 = .ok (.aload_n 0, 1) := by decide +kernel
theorem dX9_readPlan_217 : decode cX9_readPlan 217 = .ok (.getstatic 144, 3) := by decide +kernel
theorem dX9_readPlan_220 : decode cX9_readPlan 220 = .ok (.invokevirtual 185, 3) := by decide +kernel
theorem dX9_readPlan_223 : decode cX9_readPlan 223 = .ok (.ifCond .eq 18, 3) := by decide +kernel
theorem dX9_readPlan_226 : decode cX9_readPlan 226 = .ok (.aload_n 0, 1) := by decide +kernel
theorem dX9_readPlan_227 : decode cX9_readPlan 227 = .ok (.aload_n 0, 1) := by decide +kernel
theorem dX9_readPlan_228 : decode cX9_readPlan 228 = .ok (.getfield 23, 3) := by decide +kernel
theorem dX9_readPlan_231 : decode cX9_readPlan 231 = .ok (.iload_n 2, 1) := by decide +kernel
theorem dX9_readPlan_232 : decode cX9_readPlan 232 = .ok (.iaload, 1) := by decide +kernel
theorem dX9_readPlan_233 : decode cX9_readPlan 233 = .ok (.bipush 23, 2) := by decide +kernel
theorem dX9_readPlan_235 : decode cX9_readPlan 235 = .ok (.invokevirtual 181, 3) := by decide +kernel
theorem dX9_readPlan_238 : decode cX9_readPlan 238 = .ok (.ifCond .ne 5, 3) := by decide +kernel
theorem dX9_readPlan_241 : decode cX9_readPlan 241 = .ok (.iconst 0, 1) := by decide +kernel
theorem dX9_readPlan_242 : decode cX9_readPlan 242 = .ok (.ireturn, 1) := by decide +kernel
theorem dX9_readPlan_243 : decode cX9_readPlan 243 = .ok (.aload_n 0, 1) := by decide +kernel
theorem dX9_readPlan_244 : decode cX9_readPlan 244 = .ok (.getfield 26, 3) := by decide +kernel
theorem dX9_readPlan_247 : decode cX9_readPlan 247 = .ok (.iload_n 2, 1) := by decide +kernel
theorem dX9_readPlan_248 : decode cX9_readPlan 248 = .ok (.aload_n 0, 1) := by decide +kernel
theorem dX9_readPlan_249 : decode cX9_readPlan 249 = .ok (.getfield 171, 3) := by decide +kernel
theorem dX9_readPlan_252 : decode cX9_readPlan 252 = .ok (.iastore, 1) := by decide +kernel
theorem dX9_readPlan_253 : decode cX9_readPlan 253 = .ok (.aload_n 0, 1) := by decide +kernel
theorem dX9_readPlan_254 : decode cX9_readPlan 254 = .ok (.getstatic 147, 3) := by decide +kernel
theorem dX9_readPlan_257 : decode cX9_readPlan 257 = .ok (.invokevirtual 177, 3) := by decide +kernel
theorem dX9_readPlan_260 : decode cX9_readPlan 260 = .ok (.ifCond .eq 17, 3) := by decide +kernel
theorem dX9_readPlan_263 : decode cX9_readPlan 263 = .ok (.aload_n 0, 1) := by decide +kernel
theorem dX9_readPlan_264 : decode cX9_readPlan 264 = .ok (.invokevirtual 174, 3) := by decide +kernel
theorem dX9_readPlan_267 : decode cX9_readPlan 267 = .ok (.aload_n 0, 1) := by decide +kernel
theorem dX9_readPlan_268 : decode cX9_readPlan 268 = .ok (.iload_n 2, 1) := by decide +kernel
theorem dX9_readPlan_269 : decode cX9_readPlan 269 = .ok (.invokevirtual 193, 3) := by decide +kernel
theorem dX9_readPlan_272 : decode cX9_readPlan 272 = .ok (.ifCond .ne (-19), 3) := by decide +kernel
theorem dX9_readPlan_275 : decode cX9_readPlan 275 = .ok (.iconst 0, 1) := by decide +kernel
theorem dX9_readPlan_276 : decode cX9_readPlan 276 = .ok (.ireturn, 1) := by decide +kernel
theorem dX9_readPlan_277 : decode cX9_readPlan 277 = .ok (.aload_n 0, 1) := by decide +kernel
theorem dX9_readPlan_278 : decode cX9_readPlan 278 = .ok (.getfield 107, 3) := by decide +kernel
theorem dX9_readPlan_281 : decode cX9_readPlan 281 = .ok (.iconst 4, 1) := by decide +kernel
theorem dX9_readPlan_282 : decode cX9_readPlan 282 = .ok (.if_icmp .eq 9, 3) := by decide +kernel
theorem dX9_readPlan_285 : decode cX9_readPlan 285 = .ok (.aload_n 0, 1) := by decide +kernel
theorem dX9_readPlan_286 : decode cX9_readPlan 286 = .ok (.iconst 1, 1) := by decide +kernel
theorem dX9_readPlan_287 : decode cX9_readPlan 287 = .ok (.invokevirtual 168, 3) := by decide +kernel
theorem dX9_readPlan_290 : decode cX9_readPlan 290 = .ok (.ireturn, 1) := by decide +kernel
theorem dX9_readPlan_291 : decode cX9_readPlan 291 = .ok (.aload_n 0, 1) := by decide +kernel
theorem dX9_readPlan_292 : decode cX9_readPlan 292 = .ok (.invokevirtual 174, 3) := by decide +kernel
theorem dX9_readPlan_295 : decode cX9_readPlan 295 = .ok (.iconst 1, 1) := by decide +kernel
theorem dX9_readPlan_296 : decode cX9_readPlan 296 = .ok (.ireturn, 1) := by decide +kernel
theorem dX9_readText_0 : decode cX9_readText 0 = .ok (.aload_n 0, 1) := by decide +kernel
theorem dX9_readText_1 : decode cX9_readText 1 = .ok (.iconst 0, 1) := by decide +kernel
theorem dX9_readText_2 : decode cX9_readText 2 = .ok (.putfield 196, 3) := by decide +kernel
theorem dX9_readText_5 : decode cX9_readText 5 = .ok (.aload_n 0, 1) := by decide +kernel
theorem dX9_readText_6 : decode cX9_readText 6 = .ok (.iconst 0, 1) := by decide +kernel
theorem dX9_readText_7 : decode cX9_readText 7 = .ok (.putfield 101, 3) := by decide +kernel
theorem dX9_readText_10 : decode cX9_readText 10 = .ok (.aload_n 0, 1) := by decide +kernel
theorem dX9_readText_11 : decode cX9_readText 11 = .ok (.invokevirtual 174, 3) := by decide +kernel
theorem dX9_readText_14 : decode cX9_readText 14 = .ok (.aload_n 0, 1) := by decide +kernel
theorem dX9_readText_15 : decode cX9_readText 15 = .ok (.getstatic 132, 3) := by decide +kernel
theorem dX9_readText_18 : decode cX9_readText 18 = .ok (.invokevirtual 177, 3) := by decide +kernel
theorem dX9_readText_21 : decode cX9_readText 21 = .ok (.ifCond .ne 9, 3) := by decide +kernel
theorem dX9_readText_24 : decode cX9_readText 24 = .ok (.aload_n 0, 1) := by decide +kernel
theorem dX9_readText_25 : decode cX9_readText 25 = .ok (.iconst 1, 1) := by decide +kernel
theorem dX9_readText_26 : decode cX9_readText 26 = .ok (.invokevirtual 168, 3) := by decide +kernel
theorem dX9_readText_29 : decode cX9_readText 29 = .ok (.ireturn, 1) := by decide +kernel
theorem dX9_readText_30 : decode cX9_readText 30 = .ok (.aload_n 0, 1) := by decide +kernel
theorem dX9_readText_31 : decode cX9_readText 31 = .ok (.getfield 196, 3) := by decide +kernel
theorem dX9_readText_34 : decode cX9_readText 34 = .ok (.bipush 10, 2) := by decide +kernel
theorem dX9_readText_36 : decode cX9_readText 36 = .ok (.if_icmp .ne 9, 3) := by decide +kernel
theorem dX9_readText_39 : decode cX9_readText 39 = .ok (.aload_n 0, 1) := by decide +kernel
theorem dX9_readText_40 : decode cX9_readText 40 = .ok (.iconst 4, 1) := by decide +kernel
theorem dX9_readText_41 : decode cX9_readText 41 = .ok (.invokevirtual 168, 3) := by decide +kernel
theorem dX9_readText_44 : decode cX9_readText 44 = .ok (.ireturn, 1) := by decide +kernel
theorem dX9_readText_45 : decode cX9_readText 45 = .ok (.aload_n 0, 1) := by decide +kernel
theorem dX9_readText_46 : decode cX9_readText 46 = .ok (.invokevirtual 174, 3) := by decide +kernel
theorem dX9_readText_49 : decode cX9_readText 49 = .ok (.aload_n 0, 1) := by decide +kernel
theorem dX9_readText_50 : decode cX9_readText 50 = .ok (.aload_n 0, 1) := by decide +kernel
theorem dX9_readText_51 : decode cX9_readText 51 = .ok (.getfield 196, 3) := by decide +kernel
theorem dX9_readText_54 : decode cX9_readText 54 = .ok (.invokevirtual 199, 3) := by decide +kernel
theorem dX9_readText_57 : decode cX9_readText 57 = .ok (.ifCond .ne 5, 3) := by decide +kernel
theorem dX9_readText_60 : decode cX9_readText 60 = .ok (.iconst 0, 1) := by decide +kernel
theorem dX9_readText_61 : decode cX9_readText 61 = .ok (.ireturn, 1) := by decide +kernel
theorem dX9_readText_62 : decode cX9_readText 62 = .ok (.aload_n 0, 1) := by decide +kernel
theorem dX9_readText_63 : decode cX9_readText 63 = .ok (.dup, 1) := by decide +kernel
theorem dX9_readText_64 : decode cX9_readText 64 = .ok (.getfield 196, 3) := by decide +kernel
theorem dX9_readText_67 : decode cX9_readText 67 = .ok (.iconst 1, 1) := by decide +kernel
theorem dX9_readText_68 : decode cX9_readText 68 = .ok (.iadd, 1) := by decide +kernel
theorem dX9_readText_69 : decode cX9_readText 69 = .ok (.putfield 196, 3) := by decide +kernel
theorem dX9_readText_72 : decode cX9_readText 72 = .ok (.aload_n 0, 1) := by decide +kernel
theorem dX9_readText_73 : decode cX9_readText 73 = .ok (.getfield 107, 3) := by decide +kernel
theorem dX9_readText_76 : decode cX9_readText 76 = .ok (.ifCond .ne (-62), 3) := by decide +kernel
theorem dX9_readText_79 : decode cX9_readText 79 = .ok (.iconst 1, 1) := by decide +kernel
theorem dX9_readText_80 : decode cX9_readText 80 = .ok (.ireturn, 1) := by decide +kernel
theorem dX9_plans_0 : decode cX9_plans 0 = .ok (.aload_n 0, 1) := by decide +kernel
theorem dX9_plans_1 : decode cX9_plans 1 = .ok (.iconst 0, 1) := by decide +kernel
theorem dX9_plans_2 : decode cX9_plans 2 = .ok (.putfield 87, 3) := by decide +kernel
theorem dX9_plans_5 : decode cX9_plans 5 = .ok (.aload_n 0, 1) := by decide +kernel
theorem dX9_plans_6 : decode cX9_plans 6 = .ok (.aload_n 0, 1) := by decide +kernel
theorem dX9_plans_7 : decode cX9_plans 7 = .ok (.getfield 91, 3) := by decide +kernel
theorem dX9_plans_10 : decode cX9_plans 10 = .ok (.putfield 98, 3) := by decide +kernel
theorem dX9_plans_13 : decode cX9_plans 13 = .ok (.aload_n 0, 1) := by decide +kernel
theorem dX9_plans_14 : decode cX9_plans 14 = .ok (.iconst 0, 1) := by decide +kernel
theorem dX9_plans_15 : decode cX9_plans 15 = .ok (.putfield 91, 3) := by decide +kernel
theorem dX9_plans_18 : decode cX9_plans 18 = .ok (.aload_n 0, 1) := by decide +kernel
theorem dX9_plans_19 : decode cX9_plans 19 = .ok (.iconst 0, 1) := by decide +kernel
theorem dX9_plans_20 : decode cX9_plans 20 = .ok (.putfield 162, 3) := by decide +kernel
theorem dX9_plans_23 : decode cX9_plans 23 = .ok (.aload_n 0, 1) := by decide +kernel
theorem dX9_plans_24 : decode cX9_plans 24 = .ok (.invokevirtual 202, 3) := by decide +kernel
theorem dX9_plans_27 : decode cX9_plans 27 = .ok (.ifCond .ne 10, 3) := by decide +kernel
theorem dX9_plans_30 : decode cX9_plans 30 = .ok (.iconst (-1), 1) := by decide +kernel
theorem dX9_plans_31 : decode cX9_plans 31 = .ok (.aload_n 0, 1) := by decide +kernel
theorem dX9_plans_32 : decode cX9_plans 32 = .ok (.getfield 165, 3) := by decide +kernel
theorem dX9_plans_35 : decode cX9_plans 35 = .ok (.isub, 1) := by decide +kernel
theorem dX9_plans_36 : decode cX9_plans 36 = .ok (.ireturn, 1) := by decide +kernel
theorem dX9_plans_37 : decode cX9_plans 37 = .ok (.aload_n 0, 1) := by decide +kernel
theorem dX9_plans_38 : decode cX9_plans 38 = .ok (.aload_n 0, 1) := by decide +kernel
theorem dX9_plans_39 : decode cX9_plans 39 = .ok (.getfield 196, 3) := by decide +kernel
theorem dX9_plans_42 : decode cX9_plans 42 = .ok (.putfield 205, 3) := by decide +kernel
theorem dX9_plans_45 : decode cX9_plans 45 = .ok (.iconst 0, 1) := by decide +kernel
theorem dX9_plans_46 : decode cX9_plans 46 = .ok (.istore_n 1, 1) := by decide +kernel
theorem dX9_plans_47 : decode cX9_plans 47 = .ok (.iload_n 1, 1) := by decide +kernel
theorem dX9_plans_48 : decode cX9_plans 48 = .ok (.aload_n 0, 1) := by decide +kernel
theorem dX9_plans_49 : decode cX9_plans 49 = .ok (.getfield 205, 3) := by decide +kernel
theorem dX9_plans_52 : decode cX9_plans 52 = .ok (.if_icmp .ge 220, 3) := by decide +kernel
theorem dX9_plans_55 : decode cX9_plans 55 = .ok (.bipush 10, 2) := by decide +kernel
theorem dX9_plans_57 : decode cX9_plans 57 = .ok (.iload_n 1, 1) := by decide +kernel
theorem dX9_plans_58 : decode cX9_plans 58 = .ok (.iadd, 1) := by decide +kernel
theorem dX9_plans_59 : decode cX9_plans 59 = .ok (.istore_n 2, 1) := by decide +kernel
theorem dX9_plans_60 : decode cX9_plans 60 = .ok (.aload_n 0, 1) := by decide +kernel
theorem dX9_plans_61 : decode cX9_plans 61 = .ok (.getfield 13, 3) := by decide +kernel
theorem dX9_plans_64 : decode cX9_plans 64 = .ok (.iload_n 1, 1) := by decide +kernel
theorem dX9_plans_65 : decode cX9_plans 65 = .ok (.aload_n 0, 1) := by decide +kernel
theorem dX9_plans_66 : decode cX9_plans 66 = .ok (.getfield 13, 3) := by decide +kernel
theorem dX9_plans_69 : decode cX9_plans 69 = .ok (.iload_n 2, 1) := by decide +kernel
theorem dX9_plans_70 : decode cX9_plans 70 = .ok (.laload, 1) := by decide +kernel
theorem dX9_plans_71 : decode cX9_plans 71 = .ok (.lastore, 1) := by decide +kernel
theorem dX9_plans_72 : decode cX9_plans 72 = .ok (.aload_n 0, 1) := by decide +kernel
theorem dX9_plans_73 : decode cX9_plans 73 = .ok (.getfield 17, 3) := by decide +kernel
theorem dX9_plans_76 : decode cX9_plans 76 = .ok (.iload_n 1, 1) := by decide +kernel
theorem dX9_plans_77 : decode cX9_plans 77 = .ok (.aload_n 0, 1) := by decide +kernel
theorem dX9_plans_78 : decode cX9_plans 78 = .ok (.getfield 17, 3) := by decide +kernel
theorem dX9_plans_81 : decode cX9_plans 81 = .ok (.iload_n 2, 1) := by decide +kernel
theorem dX9_plans_82 : decode cX9_plans 82 = .ok (.iaload, 1) := by decide +kernel
theorem dX9_plans_83 : decode cX9_plans 83 = .ok (.iastore, 1) := by decide +kernel
theorem dX9_plans_84 : decode cX9_plans 84 = .ok (.aload_n 0, 1) := by decide +kernel
theorem dX9_plans_85 : decode cX9_plans 85 = .ok (.getfield 20, 3) := by decide +kernel
theorem dX9_plans_88 : decode cX9_plans 88 = .ok (.iload_n 1, 1) := by decide +kernel
theorem dX9_plans_89 : decode cX9_plans 89 = .ok (.aload_n 0, 1) := by decide +kernel
theorem dX9_plans_90 : decode cX9_plans 90 = .ok (.getfield 20, 3) := by decide +kernel
theorem dX9_plans_93 : decode cX9_plans 93 = .ok (.iload_n 2, 1) := by decide +kernel
theorem dX9_plans_94 : decode cX9_plans 94 = .ok (.iaload, 1) := by decide +kernel
theorem dX9_plans_95 : decode cX9_plans 95 = .ok (.iastore, 1) := by decide +kernel
theorem dX9_plans_96 : decode cX9_plans 96 = .ok (.aload_n 0, 1) := by decide +kernel
theorem dX9_plans_97 : decode cX9_plans 97 = .ok (.getfield 23, 3) := by decide +kernel
theorem dX9_plans_100 : decode cX9_plans 100 = .ok (.iload_n 1, 1) := by decide +kernel
theorem dX9_plans_101 : decode cX9_plans 101 = .ok (.aload_n 0, 1) := by decide +kernel
theorem dX9_plans_102 : decode cX9_plans 102 = .ok (.getfield 23, 3) := by decide +kernel
theorem dX9_plans_105 : decode cX9_plans 105 = .ok (.iload_n 2, 1) := by decide +kernel
theorem dX9_plans_106 : decode cX9_plans 106 = .ok (.iaload, 1) := by decide +kernel
theorem dX9_plans_107 : decode cX9_plans 107 = .ok (.iastore, 1) := by decide +kernel
theorem dX9_plans_108 : decode cX9_plans 108 = .ok (.aload_n 0, 1) := by decide +kernel
theorem dX9_plans_109 : decode cX9_plans 109 = .ok (.getfield 26, 3) := by decide +kernel
theorem dX9_plans_112 : decode cX9_plans 112 = .ok (.iload_n 1, 1) := by decide +kernel
theorem dX9_plans_113 : decode cX9_plans 113 = .ok (.aload_n 0, 1) := by decide +kernel
theorem dX9_plans_114 : decode cX9_plans 114 = .ok (.getfield 26, 3) := by decide +kernel
theorem dX9_plans_117 : decode cX9_plans 117 = .ok (.iload_n 2, 1) := by decide +kernel
theorem dX9_plans_118 : decode cX9_plans 118 = .ok (.iaload, 1) := by decide +kernel
theorem dX9_plans_119 : decode cX9_plans 119 = .ok (.iastore, 1) := by decide +kernel
theorem dX9_plans_120 : decode cX9_plans 120 = .ok (.iconst 0, 1) := by decide +kernel
theorem dX9_plans_121 : decode cX9_plans 121 = .ok (.istore_n 3, 1) := by decide +kernel
theorem dX9_plans_122 : decode cX9_plans 122 = .ok (.iload_n 3, 1) := by decide +kernel
theorem dX9_plans_123 : decode cX9_plans 123 = .ok (.iconst 4, 1) := by decide +kernel
theorem dX9_plans_124 : decode cX9_plans 124 = .ok (.if_icmp .ge 142, 3) := by decide +kernel
theorem dX9_plans_127 : decode cX9_plans 127 = .ok (.iconst 4, 1) := by decide +kernel
theorem dX9_plans_128 : decode cX9_plans 128 = .ok (.iload_n 1, 1) := by decide +kernel
theorem dX9_plans_129 : decode cX9_plans 129 = .ok (.imul, 1) := by decide +kernel
theorem dX9_plans_130 : decode cX9_plans 130 = .ok (.iload_n 3, 1) := by decide +kernel
theorem dX9_plans_131 : decode cX9_plans 131 = .ok (.iadd, 1) := by decide +kernel
theorem dX9_plans_132 : decode cX9_plans 132 = .ok (.istore 4, 2) := by decide +kernel
theorem dX9_plans_134 : decode cX9_plans 134 = .ok (.iconst 4, 1) := by decide +kernel
theorem dX9_plans_135 : decode cX9_plans 135 = .ok (.iload_n 2, 1) := by decide +kernel
theorem dX9_plans_136 : decode cX9_plans 136 = .ok (.imul, 1) := by decide +kernel
theorem dX9_plans_137 : decode cX9_plans 137 = .ok (.iload_n 3, 1) := by decide +kernel
theorem dX9_plans_138 : decode cX9_plans 138 = .ok (.iadd, 1) := by decide +kernel
theorem dX9_plans_139 : decode cX9_plans 139 = .ok (.istore 5, 2) := by decide +kernel
theorem dX9_plans_141 : decode cX9_plans 141 = .ok (.aload_n 0, 1) := by decide +kernel
theorem dX9_plans_142 : decode cX9_plans 142 = .ok (.getfield 29, 3) := by decide +kernel
theorem dX9_plans_145 : decode cX9_plans 145 = .ok (.iload 4, 2) := by decide +kernel
theorem dX9_plans_147 : decode cX9_plans 147 = .ok (.aload_n 0, 1) := by decide +kernel
theorem dX9_plans_148 : decode cX9_plans 148 = .ok (.getfield 29, 3) := by decide +kernel
theorem dX9_plans_151 : decode cX9_plans 151 = .ok (.iload 5, 2) := by decide +kernel
theorem dX9_plans_153 : decode cX9_plans 153 = .ok (.baload, 1) := by decide +kernel
theorem dX9_plans_154 : decode cX9_plans 154 = .ok (.bastore, 1) := by decide +kernel
theorem dX9_plans_155 : decode cX9_plans 155 = .ok (.aload_n 0, 1) := by decide +kernel
theorem dX9_plans_156 : decode cX9_plans 156 = .ok (.getfield 33, 3) := by decide +kernel
theorem dX9_plans_159 : decode cX9_plans 159 = .ok (.iload 4, 2) := by decide +kernel
theorem dX9_plans_161 : decode cX9_plans 161 = .ok (.aload_n 0, 1) := by decide +kernel
theorem dX9_plans_162 : decode cX9_plans 162 = .ok (.getfield 33, 3) := by decide +kernel
theorem dX9_plans_165 : decode cX9_plans 165 = .ok (.iload 5, 2) := by decide +kernel
theorem dX9_plans_167 : decode cX9_plans 167 = .ok (.iaload, 1) := by decide +kernel
theorem dX9_plans_168 : decode cX9_plans 168 = .ok (.iastore, 1) := by decide +kernel
theorem dX9_plans_169 : decode cX9_plans 169 = .ok (.aload_n 0, 1) := by decide +kernel
theorem dX9_plans_170 : decode cX9_plans 170 = .ok (.getfield 36, 3) := by decide +kernel
theorem dX9_plans_173 : decode cX9_plans 173 = .ok (.iload 4, 2) := by decide +kernel
theorem dX9_plans_175 : decode cX9_plans 175 = .ok (.aload_n 0, 1) := by decide +kernel
theorem dX9_plans_176 : decode cX9_plans 176 = .ok (.getfield 36, 3) := by decide +kernel
theorem dX9_plans_179 : decode cX9_plans 179 = .ok (.iload 5, 2) := by decide +kernel
theorem dX9_plans_181 : decode cX9_plans 181 = .ok (.iaload, 1) := by decide +kernel
theorem dX9_plans_182 : decode cX9_plans 182 = .ok (.iastore, 1) := by decide +kernel
theorem dX9_plans_183 : decode cX9_plans 183 = .ok (.aload_n 0, 1) := by decide +kernel
theorem dX9_plans_184 : decode cX9_plans 184 = .ok (.getfield 45, 3) := by decide +kernel
theorem dX9_plans_187 : decode cX9_plans 187 = .ok (.iload 4, 2) := by decide +kernel
theorem dX9_plans_189 : decode cX9_plans 189 = .ok (.aload_n 0, 1) := by decide +kernel
theorem dX9_plans_190 : decode cX9_plans 190 = .ok (.getfield 45, 3) := by decide +kernel
theorem dX9_plans_193 : decode cX9_plans 193 = .ok (.iload 5, 2) := by decide +kernel
theorem dX9_plans_195 : decode cX9_plans 195 = .ok (.iaload, 1) := by decide +kernel
theorem dX9_plans_196 : decode cX9_plans 196 = .ok (.iastore, 1) := by decide +kernel
theorem dX9_plans_197 : decode cX9_plans 197 = .ok (.iconst 0, 1) := by decide +kernel
theorem dX9_plans_198 : decode cX9_plans 198 = .ok (.istore 6, 2) := by decide +kernel
theorem dX9_plans_200 : decode cX9_plans 200 = .ok (.iload 6, 2) := by decide +kernel
theorem dX9_plans_202 : decode cX9_plans 202 = .ok (.iconst 3, 1) := by decide +kernel
theorem dX9_plans_203 : decode cX9_plans 203 = .ok (.if_icmp .ge 57, 3) := by decide +kernel
theorem dX9_plans_206 : decode cX9_plans 206 = .ok (.aload_n 0, 1) := by decide +kernel
theorem dX9_plans_207 : decode cX9_plans 207 = .ok (.getfield 39, 3) := by decide +kernel
theorem dX9_plans_210 : decode cX9_plans 210 = .ok (.iconst 3, 1) := by decide +kernel
theorem dX9_plans_211 : decode cX9_plans 211 = .ok (.iload 4, 2) := by decide +kernel
theorem dX9_plans_213 : decode cX9_plans 213 = .ok (.imul, 1) := by decide +kernel
theorem dX9_plans_214 : decode cX9_plans 214 = .ok (.iload 6, 2) := by decide +kernel
theorem dX9_plans_216 : decode cX9_plans 216 = .ok (.iadd, 1) := by decide +kernel
theorem dX9_plans_217 : decode cX9_plans 217 = .ok (.aload_n 0, 1) := by decide +kernel
theorem dX9_plans_218 : decode cX9_plans 218 = .ok (.getfield 39, 3) := by decide +kernel
theorem dX9_plans_221 : decode cX9_plans 221 = .ok (.iconst 3, 1) := by decide +kernel
theorem dX9_plans_222 : decode cX9_plans 222 = .ok (.iload 5, 2) := by decide +kernel
theorem dX9_plans_224 : decode cX9_plans 224 = .ok (.imul, 1) := by decide +kernel
theorem dX9_plans_225 : decode cX9_plans 225 = .ok (.iload 6, 2) := by decide +kernel
theorem dX9_plans_227 : decode cX9_plans 227 = .ok (.iadd, 1) := by decide +kernel
theorem dX9_plans_228 : decode cX9_plans 228 = .ok (.iaload, 1) := by decide +kernel
theorem dX9_plans_229 : decode cX9_plans 229 = .ok (.iastore, 1) := by decide +kernel
theorem dX9_plans_230 : decode cX9_plans 230 = .ok (.aload_n 0, 1) := by decide +kernel
theorem dX9_plans_231 : decode cX9_plans 231 = .ok (.getfield 42, 3) := by decide +kernel
theorem dX9_plans_234 : decode cX9_plans 234 = .ok (.iconst 3, 1) := by decide +kernel
theorem dX9_plans_235 : decode cX9_plans 235 = .ok (.iload 4, 2) := by decide +kernel
theorem dX9_plans_237 : decode cX9_plans 237 = .ok (.imul, 1) := by decide +kernel
theorem dX9_plans_238 : decode cX9_plans 238 = .ok (.iload 6, 2) := by decide +kernel
theorem dX9_plans_240 : decode cX9_plans 240 = .ok (.iadd, 1) := by decide +kernel
theorem dX9_plans_241 : decode cX9_plans 241 = .ok (.aload_n 0, 1) := by decide +kernel
theorem dX9_plans_242 : decode cX9_plans 242 = .ok (.getfield 42, 3) := by decide +kernel
theorem dX9_plans_245 : decode cX9_plans 245 = .ok (.iconst 3, 1) := by decide +kernel
theorem dX9_plans_246 : decode cX9_plans 246 = .ok (.iload 5, 2) := by decide +kernel
theorem dX9_plans_248 : decode cX9_plans 248 = .ok (.imul, 1) := by decide +kernel
theorem dX9_plans_249 : decode cX9_plans 249 = .ok (.iload 6, 2) := by decide +kernel
theorem dX9_plans_251 : decode cX9_plans 251 = .ok (.iadd, 1) := by decide +kernel
theorem dX9_plans_252 : decode cX9_plans 252 = .ok (.iaload, 1) := by decide +kernel
theorem dX9_plans_253 : decode cX9_plans 253 = .ok (.iastore, 1) := by decide +kernel
theorem dX9_plans_254 : decode cX9_plans 254 = .ok (.iinc 6 1, 3) := by decide +kernel
theorem dX9_plans_257 : decode cX9_plans 257 = .ok (.goto (-57), 3) := by decide +kernel
theorem dX9_plans_260 : decode cX9_plans 260 = .ok (.iinc 3 1, 3) := by decide +kernel
theorem dX9_plans_263 : decode cX9_plans 263 = .ok (.goto (-141), 3) := by decide +kernel
theorem dX9_plans_266 : decode cX9_plans 266 = .ok (.iinc 1 1, 3) := by decide +kernel
theorem dX9_plans_269 : decode cX9_plans 269 = .ok (.goto (-222), 3) := by decide +kernel
theorem dX9_plans_272 : decode cX9_plans 272 = .ok (.aload_n 0, 1) := by decide +kernel
theorem dX9_plans_273 : decode cX9_plans 273 = .ok (.iconst 0, 1) := by decide +kernel
theorem dX9_plans_274 : decode cX9_plans 274 = .ok (.putfield 208, 3) := by decide +kernel
theorem dX9_plans_277 : decode cX9_plans 277 = .ok (.aload_n 0, 1) := by decide +kernel
theorem dX9_plans_278 : decode cX9_plans 278 = .ok (.iconst 0, 1) := by decide +kernel
theorem dX9_plans_279 : decode cX9_plans 279 = .ok (.putfield 211, 3) := by decide +kernel
theorem dX9_plans_282 : decode cX9_plans 282 = .ok (.iconst 0, 1) := by decide +kernel
theorem dX9_plans_283 : decode cX9_plans 283 = .ok (.istore_n 1, 1) := by decide +kernel
theorem dX9_plans_284 : decode cX9_plans 284 = .ok (.iload_n 1, 1) := by decide +kernel
theorem dX9_plans_285 : decode cX9_plans 285 = .ok (.iconst 4, 1) := by decide +kernel
theorem dX9_plans_286 : decode cX9_plans 286 = .ok (.if_icmp .ge 16, 3) := by decide +kernel
theorem dX9_plans_289 : decode cX9_plans 289 = .ok (.aload_n 0, 1) := by decide +kernel
theorem dX9_plans_290 : decode cX9_plans 290 = .ok (.getfield 78, 3) := by decide +kernel
theorem dX9_plans_293 : decode cX9_plans 293 = .ok (.iload_n 1, 1) := by decide +kernel
theorem dX9_plans_294 : decode cX9_plans 294 = .ok (.iconst 0, 1) := by decide +kernel
theorem dX9_plans_295 : decode cX9_plans 295 = .ok (.iastore, 1) := by decide +kernel
theorem dX9_plans_296 : decode cX9_plans 296 = .ok (.iinc 1 1, 3) := by decide +kernel
theorem dX9_plans_299 : decode cX9_plans 299 = .ok (.goto (-15), 3) := by decide +kernel
theorem dX9_plans_302 : decode cX9_plans 302 = .ok (.aload_n 0, 1) := by decide +kernel
theorem dX9_plans_303 : decode cX9_plans 303 = .ok (.getfield 205, 3) := by decide +kernel
theorem dX9_plans_306 : decode cX9_plans 306 = .ok (.ireturn, 1) := by decide +kernel
theorem dX9_fault_0 : decode cX9_fault 0 = .ok (.aload_n 0, 1) := by decide +kernel
theorem dX9_fault_1 : decode cX9_fault 1 = .ok (.iconst 0, 1) := by decide +kernel
theorem dX9_fault_2 : decode cX9_fault 2 = .ok (.putfield 87, 3) := by decide +kernel
theorem dX9_fault_5 : decode cX9_fault 5 = .ok (.aload_n 0, 1) := by decide +kernel
theorem dX9_fault_6 : decode cX9_fault 6 = .ok (.getfield 162, 3) := by decide +kernel
theorem dX9_fault_9 : decode cX9_fault 9 = .ok (.ireturn, 1) := by decide +kernel
theorem dX9_isPlan_0 : decode cX9_isPlan 0 = .ok (.iload_n 1, 1) := by decide +kernel
theorem dX9_isPlan_1 : decode cX9_isPlan 1 = .ok (.ifCond .lt 15, 3) := by decide +kernel
theorem dX9_isPlan_4 : decode cX9_isPlan 4 = .ok (.iload_n 1, 1) := by decide +kernel
theorem dX9_isPlan_5 : decode cX9_isPlan 5 = .ok (.aload_n 0, 1) := by decide +kernel
theorem dX9_isPlan_6 : decode cX9_isPlan 6 = .ok (.getfield 205, 3) := by decide +kernel
theorem dX9_isPlan_9 : decode cX9_isPlan 9 = .ok (.if_icmp .ge 7, 3) := by decide +kernel
theorem dX9_isPlan_12 : decode cX9_isPlan 12 = .ok (.iconst 1, 1) := by decide +kernel
theorem dX9_isPlan_13 : decode cX9_isPlan 13 = .ok (.goto 4, 3) := by decide +kernel
theorem dX9_isPlan_16 : decode cX9_isPlan 16 = .ok (.iconst 0, 1) := by decide +kernel
theorem dX9_isPlan_17 : decode cX9_isPlan 17 = .ok (.ireturn, 1) := by decide +kernel
theorem dX9_plan_0 : decode cX9_plan 0 = .ok (.aload_n 0, 1) := by decide +kernel
theorem dX9_plan_1 : decode cX9_plan 1 = .ok (.iload_n 1, 1) := by decide +kernel
theorem dX9_plan_2 : decode cX9_plan 2 = .ok (.invokevirtual 214, 3) := by decide +kernel
theorem dX9_plan_5 : decode cX9_plan 5 = .ok (.ifCond .eq 12, 3) := by decide +kernel
theorem dX9_plan_8 : decode cX9_plan 8 = .ok (.iload_n 2, 1) := by decide +kernel
theorem dX9_plan_9 : decode cX9_plan 9 = .ok (.ifCond .lt 8, 3) := by decide +kernel
theorem dX9_plan_12 : decode cX9_plan 12 = .ok (.iload_n 2, 1) := by decide +kernel
theorem dX9_plan_13 : decode cX9_plan 13 = .ok (.iconst 4, 1) := by decide +kernel
theorem dX9_plan_14 : decode cX9_plan 14 = .ok (.if_icmp .le 8, 3) := by decide +kernel
theorem dX9_plan_17 : decode cX9_plan 17 = .ok (.aload_n 0, 1) := by decide +kernel
theorem dX9_plan_18 : decode cX9_plan 18 = .ok (.invokevirtual 217, 3) := by decide +kernel
theorem dX9_plan_21 : decode cX9_plan 21 = .ok (.ireturn, 1) := by decide +kernel
theorem dX9_plan_22 : decode cX9_plan 22 = .ok (.aload_n 0, 1) := by decide +kernel
theorem dX9_plan_23 : decode cX9_plan 23 = .ok (.iconst 0, 1) := by decide +kernel
theorem dX9_plan_24 : decode cX9_plan 24 = .ok (.putfield 87, 3) := by decide +kernel
theorem dX9_plan_27 : decode cX9_plan 27 = .ok (.iconst 0, 1) := by decide +kernel
theorem dX9_plan_28 : decode cX9_plan 28 = .ok (.istore_n 3, 1) := by decide +kernel
theorem dX9_plan_29 : decode cX9_plan 29 = .ok (.iconst 0, 1) := by decide +kernel
theorem dX9_plan_30 : decode cX9_plan 30 = .ok (.istore 4, 2) := by decide +kernel
theorem dX9_plan_32 : decode cX9_plan 32 = .ok (.iload 4, 2) := by decide +kernel
theorem dX9_plan_34 : decode cX9_plan 34 = .ok (.iconst 4, 1) := by decide +kernel
theorem dX9_plan_35 : decode cX9_plan 35 = .ok (.if_icmp .ge 30, 3) := by decide +kernel
theorem dX9_plan_38 : decode cX9_plan 38 = .ok (.aload_n 0, 1) := by decide +kernel
theorem dX9_plan_39 : decode cX9_plan 39 = .ok (.getfield 29, 3) := by decide +kernel
theorem dX9_plan_42 : decode cX9_plan 42 = .ok (.iconst 4, 1) := by decide +kernel
theorem dX9_plan_43 : decode cX9_plan 43 = .ok (.iload_n 1, 1) := by decide +kernel
theorem dX9_plan_44 : decode cX9_plan 44 = .ok (.imul, 1) := by decide +kernel
theorem dX9_plan_45 : decode cX9_plan 45 = .ok (.iload 4, 2) := by decide +kernel
theorem dX9_plan_47 : decode cX9_plan 47 = .ok (.iadd, 1) := by decide +kernel
theorem dX9_plan_48 : decode cX9_plan 48 = .ok (.baload, 1) := by decide +kernel
theorem dX9_plan_49 : decode cX9_plan 49 = .ok (.ifCond .eq 10, 3) := by decide +kernel
theorem dX9_plan_52 : decode cX9_plan 52 = .ok (.iload_n 3, 1) := by decide +kernel
theorem dX9_plan_53 : decode cX9_plan 53 = .ok (.iconst 1, 1) := by decide +kernel
theorem dX9_plan_54 : decode cX9_plan 54 = .ok (.iload 4, 2) := by decide +kernel
theorem dX9_plan_56 : decode cX9_plan 56 = .ok (.ishl, 1) := by decide +kernel
theorem dX9_plan_57 : decode cX9_plan 57 = .ok (.ior, 1) := by decide +kernel
theorem dX9_plan_58 : decode cX9_plan 58 = .ok (.istore_n 3, 1) := by decide +kernel
theorem dX9_plan_59 : decode cX9_plan 59 = .ok (.iinc 4 1, 3) := by decide +kernel
theorem dX9_plan_62 : decode cX9_plan 62 = .ok (.goto (-30), 3) := by decide +kernel
theorem dX9_plan_65 : decode cX9_plan 65 = .ok (.iload_n 2, 1) := by decide +kernel
theorem dX9_plan_66 : decode cX9_plan 66 = .ok (.ifCond .ne 12, 3) := by decide +kernel
theorem dX9_plan_69 : decode cX9_plan 69 = .ok (.aload_n 0, 1) := by decide +kernel
theorem dX9_plan_70 : decode cX9_plan 70 = .ok (.getfield 17, 3) := by decide +kernel
theorem dX9_plan_73 : decode cX9_plan 73 = .ok (.iload_n 1, 1) := by decide +kernel
theorem dX9_plan_74 : decode cX9_plan 74 = .ok (.iaload, 1) := by decide +kernel
theorem dX9_plan_75 : decode cX9_plan 75 = .ok (.goto 46, 3) := by decide +kernel
theorem dX9_plan_78 : decode cX9_plan 78 = .ok (.iload_n 2, 1) := by decide +kernel
theorem dX9_plan_79 : decode cX9_plan 79 = .ok (.iconst 1, 1) := by decide +kernel
theorem dX9_plan_80 : decode cX9_plan 80 = .ok (.if_icmp .ne 12, 3) := by decide +kernel
theorem dX9_plan_83 : decode cX9_plan 83 = .ok (.aload_n 0, 1) := by decide +kernel
theorem dX9_plan_84 : decode cX9_plan 84 = .ok (.getfield 20, 3) := by decide +kernel
theorem dX9_plan_87 : decode cX9_plan 87 = .ok (.iload_n 1, 1) := by decide +kernel
theorem dX9_plan_88 : decode cX9_plan 88 = .ok (.iaload, 1) := by decide +kernel
theorem dX9_plan_89 : decode cX9_plan 89 = .ok (.goto 32, 3) := by decide +kernel
theorem dX9_plan_92 : decode cX9_plan 92 = .ok (.iload_n 2, 1) := by decide +kernel
theorem dX9_plan_93 : decode cX9_plan 93 = .ok (.iconst 2, 1) := by decide +kernel
theorem dX9_plan_94 : decode cX9_plan 94 = .ok (.if_icmp .ne 12, 3) := by decide +kernel
theorem dX9_plan_97 : decode cX9_plan 97 = .ok (.aload_n 0, 1) := by decide +kernel
theorem dX9_plan_98 : decode cX9_plan 98 = .ok (.getfield 23, 3) := by decide +kernel
theorem dX9_plan_101 : decode cX9_plan 101 = .ok (.iload_n 1, 1) := by decide +kernel
theorem dX9_plan_102 : decode cX9_plan 102 = .ok (.iaload, 1) := by decide +kernel
theorem dX9_plan_103 : decode cX9_plan 103 = .ok (.goto 18, 3) := by decide +kernel
theorem dX9_plan_106 : decode cX9_plan 106 = .ok (.iload_n 2, 1) := by decide +kernel
theorem dX9_plan_107 : decode cX9_plan 107 = .ok (.iconst 3, 1) := by decide +kernel
theorem dX9_plan_108 : decode cX9_plan 108 = .ok (.if_icmp .ne 12, 3) := by decide +kernel
theorem dX9_plan_111 : decode cX9_plan 111 = .ok (.aload_n 0, 1) := by decide +kernel
theorem dX9_plan_112 : decode cX9_plan 112 = .ok (.getfield 26, 3) := by decide +kernel
theorem dX9_plan_115 : decode cX9_plan 115 = .ok (.iload_n 1, 1) := by decide +kernel
theorem dX9_plan_116 : decode cX9_plan 116 = .ok (.iaload, 1) := by decide +kernel
theorem dX9_plan_117 : decode cX9_plan 117 = .ok (.goto 4, 3) := by decide +kernel
theorem dX9_plan_120 : decode cX9_plan 120 = .ok (.iload_n 3, 1) := by decide +kernel
theorem dX9_plan_121 : decode cX9_plan 121 = .ok (.ireturn, 1) := by decide +kernel
theorem dX9_name_0 : decode cX9_name 0 = .ok (.aload_n 0, 1) := by decide +kernel
theorem dX9_name_1 : decode cX9_name 1 = .ok (.iconst 0, 1) := by decide +kernel
theorem dX9_name_2 : decode cX9_name 2 = .ok (.putfield 87, 3) := by decide +kernel
theorem dX9_name_5 : decode cX9_name 5 = .ok (.aload_n 0, 1) := by decide +kernel
theorem dX9_name_6 : decode cX9_name 6 = .ok (.iload_n 1, 1) := by decide +kernel
theorem dX9_name_7 : decode cX9_name 7 = .ok (.invokevirtual 214, 3) := by decide +kernel
theorem dX9_name_10 : decode cX9_name 10 = .ok (.ifCond .ne 5, 3) := by decide +kernel
theorem dX9_name_13 : decode cX9_name 13 = .ok (.iconst (-1), 1) := by decide +kernel
theorem dX9_name_14 : decode cX9_name 14 = .ok (.ireturn, 1) := by decide +kernel
theorem dX9_name_15 : decode cX9_name 15 = .ok (.aload_n 0, 1) := by decide +kernel
theorem dX9_name_16 : decode cX9_name 16 = .ok (.iconst 0, 1) := by decide +kernel
theorem dX9_name_17 : decode cX9_name 17 = .ok (.putfield 221, 3) := by decide +kernel
theorem dX9_name_20 : decode cX9_name 20 = .ok (.aload_n 0, 1) := by decide +kernel
theorem dX9_name_21 : decode cX9_name 21 = .ok (.getfield 13, 3) := by decide +kernel
theorem dX9_name_24 : decode cX9_name 24 = .ok (.iload_n 1, 1) := by decide +kernel
theorem dX9_name_25 : decode cX9_name 25 = .ok (.laload, 1) := by decide +kernel
theorem dX9_name_26 : decode cX9_name 26 = .ok (.lstore_n 2, 1) := by decide +kernel
theorem dX9_name_27 : decode cX9_name 27 = .ok (.lload_n 2, 1) := by decide +kernel
theorem dX9_name_28 : decode cX9_name 28 = .ok (.lconst 0, 1) := by decide +kernel
theorem dX9_name_29 : decode cX9_name 29 = .ok (.lcmp, 1) := by decide +kernel
theorem dX9_name_30 : decode cX9_name 30 = .ok (.ifCond .le 22, 3) := by decide +kernel
theorem dX9_name_33 : decode cX9_name 33 = .ok (.aload_n 0, 1) := by decide +kernel
theorem dX9_name_34 : decode cX9_name 34 = .ok (.dup, 1) := by decide +kernel
theorem dX9_name_35 : decode cX9_name 35 = .ok (.getfield 221, 3) := by decide +kernel
theorem dX9_name_38 : decode cX9_name 38 = .ok (.iconst 1, 1) := by decide +kernel
theorem dX9_name_39 : decode cX9_name 39 = .ok (.iadd, 1) := by decide +kernel
theorem dX9_name_40 : decode cX9_name 40 = .ok (.putfield 221, 3) := by decide +kernel
theorem dX9_name_43 : decode cX9_name 43 = .ok (.lload_n 2, 1) := by decide +kernel
theorem dX9_name_44 : decode cX9_name 44 = .ok (.ldc2_w 128, 3) := by decide +kernel
theorem dX9_name_47 : decode cX9_name 47 = .ok (.ldiv, 1) := by decide +kernel
theorem dX9_name_48 : decode cX9_name 48 = .ok (.lstore_n 2, 1) := by decide +kernel
theorem dX9_name_49 : decode cX9_name 49 = .ok (.goto (-22), 3) := by decide +kernel
theorem dX9_name_52 : decode cX9_name 52 = .ok (.aload_n 0, 1) := by decide +kernel
theorem dX9_name_53 : decode cX9_name 53 = .ok (.getfield 13, 3) := by decide +kernel
theorem dX9_name_56 : decode cX9_name 56 = .ok (.iload_n 1, 1) := by decide +kernel
theorem dX9_name_57 : decode cX9_name 57 = .ok (.laload, 1) := by decide +kernel
theorem dX9_name_58 : decode cX9_name 58 = .ok (.lstore_n 2, 1) := by decide +kernel
theorem dX9_name_59 : decode cX9_name 59 = .ok (.aload_n 0, 1) := by decide +kernel
theorem dX9_name_60 : decode cX9_name 60 = .ok (.getfield 221, 3) := by decide +kernel
theorem dX9_name_63 : decode cX9_name 63 = .ok (.iconst 1, 1) := by decide +kernel
theorem dX9_name_64 : decode cX9_name 64 = .ok (.isub, 1) := by decide +kernel
theorem dX9_name_65 : decode cX9_name 65 = .ok (.istore 4, 2) := by decide +kernel
theorem dX9_name_67 : decode cX9_name 67 = .ok (.iload 4, 2) := by decide +kernel
theorem dX9_name_69 : decode cX9_name 69 = .ok (.ifCond .lt 31, 3) := by decide +kernel
theorem dX9_name_72 : decode cX9_name 72 = .ok (.aload_n 0, 1) := by decide +kernel
theorem dX9_name_73 : decode cX9_name 73 = .ok (.getfield 48, 3) := by decide +kernel
theorem dX9_name_76 : decode cX9_name 76 = .ok (.iload 4, 2) := by decide +kernel
theorem dX9_name_78 : decode cX9_name 78 = .ok (.lload_n 2, 1) := by decide +kernel
theorem dX9_name_79 : decode cX9_name 79 = .ok (.ldc2_w 128, 3) := by decide +kernel
theorem dX9_name_82 : decode cX9_name 82 = .ok (.lrem, 1) := by decide +kernel
theorem dX9_name_83 : decode cX9_name 83 = .ok (.l2i, 1) := by decide +kernel
theorem dX9_name_84 : decode cX9_name 84 = .ok (.bipush 96, 2) := by decide +kernel
theorem dX9_name_86 : decode cX9_name 86 = .ok (.iadd, 1) := by decide +kernel
theorem dX9_name_87 : decode cX9_name 87 = .ok (.iastore, 1) := by decide +kernel
theorem dX9_name_88 : decode cX9_name 88 = .ok (.lload_n 2, 1) := by decide +kernel
theorem dX9_name_89 : decode cX9_name 89 = .ok (.ldc2_w 128, 3) := by decide +kernel
theorem dX9_name_92 : decode cX9_name 92 = .ok (.ldiv, 1) := by decide +kernel
theorem dX9_name_93 : decode cX9_name 93 = .ok (.lstore_n 2, 1) := by decide +kernel
theorem dX9_name_94 : decode cX9_name 94 = .ok (.iinc 4 (-1), 3) := by decide +kernel
theorem dX9_name_97 : decode cX9_name 97 = .ok (.goto (-30), 3) := by decide +kernel
theorem dX9_name_100 : decode cX9_name 100 = .ok (.aload_n 0, 1) := by decide +kernel
theorem dX9_name_101 : decode cX9_name 101 = .ok (.getfield 221, 3) := by decide +kernel
theorem dX9_name_104 : decode cX9_name 104 = .ok (.ireturn, 1) := by decide +kernel
theorem dX9_octet_0 : decode cX9_octet 0 = .ok (.iload_n 1, 1) := by decide +kernel
theorem dX9_octet_1 : decode cX9_octet 1 = .ok (.ifCond .lt 11, 3) := by decide +kernel
theorem dX9_octet_4 : decode cX9_octet 4 = .ok (.iload_n 1, 1) := by decide +kernel
theorem dX9_octet_5 : decode cX9_octet 5 = .ok (.aload_n 0, 1) := by decide +kernel
theorem dX9_octet_6 : decode cX9_octet 6 = .ok (.getfield 221, 3) := by decide +kernel
theorem dX9_octet_9 : decode cX9_octet 9 = .ok (.if_icmp .lt 8, 3) := by decide +kernel
theorem dX9_octet_12 : decode cX9_octet 12 = .ok (.aload_n 0, 1) := by decide +kernel
theorem dX9_octet_13 : decode cX9_octet 13 = .ok (.invokevirtual 217, 3) := by decide +kernel
theorem dX9_octet_16 : decode cX9_octet 16 = .ok (.ireturn, 1) := by decide +kernel
theorem dX9_octet_17 : decode cX9_octet 17 = .ok (.aload_n 0, 1) := by decide +kernel
theorem dX9_octet_18 : decode cX9_octet 18 = .ok (.iconst 0, 1) := by decide +kernel
theorem dX9_octet_19 : decode cX9_octet 19 = .ok (.putfield 87, 3) := by decide +kernel
theorem dX9_octet_22 : decode cX9_octet 22 = .ok (.aload_n 0, 1) := by decide +kernel
theorem dX9_octet_23 : decode cX9_octet 23 = .ok (.getfield 48, 3) := by decide +kernel
theorem dX9_octet_26 : decode cX9_octet 26 = .ok (.iload_n 1, 1) := by decide +kernel
theorem dX9_octet_27 : decode cX9_octet 27 = .ok (.iaload, 1) := by decide +kernel
theorem dX9_octet_28 : decode cX9_octet 28 = .ok (.ireturn, 1) := by decide +kernel
theorem dX9_isIn_0 : decode cX9_isIn 0 = .ok (.iload_n 0, 1) := by decide +kernel
theorem dX9_isIn_1 : decode cX9_isIn 1 = .ok (.ifCond .lt 12, 3) := by decide +kernel
theorem dX9_isIn_4 : decode cX9_isIn 4 = .ok (.iload_n 0, 1) := by decide +kernel
theorem dX9_isIn_5 : decode cX9_isIn 5 = .ok (.iload_n 1, 1) := by decide +kernel
theorem dX9_isIn_6 : decode cX9_isIn 6 = .ok (.if_icmp .ge 7, 3) := by decide +kernel
theorem dX9_isIn_9 : decode cX9_isIn 9 = .ok (.iconst 1, 1) := by decide +kernel
theorem dX9_isIn_10 : decode cX9_isIn 10 = .ok (.goto 4, 3) := by decide +kernel
theorem dX9_isIn_13 : decode cX9_isIn 13 = .ok (.iconst 0, 1) := by decide +kernel
theorem dX9_isIn_14 : decode cX9_isIn 14 = .ok (.ireturn, 1) := by decide +kernel
theorem dX9_cell_0 : decode cX9_cell 0 = .ok (.iconst 4, 1) := by decide +kernel
theorem dX9_cell_1 : decode cX9_cell 1 = .ok (.iload_n 0, 1) := by decide +kernel
theorem dX9_cell_2 : decode cX9_cell 2 = .ok (.imul, 1) := by decide +kernel
theorem dX9_cell_3 : decode cX9_cell 3 = .ok (.iload_n 1, 1) := by decide +kernel
theorem dX9_cell_4 : decode cX9_cell 4 = .ok (.iadd, 1) := by decide +kernel
theorem dX9_cell_5 : decode cX9_cell 5 = .ok (.bipush 24, 2) := by decide +kernel
theorem dX9_cell_7 : decode cX9_cell 7 = .ok (.imul, 1) := by decide +kernel
theorem dX9_cell_8 : decode cX9_cell 8 = .ok (.iload_n 2, 1) := by decide +kernel
theorem dX9_cell_9 : decode cX9_cell 9 = .ok (.iadd, 1) := by decide +kernel
theorem dX9_cell_10 : decode cX9_cell 10 = .ok (.ireturn, 1) := by decide +kernel
theorem dX9_uses_0 : decode cX9_uses 0 = .ok (.aload_n 0, 1) := by decide +kernel
theorem dX9_uses_1 : decode cX9_uses 1 = .ok (.iconst 0, 1) := by decide +kernel
theorem dX9_uses_2 : decode cX9_uses 2 = .ok (.putfield 87, 3) := by decide +kernel
theorem dX9_uses_5 : decode cX9_uses 5 = .ok (.aload_n 0, 1) := by decide +kernel
theorem dX9_uses_6 : decode cX9_uses 6 = .ok (.getfield 91, 3) := by decide +kernel
theorem dX9_uses_9 : decode cX9_uses 9 = .ok (.istore 4, 2) := by decide +kernel
theorem dX9_uses_11 : decode cX9_uses 11 = .ok (.aload_n 0, 1) := by decide +kernel
theorem dX9_uses_12 : decode cX9_uses 12 = .ok (.iconst 0, 1) := by decide +kernel
theorem dX9_uses_13 : decode cX9_uses 13 = .ok (.putfield 91, 3) := by decide +kernel
theorem dX9_uses_16 : decode cX9_uses 16 = .ok (.iload_n 1, 1) := by decide +kernel
theorem dX9_uses_17 : decode cX9_uses 17 = .ok (.iconst 4, 1) := by decide +kernel
theorem dX9_uses_18 : decode cX9_uses 18 = .ok (.invokestatic 224, 3) := by decide +kernel
theorem dX9_uses_21 : decode cX9_uses 21 = .ok (.ifCond .eq 38, 3) := by decide +kernel
theorem dX9_uses_24 : decode cX9_uses 24 = .ok (.iload_n 2, 1) := by decide +kernel
theorem dX9_uses_25 : decode cX9_uses 25 = .ok (.iconst 4, 1) := by decide +kernel
theorem dX9_uses_26 : decode cX9_uses 26 = .ok (.invokestatic 224, 3) := by decide +kernel
theorem dX9_uses_29 : decode cX9_uses 29 = .ok (.ifCond .eq 30, 3) := by decide +kernel
theorem dX9_uses_32 : decode cX9_uses 32 = .ok (.iload_n 3, 1) := by decide +kernel
theorem dX9_uses_33 : decode cX9_uses 33 = .ok (.bipush 24, 2) := by decide +kernel
theorem dX9_uses_35 : decode cX9_uses 35 = .ok (.invokestatic 224, 3) := by decide +kernel
theorem dX9_uses_38 : decode cX9_uses 38 = .ok (.ifCond .eq 21, 3) := by decide +kernel
theorem dX9_uses_41 : decode cX9_uses 41 = .ok (.iload 4, 2) := by decide +kernel
theorem dX9_uses_43 : decode cX9_uses 43 = .ok (.iconst 2, 1) := by decide +kernel
theorem dX9_uses_44 : decode cX9_uses 44 = .ok (.irem, 1) := by decide +kernel
theorem dX9_uses_45 : decode cX9_uses 45 = .ok (.ifCond .ne 14, 3) := by decide +kernel
theorem dX9_uses_48 : decode cX9_uses 48 = .ok (.iload_n 3, 1) := by decide +kernel
theorem dX9_uses_49 : decode cX9_uses 49 = .ok (.iload 4, 2) := by decide +kernel
theorem dX9_uses_51 : decode cX9_uses 51 = .ok (.iconst 2, 1) := by decide +kernel
theorem dX9_uses_52 : decode cX9_uses 52 = .ok (.idiv, 1) := by decide +kernel
theorem dX9_uses_53 : decode cX9_uses 53 = .ok (.iadd, 1) := by decide +kernel
theorem dX9_uses_54 : decode cX9_uses 54 = .ok (.bipush 24, 2) := by decide +kernel
theorem dX9_uses_56 : decode cX9_uses 56 = .ok (.if_icmp .le 5, 3) := by decide +kernel
theorem dX9_uses_59 : decode cX9_uses 59 = .ok (.iconst (-1), 1) := by decide +kernel
theorem dX9_uses_60 : decode cX9_uses 60 = .ok (.ireturn, 1) := by decide +kernel
theorem dX9_uses_61 : decode cX9_uses 61 = .ok (.iconst 0, 1) := by decide +kernel
theorem dX9_uses_62 : decode cX9_uses 62 = .ok (.istore 5, 2) := by decide +kernel
theorem dX9_uses_64 : decode cX9_uses 64 = .ok (.iload 5, 2) := by decide +kernel
theorem dX9_uses_66 : decode cX9_uses 66 = .ok (.iload 4, 2) := by decide +kernel
theorem dX9_uses_68 : decode cX9_uses 68 = .ok (.if_icmp .ge 38, 3) := by decide +kernel
theorem dX9_uses_71 : decode cX9_uses 71 = .ok (.sipush 256, 3) := by decide +kernel
theorem dX9_uses_74 : decode cX9_uses 74 = .ok (.aload_n 0, 1) := by decide +kernel
theorem dX9_uses_75 : decode cX9_uses 75 = .ok (.getfield 7, 3) := by decide +kernel
theorem dX9_uses_78 : decode cX9_uses 78 = .ok (.iload 5, 2) := by decide +kernel
theorem dX9_uses_80 : decode cX9_uses 80 = .ok (.iaload, 1) := by decide +kernel
theorem dX9_uses_81 : decode cX9_uses 81 = .ok (.imul, 1) := by decide +kernel
theorem dX9_uses_82 : decode cX9_uses 82 = .ok (.aload_n 0, 1) := by decide +kernel
theorem dX9_uses_83 : decode cX9_uses 83 = .ok (.getfield 7, 3) := by decide +kernel
theorem dX9_uses_86 : decode cX9_uses 86 = .ok (.iload 5, 2) := by decide +kernel
theorem dX9_uses_88 : decode cX9_uses 88 = .ok (.iconst 1, 1) := by decide +kernel
theorem dX9_uses_89 : decode cX9_uses 89 = .ok (.iadd, 1) := by decide +kernel
theorem dX9_uses_90 : decode cX9_uses 90 = .ok (.iaload, 1) := by decide +kernel
theorem dX9_uses_91 : decode cX9_uses 91 = .ok (.iadd, 1) := by decide +kernel
theorem dX9_uses_92 : decode cX9_uses 92 = .ok (.sipush 20000, 3) := by decide +kernel
theorem dX9_uses_95 : decode cX9_uses 95 = .ok (.if_icmp .le 5, 3) := by decide +kernel
theorem dX9_uses_98 : decode cX9_uses 98 = .ok (.iconst (-1), 1) := by decide +kernel
theorem dX9_uses_99 : decode cX9_uses 99 = .ok (.ireturn, 1) := by decide +kernel
theorem dX9_uses_100 : decode cX9_uses 100 = .ok (.iinc 5 2, 3) := by decide +kernel
theorem dX9_uses_103 : decode cX9_uses 103 = .ok (.goto (-39), 3) := by decide +kernel
theorem dX9_uses_106 : decode cX9_uses 106 = .ok (.iconst 0, 1) := by decide +kernel
theorem dX9_uses_107 : decode cX9_uses 107 = .ok (.istore 5, 2) := by decide +kernel
theorem dX9_uses_109 : decode cX9_uses 109 = .ok (.iload 5, 2) := by decide +kernel
theorem dX9_uses_111 : decode cX9_uses 111 = .ok (.iload 4, 2) := by decide +kernel
theorem dX9_uses_113 : decode cX9_uses 113 = .ok (.if_icmp .ge 46, 3) := by decide +kernel
theorem dX9_uses_116 : decode cX9_uses 116 = .ok (.aload_n 0, 1) := by decide +kernel
theorem dX9_uses_117 : decode cX9_uses 117 = .ok (.getfield 51, 3) := by decide +kernel
theorem dX9_uses_120 : decode cX9_uses 120 = .ok (.iload_n 1, 1) := by decide +kernel
theorem dX9_uses_121 : decode cX9_uses 121 = .ok (.iload_n 2, 1) := by decide +kernel
theorem dX9_uses_122 : decode cX9_uses 122 = .ok (.iload_n 3, 1) := by decide +kernel
theorem dX9_uses_123 : decode cX9_uses 123 = .ok (.iload 5, 2) := by decide +kernel
theorem dX9_uses_125 : decode cX9_uses 125 = .ok (.iconst 2, 1) := by decide +kernel
theorem dX9_uses_126 : decode cX9_uses 126 = .ok (.idiv, 1) := by decide +kernel
theorem dX9_uses_127 : decode cX9_uses 127 = .ok (.iadd, 1) := by decide +kernel
theorem dX9_uses_128 : decode cX9_uses 128 = .ok (.invokestatic 227, 3) := by decide +kernel
theorem dX9_uses_131 : decode cX9_uses 131 = .ok (.sipush 256, 3) := by decide +kernel
theorem dX9_uses_134 : decode cX9_uses 134 = .ok (.aload_n 0, 1) := by decide +kernel
theorem dX9_uses_135 : decode cX9_uses 135 = .ok (.getfield 7, 3) := by decide +kernel
theorem dX9_uses_138 : decode cX9_uses 138 = .ok (.iload 5, 2) := by decide +kernel
theorem dX9_uses_140 : decode cX9_uses 140 = .ok (.iaload, 1) := by decide +kernel
theorem dX9_uses_141 : decode cX9_uses 141 = .ok (.imul, 1) := by decide +kernel
theorem dX9_uses_142 : decode cX9_uses 142 = .ok (.aload_n 0, 1) := by decide +kernel
theorem dX9_uses_143 : decode cX9_uses 143 = .ok (.getfield 7, 3) := by decide +kernel
theorem dX9_uses_146 : decode cX9_uses 146 = .ok (.iload 5, 2) := by decide +kernel
theorem dX9_uses_148 : decode cX9_uses 148 = .ok (.iconst 1, 1) := by decide +kernel
theorem dX9_uses_149 : decode cX9_uses 149 = .ok (.iadd, 1) := by decide +kernel
theorem dX9_uses_150 : decode cX9_uses 150 = .ok (.iaload, 1) := by decide +kernel
theorem dX9_uses_151 : decode cX9_uses 151 = .ok (.iadd, 1) := by decide +kernel
theorem dX9_uses_152 : decode cX9_uses 152 = .ok (.iastore, 1) := by decide +kernel
theorem dX9_uses_153 : decode cX9_uses 153 = .ok (.iinc 5 2, 3) := by decide +kernel
theorem dX9_uses_156 : decode cX9_uses 156 = .ok (.goto (-47), 3) := by decide +kernel
theorem dX9_uses_159 : decode cX9_uses 159 = .ok (.iload 4, 2) := by decide +kernel
theorem dX9_uses_161 : decode cX9_uses 161 = .ok (.iconst 2, 1) := by decide +kernel
theorem dX9_uses_162 : decode cX9_uses 162 = .ok (.idiv, 1) := by decide +kernel
theorem dX9_uses_163 : decode cX9_uses 163 = .ok (.ireturn, 1) := by decide +kernel
theorem dX9_use_0 : decode cX9_use 0 = .ok (.aload_n 0, 1) := by decide +kernel
theorem dX9_use_1 : decode cX9_use 1 = .ok (.iconst 0, 1) := by decide +kernel
theorem dX9_use_2 : decode cX9_use 2 = .ok (.putfield 87, 3) := by decide +kernel
theorem dX9_use_5 : decode cX9_use 5 = .ok (.iload_n 1, 1) := by decide +kernel
theorem dX9_use_6 : decode cX9_use 6 = .ok (.iconst 4, 1) := by decide +kernel
theorem dX9_use_7 : decode cX9_use 7 = .ok (.invokestatic 224, 3) := by decide +kernel
theorem dX9_use_10 : decode cX9_use 10 = .ok (.ifCond .eq 34, 3) := by decide +kernel
theorem dX9_use_13 : decode cX9_use 13 = .ok (.iload_n 2, 1) := by decide +kernel
theorem dX9_use_14 : decode cX9_use 14 = .ok (.iconst 4, 1) := by decide +kernel
theorem dX9_use_15 : decode cX9_use 15 = .ok (.invokestatic 224, 3) := by decide +kernel
theorem dX9_use_18 : decode cX9_use 18 = .ok (.ifCond .eq 26, 3) := by decide +kernel
theorem dX9_use_21 : decode cX9_use 21 = .ok (.iload_n 3, 1) := by decide +kernel
theorem dX9_use_22 : decode cX9_use 22 = .ok (.bipush 24, 2) := by decide +kernel
theorem dX9_use_24 : decode cX9_use 24 = .ok (.invokestatic 224, 3) := by decide +kernel
theorem dX9_use_27 : decode cX9_use 27 = .ok (.ifCond .eq 17, 3) := by decide +kernel
theorem dX9_use_30 : decode cX9_use 30 = .ok (.aload_n 0, 1) := by decide +kernel
theorem dX9_use_31 : decode cX9_use 31 = .ok (.getfield 51, 3) := by decide +kernel
theorem dX9_use_34 : decode cX9_use 34 = .ok (.iload_n 1, 1) := by decide +kernel
theorem dX9_use_35 : decode cX9_use 35 = .ok (.iload_n 2, 1) := by decide +kernel
theorem dX9_use_36 : decode cX9_use 36 = .ok (.iload_n 3, 1) := by decide +kernel
theorem dX9_use_37 : decode cX9_use 37 = .ok (.invokestatic 227, 3) := by decide +kernel
theorem dX9_use_40 : decode cX9_use 40 = .ok (.iaload, 1) := by decide +kernel
theorem dX9_use_41 : decode cX9_use 41 = .ok (.goto 4, 3) := by decide +kernel
theorem dX9_use_44 : decode cX9_use 44 = .ok (.iconst (-1), 1) := by decide +kernel
theorem dX9_use_45 : decode cX9_use 45 = .ok (.ireturn, 1) := by decide +kernel
theorem dX9_change_0 : decode cX9_change 0 = .ok (.aload_n 0, 1) := by decide +kernel
theorem dX9_change_1 : decode cX9_change 1 = .ok (.iconst 0, 1) := by decide +kernel
theorem dX9_change_2 : decode cX9_change 2 = .ok (.putfield 87, 3) := by decide +kernel
theorem dX9_change_5 : decode cX9_change 5 = .ok (.iload_n 1, 1) := by decide +kernel
theorem dX9_change_6 : decode cX9_change 6 = .ok (.ifCond .lt 9, 3) := by decide +kernel
theorem dX9_change_9 : decode cX9_change 9 = .ok (.iload_n 1, 1) := by decide +kernel
theorem dX9_change_10 : decode cX9_change 10 = .ok (.ldc 231, 2) := by decide +kernel
theorem dX9_change_12 : decode cX9_change 12 = .ok (.if_icmp .le 5, 3) := by decide +kernel
theorem dX9_change_15 : decode cX9_change 15 = .ok (.iconst 0, 1) := by decide +kernel
theorem dX9_change_16 : decode cX9_change 16 = .ok (.ireturn, 1) := by decide +kernel
theorem dX9_change_17 : decode cX9_change 17 = .ok (.aload_n 0, 1) := by decide +kernel
theorem dX9_change_18 : decode cX9_change 18 = .ok (.iload_n 1, 1) := by decide +kernel
theorem dX9_change_19 : decode cX9_change 19 = .ok (.putfield 232, 3) := by decide +kernel
theorem dX9_change_22 : decode cX9_change 22 = .ok (.iconst 1, 1) := by decide +kernel
theorem dX9_change_23 : decode cX9_change 23 = .ok (.ireturn, 1) := by decide +kernel
theorem dX9_together_0 : decode cX9_together 0 = .ok (.iconst 0, 1) := by decide +kernel
theorem dX9_together_1 : decode cX9_together 1 = .ok (.istore 4, 2) := by decide +kernel
theorem dX9_together_3 : decode cX9_together 3 = .ok (.iconst 0, 1) := by decide +kernel
theorem dX9_together_4 : decode cX9_together 4 = .ok (.istore 5, 2) := by decide +kernel
theorem dX9_together_6 : decode cX9_together 6 = .ok (.iload 5, 2) := by decide +kernel
theorem dX9_together_8 : decode cX9_together 8 = .ok (.iconst 4, 1) := by decide +kernel
theorem dX9_together_9 : decode cX9_together 9 = .ok (.if_icmp .ge 36, 3) := by decide +kernel
theorem dX9_together_12 : decode cX9_together 12 = .ok (.iload_n 1, 1) := by decide +kernel
theorem dX9_together_13 : decode cX9_together 13 = .ok (.iload 5, 2) := by decide +kernel
theorem dX9_together_15 : decode cX9_together 15 = .ok (.ishr, 1) := by decide +kernel
theorem dX9_together_16 : decode cX9_together 16 = .ok (.iconst 1, 1) := by decide +kernel
theorem dX9_together_17 : decode cX9_together 17 = .ok (.iand, 1) := by decide +kernel
theorem dX9_together_18 : decode cX9_together 18 = .ok (.iconst 1, 1) := by decide +kernel
theorem dX9_together_19 : decode cX9_together 19 = .ok (.if_icmp .ne 20, 3) := by decide +kernel
theorem dX9_together_22 : decode cX9_together 22 = .ok (.iload 4, 2) := by decide +kernel
theorem dX9_together_24 : decode cX9_together 24 = .ok (.aload_n 0, 1) := by decide +kernel
theorem dX9_together_25 : decode cX9_together 25 = .ok (.getfield 51, 3) := by decide +kernel
theorem dX9_together_28 : decode cX9_together 28 = .ok (.iload 5, 2) := by decide +kernel
theorem dX9_together_30 : decode cX9_together 30 = .ok (.iload_n 2, 1) := by decide +kernel
theorem dX9_together_31 : decode cX9_together 31 = .ok (.iload_n 3, 1) := by decide +kernel
theorem dX9_together_32 : decode cX9_together 32 = .ok (.invokestatic 227, 3) := by decide +kernel
theorem dX9_together_35 : decode cX9_together 35 = .ok (.iaload, 1) := by decide +kernel
theorem dX9_together_36 : decode cX9_together 36 = .ok (.iadd, 1) := by decide +kernel
theorem dX9_together_37 : decode cX9_together 37 = .ok (.istore 4, 2) := by decide +kernel
theorem dX9_together_39 : decode cX9_together 39 = .ok (.iinc 5 1, 3) := by decide +kernel
theorem dX9_together_42 : decode cX9_together 42 = .ok (.goto (-36), 3) := by decide +kernel
theorem dX9_together_45 : decode cX9_together 45 = .ok (.iload 4, 2) := by decide +kernel
theorem dX9_together_47 : decode cX9_together 47 = .ok (.ireturn, 1) := by decide +kernel
theorem dX9_partCost_0 : decode cX9_partCost 0 = .ok (.iload_n 2, 1) := by decide +kernel
theorem dX9_partCost_1 : decode cX9_partCost 1 = .ok (.aload_n 0, 1) := by decide +kernel
theorem dX9_partCost_2 : decode cX9_partCost 2 = .ok (.getfield 33, 3) := by decide +kernel
theorem dX9_partCost_5 : decode cX9_partCost 5 = .ok (.iload_n 1, 1) := by decide +kernel
theorem dX9_partCost_6 : decode cX9_partCost 6 = .ok (.iaload, 1) := by decide +kernel
theorem dX9_partCost_7 : decode cX9_partCost 7 = .ok (.isub, 1) := by decide +kernel
theorem dX9_partCost_8 : decode cX9_partCost 8 = .ok (.istore_n 3, 1) := by decide +kernel
theorem dX9_partCost_9 : decode cX9_partCost 9 = .ok (.iload_n 3, 1) := by decide +kernel
theorem dX9_partCost_10 : decode cX9_partCost 10 = .ok (.ifCond .gt 5, 3) := by decide +kernel
theorem dX9_partCost_13 : decode cX9_partCost 13 = .ok (.lconst 0, 1) := by decide +kernel
theorem dX9_partCost_14 : decode cX9_partCost 14 = .ok (.lreturn, 1) := by decide +kernel
theorem dX9_partCost_15 : decode cX9_partCost 15 = .ok (.lconst 0, 1) := by decide +kernel
theorem dX9_partCost_16 : decode cX9_partCost 16 = .ok (.lstore 4, 2) := by decide +kernel
theorem dX9_partCost_18 : decode cX9_partCost 18 = .ok (.iconst 0, 1) := by decide +kernel
theorem dX9_partCost_19 : decode cX9_partCost 19 = .ok (.istore 6, 2) := by decide +kernel
theorem dX9_partCost_21 : decode cX9_partCost 21 = .ok (.iconst 0, 1) := by decide +kernel
theorem dX9_partCost_22 : decode cX9_partCost 22 = .ok (.istore 7, 2) := by decide +kernel
theorem dX9_partCost_24 : decode cX9_partCost 24 = .ok (.iload 7, 2) := by decide +kernel
theorem dX9_partCost_26 : decode cX9_partCost 26 = .ok (.aload_n 0, 1) := by decide +kernel
theorem dX9_partCost_27 : decode cX9_partCost 27 = .ok (.getfield 36, 3) := by decide +kernel
theorem dX9_partCost_30 : decode cX9_partCost 30 = .ok (.iload_n 1, 1) := by decide +kernel
theorem dX9_partCost_31 : decode cX9_partCost 31 = .ok (.iaload, 1) := by decide +kernel
theorem dX9_partCost_32 : decode cX9_partCost 32 = .ok (.if_icmp .ge 82, 3) := by decide +kernel
theorem dX9_partCost_35 : decode cX9_partCost 35 = .ok (.iload_n 3, 1) := by decide +kernel
theorem dX9_partCost_36 : decode cX9_partCost 36 = .ok (.ifCond .le 78, 3) := by decide +kernel
theorem dX9_partCost_39 : decode cX9_partCost 39 = .ok (.aload_n 0, 1) := by decide +kernel
theorem dX9_partCost_40 : decode cX9_partCost 40 = .ok (.getfield 39, 3) := by decide +kernel
theorem dX9_partCost_43 : decode cX9_partCost 43 = .ok (.iconst 3, 1) := by decide +kernel
theorem dX9_partCost_44 : decode cX9_partCost 44 = .ok (.iload_n 1, 1) := by decide +kernel
theorem dX9_partCost_45 : decode cX9_partCost 45 = .ok (.imul, 1) := by decide +kernel
theorem dX9_partCost_46 : decode cX9_partCost 46 = .ok (.iload 7, 2) := by decide +kernel
theorem dX9_partCost_48 : decode cX9_partCost 48 = .ok (.iadd, 1) := by decide +kernel
theorem dX9_partCost_49 : decode cX9_partCost 49 = .ok (.iaload, 1) := by decide +kernel
theorem dX9_partCost_50 : decode cX9_partCost 50 = .ok (.iload 6, 2) := by decide +kernel
theorem dX9_partCost_52 : decode cX9_partCost 52 = .ok (.isub, 1) := by decide +kernel
theorem dX9_partCost_53 : decode cX9_partCost 53 = .ok (.istore 8, 2) := by decide +kernel
theorem dX9_partCost_55 : decode cX9_partCost 55 = .ok (.iload_n 3, 1) := by decide +kernel
theorem dX9_partCost_56 : decode cX9_partCost 56 = .ok (.iload 8, 2) := by decide +kernel
theorem dX9_partCost_58 : decode cX9_partCost 58 = .ok (.if_icmp .ge 7, 3) := by decide +kernel
theorem dX9_partCost_61 : decode cX9_partCost 61 = .ok (.iload_n 3, 1) := by decide +kernel
theorem dX9_partCost_62 : decode cX9_partCost 62 = .ok (.goto 5, 3) := by decide +kernel
theorem dX9_partCost_65 : decode cX9_partCost 65 = .ok (.iload 8, 2) := by decide +kernel
theorem dX9_partCost_67 : decode cX9_partCost 67 = .ok (.istore 9, 2) := by decide +kernel
theorem dX9_partCost_69 : decode cX9_partCost 69 = .ok (.lload 4, 2) := by decide +kernel
theorem dX9_partCost_71 : decode cX9_partCost 71 = .ok (.iload 9, 2) := by decide +kernel
theorem dX9_partCost_73 : decode cX9_partCost 73 = .ok (.i2l, 1) := by decide +kernel
theorem dX9_partCost_74 : decode cX9_partCost 74 = .ok (.aload_n 0, 1) := by decide +kernel
theorem dX9_partCost_75 : decode cX9_partCost 75 = .ok (.getfield 42, 3) := by decide +kernel
theorem dX9_partCost_78 : decode cX9_partCost 78 = .ok (.iconst 3, 1) := by decide +kernel
theorem dX9_partCost_79 : decode cX9_partCost 79 = .ok (.iload_n 1, 1) := by decide +kernel
theorem dX9_partCost_80 : decode cX9_partCost 80 = .ok (.imul, 1) := by decide +kernel
theorem dX9_partCost_81 : decode cX9_partCost 81 = .ok (.iload 7, 2) := by decide +kernel
theorem dX9_partCost_83 : decode cX9_partCost 83 = .ok (.iadd, 1) := by decide +kernel
theorem dX9_partCost_84 : decode cX9_partCost 84 = .ok (.iaload, 1) := by decide +kernel
theorem dX9_partCost_85 : decode cX9_partCost 85 = .ok (.i2l, 1) := by decide +kernel
theorem dX9_partCost_86 : decode cX9_partCost 86 = .ok (.lmul, 1) := by decide +kernel
theorem dX9_partCost_87 : decode cX9_partCost 87 = .ok (.ladd, 1) := by decide +kernel
theorem dX9_partCost_88 : decode cX9_partCost 88 = .ok (.lstore 4, 2) := by decide +kernel
theorem dX9_partCost_90 : decode cX9_partCost 90 = .ok (.iload_n 3, 1) := by decide +kernel
theorem dX9_partCost_91 : decode cX9_partCost 91 = .ok (.iload 9, 2) := by decide +kernel
theorem dX9_partCost_93 : decode cX9_partCost 93 = .ok (.isub, 1) := by decide +kernel
theorem dX9_partCost_94 : decode cX9_partCost 94 = .ok (.istore_n 3, 1) := by decide +kernel
theorem dX9_partCost_95 : decode cX9_partCost 95 = .ok (.aload_n 0, 1) := by decide +kernel
theorem dX9_partCost_96 : decode cX9_partCost 96 = .ok (.getfield 39, 3) := by decide +kernel
theorem dX9_partCost_99 : decode cX9_partCost 99 = .ok (.iconst 3, 1) := by decide +kernel
theorem dX9_partCost_100 : decode cX9_partCost 100 = .ok (.iload_n 1, 1) := by decide +kernel
theorem dX9_partCost_101 : decode cX9_partCost 101 = .ok (.imul, 1) := by decide +kernel
theorem dX9_partCost_102 : decode cX9_partCost 102 = .ok (.iload 7, 2) := by decide +kernel
theorem dX9_partCost_104 : decode cX9_partCost 104 = .ok (.iadd, 1) := by decide +kernel
theorem dX9_partCost_105 : decode cX9_partCost 105 = .ok (.iaload, 1) := by decide +kernel
theorem dX9_partCost_106 : decode cX9_partCost 106 = .ok (.istore 6, 2) := by decide +kernel
theorem dX9_partCost_108 : decode cX9_partCost 108 = .ok (.iinc 7 1, 3) := by decide +kernel
theorem dX9_partCost_111 : decode cX9_partCost 111 = .ok (.goto (-87), 3) := by decide +kernel
theorem dX9_partCost_114 : decode cX9_partCost 114 = .ok (.lload 4, 2) := by decide +kernel
theorem dX9_partCost_116 : decode cX9_partCost 116 = .ok (.iload_n 3, 1) := by decide +kernel
theorem dX9_partCost_117 : decode cX9_partCost 117 = .ok (.i2l, 1) := by decide +kernel
theorem dX9_partCost_118 : decode cX9_partCost 118 = .ok (.aload_n 0, 1) := by decide +kernel
theorem dX9_partCost_119 : decode cX9_partCost 119 = .ok (.getfield 45, 3) := by decide +kernel
theorem dX9_partCost_122 : decode cX9_partCost 122 = .ok (.iload_n 1, 1) := by decide +kernel
theorem dX9_partCost_123 : decode cX9_partCost 123 = .ok (.iaload, 1) := by decide +kernel
theorem dX9_partCost_124 : decode cX9_partCost 124 = .ok (.i2l, 1) := by decide +kernel
theorem dX9_partCost_125 : decode cX9_partCost 125 = .ok (.lmul, 1) := by decide +kernel
theorem dX9_partCost_126 : decode cX9_partCost 126 = .ok (.ladd, 1) := by decide +kernel
theorem dX9_partCost_127 : decode cX9_partCost 127 = .ok (.lreturn, 1) := by decide +kernel
theorem dX9_mayHave_0 : decode cX9_mayHave 0 = .ok (.iconst 0, 1) := by decide +kernel
theorem dX9_mayHave_1 : decode cX9_mayHave 1 = .ok (.istore 4, 2) := by decide +kernel
theorem dX9_mayHave_3 : decode cX9_mayHave 3 = .ok (.iload 4, 2) := by decide +kernel
theorem dX9_mayHave_5 : decode cX9_mayHave 5 = .ok (.iconst 4, 1) := by decide +kernel
theorem dX9_mayHave_6 : decode cX9_mayHave 6 = .ok (.if_icmp .ge 36, 3) := by decide +kernel
theorem dX9_mayHave_9 : decode cX9_mayHave 9 = .ok (.aload_n 0, 1) := by decide +kernel
theorem dX9_mayHave_10 : decode cX9_mayHave 10 = .ok (.getfield 29, 3) := by decide +kernel
theorem dX9_mayHave_13 : decode cX9_mayHave 13 = .ok (.iconst 4, 1) := by decide +kernel
theorem dX9_mayHave_14 : decode cX9_mayHave 14 = .ok (.iload_n 1, 1) := by decide +kernel
theorem dX9_mayHave_15 : decode cX9_mayHave 15 = .ok (.imul, 1) := by decide +kernel
theorem dX9_mayHave_16 : decode cX9_mayHave 16 = .ok (.iload 4, 2) := by decide +kernel
theorem dX9_mayHave_18 : decode cX9_mayHave 18 = .ok (.iadd, 1) := by decide +kernel
theorem dX9_mayHave_19 : decode cX9_mayHave 19 = .ok (.baload, 1) := by decide +kernel
theorem dX9_mayHave_20 : decode cX9_mayHave 20 = .ok (.ifCond .ne 16, 3) := by decide +kernel
theorem dX9_mayHave_23 : decode cX9_mayHave 23 = .ok (.aload_n 0, 1) := by decide +kernel
theorem dX9_mayHave_24 : decode cX9_mayHave 24 = .ok (.iload_n 2, 1) := by decide +kernel
theorem dX9_mayHave_25 : decode cX9_mayHave 25 = .ok (.iload 4, 2) := by decide +kernel
theorem dX9_mayHave_27 : decode cX9_mayHave 27 = .ok (.iload_n 3, 1) := by decide +kernel
theorem dX9_mayHave_28 : decode cX9_mayHave 28 = .ok (.invokevirtual 235, 3) := by decide +kernel
theorem dX9_mayHave_31 : decode cX9_mayHave 31 = .ok (.ifCond .le 5, 3) := by decide +kernel
theorem dX9_mayHave_34 : decode cX9_mayHave 34 = .ok (.iconst 0, 1) := by decide +kernel
theorem dX9_mayHave_35 : decode cX9_mayHave 35 = .ok (.ireturn, 1) := by decide +kernel
theorem dX9_mayHave_36 : decode cX9_mayHave 36 = .ok (.iinc 4 1, 3) := by decide +kernel
theorem dX9_mayHave_39 : decode cX9_mayHave 39 = .ok (.goto (-36), 3) := by decide +kernel
theorem dX9_mayHave_42 : decode cX9_mayHave 42 = .ok (.iconst 1, 1) := by decide +kernel
theorem dX9_mayHave_43 : decode cX9_mayHave 43 = .ok (.ireturn, 1) := by decide +kernel
theorem dX9_serviceCost_0 : decode cX9_serviceCost 0 = .ok (.aload_n 0, 1) := by decide +kernel
theorem dX9_serviceCost_1 : decode cX9_serviceCost 1 = .ok (.getfield 29, 3) := by decide +kernel
theorem dX9_serviceCost_4 : decode cX9_serviceCost 4 = .ok (.iconst 4, 1) := by decide +kernel
theorem dX9_serviceCost_5 : decode cX9_serviceCost 5 = .ok (.iload_n 1, 1) := by decide +kernel
theorem dX9_serviceCost_6 : decode cX9_serviceCost 6 = .ok (.imul, 1) := by decide +kernel
theorem dX9_serviceCost_7 : decode cX9_serviceCost 7 = .ok (.iload_n 3, 1) := by decide +kernel
theorem dX9_serviceCost_8 : decode cX9_serviceCost 8 = .ok (.iadd, 1) := by decide +kernel
theorem dX9_serviceCost_9 : decode cX9_serviceCost 9 = .ok (.baload, 1) := by decide +kernel
theorem dX9_serviceCost_10 : decode cX9_serviceCost 10 = .ok (.ifCond .eq 23, 3) := by decide +kernel
theorem dX9_serviceCost_13 : decode cX9_serviceCost 13 = .ok (.aload_n 0, 1) := by decide +kernel
theorem dX9_serviceCost_14 : decode cX9_serviceCost 14 = .ok (.iconst 4, 1) := by decide +kernel
theorem dX9_serviceCost_15 : decode cX9_serviceCost 15 = .ok (.iload_n 1, 1) := by decide +kernel
theorem dX9_serviceCost_16 : decode cX9_serviceCost 16 = .ok (.imul, 1) := by decide +kernel
theorem dX9_serviceCost_17 : decode cX9_serviceCost 17 = .ok (.iload_n 3, 1) := by decide +kernel
theorem dX9_serviceCost_18 : decode cX9_serviceCost 18 = .ok (.iadd, 1) := by decide +kernel
theorem dX9_serviceCost_19 : decode cX9_serviceCost 19 = .ok (.aload_n 0, 1) := by decide +kernel
theorem dX9_serviceCost_20 : decode cX9_serviceCost 20 = .ok (.iload_n 2, 1) := by decide +kernel
theorem dX9_serviceCost_21 : decode cX9_serviceCost 21 = .ok (.iload_n 3, 1) := by decide +kernel
theorem dX9_serviceCost_22 : decode cX9_serviceCost 22 = .ok (.iload 4, 2) := by decide +kernel
theorem dX9_serviceCost_24 : decode cX9_serviceCost 24 = .ok (.invokevirtual 235, 3) := by decide +kernel
theorem dX9_serviceCost_27 : decode cX9_serviceCost 27 = .ok (.invokevirtual 238, 3) := by decide +kernel
theorem dX9_serviceCost_30 : decode cX9_serviceCost 30 = .ok (.goto 4, 3) := by decide +kernel
theorem dX9_serviceCost_33 : decode cX9_serviceCost 33 = .ok (.lconst 0, 1) := by decide +kernel
theorem dX9_serviceCost_34 : decode cX9_serviceCost 34 = .ok (.lreturn, 1) := by decide +kernel
theorem dX9_monthCost_0 : decode cX9_monthCost 0 = .ok (.aload_n 0, 1) := by decide +kernel
theorem dX9_monthCost_1 : decode cX9_monthCost 1 = .ok (.getfield 17, 3) := by decide +kernel
theorem dX9_monthCost_4 : decode cX9_monthCost 4 = .ok (.iload_n 1, 1) := by decide +kernel
theorem dX9_monthCost_5 : decode cX9_monthCost 5 = .ok (.iaload, 1) := by decide +kernel
theorem dX9_monthCost_6 : decode cX9_monthCost 6 = .ok (.i2l, 1) := by decide +kernel
theorem dX9_monthCost_7 : decode cX9_monthCost 7 = .ok (.lstore 4, 2) := by decide +kernel
theorem dX9_monthCost_9 : decode cX9_monthCost 9 = .ok (.iconst 0, 1) := by decide +kernel
theorem dX9_monthCost_10 : decode cX9_monthCost 10 = .ok (.istore 6, 2) := by decide +kernel
theorem dX9_monthCost_12 : decode cX9_monthCost 12 = .ok (.iload 6, 2) := by decide +kernel
theorem dX9_monthCost_14 : decode cX9_monthCost 14 = .ok (.iconst 4, 1) := by decide +kernel
theorem dX9_monthCost_15 : decode cX9_monthCost 15 = .ok (.if_icmp .ge 23, 3) := by decide +kernel
theorem dX9_monthCost_18 : decode cX9_monthCost 18 = .ok (.lload 4, 2) := by decide +kernel
theorem dX9_monthCost_20 : decode cX9_monthCost 20 = .ok (.aload_n 0, 1) := by decide +kernel
theorem dX9_monthCost_21 : decode cX9_monthCost 21 = .ok (.iload_n 1, 1) := by decide +kernel
theorem dX9_monthCost_22 : decode cX9_monthCost 22 = .ok (.iload_n 2, 1) := by decide +kernel
theorem dX9_monthCost_23 : decode cX9_monthCost 23 = .ok (.iload 6, 2) := by decide +kernel
theorem dX9_monthCost_25 : decode cX9_monthCost 25 = .ok (.iload_n 3, 1) := by decide +kernel
theorem dX9_monthCost_26 : decode cX9_monthCost 26 = .ok (.invokevirtual 242, 3) := by decide +kernel
theorem dX9_monthCost_29 : decode cX9_monthCost 29 = .ok (.ladd, 1) := by decide +kernel
theorem dX9_monthCost_30 : decode cX9_monthCost 30 = .ok (.lstore 4, 2) := by decide +kernel
theorem dX9_monthCost_32 : decode cX9_monthCost 32 = .ok (.iinc 6 1, 3) := by decide +kernel
theorem dX9_monthCost_35 : decode cX9_monthCost 35 = .ok (.goto (-23), 3) := by decide +kernel
theorem dX9_monthCost_38 : decode cX9_monthCost 38 = .ok (.lload 4, 2) := by decide +kernel
theorem dX9_monthCost_40 : decode cX9_monthCost 40 = .ok (.lreturn, 1) := by decide +kernel
theorem dX9_cost_0 : decode cX9_cost 0 = .ok (.aload_n 0, 1) := by decide +kernel
theorem dX9_cost_1 : decode cX9_cost 1 = .ok (.iload_n 1, 1) := by decide +kernel
theorem dX9_cost_2 : decode cX9_cost 2 = .ok (.invokevirtual 214, 3) := by decide +kernel
theorem dX9_cost_5 : decode cX9_cost 5 = .ok (.ifCond .eq 44, 3) := by decide +kernel
theorem dX9_cost_8 : decode cX9_cost 8 = .ok (.iload_n 2, 1) := by decide +kernel
theorem dX9_cost_9 : decode cX9_cost 9 = .ok (.iconst 1, 1) := by decide +kernel
theorem dX9_cost_10 : decode cX9_cost 10 = .ok (.if_icmp .lt 39, 3) := by decide +kernel
theorem dX9_cost_13 : decode cX9_cost 13 = .ok (.iload_n 2, 1) := by decide +kernel
theorem dX9_cost_14 : decode cX9_cost 14 = .ok (.bipush 15, 2) := by decide +kernel
theorem dX9_cost_16 : decode cX9_cost 16 = .ok (.if_icmp .gt 33, 3) := by decide +kernel
theorem dX9_cost_19 : decode cX9_cost 19 = .ok (.iload_n 3, 1) := by decide +kernel
theorem dX9_cost_20 : decode cX9_cost 20 = .ok (.bipush 24, 2) := by decide +kernel
theorem dX9_cost_22 : decode cX9_cost 22 = .ok (.invokestatic 224, 3) := by decide +kernel
theorem dX9_cost_25 : decode cX9_cost 25 = .ok (.ifCond .eq 24, 3) := by decide +kernel
theorem dX9_cost_28 : decode cX9_cost 28 = .ok (.iload 4, 2) := by decide +kernel
theorem dX9_cost_30 : decode cX9_cost 30 = .ok (.ifCond .lt 19, 3) := by decide +kernel
theorem dX9_cost_33 : decode cX9_cost 33 = .ok (.iload 4, 2) := by decide +kernel
theorem dX9_cost_35 : decode cX9_cost 35 = .ok (.iconst 5, 1) := by decide +kernel
theorem dX9_cost_36 : decode cX9_cost 36 = .ok (.if_icmp .gt 13, 3) := by decide +kernel
theorem dX9_cost_39 : decode cX9_cost 39 = .ok (.aload_n 0, 1) := by decide +kernel
theorem dX9_cost_40 : decode cX9_cost 40 = .ok (.iload_n 1, 1) := by decide +kernel
theorem dX9_cost_41 : decode cX9_cost 41 = .ok (.iload_n 2, 1) := by decide +kernel
theorem dX9_cost_42 : decode cX9_cost 42 = .ok (.iload_n 3, 1) := by decide +kernel
theorem dX9_cost_43 : decode cX9_cost 43 = .ok (.invokevirtual 246, 3) := by decide +kernel
theorem dX9_cost_46 : decode cX9_cost 46 = .ok (.ifCond .ne 9, 3) := by decide +kernel
theorem dX9_cost_49 : decode cX9_cost 49 = .ok (.aload_n 0, 1) := by decide +kernel
theorem dX9_cost_50 : decode cX9_cost 50 = .ok (.invokevirtual 217, 3) := by decide +kernel
theorem dX9_cost_53 : decode cX9_cost 53 = .ok (.i2l, 1) := by decide +kernel
theorem dX9_cost_54 : decode cX9_cost 54 = .ok (.lreturn, 1) := by decide +kernel
theorem dX9_cost_55 : decode cX9_cost 55 = .ok (.aload_n 0, 1) := by decide +kernel
theorem dX9_cost_56 : decode cX9_cost 56 = .ok (.iconst 0, 1) := by decide +kernel
theorem dX9_cost_57 : decode cX9_cost 57 = .ok (.putfield 87, 3) := by decide +kernel
theorem dX9_cost_60 : decode cX9_cost 60 = .ok (.iload 4, 2) := by decide +kernel
theorem dX9_cost_62 : decode cX9_cost 62 = .ok (.ifCond .ne 13, 3) := by decide +kernel
theorem dX9_cost_65 : decode cX9_cost 65 = .ok (.aload_n 0, 1) := by decide +kernel
theorem dX9_cost_66 : decode cX9_cost 66 = .ok (.iload_n 1, 1) := by decide +kernel
theorem dX9_cost_67 : decode cX9_cost 67 = .ok (.iload_n 2, 1) := by decide +kernel
theorem dX9_cost_68 : decode cX9_cost 68 = .ok (.iload_n 3, 1) := by decide +kernel
theorem dX9_cost_69 : decode cX9_cost 69 = .ok (.invokevirtual 250, 3) := by decide +kernel
theorem dX9_cost_72 : decode cX9_cost 72 = .ok (.goto 30, 3) := by decide +kernel
theorem dX9_cost_75 : decode cX9_cost 75 = .ok (.iload 4, 2) := by decide +kernel
theorem dX9_cost_77 : decode cX9_cost 77 = .ok (.iconst 1, 1) := by decide +kernel
theorem dX9_cost_78 : decode cX9_cost 78 = .ok (.if_icmp .ne 13, 3) := by decide +kernel
theorem dX9_cost_81 : decode cX9_cost 81 = .ok (.aload_n 0, 1) := by decide +kernel
theorem dX9_cost_82 : decode cX9_cost 82 = .ok (.getfield 17, 3) := by decide +kernel
theorem dX9_cost_85 : decode cX9_cost 85 = .ok (.iload_n 1, 1) := by decide +kernel
theorem dX9_cost_86 : decode cX9_cost 86 = .ok (.iaload, 1) := by decide +kernel
theorem dX9_cost_87 : decode cX9_cost 87 = .ok (.i2l, 1) := by decide +kernel
theorem dX9_cost_88 : decode cX9_cost 88 = .ok (.goto 14, 3) := by decide +kernel
theorem dX9_cost_91 : decode cX9_cost 91 = .ok (.aload_n 0, 1) := by decide +kernel
theorem dX9_cost_92 : decode cX9_cost 92 = .ok (.iload_n 1, 1) := by decide +kernel
theorem dX9_cost_93 : decode cX9_cost 93 = .ok (.iload_n 2, 1) := by decide +kernel
theorem dX9_cost_94 : decode cX9_cost 94 = .ok (.iload 4, 2) := by decide +kernel
theorem dX9_cost_96 : decode cX9_cost 96 = .ok (.iconst 2, 1) := by decide +kernel
theorem dX9_cost_97 : decode cX9_cost 97 = .ok (.isub, 1) := by decide +kernel
theorem dX9_cost_98 : decode cX9_cost 98 = .ok (.iload_n 3, 1) := by decide +kernel
theorem dX9_cost_99 : decode cX9_cost 99 = .ok (.invokevirtual 242, 3) := by decide +kernel
theorem dX9_cost_102 : decode cX9_cost 102 = .ok (.lreturn, 1) := by decide +kernel
theorem dX9_bill_0 : decode cX9_bill 0 = .ok (.aload_n 0, 1) := by decide +kernel
theorem dX9_bill_1 : decode cX9_bill 1 = .ok (.iload_n 1, 1) := by decide +kernel
theorem dX9_bill_2 : decode cX9_bill 2 = .ok (.invokevirtual 214, 3) := by decide +kernel
theorem dX9_bill_5 : decode cX9_bill 5 = .ok (.ifCond .eq 32, 3) := by decide +kernel
theorem dX9_bill_8 : decode cX9_bill 8 = .ok (.iload_n 2, 1) := by decide +kernel
theorem dX9_bill_9 : decode cX9_bill 9 = .ok (.iconst 4, 1) := by decide +kernel
theorem dX9_bill_10 : decode cX9_bill 10 = .ok (.invokestatic 224, 3) := by decide +kernel
theorem dX9_bill_13 : decode cX9_bill 13 = .ok (.ifCond .eq 24, 3) := by decide +kernel
theorem dX9_bill_16 : decode cX9_bill 16 = .ok (.iload_n 3, 1) := by decide +kernel
theorem dX9_bill_17 : decode cX9_bill 17 = .ok (.bipush 24, 2) := by decide +kernel
theorem dX9_bill_19 : decode cX9_bill 19 = .ok (.invokestatic 224, 3) := by decide +kernel
theorem dX9_bill_22 : decode cX9_bill 22 = .ok (.ifCond .eq 15, 3) := by decide +kernel
theorem dX9_bill_25 : decode cX9_bill 25 = .ok (.aload_n 0, 1) := by decide +kernel
theorem dX9_bill_26 : decode cX9_bill 26 = .ok (.iload_n 1, 1) := by decide +kernel
theorem dX9_bill_27 : decode cX9_bill 27 = .ok (.iconst 1, 1) := by decide +kernel
theorem dX9_bill_28 : decode cX9_bill 28 = .ok (.iload_n 2, 1) := by decide +kernel
theorem dX9_bill_29 : decode cX9_bill 29 = .ok (.ishl, 1) := by decide +kernel
theorem dX9_bill_30 : decode cX9_bill 30 = .ok (.iload_n 3, 1) := by decide +kernel
theorem dX9_bill_31 : decode cX9_bill 31 = .ok (.invokevirtual 246, 3) := by decide +kernel
theorem dX9_bill_34 : decode cX9_bill 34 = .ok (.ifCond .ne 9, 3) := by decide +kernel
theorem dX9_bill_37 : decode cX9_bill 37 = .ok (.aload_n 0, 1) := by decide +kernel
theorem dX9_bill_38 : decode cX9_bill 38 = .ok (.invokevirtual 217, 3) := by decide +kernel
theorem dX9_bill_41 : decode cX9_bill 41 = .ok (.i2l, 1) := by decide +kernel
theorem dX9_bill_42 : decode cX9_bill 42 = .ok (.lreturn, 1) := by decide +kernel
theorem dX9_bill_43 : decode cX9_bill 43 = .ok (.aload_n 0, 1) := by decide +kernel
theorem dX9_bill_44 : decode cX9_bill 44 = .ok (.iconst 0, 1) := by decide +kernel
theorem dX9_bill_45 : decode cX9_bill 45 = .ok (.putfield 87, 3) := by decide +kernel
theorem dX9_bill_48 : decode cX9_bill 48 = .ok (.lload 4, 2) := by decide +kernel
theorem dX9_bill_50 : decode cX9_bill 50 = .ok (.aload_n 0, 1) := by decide +kernel
theorem dX9_bill_51 : decode cX9_bill 51 = .ok (.iload_n 1, 1) := by decide +kernel
theorem dX9_bill_52 : decode cX9_bill 52 = .ok (.iconst 1, 1) := by decide +kernel
theorem dX9_bill_53 : decode cX9_bill 53 = .ok (.iload_n 2, 1) := by decide +kernel
theorem dX9_bill_54 : decode cX9_bill 54 = .ok (.ishl, 1) := by decide +kernel
theorem dX9_bill_55 : decode cX9_bill 55 = .ok (.iload_n 3, 1) := by decide +kernel
theorem dX9_bill_56 : decode cX9_bill 56 = .ok (.invokevirtual 250, 3) := by decide +kernel
theorem dX9_bill_59 : decode cX9_bill 59 = .ok (.lsub, 1) := by decide +kernel
theorem dX9_bill_60 : decode cX9_bill 60 = .ok (.lreturn, 1) := by decide +kernel
theorem dX9_state_0 : decode cX9_state 0 = .ok (.bipush 25, 2) := by decide +kernel
theorem dX9_state_2 : decode cX9_state 2 = .ok (.iload_n 0, 1) := by decide +kernel
theorem dX9_state_3 : decode cX9_state 3 = .ok (.imul, 1) := by decide +kernel
theorem dX9_state_4 : decode cX9_state 4 = .ok (.iload_n 1, 1) := by decide +kernel
theorem dX9_state_5 : decode cX9_state 5 = .ok (.iadd, 1) := by decide +kernel
theorem dX9_state_6 : decode cX9_state 6 = .ok (.ireturn, 1) := by decide +kernel
theorem dX9_offer_0 : decode cX9_offer 0 = .ok (.iload_n 2, 1) := by decide +kernel
theorem dX9_offer_1 : decode cX9_offer 1 = .ok (.iload_n 3, 1) := by decide +kernel
theorem dX9_offer_2 : decode cX9_offer 2 = .ok (.invokestatic 254, 3) := by decide +kernel
theorem dX9_offer_5 : decode cX9_offer 5 = .ok (.istore 7, 2) := by decide +kernel
theorem dX9_offer_7 : decode cX9_offer 7 = .ok (.lload 5, 2) := by decide +kernel
theorem dX9_offer_9 : decode cX9_offer 9 = .ok (.aload_n 0, 1) := by decide +kernel
theorem dX9_offer_10 : decode cX9_offer 10 = .ok (.getfield 57, 3) := by decide +kernel
theorem dX9_offer_13 : decode cX9_offer 13 = .ok (.iload 7, 2) := by decide +kernel
theorem dX9_offer_15 : decode cX9_offer 15 = .ok (.laload, 1) := by decide +kernel
theorem dX9_offer_16 : decode cX9_offer 16 = .ok (.lcmp, 1) := by decide +kernel
theorem dX9_offer_17 : decode cX9_offer 17 = .ok (.ifCond .ge 7, 3) := by decide +kernel
theorem dX9_offer_20 : decode cX9_offer 20 = .ok (.iconst 1, 1) := by decide +kernel
theorem dX9_offer_21 : decode cX9_offer 21 = .ok (.goto 4, 3) := by decide +kernel
theorem dX9_offer_24 : decode cX9_offer 24 = .ok (.iconst 0, 1) := by decide +kernel
theorem dX9_offer_25 : decode cX9_offer 25 = .ok (.istore 8, 2) := by decide +kernel
theorem dX9_offer_27 : decode cX9_offer 27 = .ok (.lload 5, 2) := by decide +kernel
theorem dX9_offer_29 : decode cX9_offer 29 = .ok (.aload_n 0, 1) := by decide +kernel
theorem dX9_offer_30 : decode cX9_offer 30 = .ok (.getfield 57, 3) := by decide +kernel
theorem dX9_offer_33 : decode cX9_offer 33 = .ok (.iload 7, 2) := by decide +kernel
theorem dX9_offer_35 : decode cX9_offer 35 = .ok (.laload, 1) := by decide +kernel
theorem dX9_offer_36 : decode cX9_offer 36 = .ok (.lcmp, 1) := by decide +kernel
theorem dX9_offer_37 : decode cX9_offer 37 = .ok (.ifCond .ne 89, 3) := by decide +kernel
theorem dX9_offer_40 : decode cX9_offer 40 = .ok (.iconst 0, 1) := by decide +kernel
theorem dX9_offer_41 : decode cX9_offer 41 = .ok (.istore 9, 2) := by decide +kernel
theorem dX9_offer_43 : decode cX9_offer 43 = .ok (.iload 9, 2) := by decide +kernel
theorem dX9_offer_45 : decode cX9_offer 45 = .ok (.iload 4, 2) := by decide +kernel
theorem dX9_offer_47 : decode cX9_offer 47 = .ok (.if_icmp .ge 37, 3) := by decide +kernel
theorem dX9_offer_50 : decode cX9_offer 50 = .ok (.aload_n 0, 1) := by decide +kernel
theorem dX9_offer_51 : decode cX9_offer 51 = .ok (.getfield 60, 3) := by decide +kernel
theorem dX9_offer_54 : decode cX9_offer 54 = .ok (.bipush 24, 2) := by decide +kernel
theorem dX9_offer_56 : decode cX9_offer 56 = .ok (.iload_n 1, 1) := by decide +kernel
theorem dX9_offer_57 : decode cX9_offer 57 = .ok (.imul, 1) := by decide +kernel
theorem dX9_offer_58 : decode cX9_offer 58 = .ok (.iload 9, 2) := by decide +kernel
theorem dX9_offer_60 : decode cX9_offer 60 = .ok (.iadd, 1) := by decide +kernel
theorem dX9_offer_61 : decode cX9_offer 61 = .ok (.iaload, 1) := by decide +kernel
theorem dX9_offer_62 : decode cX9_offer 62 = .ok (.aload_n 0, 1) := by decide +kernel
theorem dX9_offer_63 : decode cX9_offer 63 = .ok (.getfield 63, 3) := by decide +kernel
theorem dX9_offer_66 : decode cX9_offer 66 = .ok (.bipush 24, 2) := by decide +kernel
theorem dX9_offer_68 : decode cX9_offer 68 = .ok (.iload 7, 2) := by decide +kernel
theorem dX9_offer_70 : decode cX9_offer 70 = .ok (.imul, 1) := by decide +kernel
theorem dX9_offer_71 : decode cX9_offer 71 = .ok (.iload 9, 2) := by decide +kernel
theorem dX9_offer_73 : decode cX9_offer 73 = .ok (.iadd, 1) := by decide +kernel
theorem dX9_offer_74 : decode cX9_offer 74 = .ok (.iaload, 1) := by decide +kernel
theorem dX9_offer_75 : decode cX9_offer 75 = .ok (.if_icmp .ne 9, 3) := by decide +kernel
theorem dX9_offer_78 : decode cX9_offer 78 = .ok (.iinc 9 1, 3) := by decide +kernel
theorem dX9_offer_81 : decode cX9_offer 81 = .ok (.goto (-38), 3) := by decide +kernel
theorem dX9_offer_84 : decode cX9_offer 84 = .ok (.iload 9, 2) := by decide +kernel
theorem dX9_offer_86 : decode cX9_offer 86 = .ok (.iload 4, 2) := by decide +kernel
theorem dX9_offer_88 : decode cX9_offer 88 = .ok (.if_icmp .ge 35, 3) := by decide +kernel
theorem dX9_offer_91 : decode cX9_offer 91 = .ok (.aload_n 0, 1) := by decide +kernel
theorem dX9_offer_92 : decode cX9_offer 92 = .ok (.getfield 60, 3) := by decide +kernel
theorem dX9_offer_95 : decode cX9_offer 95 = .ok (.bipush 24, 2) := by decide +kernel
theorem dX9_offer_97 : decode cX9_offer 97 = .ok (.iload_n 1, 1) := by decide +kernel
theorem dX9_offer_98 : decode cX9_offer 98 = .ok (.imul, 1) := by decide +kernel
theorem dX9_offer_99 : decode cX9_offer 99 = .ok (.iload 9, 2) := by decide +kernel
theorem dX9_offer_101 : decode cX9_offer 101 = .ok (.iadd, 1) := by decide +kernel
theorem dX9_offer_102 : decode cX9_offer 102 = .ok (.iaload, 1) := by decide +kernel
theorem dX9_offer_103 : decode cX9_offer 103 = .ok (.aload_n 0, 1) := by decide +kernel
theorem dX9_offer_104 : decode cX9_offer 104 = .ok (.getfield 63, 3) := by decide +kernel
theorem dX9_offer_107 : decode cX9_offer 107 = .ok (.bipush 24, 2) := by decide +kernel
theorem dX9_offer_109 : decode cX9_offer 109 = .ok (.iload 7, 2) := by decide +kernel
theorem dX9_offer_111 : decode cX9_offer 111 = .ok (.imul, 1) := by decide +kernel
theorem dX9_offer_112 : decode cX9_offer 112 = .ok (.iload 9, 2) := by decide +kernel
theorem dX9_offer_114 : decode cX9_offer 114 = .ok (.iadd, 1) := by decide +kernel
theorem dX9_offer_115 : decode cX9_offer 115 = .ok (.iaload, 1) := by decide +kernel
theorem dX9_offer_116 : decode cX9_offer 116 = .ok (.if_icmp .ge 7, 3) := by decide +kernel
theorem dX9_offer_119 : decode cX9_offer 119 = .ok (.iconst 1, 1) := by decide +kernel
theorem dX9_offer_120 : decode cX9_offer 120 = .ok (.goto 4, 3) := by decide +kernel
theorem dX9_offer_123 : decode cX9_offer 123 = .ok (.iconst 0, 1) := by decide +kernel
theorem dX9_offer_124 : decode cX9_offer 124 = .ok (.istore 8, 2) := by decide +kernel
theorem dX9_offer_126 : decode cX9_offer 126 = .ok (.iload 8, 2) := by decide +kernel
theorem dX9_offer_128 : decode cX9_offer 128 = .ok (.ifCond .ne 4, 3) := by decide +kernel
theorem dX9_offer_131 : decode cX9_offer 131 = .ok (.return_, 1) := by decide +kernel
theorem dX9_offer_132 : decode cX9_offer 132 = .ok (.aload_n 0, 1) := by decide +kernel
theorem dX9_offer_133 : decode cX9_offer 133 = .ok (.getfield 57, 3) := by decide +kernel
theorem dX9_offer_136 : decode cX9_offer 136 = .ok (.iload 7, 2) := by decide +kernel
theorem dX9_offer_138 : decode cX9_offer 138 = .ok (.lload 5, 2) := by decide +kernel
theorem dX9_offer_140 : decode cX9_offer 140 = .ok (.lastore, 1) := by decide +kernel
theorem dX9_offer_141 : decode cX9_offer 141 = .ok (.iconst 0, 1) := by decide +kernel
theorem dX9_offer_142 : decode cX9_offer 142 = .ok (.istore 9, 2) := by decide +kernel
theorem dX9_offer_144 : decode cX9_offer 144 = .ok (.iload 9, 2) := by decide +kernel
theorem dX9_offer_146 : decode cX9_offer 146 = .ok (.iload 4, 2) := by decide +kernel
theorem dX9_offer_148 : decode cX9_offer 148 = .ok (.if_icmp .ge 34, 3) := by decide +kernel
theorem dX9_offer_151 : decode cX9_offer 151 = .ok (.aload_n 0, 1) := by decide +kernel
theorem dX9_offer_152 : decode cX9_offer 152 = .ok (.getfield 63, 3) := by decide +kernel
theorem dX9_offer_155 : decode cX9_offer 155 = .ok (.bipush 24, 2) := by decide +kernel
theorem dX9_offer_157 : decode cX9_offer 157 = .ok (.iload 7, 2) := by decide +kernel
theorem dX9_offer_159 : decode cX9_offer 159 = .ok (.imul, 1) := by decide +kernel
theorem dX9_offer_160 : decode cX9_offer 160 = .ok (.iload 9, 2) := by decide +kernel
theorem dX9_offer_162 : decode cX9_offer 162 = .ok (.iadd, 1) := by decide +kernel
theorem dX9_offer_163 : decode cX9_offer 163 = .ok (.aload_n 0, 1) := by decide +kernel
theorem dX9_offer_164 : decode cX9_offer 164 = .ok (.getfield 60, 3) := by decide +kernel
theorem dX9_offer_167 : decode cX9_offer 167 = .ok (.bipush 24, 2) := by decide +kernel
theorem dX9_offer_169 : decode cX9_offer 169 = .ok (.iload_n 1, 1) := by decide +kernel
theorem dX9_offer_170 : decode cX9_offer 170 = .ok (.imul, 1) := by decide +kernel
theorem dX9_offer_171 : decode cX9_offer 171 = .ok (.iload 9, 2) := by decide +kernel
theorem dX9_offer_173 : decode cX9_offer 173 = .ok (.iadd, 1) := by decide +kernel
theorem dX9_offer_174 : decode cX9_offer 174 = .ok (.iaload, 1) := by decide +kernel
theorem dX9_offer_175 : decode cX9_offer 175 = .ok (.iastore, 1) := by decide +kernel
theorem dX9_offer_176 : decode cX9_offer 176 = .ok (.iinc 9 1, 3) := by decide +kernel
theorem dX9_offer_179 : decode cX9_offer 179 = .ok (.goto (-35), 3) := by decide +kernel
theorem dX9_offer_182 : decode cX9_offer 182 = .ok (.aload_n 0, 1) := by decide +kernel
theorem dX9_offer_183 : decode cX9_offer 183 = .ok (.getfield 63, 3) := by decide +kernel
theorem dX9_offer_186 : decode cX9_offer 186 = .ok (.bipush 24, 2) := by decide +kernel
theorem dX9_offer_188 : decode cX9_offer 188 = .ok (.iload 7, 2) := by decide +kernel
theorem dX9_offer_190 : decode cX9_offer 190 = .ok (.imul, 1) := by decide +kernel
theorem dX9_offer_191 : decode cX9_offer 191 = .ok (.iload 4, 2) := by decide +kernel
theorem dX9_offer_193 : decode cX9_offer 193 = .ok (.iadd, 1) := by decide +kernel
theorem dX9_offer_194 : decode cX9_offer 194 = .ok (.iload_n 2, 1) := by decide +kernel
theorem dX9_offer_195 : decode cX9_offer 195 = .ok (.iastore, 1) := by decide +kernel
theorem dX9_offer_196 : decode cX9_offer 196 = .ok (.return_, 1) := by decide +kernel
theorem dX9_turn_0 : decode cX9_turn 0 = .ok (.iconst 0, 1) := by decide +kernel
theorem dX9_turn_1 : decode cX9_turn 1 = .ok (.istore_n 1, 1) := by decide +kernel
theorem dX9_turn_2 : decode cX9_turn 2 = .ok (.iload_n 1, 1) := by decide +kernel
theorem dX9_turn_3 : decode cX9_turn 3 = .ok (.sipush 250, 3) := by decide +kernel
theorem dX9_turn_6 : decode cX9_turn 6 = .ok (.if_icmp .ge 66, 3) := by decide +kernel
theorem dX9_turn_9 : decode cX9_turn 9 = .ok (.aload_n 0, 1) := by decide +kernel
theorem dX9_turn_10 : decode cX9_turn 10 = .ok (.getfield 54, 3) := by decide +kernel
theorem dX9_turn_13 : decode cX9_turn 13 = .ok (.iload_n 1, 1) := by decide +kernel
theorem dX9_turn_14 : decode cX9_turn 14 = .ok (.aload_n 0, 1) := by decide +kernel
theorem dX9_turn_15 : decode cX9_turn 15 = .ok (.getfield 57, 3) := by decide +kernel
theorem dX9_turn_18 : decode cX9_turn 18 = .ok (.iload_n 1, 1) := by decide +kernel
theorem dX9_turn_19 : decode cX9_turn 19 = .ok (.laload, 1) := by decide +kernel
theorem dX9_turn_20 : decode cX9_turn 20 = .ok (.lastore, 1) := by decide +kernel
theorem dX9_turn_21 : decode cX9_turn 21 = .ok (.aload_n 0, 1) := by decide +kernel
theorem dX9_turn_22 : decode cX9_turn 22 = .ok (.getfield 57, 3) := by decide +kernel
theorem dX9_turn_25 : decode cX9_turn 25 = .ok (.iload_n 1, 1) := by decide +kernel
theorem dX9_turn_26 : decode cX9_turn 26 = .ok (.ldc2_w 258, 3) := by decide +kernel
theorem dX9_turn_29 : decode cX9_turn 29 = .ok (.lastore, 1) := by decide +kernel
theorem dX9_turn_30 : decode cX9_turn 30 = .ok (.iconst 0, 1) := by decide +kernel
theorem dX9_turn_31 : decode cX9_turn 31 = .ok (.istore_n 2, 1) := by decide +kernel
theorem dX9_turn_32 : decode cX9_turn 32 = .ok (.iload_n 2, 1) := by decide +kernel
theorem dX9_turn_33 : decode cX9_turn 33 = .ok (.bipush 24, 2) := by decide +kernel
theorem dX9_turn_35 : decode cX9_turn 35 = .ok (.if_icmp .ge 31, 3) := by decide +kernel
theorem dX9_turn_38 : decode cX9_turn 38 = .ok (.aload_n 0, 1) := by decide +kernel
theorem dX9_turn_39 : decode cX9_turn 39 = .ok (.getfield 60, 3) := by decide +kernel
theorem dX9_turn_42 : decode cX9_turn 42 = .ok (.bipush 24, 2) := by decide +kernel
theorem dX9_turn_44 : decode cX9_turn 44 = .ok (.iload_n 1, 1) := by decide +kernel
theorem dX9_turn_45 : decode cX9_turn 45 = .ok (.imul, 1) := by decide +kernel
theorem dX9_turn_46 : decode cX9_turn 46 = .ok (.iload_n 2, 1) := by decide +kernel
theorem dX9_turn_47 : decode cX9_turn 47 = .ok (.iadd, 1) := by decide +kernel
theorem dX9_turn_48 : decode cX9_turn 48 = .ok (.aload_n 0, 1) := by decide +kernel
theorem dX9_turn_49 : decode cX9_turn 49 = .ok (.getfield 63, 3) := by decide +kernel
theorem dX9_turn_52 : decode cX9_turn 52 = .ok (.bipush 24, 2) := by decide +kernel
theorem dX9_turn_54 : decode cX9_turn 54 = .ok (.iload_n 1, 1) := by decide +kernel
theorem dX9_turn_55 : decode cX9_turn 55 = .ok (.imul, 1) := by decide +kernel
theorem dX9_turn_56 : decode cX9_turn 56 = .ok (.iload_n 2, 1) := by decide +kernel
theorem dX9_turn_57 : decode cX9_turn 57 = .ok (.iadd, 1) := by decide +kernel
theorem dX9_turn_58 : decode cX9_turn 58 = .ok (.iaload, 1) := by decide +kernel
theorem dX9_turn_59 : decode cX9_turn 59 = .ok (.iastore, 1) := by decide +kernel
theorem dX9_turn_60 : decode cX9_turn 60 = .ok (.iinc 2 1, 3) := by decide +kernel
theorem dX9_turn_63 : decode cX9_turn 63 = .ok (.goto (-31), 3) := by decide +kernel
theorem dX9_turn_66 : decode cX9_turn 66 = .ok (.iinc 1 1, 3) := by decide +kernel
theorem dX9_turn_69 : decode cX9_turn 69 = .ok (.goto (-67), 3) := by decide +kernel
theorem dX9_turn_72 : decode cX9_turn 72 = .ok (.return_, 1) := by decide +kernel
theorem dX9_mayBegin_0 : decode cX9_mayBegin 0 = .ok (.iload_n 2, 1) := by decide +kernel
theorem dX9_mayBegin_1 : decode cX9_mayBegin 1 = .ok (.aload_n 0, 1) := by decide +kernel
theorem dX9_mayBegin_2 : decode cX9_mayBegin 2 = .ok (.getfield 23, 3) := by decide +kernel
theorem dX9_mayBegin_5 : decode cX9_mayBegin 5 = .ok (.iload_n 1, 1) := by decide +kernel
theorem dX9_mayBegin_6 : decode cX9_mayBegin 6 = .ok (.iaload, 1) := by decide +kernel
theorem dX9_mayBegin_7 : decode cX9_mayBegin 7 = .ok (.if_icmp .lt 17, 3) := by decide +kernel
theorem dX9_mayBegin_10 : decode cX9_mayBegin 10 = .ok (.iload_n 2, 1) := by decide +kernel
theorem dX9_mayBegin_11 : decode cX9_mayBegin 11 = .ok (.aload_n 0, 1) := by decide +kernel
theorem dX9_mayBegin_12 : decode cX9_mayBegin 12 = .ok (.getfield 26, 3) := by decide +kernel
theorem dX9_mayBegin_15 : decode cX9_mayBegin 15 = .ok (.iload_n 1, 1) := by decide +kernel
theorem dX9_mayBegin_16 : decode cX9_mayBegin 16 = .ok (.iaload, 1) := by decide +kernel
theorem dX9_mayBegin_17 : decode cX9_mayBegin 17 = .ok (.if_icmp .gt 7, 3) := by decide +kernel
theorem dX9_mayBegin_20 : decode cX9_mayBegin 20 = .ok (.iconst 1, 1) := by decide +kernel
theorem dX9_mayBegin_21 : decode cX9_mayBegin 21 = .ok (.goto 4, 3) := by decide +kernel
theorem dX9_mayBegin_24 : decode cX9_mayBegin 24 = .ok (.iconst 0, 1) := by decide +kernel
theorem dX9_mayBegin_25 : decode cX9_mayBegin 25 = .ok (.ireturn, 1) := by decide +kernel
theorem dX9_find_0 : decode cX9_find 0 = .ok (.iconst 0, 1) := by decide +kernel
theorem dX9_find_1 : decode cX9_find 1 = .ok (.istore 4, 2) := by decide +kernel
theorem dX9_find_3 : decode cX9_find 3 = .ok (.iload 4, 2) := by decide +kernel
theorem dX9_find_5 : decode cX9_find 5 = .ok (.sipush 250, 3) := by decide +kernel
theorem dX9_find_8 : decode cX9_find 8 = .ok (.if_icmp .ge 19, 3) := by decide +kernel
theorem dX9_find_11 : decode cX9_find 11 = .ok (.aload_n 0, 1) := by decide +kernel
theorem dX9_find_12 : decode cX9_find 12 = .ok (.getfield 57, 3) := by decide +kernel
theorem dX9_find_15 : decode cX9_find 15 = .ok (.iload 4, 2) := by decide +kernel
theorem dX9_find_17 : decode cX9_find 17 = .ok (.ldc2_w 258, 3) := by decide +kernel
theorem dX9_find_20 : decode cX9_find 20 = .ok (.lastore, 1) := by decide +kernel
theorem dX9_find_21 : decode cX9_find 21 = .ok (.iinc 4 1, 3) := by decide +kernel
theorem dX9_find_24 : decode cX9_find 24 = .ok (.goto (-21), 3) := by decide +kernel
theorem dX9_find_27 : decode cX9_find 27 = .ok (.iconst 0, 1) := by decide +kernel
theorem dX9_find_28 : decode cX9_find 28 = .ok (.istore 4, 2) := by decide +kernel
theorem dX9_find_30 : decode cX9_find 30 = .ok (.iload 4, 2) := by decide +kernel
theorem dX9_find_32 : decode cX9_find 32 = .ok (.aload_n 0, 1) := by decide +kernel
theorem dX9_find_33 : decode cX9_find 33 = .ok (.getfield 205, 3) := by decide +kernel
theorem dX9_find_36 : decode cX9_find 36 = .ok (.if_icmp .ge 47, 3) := by decide +kernel
theorem dX9_find_39 : decode cX9_find 39 = .ok (.aload_n 0, 1) := by decide +kernel
theorem dX9_find_40 : decode cX9_find 40 = .ok (.iload 4, 2) := by decide +kernel
theorem dX9_find_42 : decode cX9_find 42 = .ok (.iload_n 2, 1) := by decide +kernel
theorem dX9_find_43 : decode cX9_find 43 = .ok (.invokevirtual 260, 3) := by decide +kernel
theorem dX9_find_46 : decode cX9_find 46 = .ok (.ifCond .eq 31, 3) := by decide +kernel
theorem dX9_find_49 : decode cX9_find 49 = .ok (.aload_n 0, 1) := by decide +kernel
theorem dX9_find_50 : decode cX9_find 50 = .ok (.iload 4, 2) := by decide +kernel
theorem dX9_find_52 : decode cX9_find 52 = .ok (.iload_n 1, 1) := by decide +kernel
theorem dX9_find_53 : decode cX9_find 53 = .ok (.iload_n 2, 1) := by decide +kernel
theorem dX9_find_54 : decode cX9_find 54 = .ok (.invokevirtual 246, 3) := by decide +kernel
theorem dX9_find_57 : decode cX9_find 57 = .ok (.ifCond .eq 20, 3) := by decide +kernel
theorem dX9_find_60 : decode cX9_find 60 = .ok (.aload_n 0, 1) := by decide +kernel
theorem dX9_find_61 : decode cX9_find 61 = .ok (.iconst 0, 1) := by decide +kernel
theorem dX9_find_62 : decode cX9_find 62 = .ok (.iload 4, 2) := by decide +kernel
theorem dX9_find_64 : decode cX9_find 64 = .ok (.iconst 1, 1) := by decide +kernel
theorem dX9_find_65 : decode cX9_find 65 = .ok (.iconst 0, 1) := by decide +kernel
theorem dX9_find_66 : decode cX9_find 66 = .ok (.aload_n 0, 1) := by decide +kernel
theorem dX9_find_67 : decode cX9_find 67 = .ok (.iload 4, 2) := by decide +kernel
theorem dX9_find_69 : decode cX9_find 69 = .ok (.iload_n 1, 1) := by decide +kernel
theorem dX9_find_70 : decode cX9_find 70 = .ok (.iload_n 2, 1) := by decide +kernel
theorem dX9_find_71 : decode cX9_find 71 = .ok (.invokevirtual 250, 3) := by decide +kernel
theorem dX9_find_74 : decode cX9_find 74 = .ok (.invokevirtual 263, 3) := by decide +kernel
theorem dX9_find_77 : decode cX9_find 77 = .ok (.iinc 4 1, 3) := by decide +kernel
theorem dX9_find_80 : decode cX9_find 80 = .ok (.goto (-50), 3) := by decide +kernel
theorem dX9_find_83 : decode cX9_find 83 = .ok (.aload_n 0, 1) := by decide +kernel
theorem dX9_find_84 : decode cX9_find 84 = .ok (.invokevirtual 267, 3) := by decide +kernel
theorem dX9_find_87 : decode cX9_find 87 = .ok (.iload_n 2, 1) := by decide +kernel
theorem dX9_find_88 : decode cX9_find 88 = .ok (.iconst 1, 1) := by decide +kernel
theorem dX9_find_89 : decode cX9_find 89 = .ok (.iadd, 1) := by decide +kernel
theorem dX9_find_90 : decode cX9_find 90 = .ok (.istore 4, 2) := by decide +kernel
theorem dX9_find_92 : decode cX9_find 92 = .ok (.iload 4, 2) := by decide +kernel
theorem dX9_find_94 : decode cX9_find 94 = .ok (.iload_n 3, 1) := by decide +kernel
theorem dX9_find_95 : decode cX9_find 95 = .ok (.if_icmp .ge 227, 3) := by decide +kernel
theorem dX9_find_98 : decode cX9_find 98 = .ok (.iconst 0, 1) := by decide +kernel
theorem dX9_find_99 : decode cX9_find 99 = .ok (.istore 5, 2) := by decide +kernel
theorem dX9_find_101 : decode cX9_find 101 = .ok (.iload 5, 2) := by decide +kernel
theorem dX9_find_103 : decode cX9_find 103 = .ok (.aload_n 0, 1) := by decide +kernel
theorem dX9_find_104 : decode cX9_find 104 = .ok (.getfield 205, 3) := by decide +kernel
theorem dX9_find_107 : decode cX9_find 107 = .ok (.if_icmp .ge 205, 3) := by decide +kernel
theorem dX9_find_110 : decode cX9_find 110 = .ok (.aload_n 0, 1) := by decide +kernel
theorem dX9_find_111 : decode cX9_find 111 = .ok (.iload 5, 2) := by decide +kernel
theorem dX9_find_113 : decode cX9_find 113 = .ok (.iload_n 1, 1) := by decide +kernel
theorem dX9_find_114 : decode cX9_find 114 = .ok (.iload 4, 2) := by decide +kernel
theorem dX9_find_116 : decode cX9_find 116 = .ok (.invokevirtual 246, 3) := by decide +kernel
theorem dX9_find_119 : decode cX9_find 119 = .ok (.ifCond .ne 6, 3) := by decide +kernel
theorem dX9_find_122 : decode cX9_find 122 = .ok (.goto 184, 3) := by decide +kernel
theorem dX9_find_125 : decode cX9_find 125 = .ok (.aload_n 0, 1) := by decide +kernel
theorem dX9_find_126 : decode cX9_find 126 = .ok (.iload 5, 2) := by decide +kernel
theorem dX9_find_128 : decode cX9_find 128 = .ok (.iload_n 1, 1) := by decide +kernel
theorem dX9_find_129 : decode cX9_find 129 = .ok (.iload 4, 2) := by decide +kernel
theorem dX9_find_131 : decode cX9_find 131 = .ok (.invokevirtual 250, 3) := by decide +kernel
theorem dX9_find_134 : decode cX9_find 134 = .ok (.lstore 6, 2) := by decide +kernel
theorem dX9_find_136 : decode cX9_find 136 = .ok (.iconst 0, 1) := by decide +kernel
theorem dX9_find_137 : decode cX9_find 137 = .ok (.istore 8, 2) := by decide +kernel
theorem dX9_find_139 : decode cX9_find 139 = .ok (.iload 8, 2) := by decide +kernel
theorem dX9_find_141 : decode cX9_find 141 = .ok (.aload_n 0, 1) := by decide +kernel
theorem dX9_find_142 : decode cX9_find 142 = .ok (.getfield 205, 3) := by decide +kernel
theorem dX9_find_145 : decode cX9_find 145 = .ok (.if_icmp .ge 161, 3) := by decide +kernel
theorem dX9_find_148 : decode cX9_find 148 = .ok (.iconst 1, 1) := by decide +kernel
theorem dX9_find_149 : decode cX9_find 149 = .ok (.istore 9, 2) := by decide +kernel
theorem dX9_find_151 : decode cX9_find 151 = .ok (.iload 9, 2) := by decide +kernel
theorem dX9_find_153 : decode cX9_find 153 = .ok (.aload_n 0, 1) := by decide +kernel
theorem dX9_find_154 : decode cX9_find 154 = .ok (.getfield 20, 3) := by decide +kernel
theorem dX9_find_157 : decode cX9_find 157 = .ok (.iload 8, 2) := by decide +kernel
theorem dX9_find_159 : decode cX9_find 159 = .ok (.iaload, 1) := by decide +kernel
theorem dX9_find_160 : decode cX9_find 160 = .ok (.if_icmp .gt 140, 3) := by decide +kernel
theorem dX9_find_163 : decode cX9_find 163 = .ok (.iload 8, 2) := by decide +kernel
theorem dX9_find_165 : decode cX9_find 165 = .ok (.iload 9, 2) := by decide +kernel
theorem dX9_find_167 : decode cX9_find 167 = .ok (.invokestatic 254, 3) := by decide +kernel
theorem dX9_find_170 : decode cX9_find 170 = .ok (.istore 10, 2) := by decide +kernel
theorem dX9_find_172 : decode cX9_find 172 = .ok (.aload_n 0, 1) := by decide +kernel
theorem dX9_find_173 : decode cX9_find 173 = .ok (.getfield 54, 3) := by decide +kernel
theorem dX9_find_176 : decode cX9_find 176 = .ok (.iload 10, 2) := by decide +kernel
theorem dX9_find_178 : decode cX9_find 178 = .ok (.laload, 1) := by decide +kernel
theorem dX9_find_179 : decode cX9_find 179 = .ok (.ldc2_w 258, 3) := by decide +kernel
theorem dX9_find_182 : decode cX9_find 182 = .ok (.lcmp, 1) := by decide +kernel
theorem dX9_find_183 : decode cX9_find 183 = .ok (.ifCond .ne 6, 3) := by decide +kernel
theorem dX9_find_186 : decode cX9_find 186 = .ok (.goto 108, 3) := by decide +kernel
theorem dX9_find_189 : decode cX9_find 189 = .ok (.iload 8, 2) := by decide +kernel
theorem dX9_find_191 : decode cX9_find 191 = .ok (.iload 5, 2) := by decide +kernel
theorem dX9_find_193 : decode cX9_find 193 = .ok (.if_icmp .ne 49, 3) := by decide +kernel
theorem dX9_find_196 : decode cX9_find 196 = .ok (.aload_n 0, 1) := by decide +kernel
theorem dX9_find_197 : decode cX9_find 197 = .ok (.iload 10, 2) := by decide +kernel
theorem dX9_find_199 : decode cX9_find 199 = .ok (.iload 5, 2) := by decide +kernel
theorem dX9_find_201 : decode cX9_find 201 = .ok (.iload 9, 2) := by decide +kernel
theorem dX9_find_203 : decode cX9_find 203 = .ok (.aload_n 0, 1) := by decide +kernel
theorem dX9_find_204 : decode cX9_find 204 = .ok (.getfield 20, 3) := by decide +kernel
theorem dX9_find_207 : decode cX9_find 207 = .ok (.iload 5, 2) := by decide +kernel
theorem dX9_find_209 : decode cX9_find 209 = .ok (.iaload, 1) := by decide +kernel
theorem dX9_find_210 : decode cX9_find 210 = .ok (.if_icmp .ge 10, 3) := by decide +kernel
theorem dX9_find_213 : decode cX9_find 213 = .ok (.iload 9, 2) := by decide +kernel
theorem dX9_find_215 : decode cX9_find 215 = .ok (.iconst 1, 1) := by decide +kernel
theorem dX9_find_216 : decode cX9_find 216 = .ok (.iadd, 1) := by decide +kernel
theorem dX9_find_217 : decode cX9_find 217 = .ok (.goto 5, 3) := by decide +kernel
theorem dX9_find_220 : decode cX9_find 220 = .ok (.iload 9, 2) := by decide +kernel
theorem dX9_find_222 : decode cX9_find 222 = .ok (.iload 4, 2) := by decide +kernel
theorem dX9_find_224 : decode cX9_find 224 = .ok (.iload_n 2, 1) := by decide +kernel
theorem dX9_find_225 : decode cX9_find 225 = .ok (.isub, 1) := by decide +kernel
theorem dX9_find_226 : decode cX9_find 226 = .ok (.aload_n 0, 1) := by decide +kernel
theorem dX9_find_227 : decode cX9_find 227 = .ok (.getfield 54, 3) := by decide +kernel
theorem dX9_find_230 : decode cX9_find 230 = .ok (.iload 10, 2) := by decide +kernel
theorem dX9_find_232 : decode cX9_find 232 = .ok (.laload, 1) := by decide +kernel
theorem dX9_find_233 : decode cX9_find 233 = .ok (.lload 6, 2) := by decide +kernel
theorem dX9_find_235 : decode cX9_find 235 = .ok (.ladd, 1) := by decide +kernel
theorem dX9_find_236 : decode cX9_find 236 = .ok (.invokevirtual 263, 3) := by decide +kernel
theorem dX9_find_239 : decode cX9_find 239 = .ok (.goto 55, 3) := by decide +kernel
theorem dX9_find_242 : decode cX9_find 242 = .ok (.iload 9, 2) := by decide +kernel
theorem dX9_find_244 : decode cX9_find 244 = .ok (.aload_n 0, 1) := by decide +kernel
theorem dX9_find_245 : decode cX9_find 245 = .ok (.getfield 20, 3) := by decide +kernel
theorem dX9_find_248 : decode cX9_find 248 = .ok (.iload 8, 2) := by decide +kernel
theorem dX9_find_250 : decode cX9_find 250 = .ok (.iaload, 1) := by decide +kernel
theorem dX9_find_251 : decode cX9_find 251 = .ok (.if_icmp .ne 43, 3) := by decide +kernel
theorem dX9_find_254 : decode cX9_find 254 = .ok (.aload_n 0, 1) := by decide +kernel
theorem dX9_find_255 : decode cX9_find 255 = .ok (.iload 5, 2) := by decide +kernel
theorem dX9_find_257 : decode cX9_find 257 = .ok (.iload 4, 2) := by decide +kernel
theorem dX9_find_259 : decode cX9_find 259 = .ok (.invokevirtual 260, 3) := by decide +kernel
theorem dX9_find_262 : decode cX9_find 262 = .ok (.ifCond .eq 32, 3) := by decide +kernel
theorem dX9_find_265 : decode cX9_find 265 = .ok (.aload_n 0, 1) := by decide +kernel
theorem dX9_find_266 : decode cX9_find 266 = .ok (.iload 10, 2) := by decide +kernel
theorem dX9_find_268 : decode cX9_find 268 = .ok (.iload 5, 2) := by decide +kernel
theorem dX9_find_270 : decode cX9_find 270 = .ok (.iconst 1, 1) := by decide +kernel
theorem dX9_find_271 : decode cX9_find 271 = .ok (.iload 4, 2) := by decide +kernel
theorem dX9_find_273 : decode cX9_find 273 = .ok (.iload_n 2, 1) := by decide +kernel
theorem dX9_find_274 : decode cX9_find 274 = .ok (.isub, 1) := by decide +kernel
theorem dX9_find_275 : decode cX9_find 275 = .ok (.aload_n 0, 1) := by decide +kernel
theorem dX9_find_276 : decode cX9_find 276 = .ok (.getfield 54, 3) := by decide +kernel
theorem dX9_find_279 : decode cX9_find 279 = .ok (.iload 10, 2) := by decide +kernel
theorem dX9_find_281 : decode cX9_find 281 = .ok (.laload, 1) := by decide +kernel
theorem dX9_find_282 : decode cX9_find 282 = .ok (.lload 6, 2) := by decide +kernel
theorem dX9_find_284 : decode cX9_find 284 = .ok (.ladd, 1) := by decide +kernel
theorem dX9_find_285 : decode cX9_find 285 = .ok (.aload_n 0, 1) := by decide +kernel
theorem dX9_find_286 : decode cX9_find 286 = .ok (.getfield 232, 3) := by decide +kernel
theorem dX9_find_289 : decode cX9_find 289 = .ok (.i2l, 1) := by decide +kernel
theorem dX9_find_290 : decode cX9_find 290 = .ok (.ladd, 1) := by decide +kernel
theorem dX9_find_291 : decode cX9_find 291 = .ok (.invokevirtual 263, 3) := by decide +kernel
theorem dX9_find_294 : decode cX9_find 294 = .ok (.iinc 9 1, 3) := by decide +kernel
theorem dX9_find_297 : decode cX9_find 297 = .ok (.goto (-146), 3) := by decide +kernel
theorem dX9_find_300 : decode cX9_find 300 = .ok (.iinc 8 1, 3) := by decide +kernel
theorem dX9_find_303 : decode cX9_find 303 = .ok (.goto (-164), 3) := by decide +kernel
theorem dX9_find_306 : decode cX9_find 306 = .ok (.iinc 5 1, 3) := by decide +kernel
theorem dX9_find_309 : decode cX9_find 309 = .ok (.goto (-208), 3) := by decide +kernel
theorem dX9_find_312 : decode cX9_find 312 = .ok (.aload_n 0, 1) := by decide +kernel
theorem dX9_find_313 : decode cX9_find 313 = .ok (.invokevirtual 267, 3) := by decide +kernel
theorem dX9_find_316 : decode cX9_find 316 = .ok (.iinc 4 1, 3) := by decide +kernel
theorem dX9_find_319 : decode cX9_find 319 = .ok (.goto (-227), 3) := by decide +kernel
theorem dX9_find_322 : decode cX9_find 322 = .ok (.iconst (-1), 1) := by decide +kernel
theorem dX9_find_323 : decode cX9_find 323 = .ok (.istore 4, 2) := by decide +kernel
theorem dX9_find_325 : decode cX9_find 325 = .ok (.iconst 0, 1) := by decide +kernel
theorem dX9_find_326 : decode cX9_find 326 = .ok (.istore 5, 2) := by decide +kernel
theorem dX9_find_328 : decode cX9_find 328 = .ok (.iload 5, 2) := by decide +kernel
end
section
theorem dX9_find_330 : decode cX9_find 330 = .ok (.aload_n 0, 1) := by decide +kernel
theorem dX9_find_331 : decode cX9_find 331 = .ok (.getfield 205, 3) := by decide +kernel
theorem dX9_find_334 : decode cX9_find 334 = .ok (.if_icmp .ge 113, 3) := by decide +kernel
theorem dX9_find_337 : decode cX9_find 337 = .ok (.iconst 1, 1) := by decide +kernel
theorem dX9_find_338 : decode cX9_find 338 = .ok (.istore 6, 2) := by decide +kernel
theorem dX9_find_340 : decode cX9_find 340 = .ok (.iload 6, 2) := by decide +kernel
theorem dX9_find_342 : decode cX9_find 342 = .ok (.aload_n 0, 1) := by decide +kernel
theorem dX9_find_343 : decode cX9_find 343 = .ok (.getfield 20, 3) := by decide +kernel
theorem dX9_find_346 : decode cX9_find 346 = .ok (.iload 5, 2) := by decide +kernel
theorem dX9_find_348 : decode cX9_find 348 = .ok (.iaload, 1) := by decide +kernel
theorem dX9_find_349 : decode cX9_find 349 = .ok (.if_icmp .gt 92, 3) := by decide +kernel
theorem dX9_find_352 : decode cX9_find 352 = .ok (.iload 5, 2) := by decide +kernel
theorem dX9_find_354 : decode cX9_find 354 = .ok (.iload 6, 2) := by decide +kernel
theorem dX9_find_356 : decode cX9_find 356 = .ok (.invokestatic 254, 3) := by decide +kernel
theorem dX9_find_359 : decode cX9_find 359 = .ok (.istore 7, 2) := by decide +kernel
theorem dX9_find_361 : decode cX9_find 361 = .ok (.aload_n 0, 1) := by decide +kernel
theorem dX9_find_362 : decode cX9_find 362 = .ok (.getfield 54, 3) := by decide +kernel
theorem dX9_find_365 : decode cX9_find 365 = .ok (.iload 7, 2) := by decide +kernel
theorem dX9_find_367 : decode cX9_find 367 = .ok (.laload, 1) := by decide +kernel
theorem dX9_find_368 : decode cX9_find 368 = .ok (.ldc2_w 258, 3) := by decide +kernel
theorem dX9_find_371 : decode cX9_find 371 = .ok (.lcmp, 1) := by decide +kernel
theorem dX9_find_372 : decode cX9_find 372 = .ok (.ifCond .ge 63, 3) := by decide +kernel
theorem dX9_find_375 : decode cX9_find 375 = .ok (.iload 4, 2) := by decide +kernel
theorem dX9_find_377 : decode cX9_find 377 = .ok (.iconst (-1), 1) := by decide +kernel
theorem dX9_find_378 : decode cX9_find 378 = .ok (.if_icmp .eq 53, 3) := by decide +kernel
theorem dX9_find_381 : decode cX9_find 381 = .ok (.aload_n 0, 1) := by decide +kernel
theorem dX9_find_382 : decode cX9_find 382 = .ok (.getfield 54, 3) := by decide +kernel
theorem dX9_find_385 : decode cX9_find 385 = .ok (.iload 7, 2) := by decide +kernel
theorem dX9_find_387 : decode cX9_find 387 = .ok (.laload, 1) := by decide +kernel
theorem dX9_find_388 : decode cX9_find 388 = .ok (.aload_n 0, 1) := by decide +kernel
theorem dX9_find_389 : decode cX9_find 389 = .ok (.getfield 54, 3) := by decide +kernel
theorem dX9_find_392 : decode cX9_find 392 = .ok (.iload 4, 2) := by decide +kernel
theorem dX9_find_394 : decode cX9_find 394 = .ok (.laload, 1) := by decide +kernel
theorem dX9_find_395 : decode cX9_find 395 = .ok (.lcmp, 1) := by decide +kernel
theorem dX9_find_396 : decode cX9_find 396 = .ok (.ifCond .lt 35, 3) := by decide +kernel
theorem dX9_find_399 : decode cX9_find 399 = .ok (.aload_n 0, 1) := by decide +kernel
theorem dX9_find_400 : decode cX9_find 400 = .ok (.getfield 54, 3) := by decide +kernel
theorem dX9_find_403 : decode cX9_find 403 = .ok (.iload 7, 2) := by decide +kernel
theorem dX9_find_405 : decode cX9_find 405 = .ok (.laload, 1) := by decide +kernel
theorem dX9_find_406 : decode cX9_find 406 = .ok (.aload_n 0, 1) := by decide +kernel
theorem dX9_find_407 : decode cX9_find 407 = .ok (.getfield 54, 3) := by decide +kernel
theorem dX9_find_410 : decode cX9_find 410 = .ok (.iload 4, 2) := by decide +kernel
theorem dX9_find_412 : decode cX9_find 412 = .ok (.laload, 1) := by decide +kernel
theorem dX9_find_413 : decode cX9_find 413 = .ok (.lcmp, 1) := by decide +kernel
theorem dX9_find_414 : decode cX9_find 414 = .ok (.ifCond .ne 21, 3) := by decide +kernel
theorem dX9_find_417 : decode cX9_find 417 = .ok (.aload_n 0, 1) := by decide +kernel
theorem dX9_find_418 : decode cX9_find 418 = .ok (.iload 7, 2) := by decide +kernel
theorem dX9_find_420 : decode cX9_find 420 = .ok (.iload 4, 2) := by decide +kernel
theorem dX9_find_422 : decode cX9_find 422 = .ok (.iload_n 3, 1) := by decide +kernel
theorem dX9_find_423 : decode cX9_find 423 = .ok (.iload_n 2, 1) := by decide +kernel
theorem dX9_find_424 : decode cX9_find 424 = .ok (.isub, 1) := by decide +kernel
theorem dX9_find_425 : decode cX9_find 425 = .ok (.invokevirtual 270, 3) := by decide +kernel
theorem dX9_find_428 : decode cX9_find 428 = .ok (.ifCond .eq 7, 3) := by decide +kernel
theorem dX9_find_431 : decode cX9_find 431 = .ok (.iload 7, 2) := by decide +kernel
theorem dX9_find_433 : decode cX9_find 433 = .ok (.istore 4, 2) := by decide +kernel
theorem dX9_find_435 : decode cX9_find 435 = .ok (.iinc 6 1, 3) := by decide +kernel
theorem dX9_find_438 : decode cX9_find 438 = .ok (.goto (-98), 3) := by decide +kernel
theorem dX9_find_441 : decode cX9_find 441 = .ok (.iinc 5 1, 3) := by decide +kernel
theorem dX9_find_444 : decode cX9_find 444 = .ok (.goto (-116), 3) := by decide +kernel
theorem dX9_find_447 : decode cX9_find 447 = .ok (.iload 4, 2) := by decide +kernel
theorem dX9_find_449 : decode cX9_find 449 = .ok (.ireturn, 1) := by decide +kernel
theorem dX9_isAhead_0 : decode cX9_isAhead 0 = .ok (.iconst 0, 1) := by decide +kernel
theorem dX9_isAhead_1 : decode cX9_isAhead 1 = .ok (.istore 4, 2) := by decide +kernel
theorem dX9_isAhead_3 : decode cX9_isAhead 3 = .ok (.iload 4, 2) := by decide +kernel
theorem dX9_isAhead_5 : decode cX9_isAhead 5 = .ok (.iload_n 3, 1) := by decide +kernel
theorem dX9_isAhead_6 : decode cX9_isAhead 6 = .ok (.if_icmp .ge 36, 3) := by decide +kernel
theorem dX9_isAhead_9 : decode cX9_isAhead 9 = .ok (.aload_n 0, 1) := by decide +kernel
theorem dX9_isAhead_10 : decode cX9_isAhead 10 = .ok (.getfield 60, 3) := by decide +kernel
theorem dX9_isAhead_13 : decode cX9_isAhead 13 = .ok (.bipush 24, 2) := by decide +kernel
theorem dX9_isAhead_15 : decode cX9_isAhead 15 = .ok (.iload_n 1, 1) := by decide +kernel
theorem dX9_isAhead_16 : decode cX9_isAhead 16 = .ok (.imul, 1) := by decide +kernel
theorem dX9_isAhead_17 : decode cX9_isAhead 17 = .ok (.iload 4, 2) := by decide +kernel
theorem dX9_isAhead_19 : decode cX9_isAhead 19 = .ok (.iadd, 1) := by decide +kernel
theorem dX9_isAhead_20 : decode cX9_isAhead 20 = .ok (.iaload, 1) := by decide +kernel
theorem dX9_isAhead_21 : decode cX9_isAhead 21 = .ok (.aload_n 0, 1) := by decide +kernel
theorem dX9_isAhead_22 : decode cX9_isAhead 22 = .ok (.getfield 60, 3) := by decide +kernel
theorem dX9_isAhead_25 : decode cX9_isAhead 25 = .ok (.bipush 24, 2) := by decide +kernel
theorem dX9_isAhead_27 : decode cX9_isAhead 27 = .ok (.iload_n 2, 1) := by decide +kernel
theorem dX9_isAhead_28 : decode cX9_isAhead 28 = .ok (.imul, 1) := by decide +kernel
theorem dX9_isAhead_29 : decode cX9_isAhead 29 = .ok (.iload 4, 2) := by decide +kernel
theorem dX9_isAhead_31 : decode cX9_isAhead 31 = .ok (.iadd, 1) := by decide +kernel
theorem dX9_isAhead_32 : decode cX9_isAhead 32 = .ok (.iaload, 1) := by decide +kernel
theorem dX9_isAhead_33 : decode cX9_isAhead 33 = .ok (.if_icmp .ne 9, 3) := by decide +kernel
theorem dX9_isAhead_36 : decode cX9_isAhead 36 = .ok (.iinc 4 1, 3) := by decide +kernel
theorem dX9_isAhead_39 : decode cX9_isAhead 39 = .ok (.goto (-36), 3) := by decide +kernel
theorem dX9_isAhead_42 : decode cX9_isAhead 42 = .ok (.iload 4, 2) := by decide +kernel
theorem dX9_isAhead_44 : decode cX9_isAhead 44 = .ok (.iload_n 3, 1) := by decide +kernel
theorem dX9_isAhead_45 : decode cX9_isAhead 45 = .ok (.if_icmp .ge 34, 3) := by decide +kernel
theorem dX9_isAhead_48 : decode cX9_isAhead 48 = .ok (.aload_n 0, 1) := by decide +kernel
theorem dX9_isAhead_49 : decode cX9_isAhead 49 = .ok (.getfield 60, 3) := by decide +kernel
theorem dX9_isAhead_52 : decode cX9_isAhead 52 = .ok (.bipush 24, 2) := by decide +kernel
theorem dX9_isAhead_54 : decode cX9_isAhead 54 = .ok (.iload_n 1, 1) := by decide +kernel
theorem dX9_isAhead_55 : decode cX9_isAhead 55 = .ok (.imul, 1) := by decide +kernel
theorem dX9_isAhead_56 : decode cX9_isAhead 56 = .ok (.iload 4, 2) := by decide +kernel
theorem dX9_isAhead_58 : decode cX9_isAhead 58 = .ok (.iadd, 1) := by decide +kernel
theorem dX9_isAhead_59 : decode cX9_isAhead 59 = .ok (.iaload, 1) := by decide +kernel
theorem dX9_isAhead_60 : decode cX9_isAhead 60 = .ok (.aload_n 0, 1) := by decide +kernel
theorem dX9_isAhead_61 : decode cX9_isAhead 61 = .ok (.getfield 60, 3) := by decide +kernel
theorem dX9_isAhead_64 : decode cX9_isAhead 64 = .ok (.bipush 24, 2) := by decide +kernel
theorem dX9_isAhead_66 : decode cX9_isAhead 66 = .ok (.iload_n 2, 1) := by decide +kernel
theorem dX9_isAhead_67 : decode cX9_isAhead 67 = .ok (.imul, 1) := by decide +kernel
theorem dX9_isAhead_68 : decode cX9_isAhead 68 = .ok (.iload 4, 2) := by decide +kernel
theorem dX9_isAhead_70 : decode cX9_isAhead 70 = .ok (.iadd, 1) := by decide +kernel
theorem dX9_isAhead_71 : decode cX9_isAhead 71 = .ok (.iaload, 1) := by decide +kernel
theorem dX9_isAhead_72 : decode cX9_isAhead 72 = .ok (.if_icmp .ge 7, 3) := by decide +kernel
theorem dX9_isAhead_75 : decode cX9_isAhead 75 = .ok (.iconst 1, 1) := by decide +kernel
theorem dX9_isAhead_76 : decode cX9_isAhead 76 = .ok (.goto 4, 3) := by decide +kernel
theorem dX9_isAhead_79 : decode cX9_isAhead 79 = .ok (.iconst 0, 1) := by decide +kernel
theorem dX9_isAhead_80 : decode cX9_isAhead 80 = .ok (.ireturn, 1) := by decide +kernel
theorem dX9_best_0 : decode cX9_best 0 = .ok (.aload_n 0, 1) := by decide +kernel
theorem dX9_best_1 : decode cX9_best 1 = .ok (.iconst 0, 1) := by decide +kernel
theorem dX9_best_2 : decode cX9_best 2 = .ok (.putfield 87, 3) := by decide +kernel
theorem dX9_best_5 : decode cX9_best 5 = .ok (.iload_n 1, 1) := by decide +kernel
theorem dX9_best_6 : decode cX9_best 6 = .ok (.iconst 1, 1) := by decide +kernel
theorem dX9_best_7 : decode cX9_best 7 = .ok (.if_icmp .lt 24, 3) := by decide +kernel
theorem dX9_best_10 : decode cX9_best 10 = .ok (.iload_n 1, 1) := by decide +kernel
theorem dX9_best_11 : decode cX9_best 11 = .ok (.bipush 15, 2) := by decide +kernel
theorem dX9_best_13 : decode cX9_best 13 = .ok (.if_icmp .gt 18, 3) := by decide +kernel
theorem dX9_best_16 : decode cX9_best 16 = .ok (.iload_n 2, 1) := by decide +kernel
theorem dX9_best_17 : decode cX9_best 17 = .ok (.ifCond .lt 14, 3) := by decide +kernel
theorem dX9_best_20 : decode cX9_best 20 = .ok (.iload_n 2, 1) := by decide +kernel
theorem dX9_best_21 : decode cX9_best 21 = .ok (.iload_n 3, 1) := by decide +kernel
theorem dX9_best_22 : decode cX9_best 22 = .ok (.if_icmp .ge 9, 3) := by decide +kernel
theorem dX9_best_25 : decode cX9_best 25 = .ok (.iload_n 3, 1) := by decide +kernel
theorem dX9_best_26 : decode cX9_best 26 = .ok (.bipush 24, 2) := by decide +kernel
theorem dX9_best_28 : decode cX9_best 28 = .ok (.if_icmp .le 7, 3) := by decide +kernel
theorem dX9_best_31 : decode cX9_best 31 = .ok (.ldc2_w 273, 3) := by decide +kernel
theorem dX9_best_34 : decode cX9_best 34 = .ok (.lreturn, 1) := by decide +kernel
theorem dX9_best_35 : decode cX9_best 35 = .ok (.aload_n 0, 1) := by decide +kernel
theorem dX9_best_36 : decode cX9_best 36 = .ok (.iload_n 1, 1) := by decide +kernel
theorem dX9_best_37 : decode cX9_best 37 = .ok (.iload_n 2, 1) := by decide +kernel
theorem dX9_best_38 : decode cX9_best 38 = .ok (.iload_n 3, 1) := by decide +kernel
theorem dX9_best_39 : decode cX9_best 39 = .ok (.invokevirtual 275, 3) := by decide +kernel
theorem dX9_best_42 : decode cX9_best 42 = .ok (.istore 4, 2) := by decide +kernel
theorem dX9_best_44 : decode cX9_best 44 = .ok (.iload 4, 2) := by decide +kernel
theorem dX9_best_46 : decode cX9_best 46 = .ok (.iconst (-1), 1) := by decide +kernel
theorem dX9_best_47 : decode cX9_best 47 = .ok (.if_icmp .ne 7, 3) := by decide +kernel
theorem dX9_best_50 : decode cX9_best 50 = .ok (.ldc2_w 273, 3) := by decide +kernel
theorem dX9_best_53 : decode cX9_best 53 = .ok (.lreturn, 1) := by decide +kernel
theorem dX9_best_54 : decode cX9_best 54 = .ok (.aload_n 0, 1) := by decide +kernel
theorem dX9_best_55 : decode cX9_best 55 = .ok (.iload_n 2, 1) := by decide +kernel
theorem dX9_best_56 : decode cX9_best 56 = .ok (.putfield 208, 3) := by decide +kernel
theorem dX9_best_59 : decode cX9_best 59 = .ok (.aload_n 0, 1) := by decide +kernel
theorem dX9_best_60 : decode cX9_best 60 = .ok (.iload_n 3, 1) := by decide +kernel
theorem dX9_best_61 : decode cX9_best 61 = .ok (.putfield 211, 3) := by decide +kernel
theorem dX9_best_64 : decode cX9_best 64 = .ok (.iconst 0, 1) := by decide +kernel
theorem dX9_best_65 : decode cX9_best 65 = .ok (.istore 5, 2) := by decide +kernel
theorem dX9_best_67 : decode cX9_best 67 = .ok (.iload 5, 2) := by decide +kernel
theorem dX9_best_69 : decode cX9_best 69 = .ok (.iload_n 3, 1) := by decide +kernel
theorem dX9_best_70 : decode cX9_best 70 = .ok (.iload_n 2, 1) := by decide +kernel
theorem dX9_best_71 : decode cX9_best 71 = .ok (.isub, 1) := by decide +kernel
theorem dX9_best_72 : decode cX9_best 72 = .ok (.if_icmp .ge 29, 3) := by decide +kernel
theorem dX9_best_75 : decode cX9_best 75 = .ok (.aload_n 0, 1) := by decide +kernel
theorem dX9_best_76 : decode cX9_best 76 = .ok (.getfield 66, 3) := by decide +kernel
theorem dX9_best_79 : decode cX9_best 79 = .ok (.iload 5, 2) := by decide +kernel
theorem dX9_best_81 : decode cX9_best 81 = .ok (.aload_n 0, 1) := by decide +kernel
theorem dX9_best_82 : decode cX9_best 82 = .ok (.getfield 60, 3) := by decide +kernel
theorem dX9_best_85 : decode cX9_best 85 = .ok (.bipush 24, 2) := by decide +kernel
theorem dX9_best_87 : decode cX9_best 87 = .ok (.iload 4, 2) := by decide +kernel
theorem dX9_best_89 : decode cX9_best 89 = .ok (.imul, 1) := by decide +kernel
theorem dX9_best_90 : decode cX9_best 90 = .ok (.iload 5, 2) := by decide +kernel
theorem dX9_best_92 : decode cX9_best 92 = .ok (.iadd, 1) := by decide +kernel
theorem dX9_best_93 : decode cX9_best 93 = .ok (.iaload, 1) := by decide +kernel
theorem dX9_best_94 : decode cX9_best 94 = .ok (.iastore, 1) := by decide +kernel
theorem dX9_best_95 : decode cX9_best 95 = .ok (.iinc 5 1, 3) := by decide +kernel
theorem dX9_best_98 : decode cX9_best 98 = .ok (.goto (-31), 3) := by decide +kernel
theorem dX9_best_101 : decode cX9_best 101 = .ok (.aload_n 0, 1) := by decide +kernel
theorem dX9_best_102 : decode cX9_best 102 = .ok (.getfield 54, 3) := by decide +kernel
theorem dX9_best_105 : decode cX9_best 105 = .ok (.iload 4, 2) := by decide +kernel
theorem dX9_best_107 : decode cX9_best 107 = .ok (.laload, 1) := by decide +kernel
theorem dX9_best_108 : decode cX9_best 108 = .ok (.lreturn, 1) := by decide +kernel
theorem dX9_had_0 : decode cX9_had 0 = .ok (.aload_n 0, 1) := by decide +kernel
theorem dX9_had_1 : decode cX9_had 1 = .ok (.iconst 0, 1) := by decide +kernel
theorem dX9_had_2 : decode cX9_had 2 = .ok (.putfield 87, 3) := by decide +kernel
theorem dX9_had_5 : decode cX9_had 5 = .ok (.iload_n 1, 1) := by decide +kernel
theorem dX9_had_6 : decode cX9_had 6 = .ok (.aload_n 0, 1) := by decide +kernel
theorem dX9_had_7 : decode cX9_had 7 = .ok (.getfield 208, 3) := by decide +kernel
theorem dX9_had_10 : decode cX9_had 10 = .ok (.if_icmp .lt 11, 3) := by decide +kernel
theorem dX9_had_13 : decode cX9_had 13 = .ok (.iload_n 1, 1) := by decide +kernel
theorem dX9_had_14 : decode cX9_had 14 = .ok (.aload_n 0, 1) := by decide +kernel
theorem dX9_had_15 : decode cX9_had 15 = .ok (.getfield 211, 3) := by decide +kernel
theorem dX9_had_18 : decode cX9_had 18 = .ok (.if_icmp .lt 7, 3) := by decide +kernel
theorem dX9_had_21 : decode cX9_had 21 = .ok (.iconst (-1), 1) := by decide +kernel
theorem dX9_had_22 : decode cX9_had 22 = .ok (.goto 14, 3) := by decide +kernel
theorem dX9_had_25 : decode cX9_had 25 = .ok (.aload_n 0, 1) := by decide +kernel
theorem dX9_had_26 : decode cX9_had 26 = .ok (.getfield 66, 3) := by decide +kernel
theorem dX9_had_29 : decode cX9_had 29 = .ok (.iload_n 1, 1) := by decide +kernel
theorem dX9_had_30 : decode cX9_had 30 = .ok (.aload_n 0, 1) := by decide +kernel
theorem dX9_had_31 : decode cX9_had 31 = .ok (.getfield 208, 3) := by decide +kernel
theorem dX9_had_34 : decode cX9_had 34 = .ok (.isub, 1) := by decide +kernel
theorem dX9_had_35 : decode cX9_had 35 = .ok (.iaload, 1) := by decide +kernel
theorem dX9_had_36 : decode cX9_had 36 = .ok (.ireturn, 1) := by decide +kernel
theorem dX9_bills_0 : decode cX9_bills 0 = .ok (.aload_n 0, 1) := by decide +kernel
theorem dX9_bills_1 : decode cX9_bills 1 = .ok (.iconst 0, 1) := by decide +kernel
theorem dX9_bills_2 : decode cX9_bills 2 = .ok (.putfield 87, 3) := by decide +kernel
theorem dX9_bills_5 : decode cX9_bills 5 = .ok (.iconst 1, 1) := by decide +kernel
theorem dX9_bills_6 : decode cX9_bills 6 = .ok (.istore_n 1, 1) := by decide +kernel
theorem dX9_bills_7 : decode cX9_bills 7 = .ok (.iload_n 1, 1) := by decide +kernel
theorem dX9_bills_8 : decode cX9_bills 8 = .ok (.bipush 16, 2) := by decide +kernel
theorem dX9_bills_10 : decode cX9_bills 10 = .ok (.if_icmp .ge 41, 3) := by decide +kernel
theorem dX9_bills_13 : decode cX9_bills 13 = .ok (.aload_n 0, 1) := by decide +kernel
theorem dX9_bills_14 : decode cX9_bills 14 = .ok (.iload_n 1, 1) := by decide +kernel
theorem dX9_bills_15 : decode cX9_bills 15 = .ok (.iconst 0, 1) := by decide +kernel
theorem dX9_bills_16 : decode cX9_bills 16 = .ok (.bipush 24, 2) := by decide +kernel
theorem dX9_bills_18 : decode cX9_bills 18 = .ok (.invokevirtual 275, 3) := by decide +kernel
theorem dX9_bills_21 : decode cX9_bills 21 = .ok (.istore_n 2, 1) := by decide +kernel
theorem dX9_bills_22 : decode cX9_bills 22 = .ok (.aload_n 0, 1) := by decide +kernel
theorem dX9_bills_23 : decode cX9_bills 23 = .ok (.getfield 69, 3) := by decide +kernel
theorem dX9_bills_26 : decode cX9_bills 26 = .ok (.iload_n 1, 1) := by decide +kernel
theorem dX9_bills_27 : decode cX9_bills 27 = .ok (.iload_n 2, 1) := by decide +kernel
theorem dX9_bills_28 : decode cX9_bills 28 = .ok (.iconst (-1), 1) := by decide +kernel
theorem dX9_bills_29 : decode cX9_bills 29 = .ok (.if_icmp .ne 9, 3) := by decide +kernel
theorem dX9_bills_32 : decode cX9_bills 32 = .ok (.ldc2_w 258, 3) := by decide +kernel
theorem dX9_bills_35 : decode cX9_bills 35 = .ok (.goto 9, 3) := by decide +kernel
theorem dX9_bills_38 : decode cX9_bills 38 = .ok (.aload_n 0, 1) := by decide +kernel
theorem dX9_bills_39 : decode cX9_bills 39 = .ok (.getfield 54, 3) := by decide +kernel
theorem dX9_bills_42 : decode cX9_bills 42 = .ok (.iload_n 2, 1) := by decide +kernel
theorem dX9_bills_43 : decode cX9_bills 43 = .ok (.laload, 1) := by decide +kernel
theorem dX9_bills_44 : decode cX9_bills 44 = .ok (.lastore, 1) := by decide +kernel
theorem dX9_bills_45 : decode cX9_bills 45 = .ok (.iinc 1 1, 3) := by decide +kernel
theorem dX9_bills_48 : decode cX9_bills 48 = .ok (.goto (-41), 3) := by decide +kernel
theorem dX9_bills_51 : decode cX9_bills 51 = .ok (.aload_n 0, 1) := by decide +kernel
theorem dX9_bills_52 : decode cX9_bills 52 = .ok (.getfield 72, 3) := by decide +kernel
theorem dX9_bills_55 : decode cX9_bills 55 = .ok (.iconst 0, 1) := by decide +kernel
theorem dX9_bills_56 : decode cX9_bills 56 = .ok (.lconst 0, 1) := by decide +kernel
theorem dX9_bills_57 : decode cX9_bills 57 = .ok (.lastore, 1) := by decide +kernel
theorem dX9_bills_58 : decode cX9_bills 58 = .ok (.iconst 1, 1) := by decide +kernel
theorem dX9_bills_59 : decode cX9_bills 59 = .ok (.istore_n 1, 1) := by decide +kernel
theorem dX9_bills_60 : decode cX9_bills 60 = .ok (.iload_n 1, 1) := by decide +kernel
theorem dX9_bills_61 : decode cX9_bills 61 = .ok (.bipush 16, 2) := by decide +kernel
theorem dX9_bills_63 : decode cX9_bills 63 = .ok (.if_icmp .ge 127, 3) := by decide +kernel
theorem dX9_bills_66 : decode cX9_bills 66 = .ok (.aload_n 0, 1) := by decide +kernel
theorem dX9_bills_67 : decode cX9_bills 67 = .ok (.getfield 72, 3) := by decide +kernel
theorem dX9_bills_70 : decode cX9_bills 70 = .ok (.iload_n 1, 1) := by decide +kernel
theorem dX9_bills_71 : decode cX9_bills 71 = .ok (.ldc2_w 258, 3) := by decide +kernel
theorem dX9_bills_74 : decode cX9_bills 74 = .ok (.lastore, 1) := by decide +kernel
theorem dX9_bills_75 : decode cX9_bills 75 = .ok (.iconst 1, 1) := by decide +kernel
theorem dX9_bills_76 : decode cX9_bills 76 = .ok (.istore_n 2, 1) := by decide +kernel
theorem dX9_bills_77 : decode cX9_bills 77 = .ok (.iload_n 2, 1) := by decide +kernel
theorem dX9_bills_78 : decode cX9_bills 78 = .ok (.iload_n 1, 1) := by decide +kernel
theorem dX9_bills_79 : decode cX9_bills 79 = .ok (.if_icmp .gt 105, 3) := by decide +kernel
theorem dX9_bills_82 : decode cX9_bills 82 = .ok (.iload_n 2, 1) := by decide +kernel
theorem dX9_bills_83 : decode cX9_bills 83 = .ok (.iload_n 1, 1) := by decide +kernel
theorem dX9_bills_84 : decode cX9_bills 84 = .ok (.iconst (-1), 1) := by decide +kernel
theorem dX9_bills_85 : decode cX9_bills 85 = .ok (.ixor, 1) := by decide +kernel
theorem dX9_bills_86 : decode cX9_bills 86 = .ok (.iand, 1) := by decide +kernel
theorem dX9_bills_87 : decode cX9_bills 87 = .ok (.ifCond .ne 91, 3) := by decide +kernel
theorem dX9_bills_90 : decode cX9_bills 90 = .ok (.iload_n 2, 1) := by decide +kernel
theorem dX9_bills_91 : decode cX9_bills 91 = .ok (.iload_n 1, 1) := by decide +kernel
theorem dX9_bills_92 : decode cX9_bills 92 = .ok (.iand, 1) := by decide +kernel
theorem dX9_bills_93 : decode cX9_bills 93 = .ok (.iload_n 1, 1) := by decide +kernel
theorem dX9_bills_94 : decode cX9_bills 94 = .ok (.ineg, 1) := by decide +kernel
theorem dX9_bills_95 : decode cX9_bills 95 = .ok (.iand, 1) := by decide +kernel
theorem dX9_bills_96 : decode cX9_bills 96 = .ok (.ifCond .eq 82, 3) := by decide +kernel
theorem dX9_bills_99 : decode cX9_bills 99 = .ok (.aload_n 0, 1) := by decide +kernel
theorem dX9_bills_100 : decode cX9_bills 100 = .ok (.getfield 69, 3) := by decide +kernel
theorem dX9_bills_103 : decode cX9_bills 103 = .ok (.iload_n 2, 1) := by decide +kernel
theorem dX9_bills_104 : decode cX9_bills 104 = .ok (.laload, 1) := by decide +kernel
theorem dX9_bills_105 : decode cX9_bills 105 = .ok (.ldc2_w 258, 3) := by decide +kernel
theorem dX9_bills_108 : decode cX9_bills 108 = .ok (.lcmp, 1) := by decide +kernel
theorem dX9_bills_109 : decode cX9_bills 109 = .ok (.ifCond .eq 69, 3) := by decide +kernel
theorem dX9_bills_112 : decode cX9_bills 112 = .ok (.aload_n 0, 1) := by decide +kernel
theorem dX9_bills_113 : decode cX9_bills 113 = .ok (.getfield 72, 3) := by decide +kernel
theorem dX9_bills_116 : decode cX9_bills 116 = .ok (.iload_n 1, 1) := by decide +kernel
theorem dX9_bills_117 : decode cX9_bills 117 = .ok (.iload_n 2, 1) := by decide +kernel
theorem dX9_bills_118 : decode cX9_bills 118 = .ok (.iconst (-1), 1) := by decide +kernel
theorem dX9_bills_119 : decode cX9_bills 119 = .ok (.ixor, 1) := by decide +kernel
theorem dX9_bills_120 : decode cX9_bills 120 = .ok (.iand, 1) := by decide +kernel
theorem dX9_bills_121 : decode cX9_bills 121 = .ok (.laload, 1) := by decide +kernel
theorem dX9_bills_122 : decode cX9_bills 122 = .ok (.ldc2_w 258, 3) := by decide +kernel
theorem dX9_bills_125 : decode cX9_bills 125 = .ok (.lcmp, 1) := by decide +kernel
theorem dX9_bills_126 : decode cX9_bills 126 = .ok (.ifCond .ne 6, 3) := by decide +kernel
theorem dX9_bills_129 : decode cX9_bills 129 = .ok (.goto 49, 3) := by decide +kernel
theorem dX9_bills_132 : decode cX9_bills 132 = .ok (.aload_n 0, 1) := by decide +kernel
theorem dX9_bills_133 : decode cX9_bills 133 = .ok (.getfield 69, 3) := by decide +kernel
theorem dX9_bills_136 : decode cX9_bills 136 = .ok (.iload_n 2, 1) := by decide +kernel
theorem dX9_bills_137 : decode cX9_bills 137 = .ok (.laload, 1) := by decide +kernel
theorem dX9_bills_138 : decode cX9_bills 138 = .ok (.aload_n 0, 1) := by decide +kernel
theorem dX9_bills_139 : decode cX9_bills 139 = .ok (.getfield 72, 3) := by decide +kernel
theorem dX9_bills_142 : decode cX9_bills 142 = .ok (.iload_n 1, 1) := by decide +kernel
theorem dX9_bills_143 : decode cX9_bills 143 = .ok (.iload_n 2, 1) := by decide +kernel
theorem dX9_bills_144 : decode cX9_bills 144 = .ok (.iconst (-1), 1) := by decide +kernel
theorem dX9_bills_145 : decode cX9_bills 145 = .ok (.ixor, 1) := by decide +kernel
theorem dX9_bills_146 : decode cX9_bills 146 = .ok (.iand, 1) := by decide +kernel
theorem dX9_bills_147 : decode cX9_bills 147 = .ok (.laload, 1) := by decide +kernel
theorem dX9_bills_148 : decode cX9_bills 148 = .ok (.ladd, 1) := by decide +kernel
theorem dX9_bills_149 : decode cX9_bills 149 = .ok (.lstore_n 3, 1) := by decide +kernel
theorem dX9_bills_150 : decode cX9_bills 150 = .ok (.lload_n 3, 1) := by decide +kernel
theorem dX9_bills_151 : decode cX9_bills 151 = .ok (.aload_n 0, 1) := by decide +kernel
theorem dX9_bills_152 : decode cX9_bills 152 = .ok (.getfield 72, 3) := by decide +kernel
theorem dX9_bills_155 : decode cX9_bills 155 = .ok (.iload_n 1, 1) := by decide +kernel
theorem dX9_bills_156 : decode cX9_bills 156 = .ok (.laload, 1) := by decide +kernel
theorem dX9_bills_157 : decode cX9_bills 157 = .ok (.lcmp, 1) := by decide +kernel
theorem dX9_bills_158 : decode cX9_bills 158 = .ok (.ifCond .lt 6, 3) := by decide +kernel
theorem dX9_bills_161 : decode cX9_bills 161 = .ok (.goto 17, 3) := by decide +kernel
theorem dX9_bills_164 : decode cX9_bills 164 = .ok (.aload_n 0, 1) := by decide +kernel
theorem dX9_bills_165 : decode cX9_bills 165 = .ok (.getfield 72, 3) := by decide +kernel
theorem dX9_bills_168 : decode cX9_bills 168 = .ok (.iload_n 1, 1) := by decide +kernel
theorem dX9_bills_169 : decode cX9_bills 169 = .ok (.lload_n 3, 1) := by decide +kernel
theorem dX9_bills_170 : decode cX9_bills 170 = .ok (.lastore, 1) := by decide +kernel
theorem dX9_bills_171 : decode cX9_bills 171 = .ok (.aload_n 0, 1) := by decide +kernel
theorem dX9_bills_172 : decode cX9_bills 172 = .ok (.getfield 75, 3) := by decide +kernel
theorem dX9_bills_175 : decode cX9_bills 175 = .ok (.iload_n 1, 1) := by decide +kernel
theorem dX9_bills_176 : decode cX9_bills 176 = .ok (.iload_n 2, 1) := by decide +kernel
theorem dX9_bills_177 : decode cX9_bills 177 = .ok (.iastore, 1) := by decide +kernel
theorem dX9_bills_178 : decode cX9_bills 178 = .ok (.iinc 2 1, 3) := by decide +kernel
theorem dX9_bills_181 : decode cX9_bills 181 = .ok (.goto (-104), 3) := by decide +kernel
theorem dX9_bills_184 : decode cX9_bills 184 = .ok (.iinc 1 1, 3) := by decide +kernel
theorem dX9_bills_187 : decode cX9_bills 187 = .ok (.goto (-127), 3) := by decide +kernel
theorem dX9_bills_190 : decode cX9_bills 190 = .ok (.aload_n 0, 1) := by decide +kernel
theorem dX9_bills_191 : decode cX9_bills 191 = .ok (.getfield 72, 3) := by decide +kernel
theorem dX9_bills_194 : decode cX9_bills 194 = .ok (.bipush 15, 2) := by decide +kernel
theorem dX9_bills_196 : decode cX9_bills 196 = .ok (.laload, 1) := by decide +kernel
theorem dX9_bills_197 : decode cX9_bills 197 = .ok (.ldc2_w 258, 3) := by decide +kernel
theorem dX9_bills_200 : decode cX9_bills 200 = .ok (.lcmp, 1) := by decide +kernel
theorem dX9_bills_201 : decode cX9_bills 201 = .ok (.ifCond .ne 7, 3) := by decide +kernel
theorem dX9_bills_204 : decode cX9_bills 204 = .ok (.ldc2_w 273, 3) := by decide +kernel
theorem dX9_bills_207 : decode cX9_bills 207 = .ok (.lreturn, 1) := by decide +kernel
theorem dX9_bills_208 : decode cX9_bills 208 = .ok (.bipush 15, 2) := by decide +kernel
theorem dX9_bills_210 : decode cX9_bills 210 = .ok (.istore_n 1, 1) := by decide +kernel
theorem dX9_bills_211 : decode cX9_bills 211 = .ok (.iload_n 1, 1) := by decide +kernel
theorem dX9_bills_212 : decode cX9_bills 212 = .ok (.ifCond .le 48, 3) := by decide +kernel
theorem dX9_bills_215 : decode cX9_bills 215 = .ok (.aload_n 0, 1) := by decide +kernel
theorem dX9_bills_216 : decode cX9_bills 216 = .ok (.getfield 75, 3) := by decide +kernel
theorem dX9_bills_219 : decode cX9_bills 219 = .ok (.iload_n 1, 1) := by decide +kernel
theorem dX9_bills_220 : decode cX9_bills 220 = .ok (.iaload, 1) := by decide +kernel
theorem dX9_bills_221 : decode cX9_bills 221 = .ok (.istore_n 2, 1) := by decide +kernel
theorem dX9_bills_222 : decode cX9_bills 222 = .ok (.iconst 0, 1) := by decide +kernel
theorem dX9_bills_223 : decode cX9_bills 223 = .ok (.istore_n 3, 1) := by decide +kernel
theorem dX9_bills_224 : decode cX9_bills 224 = .ok (.iload_n 3, 1) := by decide +kernel
theorem dX9_bills_225 : decode cX9_bills 225 = .ok (.iconst 4, 1) := by decide +kernel
theorem dX9_bills_226 : decode cX9_bills 226 = .ok (.if_icmp .ge 25, 3) := by decide +kernel
theorem dX9_bills_229 : decode cX9_bills 229 = .ok (.iload_n 2, 1) := by decide +kernel
theorem dX9_bills_230 : decode cX9_bills 230 = .ok (.iload_n 3, 1) := by decide +kernel
theorem dX9_bills_231 : decode cX9_bills 231 = .ok (.ishr, 1) := by decide +kernel
theorem dX9_bills_232 : decode cX9_bills 232 = .ok (.iconst 1, 1) := by decide +kernel
theorem dX9_bills_233 : decode cX9_bills 233 = .ok (.iand, 1) := by decide +kernel
theorem dX9_bills_234 : decode cX9_bills 234 = .ok (.iconst 1, 1) := by decide +kernel
theorem dX9_bills_235 : decode cX9_bills 235 = .ok (.if_icmp .ne 10, 3) := by decide +kernel
theorem dX9_bills_238 : decode cX9_bills 238 = .ok (.aload_n 0, 1) := by decide +kernel
theorem dX9_bills_239 : decode cX9_bills 239 = .ok (.getfield 78, 3) := by decide +kernel
theorem dX9_bills_242 : decode cX9_bills 242 = .ok (.iload_n 3, 1) := by decide +kernel
theorem dX9_bills_243 : decode cX9_bills 243 = .ok (.iload_n 2, 1) := by decide +kernel
theorem dX9_bills_244 : decode cX9_bills 244 = .ok (.iastore, 1) := by decide +kernel
theorem dX9_bills_245 : decode cX9_bills 245 = .ok (.iinc 3 1, 3) := by decide +kernel
theorem dX9_bills_248 : decode cX9_bills 248 = .ok (.goto (-24), 3) := by decide +kernel
theorem dX9_bills_251 : decode cX9_bills 251 = .ok (.iload_n 1, 1) := by decide +kernel
theorem dX9_bills_252 : decode cX9_bills 252 = .ok (.iload_n 2, 1) := by decide +kernel
theorem dX9_bills_253 : decode cX9_bills 253 = .ok (.iconst (-1), 1) := by decide +kernel
theorem dX9_bills_254 : decode cX9_bills 254 = .ok (.ixor, 1) := by decide +kernel
theorem dX9_bills_255 : decode cX9_bills 255 = .ok (.iand, 1) := by decide +kernel
theorem dX9_bills_256 : decode cX9_bills 256 = .ok (.istore_n 1, 1) := by decide +kernel
theorem dX9_bills_257 : decode cX9_bills 257 = .ok (.goto (-46), 3) := by decide +kernel
theorem dX9_bills_260 : decode cX9_bills 260 = .ok (.aload_n 0, 1) := by decide +kernel
theorem dX9_bills_261 : decode cX9_bills 261 = .ok (.getfield 72, 3) := by decide +kernel
theorem dX9_bills_264 : decode cX9_bills 264 = .ok (.bipush 15, 2) := by decide +kernel
theorem dX9_bills_266 : decode cX9_bills 266 = .ok (.laload, 1) := by decide +kernel
theorem dX9_bills_267 : decode cX9_bills 267 = .ok (.lreturn, 1) := by decide +kernel
theorem dX9_group_0 : decode cX9_group 0 = .ok (.aload_n 0, 1) := by decide +kernel
theorem dX9_group_1 : decode cX9_group 1 = .ok (.iconst 0, 1) := by decide +kernel
theorem dX9_group_2 : decode cX9_group 2 = .ok (.putfield 87, 3) := by decide +kernel
theorem dX9_group_5 : decode cX9_group 5 = .ok (.iload_n 1, 1) := by decide +kernel
theorem dX9_group_6 : decode cX9_group 6 = .ok (.iconst 4, 1) := by decide +kernel
theorem dX9_group_7 : decode cX9_group 7 = .ok (.invokestatic 224, 3) := by decide +kernel
theorem dX9_group_10 : decode cX9_group 10 = .ok (.ifCond .eq 21, 3) := by decide +kernel
theorem dX9_group_13 : decode cX9_group 13 = .ok (.aload_n 0, 1) := by decide +kernel
theorem dX9_group_14 : decode cX9_group 14 = .ok (.getfield 78, 3) := by decide +kernel
theorem dX9_group_17 : decode cX9_group 17 = .ok (.iload_n 1, 1) := by decide +kernel
theorem dX9_group_18 : decode cX9_group 18 = .ok (.iaload, 1) := by decide +kernel
theorem dX9_group_19 : decode cX9_group 19 = .ok (.ifCond .le 12, 3) := by decide +kernel
theorem dX9_group_22 : decode cX9_group 22 = .ok (.aload_n 0, 1) := by decide +kernel
theorem dX9_group_23 : decode cX9_group 23 = .ok (.getfield 78, 3) := by decide +kernel
theorem dX9_group_26 : decode cX9_group 26 = .ok (.iload_n 1, 1) := by decide +kernel
theorem dX9_group_27 : decode cX9_group 27 = .ok (.iaload, 1) := by decide +kernel
theorem dX9_group_28 : decode cX9_group 28 = .ok (.goto 4, 3) := by decide +kernel
theorem dX9_group_31 : decode cX9_group 31 = .ok (.iconst (-1), 1) := by decide +kernel
theorem dX9_group_32 : decode cX9_group 32 = .ok (.ireturn, 1) := by decide +kernel
theorem dX9_span_0 : decode cX9_span 0 = .ok (.aload_n 0, 1) := by decide +kernel
theorem dX9_span_1 : decode cX9_span 1 = .ok (.iconst 0, 1) := by decide +kernel
theorem dX9_span_2 : decode cX9_span 2 = .ok (.putfield 87, 3) := by decide +kernel
theorem dX9_span_5 : decode cX9_span 5 = .ok (.iload_n 1, 1) := by decide +kernel
theorem dX9_span_6 : decode cX9_span 6 = .ok (.iconst 4, 1) := by decide +kernel
theorem dX9_span_7 : decode cX9_span 7 = .ok (.invokestatic 224, 3) := by decide +kernel
theorem dX9_span_10 : decode cX9_span 10 = .ok (.ifCond .eq 19, 3) := by decide +kernel
theorem dX9_span_13 : decode cX9_span 13 = .ok (.iload_n 2, 1) := by decide +kernel
theorem dX9_span_14 : decode cX9_span 14 = .ok (.ifCond .lt 15, 3) := by decide +kernel
theorem dX9_span_17 : decode cX9_span 17 = .ok (.iload_n 2, 1) := by decide +kernel
theorem dX9_span_18 : decode cX9_span 18 = .ok (.iload_n 3, 1) := by decide +kernel
theorem dX9_span_19 : decode cX9_span 19 = .ok (.if_icmp .gt 10, 3) := by decide +kernel
theorem dX9_span_22 : decode cX9_span 22 = .ok (.iload_n 3, 1) := by decide +kernel
theorem dX9_span_23 : decode cX9_span 23 = .ok (.sipush 20000, 3) := by decide +kernel
theorem dX9_span_26 : decode cX9_span 26 = .ok (.if_icmp .le 5, 3) := by decide +kernel
theorem dX9_span_29 : decode cX9_span 29 = .ok (.iconst 0, 1) := by decide +kernel
theorem dX9_span_30 : decode cX9_span 30 = .ok (.ireturn, 1) := by decide +kernel
theorem dX9_span_31 : decode cX9_span 31 = .ok (.aload_n 0, 1) := by decide +kernel
theorem dX9_span_32 : decode cX9_span 32 = .ok (.getfield 81, 3) := by decide +kernel
theorem dX9_span_35 : decode cX9_span 35 = .ok (.iload_n 1, 1) := by decide +kernel
theorem dX9_span_36 : decode cX9_span 36 = .ok (.iload_n 2, 1) := by decide +kernel
theorem dX9_span_37 : decode cX9_span 37 = .ok (.iastore, 1) := by decide +kernel
theorem dX9_span_38 : decode cX9_span 38 = .ok (.aload_n 0, 1) := by decide +kernel
theorem dX9_span_39 : decode cX9_span 39 = .ok (.getfield 84, 3) := by decide +kernel
theorem dX9_span_42 : decode cX9_span 42 = .ok (.iload_n 1, 1) := by decide +kernel
theorem dX9_span_43 : decode cX9_span 43 = .ok (.iload_n 3, 1) := by decide +kernel
theorem dX9_span_44 : decode cX9_span 44 = .ok (.iastore, 1) := by decide +kernel
theorem dX9_span_45 : decode cX9_span 45 = .ok (.iconst 1, 1) := by decide +kernel
theorem dX9_span_46 : decode cX9_span 46 = .ok (.ireturn, 1) := by decide +kernel
theorem dX9_above_0 : decode cX9_above 0 = .ok (.aload_n 0, 1) := by decide +kernel
theorem dX9_above_1 : decode cX9_above 1 = .ok (.iload_n 1, 1) := by decide +kernel
theorem dX9_above_2 : decode cX9_above 2 = .ok (.invokevirtual 214, 3) := by decide +kernel
theorem dX9_above_5 : decode cX9_above 5 = .ok (.ifCond .eq 11, 3) := by decide +kernel
theorem dX9_above_8 : decode cX9_above 8 = .ok (.aload_n 0, 1) := by decide +kernel
theorem dX9_above_9 : decode cX9_above 9 = .ok (.iload_n 2, 1) := by decide +kernel
theorem dX9_above_10 : decode cX9_above 10 = .ok (.invokevirtual 214, 3) := by decide +kernel
theorem dX9_above_13 : decode cX9_above 13 = .ok (.ifCond .ne 9, 3) := by decide +kernel
theorem dX9_above_16 : decode cX9_above 16 = .ok (.aload_n 0, 1) := by decide +kernel
theorem dX9_above_17 : decode cX9_above 17 = .ok (.invokevirtual 217, 3) := by decide +kernel
theorem dX9_above_20 : decode cX9_above 20 = .ok (.i2l, 1) := by decide +kernel
theorem dX9_above_21 : decode cX9_above 21 = .ok (.lreturn, 1) := by decide +kernel
theorem dX9_above_22 : decode cX9_above 22 = .ok (.aload_n 0, 1) := by decide +kernel
theorem dX9_above_23 : decode cX9_above 23 = .ok (.getfield 17, 3) := by decide +kernel
theorem dX9_above_26 : decode cX9_above 26 = .ok (.iload_n 1, 1) := by decide +kernel
theorem dX9_above_27 : decode cX9_above 27 = .ok (.iaload, 1) := by decide +kernel
theorem dX9_above_28 : decode cX9_above 28 = .ok (.aload_n 0, 1) := by decide +kernel
theorem dX9_above_29 : decode cX9_above 29 = .ok (.getfield 17, 3) := by decide +kernel
theorem dX9_above_32 : decode cX9_above 32 = .ok (.iload_n 2, 1) := by decide +kernel
theorem dX9_above_33 : decode cX9_above 33 = .ok (.iaload, 1) := by decide +kernel
theorem dX9_above_34 : decode cX9_above 34 = .ok (.isub, 1) := by decide +kernel
theorem dX9_above_35 : decode cX9_above 35 = .ok (.i2l, 1) := by decide +kernel
theorem dX9_above_36 : decode cX9_above 36 = .ok (.lstore 4, 2) := by decide +kernel
theorem dX9_above_38 : decode cX9_above 38 = .ok (.iconst 0, 1) := by decide +kernel
theorem dX9_above_39 : decode cX9_above 39 = .ok (.istore 6, 2) := by decide +kernel
theorem dX9_above_41 : decode cX9_above 41 = .ok (.iload 6, 2) := by decide +kernel
theorem dX9_above_43 : decode cX9_above 43 = .ok (.iconst 4, 1) := by decide +kernel
theorem dX9_above_44 : decode cX9_above 44 = .ok (.if_icmp .ge 175, 3) := by decide +kernel
theorem dX9_above_47 : decode cX9_above 47 = .ok (.aload_n 0, 1) := by decide +kernel
theorem dX9_above_48 : decode cX9_above 48 = .ok (.getfield 84, 3) := by decide +kernel
theorem dX9_above_51 : decode cX9_above 51 = .ok (.iload 6, 2) := by decide +kernel
theorem dX9_above_53 : decode cX9_above 53 = .ok (.iaload, 1) := by decide +kernel
theorem dX9_above_54 : decode cX9_above 54 = .ok (.ifCond .ne 6, 3) := by decide +kernel
theorem dX9_above_57 : decode cX9_above 57 = .ok (.goto 156, 3) := by decide +kernel
theorem dX9_above_60 : decode cX9_above 60 = .ok (.iconst 4, 1) := by decide +kernel
theorem dX9_above_61 : decode cX9_above 61 = .ok (.iload_n 1, 1) := by decide +kernel
theorem dX9_above_62 : decode cX9_above 62 = .ok (.imul, 1) := by decide +kernel
theorem dX9_above_63 : decode cX9_above 63 = .ok (.iload 6, 2) := by decide +kernel
theorem dX9_above_65 : decode cX9_above 65 = .ok (.iadd, 1) := by decide +kernel
theorem dX9_above_66 : decode cX9_above 66 = .ok (.istore 7, 2) := by decide +kernel
theorem dX9_above_68 : decode cX9_above 68 = .ok (.iconst 4, 1) := by decide +kernel
theorem dX9_above_69 : decode cX9_above 69 = .ok (.iload_n 2, 1) := by decide +kernel
theorem dX9_above_70 : decode cX9_above 70 = .ok (.imul, 1) := by decide +kernel
theorem dX9_above_71 : decode cX9_above 71 = .ok (.iload 6, 2) := by decide +kernel
theorem dX9_above_73 : decode cX9_above 73 = .ok (.iadd, 1) := by decide +kernel
theorem dX9_above_74 : decode cX9_above 74 = .ok (.istore 8, 2) := by decide +kernel
theorem dX9_above_76 : decode cX9_above 76 = .ok (.aload_n 0, 1) := by decide +kernel
theorem dX9_above_77 : decode cX9_above 77 = .ok (.getfield 29, 3) := by decide +kernel
theorem dX9_above_80 : decode cX9_above 80 = .ok (.iload 7, 2) := by decide +kernel
theorem dX9_above_82 : decode cX9_above 82 = .ok (.baload, 1) := by decide +kernel
theorem dX9_above_83 : decode cX9_above 83 = .ok (.ifCond .eq 13, 3) := by decide +kernel
theorem dX9_above_86 : decode cX9_above 86 = .ok (.aload_n 0, 1) := by decide +kernel
theorem dX9_above_87 : decode cX9_above 87 = .ok (.getfield 29, 3) := by decide +kernel
theorem dX9_above_90 : decode cX9_above 90 = .ok (.iload 8, 2) := by decide +kernel
theorem dX9_above_92 : decode cX9_above 92 = .ok (.baload, 1) := by decide +kernel
theorem dX9_above_93 : decode cX9_above 93 = .ok (.ifCond .ne 9, 3) := by decide +kernel
theorem dX9_above_96 : decode cX9_above 96 = .ok (.aload_n 0, 1) := by decide +kernel
theorem dX9_above_97 : decode cX9_above 97 = .ok (.invokevirtual 217, 3) := by decide +kernel
theorem dX9_above_100 : decode cX9_above 100 = .ok (.i2l, 1) := by decide +kernel
theorem dX9_above_101 : decode cX9_above 101 = .ok (.lreturn, 1) := by decide +kernel
theorem dX9_above_102 : decode cX9_above 102 = .ok (.aload_n 0, 1) := by decide +kernel
theorem dX9_above_103 : decode cX9_above 103 = .ok (.iload 7, 2) := by decide +kernel
theorem dX9_above_105 : decode cX9_above 105 = .ok (.aload_n 0, 1) := by decide +kernel
theorem dX9_above_106 : decode cX9_above 106 = .ok (.getfield 81, 3) := by decide +kernel
theorem dX9_above_109 : decode cX9_above 109 = .ok (.iload 6, 2) := by decide +kernel
theorem dX9_above_111 : decode cX9_above 111 = .ok (.iaload, 1) := by decide +kernel
theorem dX9_above_112 : decode cX9_above 112 = .ok (.invokevirtual 238, 3) := by decide +kernel
theorem dX9_above_115 : decode cX9_above 115 = .ok (.aload_n 0, 1) := by decide +kernel
theorem dX9_above_116 : decode cX9_above 116 = .ok (.iload 8, 2) := by decide +kernel
theorem dX9_above_118 : decode cX9_above 118 = .ok (.aload_n 0, 1) := by decide +kernel
theorem dX9_above_119 : decode cX9_above 119 = .ok (.getfield 81, 3) := by decide +kernel
theorem dX9_above_122 : decode cX9_above 122 = .ok (.iload 6, 2) := by decide +kernel
theorem dX9_above_124 : decode cX9_above 124 = .ok (.iaload, 1) := by decide +kernel
theorem dX9_above_125 : decode cX9_above 125 = .ok (.invokevirtual 238, 3) := by decide +kernel
theorem dX9_above_128 : decode cX9_above 128 = .ok (.lsub, 1) := by decide +kernel
theorem dX9_above_129 : decode cX9_above 129 = .ok (.lstore 9, 2) := by decide +kernel
theorem dX9_above_131 : decode cX9_above 131 = .ok (.aload_n 0, 1) := by decide +kernel
theorem dX9_above_132 : decode cX9_above 132 = .ok (.getfield 81, 3) := by decide +kernel
theorem dX9_above_135 : decode cX9_above 135 = .ok (.iload 6, 2) := by decide +kernel
theorem dX9_above_137 : decode cX9_above 137 = .ok (.iaload, 1) := by decide +kernel
theorem dX9_above_138 : decode cX9_above 138 = .ok (.iconst 1, 1) := by decide +kernel
theorem dX9_above_139 : decode cX9_above 139 = .ok (.iadd, 1) := by decide +kernel
theorem dX9_above_140 : decode cX9_above 140 = .ok (.istore 11, 2) := by decide +kernel
theorem dX9_above_142 : decode cX9_above 142 = .ok (.iload 11, 2) := by decide +kernel
theorem dX9_above_144 : decode cX9_above 144 = .ok (.aload_n 0, 1) := by decide +kernel
theorem dX9_above_145 : decode cX9_above 145 = .ok (.getfield 84, 3) := by decide +kernel
theorem dX9_above_148 : decode cX9_above 148 = .ok (.iload 6, 2) := by decide +kernel
theorem dX9_above_150 : decode cX9_above 150 = .ok (.iaload, 1) := by decide +kernel
theorem dX9_above_151 : decode cX9_above 151 = .ok (.if_icmp .gt 55, 3) := by decide +kernel
theorem dX9_above_154 : decode cX9_above 154 = .ok (.aload_n 0, 1) := by decide +kernel
theorem dX9_above_155 : decode cX9_above 155 = .ok (.iload 7, 2) := by decide +kernel
theorem dX9_above_157 : decode cX9_above 157 = .ok (.iload 11, 2) := by decide +kernel
theorem dX9_above_159 : decode cX9_above 159 = .ok (.invokevirtual 238, 3) := by decide +kernel
theorem dX9_above_162 : decode cX9_above 162 = .ok (.aload_n 0, 1) := by decide +kernel
theorem dX9_above_163 : decode cX9_above 163 = .ok (.iload 8, 2) := by decide +kernel
theorem dX9_above_165 : decode cX9_above 165 = .ok (.iload 11, 2) := by decide +kernel
theorem dX9_above_167 : decode cX9_above 167 = .ok (.invokevirtual 238, 3) := by decide +kernel
theorem dX9_above_170 : decode cX9_above 170 = .ok (.lsub, 1) := by decide +kernel
theorem dX9_above_171 : decode cX9_above 171 = .ok (.lstore 12, 2) := by decide +kernel
theorem dX9_above_173 : decode cX9_above 173 = .ok (.iload_n 3, 1) := by decide +kernel
theorem dX9_above_174 : decode cX9_above 174 = .ok (.ifCond .eq 14, 3) := by decide +kernel
theorem dX9_above_177 : decode cX9_above 177 = .ok (.lload 12, 2) := by decide +kernel
theorem dX9_above_179 : decode cX9_above 179 = .ok (.lload 9, 2) := by decide +kernel
theorem dX9_above_181 : decode cX9_above 181 = .ok (.lcmp, 1) := by decide +kernel
theorem dX9_above_182 : decode cX9_above 182 = .ok (.ifCond .le 18, 3) := by decide +kernel
theorem dX9_above_185 : decode cX9_above 185 = .ok (.goto 11, 3) := by decide +kernel
theorem dX9_above_188 : decode cX9_above 188 = .ok (.lload 12, 2) := by decide +kernel
theorem dX9_above_190 : decode cX9_above 190 = .ok (.lload 9, 2) := by decide +kernel
theorem dX9_above_192 : decode cX9_above 192 = .ok (.lcmp, 1) := by decide +kernel
theorem dX9_above_193 : decode cX9_above 193 = .ok (.ifCond .ge 7, 3) := by decide +kernel
theorem dX9_above_196 : decode cX9_above 196 = .ok (.lload 12, 2) := by decide +kernel
theorem dX9_above_198 : decode cX9_above 198 = .ok (.lstore 9, 2) := by decide +kernel
theorem dX9_above_200 : decode cX9_above 200 = .ok (.iinc 11 1, 3) := by decide +kernel
theorem dX9_above_203 : decode cX9_above 203 = .ok (.goto (-61), 3) := by decide +kernel
theorem dX9_above_206 : decode cX9_above 206 = .ok (.lload 4, 2) := by decide +kernel
theorem dX9_above_208 : decode cX9_above 208 = .ok (.lload 9, 2) := by decide +kernel
theorem dX9_above_210 : decode cX9_above 210 = .ok (.ladd, 1) := by decide +kernel
theorem dX9_above_211 : decode cX9_above 211 = .ok (.lstore 4, 2) := by decide +kernel
theorem dX9_above_213 : decode cX9_above 213 = .ok (.iinc 6 1, 3) := by decide +kernel
theorem dX9_above_216 : decode cX9_above 216 = .ok (.goto (-175), 3) := by decide +kernel
theorem dX9_above_219 : decode cX9_above 219 = .ok (.aload_n 0, 1) := by decide +kernel
theorem dX9_above_220 : decode cX9_above 220 = .ok (.iconst 0, 1) := by decide +kernel
theorem dX9_above_221 : decode cX9_above 221 = .ok (.putfield 87, 3) := by decide +kernel
theorem dX9_above_224 : decode cX9_above 224 = .ok (.lload 4, 2) := by decide +kernel
theorem dX9_above_226 : decode cX9_above 226 = .ok (.lreturn, 1) := by decide +kernel
theorem dX9_count_0 : decode cX9_count 0 = .ok (.aload_n 0, 1) := by decide +kernel
theorem dX9_count_1 : decode cX9_count 1 = .ok (.iconst 0, 1) := by decide +kernel
theorem dX9_count_2 : decode cX9_count 2 = .ok (.putfield 87, 3) := by decide +kernel
theorem dX9_count_5 : decode cX9_count 5 = .ok (.iload_n 1, 1) := by decide +kernel
theorem dX9_count_6 : decode cX9_count 6 = .ok (.tableswitch 50 0 3 #[30, 35, 40, 45], 30) := by decide +kernel
theorem dX9_count_36 : decode cX9_count 36 = .ok (.aload_n 0, 1) := by decide +kernel
theorem dX9_count_37 : decode cX9_count 37 = .ok (.getfield 205, 3) := by decide +kernel
theorem dX9_count_40 : decode cX9_count 40 = .ok (.ireturn, 1) := by decide +kernel
theorem dX9_count_41 : decode cX9_count 41 = .ok (.aload_n 0, 1) := by decide +kernel
theorem dX9_count_42 : decode cX9_count 42 = .ok (.getfield 232, 3) := by decide +kernel
theorem dX9_count_45 : decode cX9_count 45 = .ok (.ireturn, 1) := by decide +kernel
theorem dX9_count_46 : decode cX9_count 46 = .ok (.aload_n 0, 1) := by decide +kernel
theorem dX9_count_47 : decode cX9_count 47 = .ok (.getfield 91, 3) := by decide +kernel
theorem dX9_count_50 : decode cX9_count 50 = .ok (.ireturn, 1) := by decide +kernel
theorem dX9_count_51 : decode cX9_count 51 = .ok (.aload_n 0, 1) := by decide +kernel
theorem dX9_count_52 : decode cX9_count 52 = .ok (.getfield 221, 3) := by decide +kernel
theorem dX9_count_55 : decode cX9_count 55 = .ok (.ireturn, 1) := by decide +kernel
theorem dX9_count_56 : decode cX9_count 56 = .ok (.iconst (-1), 1) := by decide +kernel
theorem dX9_count_57 : decode cX9_count 57 = .ok (.ireturn, 1) := by decide +kernel
theorem dJ9_max_7cf53_0 : decode cJ9_max_7cf53 0 = .ok (.iload_n 0, 1) := by decide +kernel
theorem dJ9_max_7cf53_1 : decode cJ9_max_7cf53 1 = .ok (.iload_n 1, 1) := by decide +kernel
theorem dJ9_max_7cf53_2 : decode cJ9_max_7cf53 2 = .ok (.if_icmp .lt 7, 3) := by decide +kernel
theorem dJ9_max_7cf53_5 : decode cJ9_max_7cf53 5 = .ok (.iload_n 0, 1) := by decide +kernel
theorem dJ9_max_7cf53_6 : decode cJ9_max_7cf53 6 = .ok (.goto 4, 3) := by decide +kernel
theorem dJ9_max_7cf53_9 : decode cJ9_max_7cf53 9 = .ok (.iload_n 1, 1) := by decide +kernel
theorem dJ9_max_7cf53_10 : decode cJ9_max_7cf53 10 = .ok (.ireturn, 1) := by decide +kernel
theorem dJ9_max_f86c9_0 : decode cJ9_max_f86c9 0 = .ok (.lload_n 0, 1) := by decide +kernel
theorem dJ9_max_f86c9_1 : decode cJ9_max_f86c9 1 = .ok (.lload_n 2, 1) := by decide +kernel
theorem dJ9_max_f86c9_2 : decode cJ9_max_f86c9 2 = .ok (.lcmp, 1) := by decide +kernel
theorem dJ9_max_f86c9_3 : decode cJ9_max_f86c9 3 = .ok (.ifCond .lt 7, 3) := by decide +kernel
theorem dJ9_max_f86c9_6 : decode cJ9_max_f86c9 6 = .ok (.lload_n 0, 1) := by decide +kernel
theorem dJ9_max_f86c9_7 : decode cJ9_max_f86c9 7 = .ok (.goto 4, 3) := by decide +kernel
theorem dJ9_max_f86c9_10 : decode cJ9_max_f86c9 10 = .ok (.lload_n 2, 1) := by decide +kernel
theorem dJ9_max_f86c9_11 : decode cJ9_max_f86c9 11 = .ok (.lreturn, 1) := by decide +kernel
theorem dJ9_min_7cf53_0 : decode cJ9_min_7cf53 0 = .ok (.iload_n 0, 1) := by decide +kernel
theorem dJ9_min_7cf53_1 : decode cJ9_min_7cf53 1 = .ok (.iload_n 1, 1) := by decide +kernel
theorem dJ9_min_7cf53_2 : decode cJ9_min_7cf53 2 = .ok (.if_icmp .gt 7, 3) := by decide +kernel
theorem dJ9_min_7cf53_5 : decode cJ9_min_7cf53 5 = .ok (.iload_n 0, 1) := by decide +kernel
theorem dJ9_min_7cf53_6 : decode cJ9_min_7cf53 6 = .ok (.goto 4, 3) := by decide +kernel
theorem dJ9_min_7cf53_9 : decode cJ9_min_7cf53 9 = .ok (.iload_n 1, 1) := by decide +kernel
theorem dJ9_min_7cf53_10 : decode cJ9_min_7cf53 10 = .ok (.ireturn, 1) := by decide +kernel
theorem dJ9_min_f86c9_0 : decode cJ9_min_f86c9 0 = .ok (.lload_n 0, 1) := by decide +kernel
theorem dJ9_min_f86c9_1 : decode cJ9_min_f86c9 1 = .ok (.lload_n 2, 1) := by decide +kernel
theorem dJ9_min_f86c9_2 : decode cJ9_min_f86c9 2 = .ok (.lcmp, 1) := by decide +kernel
theorem dJ9_min_f86c9_3 : decode cJ9_min_f86c9 3 = .ok (.ifCond .gt 7, 3) := by decide +kernel
theorem dJ9_min_f86c9_6 : decode cJ9_min_f86c9 6 = .ok (.lload_n 0, 1) := by decide +kernel
theorem dJ9_min_f86c9_7 : decode cJ9_min_f86c9 7 = .ok (.goto 4, 3) := by decide +kernel
theorem dJ9_min_f86c9_10 : decode cJ9_min_f86c9 10 = .ok (.lload_n 2, 1) := by decide +kernel
theorem dJ9_min_f86c9_11 : decode cJ9_min_f86c9 11 = .ok (.lreturn, 1) := by decide +kernel
theorem dL_plan_0 : decode cL_plan 0 = .ok (.aload_n 3, 1) := by decide +kernel
theorem dL_plan_1 : decode cL_plan 1 = .ok (.iconst 0, 1) := by decide +kernel
theorem dL_plan_2 : decode cL_plan 2 = .ok (.aload_n 0, 1) := by decide +kernel
theorem dL_plan_3 : decode cL_plan 3 = .ok (.iload_n 1, 1) := by decide +kernel
theorem dL_plan_4 : decode cL_plan 4 = .ok (.iload_n 2, 1) := by decide +kernel
theorem dL_plan_5 : decode cL_plan 5 = .ok (.invokevirtual 7, 3) := by decide +kernel
theorem dL_plan_8 : decode cL_plan 8 = .ok (.i2l, 1) := by decide +kernel
theorem dL_plan_9 : decode cL_plan 9 = .ok (.lastore, 1) := by decide +kernel
theorem dL_plan_10 : decode cL_plan 10 = .ok (.goto 7, 3) := by decide +kernel
theorem dL_plan_13 : decode cL_plan 13 = .ok (.astore 4, 2) := by decide +kernel
theorem dL_plan_15 : decode cL_plan 15 = .ok (.iconst 1, 1) := by decide +kernel
theorem dL_plan_16 : decode cL_plan 16 = .ok (.ireturn, 1) := by decide +kernel
theorem dL_plan_17 : decode cL_plan 17 = .ok (.iconst 0, 1) := by decide +kernel
theorem dL_plan_18 : decode cL_plan 18 = .ok (.ireturn, 1) := by decide +kernel
theorem dL_octet_0 : decode cL_octet 0 = .ok (.aload_n 2, 1) := by decide +kernel
theorem dL_octet_1 : decode cL_octet 1 = .ok (.iconst 0, 1) := by decide +kernel
theorem dL_octet_2 : decode cL_octet 2 = .ok (.aload_n 0, 1) := by decide +kernel
theorem dL_octet_3 : decode cL_octet 3 = .ok (.iload_n 1, 1) := by decide +kernel
theorem dL_octet_4 : decode cL_octet 4 = .ok (.invokevirtual 15, 3) := by decide +kernel
theorem dL_octet_7 : decode cL_octet 7 = .ok (.i2l, 1) := by decide +kernel
theorem dL_octet_8 : decode cL_octet 8 = .ok (.lastore, 1) := by decide +kernel
theorem dL_octet_9 : decode cL_octet 9 = .ok (.goto 6, 3) := by decide +kernel
theorem dL_octet_12 : decode cL_octet 12 = .ok (.astore_n 3, 1) := by decide +kernel
theorem dL_octet_13 : decode cL_octet 13 = .ok (.iconst 1, 1) := by decide +kernel
theorem dL_octet_14 : decode cL_octet 14 = .ok (.ireturn, 1) := by decide +kernel
theorem dL_octet_15 : decode cL_octet 15 = .ok (.iconst 0, 1) := by decide +kernel
theorem dL_octet_16 : decode cL_octet 16 = .ok (.ireturn, 1) := by decide +kernel
theorem dL_cost_0 : decode cL_cost 0 = .ok (.aload 5, 2) := by decide +kernel
theorem dL_cost_2 : decode cL_cost 2 = .ok (.iconst 0, 1) := by decide +kernel
theorem dL_cost_3 : decode cL_cost 3 = .ok (.aload_n 0, 1) := by decide +kernel
theorem dL_cost_4 : decode cL_cost 4 = .ok (.iload_n 1, 1) := by decide +kernel
theorem dL_cost_5 : decode cL_cost 5 = .ok (.iload_n 2, 1) := by decide +kernel
theorem dL_cost_6 : decode cL_cost 6 = .ok (.iload_n 3, 1) := by decide +kernel
theorem dL_cost_7 : decode cL_cost 7 = .ok (.iload 4, 2) := by decide +kernel
theorem dL_cost_9 : decode cL_cost 9 = .ok (.invokevirtual 19, 3) := by decide +kernel
theorem dL_cost_12 : decode cL_cost 12 = .ok (.lastore, 1) := by decide +kernel
theorem dL_cost_13 : decode cL_cost 13 = .ok (.goto 7, 3) := by decide +kernel
theorem dL_cost_16 : decode cL_cost 16 = .ok (.astore 6, 2) := by decide +kernel
theorem dL_cost_18 : decode cL_cost 18 = .ok (.iconst 1, 1) := by decide +kernel
theorem dL_cost_19 : decode cL_cost 19 = .ok (.ireturn, 1) := by decide +kernel
theorem dL_cost_20 : decode cL_cost 20 = .ok (.iconst 0, 1) := by decide +kernel
theorem dL_cost_21 : decode cL_cost 21 = .ok (.ireturn, 1) := by decide +kernel
theorem dL_bill_0 : decode cL_bill 0 = .ok (.aload 6, 2) := by decide +kernel
theorem dL_bill_2 : decode cL_bill 2 = .ok (.iconst 0, 1) := by decide +kernel
theorem dL_bill_3 : decode cL_bill 3 = .ok (.aload_n 0, 1) := by decide +kernel
theorem dL_bill_4 : decode cL_bill 4 = .ok (.iload_n 1, 1) := by decide +kernel
theorem dL_bill_5 : decode cL_bill 5 = .ok (.iload_n 2, 1) := by decide +kernel
theorem dL_bill_6 : decode cL_bill 6 = .ok (.iload_n 3, 1) := by decide +kernel
theorem dL_bill_7 : decode cL_bill 7 = .ok (.lload 4, 2) := by decide +kernel
theorem dL_bill_9 : decode cL_bill 9 = .ok (.invokevirtual 23, 3) := by decide +kernel
theorem dL_bill_12 : decode cL_bill 12 = .ok (.lastore, 1) := by decide +kernel
theorem dL_bill_13 : decode cL_bill 13 = .ok (.goto 7, 3) := by decide +kernel
theorem dL_bill_16 : decode cL_bill 16 = .ok (.astore 7, 2) := by decide +kernel
theorem dL_bill_18 : decode cL_bill 18 = .ok (.iconst 1, 1) := by decide +kernel
theorem dL_bill_19 : decode cL_bill 19 = .ok (.ireturn, 1) := by decide +kernel
theorem dL_bill_20 : decode cL_bill 20 = .ok (.iconst 0, 1) := by decide +kernel
theorem dL_bill_21 : decode cL_bill 21 = .ok (.ireturn, 1) := by decide +kernel
theorem dL_above_0 : decode cL_above 0 = .ok (.aload 4, 2) := by decide +kernel
theorem dL_above_2 : decode cL_above 2 = .ok (.iconst 0, 1) := by decide +kernel
theorem dL_above_3 : decode cL_above 3 = .ok (.aload_n 0, 1) := by decide +kernel
theorem dL_above_4 : decode cL_above 4 = .ok (.iload_n 1, 1) := by decide +kernel
theorem dL_above_5 : decode cL_above 5 = .ok (.iload_n 2, 1) := by decide +kernel
theorem dL_above_6 : decode cL_above 6 = .ok (.iload_n 3, 1) := by decide +kernel
theorem dL_above_7 : decode cL_above 7 = .ok (.invokevirtual 27, 3) := by decide +kernel
theorem dL_above_10 : decode cL_above 10 = .ok (.lastore, 1) := by decide +kernel
theorem dL_above_11 : decode cL_above 11 = .ok (.goto 7, 3) := by decide +kernel
theorem dL_above_14 : decode cL_above 14 = .ok (.astore 5, 2) := by decide +kernel
theorem dL_above_16 : decode cL_above 16 = .ok (.iconst 1, 1) := by decide +kernel
theorem dL_above_17 : decode cL_above 17 = .ok (.ireturn, 1) := by decide +kernel
theorem dL_above_18 : decode cL_above 18 = .ok (.iconst 0, 1) := by decide +kernel
theorem dL_above_19 : decode cL_above 19 = .ok (.ireturn, 1) := by decide +kernel
theorem dL_law_0 : decode cL_law 0 = .ok (.new 8, 3) := by decide +kernel
theorem dL_law_3 : decode cL_law 3 = .ok (.dup, 1) := by decide +kernel
theorem dL_law_4 : decode cL_law 4 = .ok (.invokespecial 31, 3) := by decide +kernel
theorem dL_law_7 : decode cL_law 7 = .ok (.astore_n 1, 1) := by decide +kernel
theorem dL_law_8 : decode cL_law 8 = .ok (.new 32, 3) := by decide +kernel
theorem dL_law_11 : decode cL_law 11 = .ok (.dup, 1) := by decide +kernel
theorem dL_law_12 : decode cL_law 12 = .ok (.invokespecial 34, 3) := by decide +kernel
theorem dL_law_15 : decode cL_law 15 = .ok (.astore_n 2, 1) := by decide +kernel
theorem dL_law_16 : decode cL_law 16 = .ok (.iconst 1, 1) := by decide +kernel
theorem dL_law_17 : decode cL_law 17 = .ok (.newarray .long, 2) := by decide +kernel
theorem dL_law_19 : decode cL_law 19 = .ok (.astore_n 3, 1) := by decide +kernel
theorem dL_law_20 : decode cL_law 20 = .ok (.iconst 0, 1) := by decide +kernel
theorem dL_law_21 : decode cL_law 21 = .ok (.istore 4, 2) := by decide +kernel
theorem dL_law_23 : decode cL_law 23 = .ok (.iload 4, 2) := by decide +kernel
theorem dL_law_25 : decode cL_law 25 = .ok (.aload_n 0, 1) := by decide +kernel
theorem dL_law_26 : decode cL_law 26 = .ok (.arraylength, 1) := by decide +kernel
theorem dL_law_27 : decode cL_law 27 = .ok (.bipush 6, 2) := by decide +kernel
theorem dL_law_29 : decode cL_law 29 = .ok (.isub, 1) := by decide +kernel
theorem dL_law_30 : decode cL_law 30 = .ok (.if_icmp .gt 1001, 3) := by decide +kernel
theorem dL_law_33 : decode cL_law 33 = .ok (.aload_n 0, 1) := by decide +kernel
theorem dL_law_34 : decode cL_law 34 = .ok (.iload 4, 2) := by decide +kernel
theorem dL_law_36 : decode cL_law 36 = .ok (.iaload, 1) := by decide +kernel
theorem dL_law_37 : decode cL_law 37 = .ok (.bipush 31, 2) := by decide +kernel
theorem dL_law_39 : decode cL_law 39 = .ok (.iand, 1) := by decide +kernel
theorem dL_law_40 : decode cL_law 40 = .ok (.tableswitch 985 0 18 #[92, 165, 190, 203, 216, 284, 309, 365, 414, 463, 488, 579, 702, 752, 777, 791, 816, 865, 960], 92) := by decide +kernel
theorem dL_law_132 : decode cL_law 132 = .ok (.aload_n 1, 1) := by decide +kernel
theorem dL_law_133 : decode cL_law 133 = .ok (.aload_n 0, 1) := by decide +kernel
theorem dL_law_134 : decode cL_law 134 = .ok (.iload 4, 2) := by decide +kernel
theorem dL_law_136 : decode cL_law 136 = .ok (.iconst 1, 1) := by decide +kernel
theorem dL_law_137 : decode cL_law 137 = .ok (.iadd, 1) := by decide +kernel
theorem dL_law_138 : decode cL_law 138 = .ok (.iaload, 1) := by decide +kernel
theorem dL_law_139 : decode cL_law 139 = .ok (.aload_n 0, 1) := by decide +kernel
theorem dL_law_140 : decode cL_law 140 = .ok (.iload 4, 2) := by decide +kernel
theorem dL_law_142 : decode cL_law 142 = .ok (.iconst 2, 1) := by decide +kernel
theorem dL_law_143 : decode cL_law 143 = .ok (.iadd, 1) := by decide +kernel
theorem dL_law_144 : decode cL_law 144 = .ok (.iaload, 1) := by decide +kernel
theorem dL_law_145 : decode cL_law 145 = .ok (.aload_n 0, 1) := by decide +kernel
theorem dL_law_146 : decode cL_law 146 = .ok (.iload 4, 2) := by decide +kernel
theorem dL_law_148 : decode cL_law 148 = .ok (.iconst 3, 1) := by decide +kernel
theorem dL_law_149 : decode cL_law 149 = .ok (.iadd, 1) := by decide +kernel
theorem dL_law_150 : decode cL_law 150 = .ok (.iaload, 1) := by decide +kernel
theorem dL_law_151 : decode cL_law 151 = .ok (.aload_n 0, 1) := by decide +kernel
theorem dL_law_152 : decode cL_law 152 = .ok (.iload 4, 2) := by decide +kernel
theorem dL_law_154 : decode cL_law 154 = .ok (.iconst 4, 1) := by decide +kernel
theorem dL_law_155 : decode cL_law 155 = .ok (.iadd, 1) := by decide +kernel
theorem dL_law_156 : decode cL_law 156 = .ok (.iaload, 1) := by decide +kernel
theorem dL_law_157 : decode cL_law 157 = .ok (.aload_n 0, 1) := by decide +kernel
theorem dL_law_158 : decode cL_law 158 = .ok (.iload 4, 2) := by decide +kernel
theorem dL_law_160 : decode cL_law 160 = .ok (.iconst 5, 1) := by decide +kernel
theorem dL_law_161 : decode cL_law 161 = .ok (.iadd, 1) := by decide +kernel
theorem dL_law_162 : decode cL_law 162 = .ok (.iaload, 1) := by decide +kernel
theorem dL_law_163 : decode cL_law 163 = .ok (.invokevirtual 35, 3) := by decide +kernel
theorem dL_law_166 : decode cL_law 166 = .ok (.aload_n 2, 1) := by decide +kernel
theorem dL_law_167 : decode cL_law 167 = .ok (.aload_n 0, 1) := by decide +kernel
theorem dL_law_168 : decode cL_law 168 = .ok (.iload 4, 2) := by decide +kernel
theorem dL_law_170 : decode cL_law 170 = .ok (.iconst 1, 1) := by decide +kernel
theorem dL_law_171 : decode cL_law 171 = .ok (.iadd, 1) := by decide +kernel
theorem dL_law_172 : decode cL_law 172 = .ok (.iaload, 1) := by decide +kernel
theorem dL_law_173 : decode cL_law 173 = .ok (.aload_n 0, 1) := by decide +kernel
theorem dL_law_174 : decode cL_law 174 = .ok (.iload 4, 2) := by decide +kernel
theorem dL_law_176 : decode cL_law 176 = .ok (.iconst 2, 1) := by decide +kernel
theorem dL_law_177 : decode cL_law 177 = .ok (.iadd, 1) := by decide +kernel
theorem dL_law_178 : decode cL_law 178 = .ok (.iaload, 1) := by decide +kernel
theorem dL_law_179 : decode cL_law 179 = .ok (.aload_n 0, 1) := by decide +kernel
theorem dL_law_180 : decode cL_law 180 = .ok (.iload 4, 2) := by decide +kernel
theorem dL_law_182 : decode cL_law 182 = .ok (.iconst 3, 1) := by decide +kernel
theorem dL_law_183 : decode cL_law 183 = .ok (.iadd, 1) := by decide +kernel
theorem dL_law_184 : decode cL_law 184 = .ok (.iaload, 1) := by decide +kernel
theorem dL_law_185 : decode cL_law 185 = .ok (.aload_n 0, 1) := by decide +kernel
theorem dL_law_186 : decode cL_law 186 = .ok (.iload 4, 2) := by decide +kernel
theorem dL_law_188 : decode cL_law 188 = .ok (.iconst 4, 1) := by decide +kernel
theorem dL_law_189 : decode cL_law 189 = .ok (.iadd, 1) := by decide +kernel
theorem dL_law_190 : decode cL_law 190 = .ok (.iaload, 1) := by decide +kernel
theorem dL_law_191 : decode cL_law 191 = .ok (.aload_n 0, 1) := by decide +kernel
theorem dL_law_192 : decode cL_law 192 = .ok (.iload 4, 2) := by decide +kernel
theorem dL_law_194 : decode cL_law 194 = .ok (.iconst 5, 1) := by decide +kernel
theorem dL_law_195 : decode cL_law 195 = .ok (.iadd, 1) := by decide +kernel
theorem dL_law_196 : decode cL_law 196 = .ok (.iaload, 1) := by decide +kernel
theorem dL_law_197 : decode cL_law 197 = .ok (.invokevirtual 39, 3) := by decide +kernel
theorem dL_law_200 : decode cL_law 200 = .ok (.if_icmp .eq 825, 3) := by decide +kernel
theorem dL_law_203 : decode cL_law 203 = .ok (.iconst 0, 1) := by decide +kernel
theorem dL_law_204 : decode cL_law 204 = .ok (.ireturn, 1) := by decide +kernel
theorem dL_law_205 : decode cL_law 205 = .ok (.aload_n 1, 1) := by decide +kernel
theorem dL_law_206 : decode cL_law 206 = .ok (.aload_n 0, 1) := by decide +kernel
theorem dL_law_207 : decode cL_law 207 = .ok (.iload 4, 2) := by decide +kernel
theorem dL_law_209 : decode cL_law 209 = .ok (.iconst 1, 1) := by decide +kernel
theorem dL_law_210 : decode cL_law 210 = .ok (.iadd, 1) := by decide +kernel
theorem dL_law_211 : decode cL_law 211 = .ok (.iaload, 1) := by decide +kernel
theorem dL_law_212 : decode cL_law 212 = .ok (.invokevirtual 40, 3) := by decide +kernel
theorem dL_law_215 : decode cL_law 215 = .ok (.aload_n 2, 1) := by decide +kernel
theorem dL_law_216 : decode cL_law 216 = .ok (.aload_n 0, 1) := by decide +kernel
theorem dL_law_217 : decode cL_law 217 = .ok (.iload 4, 2) := by decide +kernel
theorem dL_law_219 : decode cL_law 219 = .ok (.iconst 1, 1) := by decide +kernel
theorem dL_law_220 : decode cL_law 220 = .ok (.iadd, 1) := by decide +kernel
theorem dL_law_221 : decode cL_law 221 = .ok (.iaload, 1) := by decide +kernel
theorem dL_law_222 : decode cL_law 222 = .ok (.invokevirtual 44, 3) := by decide +kernel
theorem dL_law_225 : decode cL_law 225 = .ok (.if_icmp .eq 800, 3) := by decide +kernel
theorem dL_law_228 : decode cL_law 228 = .ok (.iconst 0, 1) := by decide +kernel
theorem dL_law_229 : decode cL_law 229 = .ok (.ireturn, 1) := by decide +kernel
theorem dL_law_230 : decode cL_law 230 = .ok (.aload_n 1, 1) := by decide +kernel
theorem dL_law_231 : decode cL_law 231 = .ok (.invokevirtual 45, 3) := by decide +kernel
theorem dL_law_234 : decode cL_law 234 = .ok (.aload_n 2, 1) := by decide +kernel
theorem dL_law_235 : decode cL_law 235 = .ok (.invokevirtual 49, 3) := by decide +kernel
theorem dL_law_238 : decode cL_law 238 = .ok (.if_icmp .eq 787, 3) := by decide +kernel
theorem dL_law_241 : decode cL_law 241 = .ok (.iconst 0, 1) := by decide +kernel
theorem dL_law_242 : decode cL_law 242 = .ok (.ireturn, 1) := by decide +kernel
theorem dL_law_243 : decode cL_law 243 = .ok (.aload_n 1, 1) := by decide +kernel
theorem dL_law_244 : decode cL_law 244 = .ok (.invokevirtual 50, 3) := by decide +kernel
theorem dL_law_247 : decode cL_law 247 = .ok (.aload_n 2, 1) := by decide +kernel
theorem dL_law_248 : decode cL_law 248 = .ok (.invokevirtual 53, 3) := by decide +kernel
theorem dL_law_251 : decode cL_law 251 = .ok (.if_icmp .eq 774, 3) := by decide +kernel
theorem dL_law_254 : decode cL_law 254 = .ok (.iconst 0, 1) := by decide +kernel
theorem dL_law_255 : decode cL_law 255 = .ok (.ireturn, 1) := by decide +kernel
theorem dL_law_256 : decode cL_law 256 = .ok (.aload_n 1, 1) := by decide +kernel
theorem dL_law_257 : decode cL_law 257 = .ok (.aload_n 0, 1) := by decide +kernel
theorem dL_law_258 : decode cL_law 258 = .ok (.iload 4, 2) := by decide +kernel
theorem dL_law_260 : decode cL_law 260 = .ok (.iconst 1, 1) := by decide +kernel
theorem dL_law_261 : decode cL_law 261 = .ok (.iadd, 1) := by decide +kernel
theorem dL_law_262 : decode cL_law 262 = .ok (.iaload, 1) := by decide +kernel
theorem dL_law_263 : decode cL_law 263 = .ok (.aload_n 0, 1) := by decide +kernel
theorem dL_law_264 : decode cL_law 264 = .ok (.iload 4, 2) := by decide +kernel
theorem dL_law_266 : decode cL_law 266 = .ok (.iconst 2, 1) := by decide +kernel
theorem dL_law_267 : decode cL_law 267 = .ok (.iadd, 1) := by decide +kernel
theorem dL_law_268 : decode cL_law 268 = .ok (.iaload, 1) := by decide +kernel
theorem dL_law_269 : decode cL_law 269 = .ok (.aload_n 3, 1) := by decide +kernel
theorem dL_law_270 : decode cL_law 270 = .ok (.invokestatic 54, 3) := by decide +kernel
theorem dL_law_273 : decode cL_law 273 = .ok (.istore 5, 2) := by decide +kernel
theorem dL_law_275 : decode cL_law 275 = .ok (.aload_n 2, 1) := by decide +kernel
theorem dL_law_276 : decode cL_law 276 = .ok (.aload_n 0, 1) := by decide +kernel
theorem dL_law_277 : decode cL_law 277 = .ok (.iload 4, 2) := by decide +kernel
theorem dL_law_279 : decode cL_law 279 = .ok (.iconst 1, 1) := by decide +kernel
theorem dL_law_280 : decode cL_law 280 = .ok (.iadd, 1) := by decide +kernel
theorem dL_law_281 : decode cL_law 281 = .ok (.iaload, 1) := by decide +kernel
theorem dL_law_282 : decode cL_law 282 = .ok (.aload_n 0, 1) := by decide +kernel
theorem dL_law_283 : decode cL_law 283 = .ok (.iload 4, 2) := by decide +kernel
theorem dL_law_285 : decode cL_law 285 = .ok (.iconst 2, 1) := by decide +kernel
theorem dL_law_286 : decode cL_law 286 = .ok (.iadd, 1) := by decide +kernel
theorem dL_law_287 : decode cL_law 287 = .ok (.iaload, 1) := by decide +kernel
theorem dL_law_288 : decode cL_law 288 = .ok (.invokevirtual 59, 3) := by decide +kernel
theorem dL_law_291 : decode cL_law 291 = .ok (.istore 6, 2) := by decide +kernel
theorem dL_law_293 : decode cL_law 293 = .ok (.aload_n 2, 1) := by decide +kernel
theorem dL_law_294 : decode cL_law 294 = .ok (.invokevirtual 60, 3) := by decide +kernel
theorem dL_law_297 : decode cL_law 297 = .ok (.iload 5, 2) := by decide +kernel
theorem dL_law_299 : decode cL_law 299 = .ok (.if_icmp .eq 5, 3) := by decide +kernel
theorem dL_law_302 : decode cL_law 302 = .ok (.iconst 0, 1) := by decide +kernel
theorem dL_law_303 : decode cL_law 303 = .ok (.ireturn, 1) := by decide +kernel
theorem dL_law_304 : decode cL_law 304 = .ok (.iload 5, 2) := by decide +kernel
theorem dL_law_306 : decode cL_law 306 = .ok (.ifCond .ne 15, 3) := by decide +kernel
theorem dL_law_309 : decode cL_law 309 = .ok (.aload_n 3, 1) := by decide +kernel
theorem dL_law_310 : decode cL_law 310 = .ok (.iconst 0, 1) := by decide +kernel
theorem dL_law_311 : decode cL_law 311 = .ok (.laload, 1) := by decide +kernel
theorem dL_law_312 : decode cL_law 312 = .ok (.iload 6, 2) := by decide +kernel
theorem dL_law_314 : decode cL_law 314 = .ok (.i2l, 1) := by decide +kernel
theorem dL_law_315 : decode cL_law 315 = .ok (.lcmp, 1) := by decide +kernel
theorem dL_law_316 : decode cL_law 316 = .ok (.ifCond .eq 5, 3) := by decide +kernel
theorem dL_law_319 : decode cL_law 319 = .ok (.iconst 0, 1) := by decide +kernel
theorem dL_law_320 : decode cL_law 320 = .ok (.ireturn, 1) := by decide +kernel
theorem dL_law_321 : decode cL_law 321 = .ok (.goto 704, 3) := by decide +kernel
theorem dL_law_324 : decode cL_law 324 = .ok (.aload_n 1, 1) := by decide +kernel
theorem dL_law_325 : decode cL_law 325 = .ok (.aload_n 0, 1) := by decide +kernel
theorem dL_law_326 : decode cL_law 326 = .ok (.iload 4, 2) := by decide +kernel
theorem dL_law_328 : decode cL_law 328 = .ok (.iconst 1, 1) := by decide +kernel
theorem dL_law_329 : decode cL_law 329 = .ok (.iadd, 1) := by decide +kernel
theorem dL_law_330 : decode cL_law 330 = .ok (.iaload, 1) := by decide +kernel
theorem dL_law_331 : decode cL_law 331 = .ok (.invokevirtual 63, 3) := by decide +kernel
theorem dL_law_334 : decode cL_law 334 = .ok (.aload_n 2, 1) := by decide +kernel
theorem dL_law_335 : decode cL_law 335 = .ok (.aload_n 0, 1) := by decide +kernel
theorem dL_law_336 : decode cL_law 336 = .ok (.iload 4, 2) := by decide +kernel
theorem dL_law_338 : decode cL_law 338 = .ok (.iconst 1, 1) := by decide +kernel
theorem dL_law_339 : decode cL_law 339 = .ok (.iadd, 1) := by decide +kernel
theorem dL_law_340 : decode cL_law 340 = .ok (.iaload, 1) := by decide +kernel
theorem dL_law_341 : decode cL_law 341 = .ok (.invokevirtual 66, 3) := by decide +kernel
theorem dL_law_344 : decode cL_law 344 = .ok (.if_icmp .eq 681, 3) := by decide +kernel
theorem dL_law_347 : decode cL_law 347 = .ok (.iconst 0, 1) := by decide +kernel
theorem dL_law_348 : decode cL_law 348 = .ok (.ireturn, 1) := by decide +kernel
theorem dL_law_349 : decode cL_law 349 = .ok (.aload_n 1, 1) := by decide +kernel
theorem dL_law_350 : decode cL_law 350 = .ok (.aload_n 0, 1) := by decide +kernel
theorem dL_law_351 : decode cL_law 351 = .ok (.iload 4, 2) := by decide +kernel
theorem dL_law_353 : decode cL_law 353 = .ok (.iconst 1, 1) := by decide +kernel
theorem dL_law_354 : decode cL_law 354 = .ok (.iadd, 1) := by decide +kernel
theorem dL_law_355 : decode cL_law 355 = .ok (.iaload, 1) := by decide +kernel
theorem dL_law_356 : decode cL_law 356 = .ok (.aload_n 3, 1) := by decide +kernel
theorem dL_law_357 : decode cL_law 357 = .ok (.invokestatic 67, 3) := by decide +kernel
theorem dL_law_360 : decode cL_law 360 = .ok (.istore 5, 2) := by decide +kernel
theorem dL_law_362 : decode cL_law 362 = .ok (.aload_n 2, 1) := by decide +kernel
theorem dL_law_363 : decode cL_law 363 = .ok (.aload_n 0, 1) := by decide +kernel
theorem dL_law_364 : decode cL_law 364 = .ok (.iload 4, 2) := by decide +kernel
theorem dL_law_366 : decode cL_law 366 = .ok (.iconst 1, 1) := by decide +kernel
theorem dL_law_367 : decode cL_law 367 = .ok (.iadd, 1) := by decide +kernel
theorem dL_law_368 : decode cL_law 368 = .ok (.iaload, 1) := by decide +kernel
theorem dL_law_369 : decode cL_law 369 = .ok (.invokevirtual 70, 3) := by decide +kernel
theorem dL_law_372 : decode cL_law 372 = .ok (.istore 6, 2) := by decide +kernel
theorem dL_law_374 : decode cL_law 374 = .ok (.aload_n 2, 1) := by decide +kernel
theorem dL_law_375 : decode cL_law 375 = .ok (.invokevirtual 60, 3) := by decide +kernel
theorem dL_law_378 : decode cL_law 378 = .ok (.iload 5, 2) := by decide +kernel
theorem dL_law_380 : decode cL_law 380 = .ok (.if_icmp .eq 5, 3) := by decide +kernel
theorem dL_law_383 : decode cL_law 383 = .ok (.iconst 0, 1) := by decide +kernel
theorem dL_law_384 : decode cL_law 384 = .ok (.ireturn, 1) := by decide +kernel
theorem dL_law_385 : decode cL_law 385 = .ok (.iload 5, 2) := by decide +kernel
theorem dL_law_387 : decode cL_law 387 = .ok (.ifCond .ne 15, 3) := by decide +kernel
theorem dL_law_390 : decode cL_law 390 = .ok (.aload_n 3, 1) := by decide +kernel
theorem dL_law_391 : decode cL_law 391 = .ok (.iconst 0, 1) := by decide +kernel
theorem dL_law_392 : decode cL_law 392 = .ok (.laload, 1) := by decide +kernel
theorem dL_law_393 : decode cL_law 393 = .ok (.iload 6, 2) := by decide +kernel
theorem dL_law_395 : decode cL_law 395 = .ok (.i2l, 1) := by decide +kernel
theorem dL_law_396 : decode cL_law 396 = .ok (.lcmp, 1) := by decide +kernel
theorem dL_law_397 : decode cL_law 397 = .ok (.ifCond .eq 5, 3) := by decide +kernel
theorem dL_law_400 : decode cL_law 400 = .ok (.iconst 0, 1) := by decide +kernel
theorem dL_law_401 : decode cL_law 401 = .ok (.ireturn, 1) := by decide +kernel
theorem dL_law_402 : decode cL_law 402 = .ok (.goto 623, 3) := by decide +kernel
theorem dL_law_405 : decode cL_law 405 = .ok (.aload_n 1, 1) := by decide +kernel
theorem dL_law_406 : decode cL_law 406 = .ok (.aload_n 0, 1) := by decide +kernel
theorem dL_law_407 : decode cL_law 407 = .ok (.iload 4, 2) := by decide +kernel
theorem dL_law_409 : decode cL_law 409 = .ok (.iconst 1, 1) := by decide +kernel
theorem dL_law_410 : decode cL_law 410 = .ok (.iadd, 1) := by decide +kernel
theorem dL_law_411 : decode cL_law 411 = .ok (.iaload, 1) := by decide +kernel
theorem dL_law_412 : decode cL_law 412 = .ok (.aload_n 0, 1) := by decide +kernel
theorem dL_law_413 : decode cL_law 413 = .ok (.iload 4, 2) := by decide +kernel
theorem dL_law_415 : decode cL_law 415 = .ok (.iconst 2, 1) := by decide +kernel
theorem dL_law_416 : decode cL_law 416 = .ok (.iadd, 1) := by decide +kernel
theorem dL_law_417 : decode cL_law 417 = .ok (.iaload, 1) := by decide +kernel
theorem dL_law_418 : decode cL_law 418 = .ok (.aload_n 0, 1) := by decide +kernel
theorem dL_law_419 : decode cL_law 419 = .ok (.iload 4, 2) := by decide +kernel
theorem dL_law_421 : decode cL_law 421 = .ok (.iconst 3, 1) := by decide +kernel
theorem dL_law_422 : decode cL_law 422 = .ok (.iadd, 1) := by decide +kernel
theorem dL_law_423 : decode cL_law 423 = .ok (.iaload, 1) := by decide +kernel
theorem dL_law_424 : decode cL_law 424 = .ok (.invokevirtual 71, 3) := by decide +kernel
theorem dL_law_427 : decode cL_law 427 = .ok (.aload_n 2, 1) := by decide +kernel
theorem dL_law_428 : decode cL_law 428 = .ok (.aload_n 0, 1) := by decide +kernel
theorem dL_law_429 : decode cL_law 429 = .ok (.iload 4, 2) := by decide +kernel
theorem dL_law_431 : decode cL_law 431 = .ok (.iconst 1, 1) := by decide +kernel
theorem dL_law_432 : decode cL_law 432 = .ok (.iadd, 1) := by decide +kernel
theorem dL_law_433 : decode cL_law 433 = .ok (.iaload, 1) := by decide +kernel
theorem dL_law_434 : decode cL_law 434 = .ok (.aload_n 0, 1) := by decide +kernel
theorem dL_law_435 : decode cL_law 435 = .ok (.iload 4, 2) := by decide +kernel
theorem dL_law_437 : decode cL_law 437 = .ok (.iconst 2, 1) := by decide +kernel
theorem dL_law_438 : decode cL_law 438 = .ok (.iadd, 1) := by decide +kernel
theorem dL_law_439 : decode cL_law 439 = .ok (.iaload, 1) := by decide +kernel
theorem dL_law_440 : decode cL_law 440 = .ok (.aload_n 0, 1) := by decide +kernel
theorem dL_law_441 : decode cL_law 441 = .ok (.iload 4, 2) := by decide +kernel
theorem dL_law_443 : decode cL_law 443 = .ok (.iconst 3, 1) := by decide +kernel
theorem dL_law_444 : decode cL_law 444 = .ok (.iadd, 1) := by decide +kernel
theorem dL_law_445 : decode cL_law 445 = .ok (.iaload, 1) := by decide +kernel
theorem dL_law_446 : decode cL_law 446 = .ok (.invokevirtual 75, 3) := by decide +kernel
theorem dL_law_449 : decode cL_law 449 = .ok (.if_icmp .eq 576, 3) := by decide +kernel
theorem dL_law_452 : decode cL_law 452 = .ok (.iconst 0, 1) := by decide +kernel
theorem dL_law_453 : decode cL_law 453 = .ok (.ireturn, 1) := by decide +kernel
theorem dL_law_454 : decode cL_law 454 = .ok (.aload_n 1, 1) := by decide +kernel
theorem dL_law_455 : decode cL_law 455 = .ok (.aload_n 0, 1) := by decide +kernel
theorem dL_law_456 : decode cL_law 456 = .ok (.iload 4, 2) := by decide +kernel
theorem dL_law_458 : decode cL_law 458 = .ok (.iconst 1, 1) := by decide +kernel
theorem dL_law_459 : decode cL_law 459 = .ok (.iadd, 1) := by decide +kernel
theorem dL_law_460 : decode cL_law 460 = .ok (.iaload, 1) := by decide +kernel
theorem dL_law_461 : decode cL_law 461 = .ok (.aload_n 0, 1) := by decide +kernel
theorem dL_law_462 : decode cL_law 462 = .ok (.iload 4, 2) := by decide +kernel
theorem dL_law_464 : decode cL_law 464 = .ok (.iconst 2, 1) := by decide +kernel
theorem dL_law_465 : decode cL_law 465 = .ok (.iadd, 1) := by decide +kernel
theorem dL_law_466 : decode cL_law 466 = .ok (.iaload, 1) := by decide +kernel
theorem dL_law_467 : decode cL_law 467 = .ok (.aload_n 0, 1) := by decide +kernel
theorem dL_law_468 : decode cL_law 468 = .ok (.iload 4, 2) := by decide +kernel
theorem dL_law_470 : decode cL_law 470 = .ok (.iconst 3, 1) := by decide +kernel
theorem dL_law_471 : decode cL_law 471 = .ok (.iadd, 1) := by decide +kernel
theorem dL_law_472 : decode cL_law 472 = .ok (.iaload, 1) := by decide +kernel
theorem dL_law_473 : decode cL_law 473 = .ok (.invokevirtual 76, 3) := by decide +kernel
theorem dL_law_476 : decode cL_law 476 = .ok (.aload_n 2, 1) := by decide +kernel
theorem dL_law_477 : decode cL_law 477 = .ok (.aload_n 0, 1) := by decide +kernel
theorem dL_law_478 : decode cL_law 478 = .ok (.iload 4, 2) := by decide +kernel
theorem dL_law_480 : decode cL_law 480 = .ok (.iconst 1, 1) := by decide +kernel
theorem dL_law_481 : decode cL_law 481 = .ok (.iadd, 1) := by decide +kernel
theorem dL_law_482 : decode cL_law 482 = .ok (.iaload, 1) := by decide +kernel
theorem dL_law_483 : decode cL_law 483 = .ok (.aload_n 0, 1) := by decide +kernel
theorem dL_law_484 : decode cL_law 484 = .ok (.iload 4, 2) := by decide +kernel
theorem dL_law_486 : decode cL_law 486 = .ok (.iconst 2, 1) := by decide +kernel
theorem dL_law_487 : decode cL_law 487 = .ok (.iadd, 1) := by decide +kernel
theorem dL_law_488 : decode cL_law 488 = .ok (.iaload, 1) := by decide +kernel
theorem dL_law_489 : decode cL_law 489 = .ok (.aload_n 0, 1) := by decide +kernel
theorem dL_law_490 : decode cL_law 490 = .ok (.iload 4, 2) := by decide +kernel
theorem dL_law_492 : decode cL_law 492 = .ok (.iconst 3, 1) := by decide +kernel
theorem dL_law_493 : decode cL_law 493 = .ok (.iadd, 1) := by decide +kernel
theorem dL_law_494 : decode cL_law 494 = .ok (.iaload, 1) := by decide +kernel
theorem dL_law_495 : decode cL_law 495 = .ok (.invokevirtual 79, 3) := by decide +kernel
theorem dL_law_498 : decode cL_law 498 = .ok (.if_icmp .eq 527, 3) := by decide +kernel
theorem dL_law_501 : decode cL_law 501 = .ok (.iconst 0, 1) := by decide +kernel
theorem dL_law_502 : decode cL_law 502 = .ok (.ireturn, 1) := by decide +kernel
theorem dL_law_503 : decode cL_law 503 = .ok (.aload_n 1, 1) := by decide +kernel
theorem dL_law_504 : decode cL_law 504 = .ok (.aload_n 0, 1) := by decide +kernel
theorem dL_law_505 : decode cL_law 505 = .ok (.iload 4, 2) := by decide +kernel
theorem dL_law_507 : decode cL_law 507 = .ok (.iconst 1, 1) := by decide +kernel
theorem dL_law_508 : decode cL_law 508 = .ok (.iadd, 1) := by decide +kernel
theorem dL_law_509 : decode cL_law 509 = .ok (.iaload, 1) := by decide +kernel
theorem dL_law_510 : decode cL_law 510 = .ok (.invokevirtual 80, 3) := by decide +kernel
theorem dL_law_513 : decode cL_law 513 = .ok (.aload_n 2, 1) := by decide +kernel
theorem dL_law_514 : decode cL_law 514 = .ok (.aload_n 0, 1) := by decide +kernel
theorem dL_law_515 : decode cL_law 515 = .ok (.iload 4, 2) := by decide +kernel
theorem dL_law_517 : decode cL_law 517 = .ok (.iconst 1, 1) := by decide +kernel
theorem dL_law_518 : decode cL_law 518 = .ok (.iadd, 1) := by decide +kernel
theorem dL_law_519 : decode cL_law 519 = .ok (.iaload, 1) := by decide +kernel
theorem dL_law_520 : decode cL_law 520 = .ok (.invokevirtual 83, 3) := by decide +kernel
theorem dL_law_523 : decode cL_law 523 = .ok (.if_icmp .eq 502, 3) := by decide +kernel
theorem dL_law_526 : decode cL_law 526 = .ok (.iconst 0, 1) := by decide +kernel
theorem dL_law_527 : decode cL_law 527 = .ok (.ireturn, 1) := by decide +kernel
theorem dL_law_528 : decode cL_law 528 = .ok (.aload_n 1, 1) := by decide +kernel
theorem dL_law_529 : decode cL_law 529 = .ok (.aload_n 0, 1) := by decide +kernel
theorem dL_law_530 : decode cL_law 530 = .ok (.iload 4, 2) := by decide +kernel
theorem dL_law_532 : decode cL_law 532 = .ok (.iconst 1, 1) := by decide +kernel
theorem dL_law_533 : decode cL_law 533 = .ok (.iadd, 1) := by decide +kernel
theorem dL_law_534 : decode cL_law 534 = .ok (.iaload, 1) := by decide +kernel
theorem dL_law_535 : decode cL_law 535 = .ok (.aload_n 0, 1) := by decide +kernel
theorem dL_law_536 : decode cL_law 536 = .ok (.iload 4, 2) := by decide +kernel
theorem dL_law_538 : decode cL_law 538 = .ok (.iconst 2, 1) := by decide +kernel
theorem dL_law_539 : decode cL_law 539 = .ok (.iadd, 1) := by decide +kernel
theorem dL_law_540 : decode cL_law 540 = .ok (.iaload, 1) := by decide +kernel
theorem dL_law_541 : decode cL_law 541 = .ok (.aload_n 0, 1) := by decide +kernel
theorem dL_law_542 : decode cL_law 542 = .ok (.iload 4, 2) := by decide +kernel
theorem dL_law_544 : decode cL_law 544 = .ok (.iconst 3, 1) := by decide +kernel
theorem dL_law_545 : decode cL_law 545 = .ok (.iadd, 1) := by decide +kernel
theorem dL_law_546 : decode cL_law 546 = .ok (.iaload, 1) := by decide +kernel
theorem dL_law_547 : decode cL_law 547 = .ok (.aload_n 0, 1) := by decide +kernel
theorem dL_law_548 : decode cL_law 548 = .ok (.iload 4, 2) := by decide +kernel
theorem dL_law_550 : decode cL_law 550 = .ok (.iconst 4, 1) := by decide +kernel
theorem dL_law_551 : decode cL_law 551 = .ok (.iadd, 1) := by decide +kernel
theorem dL_law_552 : decode cL_law 552 = .ok (.iaload, 1) := by decide +kernel
theorem dL_law_553 : decode cL_law 553 = .ok (.aload_n 3, 1) := by decide +kernel
theorem dL_law_554 : decode cL_law 554 = .ok (.invokestatic 84, 3) := by decide +kernel
theorem dL_law_557 : decode cL_law 557 = .ok (.istore 5, 2) := by decide +kernel
theorem dL_law_559 : decode cL_law 559 = .ok (.aload_n 2, 1) := by decide +kernel
theorem dL_law_560 : decode cL_law 560 = .ok (.aload_n 0, 1) := by decide +kernel
theorem dL_law_561 : decode cL_law 561 = .ok (.iload 4, 2) := by decide +kernel
theorem dL_law_563 : decode cL_law 563 = .ok (.iconst 1, 1) := by decide +kernel
theorem dL_law_564 : decode cL_law 564 = .ok (.iadd, 1) := by decide +kernel
theorem dL_law_565 : decode cL_law 565 = .ok (.iaload, 1) := by decide +kernel
theorem dL_law_566 : decode cL_law 566 = .ok (.aload_n 0, 1) := by decide +kernel
theorem dL_law_567 : decode cL_law 567 = .ok (.iload 4, 2) := by decide +kernel
theorem dL_law_569 : decode cL_law 569 = .ok (.iconst 2, 1) := by decide +kernel
theorem dL_law_570 : decode cL_law 570 = .ok (.iadd, 1) := by decide +kernel
theorem dL_law_571 : decode cL_law 571 = .ok (.iaload, 1) := by decide +kernel
theorem dL_law_572 : decode cL_law 572 = .ok (.aload_n 0, 1) := by decide +kernel
theorem dL_law_573 : decode cL_law 573 = .ok (.iload 4, 2) := by decide +kernel
theorem dL_law_575 : decode cL_law 575 = .ok (.iconst 3, 1) := by decide +kernel
theorem dL_law_576 : decode cL_law 576 = .ok (.iadd, 1) := by decide +kernel
theorem dL_law_577 : decode cL_law 577 = .ok (.iaload, 1) := by decide +kernel
theorem dL_law_578 : decode cL_law 578 = .ok (.aload_n 0, 1) := by decide +kernel
theorem dL_law_579 : decode cL_law 579 = .ok (.iload 4, 2) := by decide +kernel
theorem dL_law_581 : decode cL_law 581 = .ok (.iconst 4, 1) := by decide +kernel
theorem dL_law_582 : decode cL_law 582 = .ok (.iadd, 1) := by decide +kernel
theorem dL_law_583 : decode cL_law 583 = .ok (.iaload, 1) := by decide +kernel
theorem dL_law_584 : decode cL_law 584 = .ok (.invokevirtual 87, 3) := by decide +kernel
theorem dL_law_587 : decode cL_law 587 = .ok (.lstore 6, 2) := by decide +kernel
theorem dL_law_589 : decode cL_law 589 = .ok (.aload_n 2, 1) := by decide +kernel
theorem dL_law_590 : decode cL_law 590 = .ok (.invokevirtual 60, 3) := by decide +kernel
theorem dL_law_593 : decode cL_law 593 = .ok (.iload 5, 2) := by decide +kernel
theorem dL_law_595 : decode cL_law 595 = .ok (.if_icmp .eq 5, 3) := by decide +kernel
theorem dL_law_598 : decode cL_law 598 = .ok (.iconst 0, 1) := by decide +kernel
theorem dL_law_599 : decode cL_law 599 = .ok (.ireturn, 1) := by decide +kernel
theorem dL_law_600 : decode cL_law 600 = .ok (.iload 5, 2) := by decide +kernel
theorem dL_law_602 : decode cL_law 602 = .ok (.ifCond .ne 14, 3) := by decide +kernel
theorem dL_law_605 : decode cL_law 605 = .ok (.aload_n 3, 1) := by decide +kernel
theorem dL_law_606 : decode cL_law 606 = .ok (.iconst 0, 1) := by decide +kernel
theorem dL_law_607 : decode cL_law 607 = .ok (.laload, 1) := by decide +kernel
theorem dL_law_608 : decode cL_law 608 = .ok (.lload 6, 2) := by decide +kernel
theorem dL_law_610 : decode cL_law 610 = .ok (.lcmp, 1) := by decide +kernel
theorem dL_law_611 : decode cL_law 611 = .ok (.ifCond .eq 5, 3) := by decide +kernel
theorem dL_law_614 : decode cL_law 614 = .ok (.iconst 0, 1) := by decide +kernel
theorem dL_law_615 : decode cL_law 615 = .ok (.ireturn, 1) := by decide +kernel
theorem dL_law_616 : decode cL_law 616 = .ok (.goto 409, 3) := by decide +kernel
theorem dL_law_619 : decode cL_law 619 = .ok (.aload_n 1, 1) := by decide +kernel
theorem dL_law_620 : decode cL_law 620 = .ok (.aload_n 0, 1) := by decide +kernel
theorem dL_law_621 : decode cL_law 621 = .ok (.iload 4, 2) := by decide +kernel
theorem dL_law_623 : decode cL_law 623 = .ok (.iconst 1, 1) := by decide +kernel
theorem dL_law_624 : decode cL_law 624 = .ok (.iadd, 1) := by decide +kernel
theorem dL_law_625 : decode cL_law 625 = .ok (.iaload, 1) := by decide +kernel
theorem dL_law_626 : decode cL_law 626 = .ok (.aload_n 0, 1) := by decide +kernel
theorem dL_law_627 : decode cL_law 627 = .ok (.iload 4, 2) := by decide +kernel
theorem dL_law_629 : decode cL_law 629 = .ok (.iconst 2, 1) := by decide +kernel
theorem dL_law_630 : decode cL_law 630 = .ok (.iadd, 1) := by decide +kernel
theorem dL_law_631 : decode cL_law 631 = .ok (.iaload, 1) := by decide +kernel
theorem dL_law_632 : decode cL_law 632 = .ok (.aload_n 0, 1) := by decide +kernel
theorem dL_law_633 : decode cL_law 633 = .ok (.iload 4, 2) := by decide +kernel
theorem dL_law_635 : decode cL_law 635 = .ok (.iconst 3, 1) := by decide +kernel
theorem dL_law_636 : decode cL_law 636 = .ok (.iadd, 1) := by decide +kernel
theorem dL_law_637 : decode cL_law 637 = .ok (.iaload, 1) := by decide +kernel
theorem dL_law_638 : decode cL_law 638 = .ok (.aload_n 0, 1) := by decide +kernel
theorem dL_law_639 : decode cL_law 639 = .ok (.iload 4, 2) := by decide +kernel
theorem dL_law_641 : decode cL_law 641 = .ok (.iconst 4, 1) := by decide +kernel
theorem dL_law_642 : decode cL_law 642 = .ok (.iadd, 1) := by decide +kernel
theorem dL_law_643 : decode cL_law 643 = .ok (.iaload, 1) := by decide +kernel
theorem dL_law_644 : decode cL_law 644 = .ok (.i2l, 1) := by decide +kernel
theorem dL_law_645 : decode cL_law 645 = .ok (.bipush 32, 2) := by decide +kernel
theorem dL_law_647 : decode cL_law 647 = .ok (.lshl, 1) := by decide +kernel
theorem dL_law_648 : decode cL_law 648 = .ok (.aload_n 0, 1) := by decide +kernel
theorem dL_law_649 : decode cL_law 649 = .ok (.iload 4, 2) := by decide +kernel
theorem dL_law_651 : decode cL_law 651 = .ok (.iconst 5, 1) := by decide +kernel
theorem dL_law_652 : decode cL_law 652 = .ok (.iadd, 1) := by decide +kernel
theorem dL_law_653 : decode cL_law 653 = .ok (.iaload, 1) := by decide +kernel
theorem dL_law_654 : decode cL_law 654 = .ok (.i2l, 1) := by decide +kernel
theorem dL_law_655 : decode cL_law 655 = .ok (.ldc2_w 88, 3) := by decide +kernel
theorem dL_law_658 : decode cL_law 658 = .ok (.land, 1) := by decide +kernel
theorem dL_law_659 : decode cL_law 659 = .ok (.lor, 1) := by decide +kernel
theorem dL_law_660 : decode cL_law 660 = .ok (.aload_n 3, 1) := by decide +kernel
theorem dL_law_661 : decode cL_law 661 = .ok (.invokestatic 90, 3) := by decide +kernel
theorem dL_law_664 : decode cL_law 664 = .ok (.istore 5, 2) := by decide +kernel
theorem dL_law_666 : decode cL_law 666 = .ok (.aload_n 2, 1) := by decide +kernel
theorem dL_law_667 : decode cL_law 667 = .ok (.aload_n 0, 1) := by decide +kernel
theorem dL_law_668 : decode cL_law 668 = .ok (.iload 4, 2) := by decide +kernel
theorem dL_law_670 : decode cL_law 670 = .ok (.iconst 1, 1) := by decide +kernel
theorem dL_law_671 : decode cL_law 671 = .ok (.iadd, 1) := by decide +kernel
theorem dL_law_672 : decode cL_law 672 = .ok (.iaload, 1) := by decide +kernel
theorem dL_law_673 : decode cL_law 673 = .ok (.aload_n 0, 1) := by decide +kernel
theorem dL_law_674 : decode cL_law 674 = .ok (.iload 4, 2) := by decide +kernel
theorem dL_law_676 : decode cL_law 676 = .ok (.iconst 2, 1) := by decide +kernel
theorem dL_law_677 : decode cL_law 677 = .ok (.iadd, 1) := by decide +kernel
theorem dL_law_678 : decode cL_law 678 = .ok (.iaload, 1) := by decide +kernel
theorem dL_law_679 : decode cL_law 679 = .ok (.aload_n 0, 1) := by decide +kernel
theorem dL_law_680 : decode cL_law 680 = .ok (.iload 4, 2) := by decide +kernel
theorem dL_law_682 : decode cL_law 682 = .ok (.iconst 3, 1) := by decide +kernel
theorem dL_law_683 : decode cL_law 683 = .ok (.iadd, 1) := by decide +kernel
theorem dL_law_684 : decode cL_law 684 = .ok (.iaload, 1) := by decide +kernel
theorem dL_law_685 : decode cL_law 685 = .ok (.aload_n 0, 1) := by decide +kernel
theorem dL_law_686 : decode cL_law 686 = .ok (.iload 4, 2) := by decide +kernel
theorem dL_law_688 : decode cL_law 688 = .ok (.iconst 4, 1) := by decide +kernel
theorem dL_law_689 : decode cL_law 689 = .ok (.iadd, 1) := by decide +kernel
theorem dL_law_690 : decode cL_law 690 = .ok (.iaload, 1) := by decide +kernel
theorem dL_law_691 : decode cL_law 691 = .ok (.i2l, 1) := by decide +kernel
theorem dL_law_692 : decode cL_law 692 = .ok (.bipush 32, 2) := by decide +kernel
theorem dL_law_694 : decode cL_law 694 = .ok (.lshl, 1) := by decide +kernel
theorem dL_law_695 : decode cL_law 695 = .ok (.aload_n 0, 1) := by decide +kernel
theorem dL_law_696 : decode cL_law 696 = .ok (.iload 4, 2) := by decide +kernel
theorem dL_law_698 : decode cL_law 698 = .ok (.iconst 5, 1) := by decide +kernel
theorem dL_law_699 : decode cL_law 699 = .ok (.iadd, 1) := by decide +kernel
theorem dL_law_700 : decode cL_law 700 = .ok (.iaload, 1) := by decide +kernel
theorem dL_law_701 : decode cL_law 701 = .ok (.i2l, 1) := by decide +kernel
theorem dL_law_702 : decode cL_law 702 = .ok (.ldc2_w 88, 3) := by decide +kernel
theorem dL_law_705 : decode cL_law 705 = .ok (.land, 1) := by decide +kernel
theorem dL_law_706 : decode cL_law 706 = .ok (.lor, 1) := by decide +kernel
theorem dL_law_707 : decode cL_law 707 = .ok (.invokevirtual 93, 3) := by decide +kernel
theorem dL_law_710 : decode cL_law 710 = .ok (.lstore 6, 2) := by decide +kernel
theorem dL_law_712 : decode cL_law 712 = .ok (.aload_n 2, 1) := by decide +kernel
theorem dL_law_713 : decode cL_law 713 = .ok (.invokevirtual 60, 3) := by decide +kernel
theorem dL_law_716 : decode cL_law 716 = .ok (.iload 5, 2) := by decide +kernel
theorem dL_law_718 : decode cL_law 718 = .ok (.if_icmp .eq 5, 3) := by decide +kernel
theorem dL_law_721 : decode cL_law 721 = .ok (.iconst 0, 1) := by decide +kernel
theorem dL_law_722 : decode cL_law 722 = .ok (.ireturn, 1) := by decide +kernel
theorem dL_law_723 : decode cL_law 723 = .ok (.iload 5, 2) := by decide +kernel
theorem dL_law_725 : decode cL_law 725 = .ok (.ifCond .ne 14, 3) := by decide +kernel
theorem dL_law_728 : decode cL_law 728 = .ok (.aload_n 3, 1) := by decide +kernel
theorem dL_law_729 : decode cL_law 729 = .ok (.iconst 0, 1) := by decide +kernel
theorem dL_law_730 : decode cL_law 730 = .ok (.laload, 1) := by decide +kernel
theorem dL_law_731 : decode cL_law 731 = .ok (.lload 6, 2) := by decide +kernel
theorem dL_law_733 : decode cL_law 733 = .ok (.lcmp, 1) := by decide +kernel
theorem dL_law_734 : decode cL_law 734 = .ok (.ifCond .eq 5, 3) := by decide +kernel
theorem dL_law_737 : decode cL_law 737 = .ok (.iconst 0, 1) := by decide +kernel
theorem dL_law_738 : decode cL_law 738 = .ok (.ireturn, 1) := by decide +kernel
theorem dL_law_739 : decode cL_law 739 = .ok (.goto 286, 3) := by decide +kernel
theorem dL_law_742 : decode cL_law 742 = .ok (.aload_n 1, 1) := by decide +kernel
theorem dL_law_743 : decode cL_law 743 = .ok (.aload_n 0, 1) := by decide +kernel
theorem dL_law_744 : decode cL_law 744 = .ok (.iload 4, 2) := by decide +kernel
theorem dL_law_746 : decode cL_law 746 = .ok (.iconst 1, 1) := by decide +kernel
theorem dL_law_747 : decode cL_law 747 = .ok (.iadd, 1) := by decide +kernel
theorem dL_law_748 : decode cL_law 748 = .ok (.iaload, 1) := by decide +kernel
theorem dL_law_749 : decode cL_law 749 = .ok (.aload_n 0, 1) := by decide +kernel
theorem dL_law_750 : decode cL_law 750 = .ok (.iload 4, 2) := by decide +kernel
theorem dL_law_752 : decode cL_law 752 = .ok (.iconst 2, 1) := by decide +kernel
theorem dL_law_753 : decode cL_law 753 = .ok (.iadd, 1) := by decide +kernel
theorem dL_law_754 : decode cL_law 754 = .ok (.iaload, 1) := by decide +kernel
theorem dL_law_755 : decode cL_law 755 = .ok (.aload_n 0, 1) := by decide +kernel
theorem dL_law_756 : decode cL_law 756 = .ok (.iload 4, 2) := by decide +kernel
theorem dL_law_758 : decode cL_law 758 = .ok (.iconst 3, 1) := by decide +kernel
theorem dL_law_759 : decode cL_law 759 = .ok (.iadd, 1) := by decide +kernel
theorem dL_law_760 : decode cL_law 760 = .ok (.iaload, 1) := by decide +kernel
theorem dL_law_761 : decode cL_law 761 = .ok (.invokevirtual 94, 3) := by decide +kernel
theorem dL_law_764 : decode cL_law 764 = .ok (.aload_n 2, 1) := by decide +kernel
theorem dL_law_765 : decode cL_law 765 = .ok (.aload_n 0, 1) := by decide +kernel
theorem dL_law_766 : decode cL_law 766 = .ok (.iload 4, 2) := by decide +kernel
theorem dL_law_768 : decode cL_law 768 = .ok (.iconst 1, 1) := by decide +kernel
theorem dL_law_769 : decode cL_law 769 = .ok (.iadd, 1) := by decide +kernel
theorem dL_law_770 : decode cL_law 770 = .ok (.iaload, 1) := by decide +kernel
theorem dL_law_771 : decode cL_law 771 = .ok (.aload_n 0, 1) := by decide +kernel
theorem dL_law_772 : decode cL_law 772 = .ok (.iload 4, 2) := by decide +kernel
theorem dL_law_774 : decode cL_law 774 = .ok (.iconst 2, 1) := by decide +kernel
theorem dL_law_775 : decode cL_law 775 = .ok (.iadd, 1) := by decide +kernel
theorem dL_law_776 : decode cL_law 776 = .ok (.iaload, 1) := by decide +kernel
theorem dL_law_777 : decode cL_law 777 = .ok (.aload_n 0, 1) := by decide +kernel
theorem dL_law_778 : decode cL_law 778 = .ok (.iload 4, 2) := by decide +kernel
theorem dL_law_780 : decode cL_law 780 = .ok (.iconst 3, 1) := by decide +kernel
theorem dL_law_781 : decode cL_law 781 = .ok (.iadd, 1) := by decide +kernel
theorem dL_law_782 : decode cL_law 782 = .ok (.iaload, 1) := by decide +kernel
theorem dL_law_783 : decode cL_law 783 = .ok (.invokevirtual 98, 3) := by decide +kernel
theorem dL_law_786 : decode cL_law 786 = .ok (.lcmp, 1) := by decide +kernel
theorem dL_law_787 : decode cL_law 787 = .ok (.ifCond .eq 238, 3) := by decide +kernel
theorem dL_law_790 : decode cL_law 790 = .ok (.iconst 0, 1) := by decide +kernel
theorem dL_law_791 : decode cL_law 791 = .ok (.ireturn, 1) := by decide +kernel
theorem dL_law_792 : decode cL_law 792 = .ok (.aload_n 1, 1) := by decide +kernel
theorem dL_law_793 : decode cL_law 793 = .ok (.aload_n 0, 1) := by decide +kernel
theorem dL_law_794 : decode cL_law 794 = .ok (.iload 4, 2) := by decide +kernel
theorem dL_law_796 : decode cL_law 796 = .ok (.iconst 1, 1) := by decide +kernel
theorem dL_law_797 : decode cL_law 797 = .ok (.iadd, 1) := by decide +kernel
theorem dL_law_798 : decode cL_law 798 = .ok (.iaload, 1) := by decide +kernel
theorem dL_law_799 : decode cL_law 799 = .ok (.invokevirtual 99, 3) := by decide +kernel
theorem dL_law_802 : decode cL_law 802 = .ok (.aload_n 2, 1) := by decide +kernel
theorem dL_law_803 : decode cL_law 803 = .ok (.aload_n 0, 1) := by decide +kernel
theorem dL_law_804 : decode cL_law 804 = .ok (.iload 4, 2) := by decide +kernel
theorem dL_law_806 : decode cL_law 806 = .ok (.iconst 1, 1) := by decide +kernel
theorem dL_law_807 : decode cL_law 807 = .ok (.iadd, 1) := by decide +kernel
theorem dL_law_808 : decode cL_law 808 = .ok (.iaload, 1) := by decide +kernel
theorem dL_law_809 : decode cL_law 809 = .ok (.invokevirtual 102, 3) := by decide +kernel
theorem dL_law_812 : decode cL_law 812 = .ok (.if_icmp .eq 213, 3) := by decide +kernel
theorem dL_law_815 : decode cL_law 815 = .ok (.iconst 0, 1) := by decide +kernel
theorem dL_law_816 : decode cL_law 816 = .ok (.ireturn, 1) := by decide +kernel
theorem dL_law_817 : decode cL_law 817 = .ok (.aload_n 1, 1) := by decide +kernel
theorem dL_law_818 : decode cL_law 818 = .ok (.invokevirtual 103, 3) := by decide +kernel
theorem dL_law_821 : decode cL_law 821 = .ok (.aload_n 2, 1) := by decide +kernel
theorem dL_law_822 : decode cL_law 822 = .ok (.invokevirtual 107, 3) := by decide +kernel
theorem dL_law_825 : decode cL_law 825 = .ok (.lcmp, 1) := by decide +kernel
theorem dL_law_826 : decode cL_law 826 = .ok (.ifCond .eq 199, 3) := by decide +kernel
theorem dL_law_829 : decode cL_law 829 = .ok (.iconst 0, 1) := by decide +kernel
theorem dL_law_830 : decode cL_law 830 = .ok (.ireturn, 1) := by decide +kernel
theorem dL_law_831 : decode cL_law 831 = .ok (.aload_n 1, 1) := by decide +kernel
theorem dL_law_832 : decode cL_law 832 = .ok (.aload_n 0, 1) := by decide +kernel
theorem dL_law_833 : decode cL_law 833 = .ok (.iload 4, 2) := by decide +kernel
theorem dL_law_835 : decode cL_law 835 = .ok (.iconst 1, 1) := by decide +kernel
theorem dL_law_836 : decode cL_law 836 = .ok (.iadd, 1) := by decide +kernel
theorem dL_law_837 : decode cL_law 837 = .ok (.iaload, 1) := by decide +kernel
theorem dL_law_838 : decode cL_law 838 = .ok (.invokevirtual 108, 3) := by decide +kernel
theorem dL_law_841 : decode cL_law 841 = .ok (.aload_n 2, 1) := by decide +kernel
theorem dL_law_842 : decode cL_law 842 = .ok (.aload_n 0, 1) := by decide +kernel
theorem dL_law_843 : decode cL_law 843 = .ok (.iload 4, 2) := by decide +kernel
theorem dL_law_845 : decode cL_law 845 = .ok (.iconst 1, 1) := by decide +kernel
theorem dL_law_846 : decode cL_law 846 = .ok (.iadd, 1) := by decide +kernel
theorem dL_law_847 : decode cL_law 847 = .ok (.iaload, 1) := by decide +kernel
theorem dL_law_848 : decode cL_law 848 = .ok (.invokevirtual 111, 3) := by decide +kernel
theorem dL_law_851 : decode cL_law 851 = .ok (.if_icmp .eq 174, 3) := by decide +kernel
theorem dL_law_854 : decode cL_law 854 = .ok (.iconst 0, 1) := by decide +kernel
theorem dL_law_855 : decode cL_law 855 = .ok (.ireturn, 1) := by decide +kernel
theorem dL_law_856 : decode cL_law 856 = .ok (.aload_n 1, 1) := by decide +kernel
theorem dL_law_857 : decode cL_law 857 = .ok (.aload_n 0, 1) := by decide +kernel
theorem dL_law_858 : decode cL_law 858 = .ok (.iload 4, 2) := by decide +kernel
theorem dL_law_860 : decode cL_law 860 = .ok (.iconst 1, 1) := by decide +kernel
theorem dL_law_861 : decode cL_law 861 = .ok (.iadd, 1) := by decide +kernel
theorem dL_law_862 : decode cL_law 862 = .ok (.iaload, 1) := by decide +kernel
theorem dL_law_863 : decode cL_law 863 = .ok (.aload_n 0, 1) := by decide +kernel
theorem dL_law_864 : decode cL_law 864 = .ok (.iload 4, 2) := by decide +kernel
theorem dL_law_866 : decode cL_law 866 = .ok (.iconst 2, 1) := by decide +kernel
theorem dL_law_867 : decode cL_law 867 = .ok (.iadd, 1) := by decide +kernel
theorem dL_law_868 : decode cL_law 868 = .ok (.iaload, 1) := by decide +kernel
theorem dL_law_869 : decode cL_law 869 = .ok (.aload_n 0, 1) := by decide +kernel
theorem dL_law_870 : decode cL_law 870 = .ok (.iload 4, 2) := by decide +kernel
theorem dL_law_872 : decode cL_law 872 = .ok (.iconst 3, 1) := by decide +kernel
theorem dL_law_873 : decode cL_law 873 = .ok (.iadd, 1) := by decide +kernel
theorem dL_law_874 : decode cL_law 874 = .ok (.iaload, 1) := by decide +kernel
theorem dL_law_875 : decode cL_law 875 = .ok (.invokevirtual 112, 3) := by decide +kernel
theorem dL_law_878 : decode cL_law 878 = .ok (.aload_n 2, 1) := by decide +kernel
theorem dL_law_879 : decode cL_law 879 = .ok (.aload_n 0, 1) := by decide +kernel
theorem dL_law_880 : decode cL_law 880 = .ok (.iload 4, 2) := by decide +kernel
theorem dL_law_882 : decode cL_law 882 = .ok (.iconst 1, 1) := by decide +kernel
theorem dL_law_883 : decode cL_law 883 = .ok (.iadd, 1) := by decide +kernel
theorem dL_law_884 : decode cL_law 884 = .ok (.iaload, 1) := by decide +kernel
theorem dL_law_885 : decode cL_law 885 = .ok (.aload_n 0, 1) := by decide +kernel
theorem dL_law_886 : decode cL_law 886 = .ok (.iload 4, 2) := by decide +kernel
theorem dL_law_888 : decode cL_law 888 = .ok (.iconst 2, 1) := by decide +kernel
theorem dL_law_889 : decode cL_law 889 = .ok (.iadd, 1) := by decide +kernel
theorem dL_law_890 : decode cL_law 890 = .ok (.iaload, 1) := by decide +kernel
theorem dL_law_891 : decode cL_law 891 = .ok (.aload_n 0, 1) := by decide +kernel
theorem dL_law_892 : decode cL_law 892 = .ok (.iload 4, 2) := by decide +kernel
theorem dL_law_894 : decode cL_law 894 = .ok (.iconst 3, 1) := by decide +kernel
theorem dL_law_895 : decode cL_law 895 = .ok (.iadd, 1) := by decide +kernel
theorem dL_law_896 : decode cL_law 896 = .ok (.iaload, 1) := by decide +kernel
theorem dL_law_897 : decode cL_law 897 = .ok (.invokevirtual 116, 3) := by decide +kernel
theorem dL_law_900 : decode cL_law 900 = .ok (.if_icmp .eq 125, 3) := by decide +kernel
theorem dL_law_903 : decode cL_law 903 = .ok (.iconst 0, 1) := by decide +kernel
theorem dL_law_904 : decode cL_law 904 = .ok (.ireturn, 1) := by decide +kernel
theorem dL_law_905 : decode cL_law 905 = .ok (.aload_n 1, 1) := by decide +kernel
theorem dL_law_906 : decode cL_law 906 = .ok (.aload_n 0, 1) := by decide +kernel
theorem dL_law_907 : decode cL_law 907 = .ok (.iload 4, 2) := by decide +kernel
theorem dL_law_909 : decode cL_law 909 = .ok (.iconst 1, 1) := by decide +kernel
theorem dL_law_910 : decode cL_law 910 = .ok (.iadd, 1) := by decide +kernel
theorem dL_law_911 : decode cL_law 911 = .ok (.iaload, 1) := by decide +kernel
theorem dL_law_912 : decode cL_law 912 = .ok (.aload_n 0, 1) := by decide +kernel
theorem dL_law_913 : decode cL_law 913 = .ok (.iload 4, 2) := by decide +kernel
theorem dL_law_915 : decode cL_law 915 = .ok (.iconst 2, 1) := by decide +kernel
theorem dL_law_916 : decode cL_law 916 = .ok (.iadd, 1) := by decide +kernel
theorem dL_law_917 : decode cL_law 917 = .ok (.iaload, 1) := by decide +kernel
theorem dL_law_918 : decode cL_law 918 = .ok (.aload_n 0, 1) := by decide +kernel
theorem dL_law_919 : decode cL_law 919 = .ok (.iload 4, 2) := by decide +kernel
theorem dL_law_921 : decode cL_law 921 = .ok (.iconst 3, 1) := by decide +kernel
theorem dL_law_922 : decode cL_law 922 = .ok (.iadd, 1) := by decide +kernel
theorem dL_law_923 : decode cL_law 923 = .ok (.iaload, 1) := by decide +kernel
theorem dL_law_924 : decode cL_law 924 = .ok (.ifCond .eq 7, 3) := by decide +kernel
theorem dL_law_927 : decode cL_law 927 = .ok (.iconst 1, 1) := by decide +kernel
theorem dL_law_928 : decode cL_law 928 = .ok (.goto 4, 3) := by decide +kernel
theorem dL_law_931 : decode cL_law 931 = .ok (.iconst 0, 1) := by decide +kernel
theorem dL_law_932 : decode cL_law 932 = .ok (.aload_n 3, 1) := by decide +kernel
theorem dL_law_933 : decode cL_law 933 = .ok (.invokestatic 117, 3) := by decide +kernel
theorem dL_law_936 : decode cL_law 936 = .ok (.istore 5, 2) := by decide +kernel
theorem dL_law_938 : decode cL_law 938 = .ok (.aload_n 2, 1) := by decide +kernel
theorem dL_law_939 : decode cL_law 939 = .ok (.aload_n 0, 1) := by decide +kernel
theorem dL_law_940 : decode cL_law 940 = .ok (.iload 4, 2) := by decide +kernel
theorem dL_law_942 : decode cL_law 942 = .ok (.iconst 1, 1) := by decide +kernel
theorem dL_law_943 : decode cL_law 943 = .ok (.iadd, 1) := by decide +kernel
theorem dL_law_944 : decode cL_law 944 = .ok (.iaload, 1) := by decide +kernel
theorem dL_law_945 : decode cL_law 945 = .ok (.aload_n 0, 1) := by decide +kernel
theorem dL_law_946 : decode cL_law 946 = .ok (.iload 4, 2) := by decide +kernel
theorem dL_law_948 : decode cL_law 948 = .ok (.iconst 2, 1) := by decide +kernel
theorem dL_law_949 : decode cL_law 949 = .ok (.iadd, 1) := by decide +kernel
theorem dL_law_950 : decode cL_law 950 = .ok (.iaload, 1) := by decide +kernel
theorem dL_law_951 : decode cL_law 951 = .ok (.aload_n 0, 1) := by decide +kernel
theorem dL_law_952 : decode cL_law 952 = .ok (.iload 4, 2) := by decide +kernel
theorem dL_law_954 : decode cL_law 954 = .ok (.iconst 3, 1) := by decide +kernel
theorem dL_law_955 : decode cL_law 955 = .ok (.iadd, 1) := by decide +kernel
theorem dL_law_956 : decode cL_law 956 = .ok (.iaload, 1) := by decide +kernel
theorem dL_law_957 : decode cL_law 957 = .ok (.ifCond .eq 7, 3) := by decide +kernel
theorem dL_law_960 : decode cL_law 960 = .ok (.iconst 1, 1) := by decide +kernel
theorem dL_law_961 : decode cL_law 961 = .ok (.goto 4, 3) := by decide +kernel
theorem dL_law_964 : decode cL_law 964 = .ok (.iconst 0, 1) := by decide +kernel
theorem dL_law_965 : decode cL_law 965 = .ok (.invokevirtual 120, 3) := by decide +kernel
theorem dL_law_968 : decode cL_law 968 = .ok (.lstore 6, 2) := by decide +kernel
theorem dL_law_970 : decode cL_law 970 = .ok (.aload_n 2, 1) := by decide +kernel
theorem dL_law_971 : decode cL_law 971 = .ok (.invokevirtual 60, 3) := by decide +kernel
theorem dL_law_974 : decode cL_law 974 = .ok (.iload 5, 2) := by decide +kernel
theorem dL_law_976 : decode cL_law 976 = .ok (.if_icmp .eq 5, 3) := by decide +kernel
theorem dL_law_979 : decode cL_law 979 = .ok (.iconst 0, 1) := by decide +kernel
theorem dL_law_980 : decode cL_law 980 = .ok (.ireturn, 1) := by decide +kernel
theorem dL_law_981 : decode cL_law 981 = .ok (.iload 5, 2) := by decide +kernel
theorem dL_law_983 : decode cL_law 983 = .ok (.ifCond .ne 14, 3) := by decide +kernel
theorem dL_law_986 : decode cL_law 986 = .ok (.aload_n 3, 1) := by decide +kernel
theorem dL_law_987 : decode cL_law 987 = .ok (.iconst 0, 1) := by decide +kernel
theorem dL_law_988 : decode cL_law 988 = .ok (.laload, 1) := by decide +kernel
theorem dL_law_989 : decode cL_law 989 = .ok (.lload 6, 2) := by decide +kernel
theorem dL_law_991 : decode cL_law 991 = .ok (.lcmp, 1) := by decide +kernel
theorem dL_law_992 : decode cL_law 992 = .ok (.ifCond .eq 5, 3) := by decide +kernel
theorem dL_law_995 : decode cL_law 995 = .ok (.iconst 0, 1) := by decide +kernel
theorem dL_law_996 : decode cL_law 996 = .ok (.ireturn, 1) := by decide +kernel
theorem dL_law_997 : decode cL_law 997 = .ok (.goto 28, 3) := by decide +kernel
theorem dL_law_1000 : decode cL_law 1000 = .ok (.aload_n 1, 1) := by decide +kernel
theorem dL_law_1001 : decode cL_law 1001 = .ok (.aload_n 0, 1) := by decide +kernel
theorem dL_law_1002 : decode cL_law 1002 = .ok (.iload 4, 2) := by decide +kernel
theorem dL_law_1004 : decode cL_law 1004 = .ok (.iconst 1, 1) := by decide +kernel
theorem dL_law_1005 : decode cL_law 1005 = .ok (.iadd, 1) := by decide +kernel
theorem dL_law_1006 : decode cL_law 1006 = .ok (.iaload, 1) := by decide +kernel
theorem dL_law_1007 : decode cL_law 1007 = .ok (.invokevirtual 121, 3) := by decide +kernel
theorem dL_law_1010 : decode cL_law 1010 = .ok (.aload_n 2, 1) := by decide +kernel
theorem dL_law_1011 : decode cL_law 1011 = .ok (.aload_n 0, 1) := by decide +kernel
theorem dL_law_1012 : decode cL_law 1012 = .ok (.iload 4, 2) := by decide +kernel
theorem dL_law_1014 : decode cL_law 1014 = .ok (.iconst 1, 1) := by decide +kernel
theorem dL_law_1015 : decode cL_law 1015 = .ok (.iadd, 1) := by decide +kernel
theorem dL_law_1016 : decode cL_law 1016 = .ok (.iaload, 1) := by decide +kernel
theorem dL_law_1017 : decode cL_law 1017 = .ok (.invokevirtual 124, 3) := by decide +kernel
theorem dL_law_1020 : decode cL_law 1020 = .ok (.if_icmp .eq 5, 3) := by decide +kernel
theorem dL_law_1023 : decode cL_law 1023 = .ok (.iconst 0, 1) := by decide +kernel
theorem dL_law_1024 : decode cL_law 1024 = .ok (.ireturn, 1) := by decide +kernel
theorem dL_law_1025 : decode cL_law 1025 = .ok (.iinc 4 6, 3) := by decide +kernel
theorem dL_law_1028 : decode cL_law 1028 = .ok (.goto (-1005), 3) := by decide +kernel
theorem dL_law_1031 : decode cL_law 1031 = .ok (.iconst 1, 1) := by decide +kernel
theorem dL_law_1032 : decode cL_law 1032 = .ok (.ireturn, 1) := by decide +kernel
end
section
/-! the memory: numbered cells; what a cell is, what it holds -/
abbrev Mem : Type := Nat × (Nat → Nat) × (Nat → Nat) × (Nat → Nat → Int32) × (Nat → Nat → Int64) × (Nat → Nat → Option Nat)
def gN (σ : Mem) : Nat := σ.1
def gL (σ : Mem) (c : Nat) : Nat := σ.2.2.1 c
def gI (σ : Mem) (c k : Nat) : Int32 := σ.2.2.2.1 c k
def gJ (σ : Mem) (c k : Nat) : Int64 := σ.2.2.2.2.1 c k
def gR (σ : Mem) (c k : Nat) : Option Nat := σ.2.2.2.2.2 c k
def kd (σ : Mem) (c : Nat) : Nat := if c < σ.1 then σ.2.1 c else 99
def sI (σ : Mem) (c k : Nat) (v : Int32) : Mem := (σ.1, σ.2.1, σ.2.2.1, (fun a j => if a = c ∧ j = k then v else σ.2.2.2.1 a j), σ.2.2.2.2.1, σ.2.2.2.2.2)
def sJ (σ : Mem) (c k : Nat) (v : Int64) : Mem := (σ.1, σ.2.1, σ.2.2.1, σ.2.2.2.1, (fun a j => if a = c ∧ j = k then v else σ.2.2.2.2.1 a j), σ.2.2.2.2.2)
def sR (σ : Mem) (c k : Nat) (v : Option Nat) : Mem := (σ.1, σ.2.1, σ.2.2.1, σ.2.2.2.1, σ.2.2.2.2.1, (fun a j => if a = c ∧ j = k then v else σ.2.2.2.2.2 a j))
def al (σ : Mem) (k n : Nat) : Mem := (σ.1 + 1, (fun a => if a = σ.1 then k else σ.2.1 a), (fun a => if a = σ.1 then n else σ.2.2.1 a), (fun a j => if a = σ.1 then 0 else σ.2.2.2.1 a j), (fun a j => if a = σ.1 then 0 else σ.2.2.2.2.1 a j), (fun a j => if a = σ.1 then none else σ.2.2.2.2.2 a j))
/-- the kinds of the fields of a class: 0 int, 1 long, 2 a reference -/
def sg (k : Nat) : List Nat := match k with
  | 0 => [2, 2, 0, 0, 0]
  | 1 => [2, 2, 2, 2]
  | 2 => [2, 1, 0, 0, 0, 0, 0, 0]
  | 3 => [2, 0]
  | 4 => [2, 2, 2, 2, 0, 0, 0, 0, 0, 1, 0, 0]
  | 5 => [2, 2, 2, 2, 2, 0, 0, 0]
  | 6 => [2, 0]
  | 7 => [2, 2]
  | 8 => [2, 2, 2, 2, 2, 2, 2, 2, 2, 0, 1, 0]
  | 9 => [0, 2, 0, 0, 0, 0, 0, 0, 0, 0, 1, 2, 2, 2, 2, 2, 2, 2, 2, 2, 2, 2, 0, 0, 0, 2, 0, 2, 0, 2, 2, 2, 2, 2, 0, 0, 2, 2, 2, 2, 2, 2]
  | _ => []
def fv (ad : Nat → Nat) (σ : Mem) (c j t : Nat) : Value := if t = 0 then .int (gI σ c j) else if t = 1 then .long (gJ σ c j) else va_rf ((gR σ c j).map ad)
def fsOf (ad : Nat → Nat) (σ : Mem) (c k : Nat) : List Value := (List.range (sg k).length).map (fun j => fv ad σ c j ((sg k).getD j 0))
def cellOf (cy : Nat → ClassId) (ad : Nat → Nat) (σ : Mem) (c : Nat) : va_E :=
  if σ.2.1 c < 10 then .inr (σ.2.1 c, fsOf ad σ c (σ.2.1 c))
  else if σ.2.1 c = 12 then .inl (cy 12, gL σ c, .inr (.inl (gJ σ c)))
  else if σ.2.1 c = 14 ∨ σ.2.1 c = 15 then .inl (cy (σ.2.1 c), gL σ c, .inr (.inr (.inr (.inr (fun i => (gR σ c i).map ad)))))
  else .inl (cy (σ.2.1 c), gL σ c, .inl (gI σ c))
def MM (cy : Nat → ClassId) (ad : Nat → Nat) (σ : Mem) : va_W := (List.range σ.1).map (fun c => (ad c, cellOf cy ad σ c))
def tyL (cy : Nat → ClassId) : List (ClassId × FieldType) := [(cy 10, .byte), (cy 11, .int), (cy 12, .long), (cy 13, .boolean), (cy 14, .object RX0), (cy 15, .object RX2)]
/-- the heap holds the memory; since H0 only A has changed; how large it is -/
def MS (D : va_G) (cy : Nat → ClassId) (ad : Nat → Nat) (A : Nat → Prop) (H0 : Heap) (z : Nat) (σ : Mem) (H : Heap) (locs : List Loc) : Prop :=
  va_P D vwCl (MM cy ad σ) H ∧ va_D A (MM cy ad σ) ∧ va_S A H0 H locs ∧ H.size = z
theorem kd_lt {σ : Mem} {c k : Nat} (h : kd σ c = k) (hk : k < 99) : c < σ.1 ∧ σ.2.1 c = k := by
  unfold kd at h
  split at h
  · exact ⟨by assumption, h⟩
  · omega
theorem MM_get (cy : Nat → ClassId) (ad : Nat → Nat) {σ : Mem} {c : Nat} (h : c < σ.1) : (MM cy ad σ)[c]? = some (ad c, cellOf cy ad σ c) := by
  simp [MM, h]
theorem fs_get (ad : Nat → Nat) (σ : Mem) (c : Nat) {k j : Nat} (h : j < (sg k).length) : (fsOf ad σ c k)[j]? = some (fv ad σ c j ((sg k).getD j 0)) := by
  simp [fsOf, h]
theorem fs_len (ad : Nat → Nat) (σ : Mem) (c k : Nat) : (fsOf ad σ c k).length = (sg k).length := by simp [fsOf]
theorem fs_set {ad : Nat → Nat} {σ σ' : Mem} {c k j : Nat} {v : Value} (hj : j < (sg k).length) (h1 : fv ad σ' c j ((sg k).getD j 0) = v) (h2 : ∀ i, i ≠ j → i < (sg k).length → fv ad σ' c i ((sg k).getD i 0) = fv ad σ c i ((sg k).getD i 0)) : (fsOf ad σ c k).set j v = fsOf ad σ' c k := by
  apply List.ext_getElem?
  intro i
  by_cases hi : i < (sg k).length
  · by_cases e : i = j
    · subst e
      rw [List.getElem?_set_self (by rw [fs_len]; exact hi), fs_get ad σ' c hi, h1]
    · rw [List.getElem?_set_ne (Ne.symm e), fs_get ad σ c hi, fs_get ad σ' c hi, h2 i e hi]
  · rw [List.getElem?_eq_none (by rw [List.length_set, fs_len]; omega), List.getElem?_eq_none (by rw [fs_len]; omega)]
theorem cellOf_obj (cy : Nat → ClassId) (ad : Nat → Nat) {σ : Mem} {c k : Nat} (h : σ.2.1 c = k) (hk : k < 10) : cellOf cy ad σ c = .inr (k, fsOf ad σ c k) := by
  subst h
  simp [cellOf, hk]
theorem cellOf_I (cy : Nat → ClassId) (ad : Nat → Nat) {σ : Mem} {c k : Nat} (h : σ.2.1 c = k) (hk : k = 10 ∨ k = 11 ∨ k = 13) : cellOf cy ad σ c = .inl (cy k, gL σ c, .inl (gI σ c)) := by
  subst h
  rcases hk with e | e | e <;> simp [cellOf, e]
theorem cellOf_J (cy : Nat → ClassId) (ad : Nat → Nat) {σ : Mem} {c : Nat} (h : σ.2.1 c = 12) : cellOf cy ad σ c = .inl (cy 12, gL σ c, .inr (.inl (gJ σ c))) := by
  simp [cellOf, h]
theorem cellOf_R (cy : Nat → ClassId) (ad : Nat → Nat) {σ : Mem} {c k : Nat} (h : σ.2.1 c = k) (hk : k = 14 ∨ k = 15) : cellOf cy ad σ c = .inl (cy k, gL σ c, .inr (.inr (.inr (.inr (fun i => (gR σ c i).map ad))))) := by
  subst h
  rcases hk with e | e <;> simp [cellOf, e]
/-- what a write to cell a makes of the world -/
theorem MM_set {cy : Nat → ClassId} {ad : Nat → Nat} {σ σ' : Mem} {a : Nat} (ha : a < σ.1) (hn : σ'.1 = σ.1) (ho : ∀ b, b ≠ a → cellOf cy ad σ' b = cellOf cy ad σ b) : (MM cy ad σ).set a (ad a, cellOf cy ad σ' a) = MM cy ad σ' := by
  apply List.ext_getElem?
  intro i
  by_cases hi : i < σ.1
  · by_cases e : i = a
    · subst e
      rw [List.getElem?_set_self (by simp [MM, hi]), MM_get cy ad (by rw [hn]; exact hi)]
    · rw [List.getElem?_set_ne (Ne.symm e), MM_get cy ad hi, MM_get cy ad (by rw [hn]; exact hi), ho i e]
  · rw [List.getElem?_eq_none (by simp [MM]; omega), List.getElem?_eq_none (by simp [MM, hn]; omega)]
theorem MS.upd {D : va_G} {cy : Nat → ClassId} {ad : Nat → Nat} {A : Nat → Prop} {H0 : Heap} {z : Nat} {σ σ' : Mem} {H H1 : Heap} {locs : List Loc} {a k : Nat} (h : MS D cy ad A H0 z σ H locs) (ha : a < σ.1) (hn : σ'.1 = σ.1) (ho : ∀ b, b ≠ a → cellOf cy ad σ' b = cellOf cy ad σ b) (he : va_at D vwCl (ad a, cellOf cy ad σ' a) H1) (hz : H1.size = H.size) (oq : ∀ q : Nat, q ≠ ad a → H1[q]? = H[q]?) : MS D cy ad A H0 z σ' H1 (locs ++ [⟨ad a, k⟩]) := by
  obtain ⟨hP, hD, hS, hs⟩ := h
  have hg := MM_get cy ad (σ := σ) ha
  refine ⟨?_, ?_, hS.put hz oq (hD.2 a _ hg), by rw [hz]; exact hs⟩
  · rw [← MM_set (cy := cy) (ad := ad) ha hn ho]; exact hP.set hD hg he oq
  · rw [← MM_set (cy := cy) (ad := ad) ha hn ho]; exact hD.set hg
theorem fv_sI {ad : Nat → Nat} {σ : Mem} {c k : Nat} {v : Int32} {b j t : Nat} (h : ¬ (b = c ∧ j = k)) : fv ad (sI σ c k v) b j t = fv ad σ b j t := by simp [fv, sI, gI, gJ, gR, h]
theorem fv_sJ {ad : Nat → Nat} {σ : Mem} {c k : Nat} {v : Int64} {b j t : Nat} (h : ¬ (b = c ∧ j = k)) : fv ad (sJ σ c k v) b j t = fv ad σ b j t := by simp [fv, sJ, gI, gJ, gR, h]
theorem fv_sR {ad : Nat → Nat} {σ : Mem} {c k : Nat} {v : Option Nat} {b j t : Nat} (h : ¬ (b = c ∧ j = k)) : fv ad (sR σ c k v) b j t = fv ad σ b j t := by simp [fv, sR, gI, gJ, gR, h]
theorem cellOf_sI {cy : Nat → ClassId} {ad : Nat → Nat} {σ : Mem} {c k : Nat} {v : Int32} {b : Nat} (h : b ≠ c) : cellOf cy ad (sI σ c k v) b = cellOf cy ad σ b := by
  have e1 : ∀ q, fsOf ad (sI σ c k v) b q = fsOf ad σ b q := fun q => by
    unfold fsOf
    apply List.map_congr_left
    intro j _
    exact fv_sI (fun z => h z.1)
  have e2 : gI (sI σ c k v) b = gI σ b := by funext j; simp [gI, sI, h]
  unfold cellOf
  rw [e2]
  simp only [e1]
  rfl
theorem cellOf_sJ {cy : Nat → ClassId} {ad : Nat → Nat} {σ : Mem} {c k : Nat} {v : Int64} {b : Nat} (h : b ≠ c) : cellOf cy ad (sJ σ c k v) b = cellOf cy ad σ b := by
  have e1 : ∀ q, fsOf ad (sJ σ c k v) b q = fsOf ad σ b q := fun q => by
    unfold fsOf
    apply List.map_congr_left
    intro j _
    exact fv_sJ (fun z => h z.1)
  have e2 : gJ (sJ σ c k v) b = gJ σ b := by funext j; simp [gJ, sJ, h]
  unfold cellOf
  rw [e2]
  simp only [e1]
  rfl
theorem cellOf_sR {cy : Nat → ClassId} {ad : Nat → Nat} {σ : Mem} {c k : Nat} {v : Option Nat} {b : Nat} (h : b ≠ c) : cellOf cy ad (sR σ c k v) b = cellOf cy ad σ b := by
  have e1 : ∀ q, fsOf ad (sR σ c k v) b q = fsOf ad σ b q := fun q => by
    unfold fsOf
    apply List.map_congr_left
    intro j _
    exact fv_sR (fun z => h z.1)
  have e2 : gR (sR σ c k v) b = gR σ b := by funext j; simp [gR, sR, h]
  unfold cellOf
  rw [e2]
  simp only [e1]
  rfl
end
section
def WALL : List Cond := lw_tbl.filter goodWord
theorem WALL_good : GoodIn WALL WALL := fun w h => ⟨h, good_of_word (List.mem_filter.mp h).2⟩
theorem WALL_of {w : Cond} (h : w ∈ lw_tbl) (hg : goodWord w = true) : w ∈ WALL := List.mem_filter.mpr ⟨h, hg⟩
theorem WALL_code {y : MethodName} {cb : ByteArray} {n : Nat} {rt : Option FieldType} (h : Cond.code y cb n rt ∈ WALL) : GoodIn WALL (Cond.code y cb n rt :: WALL) := fun w hw => (List.mem_cons.mp hw).elim (fun e => by rw [e]; exact WALL_good _ h) (WALL_good w)
theorem WALL_cons {w : Cond} {ws : List Cond} (h : w ∈ WALL) (hw : GoodIn WALL ws) : GoodIn WALL (w :: ws) := fun v hv => (List.mem_cons.mp hv).elim (fun e => by rw [e]; exact WALL_good _ h) (hw v)
/-- links between nest mates -/
def isNest : Cond → Bool
  | .fieldLinkNest _ _ _ _ _ _ => true
  | .methodLinkNest _ _ _ _ => true
  | _ => false
def NWL : List Cond := lw_tbl.filter isNest
def NW (U : State) : Prop := ∀ w ∈ NWL, va_Nw w U
theorem NW.warm {s U : State} (h : NW s) (hW : s.WarmedH U.vm) : NW U := by
  intro w hw
  have h1 := h w hw
  have h2 := (List.mem_filter.mp hw).2
  cases w <;> first | exact va_Nw.warmF hW h1 | exact va_Nw.warmM hW h1 | cases h2
theorem NW.same {u U : State} (h : NW u) (e : u.vm = U.vm) : NW U := by
  intro w hw
  have h1 := h w hw
  have h2 := (List.mem_filter.mp hw).2
  cases w <;> first | exact va_Nw.same rfl e h1 | cases h2
theorem NW_of {w : Cond} (h : w ∈ lw_tbl) (hg : isNest w = true) : w ∈ NWL := List.mem_filter.mpr ⟨h, hg⟩
/-- the statics: the words' long values of the model, the letters of the reader's words -/
def stL : List (String × Int64) := [("PLAN", 323717), ("FEE", 4514), ("TERM", 397804), ("FROM", 131638), ("UNTIL", 11450658), ("FOR", 4797), ("FREE", 131360), ("TO", 555), ("AT", 47), ("REST", 358472)]
def wLet : Nat → Int64 := fun k => match k with
  | 0 => 1886151022 | 1 => 6710629 | 2 => 1952805485 | 3 => 1718775661 | 4 => 504364296556 | 5 => 6713202 | 6 => 1718773093 | 7 => 29807 | 8 => 24948 | _ => 1919251316
def ZS (A : Nat → Prop) (U : State) (H : Heap) : Prop := (∀ q ∈ stL, va_Z RX9 q.1 "J" (.long q.2) A U H) ∧ ∃ t : Nat, va_Z RX4 "WORD_LETTERS" "[J" (.ref t) A U H ∧ va_T .long t 10 (fun j => .long (wLet j)) A U H
theorem ZS.moved {A : Nat → Prop} {u U : State} {H : Heap} (hvm : u.vm.Alike U.vm) (h : ZS A u H) : ZS A U H := by
  obtain ⟨h1, t, h2, h3⟩ := h
  exact ⟨fun q hq => va_Z.moved hvm (h1 q hq), t, va_Z.moved hvm h2, va_T.moved hvm h3⟩
theorem ZS.kept {A : Nat → Prop} {U : State} {H H1 : Heap} (h : ZS A U H) (hq : ∀ a : Nat, a < H.size → ¬ A a → H1[a]? = H[a]?) : ZS A U H1 := by
  obtain ⟨h1, t, h2, h3⟩ := h
  exact ⟨fun q hq' => va_Z.kept (h1 q hq') hq, t, va_Z.kept h2 hq, va_T.kept h3 hq⟩
def GS (D : va_G) (cy : Nat → ClassId) (A : Nat → Prop) (U : State) : Prop := va_K D vwCl (tyL cy) U ∧ NW U ∧ ZS A U U.heap ∧ ∀ q : Nat, U.heap.size ≤ q → A q
def Pr (D : va_G) (cy : Nat → ClassId) (ad : Nat → Nat) (A : Nat → Prop) (z : Nat) (σ : Mem) (U : State) : Prop := va_P D vwCl (MM cy ad σ) U.heap ∧ va_D A (MM cy ad σ) ∧ U.heap.size = z ∧ GS D cy A U
def Po (D : va_G) (cy : Nat → ClassId) (ad : Nat → Nat) (A : Nat → Prop) (z : Nat) (τ : Mem) (t : State) : Prop := va_P D vwCl (MM cy ad τ) t.heap ∧ va_D A (MM cy ad τ) ∧ t.heap.size = z
theorem GS.calling {D : va_G} {cy : Nat → ClassId} {A : Nat → Prop} {U : State} (h : GS D cy A U) (g : JFrame) (mk : MethodId) (a : Array Value) : GS D cy A (U.calling g mk a) := by
  obtain ⟨h1, h2, h3, h4⟩ := h
  exact ⟨va_K.moved (u := U) (U := U.calling g mk a) (Vm.Alike.refl U.vm) h1, NW.same (u := U) (U := U.calling g mk a) h2 rfl, ZS.moved (u := U) (U := U.calling g mk a) (Vm.Alike.refl U.vm) h3, h4⟩
theorem GS.at {D : va_G} {cy : Nat → ClassId} {A : Nat → Prop} {s U : State} {H : Heap} {locs : List Loc} (h : GS D cy A s) (hS : va_S A s.heap H locs) (hU : U.heap = H) (hW : s.WarmedH U.vm) : GS D cy A U := by
  obtain ⟨h1, h2, h3, h4⟩ := h
  refine ⟨va_K.moved hW.alike h1, h2.warm hW, ?_, fun q hq => h4 q (Nat.le_trans hS.1 (by rw [← hU]; exact hq))⟩
  rw [hU]
  exact (h3.moved hW.alike).kept hS.2.1
abbrev rm (d : Nat) : Room := { frames := d, cells := 0, slots := 0, locals := 36 * d }
theorem Pr.blind {D : va_G} {cy : Nat → ClassId} {ad : Nat → Nat} {A : Nat → Prop} {z : Nat} {σ : Mem} {av : List Value} : FrameBlind (va_Pc av (Pr D cy ad A z σ)) := by
  intro a U g mk h
  obtain ⟨q0, qP, qD, qz, qG⟩ := h
  exact ⟨q0, qP, qD, qz, qG.calling g mk a⟩
theorem MS.pre {D : va_G} {cy : Nat → ClassId} {ad : Nat → Nat} {A : Nat → Prop} {z : Nat} {σ : Mem} {s : State} {H : Heap} {locs : List Loc} (hM : MS D cy ad A s.heap z σ H locs) (hG : GS D cy A s) : ∀ U : State, U.heap = H → s.WarmedH U.vm → Pr D cy ad A z σ U := by
  intro U hU hW
  exact ⟨by rw [hU]; exact hM.1, hM.2.1, by rw [hU]; exact hM.2.2.2, hG.at hM.2.2.1 hU hW⟩
theorem MS.post {D : va_G} {cy : Nat → ClassId} {ad : Nat → Nat} {A : Nat → Prop} {z : Nat} {τ : Mem} {t : State} {H0 H : Heap} {locs : List Loc} (h : Po D cy ad A z τ t) (ht : t.heap = H) (hS : va_S A H0 H locs) : MS D cy ad A H0 z τ H locs := by
  obtain ⟨h1, h2, h3⟩ := h
  rw [ht] at h1 h3
  exact ⟨h1, h2, hS, h3⟩
/-- contracts: int, long, void, a reference -/
abbrev CtI (l : Launch) (y : MethodName) (cb : ByteArray) (n : Nat) (rt : Option FieldType) (d : Nat) (av : List Value) (D : va_G) (cy : Nat → ClassId) (ad : Nat → Nat) (A : Nat → Prop) (z : Nat) (σ : Mem) (r : Int32) (σ' : Mem) : Prop :=
  Met l y (Cond.code y cb n rt :: WALL) (rm d) (va_Pc av (Pr D cy ad A z σ)) (va_Qi (fun (r0 : Int32) (τ : Mem) => r0 = r ∧ τ = σ') (Po D cy ad A z) A) 0 0 A
abbrev CtL (l : Launch) (y : MethodName) (cb : ByteArray) (n : Nat) (rt : Option FieldType) (d : Nat) (av : List Value) (D : va_G) (cy : Nat → ClassId) (ad : Nat → Nat) (A : Nat → Prop) (z : Nat) (σ : Mem) (r : Int64) (σ' : Mem) : Prop :=
  Met l y (Cond.code y cb n rt :: WALL) (rm d) (va_Pc av (Pr D cy ad A z σ)) (va_Ql (fun (r0 : Int64) (τ : Mem) => r0 = r ∧ τ = σ') (Po D cy ad A z) A) 0 0 A
abbrev CtV (l : Launch) (y : MethodName) (cb : ByteArray) (n : Nat) (rt : Option FieldType) (d : Nat) (av : List Value) (D : va_G) (cy : Nat → ClassId) (ad : Nat → Nat) (A : Nat → Prop) (z : Nat) (σ : Mem) (_ : Unit) (σ' : Mem) : Prop :=
  Met l y (Cond.code y cb n rt :: WALL) (rm d) (va_Pc av (Pr D cy ad A z σ)) (va_Qv (fun (τ : Mem) => τ = σ') (Po D cy ad A z) A) 0 0 A
abbrev CtR (l : Launch) (y : MethodName) (cb : ByteArray) (n : Nat) (rt : Option FieldType) (d : Nat) (av : List Value) (D : va_G) (cy : Nat → ClassId) (ad : Nat → Nat) (A : Nat → Prop) (z : Nat) (σ : Mem) (r : Option Nat) (σ' : Mem) : Prop :=
  Met l y (Cond.code y cb n rt :: WALL) (rm d) (va_Pc av (Pr D cy ad A z σ)) (va_Qq (fun (r0 : Option Nat) (τ : Mem) => r0 = r.map ad ∧ τ = σ') (Po D cy ad A z) A) 0 0 A
section RW
variable {p : Program} {l : Launch} {e : Env} {R : Room} {s : State} {m : MethodId} {args : Array Value} {below : List Frame} {meth : Method} {c : Code} {H : Heap} {locs : List Loc} {cells slots : Nat} {Q : State → Prop}
variable {cc : ByteArray} {pc : Nat} {ls : Array Slot} {rest : List Value} {D : va_G} {cy : Nat → ClassId} {ad : Nat → Nat} {A : Nat → Prop} {H0 : Heap} {z : Nat} {σ : Mem}
theorem m_get {nL : Nat} {own ref C : String} {T : u_T} {N ci index a : Nat} (hC : CallFix p m c cc nL s args WALL own) (hin : ∀ w ∈ u_ws C T N, w ∈ WALL) (hK : va_K D vwCl (tyL cy) s) (hM : MS D cy ad A H0 z σ H locs) (hk : kd σ a = ci) (hci : ci < 10) (hc : vwCl[ci]? = some (C, T, N)) (hN : N = (sg ci).length) (k : Nat) (hkN : k < N) (hlink : (Cond.fieldLink own index ref (T k).2.1 (T k).2.2.1).before args s = true) (hsame : ∀ x, s.fieldFound? (T k).1 (T k).2.1 (T k).2.2.1 = some x → s.fieldFound? ref (T k).2.1 (T k).2.2.1 = some x) (hdg : decode cc pc = .ok (.getfield index, 3))
    (kk : W p l e R s m args below meth c H locs cells slots Q (F0 m (pc + 3) ls (fv ad σ a k ((sg ci).getD k 0) :: rest))) : W p l e R s m args below meth c H locs cells slots Q (F0 m pc ls (.ref (ad a) :: rest)) := by
  obtain ⟨h1, h2⟩ := kd_lt hk (by omega)
  exact va_get hC.1 hC.2.1 hC.2.2.2.2 hin hC.2.2.2.1 hK hM.1 a (by rw [MM_get cy ad h1, cellOf_obj cy ad h2 hci]) hc k hkN hlink hsame (fs_get ad σ a (by omega)) hdg kk
theorem m_getN {nL : Nat} {own ref C host : String} {T : u_T} {N ci index a : Nat} (hC : CallFix p m c cc nL s args WALL own) (hin : ∀ w ∈ u_ws C T N, w ∈ WALL) (hK : va_K D vwCl (tyL cy) s) (hM : MS D cy ad A H0 z σ H locs) (hk : kd σ a = ci) (hci : ci < 10) (hc : vwCl[ci]? = some (C, T, N)) (hN : N = (sg ci).length) (k : Nat) (hkN : k < N) (hlink : va_Nw (Cond.fieldLinkNest own index ref (T k).2.1 (T k).2.2.1 host) s) (hsame : ∀ x, s.fieldFound? (T k).1 (T k).2.1 (T k).2.2.1 = some x → s.fieldFound? ref (T k).2.1 (T k).2.2.1 = some x) (hdg : decode cc pc = .ok (.getfield index, 3))
    (kk : W p l e R s m args below meth c H locs cells slots Q (F0 m (pc + 3) ls (fv ad σ a k ((sg ci).getD k 0) :: rest))) : W p l e R s m args below meth c H locs cells slots Q (F0 m pc ls (.ref (ad a) :: rest)) := by
  obtain ⟨h1, h2⟩ := kd_lt hk (by omega)
  exact va_getN hC.1 hC.2.1 hC.2.2.2.2 hin hC.2.2.2.1 hK hM.1 a (by rw [MM_get cy ad h1, cellOf_obj cy ad h2 hci]) hc k hkN (va_Nw.use rfl hlink) hsame (fs_get ad σ a (by omega)) hdg kk
theorem m_put {nL : Nat} {own ref C : String} {T : u_T} {N ci index a : Nat} {σ' : Mem} (hC : CallFix p m c cc nL s args WALL own) (hin : ∀ w ∈ u_ws C T N, w ∈ WALL) (ty0 : Nat → FieldType) (hty : ∀ k, k < N → parseFieldDescriptor (T k).2.2.1 = some (ty0 k)) (hnm : ∀ a, a < N → ∀ b, b < N → a ≠ b → (T a).2.1 ≠ (T b).2.1) (hK : va_K D vwCl (tyL cy) s) (hM : MS D cy ad A H0 z σ H locs) (hk : kd σ a = ci) (hci : ci < 10) (hc : vwCl[ci]? = some (C, T, N)) (hN : N = (sg ci).length) (k : Nat) (hkN : k < N) (hlink : (Cond.fieldLink own index ref (T k).2.1 (T k).2.2.1).before args s = true) (hsame : ∀ x, s.fieldFound? (T k).1 (T k).2.1 (T k).2.2.1 = some x → s.fieldFound? ref (T k).2.1 (T k).2.2.1 = some x) (hfin : (T k).2.2.2 = false) {ty : FieldType} {v : Value} (hd : parseFieldDescriptor (T k).2.2.1 = some ty) (hn : narrow ty v = v) (hfit : fits ty v = true)
    (hσ1 : σ'.1 = σ.1) (hσ2 : σ'.2.1 = σ.2.1) (ho : ∀ b, b ≠ a → cellOf cy ad σ' b = cellOf cy ad σ b) (hf : (fsOf ad σ a ci).set k v = fsOf ad σ' a ci) (hdg : decode cc pc = .ok (.putfield index, 3))
    (kk : ∀ (H1 : Heap) (locs1 : List Loc), MS D cy ad A H0 z σ' H1 locs1 → W p l e R s m args below meth c H1 locs1 cells slots Q (F0 m (pc + 3) ls rest)) : W p l e R s m args below meth c H locs cells slots Q (F0 m pc ls (v :: .ref (ad a) :: rest)) := by
  obtain ⟨h1, h2⟩ := kd_lt hk (by omega)
  have hts := hC.2.2.2.2
  have hap := va_apart (own := own) hts hin ty0 hty hnm hK hc
  have he : (MM cy ad σ)[a]? = some (ad a, .inr (ci, fsOf ad σ a ci)) := by rw [MM_get cy ad h1, cellOf_obj cy ad h2 hci]
  have hl : k < (fsOf ad σ a ci).length := by rw [fs_len]; omega
  obtain ⟨r, g1, cell, q1, q2, q3, q4⟩ := hM.1 a _ he
  have hr : r = (C, T, N) := Option.some.inj (g1.symm.trans hc)
  subst hr
  obtain ⟨hS, hfc, kC, hkC, hkind⟩ := hK.1 ci _ hc
  obtain ⟨cf, kf, fi, f, hi, hsl⟩ := hS k hkN
  have hlay := hts _ (hin _ (u_in_lay hkN))
  unfold u_lay at hlay
  rw [if_neg (by rw [hfin]; decide)] at hlay
  have hst := (u_facts hfc hkC (u_lays hts hin hkN) hi).1
  have h6 := u_store hfc hkC hkind hlay hi hd hn hfit
  refine W.putK hC.1 hC.2.1 (f := f) ⟨hC.2.2.2.1, hlink, ⟨_, _, _, hsame _ hi⟩, hst⟩ (by rw [q2]; exact h6) q1 q3 (by rw [hsl]; exact k2_hasslot (q4 k hkN)) rfl rfl hdg fun H' e1 e2 e3 => ?_
  rw [hsl] at e1 ⊢
  refine kk H' _ (hM.upd h1 hσ1 ho ?_ e2 e3)
  rw [cellOf_obj cy ad (σ := σ') (by rw [hσ2]; exact h2) hci, ← hf]
  exact ⟨_, hc, t_OB.to (V := updV (vp_V (fsOf ad σ a ci)) k v) ⟨_, e1, q2, q3, t_set q4 hap hkN v⟩ (fun j _ => vp_updV_set hl v j)⟩
theorem m_putN {nL : Nat} {own ref C host : String} {T : u_T} {N ci index a : Nat} {σ' : Mem} (hC : CallFix p m c cc nL s args WALL own) (hin : ∀ w ∈ u_ws C T N, w ∈ WALL) (ty0 : Nat → FieldType) (hty : ∀ k, k < N → parseFieldDescriptor (T k).2.2.1 = some (ty0 k)) (hnm : ∀ a, a < N → ∀ b, b < N → a ≠ b → (T a).2.1 ≠ (T b).2.1) (hK : va_K D vwCl (tyL cy) s) (hM : MS D cy ad A H0 z σ H locs) (hk : kd σ a = ci) (hci : ci < 10) (hc : vwCl[ci]? = some (C, T, N)) (hN : N = (sg ci).length) (k : Nat) (hkN : k < N) (hlink : va_Nw (Cond.fieldLinkNest own index ref (T k).2.1 (T k).2.2.1 host) s) (hsame : ∀ x, s.fieldFound? (T k).1 (T k).2.1 (T k).2.2.1 = some x → s.fieldFound? ref (T k).2.1 (T k).2.2.1 = some x) (hfin : (T k).2.2.2 = false) {ty : FieldType} {v : Value} (hd : parseFieldDescriptor (T k).2.2.1 = some ty) (hn : narrow ty v = v) (hfit : fits ty v = true)
    (hσ1 : σ'.1 = σ.1) (hσ2 : σ'.2.1 = σ.2.1) (ho : ∀ b, b ≠ a → cellOf cy ad σ' b = cellOf cy ad σ b) (hf : (fsOf ad σ a ci).set k v = fsOf ad σ' a ci) (hdg : decode cc pc = .ok (.putfield index, 3))
    (kk : ∀ (H1 : Heap) (locs1 : List Loc), MS D cy ad A H0 z σ' H1 locs1 → W p l e R s m args below meth c H1 locs1 cells slots Q (F0 m (pc + 3) ls rest)) : W p l e R s m args below meth c H locs cells slots Q (F0 m pc ls (v :: .ref (ad a) :: rest)) := by
  obtain ⟨h1, h2⟩ := kd_lt hk (by omega)
  have hts := hC.2.2.2.2
  have hap := va_apart (own := own) hts hin ty0 hty hnm hK hc
  have he : (MM cy ad σ)[a]? = some (ad a, .inr (ci, fsOf ad σ a ci)) := by rw [MM_get cy ad h1, cellOf_obj cy ad h2 hci]
  have hl : k < (fsOf ad σ a ci).length := by rw [fs_len]; omega
  obtain ⟨r, g1, cell, q1, q2, q3, q4⟩ := hM.1 a _ he
  have hr : r = (C, T, N) := Option.some.inj (g1.symm.trans hc)
  subst hr
  obtain ⟨hS, hfc, kC, hkC, hkind⟩ := hK.1 ci _ hc
  obtain ⟨cf, kf, fi, f, hi, hsl⟩ := hS k hkN
  have hlay := hts _ (hin _ (u_in_lay hkN))
  unfold u_lay at hlay
  rw [if_neg (by rw [hfin]; decide)] at hlay
  have hst := (u_facts hfc hkC (u_lays hts hin hkN) hi).1
  have h6 := u_store hfc hkC hkind hlay hi hd hn hfit
  refine va_WputK hC.1 hC.2.1 (f := f) hC.2.2.2.1 (va_Nw.use rfl hlink) (hsame _ hi) hst (by rw [q2]; exact h6) q1 q3 (by rw [hsl]; exact k2_hasslot (q4 k hkN)) rfl rfl hdg fun H' e1 e2 e3 => ?_
  rw [hsl] at e1 ⊢
  refine kk H' _ (hM.upd h1 hσ1 ho ?_ e2 e3)
  rw [cellOf_obj cy ad (σ := σ') (by rw [hσ2]; exact h2) hci, ← hf]
  exact ⟨_, hc, t_OB.to (V := updV (vp_V (fsOf ad σ a ci)) k v) ⟨_, e1, q2, q3, t_set q4 hap hkN v⟩ (fun j _ => vp_updV_set hl v j)⟩
theorem fs_sI {a k ci : Nat} {x : Int32} (hk : k < (sg ci).length) (ht : (sg ci).getD k 0 = 0) : (fsOf ad σ a ci).set k (.int x) = fsOf ad (sI σ a k x) a ci :=
  fs_set hk (by rw [ht]; simp [fv, gI, sI]) (fun i hi _ => fv_sI (fun q => hi q.2))
theorem fs_sJ {a k ci : Nat} {x : Int64} (hk : k < (sg ci).length) (ht : (sg ci).getD k 0 = 1) : (fsOf ad σ a ci).set k (.long x) = fsOf ad (sJ σ a k x) a ci :=
  fs_set hk (by rw [ht]; simp [fv, gJ, sJ]) (fun i hi _ => fv_sJ (fun q => hi q.2))
theorem fs_sR {a k ci : Nat} {x : Option Nat} (hk : k < (sg ci).length) (ht : (sg ci).getD k 0 = 2) : (fsOf ad σ a ci).set k (va_rf (x.map ad)) = fsOf ad (sR σ a k x) a ci :=
  fs_set hk (by rw [ht]; simp [fv, gR, sR]) (fun i hi _ => fv_sR (fun q => hi q.2))
theorem m_iald {a : Nat} (hx : p.tables.exec = Jvm.exec) (hb : c.code = cc) (hK : va_K D vwCl (tyL cy) s) (hM : MS D cy ad A H0 z σ H locs) (hk : kd σ a = 11) {i : Int32} (hin : vp_in i (gL σ a)) (hdg : decode cc pc = .ok (.iaload, 1))
    (kk : W p l e R s m args below meth c H locs cells slots Q (F0 m (pc + 1) ls (.int (gI σ a i.toNatClampNeg) :: rest))) : W p l e R s m args below meth c H locs cells slots Q (F0 m pc ls (.int i :: .ref (ad a) :: rest)) := by
  obtain ⟨h1, h2⟩ := kd_lt hk (by omega)
  exact va_iald hx hb hK hM.1 a 1 (by rw [MM_get cy ad h1, cellOf_I cy ad h2 (by decide)]) rfl hin hdg kk
theorem m_bald {a : Nat} (hx : p.tables.exec = Jvm.exec) (hb : c.code = cc) (hK : va_K D vwCl (tyL cy) s) (hM : MS D cy ad A H0 z σ H locs) (hk : kd σ a = 10) {i : Int32} (hin : vp_in i (gL σ a)) (hdg : decode cc pc = .ok (.baload, 1))
    (kk : W p l e R s m args below meth c H locs cells slots Q (F0 m (pc + 1) ls (.int (gI σ a i.toNatClampNeg) :: rest))) : W p l e R s m args below meth c H locs cells slots Q (F0 m pc ls (.int i :: .ref (ad a) :: rest)) := by
  obtain ⟨h1, h2⟩ := kd_lt hk (by omega)
  exact va_bald hx hb hK hM.1 a 0 (by rw [MM_get cy ad h1, cellOf_I cy ad h2 (by decide)]) rfl hin hdg kk
theorem m_zald {a : Nat} (hx : p.tables.exec = Jvm.exec) (hb : c.code = cc) (hK : va_K D vwCl (tyL cy) s) (hM : MS D cy ad A H0 z σ H locs) (hk : kd σ a = 13) {i : Int32} (hin : vp_in i (gL σ a)) (hdg : decode cc pc = .ok (.baload, 1))
    (kk : W p l e R s m args below meth c H locs cells slots Q (F0 m (pc + 1) ls (.int (gI σ a i.toNatClampNeg) :: rest))) : W p l e R s m args below meth c H locs cells slots Q (F0 m pc ls (.int i :: .ref (ad a) :: rest)) := by
  obtain ⟨h1, h2⟩ := kd_lt hk (by omega)
  exact va_zald hx hb hK hM.1 a 3 (by rw [MM_get cy ad h1, cellOf_I cy ad h2 (by decide)]) rfl hin hdg kk
theorem m_lald {a : Nat} (hx : p.tables.exec = Jvm.exec) (hb : c.code = cc) (hK : va_K D vwCl (tyL cy) s) (hM : MS D cy ad A H0 z σ H locs) (hk : kd σ a = 12) {i : Int32} (hin : vp_in i (gL σ a)) (hdg : decode cc pc = .ok (.laload, 1))
    (kk : W p l e R s m args below meth c H locs cells slots Q (F0 m (pc + 1) ls (.long (gJ σ a i.toNatClampNeg) :: rest))) : W p l e R s m args below meth c H locs cells slots Q (F0 m pc ls (.int i :: .ref (ad a) :: rest)) := by
  obtain ⟨h1, h2⟩ := kd_lt hk (by omega)
  exact va_lald hx hb hK hM.1 a 2 (by rw [MM_get cy ad h1, cellOf_J cy ad h2]) rfl hin hdg kk
theorem m_aald {a kR : Nat} (hkR : kR = 14 ∨ kR = 15) (hx : p.tables.exec = Jvm.exec) (hb : c.code = cc) (hK : va_K D vwCl (tyL cy) s) (hM : MS D cy ad A H0 z σ H locs) (hk : kd σ a = kR) {i : Int32} (hin : vp_in i (gL σ a)) (hdg : decode cc pc = .ok (.aaload, 1))
    (kk : W p l e R s m args below meth c H locs cells slots Q (F0 m (pc + 1) ls (va_rf ((gR σ a i.toNatClampNeg).map ad) :: rest))) : W p l e R s m args below meth c H locs cells slots Q (F0 m pc ls (.int i :: .ref (ad a) :: rest)) := by
  obtain ⟨h1, h2⟩ := kd_lt hk (by omega)
  rcases hkR with rfl | rfl
  · exact va_aldq hx hb hK hM.1 a 4 (by rw [MM_get cy ad h1, cellOf_R cy ad h2 (by decide)]) rfl hin hdg kk
  · exact va_aldq hx hb hK hM.1 a 5 (by rw [MM_get cy ad h1, cellOf_R cy ad h2 (by decide)]) rfl hin hdg kk
theorem m_alen {a kA : Nat} (hkA : kA = 10 ∨ kA = 11 ∨ kA = 13) (hx : p.tables.exec = Jvm.exec) (hb : c.code = cc) (hK : va_K D vwCl (tyL cy) s) (hM : MS D cy ad A H0 z σ H locs) (hk : kd σ a = kA) (hdg : decode cc pc = .ok (.arraylength, 1))
    (kk : W p l e R s m args below meth c H locs cells slots Q (F0 m (pc + 1) ls (.int (nI (gL σ a)) :: rest))) : W p l e R s m args below meth c H locs cells slots Q (F0 m pc ls (.ref (ad a) :: rest)) := by
  obtain ⟨h1, h2⟩ := kd_lt hk (by omega)
  have ha : (MM cy ad σ)[a]? = some (ad a, .inl (cy kA, gL σ a, .inl (gI σ a))) := by rw [MM_get cy ad h1, cellOf_I cy ad h2 hkA]
  rcases hkA with rfl | rfl | rfl
  · exact va_alen hx hb hK hM.1 a 0 ha rfl rfl hdg kk
  · exact va_alen hx hb hK hM.1 a 1 ha rfl rfl hdg kk
  · exact va_alen hx hb hK hM.1 a 3 ha rfl rfl hdg kk
theorem m_iast {a : Nat} (hx : p.tables.exec = Jvm.exec) (hb : c.code = cc) (hK : va_K D vwCl (tyL cy) s) (hM : MS D cy ad A H0 z σ H locs) (hk : kd σ a = 11) {i x : Int32} (hin : vp_in i (gL σ a)) (hdg : decode cc pc = .ok (.iastore, 1))
    (kk : ∀ (H1 : Heap) (locs1 : List Loc), MS D cy ad A H0 z (sI σ a i.toNatClampNeg x) H1 locs1 → W p l e R s m args below meth c H1 locs1 cells slots Q (F0 m (pc + 1) ls rest)) : W p l e R s m args below meth c H locs cells slots Q (F0 m pc ls (.int x :: .int i :: .ref (ad a) :: rest)) := by
  obtain ⟨h1, h2⟩ := kd_lt hk (by omega)
  have ha : (MM cy ad σ)[a]? = some (ad a, .inl (cy 11, gL σ a, .inl (gI σ a))) := by rw [MM_get cy ad h1, cellOf_I cy ad h2 (by decide)]
  refine W.iast hx hb (hM.1 a _ ha) ((hK.2 1 _ rfl).1 (gL σ a) (fun j => .int (gI σ a j))) (fun q => by cases q) (by show ¬ (i < 0 ∨ (arrV _ _ _).slots.size ≤ _); rw [arrV_size]; exact hin) rfl rfl hdg fun H1 e z oq => ?_
  refine kk H1 _ (hM.upd h1 rfl (fun b hb => cellOf_sI hb) ?_ z oq)
  rw [cellOf_I cy ad (σ := sI σ a _ x) h2 (by decide)]
  show H1[ad a]? = some (vp_cell _ _)
  rw [e]
  rw [vp_cell_i, vp_cell_i, arrV_store]
  congr 2
  funext q
  by_cases hq : q = i.toNatClampNeg
  · subst hq
    simp [updV, gI, sI]
  · simp [updV, gI, sI, hq]
theorem m_bast {a : Nat} (hx : p.tables.exec = Jvm.exec) (hb : c.code = cc) (hK : va_K D vwCl (tyL cy) s) (hM : MS D cy ad A H0 z σ H locs) (hk : kd σ a = 10) {i x : Int32} (hin : vp_in i (gL σ a)) (hdg : decode cc pc = .ok (.bastore, 1))
    (kk : ∀ (H1 : Heap) (locs1 : List Loc), MS D cy ad A H0 z (sI σ a i.toNatClampNeg (vp_nar .byte x)) H1 locs1 → W p l e R s m args below meth c H1 locs1 cells slots Q (F0 m (pc + 1) ls rest)) : W p l e R s m args below meth c H locs cells slots Q (F0 m pc ls (.int x :: .int i :: .ref (ad a) :: rest)) := by
  obtain ⟨h1, h2⟩ := kd_lt hk (by omega)
  have ha : (MM cy ad σ)[a]? = some (ad a, .inl (cy 10, gL σ a, .inl (gI σ a))) := by rw [MM_get cy ad h1, cellOf_I cy ad h2 (by decide)]
  refine W.bast hx hb (hM.1 a _ ha) ((hK.2 0 _ rfl).1 (gL σ a) (fun j => .int (gI σ a j))) (fun q => by cases q) (by show ¬ (i < 0 ∨ (arrV _ _ _).slots.size ≤ _); rw [arrV_size]; exact hin) rfl rfl hdg fun H1 e z oq => ?_
  refine kk H1 _ (hM.upd h1 rfl (fun b hb => cellOf_sI hb) ?_ z oq)
  rw [cellOf_I cy ad (σ := sI σ a _ (vp_nar .byte x)) h2 (by decide)]
  show H1[ad a]? = some (vp_cell _ _)
  rw [e]
  rw [vp_cell_i, vp_cell_i, arrV_store]
  congr 2
  funext q
  by_cases hq : q = i.toNatClampNeg
  · subst hq
    simp [updV, gI, sI, vp_nar]
    try rfl
  · simp [updV, gI, sI, hq]
theorem m_zast {a : Nat} (hx : p.tables.exec = Jvm.exec) (hb : c.code = cc) (hK : va_K D vwCl (tyL cy) s) (hM : MS D cy ad A H0 z σ H locs) (hk : kd σ a = 13) {i x : Int32} (hin : vp_in i (gL σ a)) (hdg : decode cc pc = .ok (.bastore, 1))
    (kk : ∀ (H1 : Heap) (locs1 : List Loc), MS D cy ad A H0 z (sI σ a i.toNatClampNeg (vp_nar .boolean x)) H1 locs1 → W p l e R s m args below meth c H1 locs1 cells slots Q (F0 m (pc + 1) ls rest)) : W p l e R s m args below meth c H locs cells slots Q (F0 m pc ls (.int x :: .int i :: .ref (ad a) :: rest)) := by
  obtain ⟨h1, h2⟩ := kd_lt hk (by omega)
  have ha : (MM cy ad σ)[a]? = some (ad a, .inl (cy 13, gL σ a, .inl (gI σ a))) := by rw [MM_get cy ad h1, cellOf_I cy ad h2 (by decide)]
  refine W.zast hx hb (hM.1 a _ ha) ((hK.2 3 _ rfl).1 (gL σ a) (fun j => .int (gI σ a j))) (fun q => by cases q) (by show ¬ (i < 0 ∨ (arrV _ _ _).slots.size ≤ _); rw [arrV_size]; exact hin) rfl rfl hdg fun H1 e z oq => ?_
  refine kk H1 _ (hM.upd h1 rfl (fun b hb => cellOf_sI hb) ?_ z oq)
  rw [cellOf_I cy ad (σ := sI σ a _ (vp_nar .boolean x)) h2 (by decide)]
  show H1[ad a]? = some (vp_cell _ _)
  rw [e]
  rw [vp_cell_i, vp_cell_i, arrV_store]
  congr 2
  funext q
  by_cases hq : q = i.toNatClampNeg
  · subst hq
    simp [updV, gI, sI, vp_nar]
    try rfl
  · simp [updV, gI, sI, hq]
theorem m_last {a : Nat} (hx : p.tables.exec = Jvm.exec) (hb : c.code = cc) (hK : va_K D vwCl (tyL cy) s) (hM : MS D cy ad A H0 z σ H locs) (hk : kd σ a = 12) {i : Int32} {x : Int64} (hin : vp_in i (gL σ a)) (hdg : decode cc pc = .ok (.lastore, 1))
    (kk : ∀ (H1 : Heap) (locs1 : List Loc), MS D cy ad A H0 z (sJ σ a i.toNatClampNeg x) H1 locs1 → W p l e R s m args below meth c H1 locs1 cells slots Q (F0 m (pc + 1) ls rest)) : W p l e R s m args below meth c H locs cells slots Q (F0 m pc ls (.long x :: .int i :: .ref (ad a) :: rest)) := by
  obtain ⟨h1, h2⟩ := kd_lt hk (by omega)
  have ha : (MM cy ad σ)[a]? = some (ad a, .inl (cy 12, gL σ a, .inr (.inl (gJ σ a)))) := by rw [MM_get cy ad h1, cellOf_J cy ad h2]
  refine W.last hx hb (hM.1 a _ ha) ((hK.2 2 _ rfl).1 (gL σ a) (fun j => .long (gJ σ a j))) (fun q => by cases q) (by show ¬ (i < 0 ∨ (arrV _ _ _).slots.size ≤ _); rw [arrV_size]; exact hin) rfl rfl hdg fun H1 e z oq => ?_
  refine kk H1 _ (hM.upd h1 rfl (fun b hb => cellOf_sJ hb) ?_ z oq)
  rw [cellOf_J cy ad (σ := sJ σ a _ x) h2]
  show H1[ad a]? = some (vp_cell _ _)
  rw [e]
  rw [vp_cell_l, vp_cell_l, arrV_store]
  congr 2
  funext q
  by_cases hq : q = i.toNatClampNeg
  · subst hq
    simp [updV, gJ, sJ]
  · simp [updV, gJ, sJ, hq]
end RW
end
section
theorem va_cat (r : Option Nat) : (va_rf r).category = 1 := by cases r <;> rfl
def bd {α β : Type} (v : α) (f : α → β) : β := f v
theorem bd_elim {α β : Type} {v : α} {f : α → β} {r : β} (h : bd v f = r) : ∃ x, x = v ∧ f x = r := ⟨v, rfl, h⟩
theorem bn {α β : Type} {o : Option α} {f : α → Option β} {r : β} (h : o.bind f = some r) : ∃ x, o = some x ∧ f x = some r := by
  cases o with
  | none => cases h
  | some x => exact ⟨x, rfl, h⟩
theorem bn2 {α γ β : Type} {o : Option (α × γ)} {f : α × γ → Option β} {r : β} (h : o.bind f = some r) : ∃ x y, o = some (x, y) ∧ f (x, y) = some r := by
  cases o with
  | none => cases h
  | some x => exact ⟨x.1, x.2, rfl, h⟩
def b2 {α γ β : Type} (o : Option (α × γ)) (f : α → γ → Option β) : Option β := o.bind fun q => f q.1 q.2
theorem b2_elim {α γ β : Type} {o : Option (α × γ)} {f : α → γ → Option β} {r : β} (h : b2 o f = some r) : ∃ x y, o = some (x, y) ∧ f x y = some r := by
  cases o with
  | none => cases h
  | some x => exact ⟨x.1, x.2, rfl, h⟩
def FU : Nat := 1000000
def fI (σ : Mem) (k j : Nat) (v : Option Nat) : Option Int32 := v.bind fun c => if kd σ c = k then some (gI σ c j) else none
def fJ (σ : Mem) (k j : Nat) (v : Option Nat) : Option Int64 := v.bind fun c => if kd σ c = k then some (gJ σ c j) else none
def fR (σ : Mem) (k j : Nat) (v : Option Nat) : Option (Option Nat) := v.bind fun c => if kd σ c = k then some (gR σ c j) else none
def pI (σ : Mem) (k j : Nat) (v : Option Nat) (x : Int32) : Option Mem := v.bind fun c => if kd σ c = k then some (sI σ c j x) else none
def pJ (σ : Mem) (k j : Nat) (v : Option Nat) (x : Int64) : Option Mem := v.bind fun c => if kd σ c = k then some (sJ σ c j x) else none
def pR (σ : Mem) (k j : Nat) (v : Option Nat) (x : Option Nat) : Option Mem := v.bind fun c => if kd σ c = k then some (sR σ c j x) else none
def aI (σ : Mem) (k : Nat) (v : Option Nat) (i : Int32) : Option Int32 := v.bind fun c => if kd σ c = k then (if i < 0 ∨ gL σ c ≤ i.toNatClampNeg then none else some (gI σ c i.toNatClampNeg)) else none
def aJ (σ : Mem) (k : Nat) (v : Option Nat) (i : Int32) : Option Int64 := v.bind fun c => if kd σ c = k then (if i < 0 ∨ gL σ c ≤ i.toNatClampNeg then none else some (gJ σ c i.toNatClampNeg)) else none
def aR (σ : Mem) (k : Nat) (v : Option Nat) (i : Int32) : Option (Option Nat) := v.bind fun c => if kd σ c = k then (if i < 0 ∨ gL σ c ≤ i.toNatClampNeg then none else some (gR σ c i.toNatClampNeg)) else none
def wI (σ : Mem) (k : Nat) (v : Option Nat) (i x : Int32) : Option Mem := v.bind fun c => if kd σ c = k then (if i < 0 ∨ gL σ c ≤ i.toNatClampNeg then none else some (sI σ c i.toNatClampNeg x)) else none
def wJ (σ : Mem) (k : Nat) (v : Option Nat) (i : Int32) (x : Int64) : Option Mem := v.bind fun c => if kd σ c = k then (if i < 0 ∨ gL σ c ≤ i.toNatClampNeg then none else some (sJ σ c i.toNatClampNeg x)) else none
def aL (σ : Mem) (k : Nat) (v : Option Nat) : Option Int32 := v.bind fun c => if kd σ c = k then some (nI (gL σ c)) else none
def aW (i : Int32) : Option Int64 := if i < 0 ∨ 10 ≤ i.toNatClampNeg then none else some (wLet i.toNatClampNeg)
theorem aW_in {i : Int32} {x : Int64} (h : aW i = some x) : vp_in i 10 := by
  unfold aW at h
  split at h
  · cases h
  · assumption
theorem aW_val {i : Int32} {x : Int64} (h : aW i = some x) : Value.long (wLet i.toNatClampNeg) = .long x := by
  unfold aW at h
  split at h
  · cases h
  · cases h; rfl
def kT (σ : Mem) (k : Nat) (v : Option Nat) : Option Nat := v.bind fun c => if kd σ c = k then some c else none
theorem fI_some {σ : Mem} {k j : Nat} {v : Option Nat} {x : Int32} (h : fI σ k j v = some x) : ∃ c, v = some c ∧ kd σ c = k ∧ x = gI σ c j := by
  obtain ⟨c, hv, h⟩ := bn h
  split at h
  · exact ⟨c, hv, by assumption, (Option.some.inj h).symm⟩
  · cases h
theorem fJ_some {σ : Mem} {k j : Nat} {v : Option Nat} {x : Int64} (h : fJ σ k j v = some x) : ∃ c, v = some c ∧ kd σ c = k ∧ x = gJ σ c j := by
  obtain ⟨c, hv, h⟩ := bn h
  split at h
  · exact ⟨c, hv, by assumption, (Option.some.inj h).symm⟩
  · cases h
theorem fR_some {σ : Mem} {k j : Nat} {v : Option Nat} {x : Option Nat} (h : fR σ k j v = some x) : ∃ c, v = some c ∧ kd σ c = k ∧ x = gR σ c j := by
  obtain ⟨c, hv, h⟩ := bn h
  split at h
  · exact ⟨c, hv, by assumption, (Option.some.inj h).symm⟩
  · cases h
theorem pI_some {σ τ : Mem} {k j : Nat} {v : Option Nat} {x : Int32} (h : pI σ k j v x = some τ) : ∃ c, v = some c ∧ kd σ c = k ∧ τ = sI σ c j x := by
  obtain ⟨c, hv, h⟩ := bn h
  split at h
  · exact ⟨c, hv, by assumption, (Option.some.inj h).symm⟩
  · cases h
theorem pJ_some {σ τ : Mem} {k j : Nat} {v : Option Nat} {x : Int64} (h : pJ σ k j v x = some τ) : ∃ c, v = some c ∧ kd σ c = k ∧ τ = sJ σ c j x := by
  obtain ⟨c, hv, h⟩ := bn h
  split at h
  · exact ⟨c, hv, by assumption, (Option.some.inj h).symm⟩
  · cases h
theorem pR_some {σ τ : Mem} {k j : Nat} {v : Option Nat} {x : Option Nat} (h : pR σ k j v x = some τ) : ∃ c, v = some c ∧ kd σ c = k ∧ τ = sR σ c j x := by
  obtain ⟨c, hv, h⟩ := bn h
  split at h
  · exact ⟨c, hv, by assumption, (Option.some.inj h).symm⟩
  · cases h
theorem aI_some {σ : Mem} {k : Nat} {v : Option Nat} {i : Int32} {x : Int32} (h : aI σ k v i = some x) : ∃ c, v = some c ∧ kd σ c = k ∧ vp_in i (gL σ c) ∧ x = gI σ c i.toNatClampNeg := by
  obtain ⟨c, hv, h⟩ := bn h
  split at h
  · split at h
    · cases h
    · exact ⟨c, hv, by assumption, by assumption, (Option.some.inj h).symm⟩
  · cases h
theorem aJ_some {σ : Mem} {k : Nat} {v : Option Nat} {i : Int32} {x : Int64} (h : aJ σ k v i = some x) : ∃ c, v = some c ∧ kd σ c = k ∧ vp_in i (gL σ c) ∧ x = gJ σ c i.toNatClampNeg := by
  obtain ⟨c, hv, h⟩ := bn h
  split at h
  · split at h
    · cases h
    · exact ⟨c, hv, by assumption, by assumption, (Option.some.inj h).symm⟩
  · cases h
theorem aR_some {σ : Mem} {k : Nat} {v : Option Nat} {i : Int32} {x : Option Nat} (h : aR σ k v i = some x) : ∃ c, v = some c ∧ kd σ c = k ∧ vp_in i (gL σ c) ∧ x = gR σ c i.toNatClampNeg := by
  obtain ⟨c, hv, h⟩ := bn h
  split at h
  · split at h
    · cases h
    · exact ⟨c, hv, by assumption, by assumption, (Option.some.inj h).symm⟩
  · cases h
theorem wI_some {σ τ : Mem} {k : Nat} {v : Option Nat} {i : Int32} {x : Int32} (h : wI σ k v i x = some τ) : ∃ c, v = some c ∧ kd σ c = k ∧ vp_in i (gL σ c) ∧ τ = sI σ c i.toNatClampNeg x := by
  obtain ⟨c, hv, h⟩ := bn h
  split at h
  · split at h
    · cases h
    · exact ⟨c, hv, by assumption, by assumption, (Option.some.inj h).symm⟩
  · cases h
theorem wJ_some {σ τ : Mem} {k : Nat} {v : Option Nat} {i : Int32} {x : Int64} (h : wJ σ k v i x = some τ) : ∃ c, v = some c ∧ kd σ c = k ∧ vp_in i (gL σ c) ∧ τ = sJ σ c i.toNatClampNeg x := by
  obtain ⟨c, hv, h⟩ := bn h
  split at h
  · split at h
    · cases h
    · exact ⟨c, hv, by assumption, by assumption, (Option.some.inj h).symm⟩
  · cases h
theorem aL_some {σ : Mem} {k : Nat} {v : Option Nat} {x : Int32} (h : aL σ k v = some x) : ∃ c, v = some c ∧ kd σ c = k ∧ x = nI (gL σ c) := by
  obtain ⟨c, hv, h⟩ := bn h
  split at h
  · exact ⟨c, hv, by assumption, (Option.some.inj h).symm⟩
  · cases h
theorem kT_some {σ : Mem} {k : Nat} {v : Option Nat} {x : Nat} (h : kT σ k v = some x) : v = some x ∧ kd σ x = k := by
  obtain ⟨c, hv, h⟩ := bn h
  split at h
  · cases h; exact ⟨hv, by assumption⟩
  · cases h
section RX
variable {p : Program} {l : Launch} {e : Env} {R : Room} {s : State} {m : MethodId} {args : Array Value} {below : List Frame} {meth : Method} {c : Code} {H : Heap} {locs : List Loc} {cells slots : Nat} {Q : State → Prop}
variable {cc : ByteArray} {pc : Nat} {ls : Array Slot} {rest : List Value} {D : va_G} {cy : Nat → ClassId} {ad : Nat → Nat} {A : Nat → Prop} {H0 : Heap} {z : Nat} {σ : Mem}
theorem lr_aload_n (hx : p.tables.exec = Jvm.exec) (hb : c.code = cc) {k : Fin 4} {i : Nat} {r : Option Nat} (hdg : decode cc pc = .ok (.aload_n k, 1)) (hi : (k : Nat) = i) (hl : ls[i]? = some (.val (va_rf r))) (kk : W p l e R s m args below meth c H locs cells slots Q (F0 m (pc + 1) ls (va_rf r :: rest))) : W p l e R s m args below meth c H locs cells slots Q (F0 m pc ls rest) := by
  cases r with
  | none => exact lv_aload_nN hx hb hdg hi hl kk
  | some x => exact lv_aload_n hx hb hdg hi hl kk
theorem lr_aload (hx : p.tables.exec = Jvm.exec) (hb : c.code = cc) {i : Nat} {r : Option Nat} (hdg : decode cc pc = .ok (.aload i, 2)) (hl : ls[i]? = some (.val (va_rf r))) (kk : W p l e R s m args below meth c H locs cells slots Q (F0 m (pc + 2) ls (va_rf r :: rest))) : W p l e R s m args below meth c H locs cells slots Q (F0 m pc ls rest) := by
  cases r with
  | none => exact lv_aloadN hx hb hdg hl kk
  | some x => exact lv_aload hx hb hdg hl kk
theorem lr_astore_n (hx : p.tables.exec = Jvm.exec) (hb : c.code = cc) {k : Fin 4} {i nL : Nat} {r : Option Nat} {lv lv' : List (Nat × Value)} (hdg : decode cc pc = .ok (.astore_n k, 1)) (hi : (k : Nat) = i) (h : lv_has ls nL lv) (hn : i < nL) (hl : (i, va_rf r) :: lv.filter (fun q => !(q.1 == i) && !(q.1 + 1 == i && q.2.category == 2)) = lv')
    (kk : ∀ ls : Array Slot, lv_has ls nL lv' → W p l e R s m args below meth c H locs cells slots Q (F0 m (pc + 1) ls rest)) : W p l e R s m args below meth c H locs cells slots Q (F0 m pc ls (va_rf r :: rest)) := by
  cases r with
  | none => exact lv_astore_nN hx hb hdg hi h hn hl kk
  | some x => exact lv_astore_n hx hb hdg hi h hn hl kk
theorem lr_astore (hx : p.tables.exec = Jvm.exec) (hb : c.code = cc) {i nL : Nat} {r : Option Nat} {lv lv' : List (Nat × Value)} (hdg : decode cc pc = .ok (.astore i, 2)) (h : lv_has ls nL lv) (hn : i < nL) (hl : (i, va_rf r) :: lv.filter (fun q => !(q.1 == i) && !(q.1 + 1 == i && q.2.category == 2)) = lv')
    (kk : ∀ ls : Array Slot, lv_has ls nL lv' → W p l e R s m args below meth c H locs cells slots Q (F0 m (pc + 2) ls rest)) : W p l e R s m args below meth c H locs cells slots Q (F0 m pc ls (va_rf r :: rest)) := by
  cases r with
  | none => exact lv_astoreN hx hb hdg h hn hl kk
  | some x => exact lv_astore hx hb hdg h hn hl kk
theorem lr_null (hx : p.tables.exec = Jvm.exec) (hb : c.code = cc) (hdg : decode cc pc = .ok (.aconst_null, 1)) (kk : W p l e R s m args below meth c H locs cells slots Q (F0 m (pc + 1) ls (va_rf (Option.map ad none) :: rest))) : W p l e R s m args below meth c H locs cells slots Q (F0 m pc ls rest) := lv_null hx hb hdg kk
theorem lr_ifnull (hx : p.tables.exec = Jvm.exec) (hb : c.code = cc) {v : Option Nat} {off : Int} {tgt : Nat} (hdg : decode cc pc = .ok (.ifnull off, 3)) (ht : (pc : Int) + off = (tgt : Int)) (kt : v = none → W p l e R s m args below meth c H locs cells slots Q (F0 m tgt ls rest)) (kf : ¬ v = none → W p l e R s m args below meth c H locs cells slots Q (F0 m (pc + 3) ls rest)) : W p l e R s m args below meth c H locs cells slots Q (F0 m pc ls (va_rf (Option.map ad v) :: rest)) := by
  cases v with
  | none => exact lv_ifnullN hx hb hdg ht (kt rfl)
  | some x => exact lv_ifnull hx hb hdg (kf (by simp))
theorem lr_ifnonnull (hx : p.tables.exec = Jvm.exec) (hb : c.code = cc) {v : Option Nat} {off : Int} {tgt : Nat} (hdg : decode cc pc = .ok (.ifnonnull off, 3)) (ht : (pc : Int) + off = (tgt : Int)) (kt : ¬ v = none → W p l e R s m args below meth c H locs cells slots Q (F0 m tgt ls rest)) (kf : v = none → W p l e R s m args below meth c H locs cells slots Q (F0 m (pc + 3) ls rest)) : W p l e R s m args below meth c H locs cells slots Q (F0 m pc ls (va_rf (Option.map ad v) :: rest)) := by
  cases v with
  | none => exact lv_ifnonnullN hx hb hdg (kf rfl)
  | some x => exact lv_ifnonnull hx hb hdg ht (kt (by simp))
theorem lr_nmi {x y : Int32} (h : x = y) (kk : W p l e R s m args below meth c H locs cells slots Q (F0 m pc ls (.int x :: rest))) : W p l e R s m args below meth c H locs cells slots Q (F0 m pc ls (.int y :: rest)) := h ▸ kk
theorem lr_nml {x y : Int64} (h : x = y) (kk : W p l e R s m args below meth c H locs cells slots Q (F0 m pc ls (.long x :: rest))) : W p l e R s m args below meth c H locs cells slots Q (F0 m pc ls (.long y :: rest)) := h ▸ kk
theorem lc_eq (hx : p.tables.exec = Jvm.exec) (hb : c.code = cc) {x y : Int64} {off : Int} {tgt : Nat} (d1 : decode cc pc = .ok (.lcmp, 1)) (d2 : decode cc (pc + 1) = .ok (.ifCond .eq off, 3)) (ht : ((pc + 1 : Nat) : Int) + off = (tgt : Int)) (kt : x = y → W p l e R s m args below meth c H locs cells slots Q (F0 m tgt ls rest)) (kf : ¬ x = y → W p l e R s m args below meth c H locs cells slots Q (F0 m (pc + 1 + 3) ls rest)) : W p l e R s m args below meth c H locs cells slots Q (F0 m pc ls (.long y :: .long x :: rest)) := by
  have hc : lg_cmp x y = 0 ↔ x = y := by
    unfold lg_cmp
    simp only [gt_iff_lt, Int64.lt_iff_toInt_lt, ← Int64.toInt_inj]
    split
    · constructor
      · intro h; exact absurd h (by decide)
      · intro h; omega
    · split
      · constructor <;> intro _ <;> first | assumption | rfl
      · constructor
        · intro h; exact absurd h (by decide)
        · intro h; contradiction
  exact W.lcmp hx hb d1 (lv_if_eq hx hb d2 ht (fun q => kt (hc.mp q)) (fun q => kf (fun z => q (hc.mpr z))))
theorem lc_ne (hx : p.tables.exec = Jvm.exec) (hb : c.code = cc) {x y : Int64} {off : Int} {tgt : Nat} (d1 : decode cc pc = .ok (.lcmp, 1)) (d2 : decode cc (pc + 1) = .ok (.ifCond .ne off, 3)) (ht : ((pc + 1 : Nat) : Int) + off = (tgt : Int)) (kt : ¬ x = y → W p l e R s m args below meth c H locs cells slots Q (F0 m tgt ls rest)) (kf : x = y → W p l e R s m args below meth c H locs cells slots Q (F0 m (pc + 1 + 3) ls rest)) : W p l e R s m args below meth c H locs cells slots Q (F0 m pc ls (.long y :: .long x :: rest)) := by
  have hc : lg_cmp x y = 0 ↔ x = y := by
    unfold lg_cmp
    simp only [gt_iff_lt, Int64.lt_iff_toInt_lt, ← Int64.toInt_inj]
    split
    · constructor
      · intro h; exact absurd h (by decide)
      · intro h; omega
    · split
      · constructor <;> intro _ <;> first | assumption | rfl
      · constructor
        · intro h; exact absurd h (by decide)
        · intro h; contradiction
  exact W.lcmp hx hb d1 (lv_if_ne hx hb d2 ht (fun q => kt (fun z => q (hc.mpr z))) (fun q => kf (hc.mp q)))
theorem lg_lt (x y : Int64) : lg_cmp x y < 0 ↔ x < y := by
  unfold lg_cmp
  simp only [gt_iff_lt, Int64.lt_iff_toInt_lt, ← Int64.toInt_inj]
  split
  · constructor
    · intro h; exact absurd h (by decide)
    · intro h; omega
  · split
    · constructor
      · intro h; exact absurd h (by decide)
      · intro h; omega
    · constructor
      · intro _; omega
      · intro _; decide
theorem lg_gt (x y : Int64) : 0 < lg_cmp x y ↔ y < x := by
  unfold lg_cmp
  simp only [gt_iff_lt, Int64.lt_iff_toInt_lt, ← Int64.toInt_inj]
  split
  · constructor
    · intro _; assumption
    · intro _; decide
  · split
    · constructor
      · intro h; exact absurd h (by decide)
      · intro h; omega
    · constructor
      · intro h; exact absurd h (by decide)
      · intro h; omega
theorem lg_le (x y : Int64) : lg_cmp x y ≤ 0 ↔ x ≤ y := by
  unfold lg_cmp
  simp only [gt_iff_lt, Int64.lt_iff_toInt_lt, Int64.le_iff_toInt_le, ← Int64.toInt_inj]
  split
  · constructor
    · intro h; exact absurd h (by decide)
    · intro h; omega
  · split
    · constructor
      · intro _; omega
      · intro _; decide
    · constructor
      · intro _; omega
      · intro _; decide
theorem lc_lt (hx : p.tables.exec = Jvm.exec) (hb : c.code = cc) {x y : Int64} {off : Int} {tgt : Nat} (d1 : decode cc pc = .ok (.lcmp, 1)) (d2 : decode cc (pc + 1) = .ok (.ifCond .lt off, 3)) (ht : ((pc + 1 : Nat) : Int) + off = (tgt : Int)) (kt : x < y → W p l e R s m args below meth c H locs cells slots Q (F0 m tgt ls rest)) (kf : ¬ x < y → W p l e R s m args below meth c H locs cells slots Q (F0 m (pc + 1 + 3) ls rest)) : W p l e R s m args below meth c H locs cells slots Q (F0 m pc ls (.long y :: .long x :: rest)) :=
  W.lcmp hx hb d1 (lv_if_lt hx hb d2 ht (fun q => kt ((lg_lt x y).mp q)) (fun q => kf (fun z => q ((lg_lt x y).mpr z))))
theorem lc_ge (hx : p.tables.exec = Jvm.exec) (hb : c.code = cc) {x y : Int64} {off : Int} {tgt : Nat} (d1 : decode cc pc = .ok (.lcmp, 1)) (d2 : decode cc (pc + 1) = .ok (.ifCond .ge off, 3)) (ht : ((pc + 1 : Nat) : Int) + off = (tgt : Int)) (kt : y ≤ x → W p l e R s m args below meth c H locs cells slots Q (F0 m tgt ls rest)) (kf : ¬ y ≤ x → W p l e R s m args below meth c H locs cells slots Q (F0 m (pc + 1 + 3) ls rest)) : W p l e R s m args below meth c H locs cells slots Q (F0 m pc ls (.long y :: .long x :: rest)) :=
  W.lcmp hx hb d1 (lv_if_ge hx hb d2 ht (fun q => kt ((lg_cmp_ge x y).mp q)) (fun q => kf (fun z => q ((lg_cmp_ge x y).mpr z))))
theorem lc_gt (hx : p.tables.exec = Jvm.exec) (hb : c.code = cc) {x y : Int64} {off : Int} {tgt : Nat} (d1 : decode cc pc = .ok (.lcmp, 1)) (d2 : decode cc (pc + 1) = .ok (.ifCond .gt off, 3)) (ht : ((pc + 1 : Nat) : Int) + off = (tgt : Int)) (kt : y < x → W p l e R s m args below meth c H locs cells slots Q (F0 m tgt ls rest)) (kf : ¬ y < x → W p l e R s m args below meth c H locs cells slots Q (F0 m (pc + 1 + 3) ls rest)) : W p l e R s m args below meth c H locs cells slots Q (F0 m pc ls (.long y :: .long x :: rest)) :=
  W.lcmp hx hb d1 (lv_if_gt hx hb d2 ht (fun q => kt ((lg_gt x y).mp q)) (fun q => kf (fun z => q ((lg_gt x y).mpr z))))
theorem lc_le (hx : p.tables.exec = Jvm.exec) (hb : c.code = cc) {x y : Int64} {off : Int} {tgt : Nat} (d1 : decode cc pc = .ok (.lcmp, 1)) (d2 : decode cc (pc + 1) = .ok (.ifCond .le off, 3)) (ht : ((pc + 1 : Nat) : Int) + off = (tgt : Int)) (kt : x ≤ y → W p l e R s m args below meth c H locs cells slots Q (F0 m tgt ls rest)) (kf : ¬ x ≤ y → W p l e R s m args below meth c H locs cells slots Q (F0 m (pc + 1 + 3) ls rest)) : W p l e R s m args below meth c H locs cells slots Q (F0 m pc ls (.long y :: .long x :: rest)) :=
  W.lcmp hx hb d1 (lv_if_le hx hb d2 ht (fun q => kt ((lg_le x y).mp q)) (fun q => kf (fun z => q ((lg_le x y).mpr z))))
theorem g_fI {nL : Nat} {own ref C : String} {T : u_T} {N ci index : Nat} {v : Option Nat} {x : Int32} (hC : CallFix p m c cc nL s args WALL own) (hin : ∀ w ∈ u_ws C T N, w ∈ WALL) (hG : GS D cy A s) (hM : MS D cy ad A H0 z σ H locs) (k : Nat) (e1 : fI σ ci k v = some x) (hci : ci < 10) (hc : vwCl[ci]? = some (C, T, N)) (hN : N = (sg ci).length) (hkN : k < N) (ht : (sg ci).getD k 0 = 0) (hlink : (Cond.fieldLink own index ref (T k).2.1 (T k).2.2.1).before args s = true) (hsame : ∀ x, s.fieldFound? (T k).1 (T k).2.1 (T k).2.2.1 = some x → s.fieldFound? ref (T k).2.1 (T k).2.2.1 = some x) (hdg : decode cc pc = .ok (.getfield index, 3))
    (kk : W p l e R s m args below meth c H locs cells slots Q (F0 m (pc + 3) ls (.int x :: rest))) : W p l e R s m args below meth c H locs cells slots Q (F0 m pc ls (va_rf (Option.map ad v) :: rest)) := by
  obtain ⟨b, rfl, hk, rfl⟩ := fI_some e1
  refine m_get hC hin hG.1 hM hk hci hc hN k hkN hlink hsame hdg ?_
  rw [ht]
  exact kk
theorem g_fJ {nL : Nat} {own ref C : String} {T : u_T} {N ci index : Nat} {v : Option Nat} {x : Int64} (hC : CallFix p m c cc nL s args WALL own) (hin : ∀ w ∈ u_ws C T N, w ∈ WALL) (hG : GS D cy A s) (hM : MS D cy ad A H0 z σ H locs) (k : Nat) (e1 : fJ σ ci k v = some x) (hci : ci < 10) (hc : vwCl[ci]? = some (C, T, N)) (hN : N = (sg ci).length) (hkN : k < N) (ht : (sg ci).getD k 0 = 1) (hlink : (Cond.fieldLink own index ref (T k).2.1 (T k).2.2.1).before args s = true) (hsame : ∀ x, s.fieldFound? (T k).1 (T k).2.1 (T k).2.2.1 = some x → s.fieldFound? ref (T k).2.1 (T k).2.2.1 = some x) (hdg : decode cc pc = .ok (.getfield index, 3))
    (kk : W p l e R s m args below meth c H locs cells slots Q (F0 m (pc + 3) ls (.long x :: rest))) : W p l e R s m args below meth c H locs cells slots Q (F0 m pc ls (va_rf (Option.map ad v) :: rest)) := by
  obtain ⟨b, rfl, hk, rfl⟩ := fJ_some e1
  refine m_get hC hin hG.1 hM hk hci hc hN k hkN hlink hsame hdg ?_
  rw [ht]
  exact kk
theorem g_fR {nL : Nat} {own ref C : String} {T : u_T} {N ci index : Nat} {v : Option Nat} {x : Option Nat} (hC : CallFix p m c cc nL s args WALL own) (hin : ∀ w ∈ u_ws C T N, w ∈ WALL) (hG : GS D cy A s) (hM : MS D cy ad A H0 z σ H locs) (k : Nat) (e1 : fR σ ci k v = some x) (hci : ci < 10) (hc : vwCl[ci]? = some (C, T, N)) (hN : N = (sg ci).length) (hkN : k < N) (ht : (sg ci).getD k 0 = 2) (hlink : (Cond.fieldLink own index ref (T k).2.1 (T k).2.2.1).before args s = true) (hsame : ∀ x, s.fieldFound? (T k).1 (T k).2.1 (T k).2.2.1 = some x → s.fieldFound? ref (T k).2.1 (T k).2.2.1 = some x) (hdg : decode cc pc = .ok (.getfield index, 3))
    (kk : W p l e R s m args below meth c H locs cells slots Q (F0 m (pc + 3) ls (va_rf (Option.map ad x) :: rest))) : W p l e R s m args below meth c H locs cells slots Q (F0 m pc ls (va_rf (Option.map ad v) :: rest)) := by
  obtain ⟨b, rfl, hk, rfl⟩ := fR_some e1
  refine m_get hC hin hG.1 hM hk hci hc hN k hkN hlink hsame hdg ?_
  rw [ht]
  exact kk
theorem g_pI {nL : Nat} {own ref C : String} {T : u_T} {N ci index : Nat} {v : Option Nat} {x : Int32} {τ : Mem} (hC : CallFix p m c cc nL s args WALL own) (hin : ∀ w ∈ u_ws C T N, w ∈ WALL) (ty0 : Nat → FieldType) (hty : ∀ k, k < N → parseFieldDescriptor (T k).2.2.1 = some (ty0 k)) (hnm : ∀ a, a < N → ∀ b, b < N → a ≠ b → (T a).2.1 ≠ (T b).2.1) (hG : GS D cy A s) (hM : MS D cy ad A H0 z σ H locs) (k : Nat) (e1 : pI σ ci k v x = some τ) (hci : ci < 10) (hc : vwCl[ci]? = some (C, T, N)) (hN : N = (sg ci).length) (hkN : k < N) (ht : (sg ci).getD k 0 = 0) (hlink : (Cond.fieldLink own index ref (T k).2.1 (T k).2.2.1).before args s = true) (hsame : ∀ x, s.fieldFound? (T k).1 (T k).2.1 (T k).2.2.1 = some x → s.fieldFound? ref (T k).2.1 (T k).2.2.1 = some x) (hfin : (T k).2.2.2 = false) (hd : parseFieldDescriptor (T k).2.2.1 = some .int) (hdg : decode cc pc = .ok (.putfield index, 3))
    (kk : ∀ (H : Heap) (locs : List Loc), MS D cy ad A H0 z τ H locs → W p l e R s m args below meth c H locs cells slots Q (F0 m (pc + 3) ls rest)) : W p l e R s m args below meth c H locs cells slots Q (F0 m pc ls (.int x :: va_rf (Option.map ad v) :: rest)) := by
  obtain ⟨b, rfl, hk, rfl⟩ := pI_some e1
  exact m_put (σ' := sI σ b k x) hC hin ty0 hty hnm hG.1 hM hk hci hc hN k hkN hlink hsame hfin hd rfl rfl rfl rfl (fun a ha => cellOf_sI ha) (fs_sI (by omega) ht) hdg kk
theorem g_pJ {nL : Nat} {own ref C : String} {T : u_T} {N ci index : Nat} {v : Option Nat} {x : Int64} {τ : Mem} (hC : CallFix p m c cc nL s args WALL own) (hin : ∀ w ∈ u_ws C T N, w ∈ WALL) (ty0 : Nat → FieldType) (hty : ∀ k, k < N → parseFieldDescriptor (T k).2.2.1 = some (ty0 k)) (hnm : ∀ a, a < N → ∀ b, b < N → a ≠ b → (T a).2.1 ≠ (T b).2.1) (hG : GS D cy A s) (hM : MS D cy ad A H0 z σ H locs) (k : Nat) (e1 : pJ σ ci k v x = some τ) (hci : ci < 10) (hc : vwCl[ci]? = some (C, T, N)) (hN : N = (sg ci).length) (hkN : k < N) (ht : (sg ci).getD k 0 = 1) (hlink : (Cond.fieldLink own index ref (T k).2.1 (T k).2.2.1).before args s = true) (hsame : ∀ x, s.fieldFound? (T k).1 (T k).2.1 (T k).2.2.1 = some x → s.fieldFound? ref (T k).2.1 (T k).2.2.1 = some x) (hfin : (T k).2.2.2 = false) (hd : parseFieldDescriptor (T k).2.2.1 = some .long) (hdg : decode cc pc = .ok (.putfield index, 3))
    (kk : ∀ (H : Heap) (locs : List Loc), MS D cy ad A H0 z τ H locs → W p l e R s m args below meth c H locs cells slots Q (F0 m (pc + 3) ls rest)) : W p l e R s m args below meth c H locs cells slots Q (F0 m pc ls (.long x :: va_rf (Option.map ad v) :: rest)) := by
  obtain ⟨b, rfl, hk, rfl⟩ := pJ_some e1
  exact m_put (σ' := sJ σ b k x) hC hin ty0 hty hnm hG.1 hM hk hci hc hN k hkN hlink hsame hfin hd rfl rfl rfl rfl (fun a ha => cellOf_sJ ha) (fs_sJ (by omega) ht) hdg kk
theorem g_pR {nL : Nat} {own ref C : String} {T : u_T} {N ci index : Nat} {v x : Option Nat} {τ : Mem} {ty : FieldType} (hC : CallFix p m c cc nL s args WALL own) (hin : ∀ w ∈ u_ws C T N, w ∈ WALL) (ty0 : Nat → FieldType) (hty : ∀ k, k < N → parseFieldDescriptor (T k).2.2.1 = some (ty0 k)) (hnm : ∀ a, a < N → ∀ b, b < N → a ≠ b → (T a).2.1 ≠ (T b).2.1) (hG : GS D cy A s) (hM : MS D cy ad A H0 z σ H locs) (k : Nat) (e1 : pR σ ci k v x = some τ) (hci : ci < 10) (hc : vwCl[ci]? = some (C, T, N)) (hN : N = (sg ci).length) (hkN : k < N) (ht : (sg ci).getD k 0 = 2) (hlink : (Cond.fieldLink own index ref (T k).2.1 (T k).2.2.1).before args s = true) (hsame : ∀ x, s.fieldFound? (T k).1 (T k).2.1 (T k).2.2.1 = some x → s.fieldFound? ref (T k).2.1 (T k).2.2.1 = some x) (hfin : (T k).2.2.2 = false) (hd : parseFieldDescriptor (T k).2.2.1 = some ty) (hn : ∀ r : Option Nat, narrow ty (va_rf r) = va_rf r ∧ fits ty (va_rf r) = true) (hdg : decode cc pc = .ok (.putfield index, 3))
    (kk : ∀ (H : Heap) (locs : List Loc), MS D cy ad A H0 z τ H locs → W p l e R s m args below meth c H locs cells slots Q (F0 m (pc + 3) ls rest)) : W p l e R s m args below meth c H locs cells slots Q (F0 m pc ls (va_rf (Option.map ad x) :: va_rf (Option.map ad v) :: rest)) := by
  obtain ⟨b, rfl, hk, rfl⟩ := pR_some e1
  exact m_put (σ' := sR σ b k x) hC hin ty0 hty hnm hG.1 hM hk hci hc hN k hkN hlink hsame hfin hd (hn _).1 (hn _).2 rfl rfl (fun a ha => cellOf_sR ha) (fs_sR (by omega) ht) hdg kk
theorem gN_fI {nL : Nat} {own ref C host : String} {T : u_T} {N ci index : Nat} {v : Option Nat} {x : Int32} (hC : CallFix p m c cc nL s args WALL own) (hin : ∀ w ∈ u_ws C T N, w ∈ WALL) (hG : GS D cy A s) (hM : MS D cy ad A H0 z σ H locs) (k : Nat) (e1 : fI σ ci k v = some x) (hci : ci < 10) (hc : vwCl[ci]? = some (C, T, N)) (hN : N = (sg ci).length) (hkN : k < N) (ht : (sg ci).getD k 0 = 0) (hlink : va_Nw (Cond.fieldLinkNest own index ref (T k).2.1 (T k).2.2.1 host) s) (hsame : ∀ x, s.fieldFound? (T k).1 (T k).2.1 (T k).2.2.1 = some x → s.fieldFound? ref (T k).2.1 (T k).2.2.1 = some x) (hdg : decode cc pc = .ok (.getfield index, 3))
    (kk : W p l e R s m args below meth c H locs cells slots Q (F0 m (pc + 3) ls (.int x :: rest))) : W p l e R s m args below meth c H locs cells slots Q (F0 m pc ls (va_rf (Option.map ad v) :: rest)) := by
  obtain ⟨b, rfl, hk, rfl⟩ := fI_some e1
  refine m_getN hC hin hG.1 hM hk hci hc hN k hkN hlink hsame hdg ?_
  rw [ht]
  exact kk
theorem gN_fJ {nL : Nat} {own ref C host : String} {T : u_T} {N ci index : Nat} {v : Option Nat} {x : Int64} (hC : CallFix p m c cc nL s args WALL own) (hin : ∀ w ∈ u_ws C T N, w ∈ WALL) (hG : GS D cy A s) (hM : MS D cy ad A H0 z σ H locs) (k : Nat) (e1 : fJ σ ci k v = some x) (hci : ci < 10) (hc : vwCl[ci]? = some (C, T, N)) (hN : N = (sg ci).length) (hkN : k < N) (ht : (sg ci).getD k 0 = 1) (hlink : va_Nw (Cond.fieldLinkNest own index ref (T k).2.1 (T k).2.2.1 host) s) (hsame : ∀ x, s.fieldFound? (T k).1 (T k).2.1 (T k).2.2.1 = some x → s.fieldFound? ref (T k).2.1 (T k).2.2.1 = some x) (hdg : decode cc pc = .ok (.getfield index, 3))
    (kk : W p l e R s m args below meth c H locs cells slots Q (F0 m (pc + 3) ls (.long x :: rest))) : W p l e R s m args below meth c H locs cells slots Q (F0 m pc ls (va_rf (Option.map ad v) :: rest)) := by
  obtain ⟨b, rfl, hk, rfl⟩ := fJ_some e1
  refine m_getN hC hin hG.1 hM hk hci hc hN k hkN hlink hsame hdg ?_
  rw [ht]
  exact kk
theorem gN_fR {nL : Nat} {own ref C host : String} {T : u_T} {N ci index : Nat} {v : Option Nat} {x : Option Nat} (hC : CallFix p m c cc nL s args WALL own) (hin : ∀ w ∈ u_ws C T N, w ∈ WALL) (hG : GS D cy A s) (hM : MS D cy ad A H0 z σ H locs) (k : Nat) (e1 : fR σ ci k v = some x) (hci : ci < 10) (hc : vwCl[ci]? = some (C, T, N)) (hN : N = (sg ci).length) (hkN : k < N) (ht : (sg ci).getD k 0 = 2) (hlink : va_Nw (Cond.fieldLinkNest own index ref (T k).2.1 (T k).2.2.1 host) s) (hsame : ∀ x, s.fieldFound? (T k).1 (T k).2.1 (T k).2.2.1 = some x → s.fieldFound? ref (T k).2.1 (T k).2.2.1 = some x) (hdg : decode cc pc = .ok (.getfield index, 3))
    (kk : W p l e R s m args below meth c H locs cells slots Q (F0 m (pc + 3) ls (va_rf (Option.map ad x) :: rest))) : W p l e R s m args below meth c H locs cells slots Q (F0 m pc ls (va_rf (Option.map ad v) :: rest)) := by
  obtain ⟨b, rfl, hk, rfl⟩ := fR_some e1
  refine m_getN hC hin hG.1 hM hk hci hc hN k hkN hlink hsame hdg ?_
  rw [ht]
  exact kk
theorem gN_pI {nL : Nat} {own ref C host : String} {T : u_T} {N ci index : Nat} {v : Option Nat} {x : Int32} {τ : Mem} (hC : CallFix p m c cc nL s args WALL own) (hin : ∀ w ∈ u_ws C T N, w ∈ WALL) (ty0 : Nat → FieldType) (hty : ∀ k, k < N → parseFieldDescriptor (T k).2.2.1 = some (ty0 k)) (hnm : ∀ a, a < N → ∀ b, b < N → a ≠ b → (T a).2.1 ≠ (T b).2.1) (hG : GS D cy A s) (hM : MS D cy ad A H0 z σ H locs) (k : Nat) (e1 : pI σ ci k v x = some τ) (hci : ci < 10) (hc : vwCl[ci]? = some (C, T, N)) (hN : N = (sg ci).length) (hkN : k < N) (ht : (sg ci).getD k 0 = 0) (hlink : va_Nw (Cond.fieldLinkNest own index ref (T k).2.1 (T k).2.2.1 host) s) (hsame : ∀ x, s.fieldFound? (T k).1 (T k).2.1 (T k).2.2.1 = some x → s.fieldFound? ref (T k).2.1 (T k).2.2.1 = some x) (hfin : (T k).2.2.2 = false) (hd : parseFieldDescriptor (T k).2.2.1 = some .int) (hdg : decode cc pc = .ok (.putfield index, 3))
    (kk : ∀ (H : Heap) (locs : List Loc), MS D cy ad A H0 z τ H locs → W p l e R s m args below meth c H locs cells slots Q (F0 m (pc + 3) ls rest)) : W p l e R s m args below meth c H locs cells slots Q (F0 m pc ls (.int x :: va_rf (Option.map ad v) :: rest)) := by
  obtain ⟨b, rfl, hk, rfl⟩ := pI_some e1
  exact m_putN (σ' := sI σ b k x) hC hin ty0 hty hnm hG.1 hM hk hci hc hN k hkN hlink hsame hfin hd rfl rfl rfl rfl (fun a ha => cellOf_sI ha) (fs_sI (by omega) ht) hdg kk
theorem gN_pJ {nL : Nat} {own ref C host : String} {T : u_T} {N ci index : Nat} {v : Option Nat} {x : Int64} {τ : Mem} (hC : CallFix p m c cc nL s args WALL own) (hin : ∀ w ∈ u_ws C T N, w ∈ WALL) (ty0 : Nat → FieldType) (hty : ∀ k, k < N → parseFieldDescriptor (T k).2.2.1 = some (ty0 k)) (hnm : ∀ a, a < N → ∀ b, b < N → a ≠ b → (T a).2.1 ≠ (T b).2.1) (hG : GS D cy A s) (hM : MS D cy ad A H0 z σ H locs) (k : Nat) (e1 : pJ σ ci k v x = some τ) (hci : ci < 10) (hc : vwCl[ci]? = some (C, T, N)) (hN : N = (sg ci).length) (hkN : k < N) (ht : (sg ci).getD k 0 = 1) (hlink : va_Nw (Cond.fieldLinkNest own index ref (T k).2.1 (T k).2.2.1 host) s) (hsame : ∀ x, s.fieldFound? (T k).1 (T k).2.1 (T k).2.2.1 = some x → s.fieldFound? ref (T k).2.1 (T k).2.2.1 = some x) (hfin : (T k).2.2.2 = false) (hd : parseFieldDescriptor (T k).2.2.1 = some .long) (hdg : decode cc pc = .ok (.putfield index, 3))
    (kk : ∀ (H : Heap) (locs : List Loc), MS D cy ad A H0 z τ H locs → W p l e R s m args below meth c H locs cells slots Q (F0 m (pc + 3) ls rest)) : W p l e R s m args below meth c H locs cells slots Q (F0 m pc ls (.long x :: va_rf (Option.map ad v) :: rest)) := by
  obtain ⟨b, rfl, hk, rfl⟩ := pJ_some e1
  exact m_putN (σ' := sJ σ b k x) hC hin ty0 hty hnm hG.1 hM hk hci hc hN k hkN hlink hsame hfin hd rfl rfl rfl rfl (fun a ha => cellOf_sJ ha) (fs_sJ (by omega) ht) hdg kk
theorem gN_pR {nL : Nat} {own ref C host : String} {T : u_T} {N ci index : Nat} {v x : Option Nat} {τ : Mem} {ty : FieldType} (hC : CallFix p m c cc nL s args WALL own) (hin : ∀ w ∈ u_ws C T N, w ∈ WALL) (ty0 : Nat → FieldType) (hty : ∀ k, k < N → parseFieldDescriptor (T k).2.2.1 = some (ty0 k)) (hnm : ∀ a, a < N → ∀ b, b < N → a ≠ b → (T a).2.1 ≠ (T b).2.1) (hG : GS D cy A s) (hM : MS D cy ad A H0 z σ H locs) (k : Nat) (e1 : pR σ ci k v x = some τ) (hci : ci < 10) (hc : vwCl[ci]? = some (C, T, N)) (hN : N = (sg ci).length) (hkN : k < N) (ht : (sg ci).getD k 0 = 2) (hlink : va_Nw (Cond.fieldLinkNest own index ref (T k).2.1 (T k).2.2.1 host) s) (hsame : ∀ x, s.fieldFound? (T k).1 (T k).2.1 (T k).2.2.1 = some x → s.fieldFound? ref (T k).2.1 (T k).2.2.1 = some x) (hfin : (T k).2.2.2 = false) (hd : parseFieldDescriptor (T k).2.2.1 = some ty) (hn : ∀ r : Option Nat, narrow ty (va_rf r) = va_rf r ∧ fits ty (va_rf r) = true) (hdg : decode cc pc = .ok (.putfield index, 3))
    (kk : ∀ (H : Heap) (locs : List Loc), MS D cy ad A H0 z τ H locs → W p l e R s m args below meth c H locs cells slots Q (F0 m (pc + 3) ls rest)) : W p l e R s m args below meth c H locs cells slots Q (F0 m pc ls (va_rf (Option.map ad x) :: va_rf (Option.map ad v) :: rest)) := by
  obtain ⟨b, rfl, hk, rfl⟩ := pR_some e1
  exact m_putN (σ' := sR σ b k x) hC hin ty0 hty hnm hG.1 hM hk hci hc hN k hkN hlink hsame hfin hd (hn _).1 (hn _).2 rfl rfl (fun a ha => cellOf_sR ha) (fs_sR (by omega) ht) hdg kk
theorem g_iald (hx : p.tables.exec = Jvm.exec) (hb : c.code = cc) (hG : GS D cy A s) (hM : MS D cy ad A H0 z σ H locs) {v : Option Nat} {i : Int32} {x : Int32} (e1 : aI σ 11 v i = some x) (hdg : decode cc pc = .ok (.iaload, 1)) (kk : W p l e R s m args below meth c H locs cells slots Q (F0 m (pc + 1) ls (.int x :: rest))) : W p l e R s m args below meth c H locs cells slots Q (F0 m pc ls (.int i :: va_rf (Option.map ad v) :: rest)) := by
  obtain ⟨b, rfl, hk, hi, rfl⟩ := aI_some e1
  exact m_iald hx hb hG.1 hM hk hi hdg kk
theorem g_bald (hx : p.tables.exec = Jvm.exec) (hb : c.code = cc) (hG : GS D cy A s) (hM : MS D cy ad A H0 z σ H locs) {v : Option Nat} {i : Int32} {x : Int32} (e1 : aI σ 10 v i = some x) (hdg : decode cc pc = .ok (.baload, 1)) (kk : W p l e R s m args below meth c H locs cells slots Q (F0 m (pc + 1) ls (.int x :: rest))) : W p l e R s m args below meth c H locs cells slots Q (F0 m pc ls (.int i :: va_rf (Option.map ad v) :: rest)) := by
  obtain ⟨b, rfl, hk, hi, rfl⟩ := aI_some e1
  exact m_bald hx hb hG.1 hM hk hi hdg kk
theorem g_zald (hx : p.tables.exec = Jvm.exec) (hb : c.code = cc) (hG : GS D cy A s) (hM : MS D cy ad A H0 z σ H locs) {v : Option Nat} {i : Int32} {x : Int32} (e1 : aI σ 13 v i = some x) (hdg : decode cc pc = .ok (.baload, 1)) (kk : W p l e R s m args below meth c H locs cells slots Q (F0 m (pc + 1) ls (.int x :: rest))) : W p l e R s m args below meth c H locs cells slots Q (F0 m pc ls (.int i :: va_rf (Option.map ad v) :: rest)) := by
  obtain ⟨b, rfl, hk, hi, rfl⟩ := aI_some e1
  exact m_zald hx hb hG.1 hM hk hi hdg kk
theorem g_lald (hx : p.tables.exec = Jvm.exec) (hb : c.code = cc) (hG : GS D cy A s) (hM : MS D cy ad A H0 z σ H locs) {v : Option Nat} {i : Int32} {x : Int64} (e1 : aJ σ 12 v i = some x) (hdg : decode cc pc = .ok (.laload, 1)) (kk : W p l e R s m args below meth c H locs cells slots Q (F0 m (pc + 1) ls (.long x :: rest))) : W p l e R s m args below meth c H locs cells slots Q (F0 m pc ls (.int i :: va_rf (Option.map ad v) :: rest)) := by
  obtain ⟨b, rfl, hk, hi, rfl⟩ := aJ_some e1
  exact m_lald hx hb hG.1 hM hk hi hdg kk
theorem g_aald14 (hx : p.tables.exec = Jvm.exec) (hb : c.code = cc) (hG : GS D cy A s) (hM : MS D cy ad A H0 z σ H locs) {v x : Option Nat} {i : Int32} (e1 : aR σ 14 v i = some x) (hdg : decode cc pc = .ok (.aaload, 1)) (kk : W p l e R s m args below meth c H locs cells slots Q (F0 m (pc + 1) ls (va_rf (Option.map ad x) :: rest))) : W p l e R s m args below meth c H locs cells slots Q (F0 m pc ls (.int i :: va_rf (Option.map ad v) :: rest)) := by
  obtain ⟨b, rfl, hk, hi, rfl⟩ := aR_some e1
  exact m_aald (kR := 14) (by decide) hx hb hG.1 hM hk hi hdg kk
theorem g_aald15 (hx : p.tables.exec = Jvm.exec) (hb : c.code = cc) (hG : GS D cy A s) (hM : MS D cy ad A H0 z σ H locs) {v x : Option Nat} {i : Int32} (e1 : aR σ 15 v i = some x) (hdg : decode cc pc = .ok (.aaload, 1)) (kk : W p l e R s m args below meth c H locs cells slots Q (F0 m (pc + 1) ls (va_rf (Option.map ad x) :: rest))) : W p l e R s m args below meth c H locs cells slots Q (F0 m pc ls (.int i :: va_rf (Option.map ad v) :: rest)) := by
  obtain ⟨b, rfl, hk, hi, rfl⟩ := aR_some e1
  exact m_aald (kR := 15) (by decide) hx hb hG.1 hM hk hi hdg kk
theorem g_iast (hx : p.tables.exec = Jvm.exec) (hb : c.code = cc) (hG : GS D cy A s) (hM : MS D cy ad A H0 z σ H locs) {v : Option Nat} {i : Int32} {x : Int32} {τ : Mem} (e1 : wI σ 11 v i x = some τ) (hdg : decode cc pc = .ok (.iastore, 1)) (kk : ∀ (H : Heap) (locs : List Loc), MS D cy ad A H0 z τ H locs → W p l e R s m args below meth c H locs cells slots Q (F0 m (pc + 1) ls rest)) : W p l e R s m args below meth c H locs cells slots Q (F0 m pc ls (.int x :: .int i :: va_rf (Option.map ad v) :: rest)) := by
  obtain ⟨b, rfl, hk, hi, rfl⟩ := wI_some e1
  exact m_iast hx hb hG.1 hM hk hi hdg kk
theorem g_bast (hx : p.tables.exec = Jvm.exec) (hb : c.code = cc) (hG : GS D cy A s) (hM : MS D cy ad A H0 z σ H locs) {v : Option Nat} {i : Int32} {x : Int32} {τ : Mem} (e1 : wI σ 10 v i (vp_nar .byte x) = some τ) (hdg : decode cc pc = .ok (.bastore, 1)) (kk : ∀ (H : Heap) (locs : List Loc), MS D cy ad A H0 z τ H locs → W p l e R s m args below meth c H locs cells slots Q (F0 m (pc + 1) ls rest)) : W p l e R s m args below meth c H locs cells slots Q (F0 m pc ls (.int x :: .int i :: va_rf (Option.map ad v) :: rest)) := by
  obtain ⟨b, rfl, hk, hi, rfl⟩ := wI_some e1
  exact m_bast hx hb hG.1 hM hk hi hdg kk
theorem g_zast (hx : p.tables.exec = Jvm.exec) (hb : c.code = cc) (hG : GS D cy A s) (hM : MS D cy ad A H0 z σ H locs) {v : Option Nat} {i : Int32} {x : Int32} {τ : Mem} (e1 : wI σ 13 v i (vp_nar .boolean x) = some τ) (hdg : decode cc pc = .ok (.bastore, 1)) (kk : ∀ (H : Heap) (locs : List Loc), MS D cy ad A H0 z τ H locs → W p l e R s m args below meth c H locs cells slots Q (F0 m (pc + 1) ls rest)) : W p l e R s m args below meth c H locs cells slots Q (F0 m pc ls (.int x :: .int i :: va_rf (Option.map ad v) :: rest)) := by
  obtain ⟨b, rfl, hk, hi, rfl⟩ := wI_some e1
  exact m_zast hx hb hG.1 hM hk hi hdg kk
theorem g_last (hx : p.tables.exec = Jvm.exec) (hb : c.code = cc) (hG : GS D cy A s) (hM : MS D cy ad A H0 z σ H locs) {v : Option Nat} {i : Int32} {x : Int64} {τ : Mem} (e1 : wJ σ 12 v i x = some τ) (hdg : decode cc pc = .ok (.lastore, 1)) (kk : ∀ (H : Heap) (locs : List Loc), MS D cy ad A H0 z τ H locs → W p l e R s m args below meth c H locs cells slots Q (F0 m (pc + 1) ls rest)) : W p l e R s m args below meth c H locs cells slots Q (F0 m pc ls (.long x :: .int i :: va_rf (Option.map ad v) :: rest)) := by
  obtain ⟨b, rfl, hk, hi, rfl⟩ := wJ_some e1
  exact m_last hx hb hG.1 hM hk hi hdg kk
theorem g_alen {kA : Nat} (hkA : kA = 10 ∨ kA = 11 ∨ kA = 13) (hx : p.tables.exec = Jvm.exec) (hb : c.code = cc) (hG : GS D cy A s) (hM : MS D cy ad A H0 z σ H locs) {v : Option Nat} {x : Int32} (e1 : aL σ kA v = some x) (hdg : decode cc pc = .ok (.arraylength, 1)) (kk : W p l e R s m args below meth c H locs cells slots Q (F0 m (pc + 1) ls (.int x :: rest))) : W p l e R s m args below meth c H locs cells slots Q (F0 m pc ls (va_rf (Option.map ad v) :: rest)) := by
  obtain ⟨b, rfl, hk, rfl⟩ := aL_some e1
  exact m_alen hkA hx hb hG.1 hM hk hdg kk
end RX
section RC
variable {p : Program} {l : Launch} {e : Env} {R : Room} {s : State} {m : MethodId} {args : Array Value} {below : List Frame} {meth : Method} {c : Code} {H : Heap} {locs : List Loc} {Q : State → Prop}
variable {cc : ByteArray} {pc : Nat} {ls : Array Slot} {rest : List Value} {D : va_G} {cy : Nat → ClassId} {ad : Nat → Nat} {A : Nat → Prop} {z : Nat} {σ : Mem}
theorem callV_I {own : String} {index nL n d : Nat} {y : MethodName} {cb : ByteArray} {ret : Option FieldType} {As : List Value} {ra : Int32} {τ : Mem} {st : List Value} {v : Option Nat} {b ci N : Nat} {C : String} {T : u_T} (ek : kT σ ci v = some b) (hci : ci < 10) (hcl : vwCl[ci]? = some (C, T, N)) (hl : Cond.methodLink own index y ∈ WALL) (hin : Cond.instanceMethod y ∈ WALL) (hse : Cond.selects C y y ∈ WALL) (hyC : y.cls = C) (hini : Cond.initialized y.cls ∈ WALL) (hcd : Cond.code y cb n ret ∈ WALL) (hd : y.cls ≠ "java/lang/invoke/MethodHandle" ∧ y.cls ≠ "java/lang/invoke/VarHandle" ∧ (parseMethodDescriptor y.desc).map (fun d => d.parameters.length) = some As.length) (hC : CallFix p m c cc nL s args WALL own) (hG : GS D cy A s) (hM : MS D cy ad A s.heap z σ H locs) (hct : CtI l y cb n ret d (.ref (ad b) :: As) D cy ad A z σ ra τ) (hR : d + 1 ≤ R.frames ∧ 8 + (n + 11) + 36 * d ≤ R.locals) (hsz : ls.size = nL) (hW : (rest.map fun v => v.category).sum ≤ 8) (hdg : decode cc pc = .ok (.invokevirtual index, 3)) (hst0 : st = (As.reverse ++ va_rf (Option.map ad v) :: rest))
    (kk : ∀ (H : Heap) (locs : List Loc), MS D cy ad A s.heap z τ H locs → W p l e R s m args below meth c H locs 0 0 Q (F0 m (pc + 3) ls (.int ra :: rest))) : W p l e R s m args below meth c H locs 0 0 Q (F0 m pc ls st) := by
  subst hst0
  obtain ⟨rfl, hk⟩ := kT_some ek
  obtain ⟨h1, h2⟩ := kd_lt hk (by omega)
  refine va_calli (va_runV (As := As) (rest := rest) hC hct (cwV As.length hC.2.2.2.2 (WALL_cons hl (WALL_cons hin (WALL_cons hse (WALL_cons (hyC ▸ hini) (WALL_code hcd))))) rfl rfl rfl ⟨hyC, hd⟩ hR) ⟨Pr.blind, va_recv hG.1 hM.1 hcl (by rw [MM_get cy ad h1, cellOf_obj cy ad h2 hci]), fun U hU hW => ⟨rfl, hM.pre hG U hU hW⟩⟩ rfl rfl hsz rfl (lv_room hW) hdg ⟨Nat.zero_le _, Nat.zero_le _⟩) hM.2.2.1 (fun q _ h => h) (fun q h => h) (fun r u t H1 locs1 ht hvm hw hB hz1 hk1 hS => ?_)
  obtain ⟨rfl, rfl⟩ := hw
  exact kk H1 locs1 (MS.post hB ht hS)
theorem callV_L {own : String} {index nL n d : Nat} {y : MethodName} {cb : ByteArray} {ret : Option FieldType} {As : List Value} {ra : Int64} {τ : Mem} {st : List Value} {v : Option Nat} {b ci N : Nat} {C : String} {T : u_T} (ek : kT σ ci v = some b) (hci : ci < 10) (hcl : vwCl[ci]? = some (C, T, N)) (hl : Cond.methodLink own index y ∈ WALL) (hin : Cond.instanceMethod y ∈ WALL) (hse : Cond.selects C y y ∈ WALL) (hyC : y.cls = C) (hini : Cond.initialized y.cls ∈ WALL) (hcd : Cond.code y cb n ret ∈ WALL) (hd : y.cls ≠ "java/lang/invoke/MethodHandle" ∧ y.cls ≠ "java/lang/invoke/VarHandle" ∧ (parseMethodDescriptor y.desc).map (fun d => d.parameters.length) = some As.length) (hC : CallFix p m c cc nL s args WALL own) (hG : GS D cy A s) (hM : MS D cy ad A s.heap z σ H locs) (hct : CtL l y cb n ret d (.ref (ad b) :: As) D cy ad A z σ ra τ) (hR : d + 1 ≤ R.frames ∧ 8 + (n + 11) + 36 * d ≤ R.locals) (hsz : ls.size = nL) (hW : (rest.map fun v => v.category).sum ≤ 8) (hdg : decode cc pc = .ok (.invokevirtual index, 3)) (hst0 : st = (As.reverse ++ va_rf (Option.map ad v) :: rest))
    (kk : ∀ (H : Heap) (locs : List Loc), MS D cy ad A s.heap z τ H locs → W p l e R s m args below meth c H locs 0 0 Q (F0 m (pc + 3) ls (.long ra :: rest))) : W p l e R s m args below meth c H locs 0 0 Q (F0 m pc ls st) := by
  subst hst0
  obtain ⟨rfl, hk⟩ := kT_some ek
  obtain ⟨h1, h2⟩ := kd_lt hk (by omega)
  refine va_calll (va_runV (As := As) (rest := rest) hC hct (cwV As.length hC.2.2.2.2 (WALL_cons hl (WALL_cons hin (WALL_cons hse (WALL_cons (hyC ▸ hini) (WALL_code hcd))))) rfl rfl rfl ⟨hyC, hd⟩ hR) ⟨Pr.blind, va_recv hG.1 hM.1 hcl (by rw [MM_get cy ad h1, cellOf_obj cy ad h2 hci]), fun U hU hW => ⟨rfl, hM.pre hG U hU hW⟩⟩ rfl rfl hsz rfl (lv_room hW) hdg ⟨Nat.zero_le _, Nat.zero_le _⟩) hM.2.2.1 (fun q _ h => h) (fun q h => h) (fun r u t H1 locs1 ht hvm hw hB hz1 hk1 hS => ?_)
  obtain ⟨rfl, rfl⟩ := hw
  exact kk H1 locs1 (MS.post hB ht hS)
theorem callV_V {own : String} {index nL n d : Nat} {y : MethodName} {cb : ByteArray} {ret : Option FieldType} {As : List Value} {ra : Unit} {τ : Mem} {st : List Value} {v : Option Nat} {b ci N : Nat} {C : String} {T : u_T} (ek : kT σ ci v = some b) (hci : ci < 10) (hcl : vwCl[ci]? = some (C, T, N)) (hl : Cond.methodLink own index y ∈ WALL) (hin : Cond.instanceMethod y ∈ WALL) (hse : Cond.selects C y y ∈ WALL) (hyC : y.cls = C) (hini : Cond.initialized y.cls ∈ WALL) (hcd : Cond.code y cb n ret ∈ WALL) (hd : y.cls ≠ "java/lang/invoke/MethodHandle" ∧ y.cls ≠ "java/lang/invoke/VarHandle" ∧ (parseMethodDescriptor y.desc).map (fun d => d.parameters.length) = some As.length) (hC : CallFix p m c cc nL s args WALL own) (hG : GS D cy A s) (hM : MS D cy ad A s.heap z σ H locs) (hct : CtV l y cb n ret d (.ref (ad b) :: As) D cy ad A z σ ra τ) (hR : d + 1 ≤ R.frames ∧ 8 + (n + 11) + 36 * d ≤ R.locals) (hsz : ls.size = nL) (hW : (rest.map fun v => v.category).sum ≤ 8) (hdg : decode cc pc = .ok (.invokevirtual index, 3)) (hst0 : st = (As.reverse ++ va_rf (Option.map ad v) :: rest))
    (kk : ∀ (H : Heap) (locs : List Loc), MS D cy ad A s.heap z τ H locs → W p l e R s m args below meth c H locs 0 0 Q (F0 m (pc + 3) ls (rest))) : W p l e R s m args below meth c H locs 0 0 Q (F0 m pc ls st) := by
  subst hst0
  obtain ⟨rfl, hk⟩ := kT_some ek
  obtain ⟨h1, h2⟩ := kd_lt hk (by omega)
  refine va_callv (va_runV (As := As) (rest := rest) hC hct (cwV As.length hC.2.2.2.2 (WALL_cons hl (WALL_cons hin (WALL_cons hse (WALL_cons (hyC ▸ hini) (WALL_code hcd))))) rfl rfl rfl ⟨hyC, hd⟩ hR) ⟨Pr.blind, va_recv hG.1 hM.1 hcl (by rw [MM_get cy ad h1, cellOf_obj cy ad h2 hci]), fun U hU hW => ⟨rfl, hM.pre hG U hU hW⟩⟩ rfl rfl hsz rfl (lv_room hW) hdg ⟨Nat.zero_le _, Nat.zero_le _⟩) hM.2.2.1 (fun q _ h => h) (fun q h => h) (fun u t H1 locs1 ht hvm hw hB hz1 hk1 hS => ?_)
  subst hw
  exact kk H1 locs1 (MS.post hB ht hS)
theorem callV_R {own : String} {index nL n d : Nat} {y : MethodName} {cb : ByteArray} {ret : Option FieldType} {As : List Value} {ra : Option Nat} {τ : Mem} {st : List Value} {v : Option Nat} {b ci N : Nat} {C : String} {T : u_T} (ek : kT σ ci v = some b) (hci : ci < 10) (hcl : vwCl[ci]? = some (C, T, N)) (hl : Cond.methodLink own index y ∈ WALL) (hin : Cond.instanceMethod y ∈ WALL) (hse : Cond.selects C y y ∈ WALL) (hyC : y.cls = C) (hini : Cond.initialized y.cls ∈ WALL) (hcd : Cond.code y cb n ret ∈ WALL) (hd : y.cls ≠ "java/lang/invoke/MethodHandle" ∧ y.cls ≠ "java/lang/invoke/VarHandle" ∧ (parseMethodDescriptor y.desc).map (fun d => d.parameters.length) = some As.length) (hC : CallFix p m c cc nL s args WALL own) (hG : GS D cy A s) (hM : MS D cy ad A s.heap z σ H locs) (hct : CtR l y cb n ret d (.ref (ad b) :: As) D cy ad A z σ ra τ) (hR : d + 1 ≤ R.frames ∧ 8 + (n + 11) + 36 * d ≤ R.locals) (hsz : ls.size = nL) (hW : (rest.map fun v => v.category).sum ≤ 8) (hdg : decode cc pc = .ok (.invokevirtual index, 3)) (hst0 : st = (As.reverse ++ va_rf (Option.map ad v) :: rest))
    (kk : ∀ (H : Heap) (locs : List Loc), MS D cy ad A s.heap z τ H locs → W p l e R s m args below meth c H locs 0 0 Q (F0 m (pc + 3) ls (va_rf (Option.map ad ra) :: rest))) : W p l e R s m args below meth c H locs 0 0 Q (F0 m pc ls st) := by
  subst hst0
  obtain ⟨rfl, hk⟩ := kT_some ek
  obtain ⟨h1, h2⟩ := kd_lt hk (by omega)
  refine va_callq (va_runV (As := As) (rest := rest) hC hct (cwV As.length hC.2.2.2.2 (WALL_cons hl (WALL_cons hin (WALL_cons hse (WALL_cons (hyC ▸ hini) (WALL_code hcd))))) rfl rfl rfl ⟨hyC, hd⟩ hR) ⟨Pr.blind, va_recv hG.1 hM.1 hcl (by rw [MM_get cy ad h1, cellOf_obj cy ad h2 hci]), fun U hU hW => ⟨rfl, hM.pre hG U hU hW⟩⟩ rfl rfl hsz rfl (lv_room hW) hdg ⟨Nat.zero_le _, Nat.zero_le _⟩) hM.2.2.1 (fun q _ h => h) (fun q h => h) (fun r u t H1 locs1 ht hvm hw hB hz1 hk1 hS => ?_)
  obtain ⟨rfl, rfl⟩ := hw
  exact kk H1 locs1 (MS.post hB ht hS)
theorem callVN_I {own : String} {index nL n d : Nat} {y : MethodName} {cb : ByteArray} {ret : Option FieldType} {As : List Value} {ra : Int32} {τ : Mem} {st : List Value} {v : Option Nat} {b ci N : Nat} {C : String} {T : u_T} (ek : kT σ ci v = some b) (hci : ci < 10) (hcl : vwCl[ci]? = some (C, T, N)) {host : String} (hl : Cond.methodLinkNest own index y host ∈ NWL) (hin : Cond.instanceMethod y ∈ WALL) (hse : Cond.selects C y y ∈ WALL) (hyC : y.cls = C) (hini : Cond.initialized y.cls ∈ WALL) (hcd : Cond.code y cb n ret ∈ WALL) (hd : y.cls ≠ "java/lang/invoke/MethodHandle" ∧ y.cls ≠ "java/lang/invoke/VarHandle" ∧ (parseMethodDescriptor y.desc).map (fun d => d.parameters.length) = some As.length) (hC : CallFix p m c cc nL s args WALL own) (hG : GS D cy A s) (hM : MS D cy ad A s.heap z σ H locs) (hct : CtI l y cb n ret d (.ref (ad b) :: As) D cy ad A z σ ra τ) (hR : d + 1 ≤ R.frames ∧ 8 + (n + 11) + 36 * d ≤ R.locals) (hsz : ls.size = nL) (hW : (rest.map fun v => v.category).sum ≤ 8) (hdg : decode cc pc = .ok (.invokevirtual index, 3)) (hst0 : st = (As.reverse ++ va_rf (Option.map ad v) :: rest))
    (kk : ∀ (H : Heap) (locs : List Loc), MS D cy ad A s.heap z τ H locs → W p l e R s m args below meth c H locs 0 0 Q (F0 m (pc + 3) ls (.int ra :: rest))) : W p l e R s m args below meth c H locs 0 0 Q (F0 m pc ls st) := by
  subst hst0
  obtain ⟨rfl, hk⟩ := kT_some ek
  obtain ⟨h1, h2⟩ := kd_lt hk (by omega)
  refine va_calli (va_runVN (As := As) (rest := rest) hC hct ⟨va_cnB As.length hC.2.2.2.2 (WALL_code hcd) rfl rfl rfl (hG.2.1 _ hl) (hC.2.2.2.2 _ hini) hd hR, hC.2.2.2.2 _ hin, hC.2.2.2.2 _ hse⟩ ⟨Pr.blind, va_recv hG.1 hM.1 hcl (by rw [MM_get cy ad h1, cellOf_obj cy ad h2 hci]), fun U hU hW => ⟨rfl, hM.pre hG U hU hW⟩⟩ rfl rfl hsz rfl (lv_room hW) hdg ⟨Nat.zero_le _, Nat.zero_le _⟩) hM.2.2.1 (fun q _ h => h) (fun q h => h) (fun r u t H1 locs1 ht hvm hw hB hz1 hk1 hS => ?_)
  obtain ⟨rfl, rfl⟩ := hw
  exact kk H1 locs1 (MS.post hB ht hS)
theorem callVN_L {own : String} {index nL n d : Nat} {y : MethodName} {cb : ByteArray} {ret : Option FieldType} {As : List Value} {ra : Int64} {τ : Mem} {st : List Value} {v : Option Nat} {b ci N : Nat} {C : String} {T : u_T} (ek : kT σ ci v = some b) (hci : ci < 10) (hcl : vwCl[ci]? = some (C, T, N)) {host : String} (hl : Cond.methodLinkNest own index y host ∈ NWL) (hin : Cond.instanceMethod y ∈ WALL) (hse : Cond.selects C y y ∈ WALL) (hyC : y.cls = C) (hini : Cond.initialized y.cls ∈ WALL) (hcd : Cond.code y cb n ret ∈ WALL) (hd : y.cls ≠ "java/lang/invoke/MethodHandle" ∧ y.cls ≠ "java/lang/invoke/VarHandle" ∧ (parseMethodDescriptor y.desc).map (fun d => d.parameters.length) = some As.length) (hC : CallFix p m c cc nL s args WALL own) (hG : GS D cy A s) (hM : MS D cy ad A s.heap z σ H locs) (hct : CtL l y cb n ret d (.ref (ad b) :: As) D cy ad A z σ ra τ) (hR : d + 1 ≤ R.frames ∧ 8 + (n + 11) + 36 * d ≤ R.locals) (hsz : ls.size = nL) (hW : (rest.map fun v => v.category).sum ≤ 8) (hdg : decode cc pc = .ok (.invokevirtual index, 3)) (hst0 : st = (As.reverse ++ va_rf (Option.map ad v) :: rest))
    (kk : ∀ (H : Heap) (locs : List Loc), MS D cy ad A s.heap z τ H locs → W p l e R s m args below meth c H locs 0 0 Q (F0 m (pc + 3) ls (.long ra :: rest))) : W p l e R s m args below meth c H locs 0 0 Q (F0 m pc ls st) := by
  subst hst0
  obtain ⟨rfl, hk⟩ := kT_some ek
  obtain ⟨h1, h2⟩ := kd_lt hk (by omega)
  refine va_calll (va_runVN (As := As) (rest := rest) hC hct ⟨va_cnB As.length hC.2.2.2.2 (WALL_code hcd) rfl rfl rfl (hG.2.1 _ hl) (hC.2.2.2.2 _ hini) hd hR, hC.2.2.2.2 _ hin, hC.2.2.2.2 _ hse⟩ ⟨Pr.blind, va_recv hG.1 hM.1 hcl (by rw [MM_get cy ad h1, cellOf_obj cy ad h2 hci]), fun U hU hW => ⟨rfl, hM.pre hG U hU hW⟩⟩ rfl rfl hsz rfl (lv_room hW) hdg ⟨Nat.zero_le _, Nat.zero_le _⟩) hM.2.2.1 (fun q _ h => h) (fun q h => h) (fun r u t H1 locs1 ht hvm hw hB hz1 hk1 hS => ?_)
  obtain ⟨rfl, rfl⟩ := hw
  exact kk H1 locs1 (MS.post hB ht hS)
theorem callVN_V {own : String} {index nL n d : Nat} {y : MethodName} {cb : ByteArray} {ret : Option FieldType} {As : List Value} {ra : Unit} {τ : Mem} {st : List Value} {v : Option Nat} {b ci N : Nat} {C : String} {T : u_T} (ek : kT σ ci v = some b) (hci : ci < 10) (hcl : vwCl[ci]? = some (C, T, N)) {host : String} (hl : Cond.methodLinkNest own index y host ∈ NWL) (hin : Cond.instanceMethod y ∈ WALL) (hse : Cond.selects C y y ∈ WALL) (hyC : y.cls = C) (hini : Cond.initialized y.cls ∈ WALL) (hcd : Cond.code y cb n ret ∈ WALL) (hd : y.cls ≠ "java/lang/invoke/MethodHandle" ∧ y.cls ≠ "java/lang/invoke/VarHandle" ∧ (parseMethodDescriptor y.desc).map (fun d => d.parameters.length) = some As.length) (hC : CallFix p m c cc nL s args WALL own) (hG : GS D cy A s) (hM : MS D cy ad A s.heap z σ H locs) (hct : CtV l y cb n ret d (.ref (ad b) :: As) D cy ad A z σ ra τ) (hR : d + 1 ≤ R.frames ∧ 8 + (n + 11) + 36 * d ≤ R.locals) (hsz : ls.size = nL) (hW : (rest.map fun v => v.category).sum ≤ 8) (hdg : decode cc pc = .ok (.invokevirtual index, 3)) (hst0 : st = (As.reverse ++ va_rf (Option.map ad v) :: rest))
    (kk : ∀ (H : Heap) (locs : List Loc), MS D cy ad A s.heap z τ H locs → W p l e R s m args below meth c H locs 0 0 Q (F0 m (pc + 3) ls (rest))) : W p l e R s m args below meth c H locs 0 0 Q (F0 m pc ls st) := by
  subst hst0
  obtain ⟨rfl, hk⟩ := kT_some ek
  obtain ⟨h1, h2⟩ := kd_lt hk (by omega)
  refine va_callv (va_runVN (As := As) (rest := rest) hC hct ⟨va_cnB As.length hC.2.2.2.2 (WALL_code hcd) rfl rfl rfl (hG.2.1 _ hl) (hC.2.2.2.2 _ hini) hd hR, hC.2.2.2.2 _ hin, hC.2.2.2.2 _ hse⟩ ⟨Pr.blind, va_recv hG.1 hM.1 hcl (by rw [MM_get cy ad h1, cellOf_obj cy ad h2 hci]), fun U hU hW => ⟨rfl, hM.pre hG U hU hW⟩⟩ rfl rfl hsz rfl (lv_room hW) hdg ⟨Nat.zero_le _, Nat.zero_le _⟩) hM.2.2.1 (fun q _ h => h) (fun q h => h) (fun u t H1 locs1 ht hvm hw hB hz1 hk1 hS => ?_)
  subst hw
  exact kk H1 locs1 (MS.post hB ht hS)
theorem callVN_R {own : String} {index nL n d : Nat} {y : MethodName} {cb : ByteArray} {ret : Option FieldType} {As : List Value} {ra : Option Nat} {τ : Mem} {st : List Value} {v : Option Nat} {b ci N : Nat} {C : String} {T : u_T} (ek : kT σ ci v = some b) (hci : ci < 10) (hcl : vwCl[ci]? = some (C, T, N)) {host : String} (hl : Cond.methodLinkNest own index y host ∈ NWL) (hin : Cond.instanceMethod y ∈ WALL) (hse : Cond.selects C y y ∈ WALL) (hyC : y.cls = C) (hini : Cond.initialized y.cls ∈ WALL) (hcd : Cond.code y cb n ret ∈ WALL) (hd : y.cls ≠ "java/lang/invoke/MethodHandle" ∧ y.cls ≠ "java/lang/invoke/VarHandle" ∧ (parseMethodDescriptor y.desc).map (fun d => d.parameters.length) = some As.length) (hC : CallFix p m c cc nL s args WALL own) (hG : GS D cy A s) (hM : MS D cy ad A s.heap z σ H locs) (hct : CtR l y cb n ret d (.ref (ad b) :: As) D cy ad A z σ ra τ) (hR : d + 1 ≤ R.frames ∧ 8 + (n + 11) + 36 * d ≤ R.locals) (hsz : ls.size = nL) (hW : (rest.map fun v => v.category).sum ≤ 8) (hdg : decode cc pc = .ok (.invokevirtual index, 3)) (hst0 : st = (As.reverse ++ va_rf (Option.map ad v) :: rest))
    (kk : ∀ (H : Heap) (locs : List Loc), MS D cy ad A s.heap z τ H locs → W p l e R s m args below meth c H locs 0 0 Q (F0 m (pc + 3) ls (va_rf (Option.map ad ra) :: rest))) : W p l e R s m args below meth c H locs 0 0 Q (F0 m pc ls st) := by
  subst hst0
  obtain ⟨rfl, hk⟩ := kT_some ek
  obtain ⟨h1, h2⟩ := kd_lt hk (by omega)
  refine va_callq (va_runVN (As := As) (rest := rest) hC hct ⟨va_cnB As.length hC.2.2.2.2 (WALL_code hcd) rfl rfl rfl (hG.2.1 _ hl) (hC.2.2.2.2 _ hini) hd hR, hC.2.2.2.2 _ hin, hC.2.2.2.2 _ hse⟩ ⟨Pr.blind, va_recv hG.1 hM.1 hcl (by rw [MM_get cy ad h1, cellOf_obj cy ad h2 hci]), fun U hU hW => ⟨rfl, hM.pre hG U hU hW⟩⟩ rfl rfl hsz rfl (lv_room hW) hdg ⟨Nat.zero_le _, Nat.zero_le _⟩) hM.2.2.1 (fun q _ h => h) (fun q h => h) (fun r u t H1 locs1 ht hvm hw hB hz1 hk1 hS => ?_)
  obtain ⟨rfl, rfl⟩ := hw
  exact kk H1 locs1 (MS.post hB ht hS)
theorem callS_I {own : String} {index nL n d : Nat} {y : MethodName} {cb : ByteArray} {ret : Option FieldType} {As : List Value} {ra : Int32} {τ : Mem} {st : List Value} (hl : Cond.methodLink own index y ∈ WALL) (hst : Cond.static y ∈ WALL) (hini : Cond.initialized y.cls ∈ WALL) (hcd : Cond.code y cb n ret ∈ WALL) (hd : y.cls ≠ "java/lang/invoke/MethodHandle" ∧ y.cls ≠ "java/lang/invoke/VarHandle" ∧ (parseMethodDescriptor y.desc).map (fun d => d.parameters.length) = some As.length) (hC : CallFix p m c cc nL s args WALL own) (hG : GS D cy A s) (hM : MS D cy ad A s.heap z σ H locs) (hct : CtI l y cb n ret d As D cy ad A z σ ra τ) (hR : d + 1 ≤ R.frames ∧ 8 + (n + 11) + 36 * d ≤ R.locals) (hsz : ls.size = nL) (hW : (rest.map fun v => v.category).sum ≤ 8) (hdg : decode cc pc = .ok (.invokestatic index, 3)) (hst0 : st = (As.reverse ++ rest))
    (kk : ∀ (H : Heap) (locs : List Loc), MS D cy ad A s.heap z τ H locs → W p l e R s m args below meth c H locs 0 0 Q (F0 m (pc + 3) ls (.int ra :: rest))) : W p l e R s m args below meth c H locs 0 0 Q (F0 m pc ls st) := by
  subst hst0
  refine va_calli (va_runS (As := As) (rest := rest) hC hct (va_cwS As.length hC.2.2.2.2 (WALL_cons hl (WALL_cons hst (WALL_cons hini (WALL_code hcd)))) rfl rfl rfl hd hR) ⟨Pr.blind, fun U hU hW => ⟨rfl, hM.pre hG U hU hW⟩⟩ rfl rfl hsz rfl (lv_room hW) hdg ⟨Nat.zero_le _, Nat.zero_le _⟩) hM.2.2.1 (fun q _ h => h) (fun q h => h) (fun r u t H1 locs1 ht hvm hw hB hz1 hk1 hS => ?_)
  obtain ⟨rfl, rfl⟩ := hw
  exact kk H1 locs1 (MS.post hB ht hS)
theorem callS_L {own : String} {index nL n d : Nat} {y : MethodName} {cb : ByteArray} {ret : Option FieldType} {As : List Value} {ra : Int64} {τ : Mem} {st : List Value} (hl : Cond.methodLink own index y ∈ WALL) (hst : Cond.static y ∈ WALL) (hini : Cond.initialized y.cls ∈ WALL) (hcd : Cond.code y cb n ret ∈ WALL) (hd : y.cls ≠ "java/lang/invoke/MethodHandle" ∧ y.cls ≠ "java/lang/invoke/VarHandle" ∧ (parseMethodDescriptor y.desc).map (fun d => d.parameters.length) = some As.length) (hC : CallFix p m c cc nL s args WALL own) (hG : GS D cy A s) (hM : MS D cy ad A s.heap z σ H locs) (hct : CtL l y cb n ret d As D cy ad A z σ ra τ) (hR : d + 1 ≤ R.frames ∧ 8 + (n + 11) + 36 * d ≤ R.locals) (hsz : ls.size = nL) (hW : (rest.map fun v => v.category).sum ≤ 8) (hdg : decode cc pc = .ok (.invokestatic index, 3)) (hst0 : st = (As.reverse ++ rest))
    (kk : ∀ (H : Heap) (locs : List Loc), MS D cy ad A s.heap z τ H locs → W p l e R s m args below meth c H locs 0 0 Q (F0 m (pc + 3) ls (.long ra :: rest))) : W p l e R s m args below meth c H locs 0 0 Q (F0 m pc ls st) := by
  subst hst0
  refine va_calll (va_runS (As := As) (rest := rest) hC hct (va_cwS As.length hC.2.2.2.2 (WALL_cons hl (WALL_cons hst (WALL_cons hini (WALL_code hcd)))) rfl rfl rfl hd hR) ⟨Pr.blind, fun U hU hW => ⟨rfl, hM.pre hG U hU hW⟩⟩ rfl rfl hsz rfl (lv_room hW) hdg ⟨Nat.zero_le _, Nat.zero_le _⟩) hM.2.2.1 (fun q _ h => h) (fun q h => h) (fun r u t H1 locs1 ht hvm hw hB hz1 hk1 hS => ?_)
  obtain ⟨rfl, rfl⟩ := hw
  exact kk H1 locs1 (MS.post hB ht hS)
theorem callS_V {own : String} {index nL n d : Nat} {y : MethodName} {cb : ByteArray} {ret : Option FieldType} {As : List Value} {ra : Unit} {τ : Mem} {st : List Value} (hl : Cond.methodLink own index y ∈ WALL) (hst : Cond.static y ∈ WALL) (hini : Cond.initialized y.cls ∈ WALL) (hcd : Cond.code y cb n ret ∈ WALL) (hd : y.cls ≠ "java/lang/invoke/MethodHandle" ∧ y.cls ≠ "java/lang/invoke/VarHandle" ∧ (parseMethodDescriptor y.desc).map (fun d => d.parameters.length) = some As.length) (hC : CallFix p m c cc nL s args WALL own) (hG : GS D cy A s) (hM : MS D cy ad A s.heap z σ H locs) (hct : CtV l y cb n ret d As D cy ad A z σ ra τ) (hR : d + 1 ≤ R.frames ∧ 8 + (n + 11) + 36 * d ≤ R.locals) (hsz : ls.size = nL) (hW : (rest.map fun v => v.category).sum ≤ 8) (hdg : decode cc pc = .ok (.invokestatic index, 3)) (hst0 : st = (As.reverse ++ rest))
    (kk : ∀ (H : Heap) (locs : List Loc), MS D cy ad A s.heap z τ H locs → W p l e R s m args below meth c H locs 0 0 Q (F0 m (pc + 3) ls (rest))) : W p l e R s m args below meth c H locs 0 0 Q (F0 m pc ls st) := by
  subst hst0
  refine va_callv (va_runS (As := As) (rest := rest) hC hct (va_cwS As.length hC.2.2.2.2 (WALL_cons hl (WALL_cons hst (WALL_cons hini (WALL_code hcd)))) rfl rfl rfl hd hR) ⟨Pr.blind, fun U hU hW => ⟨rfl, hM.pre hG U hU hW⟩⟩ rfl rfl hsz rfl (lv_room hW) hdg ⟨Nat.zero_le _, Nat.zero_le _⟩) hM.2.2.1 (fun q _ h => h) (fun q h => h) (fun u t H1 locs1 ht hvm hw hB hz1 hk1 hS => ?_)
  subst hw
  exact kk H1 locs1 (MS.post hB ht hS)
theorem callS_R {own : String} {index nL n d : Nat} {y : MethodName} {cb : ByteArray} {ret : Option FieldType} {As : List Value} {ra : Option Nat} {τ : Mem} {st : List Value} (hl : Cond.methodLink own index y ∈ WALL) (hst : Cond.static y ∈ WALL) (hini : Cond.initialized y.cls ∈ WALL) (hcd : Cond.code y cb n ret ∈ WALL) (hd : y.cls ≠ "java/lang/invoke/MethodHandle" ∧ y.cls ≠ "java/lang/invoke/VarHandle" ∧ (parseMethodDescriptor y.desc).map (fun d => d.parameters.length) = some As.length) (hC : CallFix p m c cc nL s args WALL own) (hG : GS D cy A s) (hM : MS D cy ad A s.heap z σ H locs) (hct : CtR l y cb n ret d As D cy ad A z σ ra τ) (hR : d + 1 ≤ R.frames ∧ 8 + (n + 11) + 36 * d ≤ R.locals) (hsz : ls.size = nL) (hW : (rest.map fun v => v.category).sum ≤ 8) (hdg : decode cc pc = .ok (.invokestatic index, 3)) (hst0 : st = (As.reverse ++ rest))
    (kk : ∀ (H : Heap) (locs : List Loc), MS D cy ad A s.heap z τ H locs → W p l e R s m args below meth c H locs 0 0 Q (F0 m (pc + 3) ls (va_rf (Option.map ad ra) :: rest))) : W p l e R s m args below meth c H locs 0 0 Q (F0 m pc ls st) := by
  subst hst0
  refine va_callq (va_runS (As := As) (rest := rest) hC hct (va_cwS As.length hC.2.2.2.2 (WALL_cons hl (WALL_cons hst (WALL_cons hini (WALL_code hcd)))) rfl rfl rfl hd hR) ⟨Pr.blind, fun U hU hW => ⟨rfl, hM.pre hG U hU hW⟩⟩ rfl rfl hsz rfl (lv_room hW) hdg ⟨Nat.zero_le _, Nat.zero_le _⟩) hM.2.2.1 (fun q _ h => h) (fun q h => h) (fun r u t H1 locs1 ht hvm hw hB hz1 hk1 hS => ?_)
  obtain ⟨rfl, rfl⟩ := hw
  exact kk H1 locs1 (MS.post hB ht hS)
theorem callSN_I {own : String} {index nL n d : Nat} {y : MethodName} {cb : ByteArray} {ret : Option FieldType} {As : List Value} {ra : Int32} {τ : Mem} {st : List Value} {host : String} (hl : Cond.methodLinkNest own index y host ∈ NWL) (hst : Cond.static y ∈ WALL) (hini : Cond.initialized y.cls ∈ WALL) (hcd : Cond.code y cb n ret ∈ WALL) (hd : y.cls ≠ "java/lang/invoke/MethodHandle" ∧ y.cls ≠ "java/lang/invoke/VarHandle" ∧ (parseMethodDescriptor y.desc).map (fun d => d.parameters.length) = some As.length) (hC : CallFix p m c cc nL s args WALL own) (hG : GS D cy A s) (hM : MS D cy ad A s.heap z σ H locs) (hct : CtI l y cb n ret d As D cy ad A z σ ra τ) (hR : d + 1 ≤ R.frames ∧ 8 + (n + 11) + 36 * d ≤ R.locals) (hsz : ls.size = nL) (hW : (rest.map fun v => v.category).sum ≤ 8) (hdg : decode cc pc = .ok (.invokestatic index, 3)) (hst0 : st = (As.reverse ++ rest))
    (kk : ∀ (H : Heap) (locs : List Loc), MS D cy ad A s.heap z τ H locs → W p l e R s m args below meth c H locs 0 0 Q (F0 m (pc + 3) ls (.int ra :: rest))) : W p l e R s m args below meth c H locs 0 0 Q (F0 m pc ls st) := by
  subst hst0
  refine va_calli (va_runSN (As := As) (rest := rest) hC hct ⟨va_cnB As.length hC.2.2.2.2 (WALL_code hcd) rfl rfl rfl (hG.2.1 _ hl) (hC.2.2.2.2 _ hini) hd hR, hC.2.2.2.2 _ hst, trivial⟩ ⟨Pr.blind, fun U hU hW => ⟨rfl, hM.pre hG U hU hW⟩⟩ rfl rfl hsz rfl (lv_room hW) hdg ⟨Nat.zero_le _, Nat.zero_le _⟩) hM.2.2.1 (fun q _ h => h) (fun q h => h) (fun r u t H1 locs1 ht hvm hw hB hz1 hk1 hS => ?_)
  obtain ⟨rfl, rfl⟩ := hw
  exact kk H1 locs1 (MS.post hB ht hS)
theorem callSN_L {own : String} {index nL n d : Nat} {y : MethodName} {cb : ByteArray} {ret : Option FieldType} {As : List Value} {ra : Int64} {τ : Mem} {st : List Value} {host : String} (hl : Cond.methodLinkNest own index y host ∈ NWL) (hst : Cond.static y ∈ WALL) (hini : Cond.initialized y.cls ∈ WALL) (hcd : Cond.code y cb n ret ∈ WALL) (hd : y.cls ≠ "java/lang/invoke/MethodHandle" ∧ y.cls ≠ "java/lang/invoke/VarHandle" ∧ (parseMethodDescriptor y.desc).map (fun d => d.parameters.length) = some As.length) (hC : CallFix p m c cc nL s args WALL own) (hG : GS D cy A s) (hM : MS D cy ad A s.heap z σ H locs) (hct : CtL l y cb n ret d As D cy ad A z σ ra τ) (hR : d + 1 ≤ R.frames ∧ 8 + (n + 11) + 36 * d ≤ R.locals) (hsz : ls.size = nL) (hW : (rest.map fun v => v.category).sum ≤ 8) (hdg : decode cc pc = .ok (.invokestatic index, 3)) (hst0 : st = (As.reverse ++ rest))
    (kk : ∀ (H : Heap) (locs : List Loc), MS D cy ad A s.heap z τ H locs → W p l e R s m args below meth c H locs 0 0 Q (F0 m (pc + 3) ls (.long ra :: rest))) : W p l e R s m args below meth c H locs 0 0 Q (F0 m pc ls st) := by
  subst hst0
  refine va_calll (va_runSN (As := As) (rest := rest) hC hct ⟨va_cnB As.length hC.2.2.2.2 (WALL_code hcd) rfl rfl rfl (hG.2.1 _ hl) (hC.2.2.2.2 _ hini) hd hR, hC.2.2.2.2 _ hst, trivial⟩ ⟨Pr.blind, fun U hU hW => ⟨rfl, hM.pre hG U hU hW⟩⟩ rfl rfl hsz rfl (lv_room hW) hdg ⟨Nat.zero_le _, Nat.zero_le _⟩) hM.2.2.1 (fun q _ h => h) (fun q h => h) (fun r u t H1 locs1 ht hvm hw hB hz1 hk1 hS => ?_)
  obtain ⟨rfl, rfl⟩ := hw
  exact kk H1 locs1 (MS.post hB ht hS)
theorem callSN_V {own : String} {index nL n d : Nat} {y : MethodName} {cb : ByteArray} {ret : Option FieldType} {As : List Value} {ra : Unit} {τ : Mem} {st : List Value} {host : String} (hl : Cond.methodLinkNest own index y host ∈ NWL) (hst : Cond.static y ∈ WALL) (hini : Cond.initialized y.cls ∈ WALL) (hcd : Cond.code y cb n ret ∈ WALL) (hd : y.cls ≠ "java/lang/invoke/MethodHandle" ∧ y.cls ≠ "java/lang/invoke/VarHandle" ∧ (parseMethodDescriptor y.desc).map (fun d => d.parameters.length) = some As.length) (hC : CallFix p m c cc nL s args WALL own) (hG : GS D cy A s) (hM : MS D cy ad A s.heap z σ H locs) (hct : CtV l y cb n ret d As D cy ad A z σ ra τ) (hR : d + 1 ≤ R.frames ∧ 8 + (n + 11) + 36 * d ≤ R.locals) (hsz : ls.size = nL) (hW : (rest.map fun v => v.category).sum ≤ 8) (hdg : decode cc pc = .ok (.invokestatic index, 3)) (hst0 : st = (As.reverse ++ rest))
    (kk : ∀ (H : Heap) (locs : List Loc), MS D cy ad A s.heap z τ H locs → W p l e R s m args below meth c H locs 0 0 Q (F0 m (pc + 3) ls (rest))) : W p l e R s m args below meth c H locs 0 0 Q (F0 m pc ls st) := by
  subst hst0
  refine va_callv (va_runSN (As := As) (rest := rest) hC hct ⟨va_cnB As.length hC.2.2.2.2 (WALL_code hcd) rfl rfl rfl (hG.2.1 _ hl) (hC.2.2.2.2 _ hini) hd hR, hC.2.2.2.2 _ hst, trivial⟩ ⟨Pr.blind, fun U hU hW => ⟨rfl, hM.pre hG U hU hW⟩⟩ rfl rfl hsz rfl (lv_room hW) hdg ⟨Nat.zero_le _, Nat.zero_le _⟩) hM.2.2.1 (fun q _ h => h) (fun q h => h) (fun u t H1 locs1 ht hvm hw hB hz1 hk1 hS => ?_)
  subst hw
  exact kk H1 locs1 (MS.post hB ht hS)
theorem callSN_R {own : String} {index nL n d : Nat} {y : MethodName} {cb : ByteArray} {ret : Option FieldType} {As : List Value} {ra : Option Nat} {τ : Mem} {st : List Value} {host : String} (hl : Cond.methodLinkNest own index y host ∈ NWL) (hst : Cond.static y ∈ WALL) (hini : Cond.initialized y.cls ∈ WALL) (hcd : Cond.code y cb n ret ∈ WALL) (hd : y.cls ≠ "java/lang/invoke/MethodHandle" ∧ y.cls ≠ "java/lang/invoke/VarHandle" ∧ (parseMethodDescriptor y.desc).map (fun d => d.parameters.length) = some As.length) (hC : CallFix p m c cc nL s args WALL own) (hG : GS D cy A s) (hM : MS D cy ad A s.heap z σ H locs) (hct : CtR l y cb n ret d As D cy ad A z σ ra τ) (hR : d + 1 ≤ R.frames ∧ 8 + (n + 11) + 36 * d ≤ R.locals) (hsz : ls.size = nL) (hW : (rest.map fun v => v.category).sum ≤ 8) (hdg : decode cc pc = .ok (.invokestatic index, 3)) (hst0 : st = (As.reverse ++ rest))
    (kk : ∀ (H : Heap) (locs : List Loc), MS D cy ad A s.heap z τ H locs → W p l e R s m args below meth c H locs 0 0 Q (F0 m (pc + 3) ls (va_rf (Option.map ad ra) :: rest))) : W p l e R s m args below meth c H locs 0 0 Q (F0 m pc ls st) := by
  subst hst0
  refine va_callq (va_runSN (As := As) (rest := rest) hC hct ⟨va_cnB As.length hC.2.2.2.2 (WALL_code hcd) rfl rfl rfl (hG.2.1 _ hl) (hC.2.2.2.2 _ hini) hd hR, hC.2.2.2.2 _ hst, trivial⟩ ⟨Pr.blind, fun U hU hW => ⟨rfl, hM.pre hG U hU hW⟩⟩ rfl rfl hsz rfl (lv_room hW) hdg ⟨Nat.zero_le _, Nat.zero_le _⟩) hM.2.2.1 (fun q _ h => h) (fun q h => h) (fun r u t H1 locs1 ht hvm hw hB hz1 hk1 hS => ?_)
  obtain ⟨rfl, rfl⟩ := hw
  exact kk H1 locs1 (MS.post hB ht hS)
end RC
section RE
variable {p : Program} {l : Launch} {e : Env} {R : Room} {s : State} {m : MethodId} {args : Array Value} {below : List Frame} {meth : Method} {c : Code}
variable {cc : ByteArray} {D : va_G} {cy : Nat → ClassId} {ad : Nat → Nat} {A : Nat → Prop} {z : Nat} {σ : Mem}
def KrI (p : Program) (l : Launch) (e : Env) (R : Room) (s : State) (m : MethodId) (args : Array Value) (below : List Frame) (meth : Method) (c : Code) (cc : ByteArray) (Q : State → Prop) (D : va_G) (cy : Nat → ClassId) (ad : Nat → Nat) (A : Nat → Prop) (z : Nat) (r : Int32) (σ' : Mem) : Prop :=
  ∀ (H : Heap) (locs : List Loc) (pc : Nat) (ls : Array Slot), decode cc pc = .ok (.ireturn, 1) → MS D cy ad A s.heap z σ' H locs → W p l e R s m args below meth c H locs 0 0 Q (F0 m pc ls [.int r])
def KrZ (p : Program) (l : Launch) (e : Env) (R : Room) (s : State) (m : MethodId) (args : Array Value) (below : List Frame) (meth : Method) (c : Code) (cc : ByteArray) (Q : State → Prop) (D : va_G) (cy : Nat → ClassId) (ad : Nat → Nat) (A : Nat → Prop) (z : Nat) (r : Int32) (σ' : Mem) : Prop :=
  ∀ (H : Heap) (locs : List Loc) (pc : Nat) (ls : Array Slot), decode cc pc = .ok (.ireturn, 1) → narrow .boolean (.int r) = .int r → MS D cy ad A s.heap z σ' H locs → W p l e R s m args below meth c H locs 0 0 Q (F0 m pc ls [.int r])
def KrL (p : Program) (l : Launch) (e : Env) (R : Room) (s : State) (m : MethodId) (args : Array Value) (below : List Frame) (meth : Method) (c : Code) (cc : ByteArray) (Q : State → Prop) (D : va_G) (cy : Nat → ClassId) (ad : Nat → Nat) (A : Nat → Prop) (z : Nat) (r : Int64) (σ' : Mem) : Prop :=
  ∀ (H : Heap) (locs : List Loc) (pc : Nat) (ls : Array Slot), decode cc pc = .ok (.lreturn, 1) → MS D cy ad A s.heap z σ' H locs → W p l e R s m args below meth c H locs 0 0 Q (F0 m pc ls [.long r])
def KrV (p : Program) (l : Launch) (e : Env) (R : Room) (s : State) (m : MethodId) (args : Array Value) (below : List Frame) (meth : Method) (c : Code) (cc : ByteArray) (Q : State → Prop) (D : va_G) (cy : Nat → ClassId) (ad : Nat → Nat) (A : Nat → Prop) (z : Nat) (r : Unit) (σ' : Mem) : Prop :=
  ∀ (H : Heap) (locs : List Loc) (pc : Nat) (ls : Array Slot), decode cc pc = .ok (.return_, 1) → MS D cy ad A s.heap z σ' H locs → W p l e R s m args below meth c H locs 0 0 Q (F0 m pc ls [])
def KrR (p : Program) (l : Launch) (e : Env) (R : Room) (s : State) (m : MethodId) (args : Array Value) (below : List Frame) (meth : Method) (c : Code) (cc : ByteArray) (Q : State → Prop) (D : va_G) (cy : Nat → ClassId) (ad : Nat → Nat) (A : Nat → Prop) (z : Nat) (r : Option Nat) (σ' : Mem) : Prop :=
  ∀ (H : Heap) (locs : List Loc) (pc : Nat) (ls : Array Slot), decode cc pc = .ok (.areturn, 1) → MS D cy ad A s.heap z σ' H locs → W p l e R s m args below meth c H locs 0 0 Q (F0 m pc ls [va_rf (Option.map ad r)])
theorem enterI {y : MethodName} {cb : ByteArray} {n d : Nat} {rt0 : Option FieldType} {own : String} {av : List Value} {r : Int32} {σ' : Mem} (hy : plainName y.cls = true) (ho : y.cls = own) (hn : (lg_sl av).length ≤ n) (hrt : rt0 = some .int)
    (body : ∀ (p : Program) (e : Env) (s : State) (m : MethodId) (below : List Frame) (meth : Method) (c : Code) (Q : State → Prop) (ls : Array Slot), CallFix p m c cb n s av.toArray WALL own → GS D cy A s → MS D cy ad A s.heap z σ s.heap [] → KrI p l e (rm d) s m av.toArray below meth c cb Q D cy ad A z r σ' → lv_has ls n (lv_args 0 av) → W p l e (rm d) s m av.toArray below meth c s.heap [] 0 0 Q (F0 m 0 ls [])) : CtI l y cb n rt0 d av D cy ad A z σ r σ' := by
  refine Met.ofW (cc := cb) (maxL := n) (ret := rt0) hy rfl ?_
  intro p e s m args below meth c s₁ B hml hv
  obtain ⟨rfl, hP, hD, hz, hG⟩ := hv
  have hx := B.exec
  have hb := B.bytes
  have hr := B.returns
  have hts := atoms_spec (ws := Cond.code y cb n rt0 :: WALL) B.pre
  have hown : s.vm.findClass own = some m.cls := by rw [← ho]; exact findClass_of_methodNamed B.named
  have hlocks := B.notSynchronized
  have hl := lv_entry av (n := n) hn
  rw [lg_entry_eq]
  refine body p e s m below meth c _ _ ⟨hx, hb, hml, hown, fun w hw => hts w (List.mem_cons_of_mem _ hw)⟩ hG ⟨hP, hD, va_S.rf, hz⟩ ?_ hl
  intro H locs pc ls hdg hM
  exact W.iret (v := r) hx hb (hr.trans hrt) (fun t ht hW => ⟨⟨r, σ', rfl, ⟨rfl, rfl⟩, by rw [ht]; exact hM.1, hM.2.1, by rw [ht]; exact hM.2.2.2⟩, hM.2.2.1.F ht⟩) hM.2.2.1.2.2 hdg hlocks
theorem enterZ {y : MethodName} {cb : ByteArray} {n d : Nat} {rt0 : Option FieldType} {own : String} {av : List Value} {r : Int32} {σ' : Mem} (hy : plainName y.cls = true) (ho : y.cls = own) (hn : (lg_sl av).length ≤ n) (hrt : rt0 = some .boolean)
    (body : ∀ (p : Program) (e : Env) (s : State) (m : MethodId) (below : List Frame) (meth : Method) (c : Code) (Q : State → Prop) (ls : Array Slot), CallFix p m c cb n s av.toArray WALL own → GS D cy A s → MS D cy ad A s.heap z σ s.heap [] → KrZ p l e (rm d) s m av.toArray below meth c cb Q D cy ad A z r σ' → lv_has ls n (lv_args 0 av) → W p l e (rm d) s m av.toArray below meth c s.heap [] 0 0 Q (F0 m 0 ls [])) : CtI l y cb n rt0 d av D cy ad A z σ r σ' := by
  refine Met.ofW (cc := cb) (maxL := n) (ret := rt0) hy rfl ?_
  intro p e s m args below meth c s₁ B hml hv
  obtain ⟨rfl, hP, hD, hz, hG⟩ := hv
  have hx := B.exec
  have hb := B.bytes
  have hr := B.returns
  have hts := atoms_spec (ws := Cond.code y cb n rt0 :: WALL) B.pre
  have hown : s.vm.findClass own = some m.cls := by rw [← ho]; exact findClass_of_methodNamed B.named
  have hlocks := B.notSynchronized
  have hl := lv_entry av (n := n) hn
  rw [lg_entry_eq]
  refine body p e s m below meth c _ _ ⟨hx, hb, hml, hown, fun w hw => hts w (List.mem_cons_of_mem _ hw)⟩ hG ⟨hP, hD, va_S.rf, hz⟩ ?_ hl
  intro H locs pc ls hdg hnr hM
  exact W.zret (v := r) (ty := .boolean) hx hb (hr.trans hrt) hnr (fun t ht hW => ⟨⟨r, σ', rfl, ⟨rfl, rfl⟩, by rw [ht]; exact hM.1, hM.2.1, by rw [ht]; exact hM.2.2.2⟩, hM.2.2.1.F ht⟩) hM.2.2.1.2.2 hdg hlocks
theorem enterL {y : MethodName} {cb : ByteArray} {n d : Nat} {rt0 : Option FieldType} {own : String} {av : List Value} {r : Int64} {σ' : Mem} (hy : plainName y.cls = true) (ho : y.cls = own) (hn : (lg_sl av).length ≤ n) (hrt : rt0 = some .long)
    (body : ∀ (p : Program) (e : Env) (s : State) (m : MethodId) (below : List Frame) (meth : Method) (c : Code) (Q : State → Prop) (ls : Array Slot), CallFix p m c cb n s av.toArray WALL own → GS D cy A s → MS D cy ad A s.heap z σ s.heap [] → KrL p l e (rm d) s m av.toArray below meth c cb Q D cy ad A z r σ' → lv_has ls n (lv_args 0 av) → W p l e (rm d) s m av.toArray below meth c s.heap [] 0 0 Q (F0 m 0 ls [])) : CtL l y cb n rt0 d av D cy ad A z σ r σ' := by
  refine Met.ofW (cc := cb) (maxL := n) (ret := rt0) hy rfl ?_
  intro p e s m args below meth c s₁ B hml hv
  obtain ⟨rfl, hP, hD, hz, hG⟩ := hv
  have hx := B.exec
  have hb := B.bytes
  have hr := B.returns
  have hts := atoms_spec (ws := Cond.code y cb n rt0 :: WALL) B.pre
  have hown : s.vm.findClass own = some m.cls := by rw [← ho]; exact findClass_of_methodNamed B.named
  have hlocks := B.notSynchronized
  have hl := lv_entry av (n := n) hn
  rw [lg_entry_eq]
  refine body p e s m below meth c _ _ ⟨hx, hb, hml, hown, fun w hw => hts w (List.mem_cons_of_mem _ hw)⟩ hG ⟨hP, hD, va_S.rf, hz⟩ ?_ hl
  intro H locs pc ls hdg hM
  exact W.lret (v := r) hx hb (hr.trans hrt) (fun t ht hW => ⟨⟨r, σ', rfl, ⟨rfl, rfl⟩, by rw [ht]; exact hM.1, hM.2.1, by rw [ht]; exact hM.2.2.2⟩, hM.2.2.1.F ht⟩) hM.2.2.1.2.2 hdg hlocks
theorem enterV {y : MethodName} {cb : ByteArray} {n d : Nat} {rt0 : Option FieldType} {own : String} {av : List Value} {r : Unit} {σ' : Mem} (hy : plainName y.cls = true) (ho : y.cls = own) (hn : (lg_sl av).length ≤ n) (hrt : rt0 = none)
    (body : ∀ (p : Program) (e : Env) (s : State) (m : MethodId) (below : List Frame) (meth : Method) (c : Code) (Q : State → Prop) (ls : Array Slot), CallFix p m c cb n s av.toArray WALL own → GS D cy A s → MS D cy ad A s.heap z σ s.heap [] → KrV p l e (rm d) s m av.toArray below meth c cb Q D cy ad A z r σ' → lv_has ls n (lv_args 0 av) → W p l e (rm d) s m av.toArray below meth c s.heap [] 0 0 Q (F0 m 0 ls [])) : CtV l y cb n rt0 d av D cy ad A z σ r σ' := by
  refine Met.ofW (cc := cb) (maxL := n) (ret := rt0) hy rfl ?_
  intro p e s m args below meth c s₁ B hml hv
  obtain ⟨rfl, hP, hD, hz, hG⟩ := hv
  have hx := B.exec
  have hb := B.bytes
  have hr := B.returns
  have hts := atoms_spec (ws := Cond.code y cb n rt0 :: WALL) B.pre
  have hown : s.vm.findClass own = some m.cls := by rw [← ho]; exact findClass_of_methodNamed B.named
  have hlocks := B.notSynchronized
  have hl := lv_entry av (n := n) hn
  rw [lg_entry_eq]
  refine body p e s m below meth c _ _ ⟨hx, hb, hml, hown, fun w hw => hts w (List.mem_cons_of_mem _ hw)⟩ hG ⟨hP, hD, va_S.rf, hz⟩ ?_ hl
  intro H locs pc ls hdg hM
  exact W.vret hx hb (hr.trans hrt) (fun t ht hW => ⟨⟨σ', rfl, rfl, by rw [ht]; exact hM.1, hM.2.1, by rw [ht]; exact hM.2.2.2⟩, hM.2.2.1.F ht⟩) hM.2.2.1.2.2 hdg hlocks
theorem enterR {y : MethodName} {cb : ByteArray} {n d : Nat} {rt0 : Option FieldType} {own : String} {av : List Value} {r : Option Nat} {σ' : Mem} (hy : plainName y.cls = true) (ho : y.cls = own) (hn : (lg_sl av).length ≤ n) {rtt : FieldType} (hrt : rt0 = some rtt) (hro : (∃ n, rtt = .object n) ∨ ∃ t, rtt = .array t)
    (body : ∀ (p : Program) (e : Env) (s : State) (m : MethodId) (below : List Frame) (meth : Method) (c : Code) (Q : State → Prop) (ls : Array Slot), CallFix p m c cb n s av.toArray WALL own → GS D cy A s → MS D cy ad A s.heap z σ s.heap [] → KrR p l e (rm d) s m av.toArray below meth c cb Q D cy ad A z r σ' → lv_has ls n (lv_args 0 av) → W p l e (rm d) s m av.toArray below meth c s.heap [] 0 0 Q (F0 m 0 ls [])) : CtR l y cb n rt0 d av D cy ad A z σ r σ' := by
  refine Met.ofW (cc := cb) (maxL := n) (ret := rt0) hy rfl ?_
  intro p e s m args below meth c s₁ B hml hv
  obtain ⟨rfl, hP, hD, hz, hG⟩ := hv
  have hx := B.exec
  have hb := B.bytes
  have hr := B.returns
  have hts := atoms_spec (ws := Cond.code y cb n rt0 :: WALL) B.pre
  have hown : s.vm.findClass own = some m.cls := by rw [← ho]; exact findClass_of_methodNamed B.named
  have hlocks := B.notSynchronized
  have hl := lv_entry av (n := n) hn
  rw [lg_entry_eq]
  refine body p e s m below meth c _ _ ⟨hx, hb, hml, hown, fun w hw => hts w (List.mem_cons_of_mem _ hw)⟩ hG ⟨hP, hD, va_S.rf, hz⟩ ?_ hl
  intro H locs pc ls hdg hM
  exact W.aret (v := va_rf (Option.map ad r)) (rt := rtt) hx hb (hr.trans hrt) hro (va_rf_or _) (fun t ht hW => ⟨⟨_, σ', rfl, ⟨rfl, rfl⟩, by rw [ht]; exact hM.1, hM.2.1, by rw [ht]; exact hM.2.2.2⟩, hM.2.2.1.F ht⟩) hM.2.2.1.2.2 hdg hlocks
end RE
theorem nar01 {r : Int32} (h : r = 0 ∨ r = 1) : narrow .boolean (.int r) = .int r := by rcases h with rfl | rfl <;> rfl
theorem nr_obj (C : String) (r : Option Nat) : narrow (.object C) (va_rf r) = va_rf r ∧ fits (.object C) (va_rf r) = true := by cases r <;> exact ⟨rfl, rfl⟩
theorem nr_arr (t : FieldType) (r : Option Nat) : narrow (.array t) (va_rf r) = va_rf r ∧ fits (.array t) (va_rf r) = true := by cases r <;> exact ⟨rfl, rfl⟩
end
section
theorem inT0 : ∀ w ∈ wsX00, w ∈ lw_tbl := by decide +kernel
theorem inG0 : ∀ w ∈ wsX00, goodWord w = true := by decide +kernel
theorem inW0 : ∀ w ∈ wsX00, w ∈ WALL := fun w h => WALL_of (inT0 w h) (inG0 w h)
theorem inT1 : ∀ w ∈ wsX10, w ∈ lw_tbl := by decide +kernel
theorem inG1 : ∀ w ∈ wsX10, goodWord w = true := by decide +kernel
theorem inW1 : ∀ w ∈ wsX10, w ∈ WALL := fun w h => WALL_of (inT1 w h) (inG1 w h)
theorem inT2 : ∀ w ∈ wsX20, w ∈ lw_tbl := by decide +kernel
theorem inG2 : ∀ w ∈ wsX20, goodWord w = true := by decide +kernel
theorem inW2 : ∀ w ∈ wsX20, w ∈ WALL := fun w h => WALL_of (inT2 w h) (inG2 w h)
theorem inT3 : ∀ w ∈ wsX30, w ∈ lw_tbl := by decide +kernel
theorem inG3 : ∀ w ∈ wsX30, goodWord w = true := by decide +kernel
theorem inW3 : ∀ w ∈ wsX30, w ∈ WALL := fun w h => WALL_of (inT3 w h) (inG3 w h)
theorem inT4 : ∀ w ∈ wsX40, w ∈ lw_tbl := by decide +kernel
theorem inG4 : ∀ w ∈ wsX40, goodWord w = true := by decide +kernel
theorem inW4 : ∀ w ∈ wsX40, w ∈ WALL := fun w h => WALL_of (inT4 w h) (inG4 w h)
theorem inT5 : ∀ w ∈ wsX50, w ∈ lw_tbl := by decide +kernel
theorem inG5 : ∀ w ∈ wsX50, goodWord w = true := by decide +kernel
theorem inW5 : ∀ w ∈ wsX50, w ∈ WALL := fun w h => WALL_of (inT5 w h) (inG5 w h)
theorem inT6 : ∀ w ∈ wsX60, w ∈ lw_tbl := by decide +kernel
theorem inG6 : ∀ w ∈ wsX60, goodWord w = true := by decide +kernel
theorem inW6 : ∀ w ∈ wsX60, w ∈ WALL := fun w h => WALL_of (inT6 w h) (inG6 w h)
theorem inT7 : ∀ w ∈ wsX70, w ∈ lw_tbl := by decide +kernel
theorem inG7 : ∀ w ∈ wsX70, goodWord w = true := by decide +kernel
theorem inW7 : ∀ w ∈ wsX70, w ∈ WALL := fun w h => WALL_of (inT7 w h) (inG7 w h)
theorem inT8 : ∀ w ∈ wsX80, w ∈ lw_tbl := by decide +kernel
theorem inG8 : ∀ w ∈ wsX80, goodWord w = true := by decide +kernel
theorem inW8 : ∀ w ∈ wsX80, w ∈ WALL := fun w h => WALL_of (inT8 w h) (inG8 w h)
theorem inT9 : ∀ w ∈ wsX90, w ∈ lw_tbl := by decide +kernel
theorem inG9 : ∀ w ∈ wsX90, goodWord w = true := by decide +kernel
theorem inW9 : ∀ w ∈ wsX90, w ∈ WALL := fun w h => WALL_of (inT9 w h) (inG9 w h)
theorem hd_X0_addStep : yX0_addStep.cls ≠ "java/lang/invoke/MethodHandle" ∧ yX0_addStep.cls ≠ "java/lang/invoke/VarHandle" ∧ (parseMethodDescriptor yX0_addStep.desc).map (fun d => d.parameters.length) = some 1 := by decide +kernel
theorem wc_X0_addStep : Cond.code yX0_addStep cX0_addStep 2 none ∈ WALL := WALL_of (List.mem_of_getElem? (i := 480) (by decide +kernel)) (by decide +kernel)
theorem wi_X0_addStep : Cond.instanceMethod yX0_addStep ∈ WALL := WALL_of (List.mem_of_getElem? (i := 479) (by decide +kernel)) (by decide +kernel)
theorem ws_X0_addStep : Cond.selects RX0 yX0_addStep yX0_addStep ∈ WALL := WALL_of (List.mem_of_getElem? (i := 23) (by decide +kernel)) (by decide +kernel)
theorem hd_X0_centsFor : yX0_centsFor.cls ≠ "java/lang/invoke/MethodHandle" ∧ yX0_centsFor.cls ≠ "java/lang/invoke/VarHandle" ∧ (parseMethodDescriptor yX0_centsFor.desc).map (fun d => d.parameters.length) = some 1 := by decide +kernel
theorem wc_X0_centsFor : Cond.code yX0_centsFor cX0_centsFor 8 (some .long) ∈ WALL := WALL_of (List.mem_of_getElem? (i := 570) (by decide +kernel)) (by decide +kernel)
theorem wi_X0_centsFor : Cond.instanceMethod yX0_centsFor ∈ WALL := WALL_of (List.mem_of_getElem? (i := 569) (by decide +kernel)) (by decide +kernel)
theorem ws_X0_centsFor : Cond.selects RX0 yX0_centsFor yX0_centsFor ∈ WALL := WALL_of (List.mem_of_getElem? (i := 33) (by decide +kernel)) (by decide +kernel)
theorem hd_X0_clear : yX0_clear.cls ≠ "java/lang/invoke/MethodHandle" ∧ yX0_clear.cls ≠ "java/lang/invoke/VarHandle" ∧ (parseMethodDescriptor yX0_clear.desc).map (fun d => d.parameters.length) = some 0 := by decide +kernel
theorem wc_X0_clear : Cond.code yX0_clear cX0_clear 1 none ∈ WALL := WALL_of (List.mem_of_getElem? (i := 472) (by decide +kernel)) (by decide +kernel)
theorem wi_X0_clear : Cond.instanceMethod yX0_clear ∈ WALL := WALL_of (List.mem_of_getElem? (i := 471) (by decide +kernel)) (by decide +kernel)
theorem ws_X0_clear : Cond.selects RX0 yX0_clear yX0_clear ∈ WALL := WALL_of (List.mem_of_getElem? (i := 21) (by decide +kernel)) (by decide +kernel)
theorem hd_X0_corner : yX0_corner.cls ≠ "java/lang/invoke/MethodHandle" ∧ yX0_corner.cls ≠ "java/lang/invoke/VarHandle" ∧ (parseMethodDescriptor yX0_corner.desc).map (fun d => d.parameters.length) = some 1 := by decide +kernel
theorem wc_X0_corner : Cond.code yX0_corner cX0_corner 2 (some .int) ∈ WALL := WALL_of (List.mem_of_getElem? (i := 776) (by decide +kernel)) (by decide +kernel)
theorem wi_X0_corner : Cond.instanceMethod yX0_corner ∈ WALL := WALL_of (List.mem_of_getElem? (i := 775) (by decide +kernel)) (by decide +kernel)
theorem ws_X0_corner : Cond.selects RX0 yX0_corner yX0_corner ∈ WALL := WALL_of (List.mem_of_getElem? (i := 49) (by decide +kernel)) (by decide +kernel)
theorem hd_X0_lastEnd : yX0_lastEnd.cls ≠ "java/lang/invoke/MethodHandle" ∧ yX0_lastEnd.cls ≠ "java/lang/invoke/VarHandle" ∧ (parseMethodDescriptor yX0_lastEnd.desc).map (fun d => d.parameters.length) = some 0 := by decide +kernel
theorem wc_X0_lastEnd : Cond.code yX0_lastEnd cX0_lastEnd 1 (some .int) ∈ WALL := WALL_of (List.mem_of_getElem? (i := 451) (by decide +kernel)) (by decide +kernel)
theorem wi_X0_lastEnd : Cond.instanceMethod yX0_lastEnd ∈ WALL := WALL_of (List.mem_of_getElem? (i := 450) (by decide +kernel)) (by decide +kernel)
theorem ws_X0_lastEnd : Cond.selects RX0 yX0_lastEnd yX0_lastEnd ∈ WALL := WALL_of (List.mem_of_getElem? (i := 17) (by decide +kernel)) (by decide +kernel)
theorem hd_X0_priceLastStep : yX0_priceLastStep.cls ≠ "java/lang/invoke/MethodHandle" ∧ yX0_priceLastStep.cls ≠ "java/lang/invoke/VarHandle" ∧ (parseMethodDescriptor yX0_priceLastStep.desc).map (fun d => d.parameters.length) = some 1 := by decide +kernel
theorem wc_X0_priceLastStep : Cond.code yX0_priceLastStep cX0_priceLastStep 2 none ∈ WALL := WALL_of (List.mem_of_getElem? (i := 484) (by decide +kernel)) (by decide +kernel)
theorem wi_X0_priceLastStep : Cond.instanceMethod yX0_priceLastStep ∈ WALL := WALL_of (List.mem_of_getElem? (i := 483) (by decide +kernel)) (by decide +kernel)
theorem ws_X0_priceLastStep : Cond.selects RX0 yX0_priceLastStep yX0_priceLastStep ∈ WALL := WALL_of (List.mem_of_getElem? (i := 24) (by decide +kernel)) (by decide +kernel)
theorem hd_X1_fillLeast : yX1_fillLeast.cls ≠ "java/lang/invoke/MethodHandle" ∧ yX1_fillLeast.cls ≠ "java/lang/invoke/VarHandle" ∧ (parseMethodDescriptor yX1_fillLeast.desc).map (fun d => d.parameters.length) = some 1 := by decide +kernel
theorem wc_X1_fillLeast : Cond.code yX1_fillLeast cX1_fillLeast 8 none ∈ WALL := WALL_of (List.mem_of_getElem? (i := 631) (by decide +kernel)) (by decide +kernel)
theorem wi_X1_fillLeast : Cond.instanceMethod yX1_fillLeast ∈ WALL := WALL_of (List.mem_of_getElem? (i := 630) (by decide +kernel)) (by decide +kernel)
theorem ws_X1_fillLeast : Cond.selects RX1 yX1_fillLeast yX1_fillLeast ∈ WALL := WALL_of (List.mem_of_getElem? (i := 44) (by decide +kernel)) (by decide +kernel)
theorem hd_X1_forget : yX1_forget.cls ≠ "java/lang/invoke/MethodHandle" ∧ yX1_forget.cls ≠ "java/lang/invoke/VarHandle" ∧ (parseMethodDescriptor yX1_forget.desc).map (fun d => d.parameters.length) = some 0 := by decide +kernel
theorem wc_X1_forget : Cond.code yX1_forget cX1_forget 2 none ∈ WALL := WALL_of (List.mem_of_getElem? (i := 307) (by decide +kernel)) (by decide +kernel)
theorem wi_X1_forget : Cond.instanceMethod yX1_forget ∈ WALL := WALL_of (List.mem_of_getElem? (i := 306) (by decide +kernel)) (by decide +kernel)
theorem ws_X1_forget : Cond.selects RX1 yX1_forget yX1_forget ∈ WALL := WALL_of (List.mem_of_getElem? (i := 1) (by decide +kernel)) (by decide +kernel)
theorem hd_X1_part : yX1_part.cls ≠ "java/lang/invoke/MethodHandle" ∧ yX1_part.cls ≠ "java/lang/invoke/VarHandle" ∧ (parseMethodDescriptor yX1_part.desc).map (fun d => d.parameters.length) = some 0 := by decide +kernel
theorem wc_X1_part : Cond.code yX1_part cX1_part 2 (some .long) ∈ WALL := WALL_of (List.mem_of_getElem? (i := 627) (by decide +kernel)) (by decide +kernel)
theorem wi_X1_part : Cond.instanceMethod yX1_part ∈ WALL := WALL_of (List.mem_of_getElem? (i := 626) (by decide +kernel)) (by decide +kernel)
theorem ws_X1_part : Cond.selects RX1 yX1_part yX1_part ∈ WALL := WALL_of (List.mem_of_getElem? (i := 43) (by decide +kernel)) (by decide +kernel)
theorem hd_X1_tellBest : yX1_tellBest.cls ≠ "java/lang/invoke/MethodHandle" ∧ yX1_tellBest.cls ≠ "java/lang/invoke/VarHandle" ∧ (parseMethodDescriptor yX1_tellBest.desc).map (fun d => d.parameters.length) = some 2 := by decide +kernel
theorem wc_X1_tellBest : Cond.code yX1_tellBest cX1_tellBest 4 none ∈ WALL := WALL_of (List.mem_of_getElem? (i := 622) (by decide +kernel)) (by decide +kernel)
theorem wi_X1_tellBest : Cond.instanceMethod yX1_tellBest ∈ WALL := WALL_of (List.mem_of_getElem? (i := 621) (by decide +kernel)) (by decide +kernel)
theorem ws_X1_tellBest : Cond.selects RX1 yX1_tellBest yX1_tellBest ∈ WALL := WALL_of (List.mem_of_getElem? (i := 42) (by decide +kernel)) (by decide +kernel)
theorem hd_X1_writeGroups : yX1_writeGroups.cls ≠ "java/lang/invoke/MethodHandle" ∧ yX1_writeGroups.cls ≠ "java/lang/invoke/VarHandle" ∧ (parseMethodDescriptor yX1_writeGroups.desc).map (fun d => d.parameters.length) = some 0 := by decide +kernel
theorem wc_X1_writeGroups : Cond.code yX1_writeGroups cX1_writeGroups 5 none ∈ WALL := WALL_of (List.mem_of_getElem? (i := 638) (by decide +kernel)) (by decide +kernel)
theorem wi_X1_writeGroups : Cond.instanceMethod yX1_writeGroups ∈ WALL := WALL_of (List.mem_of_getElem? (i := 637) (by decide +kernel)) (by decide +kernel)
theorem ws_X1_writeGroups : Cond.selects RX1 yX1_writeGroups yX1_writeGroups ∈ WALL := WALL_of (List.mem_of_getElem? (i := 45) (by decide +kernel)) (by decide +kernel)
theorem hd_X2_addPart : yX2_addPart.cls ≠ "java/lang/invoke/MethodHandle" ∧ yX2_addPart.cls ≠ "java/lang/invoke/VarHandle" ∧ (parseMethodDescriptor yX2_addPart.desc).map (fun d => d.parameters.length) = some 1 := by decide +kernel
theorem wc_X2_addPart : Cond.code yX2_addPart cX2_addPart 3 (some (.object "TariffDesk$Part")) ∈ WALL := WALL_of (List.mem_of_getElem? (i := 468) (by decide +kernel)) (by decide +kernel)
theorem wi_X2_addPart : Cond.instanceMethod yX2_addPart ∈ WALL := WALL_of (List.mem_of_getElem? (i := 467) (by decide +kernel)) (by decide +kernel)
theorem ws_X2_addPart : Cond.selects RX2 yX2_addPart yX2_addPart ∈ WALL := WALL_of (List.mem_of_getElem? (i := 20) (by decide +kernel)) (by decide +kernel)
theorem hd_X2_clear : yX2_clear.cls ≠ "java/lang/invoke/MethodHandle" ∧ yX2_clear.cls ≠ "java/lang/invoke/VarHandle" ∧ (parseMethodDescriptor yX2_clear.desc).map (fun d => d.parameters.length) = some 0 := by decide +kernel
theorem wc_X2_clear : Cond.code yX2_clear cX2_clear 1 none ∈ WALL := WALL_of (List.mem_of_getElem? (i := 163) (by decide +kernel)) (by decide +kernel)
theorem wi_X2_clear : Cond.instanceMethod yX2_clear ∈ WALL := WALL_of (List.mem_of_getElem? (i := 162) (by decide +kernel)) (by decide +kernel)
theorem ws_X2_clear : Cond.selects RX2 yX2_clear yX2_clear ∈ WALL := WALL_of (List.mem_of_getElem? (i := 0) (by decide +kernel)) (by decide +kernel)
theorem hd_X2_mayBeginIn : yX2_mayBeginIn.cls ≠ "java/lang/invoke/MethodHandle" ∧ yX2_mayBeginIn.cls ≠ "java/lang/invoke/VarHandle" ∧ (parseMethodDescriptor yX2_mayBeginIn.desc).map (fun d => d.parameters.length) = some 1 := by decide +kernel
theorem wc_X2_mayBeginIn : Cond.code yX2_mayBeginIn cX2_mayBeginIn 2 (some .boolean) ∈ WALL := WALL_of (List.mem_of_getElem? (i := 580) (by decide +kernel)) (by decide +kernel)
theorem wi_X2_mayBeginIn : Cond.instanceMethod yX2_mayBeginIn ∈ WALL := WALL_of (List.mem_of_getElem? (i := 579) (by decide +kernel)) (by decide +kernel)
theorem ws_X2_mayBeginIn : Cond.selects RX2 yX2_mayBeginIn yX2_mayBeginIn ∈ WALL := WALL_of (List.mem_of_getElem? (i := 35) (by decide +kernel)) (by decide +kernel)
theorem hd_X2_monthCents : yX2_monthCents.cls ≠ "java/lang/invoke/MethodHandle" ∧ yX2_monthCents.cls ≠ "java/lang/invoke/VarHandle" ∧ (parseMethodDescriptor yX2_monthCents.desc).map (fun d => d.parameters.length) = some 1 := by decide +kernel
theorem wc_X2_monthCents : Cond.code yX2_monthCents cX2_monthCents 5 (some .long) ∈ WALL := WALL_of (List.mem_of_getElem? (i := 560) (by decide +kernel)) (by decide +kernel)
theorem wi_X2_monthCents : Cond.instanceMethod yX2_monthCents ∈ WALL := WALL_of (List.mem_of_getElem? (i := 559) (by decide +kernel)) (by decide +kernel)
theorem ws_X2_monthCents : Cond.selects RX2 yX2_monthCents yX2_monthCents ∈ WALL := WALL_of (List.mem_of_getElem? (i := 31) (by decide +kernel)) (by decide +kernel)
theorem hd_X2_partCents : yX2_partCents.cls ≠ "java/lang/invoke/MethodHandle" ∧ yX2_partCents.cls ≠ "java/lang/invoke/VarHandle" ∧ (parseMethodDescriptor yX2_partCents.desc).map (fun d => d.parameters.length) = some 2 := by decide +kernel
theorem wc_X2_partCents : Cond.code yX2_partCents cX2_partCents 4 (some .long) ∈ WALL := WALL_of (List.mem_of_getElem? (i := 566) (by decide +kernel)) (by decide +kernel)
theorem wi_X2_partCents : Cond.instanceMethod yX2_partCents ∈ WALL := WALL_of (List.mem_of_getElem? (i := 565) (by decide +kernel)) (by decide +kernel)
theorem ws_X2_partCents : Cond.selects RX2 yX2_partCents yX2_partCents ∈ WALL := WALL_of (List.mem_of_getElem? (i := 32) (by decide +kernel)) (by decide +kernel)
theorem hd_X2_partFor : yX2_partFor.cls ≠ "java/lang/invoke/MethodHandle" ∧ yX2_partFor.cls ≠ "java/lang/invoke/VarHandle" ∧ (parseMethodDescriptor yX2_partFor.desc).map (fun d => d.parameters.length) = some 1 := by decide +kernel
theorem wc_X2_partFor : Cond.code yX2_partFor cX2_partFor 2 (some (.object "TariffDesk$Part")) ∈ WALL := WALL_of (List.mem_of_getElem? (i := 459) (by decide +kernel)) (by decide +kernel)
theorem wi_X2_partFor : Cond.instanceMethod yX2_partFor ∈ WALL := WALL_of (List.mem_of_getElem? (i := 458) (by decide +kernel)) (by decide +kernel)
theorem ws_X2_partFor : Cond.selects RX2 yX2_partFor yX2_partFor ∈ WALL := WALL_of (List.mem_of_getElem? (i := 18) (by decide +kernel)) (by decide +kernel)
theorem hd_X3_at : yX3_at.cls ≠ "java/lang/invoke/MethodHandle" ∧ yX3_at.cls ≠ "java/lang/invoke/VarHandle" ∧ (parseMethodDescriptor yX3_at.desc).map (fun d => d.parameters.length) = some 1 := by decide +kernel
theorem wc_X3_at : Cond.code yX3_at cX3_at 2 (some (.object "TariffDesk$Plan")) ∈ WALL := WALL_of (List.mem_of_getElem? (i := 439) (by decide +kernel)) (by decide +kernel)
theorem wi_X3_at : Cond.instanceMethod yX3_at ∈ WALL := WALL_of (List.mem_of_getElem? (i := 438) (by decide +kernel)) (by decide +kernel)
theorem ws_X3_at : Cond.selects RX3 yX3_at yX3_at ∈ WALL := WALL_of (List.mem_of_getElem? (i := 14) (by decide +kernel)) (by decide +kernel)
theorem hd_X3_hasName : yX3_hasName.cls ≠ "java/lang/invoke/MethodHandle" ∧ yX3_hasName.cls ≠ "java/lang/invoke/VarHandle" ∧ (parseMethodDescriptor yX3_hasName.desc).map (fun d => d.parameters.length) = some 1 := by decide +kernel
theorem wc_X3_hasName : Cond.code yX3_hasName cX3_hasName 5 (some .boolean) ∈ WALL := WALL_of (List.mem_of_getElem? (i := 435) (by decide +kernel)) (by decide +kernel)
theorem wi_X3_hasName : Cond.instanceMethod yX3_hasName ∈ WALL := WALL_of (List.mem_of_getElem? (i := 434) (by decide +kernel)) (by decide +kernel)
theorem ws_X3_hasName : Cond.selects RX3 yX3_hasName yX3_hasName ∈ WALL := WALL_of (List.mem_of_getElem? (i := 13) (by decide +kernel)) (by decide +kernel)
theorem hd_X3_nextPlan : yX3_nextPlan.cls ≠ "java/lang/invoke/MethodHandle" ∧ yX3_nextPlan.cls ≠ "java/lang/invoke/VarHandle" ∧ (parseMethodDescriptor yX3_nextPlan.desc).map (fun d => d.parameters.length) = some 0 := by decide +kernel
theorem wc_X3_nextPlan : Cond.code yX3_nextPlan cX3_nextPlan 2 (some (.object "TariffDesk$Plan")) ∈ WALL := WALL_of (List.mem_of_getElem? (i := 426) (by decide +kernel)) (by decide +kernel)
theorem wi_X3_nextPlan : Cond.instanceMethod yX3_nextPlan ∈ WALL := WALL_of (List.mem_of_getElem? (i := 425) (by decide +kernel)) (by decide +kernel)
theorem ws_X3_nextPlan : Cond.selects RX3 yX3_nextPlan yX3_nextPlan ∈ WALL := WALL_of (List.mem_of_getElem? (i := 11) (by decide +kernel)) (by decide +kernel)
theorem hd_X4_exchange : yX4_exchange.cls ≠ "java/lang/invoke/MethodHandle" ∧ yX4_exchange.cls ≠ "java/lang/invoke/VarHandle" ∧ (parseMethodDescriptor yX4_exchange.desc).map (fun d => d.parameters.length) = some 1 := by decide +kernel
theorem wc_X4_exchange : Cond.code yX4_exchange cX4_exchange 3 (some (.object "TariffDesk$PlanBook")) ∈ WALL := WALL_of (List.mem_of_getElem? (i := 488) (by decide +kernel)) (by decide +kernel)
theorem wi_X4_exchange : Cond.instanceMethod yX4_exchange ∈ WALL := WALL_of (List.mem_of_getElem? (i := 487) (by decide +kernel)) (by decide +kernel)
theorem ws_X4_exchange : Cond.selects RX4 yX4_exchange yX4_exchange ∈ WALL := WALL_of (List.mem_of_getElem? (i := 25) (by decide +kernel)) (by decide +kernel)
theorem hd_X4_greatestBehind : yX4_greatestBehind.cls ≠ "java/lang/invoke/MethodHandle" ∧ yX4_greatestBehind.cls ≠ "java/lang/invoke/VarHandle" ∧ (parseMethodDescriptor yX4_greatestBehind.desc).map (fun d => d.parameters.length) = some 1 := by decide +kernel
theorem wc_X4_greatestBehind : Cond.code yX4_greatestBehind cX4_greatestBehind 1 (some .int) ∈ WALL := WALL_of (List.mem_of_getElem? (i := 454) (by decide +kernel)) (by decide +kernel)
theorem wt_X4_greatestBehind : Cond.static yX4_greatestBehind ∈ WALL := WALL_of (List.mem_of_getElem? (i := 453) (by decide +kernel)) (by decide +kernel)
theorem hd_X4_isBlank : yX4_isBlank.cls ≠ "java/lang/invoke/MethodHandle" ∧ yX4_isBlank.cls ≠ "java/lang/invoke/VarHandle" ∧ (parseMethodDescriptor yX4_isBlank.desc).map (fun d => d.parameters.length) = some 1 := by decide +kernel
theorem wc_X4_isBlank : Cond.code yX4_isBlank cX4_isBlank 1 (some .boolean) ∈ WALL := WALL_of (List.mem_of_getElem? (i := 395) (by decide +kernel)) (by decide +kernel)
theorem wt_X4_isBlank : Cond.static yX4_isBlank ∈ WALL := WALL_of (List.mem_of_getElem? (i := 394) (by decide +kernel)) (by decide +kernel)
theorem hd_X4_leastBehind : yX4_leastBehind.cls ≠ "java/lang/invoke/MethodHandle" ∧ yX4_leastBehind.cls ≠ "java/lang/invoke/VarHandle" ∧ (parseMethodDescriptor yX4_leastBehind.desc).map (fun d => d.parameters.length) = some 1 := by decide +kernel
theorem wc_X4_leastBehind : Cond.code yX4_leastBehind cX4_leastBehind 2 (some .int) ∈ WALL := WALL_of (List.mem_of_getElem? (i := 447) (by decide +kernel)) (by decide +kernel)
theorem wi_X4_leastBehind : Cond.instanceMethod yX4_leastBehind ∈ WALL := WALL_of (List.mem_of_getElem? (i := 446) (by decide +kernel)) (by decide +kernel)
theorem ws_X4_leastBehind : Cond.selects RX4 yX4_leastBehind yX4_leastBehind ∈ WALL := WALL_of (List.mem_of_getElem? (i := 16) (by decide +kernel)) (by decide +kernel)
theorem hd_X4_mayFollow : yX4_mayFollow.cls ≠ "java/lang/invoke/MethodHandle" ∧ yX4_mayFollow.cls ≠ "java/lang/invoke/VarHandle" ∧ (parseMethodDescriptor yX4_mayFollow.desc).map (fun d => d.parameters.length) = some 1 := by decide +kernel
theorem wc_X4_mayFollow : Cond.code yX4_mayFollow cX4_mayFollow 2 (some .boolean) ∈ WALL := WALL_of (List.mem_of_getElem? (i := 414) (by decide +kernel)) (by decide +kernel)
theorem wi_X4_mayFollow : Cond.instanceMethod yX4_mayFollow ∈ WALL := WALL_of (List.mem_of_getElem? (i := 413) (by decide +kernel)) (by decide +kernel)
theorem ws_X4_mayFollow : Cond.selects RX4 yX4_mayFollow yX4_mayFollow ∈ WALL := WALL_of (List.mem_of_getElem? (i := 8) (by decide +kernel)) (by decide +kernel)
theorem hd_X4_putInPart : yX4_putInPart.cls ≠ "java/lang/invoke/MethodHandle" ∧ yX4_putInPart.cls ≠ "java/lang/invoke/VarHandle" ∧ (parseMethodDescriptor yX4_putInPart.desc).map (fun d => d.parameters.length) = some 1 := by decide +kernel
theorem wc_X4_putInPart : Cond.code yX4_putInPart cX4_putInPart 2 none ∈ WALL := WALL_of (List.mem_of_getElem? (i := 476) (by decide +kernel)) (by decide +kernel)
theorem wi_X4_putInPart : Cond.instanceMethod yX4_putInPart ∈ WALL := WALL_of (List.mem_of_getElem? (i := 475) (by decide +kernel)) (by decide +kernel)
theorem ws_X4_putInPart : Cond.selects RX4 yX4_putInPart yX4_putInPart ∈ WALL := WALL_of (List.mem_of_getElem? (i := 22) (by decide +kernel)) (by decide +kernel)
theorem hd_X4_putInPlan : yX4_putInPlan.cls ≠ "java/lang/invoke/MethodHandle" ∧ yX4_putInPlan.cls ≠ "java/lang/invoke/VarHandle" ∧ (parseMethodDescriptor yX4_putInPlan.desc).map (fun d => d.parameters.length) = some 1 := by decide +kernel
theorem wc_X4_putInPlan : Cond.code yX4_putInPlan cX4_putInPlan 2 none ∈ WALL := WALL_of (List.mem_of_getElem? (i := 464) (by decide +kernel)) (by decide +kernel)
theorem wi_X4_putInPlan : Cond.instanceMethod yX4_putInPlan ∈ WALL := WALL_of (List.mem_of_getElem? (i := 463) (by decide +kernel)) (by decide +kernel)
theorem ws_X4_putInPlan : Cond.selects RX4 yX4_putInPlan yX4_putInPlan ∈ WALL := WALL_of (List.mem_of_getElem? (i := 19) (by decide +kernel)) (by decide +kernel)
theorem hd_X4_readName : yX4_readName.cls ≠ "java/lang/invoke/MethodHandle" ∧ yX4_readName.cls ≠ "java/lang/invoke/VarHandle" ∧ (parseMethodDescriptor yX4_readName.desc).map (fun d => d.parameters.length) = some 0 := by decide +kernel
theorem wc_X4_readName : Cond.code yX4_readName cX4_readName 1 (some .boolean) ∈ WALL := WALL_of (List.mem_of_getElem? (i := 431) (by decide +kernel)) (by decide +kernel)
theorem wi_X4_readName : Cond.instanceMethod yX4_readName ∈ WALL := WALL_of (List.mem_of_getElem? (i := 430) (by decide +kernel)) (by decide +kernel)
theorem ws_X4_readName : Cond.selects RX4 yX4_readName yX4_readName ∈ WALL := WALL_of (List.mem_of_getElem? (i := 12) (by decide +kernel)) (by decide +kernel)
theorem hd_X4_readNumber : yX4_readNumber.cls ≠ "java/lang/invoke/MethodHandle" ∧ yX4_readNumber.cls ≠ "java/lang/invoke/VarHandle" ∧ (parseMethodDescriptor yX4_readNumber.desc).map (fun d => d.parameters.length) = some 1 := by decide +kernel
theorem wc_X4_readNumber : Cond.code yX4_readNumber cX4_readNumber 2 (some .boolean) ∈ WALL := WALL_of (List.mem_of_getElem? (i := 443) (by decide +kernel)) (by decide +kernel)
theorem wi_X4_readNumber : Cond.instanceMethod yX4_readNumber ∈ WALL := WALL_of (List.mem_of_getElem? (i := 442) (by decide +kernel)) (by decide +kernel)
theorem ws_X4_readNumber : Cond.selects RX4 yX4_readNumber yX4_readNumber ∈ WALL := WALL_of (List.mem_of_getElem? (i := 15) (by decide +kernel)) (by decide +kernel)
theorem hd_X4_readPair : yX4_readPair.cls ≠ "java/lang/invoke/MethodHandle" ∧ yX4_readPair.cls ≠ "java/lang/invoke/VarHandle" ∧ (parseMethodDescriptor yX4_readPair.desc).map (fun d => d.parameters.length) = some 0 := by decide +kernel
theorem wc_X4_readPair : Cond.code yX4_readPair cX4_readPair 1 (some .boolean) ∈ WALL := WALL_of (List.mem_of_getElem? (i := 422) (by decide +kernel)) (by decide +kernel)
theorem wi_X4_readPair : Cond.instanceMethod yX4_readPair ∈ WALL := WALL_of (List.mem_of_getElem? (i := 421) (by decide +kernel)) (by decide +kernel)
theorem ws_X4_readPair : Cond.selects RX4 yX4_readPair yX4_readPair ∈ WALL := WALL_of (List.mem_of_getElem? (i := 10) (by decide +kernel)) (by decide +kernel)
theorem hd_X4_readText : yX4_readText.cls ≠ "java/lang/invoke/MethodHandle" ∧ yX4_readText.cls ≠ "java/lang/invoke/VarHandle" ∧ (parseMethodDescriptor yX4_readText.desc).map (fun d => d.parameters.length) = some 0 := by decide +kernel
theorem wc_X4_readText : Cond.code yX4_readText cX4_readText 3 (some .boolean) ∈ WALL := WALL_of (List.mem_of_getElem? (i := 384) (by decide +kernel)) (by decide +kernel)
theorem wi_X4_readText : Cond.instanceMethod yX4_readText ∈ WALL := WALL_of (List.mem_of_getElem? (i := 383) (by decide +kernel)) (by decide +kernel)
theorem ws_X4_readText : Cond.selects RX4 yX4_readText yX4_readText ∈ WALL := WALL_of (List.mem_of_getElem? (i := 4) (by decide +kernel)) (by decide +kernel)
theorem hd_X4_refuse : yX4_refuse.cls ≠ "java/lang/invoke/MethodHandle" ∧ yX4_refuse.cls ≠ "java/lang/invoke/VarHandle" ∧ (parseMethodDescriptor yX4_refuse.desc).map (fun d => d.parameters.length) = some 1 := by decide +kernel
theorem wc_X4_refuse : Cond.code yX4_refuse cX4_refuse 2 (some .boolean) ∈ WALL := WALL_of (List.mem_of_getElem? (i := 418) (by decide +kernel)) (by decide +kernel)
theorem wi_X4_refuse : Cond.instanceMethod yX4_refuse ∈ WALL := WALL_of (List.mem_of_getElem? (i := 417) (by decide +kernel)) (by decide +kernel)
theorem ws_X4_refuse : Cond.selects RX4 yX4_refuse yX4_refuse ∈ WALL := WALL_of (List.mem_of_getElem? (i := 9) (by decide +kernel)) (by decide +kernel)
theorem hd_X4_scan : yX4_scan.cls ≠ "java/lang/invoke/MethodHandle" ∧ yX4_scan.cls ≠ "java/lang/invoke/VarHandle" ∧ (parseMethodDescriptor yX4_scan.desc).map (fun d => d.parameters.length) = some 0 := by decide +kernel
theorem wc_X4_scan : Cond.code yX4_scan cX4_scan 2 none ∈ WALL := WALL_of (List.mem_of_getElem? (i := 388) (by decide +kernel)) (by decide +kernel)
theorem wi_X4_scan : Cond.instanceMethod yX4_scan ∈ WALL := WALL_of (List.mem_of_getElem? (i := 387) (by decide +kernel)) (by decide +kernel)
theorem ws_X4_scan : Cond.selects RX4 yX4_scan yX4_scan ∈ WALL := WALL_of (List.mem_of_getElem? (i := 5) (by decide +kernel)) (by decide +kernel)
theorem hd_X4_scanRun : yX4_scanRun.cls ≠ "java/lang/invoke/MethodHandle" ∧ yX4_scanRun.cls ≠ "java/lang/invoke/VarHandle" ∧ (parseMethodDescriptor yX4_scanRun.desc).map (fun d => d.parameters.length) = some 0 := by decide +kernel
theorem wc_X4_scanRun : Cond.code yX4_scanRun cX4_scanRun 5 none ∈ WALL := WALL_of (List.mem_of_getElem? (i := 402) (by decide +kernel)) (by decide +kernel)
theorem wi_X4_scanRun : Cond.instanceMethod yX4_scanRun ∈ WALL := WALL_of (List.mem_of_getElem? (i := 401) (by decide +kernel)) (by decide +kernel)
theorem ws_X4_scanRun : Cond.selects RX4 yX4_scanRun yX4_scanRun ∈ WALL := WALL_of (List.mem_of_getElem? (i := 7) (by decide +kernel)) (by decide +kernel)
theorem hd_X4_wordOf : yX4_wordOf.cls ≠ "java/lang/invoke/MethodHandle" ∧ yX4_wordOf.cls ≠ "java/lang/invoke/VarHandle" ∧ (parseMethodDescriptor yX4_wordOf.desc).map (fun d => d.parameters.length) = some 1 := by decide +kernel
theorem wc_X4_wordOf : Cond.code yX4_wordOf cX4_wordOf 3 (some .int) ∈ WALL := WALL_of (List.mem_of_getElem? (i := 408) (by decide +kernel)) (by decide +kernel)
theorem wt_X4_wordOf : Cond.static yX4_wordOf ∈ WALL := WALL_of (List.mem_of_getElem? (i := 407) (by decide +kernel)) (by decide +kernel)
theorem hd_X5_choiceAt : yX5_choiceAt.cls ≠ "java/lang/invoke/MethodHandle" ∧ yX5_choiceAt.cls ≠ "java/lang/invoke/VarHandle" ∧ (parseMethodDescriptor yX5_choiceAt.desc).map (fun d => d.parameters.length) = some 2 := by decide +kernel
theorem wc_X5_choiceAt : Cond.code yX5_choiceAt cX5_choiceAt 3 (some .int) ∈ WALL := WALL_of (List.mem_of_getElem? (i := 610) (by decide +kernel)) (by decide +kernel)
theorem wi_X5_choiceAt : Cond.instanceMethod yX5_choiceAt ∈ WALL := WALL_of (List.mem_of_getElem? (i := 609) (by decide +kernel)) (by decide +kernel)
theorem ws_X5_choiceAt : Cond.selects RX5 yX5_choiceAt yX5_choiceAt ∈ WALL := WALL_of (List.mem_of_getElem? (i := 41) (by decide +kernel)) (by decide +kernel)
theorem hd_X5_chooseFirst : yX5_chooseFirst.cls ≠ "java/lang/invoke/MethodHandle" ∧ yX5_chooseFirst.cls ≠ "java/lang/invoke/VarHandle" ∧ (parseMethodDescriptor yX5_chooseFirst.desc).map (fun d => d.parameters.length) = some 0 := by decide +kernel
theorem wc_X5_chooseFirst : Cond.code yX5_chooseFirst cX5_chooseFirst 6 (some .long) ∈ WALL := WALL_of (List.mem_of_getElem? (i := 598) (by decide +kernel)) (by decide +kernel)
theorem wi_X5_chooseFirst : Cond.instanceMethod yX5_chooseFirst ∈ WALL := WALL_of (List.mem_of_getElem? (i := 597) (by decide +kernel)) (by decide +kernel)
theorem ws_X5_chooseFirst : Cond.selects RX5 yX5_chooseFirst yX5_chooseFirst ∈ WALL := WALL_of (List.mem_of_getElem? (i := 38) (by decide +kernel)) (by decide +kernel)
theorem hd_X5_fillBegun : yX5_fillBegun.cls ≠ "java/lang/invoke/MethodHandle" ∧ yX5_fillBegun.cls ≠ "java/lang/invoke/VarHandle" ∧ (parseMethodDescriptor yX5_fillBegun.desc).map (fun d => d.parameters.length) = some 2 := by decide +kernel
theorem wc_X5_fillBegun : Cond.code yX5_fillBegun cX5_fillBegun 8 none ∈ WALL := WALL_of (List.mem_of_getElem? (i := 576) (by decide +kernel)) (by decide +kernel)
theorem wi_X5_fillBegun : Cond.instanceMethod yX5_fillBegun ∈ WALL := WALL_of (List.mem_of_getElem? (i := 575) (by decide +kernel)) (by decide +kernel)
theorem ws_X5_fillBegun : Cond.selects RX5 yX5_fillBegun yX5_fillBegun ∈ WALL := WALL_of (List.mem_of_getElem? (i := 34) (by decide +kernel)) (by decide +kernel)
theorem hd_X5_fillFreed : yX5_fillFreed.cls ≠ "java/lang/invoke/MethodHandle" ∧ yX5_fillFreed.cls ≠ "java/lang/invoke/VarHandle" ∧ (parseMethodDescriptor yX5_fillFreed.desc).map (fun d => d.parameters.length) = some 3 := by decide +kernel
theorem wc_X5_fillFreed : Cond.code yX5_fillFreed cX5_fillFreed 10 none ∈ WALL := WALL_of (List.mem_of_getElem? (i := 587) (by decide +kernel)) (by decide +kernel)
theorem wi_X5_fillFreed : Cond.instanceMethod yX5_fillFreed ∈ WALL := WALL_of (List.mem_of_getElem? (i := 586) (by decide +kernel)) (by decide +kernel)
theorem ws_X5_fillFreed : Cond.selects RX5 yX5_fillFreed yX5_fillFreed ∈ WALL := WALL_of (List.mem_of_getElem? (i := 36) (by decide +kernel)) (by decide +kernel)
theorem hd_X5_fillMonthCents : yX5_fillMonthCents.cls ≠ "java/lang/invoke/MethodHandle" ∧ yX5_fillMonthCents.cls ≠ "java/lang/invoke/VarHandle" ∧ (parseMethodDescriptor yX5_fillMonthCents.desc).map (fun d => d.parameters.length) = some 2 := by decide +kernel
theorem wc_X5_fillMonthCents : Cond.code yX5_fillMonthCents cX5_fillMonthCents 5 none ∈ WALL := WALL_of (List.mem_of_getElem? (i := 550) (by decide +kernel)) (by decide +kernel)
theorem wi_X5_fillMonthCents : Cond.instanceMethod yX5_fillMonthCents ∈ WALL := WALL_of (List.mem_of_getElem? (i := 549) (by decide +kernel)) (by decide +kernel)
theorem ws_X5_fillMonthCents : Cond.selects RX5 yX5_fillMonthCents yX5_fillMonthCents ∈ WALL := WALL_of (List.mem_of_getElem? (i := 30) (by decide +kernel)) (by decide +kernel)
theorem hd_X5_keptCents : yX5_keptCents.cls ≠ "java/lang/invoke/MethodHandle" ∧ yX5_keptCents.cls ≠ "java/lang/invoke/VarHandle" ∧ (parseMethodDescriptor yX5_keptCents.desc).map (fun d => d.parameters.length) = some 2 := by decide +kernel
theorem wc_X5_keptCents : Cond.code yX5_keptCents cX5_keptCents 5 (some .long) ∈ WALL := WALL_of (List.mem_of_getElem? (i := 591) (by decide +kernel)) (by decide +kernel)
theorem wi_X5_keptCents : Cond.instanceMethod yX5_keptCents ∈ WALL := WALL_of (List.mem_of_getElem? (i := 590) (by decide +kernel)) (by decide +kernel)
theorem ws_X5_keptCents : Cond.selects RX5 yX5_keptCents yX5_keptCents ∈ WALL := WALL_of (List.mem_of_getElem? (i := 37) (by decide +kernel)) (by decide +kernel)
theorem hd_X5_search : yX5_search.cls ≠ "java/lang/invoke/MethodHandle" ∧ yX5_search.cls ≠ "java/lang/invoke/VarHandle" ∧ (parseMethodDescriptor yX5_search.desc).map (fun d => d.parameters.length) = some 6 := by decide +kernel
theorem wc_X5_search : Cond.code yX5_search cX5_search 9 (some .long) ∈ WALL := WALL_of (List.mem_of_getElem? (i := 537) (by decide +kernel)) (by decide +kernel)
theorem wi_X5_search : Cond.instanceMethod yX5_search ∈ WALL := WALL_of (List.mem_of_getElem? (i := 536) (by decide +kernel)) (by decide +kernel)
theorem ws_X5_search : Cond.selects RX5 yX5_search yX5_search ∈ WALL := WALL_of (List.mem_of_getElem? (i := 28) (by decide +kernel)) (by decide +kernel)
theorem hd_X5_slot : yX5_slot.cls ≠ "java/lang/invoke/MethodHandle" ∧ yX5_slot.cls ≠ "java/lang/invoke/VarHandle" ∧ (parseMethodDescriptor yX5_slot.desc).map (fun d => d.parameters.length) = some 2 := by decide +kernel
theorem wc_X5_slot : Cond.code yX5_slot cX5_slot 2 (some .int) ∈ WALL := WALL_of (List.mem_of_getElem? (i := 554) (by decide +kernel)) (by decide +kernel)
theorem wt_X5_slot : Cond.static yX5_slot ∈ WALL := WALL_of (List.mem_of_getElem? (i := 553) (by decide +kernel)) (by decide +kernel)
theorem hd_X5_termOf : yX5_termOf.cls ≠ "java/lang/invoke/MethodHandle" ∧ yX5_termOf.cls ≠ "java/lang/invoke/VarHandle" ∧ (parseMethodDescriptor yX5_termOf.desc).map (fun d => d.parameters.length) = some 1 := by decide +kernel
theorem wc_X5_termOf : Cond.code yX5_termOf cX5_termOf 3 (some .int) ∈ WALL := WALL_of (List.mem_of_getElem? (i := 606) (by decide +kernel)) (by decide +kernel)
theorem wi_X5_termOf : Cond.instanceMethod yX5_termOf ∈ WALL := WALL_of (List.mem_of_getElem? (i := 605) (by decide +kernel)) (by decide +kernel)
theorem ws_X5_termOf : Cond.selects RX5 yX5_termOf yX5_termOf ∈ WALL := WALL_of (List.mem_of_getElem? (i := 40) (by decide +kernel)) (by decide +kernel)
theorem hd_X5_writeRow : yX5_writeRow.cls ≠ "java/lang/invoke/MethodHandle" ∧ yX5_writeRow.cls ≠ "java/lang/invoke/VarHandle" ∧ (parseMethodDescriptor yX5_writeRow.desc).map (fun d => d.parameters.length) = some 1 := by decide +kernel
theorem wc_X5_writeRow : Cond.code yX5_writeRow cX5_writeRow 5 none ∈ WALL := WALL_of (List.mem_of_getElem? (i := 602) (by decide +kernel)) (by decide +kernel)
theorem wi_X5_writeRow : Cond.instanceMethod yX5_writeRow ∈ WALL := WALL_of (List.mem_of_getElem? (i := 601) (by decide +kernel)) (by decide +kernel)
theorem ws_X5_writeRow : Cond.selects RX5 yX5_writeRow yX5_writeRow ∈ WALL := WALL_of (List.mem_of_getElem? (i := 39) (by decide +kernel)) (by decide +kernel)
theorem hd_X6_append : yX6_append.cls ≠ "java/lang/invoke/MethodHandle" ∧ yX6_append.cls ≠ "java/lang/invoke/VarHandle" ∧ (parseMethodDescriptor yX6_append.desc).map (fun d => d.parameters.length) = some 1 := by decide +kernel
theorem wc_X6_append : Cond.code yX6_append cX6_append 3 none ∈ WALL := WALL_of (List.mem_of_getElem? (i := 372) (by decide +kernel)) (by decide +kernel)
theorem wi_X6_append : Cond.instanceMethod yX6_append ∈ WALL := WALL_of (List.mem_of_getElem? (i := 371) (by decide +kernel)) (by decide +kernel)
theorem ws_X6_append : Cond.selects RX6 yX6_append yX6_append ∈ WALL := WALL_of (List.mem_of_getElem? (i := 3) (by decide +kernel)) (by decide +kernel)
theorem hd_X6_byteAt : yX6_byteAt.cls ≠ "java/lang/invoke/MethodHandle" ∧ yX6_byteAt.cls ≠ "java/lang/invoke/VarHandle" ∧ (parseMethodDescriptor yX6_byteAt.desc).map (fun d => d.parameters.length) = some 1 := by decide +kernel
theorem wc_X6_byteAt : Cond.code yX6_byteAt cX6_byteAt 2 (some .int) ∈ WALL := WALL_of (List.mem_of_getElem? (i := 392) (by decide +kernel)) (by decide +kernel)
theorem wi_X6_byteAt : Cond.instanceMethod yX6_byteAt ∈ WALL := WALL_of (List.mem_of_getElem? (i := 391) (by decide +kernel)) (by decide +kernel)
theorem ws_X6_byteAt : Cond.selects RX6 yX6_byteAt yX6_byteAt ∈ WALL := WALL_of (List.mem_of_getElem? (i := 6) (by decide +kernel)) (by decide +kernel)
theorem hd_X7_at : yX7_at.cls ≠ "java/lang/invoke/MethodHandle" ∧ yX7_at.cls ≠ "java/lang/invoke/VarHandle" ∧ (parseMethodDescriptor yX7_at.desc).map (fun d => d.parameters.length) = some 3 := by decide +kernel
theorem wc_X7_at : Cond.code yX7_at cX7_at 5 (some .int) ∈ WALL := WALL_of (List.mem_of_getElem? (i := 522) (by decide +kernel)) (by decide +kernel)
theorem wi_X7_at : Cond.instanceMethod yX7_at ∈ WALL := WALL_of (List.mem_of_getElem? (i := 521) (by decide +kernel)) (by decide +kernel)
theorem ws_X7_at : Cond.selects RX7 yX7_at yX7_at ∈ WALL := WALL_of (List.mem_of_getElem? (i := 27) (by decide +kernel)) (by decide +kernel)
theorem hd_X7_numberAt : yX7_numberAt.cls ≠ "java/lang/invoke/MethodHandle" ∧ yX7_numberAt.cls ≠ "java/lang/invoke/VarHandle" ∧ (parseMethodDescriptor yX7_numberAt.desc).map (fun d => d.parameters.length) = some 2 := by decide +kernel
theorem wc_X7_numberAt : Cond.code yX7_numberAt cX7_numberAt 2 (some .int) ∈ WALL := WALL_of (List.mem_of_getElem? (i := 513) (by decide +kernel)) (by decide +kernel)
theorem wt_X7_numberAt : Cond.static yX7_numberAt ∈ WALL := WALL_of (List.mem_of_getElem? (i := 512) (by decide +kernel)) (by decide +kernel)
theorem hd_X7_slot : yX7_slot.cls ≠ "java/lang/invoke/MethodHandle" ∧ yX7_slot.cls ≠ "java/lang/invoke/VarHandle" ∧ (parseMethodDescriptor yX7_slot.desc).map (fun d => d.parameters.length) = some 3 := by decide +kernel
theorem wc_X7_slot : Cond.code yX7_slot cX7_slot 3 (some .int) ∈ WALL := WALL_of (List.mem_of_getElem? (i := 509) (by decide +kernel)) (by decide +kernel)
theorem wt_X7_slot : Cond.static yX7_slot ∈ WALL := WALL_of (List.mem_of_getElem? (i := 508) (by decide +kernel)) (by decide +kernel)
theorem hd_X7_take : yX7_take.cls ≠ "java/lang/invoke/MethodHandle" ∧ yX7_take.cls ≠ "java/lang/invoke/VarHandle" ∧ (parseMethodDescriptor yX7_take.desc).map (fun d => d.parameters.length) = some 4 := by decide +kernel
theorem wc_X7_take : Cond.code yX7_take cX7_take 8 (some .int) ∈ WALL := WALL_of (List.mem_of_getElem? (i := 506) (by decide +kernel)) (by decide +kernel)
theorem wi_X7_take : Cond.instanceMethod yX7_take ∈ WALL := WALL_of (List.mem_of_getElem? (i := 505) (by decide +kernel)) (by decide +kernel)
theorem ws_X7_take : Cond.selects RX7 yX7_take yX7_take ∈ WALL := WALL_of (List.mem_of_getElem? (i := 26) (by decide +kernel)) (by decide +kernel)
theorem hd_X7_together : yX7_together.cls ≠ "java/lang/invoke/MethodHandle" ∧ yX7_together.cls ≠ "java/lang/invoke/VarHandle" ∧ (parseMethodDescriptor yX7_together.desc).map (fun d => d.parameters.length) = some 2 := by decide +kernel
theorem wc_X7_together : Cond.code yX7_together cX7_together 6 (some (.array .int)) ∈ WALL := WALL_of (List.mem_of_getElem? (i := 545) (by decide +kernel)) (by decide +kernel)
theorem wi_X7_together : Cond.instanceMethod yX7_together ∈ WALL := WALL_of (List.mem_of_getElem? (i := 544) (by decide +kernel)) (by decide +kernel)
theorem ws_X7_together : Cond.selects RX7 yX7_together yX7_together ∈ WALL := WALL_of (List.mem_of_getElem? (i := 29) (by decide +kernel)) (by decide +kernel)
theorem hd_X8_differenceAt : yX8_differenceAt.cls ≠ "java/lang/invoke/MethodHandle" ∧ yX8_differenceAt.cls ≠ "java/lang/invoke/VarHandle" ∧ (parseMethodDescriptor yX8_differenceAt.desc).map (fun d => d.parameters.length) = some 3 := by decide +kernel
theorem wc_X8_differenceAt : Cond.code yX8_differenceAt cX8_differenceAt 3 (some .long) ∈ WALL := WALL_of (List.mem_of_getElem? (i := 762) (by decide +kernel)) (by decide +kernel)
theorem wt_X8_differenceAt : Cond.static yX8_differenceAt ∈ WALL := WALL_of (List.mem_of_getElem? (i := 761) (by decide +kernel)) (by decide +kernel)
theorem hd_X8_forgetRow : yX8_forgetRow.cls ≠ "java/lang/invoke/MethodHandle" ∧ yX8_forgetRow.cls ≠ "java/lang/invoke/VarHandle" ∧ (parseMethodDescriptor yX8_forgetRow.desc).map (fun d => d.parameters.length) = some 0 := by decide +kernel
theorem wc_X8_forgetRow : Cond.code yX8_forgetRow cX8_forgetRow 2 none ∈ WALL := WALL_of (List.mem_of_getElem? (i := 327) (by decide +kernel)) (by decide +kernel)
theorem wi_X8_forgetRow : Cond.instanceMethod yX8_forgetRow ∈ WALL := WALL_of (List.mem_of_getElem? (i := 326) (by decide +kernel)) (by decide +kernel)
theorem ws_X8_forgetRow : Cond.selects RX8 yX8_forgetRow yX8_forgetRow ∈ WALL := WALL_of (List.mem_of_getElem? (i := 2) (by decide +kernel)) (by decide +kernel)
theorem hd_X8_further : yX8_further.cls ≠ "java/lang/invoke/MethodHandle" ∧ yX8_further.cls ≠ "java/lang/invoke/VarHandle" ∧ (parseMethodDescriptor yX8_further.desc).map (fun d => d.parameters.length) = some 3 := by decide +kernel
theorem wc_X8_further : Cond.code yX8_further cX8_further 5 (some .long) ∈ WALL := WALL_of (List.mem_of_getElem? (i := 766) (by decide +kernel)) (by decide +kernel)
theorem wt_X8_further : Cond.static yX8_further ∈ WALL := WALL_of (List.mem_of_getElem? (i := 765) (by decide +kernel)) (by decide +kernel)
theorem hd_X8_isCheaper : yX8_isCheaper.cls ≠ "java/lang/invoke/MethodHandle" ∧ yX8_isCheaper.cls ≠ "java/lang/invoke/VarHandle" ∧ (parseMethodDescriptor yX8_isCheaper.desc).map (fun d => d.parameters.length) = some 2 := by decide +kernel
theorem wc_X8_isCheaper : Cond.code yX8_isCheaper cX8_isCheaper 4 (some .boolean) ∈ WALL := WALL_of (List.mem_of_getElem? (i := 594) (by decide +kernel)) (by decide +kernel)
theorem wt_X8_isCheaper : Cond.static yX8_isCheaper ∈ WALL := WALL_of (List.mem_of_getElem? (i := 593) (by decide +kernel)) (by decide +kernel)
theorem hd_X8_isWithin : yX8_isWithin.cls ≠ "java/lang/invoke/MethodHandle" ∧ yX8_isWithin.cls ≠ "java/lang/invoke/VarHandle" ∧ (parseMethodDescriptor yX8_isWithin.desc).map (fun d => d.parameters.length) = some 3 := by decide +kernel
theorem wc_X8_isWithin : Cond.code yX8_isWithin cX8_isWithin 3 (some .boolean) ∈ WALL := WALL_of (List.mem_of_getElem? (i := 405) (by decide +kernel)) (by decide +kernel)
theorem wt_X8_isWithin : Cond.static yX8_isWithin ∈ WALL := WALL_of (List.mem_of_getElem? (i := 404) (by decide +kernel)) (by decide +kernel)
theorem hd_X8_plus : yX8_plus.cls ≠ "java/lang/invoke/MethodHandle" ∧ yX8_plus.cls ≠ "java/lang/invoke/VarHandle" ∧ (parseMethodDescriptor yX8_plus.desc).map (fun d => d.parameters.length) = some 2 := by decide +kernel
theorem wc_X8_plus : Cond.code yX8_plus cX8_plus 4 (some .long) ∈ WALL := WALL_of (List.mem_of_getElem? (i := 583) (by decide +kernel)) (by decide +kernel)
theorem wt_X8_plus : Cond.static yX8_plus ∈ WALL := WALL_of (List.mem_of_getElem? (i := 582) (by decide +kernel)) (by decide +kernel)
theorem hd_X9_bad : yX9_bad.cls ≠ "java/lang/invoke/MethodHandle" ∧ yX9_bad.cls ≠ "java/lang/invoke/VarHandle" ∧ (parseMethodDescriptor yX9_bad.desc).map (fun d => d.parameters.length) = some 1 := by decide +kernel
theorem wc_X9_bad : Cond.code yX9_bad cX9_bad 2 (some .boolean) ∈ WALL := WALL_of (List.mem_of_getElem? (i := 960) (by decide +kernel)) (by decide +kernel)
theorem wi_X9_bad : Cond.instanceMethod yX9_bad ∈ WALL := WALL_of (List.mem_of_getElem? (i := 959) (by decide +kernel)) (by decide +kernel)
theorem ws_X9_bad : Cond.selects RX9 yX9_bad yX9_bad ∈ WALL := WALL_of (List.mem_of_getElem? (i := 55) (by decide +kernel)) (by decide +kernel)
theorem hd_X9_byteAt : yX9_byteAt.cls ≠ "java/lang/invoke/MethodHandle" ∧ yX9_byteAt.cls ≠ "java/lang/invoke/VarHandle" ∧ (parseMethodDescriptor yX9_byteAt.desc).map (fun d => d.parameters.length) = some 1 := by decide +kernel
theorem wc_X9_byteAt : Cond.code yX9_byteAt cX9_byteAt 2 (some .int) ∈ WALL := WALL_of (List.mem_of_getElem? (i := 948) (by decide +kernel)) (by decide +kernel)
theorem wi_X9_byteAt : Cond.instanceMethod yX9_byteAt ∈ WALL := WALL_of (List.mem_of_getElem? (i := 947) (by decide +kernel)) (by decide +kernel)
theorem ws_X9_byteAt : Cond.selects RX9 yX9_byteAt yX9_byteAt ∈ WALL := WALL_of (List.mem_of_getElem? (i := 53) (by decide +kernel)) (by decide +kernel)
theorem hd_X9_cell : yX9_cell.cls ≠ "java/lang/invoke/MethodHandle" ∧ yX9_cell.cls ≠ "java/lang/invoke/VarHandle" ∧ (parseMethodDescriptor yX9_cell.desc).map (fun d => d.parameters.length) = some 3 := by decide +kernel
theorem wc_X9_cell : Cond.code yX9_cell cX9_cell 3 (some .int) ∈ WALL := WALL_of (List.mem_of_getElem? (i := 1033) (by decide +kernel)) (by decide +kernel)
theorem wt_X9_cell : Cond.static yX9_cell ∈ WALL := WALL_of (List.mem_of_getElem? (i := 1032) (by decide +kernel)) (by decide +kernel)
theorem hd_X9_come : yX9_come.cls ≠ "java/lang/invoke/MethodHandle" ∧ yX9_come.cls ≠ "java/lang/invoke/VarHandle" ∧ (parseMethodDescriptor yX9_come.desc).map (fun d => d.parameters.length) = some 1 := by decide +kernel
theorem wc_X9_come : Cond.code yX9_come cX9_come 3 none ∈ WALL := WALL_of (List.mem_of_getElem? (i := 922) (by decide +kernel)) (by decide +kernel)
theorem wi_X9_come : Cond.instanceMethod yX9_come ∈ WALL := WALL_of (List.mem_of_getElem? (i := 921) (by decide +kernel)) (by decide +kernel)
theorem ws_X9_come : Cond.selects RX9 yX9_come yX9_come ∈ WALL := WALL_of (List.mem_of_getElem? (i := 50) (by decide +kernel)) (by decide +kernel)
theorem hd_X9_find : yX9_find.cls ≠ "java/lang/invoke/MethodHandle" ∧ yX9_find.cls ≠ "java/lang/invoke/VarHandle" ∧ (parseMethodDescriptor yX9_find.desc).map (fun d => d.parameters.length) = some 3 := by decide +kernel
theorem wc_X9_find : Cond.code yX9_find cX9_find 11 (some .int) ∈ WALL := WALL_of (List.mem_of_getElem? (i := 1079) (by decide +kernel)) (by decide +kernel)
theorem wi_X9_find : Cond.instanceMethod yX9_find ∈ WALL := WALL_of (List.mem_of_getElem? (i := 1078) (by decide +kernel)) (by decide +kernel)
theorem ws_X9_find : Cond.selects RX9 yX9_find yX9_find ∈ WALL := WALL_of (List.mem_of_getElem? (i := 68) (by decide +kernel)) (by decide +kernel)
theorem hd_X9_go : yX9_go.cls ≠ "java/lang/invoke/MethodHandle" ∧ yX9_go.cls ≠ "java/lang/invoke/VarHandle" ∧ (parseMethodDescriptor yX9_go.desc).map (fun d => d.parameters.length) = some 0 := by decide +kernel
theorem wc_X9_go : Cond.code yX9_go cX9_go 5 none ∈ WALL := WALL_of (List.mem_of_getElem? (i := 938) (by decide +kernel)) (by decide +kernel)
theorem wi_X9_go : Cond.instanceMethod yX9_go ∈ WALL := WALL_of (List.mem_of_getElem? (i := 937) (by decide +kernel)) (by decide +kernel)
theorem ws_X9_go : Cond.selects RX9 yX9_go yX9_go ∈ WALL := WALL_of (List.mem_of_getElem? (i := 52) (by decide +kernel)) (by decide +kernel)
theorem hd_X9_isAhead : yX9_isAhead.cls ≠ "java/lang/invoke/MethodHandle" ∧ yX9_isAhead.cls ≠ "java/lang/invoke/VarHandle" ∧ (parseMethodDescriptor yX9_isAhead.desc).map (fun d => d.parameters.length) = some 3 := by decide +kernel
theorem wc_X9_isAhead : Cond.code yX9_isAhead cX9_isAhead 5 (some .boolean) ∈ WALL := WALL_of (List.mem_of_getElem? (i := 1099) (by decide +kernel)) (by decide +kernel)
theorem wi_X9_isAhead : Cond.instanceMethod yX9_isAhead ∈ WALL := WALL_of (List.mem_of_getElem? (i := 1098) (by decide +kernel)) (by decide +kernel)
theorem ws_X9_isAhead : Cond.selects RX9 yX9_isAhead yX9_isAhead ∈ WALL := WALL_of (List.mem_of_getElem? (i := 72) (by decide +kernel)) (by decide +kernel)
theorem hd_X9_isDigit : yX9_isDigit.cls ≠ "java/lang/invoke/MethodHandle" ∧ yX9_isDigit.cls ≠ "java/lang/invoke/VarHandle" ∧ (parseMethodDescriptor yX9_isDigit.desc).map (fun d => d.parameters.length) = some 1 := by decide +kernel
theorem wc_X9_isDigit : Cond.code yX9_isDigit cX9_isDigit 1 (some .boolean) ∈ WALL := WALL_of (List.mem_of_getElem? (i := 944) (by decide +kernel)) (by decide +kernel)
theorem wt_X9_isDigit : Cond.static yX9_isDigit ∈ WALL := WALL_of (List.mem_of_getElem? (i := 943) (by decide +kernel)) (by decide +kernel)
theorem hd_X9_isFree : yX9_isFree.cls ≠ "java/lang/invoke/MethodHandle" ∧ yX9_isFree.cls ≠ "java/lang/invoke/VarHandle" ∧ (parseMethodDescriptor yX9_isFree.desc).map (fun d => d.parameters.length) = some 0 := by decide +kernel
theorem wc_X9_isFree : Cond.code yX9_isFree cX9_isFree 1 (some .boolean) ∈ WALL := WALL_of (List.mem_of_getElem? (i := 968) (by decide +kernel)) (by decide +kernel)
theorem wi_X9_isFree : Cond.instanceMethod yX9_isFree ∈ WALL := WALL_of (List.mem_of_getElem? (i := 967) (by decide +kernel)) (by decide +kernel)
theorem ws_X9_isFree : Cond.selects RX9 yX9_isFree yX9_isFree ∈ WALL := WALL_of (List.mem_of_getElem? (i := 57) (by decide +kernel)) (by decide +kernel)
theorem hd_X9_isIn : yX9_isIn.cls ≠ "java/lang/invoke/MethodHandle" ∧ yX9_isIn.cls ≠ "java/lang/invoke/VarHandle" ∧ (parseMethodDescriptor yX9_isIn.desc).map (fun d => d.parameters.length) = some 2 := by decide +kernel
theorem wc_X9_isIn : Cond.code yX9_isIn cX9_isIn 2 (some .boolean) ∈ WALL := WALL_of (List.mem_of_getElem? (i := 1030) (by decide +kernel)) (by decide +kernel)
theorem wt_X9_isIn : Cond.static yX9_isIn ∈ WALL := WALL_of (List.mem_of_getElem? (i := 1029) (by decide +kernel)) (by decide +kernel)
theorem hd_X9_isKey : yX9_isKey.cls ≠ "java/lang/invoke/MethodHandle" ∧ yX9_isKey.cls ≠ "java/lang/invoke/VarHandle" ∧ (parseMethodDescriptor yX9_isKey.desc).map (fun d => d.parameters.length) = some 1 := by decide +kernel
theorem wc_X9_isKey : Cond.code yX9_isKey cX9_isKey 3 (some .boolean) ∈ WALL := WALL_of (List.mem_of_getElem? (i := 956) (by decide +kernel)) (by decide +kernel)
theorem wi_X9_isKey : Cond.instanceMethod yX9_isKey ∈ WALL := WALL_of (List.mem_of_getElem? (i := 955) (by decide +kernel)) (by decide +kernel)
theorem ws_X9_isKey : Cond.selects RX9 yX9_isKey yX9_isKey ∈ WALL := WALL_of (List.mem_of_getElem? (i := 54) (by decide +kernel)) (by decide +kernel)
theorem hd_X9_isLetter : yX9_isLetter.cls ≠ "java/lang/invoke/MethodHandle" ∧ yX9_isLetter.cls ≠ "java/lang/invoke/VarHandle" ∧ (parseMethodDescriptor yX9_isLetter.desc).map (fun d => d.parameters.length) = some 1 := by decide +kernel
theorem wc_X9_isLetter : Cond.code yX9_isLetter cX9_isLetter 1 (some .boolean) ∈ WALL := WALL_of (List.mem_of_getElem? (i := 941) (by decide +kernel)) (by decide +kernel)
theorem wt_X9_isLetter : Cond.static yX9_isLetter ∈ WALL := WALL_of (List.mem_of_getElem? (i := 940) (by decide +kernel)) (by decide +kernel)
theorem hd_X9_isPlan : yX9_isPlan.cls ≠ "java/lang/invoke/MethodHandle" ∧ yX9_isPlan.cls ≠ "java/lang/invoke/VarHandle" ∧ (parseMethodDescriptor yX9_isPlan.desc).map (fun d => d.parameters.length) = some 1 := by decide +kernel
theorem wc_X9_isPlan : Cond.code yX9_isPlan cX9_isPlan 2 (some .boolean) ∈ WALL := WALL_of (List.mem_of_getElem? (i := 1011) (by decide +kernel)) (by decide +kernel)
theorem wi_X9_isPlan : Cond.instanceMethod yX9_isPlan ∈ WALL := WALL_of (List.mem_of_getElem? (i := 1010) (by decide +kernel)) (by decide +kernel)
theorem ws_X9_isPlan : Cond.selects RX9 yX9_isPlan yX9_isPlan ∈ WALL := WALL_of (List.mem_of_getElem? (i := 61) (by decide +kernel)) (by decide +kernel)
theorem hd_X9_mayBegin : yX9_mayBegin.cls ≠ "java/lang/invoke/MethodHandle" ∧ yX9_mayBegin.cls ≠ "java/lang/invoke/VarHandle" ∧ (parseMethodDescriptor yX9_mayBegin.desc).map (fun d => d.parameters.length) = some 2 := by decide +kernel
theorem wc_X9_mayBegin : Cond.code yX9_mayBegin cX9_mayBegin 3 (some .boolean) ∈ WALL := WALL_of (List.mem_of_getElem? (i := 1084) (by decide +kernel)) (by decide +kernel)
theorem wi_X9_mayBegin : Cond.instanceMethod yX9_mayBegin ∈ WALL := WALL_of (List.mem_of_getElem? (i := 1083) (by decide +kernel)) (by decide +kernel)
theorem ws_X9_mayBegin : Cond.selects RX9 yX9_mayBegin yX9_mayBegin ∈ WALL := WALL_of (List.mem_of_getElem? (i := 69) (by decide +kernel)) (by decide +kernel)
theorem hd_X9_mayHave : yX9_mayHave.cls ≠ "java/lang/invoke/MethodHandle" ∧ yX9_mayHave.cls ≠ "java/lang/invoke/VarHandle" ∧ (parseMethodDescriptor yX9_mayHave.desc).map (fun d => d.parameters.length) = some 3 := by decide +kernel
theorem wc_X9_mayHave : Cond.code yX9_mayHave cX9_mayHave 5 (some .boolean) ∈ WALL := WALL_of (List.mem_of_getElem? (i := 1050) (by decide +kernel)) (by decide +kernel)
theorem wi_X9_mayHave : Cond.instanceMethod yX9_mayHave ∈ WALL := WALL_of (List.mem_of_getElem? (i := 1049) (by decide +kernel)) (by decide +kernel)
theorem ws_X9_mayHave : Cond.selects RX9 yX9_mayHave yX9_mayHave ∈ WALL := WALL_of (List.mem_of_getElem? (i := 63) (by decide +kernel)) (by decide +kernel)
theorem hd_X9_monthCost : yX9_monthCost.cls ≠ "java/lang/invoke/MethodHandle" ∧ yX9_monthCost.cls ≠ "java/lang/invoke/VarHandle" ∧ (parseMethodDescriptor yX9_monthCost.desc).map (fun d => d.parameters.length) = some 3 := by decide +kernel
theorem wc_X9_monthCost : Cond.code yX9_monthCost cX9_monthCost 7 (some .long) ∈ WALL := WALL_of (List.mem_of_getElem? (i := 1058) (by decide +kernel)) (by decide +kernel)
theorem wi_X9_monthCost : Cond.instanceMethod yX9_monthCost ∈ WALL := WALL_of (List.mem_of_getElem? (i := 1057) (by decide +kernel)) (by decide +kernel)
theorem ws_X9_monthCost : Cond.selects RX9 yX9_monthCost yX9_monthCost ∈ WALL := WALL_of (List.mem_of_getElem? (i := 65) (by decide +kernel)) (by decide +kernel)
theorem hd_X9_offer : yX9_offer.cls ≠ "java/lang/invoke/MethodHandle" ∧ yX9_offer.cls ≠ "java/lang/invoke/VarHandle" ∧ (parseMethodDescriptor yX9_offer.desc).map (fun d => d.parameters.length) = some 5 := by decide +kernel
theorem wc_X9_offer : Cond.code yX9_offer cX9_offer 10 none ∈ WALL := WALL_of (List.mem_of_getElem? (i := 1088) (by decide +kernel)) (by decide +kernel)
theorem wi_X9_offer : Cond.instanceMethod yX9_offer ∈ WALL := WALL_of (List.mem_of_getElem? (i := 1087) (by decide +kernel)) (by decide +kernel)
theorem ws_X9_offer : Cond.selects RX9 yX9_offer yX9_offer ∈ WALL := WALL_of (List.mem_of_getElem? (i := 70) (by decide +kernel)) (by decide +kernel)
theorem hd_X9_partCost : yX9_partCost.cls ≠ "java/lang/invoke/MethodHandle" ∧ yX9_partCost.cls ≠ "java/lang/invoke/VarHandle" ∧ (parseMethodDescriptor yX9_partCost.desc).map (fun d => d.parameters.length) = some 2 := by decide +kernel
theorem wc_X9_partCost : Cond.code yX9_partCost cX9_partCost 10 (some .long) ∈ WALL := WALL_of (List.mem_of_getElem? (i := 1066) (by decide +kernel)) (by decide +kernel)
theorem wi_X9_partCost : Cond.instanceMethod yX9_partCost ∈ WALL := WALL_of (List.mem_of_getElem? (i := 1065) (by decide +kernel)) (by decide +kernel)
theorem ws_X9_partCost : Cond.selects RX9 yX9_partCost yX9_partCost ∈ WALL := WALL_of (List.mem_of_getElem? (i := 67) (by decide +kernel)) (by decide +kernel)
theorem hd_X9_readKey : yX9_readKey.cls ≠ "java/lang/invoke/MethodHandle" ∧ yX9_readKey.cls ≠ "java/lang/invoke/VarHandle" ∧ (parseMethodDescriptor yX9_readKey.desc).map (fun d => d.parameters.length) = some 1 := by decide +kernel
theorem wc_X9_readKey : Cond.code yX9_readKey cX9_readKey 3 (some .boolean) ∈ WALL := WALL_of (List.mem_of_getElem? (i := 990) (by decide +kernel)) (by decide +kernel)
theorem wi_X9_readKey : Cond.instanceMethod yX9_readKey ∈ WALL := WALL_of (List.mem_of_getElem? (i := 989) (by decide +kernel)) (by decide +kernel)
theorem ws_X9_readKey : Cond.selects RX9 yX9_readKey yX9_readKey ∈ WALL := WALL_of (List.mem_of_getElem? (i := 58) (by decide +kernel)) (by decide +kernel)
theorem hd_X9_readNumber : yX9_readNumber.cls ≠ "java/lang/invoke/MethodHandle" ∧ yX9_readNumber.cls ≠ "java/lang/invoke/VarHandle" ∧ (parseMethodDescriptor yX9_readNumber.desc).map (fun d => d.parameters.length) = some 2 := by decide +kernel
theorem wc_X9_readNumber : Cond.code yX9_readNumber cX9_readNumber 3 (some .boolean) ∈ WALL := WALL_of (List.mem_of_getElem? (i := 995) (by decide +kernel)) (by decide +kernel)
theorem wi_X9_readNumber : Cond.instanceMethod yX9_readNumber ∈ WALL := WALL_of (List.mem_of_getElem? (i := 994) (by decide +kernel)) (by decide +kernel)
theorem ws_X9_readNumber : Cond.selects RX9 yX9_readNumber yX9_readNumber ∈ WALL := WALL_of (List.mem_of_getElem? (i := 59) (by decide +kernel)) (by decide +kernel)
theorem hd_X9_readPart : yX9_readPart.cls ≠ "java/lang/invoke/MethodHandle" ∧ yX9_readPart.cls ≠ "java/lang/invoke/VarHandle" ∧ (parseMethodDescriptor yX9_readPart.desc).map (fun d => d.parameters.length) = some 1 := by decide +kernel
theorem wc_X9_readPart : Cond.code yX9_readPart cX9_readPart 5 (some .boolean) ∈ WALL := WALL_of (List.mem_of_getElem? (i := 999) (by decide +kernel)) (by decide +kernel)
theorem wi_X9_readPart : Cond.instanceMethod yX9_readPart ∈ WALL := WALL_of (List.mem_of_getElem? (i := 998) (by decide +kernel)) (by decide +kernel)
theorem ws_X9_readPart : Cond.selects RX9 yX9_readPart yX9_readPart ∈ WALL := WALL_of (List.mem_of_getElem? (i := 60) (by decide +kernel)) (by decide +kernel)
theorem hd_X9_readPlan : yX9_readPlan.cls ≠ "java/lang/invoke/MethodHandle" ∧ yX9_readPlan.cls ≠ "java/lang/invoke/VarHandle" ∧ (parseMethodDescriptor yX9_readPlan.desc).map (fun d => d.parameters.length) = some 1 := by decide +kernel
theorem wc_X9_readPlan : Cond.code yX9_readPlan cX9_readPlan 4 (some .boolean) ∈ WALL := WALL_of (List.mem_of_getElem? (i := 964) (by decide +kernel)) (by decide +kernel)
theorem wi_X9_readPlan : Cond.instanceMethod yX9_readPlan ∈ WALL := WALL_of (List.mem_of_getElem? (i := 963) (by decide +kernel)) (by decide +kernel)
theorem ws_X9_readPlan : Cond.selects RX9 yX9_readPlan yX9_readPlan ∈ WALL := WALL_of (List.mem_of_getElem? (i := 56) (by decide +kernel)) (by decide +kernel)
theorem hd_X9_readText : yX9_readText.cls ≠ "java/lang/invoke/MethodHandle" ∧ yX9_readText.cls ≠ "java/lang/invoke/VarHandle" ∧ (parseMethodDescriptor yX9_readText.desc).map (fun d => d.parameters.length) = some 0 := by decide +kernel
theorem wc_X9_readText : Cond.code yX9_readText cX9_readText 1 (some .boolean) ∈ WALL := WALL_of (List.mem_of_getElem? (i := 934) (by decide +kernel)) (by decide +kernel)
theorem wi_X9_readText : Cond.instanceMethod yX9_readText ∈ WALL := WALL_of (List.mem_of_getElem? (i := 933) (by decide +kernel)) (by decide +kernel)
theorem ws_X9_readText : Cond.selects RX9 yX9_readText yX9_readText ∈ WALL := WALL_of (List.mem_of_getElem? (i := 51) (by decide +kernel)) (by decide +kernel)
theorem hd_X9_refuse : yX9_refuse.cls ≠ "java/lang/invoke/MethodHandle" ∧ yX9_refuse.cls ≠ "java/lang/invoke/VarHandle" ∧ (parseMethodDescriptor yX9_refuse.desc).map (fun d => d.parameters.length) = some 0 := by decide +kernel
theorem wc_X9_refuse : Cond.code yX9_refuse cX9_refuse 1 (some .int) ∈ WALL := WALL_of (List.mem_of_getElem? (i := 1015) (by decide +kernel)) (by decide +kernel)
theorem wi_X9_refuse : Cond.instanceMethod yX9_refuse ∈ WALL := WALL_of (List.mem_of_getElem? (i := 1014) (by decide +kernel)) (by decide +kernel)
theorem ws_X9_refuse : Cond.selects RX9 yX9_refuse yX9_refuse ∈ WALL := WALL_of (List.mem_of_getElem? (i := 62) (by decide +kernel)) (by decide +kernel)
theorem hd_X9_serviceCost : yX9_serviceCost.cls ≠ "java/lang/invoke/MethodHandle" ∧ yX9_serviceCost.cls ≠ "java/lang/invoke/VarHandle" ∧ (parseMethodDescriptor yX9_serviceCost.desc).map (fun d => d.parameters.length) = some 4 := by decide +kernel
theorem wc_X9_serviceCost : Cond.code yX9_serviceCost cX9_serviceCost 5 (some .long) ∈ WALL := WALL_of (List.mem_of_getElem? (i := 1062) (by decide +kernel)) (by decide +kernel)
theorem wi_X9_serviceCost : Cond.instanceMethod yX9_serviceCost ∈ WALL := WALL_of (List.mem_of_getElem? (i := 1061) (by decide +kernel)) (by decide +kernel)
theorem ws_X9_serviceCost : Cond.selects RX9 yX9_serviceCost yX9_serviceCost ∈ WALL := WALL_of (List.mem_of_getElem? (i := 66) (by decide +kernel)) (by decide +kernel)
theorem hd_X9_state : yX9_state.cls ≠ "java/lang/invoke/MethodHandle" ∧ yX9_state.cls ≠ "java/lang/invoke/VarHandle" ∧ (parseMethodDescriptor yX9_state.desc).map (fun d => d.parameters.length) = some 2 := by decide +kernel
theorem wc_X9_state : Cond.code yX9_state cX9_state 2 (some .int) ∈ WALL := WALL_of (List.mem_of_getElem? (i := 1091) (by decide +kernel)) (by decide +kernel)
theorem wt_X9_state : Cond.static yX9_state ∈ WALL := WALL_of (List.mem_of_getElem? (i := 1090) (by decide +kernel)) (by decide +kernel)
theorem hd_X9_together : yX9_together.cls ≠ "java/lang/invoke/MethodHandle" ∧ yX9_together.cls ≠ "java/lang/invoke/VarHandle" ∧ (parseMethodDescriptor yX9_together.desc).map (fun d => d.parameters.length) = some 3 := by decide +kernel
theorem wc_X9_together : Cond.code yX9_together cX9_together 6 (some .int) ∈ WALL := WALL_of (List.mem_of_getElem? (i := 1054) (by decide +kernel)) (by decide +kernel)
theorem wi_X9_together : Cond.instanceMethod yX9_together ∈ WALL := WALL_of (List.mem_of_getElem? (i := 1053) (by decide +kernel)) (by decide +kernel)
theorem ws_X9_together : Cond.selects RX9 yX9_together yX9_together ∈ WALL := WALL_of (List.mem_of_getElem? (i := 64) (by decide +kernel)) (by decide +kernel)
theorem hd_X9_turn : yX9_turn.cls ≠ "java/lang/invoke/MethodHandle" ∧ yX9_turn.cls ≠ "java/lang/invoke/VarHandle" ∧ (parseMethodDescriptor yX9_turn.desc).map (fun d => d.parameters.length) = some 0 := by decide +kernel
theorem wc_X9_turn : Cond.code yX9_turn cX9_turn 3 none ∈ WALL := WALL_of (List.mem_of_getElem? (i := 1095) (by decide +kernel)) (by decide +kernel)
theorem wi_X9_turn : Cond.instanceMethod yX9_turn ∈ WALL := WALL_of (List.mem_of_getElem? (i := 1094) (by decide +kernel)) (by decide +kernel)
theorem ws_X9_turn : Cond.selects RX9 yX9_turn yX9_turn ∈ WALL := WALL_of (List.mem_of_getElem? (i := 71) (by decide +kernel)) (by decide +kernel)
theorem wn_X0 : Cond.initialized RX0 ∈ WALL := WALL_of (List.mem_of_getElem? (i := 79) (by decide +kernel)) (by decide +kernel)
theorem wn_X1 : Cond.initialized RX1 ∈ WALL := WALL_of (List.mem_of_getElem? (i := 82) (by decide +kernel)) (by decide +kernel)
theorem wn_X2 : Cond.initialized RX2 ∈ WALL := WALL_of (List.mem_of_getElem? (i := 78) (by decide +kernel)) (by decide +kernel)
theorem wn_X3 : Cond.initialized RX3 ∈ WALL := WALL_of (List.mem_of_getElem? (i := 77) (by decide +kernel)) (by decide +kernel)
theorem wn_X4 : Cond.initialized RX4 ∈ WALL := WALL_of (List.mem_of_getElem? (i := 76) (by decide +kernel)) (by decide +kernel)
theorem wn_X5 : Cond.initialized RX5 ∈ WALL := WALL_of (List.mem_of_getElem? (i := 81) (by decide +kernel)) (by decide +kernel)
theorem wn_X6 : Cond.initialized RX6 ∈ WALL := WALL_of (List.mem_of_getElem? (i := 75) (by decide +kernel)) (by decide +kernel)
theorem wn_X7 : Cond.initialized RX7 ∈ WALL := WALL_of (List.mem_of_getElem? (i := 80) (by decide +kernel)) (by decide +kernel)
theorem wn_X8 : Cond.initialized RX8 ∈ WALL := WALL_of (List.mem_of_getElem? (i := 74) (by decide +kernel)) (by decide +kernel)
theorem wn_X9 : Cond.initialized RX9 ∈ WALL := WALL_of (List.mem_of_getElem? (i := 83) (by decide +kernel)) (by decide +kernel)
theorem wn_Math : Cond.initialized "java/lang/Math" ∈ WALL := WALL_of (List.mem_of_getElem? (i := 84) (by decide +kernel)) (by decide +kernel)
theorem wt_va_mmax : Cond.static Lib.Math.max.name ∈ WALL := WALL_of (by decide +kernel) (by decide +kernel)
theorem wc_va_mmax : Cond.code Lib.Math.max.name Lib.Math.max.code 2 (some .int) ∈ WALL := WALL_of (by decide +kernel) (by decide +kernel)
theorem wt_va_mmin : Cond.static Lib.Math.min.name ∈ WALL := WALL_of (by decide +kernel) (by decide +kernel)
theorem wc_va_mmin : Cond.code Lib.Math.min.name Lib.Math.min.code 2 (some .int) ∈ WALL := WALL_of (by decide +kernel) (by decide +kernel)
theorem wt_va_mmax_long : Cond.static Lib.MathLoose.max_long.x ∈ WALL := WALL_of (by decide +kernel) (by decide +kernel)
theorem wc_va_mmax_long : Cond.code Lib.MathLoose.max_long.x Lib.MathLoose.max_long.code 4 (some .long) ∈ WALL := WALL_of (by decide +kernel) (by decide +kernel)
theorem wt_va_mmin_long : Cond.static Lib.MathLoose.min_long.x ∈ WALL := WALL_of (by decide +kernel) (by decide +kernel)
theorem wc_va_mmin_long : Cond.code Lib.MathLoose.min_long.x Lib.MathLoose.min_long.code 4 (some .long) ∈ WALL := WALL_of (by decide +kernel) (by decide +kernel)
section SITES
variable {p : Program} {l : Launch} {e : Env} {R : Room} {s : State} {m : MethodId} {args : Array Value} {below : List Frame} {meth : Method} {c : Code} {H : Heap} {locs : List Loc} {Q : State → Prop}
variable {cc : ByteArray} {pc nL : Nat} {ls : Array Slot} {rest : List Value} {D : va_G} {cy : Nat → ClassId} {ad : Nat → Nat} {A : Nat → Prop} {z : Nat} {σ : Mem}
theorem ml_X1_28 : Cond.methodLinkNest RX1 28 yX8_isWithin "TariffDesk" ∈ NWL := NW_of (List.mem_of_getElem? (i := 623) (by decide +kernel)) rfl
theorem cs_X1_28 {a0 : Int32} {a1 : Int32} {a2 : Int32} {ra : Int32} {τ : Mem} (hC : CallFix p m c cc nL s args WALL RX1) (hG : GS D cy A s) (hM : MS D cy ad A s.heap z σ H locs) (hct : CtI l yX8_isWithin cX8_isWithin 3 (some .boolean) 0 [.int a0, .int a1, .int a2] D cy ad A z σ ra τ) (hR : 0 + 1 ≤ R.frames ∧ 8 + (3 + 11) + 36 * 0 ≤ R.locals) (hsz : ls.size = nL) (hW : (rest.map fun v => v.category).sum ≤ 8) (hdg : decode cc pc = .ok (.invokestatic 28, 3)) (kk : ∀ (H : Heap) (locs : List Loc), MS D cy ad A s.heap z τ H locs → W p l e R s m args below meth c H locs 0 0 Q (F0 m (pc + 3) ls (.int ra :: rest))) : W p l e R s m args below meth c H locs 0 0 Q (F0 m pc ls (.int a2 :: .int a1 :: .int a0 :: rest)) :=
  callSN_I (As := [.int a0, .int a1, .int a2]) ml_X1_28 wt_X8_isWithin wn_X8 wc_X8_isWithin hd_X8_isWithin hC hG hM hct hR hsz hW hdg rfl kk
theorem ml_X1_32 : Cond.methodLink RX1 32 yX1_fillLeast ∈ WALL := WALL_of (List.mem_of_getElem? (i := 628) (by decide +kernel)) (by decide +kernel)
theorem cs_X1_32 {a0 : Int32} {τ : Mem} {v : Option Nat} {b : Nat} (ek : kT σ 1 v = some b) (hC : CallFix p m c cc nL s args WALL RX1) (hG : GS D cy A s) (hM : MS D cy ad A s.heap z σ H locs) (hct : CtV l yX1_fillLeast cX1_fillLeast 8 none 1 [.ref (ad b), .int a0] D cy ad A z σ () τ) (hR : 1 + 1 ≤ R.frames ∧ 8 + (8 + 11) + 36 * 1 ≤ R.locals) (hsz : ls.size = nL) (hW : (rest.map fun v => v.category).sum ≤ 8) (hdg : decode cc pc = .ok (.invokevirtual 32, 3)) (kk : ∀ (H : Heap) (locs : List Loc), MS D cy ad A s.heap z τ H locs → W p l e R s m args below meth c H locs 0 0 Q (F0 m (pc + 3) ls (rest))) : W p l e R s m args below meth c H locs 0 0 Q (F0 m pc ls (.int a0 :: va_rf (Option.map ad v) :: rest)) :=
  callV_V (As := [.int a0]) ek (by decide) rfl ml_X1_32 wi_X1_fillLeast ws_X1_fillLeast rfl wn_X1 wc_X1_fillLeast hd_X1_fillLeast hC hG hM hct hR hsz hW hdg rfl kk
theorem ml_X1_38 : Cond.methodLink RX1 38 yX1_writeGroups ∈ WALL := WALL_of (List.mem_of_getElem? (i := 635) (by decide +kernel)) (by decide +kernel)
theorem cs_X1_38  {τ : Mem} {v : Option Nat} {b : Nat} (ek : kT σ 1 v = some b) (hC : CallFix p m c cc nL s args WALL RX1) (hG : GS D cy A s) (hM : MS D cy ad A s.heap z σ H locs) (hct : CtV l yX1_writeGroups cX1_writeGroups 5 none 0 [.ref (ad b)] D cy ad A z σ () τ) (hR : 0 + 1 ≤ R.frames ∧ 8 + (5 + 11) + 36 * 0 ≤ R.locals) (hsz : ls.size = nL) (hW : (rest.map fun v => v.category).sum ≤ 8) (hdg : decode cc pc = .ok (.invokevirtual 38, 3)) (kk : ∀ (H : Heap) (locs : List Loc), MS D cy ad A s.heap z τ H locs → W p l e R s m args below meth c H locs 0 0 Q (F0 m (pc + 3) ls (rest))) : W p l e R s m args below meth c H locs 0 0 Q (F0 m pc ls (va_rf (Option.map ad v) :: rest)) :=
  callV_V (As := []) ek (by decide) rfl ml_X1_38 wi_X1_writeGroups ws_X1_writeGroups rfl wn_X1 wc_X1_writeGroups hd_X1_writeGroups hC hG hM hct hR hsz hW hdg rfl kk
theorem ml_X1_41 : Cond.methodLinkNest RX1 41 yX8_plus "TariffDesk" ∈ NWL := NW_of (List.mem_of_getElem? (i := 633) (by decide +kernel)) rfl
theorem cs_X1_41 {a0 : Int64} {a1 : Int64} {ra : Int64} {τ : Mem} (hC : CallFix p m c cc nL s args WALL RX1) (hG : GS D cy A s) (hM : MS D cy ad A s.heap z σ H locs) (hct : CtL l yX8_plus cX8_plus 4 (some .long) 0 [.long a0, .long a1] D cy ad A z σ ra τ) (hR : 0 + 1 ≤ R.frames ∧ 8 + (4 + 11) + 36 * 0 ≤ R.locals) (hsz : ls.size = nL) (hW : (rest.map fun v => v.category).sum ≤ 8) (hdg : decode cc pc = .ok (.invokestatic 41, 3)) (kk : ∀ (H : Heap) (locs : List Loc), MS D cy ad A s.heap z τ H locs → W p l e R s m args below meth c H locs 0 0 Q (F0 m (pc + 3) ls (.long ra :: rest))) : W p l e R s m args below meth c H locs 0 0 Q (F0 m pc ls (.long a1 :: .long a0 :: rest)) :=
  callSN_L (As := [.long a0, .long a1]) ml_X1_41 wt_X8_plus wn_X8 wc_X8_plus hd_X8_plus hC hG hM hct hR hsz hW hdg rfl kk
theorem ml_X1_45 : Cond.methodLinkNest RX1 45 yX8_isCheaper "TariffDesk" ∈ NWL := NW_of (List.mem_of_getElem? (i := 634) (by decide +kernel)) rfl
theorem cs_X1_45 {a0 : Int64} {a1 : Int64} {ra : Int32} {τ : Mem} (hC : CallFix p m c cc nL s args WALL RX1) (hG : GS D cy A s) (hM : MS D cy ad A s.heap z σ H locs) (hct : CtI l yX8_isCheaper cX8_isCheaper 4 (some .boolean) 0 [.long a0, .long a1] D cy ad A z σ ra τ) (hR : 0 + 1 ≤ R.frames ∧ 8 + (4 + 11) + 36 * 0 ≤ R.locals) (hsz : ls.size = nL) (hW : (rest.map fun v => v.category).sum ≤ 8) (hdg : decode cc pc = .ok (.invokestatic 45, 3)) (kk : ∀ (H : Heap) (locs : List Loc), MS D cy ad A s.heap z τ H locs → W p l e R s m args below meth c H locs 0 0 Q (F0 m (pc + 3) ls (.int ra :: rest))) : W p l e R s m args below meth c H locs 0 0 Q (F0 m pc ls (.long a1 :: .long a0 :: rest)) :=
  callSN_I (As := [.long a0, .long a1]) ml_X1_45 wt_X8_isCheaper wn_X8 wc_X8_isCheaper hd_X8_isCheaper hC hG hM hct hR hsz hW hdg rfl kk
theorem ml_X2_44 : Cond.methodLinkNest RX2 44 yX8_isWithin "TariffDesk" ∈ NWL := NW_of (List.mem_of_getElem? (i := 460) (by decide +kernel)) rfl
theorem cs_X2_44 {a0 : Int32} {a1 : Int32} {a2 : Int32} {ra : Int32} {τ : Mem} (hC : CallFix p m c cc nL s args WALL RX2) (hG : GS D cy A s) (hM : MS D cy ad A s.heap z σ H locs) (hct : CtI l yX8_isWithin cX8_isWithin 3 (some .boolean) 0 [.int a0, .int a1, .int a2] D cy ad A z σ ra τ) (hR : 0 + 1 ≤ R.frames ∧ 8 + (3 + 11) + 36 * 0 ≤ R.locals) (hsz : ls.size = nL) (hW : (rest.map fun v => v.category).sum ≤ 8) (hdg : decode cc pc = .ok (.invokestatic 44, 3)) (kk : ∀ (H : Heap) (locs : List Loc), MS D cy ad A s.heap z τ H locs → W p l e R s m args below meth c H locs 0 0 Q (F0 m (pc + 3) ls (.int ra :: rest))) : W p l e R s m args below meth c H locs 0 0 Q (F0 m pc ls (.int a2 :: .int a1 :: .int a0 :: rest)) :=
  callSN_I (As := [.int a0, .int a1, .int a2]) ml_X2_44 wt_X8_isWithin wn_X8 wc_X8_isWithin hd_X8_isWithin hC hG hM hct hR hsz hW hdg rfl kk
theorem ml_X2_48 : Cond.methodLinkNest RX2 48 yX0_clear "TariffDesk" ∈ NWL := NW_of (List.mem_of_getElem? (i := 469) (by decide +kernel)) rfl
theorem cs_X2_48  {τ : Mem} {v : Option Nat} {b : Nat} (ek : kT σ 0 v = some b) (hC : CallFix p m c cc nL s args WALL RX2) (hG : GS D cy A s) (hM : MS D cy ad A s.heap z σ H locs) (hct : CtV l yX0_clear cX0_clear 1 none 0 [.ref (ad b)] D cy ad A z σ () τ) (hR : 0 + 1 ≤ R.frames ∧ 8 + (1 + 11) + 36 * 0 ≤ R.locals) (hsz : ls.size = nL) (hW : (rest.map fun v => v.category).sum ≤ 8) (hdg : decode cc pc = .ok (.invokevirtual 48, 3)) (kk : ∀ (H : Heap) (locs : List Loc), MS D cy ad A s.heap z τ H locs → W p l e R s m args below meth c H locs 0 0 Q (F0 m (pc + 3) ls (rest))) : W p l e R s m args below meth c H locs 0 0 Q (F0 m pc ls (va_rf (Option.map ad v) :: rest)) :=
  callVN_V (As := []) ek (by decide) rfl ml_X2_48 wi_X0_clear ws_X0_clear rfl wn_X0 wc_X0_clear hd_X0_clear hC hG hM hct hR hsz hW hdg rfl kk
theorem ml_X2_49 : Cond.methodLink RX2 49 yX2_partFor ∈ WALL := WALL_of (List.mem_of_getElem? (i := 561) (by decide +kernel)) (by decide +kernel)
theorem cs_X2_49 {a0 : Int32} {ra : Option Nat} {τ : Mem} {v : Option Nat} {b : Nat} (ek : kT σ 2 v = some b) (hC : CallFix p m c cc nL s args WALL RX2) (hG : GS D cy A s) (hM : MS D cy ad A s.heap z σ H locs) (hct : CtR l yX2_partFor cX2_partFor 2 (some (.object "TariffDesk$Part")) 1 [.ref (ad b), .int a0] D cy ad A z σ ra τ) (hR : 1 + 1 ≤ R.frames ∧ 8 + (2 + 11) + 36 * 1 ≤ R.locals) (hsz : ls.size = nL) (hW : (rest.map fun v => v.category).sum ≤ 8) (hdg : decode cc pc = .ok (.invokevirtual 49, 3)) (kk : ∀ (H : Heap) (locs : List Loc), MS D cy ad A s.heap z τ H locs → W p l e R s m args below meth c H locs 0 0 Q (F0 m (pc + 3) ls (va_rf (Option.map ad ra) :: rest))) : W p l e R s m args below meth c H locs 0 0 Q (F0 m pc ls (.int a0 :: va_rf (Option.map ad v) :: rest)) :=
  callV_R (As := [.int a0]) ek (by decide) rfl ml_X2_49 wi_X2_partFor ws_X2_partFor rfl wn_X2 wc_X2_partFor hd_X2_partFor hC hG hM hct hR hsz hW hdg rfl kk
theorem ml_X2_53 : Cond.methodLinkNest RX2 53 yX0_centsFor "TariffDesk" ∈ NWL := NW_of (List.mem_of_getElem? (i := 567) (by decide +kernel)) rfl
theorem cs_X2_53 {a0 : Int32} {ra : Int64} {τ : Mem} {v : Option Nat} {b : Nat} (ek : kT σ 0 v = some b) (hC : CallFix p m c cc nL s args WALL RX2) (hG : GS D cy A s) (hM : MS D cy ad A s.heap z σ H locs) (hct : CtL l yX0_centsFor cX0_centsFor 8 (some .long) 1 [.ref (ad b), .int a0] D cy ad A z σ ra τ) (hR : 1 + 1 ≤ R.frames ∧ 8 + (8 + 11) + 36 * 1 ≤ R.locals) (hsz : ls.size = nL) (hW : (rest.map fun v => v.category).sum ≤ 8) (hdg : decode cc pc = .ok (.invokevirtual 53, 3)) (kk : ∀ (H : Heap) (locs : List Loc), MS D cy ad A s.heap z τ H locs → W p l e R s m args below meth c H locs 0 0 Q (F0 m (pc + 3) ls (.long ra :: rest))) : W p l e R s m args below meth c H locs 0 0 Q (F0 m pc ls (.int a0 :: va_rf (Option.map ad v) :: rest)) :=
  callVN_L (As := [.int a0]) ek (by decide) rfl ml_X2_53 wi_X0_centsFor ws_X0_centsFor rfl wn_X0 wc_X0_centsFor hd_X0_centsFor hC hG hM hct hR hsz hW hdg rfl kk
theorem ml_X2_59 : Cond.methodLink RX2 59 yX2_partCents ∈ WALL := WALL_of (List.mem_of_getElem? (i := 563) (by decide +kernel)) (by decide +kernel)
theorem cs_X2_59 {a0 : Option Nat} {a1 : Int32} {ra : Int64} {τ : Mem} {v : Option Nat} {b : Nat} (ek : kT σ 2 v = some b) (hC : CallFix p m c cc nL s args WALL RX2) (hG : GS D cy A s) (hM : MS D cy ad A s.heap z σ H locs) (hct : CtL l yX2_partCents cX2_partCents 4 (some .long) 2 [.ref (ad b), va_rf (Option.map ad a0), .int a1] D cy ad A z σ ra τ) (hR : 2 + 1 ≤ R.frames ∧ 8 + (4 + 11) + 36 * 2 ≤ R.locals) (hsz : ls.size = nL) (hW : (rest.map fun v => v.category).sum ≤ 8) (hdg : decode cc pc = .ok (.invokevirtual 59, 3)) (kk : ∀ (H : Heap) (locs : List Loc), MS D cy ad A s.heap z τ H locs → W p l e R s m args below meth c H locs 0 0 Q (F0 m (pc + 3) ls (.long ra :: rest))) : W p l e R s m args below meth c H locs 0 0 Q (F0 m pc ls (.int a1 :: va_rf (Option.map ad a0) :: va_rf (Option.map ad v) :: rest)) :=
  callV_L (As := [va_rf (Option.map ad a0), .int a1]) ek (by decide) rfl ml_X2_59 wi_X2_partCents ws_X2_partCents rfl wn_X2 wc_X2_partCents hd_X2_partCents hC hG hM hct hR hsz hW hdg rfl kk
theorem ml_X3_22 : Cond.methodLink RX3 22 yX3_at ∈ WALL := WALL_of (List.mem_of_getElem? (i := 436) (by decide +kernel)) (by decide +kernel)
theorem cs_X3_22 {a0 : Int32} {ra : Option Nat} {τ : Mem} {v : Option Nat} {b : Nat} (ek : kT σ 3 v = some b) (hC : CallFix p m c cc nL s args WALL RX3) (hG : GS D cy A s) (hM : MS D cy ad A s.heap z σ H locs) (hct : CtR l yX3_at cX3_at 2 (some (.object "TariffDesk$Plan")) 0 [.ref (ad b), .int a0] D cy ad A z σ ra τ) (hR : 0 + 1 ≤ R.frames ∧ 8 + (2 + 11) + 36 * 0 ≤ R.locals) (hsz : ls.size = nL) (hW : (rest.map fun v => v.category).sum ≤ 8) (hdg : decode cc pc = .ok (.invokevirtual 22, 3)) (kk : ∀ (H : Heap) (locs : List Loc), MS D cy ad A s.heap z τ H locs → W p l e R s m args below meth c H locs 0 0 Q (F0 m (pc + 3) ls (va_rf (Option.map ad ra) :: rest))) : W p l e R s m args below meth c H locs 0 0 Q (F0 m pc ls (.int a0 :: va_rf (Option.map ad v) :: rest)) :=
  callV_R (As := [.int a0]) ek (by decide) rfl ml_X3_22 wi_X3_at ws_X3_at rfl wn_X3 wc_X3_at hd_X3_at hC hG hM hct hR hsz hW hdg rfl kk
theorem ml_X3_30 : Cond.methodLinkNest RX3 30 yX2_clear "TariffDesk" ∈ NWL := NW_of (List.mem_of_getElem? (i := 427) (by decide +kernel)) rfl
theorem cs_X3_30  {τ : Mem} {v : Option Nat} {b : Nat} (ek : kT σ 2 v = some b) (hC : CallFix p m c cc nL s args WALL RX3) (hG : GS D cy A s) (hM : MS D cy ad A s.heap z σ H locs) (hct : CtV l yX2_clear cX2_clear 1 none 0 [.ref (ad b)] D cy ad A z σ () τ) (hR : 0 + 1 ≤ R.frames ∧ 8 + (1 + 11) + 36 * 0 ≤ R.locals) (hsz : ls.size = nL) (hW : (rest.map fun v => v.category).sum ≤ 8) (hdg : decode cc pc = .ok (.invokevirtual 30, 3)) (kk : ∀ (H : Heap) (locs : List Loc), MS D cy ad A s.heap z τ H locs → W p l e R s m args below meth c H locs 0 0 Q (F0 m (pc + 3) ls (rest))) : W p l e R s m args below meth c H locs 0 0 Q (F0 m pc ls (va_rf (Option.map ad v) :: rest)) :=
  callVN_V (As := []) ek (by decide) rfl ml_X3_30 wi_X2_clear ws_X2_clear rfl wn_X2 wc_X2_clear hd_X2_clear hC hG hM hct hR hsz hW hdg rfl kk
theorem ml_X4_101 : Cond.methodLink RX4 101 yX4_greatestBehind ∈ WALL := WALL_of (List.mem_of_getElem? (i := 452) (by decide +kernel)) (by decide +kernel)
theorem cs_X4_101 {a0 : Int32} {ra : Int32} {τ : Mem} (hC : CallFix p m c cc nL s args WALL RX4) (hG : GS D cy A s) (hM : MS D cy ad A s.heap z σ H locs) (hct : CtI l yX4_greatestBehind cX4_greatestBehind 1 (some .int) 0 [.int a0] D cy ad A z σ ra τ) (hR : 0 + 1 ≤ R.frames ∧ 8 + (1 + 11) + 36 * 0 ≤ R.locals) (hsz : ls.size = nL) (hW : (rest.map fun v => v.category).sum ≤ 8) (hdg : decode cc pc = .ok (.invokestatic 101, 3)) (kk : ∀ (H : Heap) (locs : List Loc), MS D cy ad A s.heap z τ H locs → W p l e R s m args below meth c H locs 0 0 Q (F0 m (pc + 3) ls (.int ra :: rest))) : W p l e R s m args below meth c H locs 0 0 Q (F0 m pc ls (.int a0 :: rest)) :=
  callS_I (As := [.int a0]) ml_X4_101 wt_X4_greatestBehind wn_X4 wc_X4_greatestBehind hd_X4_greatestBehind hC hG hM hct hR hsz hW hdg rfl kk
theorem ml_X4_104 : Cond.methodLinkNest RX4 104 yX8_isWithin "TariffDesk" ∈ NWL := NW_of (List.mem_of_getElem? (i := 403) (by decide +kernel)) rfl
theorem cs_X4_104 {a0 : Int32} {a1 : Int32} {a2 : Int32} {ra : Int32} {τ : Mem} (hC : CallFix p m c cc nL s args WALL RX4) (hG : GS D cy A s) (hM : MS D cy ad A s.heap z σ H locs) (hct : CtI l yX8_isWithin cX8_isWithin 3 (some .boolean) 0 [.int a0, .int a1, .int a2] D cy ad A z σ ra τ) (hR : 0 + 1 ≤ R.frames ∧ 8 + (3 + 11) + 36 * 0 ≤ R.locals) (hsz : ls.size = nL) (hW : (rest.map fun v => v.category).sum ≤ 8) (hdg : decode cc pc = .ok (.invokestatic 104, 3)) (kk : ∀ (H : Heap) (locs : List Loc), MS D cy ad A s.heap z τ H locs → W p l e R s m args below meth c H locs 0 0 Q (F0 m (pc + 3) ls (.int ra :: rest))) : W p l e R s m args below meth c H locs 0 0 Q (F0 m pc ls (.int a2 :: .int a1 :: .int a0 :: rest)) :=
  callSN_I (As := [.int a0, .int a1, .int a2]) ml_X4_104 wt_X8_isWithin wn_X8 wc_X8_isWithin hd_X8_isWithin hC hG hM hct hR hsz hW hdg rfl kk
theorem ml_X4_108 : Cond.methodLinkNest RX4 108 yX2_partFor "TariffDesk" ∈ NWL := NW_of (List.mem_of_getElem? (i := 456) (by decide +kernel)) rfl
theorem cs_X4_108 {a0 : Int32} {ra : Option Nat} {τ : Mem} {v : Option Nat} {b : Nat} (ek : kT σ 2 v = some b) (hC : CallFix p m c cc nL s args WALL RX4) (hG : GS D cy A s) (hM : MS D cy ad A s.heap z σ H locs) (hct : CtR l yX2_partFor cX2_partFor 2 (some (.object "TariffDesk$Part")) 1 [.ref (ad b), .int a0] D cy ad A z σ ra τ) (hR : 1 + 1 ≤ R.frames ∧ 8 + (2 + 11) + 36 * 1 ≤ R.locals) (hsz : ls.size = nL) (hW : (rest.map fun v => v.category).sum ≤ 8) (hdg : decode cc pc = .ok (.invokevirtual 108, 3)) (kk : ∀ (H : Heap) (locs : List Loc), MS D cy ad A s.heap z τ H locs → W p l e R s m args below meth c H locs 0 0 Q (F0 m (pc + 3) ls (va_rf (Option.map ad ra) :: rest))) : W p l e R s m args below meth c H locs 0 0 Q (F0 m pc ls (.int a0 :: va_rf (Option.map ad v) :: rest)) :=
  callVN_R (As := [.int a0]) ek (by decide) rfl ml_X4_108 wi_X2_partFor ws_X2_partFor rfl wn_X2 wc_X2_partFor hd_X2_partFor hC hG hM hct hR hsz hW hdg rfl kk
theorem ml_X4_112 : Cond.methodLink RX4 112 yX4_putInPlan ∈ WALL := WALL_of (List.mem_of_getElem? (i := 461) (by decide +kernel)) (by decide +kernel)
theorem cs_X4_112 {a0 : Int32} {τ : Mem} {v : Option Nat} {b : Nat} (ek : kT σ 4 v = some b) (hC : CallFix p m c cc nL s args WALL RX4) (hG : GS D cy A s) (hM : MS D cy ad A s.heap z σ H locs) (hct : CtV l yX4_putInPlan cX4_putInPlan 2 none 2 [.ref (ad b), .int a0] D cy ad A z σ () τ) (hR : 2 + 1 ≤ R.frames ∧ 8 + (2 + 11) + 36 * 2 ≤ R.locals) (hsz : ls.size = nL) (hW : (rest.map fun v => v.category).sum ≤ 8) (hdg : decode cc pc = .ok (.invokevirtual 112, 3)) (kk : ∀ (H : Heap) (locs : List Loc), MS D cy ad A s.heap z τ H locs → W p l e R s m args below meth c H locs 0 0 Q (F0 m (pc + 3) ls (rest))) : W p l e R s m args below meth c H locs 0 0 Q (F0 m pc ls (.int a0 :: va_rf (Option.map ad v) :: rest)) :=
  callV_V (As := [.int a0]) ek (by decide) rfl ml_X4_112 wi_X4_putInPlan ws_X4_putInPlan rfl wn_X4 wc_X4_putInPlan hd_X4_putInPlan hC hG hM hct hR hsz hW hdg rfl kk
theorem ml_X4_116 : Cond.methodLink RX4 116 yX4_putInPart ∈ WALL := WALL_of (List.mem_of_getElem? (i := 473) (by decide +kernel)) (by decide +kernel)
theorem cs_X4_116 {a0 : Int32} {τ : Mem} {v : Option Nat} {b : Nat} (ek : kT σ 4 v = some b) (hC : CallFix p m c cc nL s args WALL RX4) (hG : GS D cy A s) (hM : MS D cy ad A s.heap z σ H locs) (hct : CtV l yX4_putInPart cX4_putInPart 2 none 1 [.ref (ad b), .int a0] D cy ad A z σ () τ) (hR : 1 + 1 ≤ R.frames ∧ 8 + (2 + 11) + 36 * 1 ≤ R.locals) (hsz : ls.size = nL) (hW : (rest.map fun v => v.category).sum ≤ 8) (hdg : decode cc pc = .ok (.invokevirtual 116, 3)) (kk : ∀ (H : Heap) (locs : List Loc), MS D cy ad A s.heap z τ H locs → W p l e R s m args below meth c H locs 0 0 Q (F0 m (pc + 3) ls (rest))) : W p l e R s m args below meth c H locs 0 0 Q (F0 m pc ls (.int a0 :: va_rf (Option.map ad v) :: rest)) :=
  callV_V (As := [.int a0]) ek (by decide) rfl ml_X4_116 wi_X4_putInPart ws_X4_putInPart rfl wn_X4 wc_X4_putInPart hd_X4_putInPart hC hG hM hct hR hsz hW hdg rfl kk
theorem ml_X4_122 : Cond.methodLinkNest RX4 122 yX0_lastEnd "TariffDesk" ∈ NWL := NW_of (List.mem_of_getElem? (i := 448) (by decide +kernel)) rfl
theorem cs_X4_122  {ra : Int32} {τ : Mem} {v : Option Nat} {b : Nat} (ek : kT σ 0 v = some b) (hC : CallFix p m c cc nL s args WALL RX4) (hG : GS D cy A s) (hM : MS D cy ad A s.heap z σ H locs) (hct : CtI l yX0_lastEnd cX0_lastEnd 1 (some .int) 0 [.ref (ad b)] D cy ad A z σ ra τ) (hR : 0 + 1 ≤ R.frames ∧ 8 + (1 + 11) + 36 * 0 ≤ R.locals) (hsz : ls.size = nL) (hW : (rest.map fun v => v.category).sum ≤ 8) (hdg : decode cc pc = .ok (.invokevirtual 122, 3)) (kk : ∀ (H : Heap) (locs : List Loc), MS D cy ad A s.heap z τ H locs → W p l e R s m args below meth c H locs 0 0 Q (F0 m (pc + 3) ls (.int ra :: rest))) : W p l e R s m args below meth c H locs 0 0 Q (F0 m pc ls (va_rf (Option.map ad v) :: rest)) :=
  callVN_I (As := []) ek (by decide) rfl ml_X4_122 wi_X0_lastEnd ws_X0_lastEnd rfl wn_X0 wc_X0_lastEnd hd_X0_lastEnd hC hG hM hct hR hsz hW hdg rfl kk
theorem ml_X4_136 : Cond.methodLinkNest RX4 136 yX2_addPart "TariffDesk" ∈ NWL := NW_of (List.mem_of_getElem? (i := 465) (by decide +kernel)) rfl
theorem cs_X4_136 {a0 : Int32} {ra : Option Nat} {τ : Mem} {v : Option Nat} {b : Nat} (ek : kT σ 2 v = some b) (hC : CallFix p m c cc nL s args WALL RX4) (hG : GS D cy A s) (hM : MS D cy ad A s.heap z σ H locs) (hct : CtR l yX2_addPart cX2_addPart 3 (some (.object "TariffDesk$Part")) 1 [.ref (ad b), .int a0] D cy ad A z σ ra τ) (hR : 1 + 1 ≤ R.frames ∧ 8 + (3 + 11) + 36 * 1 ≤ R.locals) (hsz : ls.size = nL) (hW : (rest.map fun v => v.category).sum ≤ 8) (hdg : decode cc pc = .ok (.invokevirtual 136, 3)) (kk : ∀ (H : Heap) (locs : List Loc), MS D cy ad A s.heap z τ H locs → W p l e R s m args below meth c H locs 0 0 Q (F0 m (pc + 3) ls (va_rf (Option.map ad ra) :: rest))) : W p l e R s m args below meth c H locs 0 0 Q (F0 m pc ls (.int a0 :: va_rf (Option.map ad v) :: rest)) :=
  callVN_R (As := [.int a0]) ek (by decide) rfl ml_X4_136 wi_X2_addPart ws_X2_addPart rfl wn_X2 wc_X2_addPart hd_X2_addPart hC hG hM hct hR hsz hW hdg rfl kk
theorem ml_X4_142 : Cond.methodLinkNest RX4 142 yX0_addStep "TariffDesk" ∈ NWL := NW_of (List.mem_of_getElem? (i := 477) (by decide +kernel)) rfl
theorem cs_X4_142 {a0 : Int32} {τ : Mem} {v : Option Nat} {b : Nat} (ek : kT σ 0 v = some b) (hC : CallFix p m c cc nL s args WALL RX4) (hG : GS D cy A s) (hM : MS D cy ad A s.heap z σ H locs) (hct : CtV l yX0_addStep cX0_addStep 2 none 0 [.ref (ad b), .int a0] D cy ad A z σ () τ) (hR : 0 + 1 ≤ R.frames ∧ 8 + (2 + 11) + 36 * 0 ≤ R.locals) (hsz : ls.size = nL) (hW : (rest.map fun v => v.category).sum ≤ 8) (hdg : decode cc pc = .ok (.invokevirtual 142, 3)) (kk : ∀ (H : Heap) (locs : List Loc), MS D cy ad A s.heap z τ H locs → W p l e R s m args below meth c H locs 0 0 Q (F0 m (pc + 3) ls (rest))) : W p l e R s m args below meth c H locs 0 0 Q (F0 m pc ls (.int a0 :: va_rf (Option.map ad v) :: rest)) :=
  callVN_V (As := [.int a0]) ek (by decide) rfl ml_X4_142 wi_X0_addStep ws_X0_addStep rfl wn_X0 wc_X0_addStep hd_X0_addStep hC hG hM hct hR hsz hW hdg rfl kk
theorem ml_X4_145 : Cond.methodLinkNest RX4 145 yX0_priceLastStep "TariffDesk" ∈ NWL := NW_of (List.mem_of_getElem? (i := 481) (by decide +kernel)) rfl
theorem cs_X4_145 {a0 : Int32} {τ : Mem} {v : Option Nat} {b : Nat} (ek : kT σ 0 v = some b) (hC : CallFix p m c cc nL s args WALL RX4) (hG : GS D cy A s) (hM : MS D cy ad A s.heap z σ H locs) (hct : CtV l yX0_priceLastStep cX0_priceLastStep 2 none 0 [.ref (ad b), .int a0] D cy ad A z σ () τ) (hR : 0 + 1 ≤ R.frames ∧ 8 + (2 + 11) + 36 * 0 ≤ R.locals) (hsz : ls.size = nL) (hW : (rest.map fun v => v.category).sum ≤ 8) (hdg : decode cc pc = .ok (.invokevirtual 145, 3)) (kk : ∀ (H : Heap) (locs : List Loc), MS D cy ad A s.heap z τ H locs → W p l e R s m args below meth c H locs 0 0 Q (F0 m (pc + 3) ls (rest))) : W p l e R s m args below meth c H locs 0 0 Q (F0 m pc ls (.int a0 :: va_rf (Option.map ad v) :: rest)) :=
  callVN_V (As := [.int a0]) ek (by decide) rfl ml_X4_145 wi_X0_priceLastStep ws_X0_priceLastStep rfl wn_X0 wc_X0_priceLastStep hd_X0_priceLastStep hC hG hM hct hR hsz hW hdg rfl kk
theorem ml_X4_159 : Cond.methodLinkNest RX4 159 yX6_byteAt "TariffDesk" ∈ NWL := NW_of (List.mem_of_getElem? (i := 389) (by decide +kernel)) rfl
theorem cs_X4_159 {a0 : Int32} {ra : Int32} {τ : Mem} {v : Option Nat} {b : Nat} (ek : kT σ 6 v = some b) (hC : CallFix p m c cc nL s args WALL RX4) (hG : GS D cy A s) (hM : MS D cy ad A s.heap z σ H locs) (hct : CtI l yX6_byteAt cX6_byteAt 2 (some .int) 0 [.ref (ad b), .int a0] D cy ad A z σ ra τ) (hR : 0 + 1 ≤ R.frames ∧ 8 + (2 + 11) + 36 * 0 ≤ R.locals) (hsz : ls.size = nL) (hW : (rest.map fun v => v.category).sum ≤ 8) (hdg : decode cc pc = .ok (.invokevirtual 159, 3)) (kk : ∀ (H : Heap) (locs : List Loc), MS D cy ad A s.heap z τ H locs → W p l e R s m args below meth c H locs 0 0 Q (F0 m (pc + 3) ls (.int ra :: rest))) : W p l e R s m args below meth c H locs 0 0 Q (F0 m pc ls (.int a0 :: va_rf (Option.map ad v) :: rest)) :=
  callVN_I (As := [.int a0]) ek (by decide) rfl ml_X4_159 wi_X6_byteAt ws_X6_byteAt rfl wn_X6 wc_X6_byteAt hd_X6_byteAt hC hG hM hct hR hsz hW hdg rfl kk
theorem ml_X4_162 : Cond.methodLink RX4 162 yX4_isBlank ∈ WALL := WALL_of (List.mem_of_getElem? (i := 393) (by decide +kernel)) (by decide +kernel)
theorem cs_X4_162 {a0 : Int32} {ra : Int32} {τ : Mem} (hC : CallFix p m c cc nL s args WALL RX4) (hG : GS D cy A s) (hM : MS D cy ad A s.heap z σ H locs) (hct : CtI l yX4_isBlank cX4_isBlank 1 (some .boolean) 0 [.int a0] D cy ad A z σ ra τ) (hR : 0 + 1 ≤ R.frames ∧ 8 + (1 + 11) + 36 * 0 ≤ R.locals) (hsz : ls.size = nL) (hW : (rest.map fun v => v.category).sum ≤ 8) (hdg : decode cc pc = .ok (.invokestatic 162, 3)) (kk : ∀ (H : Heap) (locs : List Loc), MS D cy ad A s.heap z τ H locs → W p l e R s m args below meth c H locs 0 0 Q (F0 m (pc + 3) ls (.int ra :: rest))) : W p l e R s m args below meth c H locs 0 0 Q (F0 m pc ls (.int a0 :: rest)) :=
  callS_I (As := [.int a0]) ml_X4_162 wt_X4_isBlank wn_X4 wc_X4_isBlank hd_X4_isBlank hC hG hM hct hR hsz hW hdg rfl kk
theorem ml_X4_171 : Cond.methodLink RX4 171 yX4_scanRun ∈ WALL := WALL_of (List.mem_of_getElem? (i := 399) (by decide +kernel)) (by decide +kernel)
theorem cs_X4_171  {τ : Mem} {v : Option Nat} {b : Nat} (ek : kT σ 4 v = some b) (hC : CallFix p m c cc nL s args WALL RX4) (hG : GS D cy A s) (hM : MS D cy ad A s.heap z σ H locs) (hct : CtV l yX4_scanRun cX4_scanRun 5 none 1 [.ref (ad b)] D cy ad A z σ () τ) (hR : 1 + 1 ≤ R.frames ∧ 8 + (5 + 11) + 36 * 1 ≤ R.locals) (hsz : ls.size = nL) (hW : (rest.map fun v => v.category).sum ≤ 8) (hdg : decode cc pc = .ok (.invokevirtual 171, 3)) (kk : ∀ (H : Heap) (locs : List Loc), MS D cy ad A s.heap z τ H locs → W p l e R s m args below meth c H locs 0 0 Q (F0 m (pc + 3) ls (rest))) : W p l e R s m args below meth c H locs 0 0 Q (F0 m pc ls (va_rf (Option.map ad v) :: rest)) :=
  callV_V (As := []) ek (by decide) rfl ml_X4_171 wi_X4_scanRun ws_X4_scanRun rfl wn_X4 wc_X4_scanRun hd_X4_scanRun hC hG hM hct hR hsz hW hdg rfl kk
theorem ml_X4_174 : Cond.methodLink RX4 174 yX4_wordOf ∈ WALL := WALL_of (List.mem_of_getElem? (i := 406) (by decide +kernel)) (by decide +kernel)
theorem cs_X4_174 {a0 : Int64} {ra : Int32} {τ : Mem} (hC : CallFix p m c cc nL s args WALL RX4) (hG : GS D cy A s) (hM : MS D cy ad A s.heap z σ H locs) (hct : CtI l yX4_wordOf cX4_wordOf 3 (some .int) 0 [.long a0] D cy ad A z σ ra τ) (hR : 0 + 1 ≤ R.frames ∧ 8 + (3 + 11) + 36 * 0 ≤ R.locals) (hsz : ls.size = nL) (hW : (rest.map fun v => v.category).sum ≤ 8) (hdg : decode cc pc = .ok (.invokestatic 174, 3)) (kk : ∀ (H : Heap) (locs : List Loc), MS D cy ad A s.heap z τ H locs → W p l e R s m args below meth c H locs 0 0 Q (F0 m (pc + 3) ls (.int ra :: rest))) : W p l e R s m args below meth c H locs 0 0 Q (F0 m pc ls (.long a0 :: rest)) :=
  callS_I (As := [.long a0]) ml_X4_174 wt_X4_wordOf wn_X4 wc_X4_wordOf hd_X4_wordOf hC hG hM hct hR hsz hW hdg rfl kk
theorem ml_X4_35 : Cond.methodLink RX4 35 yX4_scan ∈ WALL := WALL_of (List.mem_of_getElem? (i := 385) (by decide +kernel)) (by decide +kernel)
theorem cs_X4_35  {τ : Mem} {v : Option Nat} {b : Nat} (ek : kT σ 4 v = some b) (hC : CallFix p m c cc nL s args WALL RX4) (hG : GS D cy A s) (hM : MS D cy ad A s.heap z σ H locs) (hct : CtV l yX4_scan cX4_scan 2 none 2 [.ref (ad b)] D cy ad A z σ () τ) (hR : 2 + 1 ≤ R.frames ∧ 8 + (2 + 11) + 36 * 2 ≤ R.locals) (hsz : ls.size = nL) (hW : (rest.map fun v => v.category).sum ≤ 8) (hdg : decode cc pc = .ok (.invokevirtual 35, 3)) (kk : ∀ (H : Heap) (locs : List Loc), MS D cy ad A s.heap z τ H locs → W p l e R s m args below meth c H locs 0 0 Q (F0 m (pc + 3) ls (rest))) : W p l e R s m args below meth c H locs 0 0 Q (F0 m pc ls (va_rf (Option.map ad v) :: rest)) :=
  callV_V (As := []) ek (by decide) rfl ml_X4_35 wi_X4_scan ws_X4_scan rfl wn_X4 wc_X4_scan hd_X4_scan hC hG hM hct hR hsz hW hdg rfl kk
theorem ml_X4_38 : Cond.methodLink RX4 38 yX4_mayFollow ∈ WALL := WALL_of (List.mem_of_getElem? (i := 411) (by decide +kernel)) (by decide +kernel)
theorem cs_X4_38 {a0 : Int32} {ra : Int32} {τ : Mem} {v : Option Nat} {b : Nat} (ek : kT σ 4 v = some b) (hC : CallFix p m c cc nL s args WALL RX4) (hG : GS D cy A s) (hM : MS D cy ad A s.heap z σ H locs) (hct : CtI l yX4_mayFollow cX4_mayFollow 2 (some .boolean) 0 [.ref (ad b), .int a0] D cy ad A z σ ra τ) (hR : 0 + 1 ≤ R.frames ∧ 8 + (2 + 11) + 36 * 0 ≤ R.locals) (hsz : ls.size = nL) (hW : (rest.map fun v => v.category).sum ≤ 8) (hdg : decode cc pc = .ok (.invokevirtual 38, 3)) (kk : ∀ (H : Heap) (locs : List Loc), MS D cy ad A s.heap z τ H locs → W p l e R s m args below meth c H locs 0 0 Q (F0 m (pc + 3) ls (.int ra :: rest))) : W p l e R s m args below meth c H locs 0 0 Q (F0 m pc ls (.int a0 :: va_rf (Option.map ad v) :: rest)) :=
  callV_I (As := [.int a0]) ek (by decide) rfl ml_X4_38 wi_X4_mayFollow ws_X4_mayFollow rfl wn_X4 wc_X4_mayFollow hd_X4_mayFollow hC hG hM hct hR hsz hW hdg rfl kk
theorem ml_X4_42 : Cond.methodLink RX4 42 yX4_refuse ∈ WALL := WALL_of (List.mem_of_getElem? (i := 415) (by decide +kernel)) (by decide +kernel)
theorem cs_X4_42 {a0 : Int32} {ra : Int32} {τ : Mem} {v : Option Nat} {b : Nat} (ek : kT σ 4 v = some b) (hC : CallFix p m c cc nL s args WALL RX4) (hG : GS D cy A s) (hM : MS D cy ad A s.heap z σ H locs) (hct : CtI l yX4_refuse cX4_refuse 2 (some .boolean) 0 [.ref (ad b), .int a0] D cy ad A z σ ra τ) (hR : 0 + 1 ≤ R.frames ∧ 8 + (2 + 11) + 36 * 0 ≤ R.locals) (hsz : ls.size = nL) (hW : (rest.map fun v => v.category).sum ≤ 8) (hdg : decode cc pc = .ok (.invokevirtual 42, 3)) (kk : ∀ (H : Heap) (locs : List Loc), MS D cy ad A s.heap z τ H locs → W p l e R s m args below meth c H locs 0 0 Q (F0 m (pc + 3) ls (.int ra :: rest))) : W p l e R s m args below meth c H locs 0 0 Q (F0 m pc ls (.int a0 :: va_rf (Option.map ad v) :: rest)) :=
  callV_I (As := [.int a0]) ek (by decide) rfl ml_X4_42 wi_X4_refuse ws_X4_refuse rfl wn_X4 wc_X4_refuse hd_X4_refuse hC hG hM hct hR hsz hW hdg rfl kk
theorem ml_X4_48 : Cond.methodLink RX4 48 yX4_readPair ∈ WALL := WALL_of (List.mem_of_getElem? (i := 419) (by decide +kernel)) (by decide +kernel)
theorem cs_X4_48  {ra : Int32} {τ : Mem} {v : Option Nat} {b : Nat} (ek : kT σ 4 v = some b) (hC : CallFix p m c cc nL s args WALL RX4) (hG : GS D cy A s) (hM : MS D cy ad A s.heap z σ H locs) (hct : CtI l yX4_readPair cX4_readPair 1 (some .boolean) 4 [.ref (ad b)] D cy ad A z σ ra τ) (hR : 4 + 1 ≤ R.frames ∧ 8 + (1 + 11) + 36 * 4 ≤ R.locals) (hsz : ls.size = nL) (hW : (rest.map fun v => v.category).sum ≤ 8) (hdg : decode cc pc = .ok (.invokevirtual 48, 3)) (kk : ∀ (H : Heap) (locs : List Loc), MS D cy ad A s.heap z τ H locs → W p l e R s m args below meth c H locs 0 0 Q (F0 m (pc + 3) ls (.int ra :: rest))) : W p l e R s m args below meth c H locs 0 0 Q (F0 m pc ls (va_rf (Option.map ad v) :: rest)) :=
  callV_I (As := []) ek (by decide) rfl ml_X4_48 wi_X4_readPair ws_X4_readPair rfl wn_X4 wc_X4_readPair hd_X4_readPair hC hG hM hct hR hsz hW hdg rfl kk
theorem ml_X4_52 : Cond.methodLinkNest RX4 52 yX3_nextPlan "TariffDesk" ∈ NWL := NW_of (List.mem_of_getElem? (i := 423) (by decide +kernel)) rfl
theorem cs_X4_52  {ra : Option Nat} {τ : Mem} {v : Option Nat} {b : Nat} (ek : kT σ 3 v = some b) (hC : CallFix p m c cc nL s args WALL RX4) (hG : GS D cy A s) (hM : MS D cy ad A s.heap z σ H locs) (hct : CtR l yX3_nextPlan cX3_nextPlan 2 (some (.object "TariffDesk$Plan")) 1 [.ref (ad b)] D cy ad A z σ ra τ) (hR : 1 + 1 ≤ R.frames ∧ 8 + (2 + 11) + 36 * 1 ≤ R.locals) (hsz : ls.size = nL) (hW : (rest.map fun v => v.category).sum ≤ 8) (hdg : decode cc pc = .ok (.invokevirtual 52, 3)) (kk : ∀ (H : Heap) (locs : List Loc), MS D cy ad A s.heap z τ H locs → W p l e R s m args below meth c H locs 0 0 Q (F0 m (pc + 3) ls (va_rf (Option.map ad ra) :: rest))) : W p l e R s m args below meth c H locs 0 0 Q (F0 m pc ls (va_rf (Option.map ad v) :: rest)) :=
  callVN_R (As := []) ek (by decide) rfl ml_X4_52 wi_X3_nextPlan ws_X3_nextPlan rfl wn_X3 wc_X3_nextPlan hd_X3_nextPlan hC hG hM hct hR hsz hW hdg rfl kk
theorem ml_X4_60 : Cond.methodLink RX4 60 yX4_readName ∈ WALL := WALL_of (List.mem_of_getElem? (i := 428) (by decide +kernel)) (by decide +kernel)
theorem cs_X4_60  {ra : Int32} {τ : Mem} {v : Option Nat} {b : Nat} (ek : kT σ 4 v = some b) (hC : CallFix p m c cc nL s args WALL RX4) (hG : GS D cy A s) (hM : MS D cy ad A s.heap z σ H locs) (hct : CtI l yX4_readName cX4_readName 1 (some .boolean) 3 [.ref (ad b)] D cy ad A z σ ra τ) (hR : 3 + 1 ≤ R.frames ∧ 8 + (1 + 11) + 36 * 3 ≤ R.locals) (hsz : ls.size = nL) (hW : (rest.map fun v => v.category).sum ≤ 8) (hdg : decode cc pc = .ok (.invokevirtual 60, 3)) (kk : ∀ (H : Heap) (locs : List Loc), MS D cy ad A s.heap z τ H locs → W p l e R s m args below meth c H locs 0 0 Q (F0 m (pc + 3) ls (.int ra :: rest))) : W p l e R s m args below meth c H locs 0 0 Q (F0 m pc ls (va_rf (Option.map ad v) :: rest)) :=
  callV_I (As := []) ek (by decide) rfl ml_X4_60 wi_X4_readName ws_X4_readName rfl wn_X4 wc_X4_readName hd_X4_readName hC hG hM hct hR hsz hW hdg rfl kk
theorem ml_X4_72 : Cond.methodLink RX4 72 yX4_readNumber ∈ WALL := WALL_of (List.mem_of_getElem? (i := 440) (by decide +kernel)) (by decide +kernel)
theorem cs_X4_72 {a0 : Int32} {ra : Int32} {τ : Mem} {v : Option Nat} {b : Nat} (ek : kT σ 4 v = some b) (hC : CallFix p m c cc nL s args WALL RX4) (hG : GS D cy A s) (hM : MS D cy ad A s.heap z σ H locs) (hct : CtI l yX4_readNumber cX4_readNumber 2 (some .boolean) 3 [.ref (ad b), .int a0] D cy ad A z σ ra τ) (hR : 3 + 1 ≤ R.frames ∧ 8 + (2 + 11) + 36 * 3 ≤ R.locals) (hsz : ls.size = nL) (hW : (rest.map fun v => v.category).sum ≤ 8) (hdg : decode cc pc = .ok (.invokevirtual 72, 3)) (kk : ∀ (H : Heap) (locs : List Loc), MS D cy ad A s.heap z τ H locs → W p l e R s m args below meth c H locs 0 0 Q (F0 m (pc + 3) ls (.int ra :: rest))) : W p l e R s m args below meth c H locs 0 0 Q (F0 m pc ls (.int a0 :: va_rf (Option.map ad v) :: rest)) :=
  callV_I (As := [.int a0]) ek (by decide) rfl ml_X4_72 wi_X4_readNumber ws_X4_readNumber rfl wn_X4 wc_X4_readNumber hd_X4_readNumber hC hG hM hct hR hsz hW hdg rfl kk
theorem ml_X4_82 : Cond.methodLinkNest RX4 82 yX3_hasName "TariffDesk" ∈ NWL := NW_of (List.mem_of_getElem? (i := 432) (by decide +kernel)) rfl
theorem cs_X4_82 {a0 : Int64} {ra : Int32} {τ : Mem} {v : Option Nat} {b : Nat} (ek : kT σ 3 v = some b) (hC : CallFix p m c cc nL s args WALL RX4) (hG : GS D cy A s) (hM : MS D cy ad A s.heap z σ H locs) (hct : CtI l yX3_hasName cX3_hasName 5 (some .boolean) 1 [.ref (ad b), .long a0] D cy ad A z σ ra τ) (hR : 1 + 1 ≤ R.frames ∧ 8 + (5 + 11) + 36 * 1 ≤ R.locals) (hsz : ls.size = nL) (hW : (rest.map fun v => v.category).sum ≤ 8) (hdg : decode cc pc = .ok (.invokevirtual 82, 3)) (kk : ∀ (H : Heap) (locs : List Loc), MS D cy ad A s.heap z τ H locs → W p l e R s m args below meth c H locs 0 0 Q (F0 m (pc + 3) ls (.int ra :: rest))) : W p l e R s m args below meth c H locs 0 0 Q (F0 m pc ls (.long a0 :: va_rf (Option.map ad v) :: rest)) :=
  callVN_I (As := [.long a0]) ek (by decide) rfl ml_X4_82 wi_X3_hasName ws_X3_hasName rfl wn_X3 wc_X3_hasName hd_X3_hasName hC hG hM hct hR hsz hW hdg rfl kk
theorem ml_X4_97 : Cond.methodLink RX4 97 yX4_leastBehind ∈ WALL := WALL_of (List.mem_of_getElem? (i := 444) (by decide +kernel)) (by decide +kernel)
theorem cs_X4_97 {a0 : Int32} {ra : Int32} {τ : Mem} {v : Option Nat} {b : Nat} (ek : kT σ 4 v = some b) (hC : CallFix p m c cc nL s args WALL RX4) (hG : GS D cy A s) (hM : MS D cy ad A s.heap z σ H locs) (hct : CtI l yX4_leastBehind cX4_leastBehind 2 (some .int) 1 [.ref (ad b), .int a0] D cy ad A z σ ra τ) (hR : 1 + 1 ≤ R.frames ∧ 8 + (2 + 11) + 36 * 1 ≤ R.locals) (hsz : ls.size = nL) (hW : (rest.map fun v => v.category).sum ≤ 8) (hdg : decode cc pc = .ok (.invokevirtual 97, 3)) (kk : ∀ (H : Heap) (locs : List Loc), MS D cy ad A s.heap z τ H locs → W p l e R s m args below meth c H locs 0 0 Q (F0 m (pc + 3) ls (.int ra :: rest))) : W p l e R s m args below meth c H locs 0 0 Q (F0 m pc ls (.int a0 :: va_rf (Option.map ad v) :: rest)) :=
  callV_I (As := [.int a0]) ek (by decide) rfl ml_X4_97 wi_X4_leastBehind ws_X4_leastBehind rfl wn_X4 wc_X4_leastBehind hd_X4_leastBehind hC hG hM hct hR hsz hW hdg rfl kk
theorem ml_X5_100 : Cond.methodLinkNest RX5 100 yX2_monthCents "TariffDesk" ∈ NWL := NW_of (List.mem_of_getElem? (i := 557) (by decide +kernel)) rfl
theorem cs_X5_100 {a0 : Option Nat} {ra : Int64} {τ : Mem} {v : Option Nat} {b : Nat} (ek : kT σ 2 v = some b) (hC : CallFix p m c cc nL s args WALL RX5) (hG : GS D cy A s) (hM : MS D cy ad A s.heap z σ H locs) (hct : CtL l yX2_monthCents cX2_monthCents 5 (some .long) 3 [.ref (ad b), va_rf (Option.map ad a0)] D cy ad A z σ ra τ) (hR : 3 + 1 ≤ R.frames ∧ 8 + (5 + 11) + 36 * 3 ≤ R.locals) (hsz : ls.size = nL) (hW : (rest.map fun v => v.category).sum ≤ 8) (hdg : decode cc pc = .ok (.invokevirtual 100, 3)) (kk : ∀ (H : Heap) (locs : List Loc), MS D cy ad A s.heap z τ H locs → W p l e R s m args below meth c H locs 0 0 Q (F0 m (pc + 3) ls (.long ra :: rest))) : W p l e R s m args below meth c H locs 0 0 Q (F0 m pc ls (va_rf (Option.map ad a0) :: va_rf (Option.map ad v) :: rest)) :=
  callVN_L (As := [va_rf (Option.map ad a0)]) ek (by decide) rfl ml_X5_100 wi_X2_monthCents ws_X2_monthCents rfl wn_X2 wc_X2_monthCents hd_X2_monthCents hC hG hM hct hR hsz hW hdg rfl kk
theorem ml_X5_103 : Cond.methodLinkNest RX5 103 yX2_mayBeginIn "TariffDesk" ∈ NWL := NW_of (List.mem_of_getElem? (i := 577) (by decide +kernel)) rfl
theorem cs_X5_103 {a0 : Int32} {ra : Int32} {τ : Mem} {v : Option Nat} {b : Nat} (ek : kT σ 2 v = some b) (hC : CallFix p m c cc nL s args WALL RX5) (hG : GS D cy A s) (hM : MS D cy ad A s.heap z σ H locs) (hct : CtI l yX2_mayBeginIn cX2_mayBeginIn 2 (some .boolean) 1 [.ref (ad b), .int a0] D cy ad A z σ ra τ) (hR : 1 + 1 ≤ R.frames ∧ 8 + (2 + 11) + 36 * 1 ≤ R.locals) (hsz : ls.size = nL) (hW : (rest.map fun v => v.category).sum ≤ 8) (hdg : decode cc pc = .ok (.invokevirtual 103, 3)) (kk : ∀ (H : Heap) (locs : List Loc), MS D cy ad A s.heap z τ H locs → W p l e R s m args below meth c H locs 0 0 Q (F0 m (pc + 3) ls (.int ra :: rest))) : W p l e R s m args below meth c H locs 0 0 Q (F0 m pc ls (.int a0 :: va_rf (Option.map ad v) :: rest)) :=
  callVN_I (As := [.int a0]) ek (by decide) rfl ml_X5_103 wi_X2_mayBeginIn ws_X2_mayBeginIn rfl wn_X2 wc_X2_mayBeginIn hd_X2_mayBeginIn hC hG hM hct hR hsz hW hdg rfl kk
theorem ml_X5_107 : Cond.methodLinkNest RX5 107 yX8_plus "TariffDesk" ∈ NWL := NW_of (List.mem_of_getElem? (i := 581) (by decide +kernel)) rfl
theorem cs_X5_107 {a0 : Int64} {a1 : Int64} {ra : Int64} {τ : Mem} (hC : CallFix p m c cc nL s args WALL RX5) (hG : GS D cy A s) (hM : MS D cy ad A s.heap z σ H locs) (hct : CtL l yX8_plus cX8_plus 4 (some .long) 0 [.long a0, .long a1] D cy ad A z σ ra τ) (hR : 0 + 1 ≤ R.frames ∧ 8 + (4 + 11) + 36 * 0 ≤ R.locals) (hsz : ls.size = nL) (hW : (rest.map fun v => v.category).sum ≤ 8) (hdg : decode cc pc = .ok (.invokestatic 107, 3)) (kk : ∀ (H : Heap) (locs : List Loc), MS D cy ad A s.heap z τ H locs → W p l e R s m args below meth c H locs 0 0 Q (F0 m (pc + 3) ls (.long ra :: rest))) : W p l e R s m args below meth c H locs 0 0 Q (F0 m pc ls (.long a1 :: .long a0 :: rest)) :=
  callSN_L (As := [.long a0, .long a1]) ml_X5_107 wt_X8_plus wn_X8 wc_X8_plus hd_X8_plus hC hG hM hct hR hsz hW hdg rfl kk
theorem ml_X5_111 : Cond.methodLink RX5 111 yX5_keptCents ∈ WALL := WALL_of (List.mem_of_getElem? (i := 588) (by decide +kernel)) (by decide +kernel)
theorem cs_X5_111 {a0 : Int32} {a1 : Int32} {ra : Int64} {τ : Mem} {v : Option Nat} {b : Nat} (ek : kT σ 5 v = some b) (hC : CallFix p m c cc nL s args WALL RX5) (hG : GS D cy A s) (hM : MS D cy ad A s.heap z σ H locs) (hct : CtL l yX5_keptCents cX5_keptCents 5 (some .long) 2 [.ref (ad b), .int a0, .int a1] D cy ad A z σ ra τ) (hR : 2 + 1 ≤ R.frames ∧ 8 + (5 + 11) + 36 * 2 ≤ R.locals) (hsz : ls.size = nL) (hW : (rest.map fun v => v.category).sum ≤ 8) (hdg : decode cc pc = .ok (.invokevirtual 111, 3)) (kk : ∀ (H : Heap) (locs : List Loc), MS D cy ad A s.heap z τ H locs → W p l e R s m args below meth c H locs 0 0 Q (F0 m (pc + 3) ls (.long ra :: rest))) : W p l e R s m args below meth c H locs 0 0 Q (F0 m pc ls (.int a1 :: .int a0 :: va_rf (Option.map ad v) :: rest)) :=
  callV_L (As := [.int a0, .int a1]) ek (by decide) rfl ml_X5_111 wi_X5_keptCents ws_X5_keptCents rfl wn_X5 wc_X5_keptCents hd_X5_keptCents hC hG hM hct hR hsz hW hdg rfl kk
theorem ml_X5_115 : Cond.methodLinkNest RX5 115 yX8_isCheaper "TariffDesk" ∈ NWL := NW_of (List.mem_of_getElem? (i := 592) (by decide +kernel)) rfl
theorem cs_X5_115 {a0 : Int64} {a1 : Int64} {ra : Int32} {τ : Mem} (hC : CallFix p m c cc nL s args WALL RX5) (hG : GS D cy A s) (hM : MS D cy ad A s.heap z σ H locs) (hct : CtI l yX8_isCheaper cX8_isCheaper 4 (some .boolean) 0 [.long a0, .long a1] D cy ad A z σ ra τ) (hR : 0 + 1 ≤ R.frames ∧ 8 + (4 + 11) + 36 * 0 ≤ R.locals) (hsz : ls.size = nL) (hW : (rest.map fun v => v.category).sum ≤ 8) (hdg : decode cc pc = .ok (.invokestatic 115, 3)) (kk : ∀ (H : Heap) (locs : List Loc), MS D cy ad A s.heap z τ H locs → W p l e R s m args below meth c H locs 0 0 Q (F0 m (pc + 3) ls (.int ra :: rest))) : W p l e R s m args below meth c H locs 0 0 Q (F0 m pc ls (.long a1 :: .long a0 :: rest)) :=
  callSN_I (As := [.long a0, .long a1]) ml_X5_115 wt_X8_isCheaper wn_X8 wc_X8_isCheaper hd_X8_isCheaper hC hG hM hct hR hsz hW hdg rfl kk
theorem ml_X5_45 : Cond.methodLinkNest RX5 45 yX7_together "TariffDesk" ∈ NWL := NW_of (List.mem_of_getElem? (i := 542) (by decide +kernel)) rfl
theorem cs_X5_45 {a0 : Int32} {a1 : Int32} {ra : Option Nat} {τ : Mem} {v : Option Nat} {b : Nat} (ek : kT σ 7 v = some b) (hC : CallFix p m c cc nL s args WALL RX5) (hG : GS D cy A s) (hM : MS D cy ad A s.heap z σ H locs) (hct : CtR l yX7_together cX7_together 6 (some (.array .int)) 3 [.ref (ad b), .int a0, .int a1] D cy ad A z σ ra τ) (hR : 3 + 1 ≤ R.frames ∧ 8 + (6 + 11) + 36 * 3 ≤ R.locals) (hsz : ls.size = nL) (hW : (rest.map fun v => v.category).sum ≤ 8) (hdg : decode cc pc = .ok (.invokevirtual 45, 3)) (kk : ∀ (H : Heap) (locs : List Loc), MS D cy ad A s.heap z τ H locs → W p l e R s m args below meth c H locs 0 0 Q (F0 m (pc + 3) ls (va_rf (Option.map ad ra) :: rest))) : W p l e R s m args below meth c H locs 0 0 Q (F0 m pc ls (.int a1 :: .int a0 :: va_rf (Option.map ad v) :: rest)) :=
  callVN_R (As := [.int a0, .int a1]) ek (by decide) rfl ml_X5_45 wi_X7_together ws_X7_together rfl wn_X7 wc_X7_together hd_X7_together hC hG hM hct hR hsz hW hdg rfl kk
theorem ml_X5_51 : Cond.methodLink RX5 51 yX5_fillMonthCents ∈ WALL := WALL_of (List.mem_of_getElem? (i := 547) (by decide +kernel)) (by decide +kernel)
theorem cs_X5_51 {a0 : Option Nat} {a1 : Int32} {τ : Mem} {v : Option Nat} {b : Nat} (ek : kT σ 5 v = some b) (hC : CallFix p m c cc nL s args WALL RX5) (hG : GS D cy A s) (hM : MS D cy ad A s.heap z σ H locs) (hct : CtV l yX5_fillMonthCents cX5_fillMonthCents 5 none 4 [.ref (ad b), va_rf (Option.map ad a0), .int a1] D cy ad A z σ () τ) (hR : 4 + 1 ≤ R.frames ∧ 8 + (5 + 11) + 36 * 4 ≤ R.locals) (hsz : ls.size = nL) (hW : (rest.map fun v => v.category).sum ≤ 8) (hdg : decode cc pc = .ok (.invokevirtual 51, 3)) (kk : ∀ (H : Heap) (locs : List Loc), MS D cy ad A s.heap z τ H locs → W p l e R s m args below meth c H locs 0 0 Q (F0 m (pc + 3) ls (rest))) : W p l e R s m args below meth c H locs 0 0 Q (F0 m pc ls (.int a1 :: va_rf (Option.map ad a0) :: va_rf (Option.map ad v) :: rest)) :=
  callV_V (As := [va_rf (Option.map ad a0), .int a1]) ek (by decide) rfl ml_X5_51 wi_X5_fillMonthCents ws_X5_fillMonthCents rfl wn_X5 wc_X5_fillMonthCents hd_X5_fillMonthCents hC hG hM hct hR hsz hW hdg rfl kk
theorem ml_X5_60 : Cond.methodLink RX5 60 yX5_fillBegun ∈ WALL := WALL_of (List.mem_of_getElem? (i := 573) (by decide +kernel)) (by decide +kernel)
theorem cs_X5_60 {a0 : Int32} {a1 : Int32} {τ : Mem} {v : Option Nat} {b : Nat} (ek : kT σ 5 v = some b) (hC : CallFix p m c cc nL s args WALL RX5) (hG : GS D cy A s) (hM : MS D cy ad A s.heap z σ H locs) (hct : CtV l yX5_fillBegun cX5_fillBegun 8 none 2 [.ref (ad b), .int a0, .int a1] D cy ad A z σ () τ) (hR : 2 + 1 ≤ R.frames ∧ 8 + (8 + 11) + 36 * 2 ≤ R.locals) (hsz : ls.size = nL) (hW : (rest.map fun v => v.category).sum ≤ 8) (hdg : decode cc pc = .ok (.invokevirtual 60, 3)) (kk : ∀ (H : Heap) (locs : List Loc), MS D cy ad A s.heap z τ H locs → W p l e R s m args below meth c H locs 0 0 Q (F0 m (pc + 3) ls (rest))) : W p l e R s m args below meth c H locs 0 0 Q (F0 m pc ls (.int a1 :: .int a0 :: va_rf (Option.map ad v) :: rest)) :=
  callV_V (As := [.int a0, .int a1]) ek (by decide) rfl ml_X5_60 wi_X5_fillBegun ws_X5_fillBegun rfl wn_X5 wc_X5_fillBegun hd_X5_fillBegun hC hG hM hct hR hsz hW hdg rfl kk
theorem ml_X5_64 : Cond.methodLink RX5 64 yX5_fillFreed ∈ WALL := WALL_of (List.mem_of_getElem? (i := 584) (by decide +kernel)) (by decide +kernel)
theorem cs_X5_64 {a0 : Int32} {a1 : Int32} {a2 : Int32} {τ : Mem} {v : Option Nat} {b : Nat} (ek : kT σ 5 v = some b) (hC : CallFix p m c cc nL s args WALL RX5) (hG : GS D cy A s) (hM : MS D cy ad A s.heap z σ H locs) (hct : CtV l yX5_fillFreed cX5_fillFreed 10 none 3 [.ref (ad b), .int a0, .int a1, .int a2] D cy ad A z σ () τ) (hR : 3 + 1 ≤ R.frames ∧ 8 + (10 + 11) + 36 * 3 ≤ R.locals) (hsz : ls.size = nL) (hW : (rest.map fun v => v.category).sum ≤ 8) (hdg : decode cc pc = .ok (.invokevirtual 64, 3)) (kk : ∀ (H : Heap) (locs : List Loc), MS D cy ad A s.heap z τ H locs → W p l e R s m args below meth c H locs 0 0 Q (F0 m (pc + 3) ls (rest))) : W p l e R s m args below meth c H locs 0 0 Q (F0 m pc ls (.int a2 :: .int a1 :: .int a0 :: va_rf (Option.map ad v) :: rest)) :=
  callV_V (As := [.int a0, .int a1, .int a2]) ek (by decide) rfl ml_X5_64 wi_X5_fillFreed ws_X5_fillFreed rfl wn_X5 wc_X5_fillFreed hd_X5_fillFreed hC hG hM hct hR hsz hW hdg rfl kk
theorem ml_X5_68 : Cond.methodLink RX5 68 yX5_chooseFirst ∈ WALL := WALL_of (List.mem_of_getElem? (i := 595) (by decide +kernel)) (by decide +kernel)
theorem cs_X5_68  {ra : Int64} {τ : Mem} {v : Option Nat} {b : Nat} (ek : kT σ 5 v = some b) (hC : CallFix p m c cc nL s args WALL RX5) (hG : GS D cy A s) (hM : MS D cy ad A s.heap z σ H locs) (hct : CtL l yX5_chooseFirst cX5_chooseFirst 6 (some .long) 2 [.ref (ad b)] D cy ad A z σ ra τ) (hR : 2 + 1 ≤ R.frames ∧ 8 + (6 + 11) + 36 * 2 ≤ R.locals) (hsz : ls.size = nL) (hW : (rest.map fun v => v.category).sum ≤ 8) (hdg : decode cc pc = .ok (.invokevirtual 68, 3)) (kk : ∀ (H : Heap) (locs : List Loc), MS D cy ad A s.heap z τ H locs → W p l e R s m args below meth c H locs 0 0 Q (F0 m (pc + 3) ls (.long ra :: rest))) : W p l e R s m args below meth c H locs 0 0 Q (F0 m pc ls (va_rf (Option.map ad v) :: rest)) :=
  callV_L (As := []) ek (by decide) rfl ml_X5_68 wi_X5_chooseFirst ws_X5_chooseFirst rfl wn_X5 wc_X5_chooseFirst hd_X5_chooseFirst hC hG hM hct hR hsz hW hdg rfl kk
theorem ml_X5_75 : Cond.methodLink RX5 75 yX5_termOf ∈ WALL := WALL_of (List.mem_of_getElem? (i := 603) (by decide +kernel)) (by decide +kernel)
theorem cs_X5_75 {a0 : Int32} {ra : Int32} {τ : Mem} {v : Option Nat} {b : Nat} (ek : kT σ 5 v = some b) (hC : CallFix p m c cc nL s args WALL RX5) (hG : GS D cy A s) (hM : MS D cy ad A s.heap z σ H locs) (hct : CtI l yX5_termOf cX5_termOf 3 (some .int) 1 [.ref (ad b), .int a0] D cy ad A z σ ra τ) (hR : 1 + 1 ≤ R.frames ∧ 8 + (3 + 11) + 36 * 1 ≤ R.locals) (hsz : ls.size = nL) (hW : (rest.map fun v => v.category).sum ≤ 8) (hdg : decode cc pc = .ok (.invokevirtual 75, 3)) (kk : ∀ (H : Heap) (locs : List Loc), MS D cy ad A s.heap z τ H locs → W p l e R s m args below meth c H locs 0 0 Q (F0 m (pc + 3) ls (.int ra :: rest))) : W p l e R s m args below meth c H locs 0 0 Q (F0 m pc ls (.int a0 :: va_rf (Option.map ad v) :: rest)) :=
  callV_I (As := [.int a0]) ek (by decide) rfl ml_X5_75 wi_X5_termOf ws_X5_termOf rfl wn_X5 wc_X5_termOf hd_X5_termOf hC hG hM hct hR hsz hW hdg rfl kk
theorem ml_X5_79 : Cond.methodLink RX5 79 yX5_choiceAt ∈ WALL := WALL_of (List.mem_of_getElem? (i := 607) (by decide +kernel)) (by decide +kernel)
theorem cs_X5_79 {a0 : Int32} {a1 : Int32} {ra : Int32} {τ : Mem} {v : Option Nat} {b : Nat} (ek : kT σ 5 v = some b) (hC : CallFix p m c cc nL s args WALL RX5) (hG : GS D cy A s) (hM : MS D cy ad A s.heap z σ H locs) (hct : CtI l yX5_choiceAt cX5_choiceAt 3 (some .int) 2 [.ref (ad b), .int a0, .int a1] D cy ad A z σ ra τ) (hR : 2 + 1 ≤ R.frames ∧ 8 + (3 + 11) + 36 * 2 ≤ R.locals) (hsz : ls.size = nL) (hW : (rest.map fun v => v.category).sum ≤ 8) (hdg : decode cc pc = .ok (.invokevirtual 79, 3)) (kk : ∀ (H : Heap) (locs : List Loc), MS D cy ad A s.heap z τ H locs → W p l e R s m args below meth c H locs 0 0 Q (F0 m (pc + 3) ls (.int ra :: rest))) : W p l e R s m args below meth c H locs 0 0 Q (F0 m pc ls (.int a1 :: .int a0 :: va_rf (Option.map ad v) :: rest)) :=
  callV_I (As := [.int a0, .int a1]) ek (by decide) rfl ml_X5_79 wi_X5_choiceAt ws_X5_choiceAt rfl wn_X5 wc_X5_choiceAt hd_X5_choiceAt hC hG hM hct hR hsz hW hdg rfl kk
theorem ml_X5_82 : Cond.methodLinkNest RX5 82 yX8_isWithin "TariffDesk" ∈ NWL := NW_of (List.mem_of_getElem? (i := 555) (by decide +kernel)) rfl
theorem cs_X5_82 {a0 : Int32} {a1 : Int32} {a2 : Int32} {ra : Int32} {τ : Mem} (hC : CallFix p m c cc nL s args WALL RX5) (hG : GS D cy A s) (hM : MS D cy ad A s.heap z σ H locs) (hct : CtI l yX8_isWithin cX8_isWithin 3 (some .boolean) 0 [.int a0, .int a1, .int a2] D cy ad A z σ ra τ) (hR : 0 + 1 ≤ R.frames ∧ 8 + (3 + 11) + 36 * 0 ≤ R.locals) (hsz : ls.size = nL) (hW : (rest.map fun v => v.category).sum ≤ 8) (hdg : decode cc pc = .ok (.invokestatic 82, 3)) (kk : ∀ (H : Heap) (locs : List Loc), MS D cy ad A s.heap z τ H locs → W p l e R s m args below meth c H locs 0 0 Q (F0 m (pc + 3) ls (.int ra :: rest))) : W p l e R s m args below meth c H locs 0 0 Q (F0 m pc ls (.int a2 :: .int a1 :: .int a0 :: rest)) :=
  callSN_I (As := [.int a0, .int a1, .int a2]) ml_X5_82 wt_X8_isWithin wn_X8 wc_X8_isWithin hd_X8_isWithin hC hG hM hct hR hsz hW hdg rfl kk
theorem ml_X5_86 : Cond.methodLinkNest RX5 86 yX3_at "TariffDesk" ∈ NWL := NW_of (List.mem_of_getElem? (i := 551) (by decide +kernel)) rfl
theorem cs_X5_86 {a0 : Int32} {ra : Option Nat} {τ : Mem} {v : Option Nat} {b : Nat} (ek : kT σ 3 v = some b) (hC : CallFix p m c cc nL s args WALL RX5) (hG : GS D cy A s) (hM : MS D cy ad A s.heap z σ H locs) (hct : CtR l yX3_at cX3_at 2 (some (.object "TariffDesk$Plan")) 0 [.ref (ad b), .int a0] D cy ad A z σ ra τ) (hR : 0 + 1 ≤ R.frames ∧ 8 + (2 + 11) + 36 * 0 ≤ R.locals) (hsz : ls.size = nL) (hW : (rest.map fun v => v.category).sum ≤ 8) (hdg : decode cc pc = .ok (.invokevirtual 86, 3)) (kk : ∀ (H : Heap) (locs : List Loc), MS D cy ad A s.heap z τ H locs → W p l e R s m args below meth c H locs 0 0 Q (F0 m (pc + 3) ls (va_rf (Option.map ad ra) :: rest))) : W p l e R s m args below meth c H locs 0 0 Q (F0 m pc ls (.int a0 :: va_rf (Option.map ad v) :: rest)) :=
  callVN_R (As := [.int a0]) ek (by decide) rfl ml_X5_86 wi_X3_at ws_X3_at rfl wn_X3 wc_X3_at hd_X3_at hC hG hM hct hR hsz hW hdg rfl kk
theorem ml_X5_95 : Cond.methodLink RX5 95 yX5_slot ∈ WALL := WALL_of (List.mem_of_getElem? (i := 552) (by decide +kernel)) (by decide +kernel)
theorem cs_X5_95 {a0 : Int32} {a1 : Int32} {ra : Int32} {τ : Mem} (hC : CallFix p m c cc nL s args WALL RX5) (hG : GS D cy A s) (hM : MS D cy ad A s.heap z σ H locs) (hct : CtI l yX5_slot cX5_slot 2 (some .int) 1 [.int a0, .int a1] D cy ad A z σ ra τ) (hR : 1 + 1 ≤ R.frames ∧ 8 + (2 + 11) + 36 * 1 ≤ R.locals) (hsz : ls.size = nL) (hW : (rest.map fun v => v.category).sum ≤ 8) (hdg : decode cc pc = .ok (.invokestatic 95, 3)) (kk : ∀ (H : Heap) (locs : List Loc), MS D cy ad A s.heap z τ H locs → W p l e R s m args below meth c H locs 0 0 Q (F0 m (pc + 3) ls (.int ra :: rest))) : W p l e R s m args below meth c H locs 0 0 Q (F0 m pc ls (.int a1 :: .int a0 :: rest)) :=
  callS_I (As := [.int a0, .int a1]) ml_X5_95 wt_X5_slot wn_X5 wc_X5_slot hd_X5_slot hC hG hM hct hR hsz hW hdg rfl kk
theorem ml_X7_18 : Cond.methodLinkNest RX7 18 yX8_isWithin "TariffDesk" ∈ NWL := NW_of (List.mem_of_getElem? (i := 510) (by decide +kernel)) rfl
theorem cs_X7_18 {a0 : Int32} {a1 : Int32} {a2 : Int32} {ra : Int32} {τ : Mem} (hC : CallFix p m c cc nL s args WALL RX7) (hG : GS D cy A s) (hM : MS D cy ad A s.heap z σ H locs) (hct : CtI l yX8_isWithin cX8_isWithin 3 (some .boolean) 0 [.int a0, .int a1, .int a2] D cy ad A z σ ra τ) (hR : 0 + 1 ≤ R.frames ∧ 8 + (3 + 11) + 36 * 0 ≤ R.locals) (hsz : ls.size = nL) (hW : (rest.map fun v => v.category).sum ≤ 8) (hdg : decode cc pc = .ok (.invokestatic 18, 3)) (kk : ∀ (H : Heap) (locs : List Loc), MS D cy ad A s.heap z τ H locs → W p l e R s m args below meth c H locs 0 0 Q (F0 m (pc + 3) ls (.int ra :: rest))) : W p l e R s m args below meth c H locs 0 0 Q (F0 m pc ls (.int a2 :: .int a1 :: .int a0 :: rest)) :=
  callSN_I (As := [.int a0, .int a1, .int a2]) ml_X7_18 wt_X8_isWithin wn_X8 wc_X8_isWithin hd_X8_isWithin hC hG hM hct hR hsz hW hdg rfl kk
theorem ml_X7_22 : Cond.methodLink RX7 22 yX7_slot ∈ WALL := WALL_of (List.mem_of_getElem? (i := 507) (by decide +kernel)) (by decide +kernel)
theorem cs_X7_22 {a0 : Int32} {a1 : Int32} {a2 : Int32} {ra : Int32} {τ : Mem} (hC : CallFix p m c cc nL s args WALL RX7) (hG : GS D cy A s) (hM : MS D cy ad A s.heap z σ H locs) (hct : CtI l yX7_slot cX7_slot 3 (some .int) 1 [.int a0, .int a1, .int a2] D cy ad A z σ ra τ) (hR : 1 + 1 ≤ R.frames ∧ 8 + (3 + 11) + 36 * 1 ≤ R.locals) (hsz : ls.size = nL) (hW : (rest.map fun v => v.category).sum ≤ 8) (hdg : decode cc pc = .ok (.invokestatic 22, 3)) (kk : ∀ (H : Heap) (locs : List Loc), MS D cy ad A s.heap z τ H locs → W p l e R s m args below meth c H locs 0 0 Q (F0 m (pc + 3) ls (.int ra :: rest))) : W p l e R s m args below meth c H locs 0 0 Q (F0 m pc ls (.int a2 :: .int a1 :: .int a0 :: rest)) :=
  callS_I (As := [.int a0, .int a1, .int a2]) ml_X7_22 wt_X7_slot wn_X7 wc_X7_slot hd_X7_slot hC hG hM hct hR hsz hW hdg rfl kk
theorem ml_X7_32 : Cond.methodLink RX7 32 yX7_numberAt ∈ WALL := WALL_of (List.mem_of_getElem? (i := 511) (by decide +kernel)) (by decide +kernel)
theorem cs_X7_32 {a0 : Option Nat} {a1 : Int32} {ra : Int32} {τ : Mem} (hC : CallFix p m c cc nL s args WALL RX7) (hG : GS D cy A s) (hM : MS D cy ad A s.heap z σ H locs) (hct : CtI l yX7_numberAt cX7_numberAt 2 (some .int) 1 [va_rf (Option.map ad a0), .int a1] D cy ad A z σ ra τ) (hR : 1 + 1 ≤ R.frames ∧ 8 + (2 + 11) + 36 * 1 ≤ R.locals) (hsz : ls.size = nL) (hW : (rest.map fun v => v.category).sum ≤ 8) (hdg : decode cc pc = .ok (.invokestatic 32, 3)) (kk : ∀ (H : Heap) (locs : List Loc), MS D cy ad A s.heap z τ H locs → W p l e R s m args below meth c H locs 0 0 Q (F0 m (pc + 3) ls (.int ra :: rest))) : W p l e R s m args below meth c H locs 0 0 Q (F0 m pc ls (.int a1 :: va_rf (Option.map ad a0) :: rest)) :=
  callS_I (As := [va_rf (Option.map ad a0), .int a1]) ml_X7_32 wt_X7_numberAt wn_X7 wc_X7_numberAt hd_X7_numberAt hC hG hM hct hR hsz hW hdg rfl kk
theorem ml_X7_36 : Cond.methodLinkNest RX7 36 yX6_byteAt "TariffDesk" ∈ NWL := NW_of (List.mem_of_getElem? (i := 514) (by decide +kernel)) rfl
theorem cs_X7_36 {a0 : Int32} {ra : Int32} {τ : Mem} {v : Option Nat} {b : Nat} (ek : kT σ 6 v = some b) (hC : CallFix p m c cc nL s args WALL RX7) (hG : GS D cy A s) (hM : MS D cy ad A s.heap z σ H locs) (hct : CtI l yX6_byteAt cX6_byteAt 2 (some .int) 0 [.ref (ad b), .int a0] D cy ad A z σ ra τ) (hR : 0 + 1 ≤ R.frames ∧ 8 + (2 + 11) + 36 * 0 ≤ R.locals) (hsz : ls.size = nL) (hW : (rest.map fun v => v.category).sum ≤ 8) (hdg : decode cc pc = .ok (.invokevirtual 36, 3)) (kk : ∀ (H : Heap) (locs : List Loc), MS D cy ad A s.heap z τ H locs → W p l e R s m args below meth c H locs 0 0 Q (F0 m (pc + 3) ls (.int ra :: rest))) : W p l e R s m args below meth c H locs 0 0 Q (F0 m pc ls (.int a0 :: va_rf (Option.map ad v) :: rest)) :=
  callVN_I (As := [.int a0]) ek (by decide) rfl ml_X7_36 wi_X6_byteAt ws_X6_byteAt rfl wn_X6 wc_X6_byteAt hd_X6_byteAt hC hG hM hct hR hsz hW hdg rfl kk
theorem ml_X7_40 : Cond.methodLink RX7 40 yX7_at ∈ WALL := WALL_of (List.mem_of_getElem? (i := 546) (by decide +kernel)) (by decide +kernel)
theorem cs_X7_40 {a0 : Int32} {a1 : Int32} {a2 : Int32} {ra : Int32} {τ : Mem} {v : Option Nat} {b : Nat} (ek : kT σ 7 v = some b) (hC : CallFix p m c cc nL s args WALL RX7) (hG : GS D cy A s) (hM : MS D cy ad A s.heap z σ H locs) (hct : CtI l yX7_at cX7_at 5 (some .int) 2 [.ref (ad b), .int a0, .int a1, .int a2] D cy ad A z σ ra τ) (hR : 2 + 1 ≤ R.frames ∧ 8 + (5 + 11) + 36 * 2 ≤ R.locals) (hsz : ls.size = nL) (hW : (rest.map fun v => v.category).sum ≤ 8) (hdg : decode cc pc = .ok (.invokevirtual 40, 3)) (kk : ∀ (H : Heap) (locs : List Loc), MS D cy ad A s.heap z τ H locs → W p l e R s m args below meth c H locs 0 0 Q (F0 m (pc + 3) ls (.int ra :: rest))) : W p l e R s m args below meth c H locs 0 0 Q (F0 m pc ls (.int a2 :: .int a1 :: .int a0 :: va_rf (Option.map ad v) :: rest)) :=
  callV_I (As := [.int a0, .int a1, .int a2]) ek (by decide) rfl ml_X7_40 wi_X7_at ws_X7_at rfl wn_X7 wc_X7_at hd_X7_at hC hG hM hct hR hsz hW hdg rfl kk
theorem ml_X8_131 : Cond.methodLinkNest RX8 131 yX7_take "TariffDesk" ∈ NWL := NW_of (List.mem_of_getElem? (i := 503) (by decide +kernel)) rfl
theorem cs_X8_131 {a0 : Option Nat} {a1 : Int32} {a2 : Int32} {a3 : Int32} {ra : Int32} {τ : Mem} {v : Option Nat} {b : Nat} (ek : kT σ 7 v = some b) (hC : CallFix p m c cc nL s args WALL RX8) (hG : GS D cy A s) (hM : MS D cy ad A s.heap z σ H locs) (hct : CtI l yX7_take cX7_take 8 (some .int) 2 [.ref (ad b), va_rf (Option.map ad a0), .int a1, .int a2, .int a3] D cy ad A z σ ra τ) (hR : 2 + 1 ≤ R.frames ∧ 8 + (8 + 11) + 36 * 2 ≤ R.locals) (hsz : ls.size = nL) (hW : (rest.map fun v => v.category).sum ≤ 8) (hdg : decode cc pc = .ok (.invokevirtual 131, 3)) (kk : ∀ (H : Heap) (locs : List Loc), MS D cy ad A s.heap z τ H locs → W p l e R s m args below meth c H locs 0 0 Q (F0 m (pc + 3) ls (.int ra :: rest))) : W p l e R s m args below meth c H locs 0 0 Q (F0 m pc ls (.int a3 :: .int a2 :: .int a1 :: va_rf (Option.map ad a0) :: va_rf (Option.map ad v) :: rest)) :=
  callVN_I (As := [va_rf (Option.map ad a0), .int a1, .int a2, .int a3]) ek (by decide) rfl ml_X8_131 wi_X7_take ws_X7_take rfl wn_X7 wc_X7_take hd_X7_take hC hG hM hct hR hsz hW hdg rfl kk
theorem ml_X8_135 : Cond.methodLinkNest RX8 135 yX7_at "TariffDesk" ∈ NWL := NW_of (List.mem_of_getElem? (i := 519) (by decide +kernel)) rfl
theorem cs_X8_135 {a0 : Int32} {a1 : Int32} {a2 : Int32} {ra : Int32} {τ : Mem} {v : Option Nat} {b : Nat} (ek : kT σ 7 v = some b) (hC : CallFix p m c cc nL s args WALL RX8) (hG : GS D cy A s) (hM : MS D cy ad A s.heap z σ H locs) (hct : CtI l yX7_at cX7_at 5 (some .int) 2 [.ref (ad b), .int a0, .int a1, .int a2] D cy ad A z σ ra τ) (hR : 2 + 1 ≤ R.frames ∧ 8 + (5 + 11) + 36 * 2 ≤ R.locals) (hsz : ls.size = nL) (hW : (rest.map fun v => v.category).sum ≤ 8) (hdg : decode cc pc = .ok (.invokevirtual 135, 3)) (kk : ∀ (H : Heap) (locs : List Loc), MS D cy ad A s.heap z τ H locs → W p l e R s m args below meth c H locs 0 0 Q (F0 m (pc + 3) ls (.int ra :: rest))) : W p l e R s m args below meth c H locs 0 0 Q (F0 m pc ls (.int a2 :: .int a1 :: .int a0 :: va_rf (Option.map ad v) :: rest)) :=
  callVN_I (As := [.int a0, .int a1, .int a2]) ek (by decide) rfl ml_X8_135 wi_X7_at ws_X7_at rfl wn_X7 wc_X7_at hd_X7_at hC hG hM hct hR hsz hW hdg rfl kk
theorem ml_X8_148 : Cond.methodLink RX8 148 yX8_isWithin ∈ WALL := WALL_of (List.mem_of_getElem? (i := 532) (by decide +kernel)) (by decide +kernel)
theorem cs_X8_148 {a0 : Int32} {a1 : Int32} {a2 : Int32} {ra : Int32} {τ : Mem} (hC : CallFix p m c cc nL s args WALL RX8) (hG : GS D cy A s) (hM : MS D cy ad A s.heap z σ H locs) (hct : CtI l yX8_isWithin cX8_isWithin 3 (some .boolean) 0 [.int a0, .int a1, .int a2] D cy ad A z σ ra τ) (hR : 0 + 1 ≤ R.frames ∧ 8 + (3 + 11) + 36 * 0 ≤ R.locals) (hsz : ls.size = nL) (hW : (rest.map fun v => v.category).sum ≤ 8) (hdg : decode cc pc = .ok (.invokestatic 148, 3)) (kk : ∀ (H : Heap) (locs : List Loc), MS D cy ad A s.heap z τ H locs → W p l e R s m args below meth c H locs 0 0 Q (F0 m (pc + 3) ls (.int ra :: rest))) : W p l e R s m args below meth c H locs 0 0 Q (F0 m pc ls (.int a2 :: .int a1 :: .int a0 :: rest)) :=
  callS_I (As := [.int a0, .int a1, .int a2]) ml_X8_148 wt_X8_isWithin wn_X8 wc_X8_isWithin hd_X8_isWithin hC hG hM hct hR hsz hW hdg rfl kk
theorem ml_X8_152 : Cond.methodLinkNest RX8 152 yX5_search "TariffDesk" ∈ NWL := NW_of (List.mem_of_getElem? (i := 534) (by decide +kernel)) rfl
theorem cs_X8_152 {a0 : Option Nat} {a1 : Option Nat} {a2 : Int32} {a3 : Int32} {a4 : Int32} {a5 : Int32} {ra : Int64} {τ : Mem} {v : Option Nat} {b : Nat} (ek : kT σ 5 v = some b) (hC : CallFix p m c cc nL s args WALL RX8) (hG : GS D cy A s) (hM : MS D cy ad A s.heap z σ H locs) (hct : CtL l yX5_search cX5_search 9 (some .long) 5 [.ref (ad b), va_rf (Option.map ad a0), va_rf (Option.map ad a1), .int a2, .int a3, .int a4, .int a5] D cy ad A z σ ra τ) (hR : 5 + 1 ≤ R.frames ∧ 8 + (9 + 11) + 36 * 5 ≤ R.locals) (hsz : ls.size = nL) (hW : (rest.map fun v => v.category).sum ≤ 8) (hdg : decode cc pc = .ok (.invokevirtual 152, 3)) (kk : ∀ (H : Heap) (locs : List Loc), MS D cy ad A s.heap z τ H locs → W p l e R s m args below meth c H locs 0 0 Q (F0 m (pc + 3) ls (.long ra :: rest))) : W p l e R s m args below meth c H locs 0 0 Q (F0 m pc ls (.int a5 :: .int a4 :: .int a3 :: .int a2 :: va_rf (Option.map ad a1) :: va_rf (Option.map ad a0) :: va_rf (Option.map ad v) :: rest)) :=
  callVN_L (As := [va_rf (Option.map ad a0), va_rf (Option.map ad a1), .int a2, .int a3, .int a4, .int a5]) ek (by decide) rfl ml_X8_152 wi_X5_search ws_X5_search rfl wn_X5 wc_X5_search hd_X5_search hC hG hM hct hR hsz hW hdg rfl kk
theorem ml_X8_156 : Cond.methodLinkNest RX8 156 yX5_writeRow "TariffDesk" ∈ NWL := NW_of (List.mem_of_getElem? (i := 599) (by decide +kernel)) rfl
theorem cs_X8_156 {a0 : Option Nat} {τ : Mem} {v : Option Nat} {b : Nat} (ek : kT σ 5 v = some b) (hC : CallFix p m c cc nL s args WALL RX8) (hG : GS D cy A s) (hM : MS D cy ad A s.heap z σ H locs) (hct : CtV l yX5_writeRow cX5_writeRow 5 none 3 [.ref (ad b), va_rf (Option.map ad a0)] D cy ad A z σ () τ) (hR : 3 + 1 ≤ R.frames ∧ 8 + (5 + 11) + 36 * 3 ≤ R.locals) (hsz : ls.size = nL) (hW : (rest.map fun v => v.category).sum ≤ 8) (hdg : decode cc pc = .ok (.invokevirtual 156, 3)) (kk : ∀ (H : Heap) (locs : List Loc), MS D cy ad A s.heap z τ H locs → W p l e R s m args below meth c H locs 0 0 Q (F0 m (pc + 3) ls (rest))) : W p l e R s m args below meth c H locs 0 0 Q (F0 m pc ls (va_rf (Option.map ad a0) :: va_rf (Option.map ad v) :: rest)) :=
  callVN_V (As := [va_rf (Option.map ad a0)]) ek (by decide) rfl ml_X8_156 wi_X5_writeRow ws_X5_writeRow rfl wn_X5 wc_X5_writeRow hd_X5_writeRow hC hG hM hct hR hsz hW hdg rfl kk
theorem ml_X8_160 : Cond.methodLinkNest RX8 160 yX1_tellBest "TariffDesk" ∈ NWL := NW_of (List.mem_of_getElem? (i := 619) (by decide +kernel)) rfl
theorem cs_X8_160 {a0 : Int32} {a1 : Int64} {τ : Mem} {v : Option Nat} {b : Nat} (ek : kT σ 1 v = some b) (hC : CallFix p m c cc nL s args WALL RX8) (hG : GS D cy A s) (hM : MS D cy ad A s.heap z σ H locs) (hct : CtV l yX1_tellBest cX1_tellBest 4 none 1 [.ref (ad b), .int a0, .long a1] D cy ad A z σ () τ) (hR : 1 + 1 ≤ R.frames ∧ 8 + (4 + 11) + 36 * 1 ≤ R.locals) (hsz : ls.size = nL) (hW : (rest.map fun v => v.category).sum ≤ 8) (hdg : decode cc pc = .ok (.invokevirtual 160, 3)) (kk : ∀ (H : Heap) (locs : List Loc), MS D cy ad A s.heap z τ H locs → W p l e R s m args below meth c H locs 0 0 Q (F0 m (pc + 3) ls (rest))) : W p l e R s m args below meth c H locs 0 0 Q (F0 m pc ls (.long a1 :: .int a0 :: va_rf (Option.map ad v) :: rest)) :=
  callVN_V (As := [.int a0, .long a1]) ek (by decide) rfl ml_X8_160 wi_X1_tellBest ws_X1_tellBest rfl wn_X1 wc_X1_tellBest hd_X1_tellBest hC hG hM hct hR hsz hW hdg rfl kk
theorem ml_X8_164 : Cond.methodLinkNest RX8 164 yX1_part "TariffDesk" ∈ NWL := NW_of (List.mem_of_getElem? (i := 624) (by decide +kernel)) rfl
theorem cs_X8_164  {ra : Int64} {τ : Mem} {v : Option Nat} {b : Nat} (ek : kT σ 1 v = some b) (hC : CallFix p m c cc nL s args WALL RX8) (hG : GS D cy A s) (hM : MS D cy ad A s.heap z σ H locs) (hct : CtL l yX1_part cX1_part 2 (some .long) 2 [.ref (ad b)] D cy ad A z σ ra τ) (hR : 2 + 1 ≤ R.frames ∧ 8 + (2 + 11) + 36 * 2 ≤ R.locals) (hsz : ls.size = nL) (hW : (rest.map fun v => v.category).sum ≤ 8) (hdg : decode cc pc = .ok (.invokevirtual 164, 3)) (kk : ∀ (H : Heap) (locs : List Loc), MS D cy ad A s.heap z τ H locs → W p l e R s m args below meth c H locs 0 0 Q (F0 m (pc + 3) ls (.long ra :: rest))) : W p l e R s m args below meth c H locs 0 0 Q (F0 m pc ls (va_rf (Option.map ad v) :: rest)) :=
  callVN_L (As := []) ek (by decide) rfl ml_X8_164 wi_X1_part ws_X1_part rfl wn_X1 wc_X1_part hd_X1_part hC hG hM hct hR hsz hW hdg rfl kk
theorem ml_X8_179 : Cond.methodLinkNest RX8 179 yX7_together "TariffDesk" ∈ NWL := NW_of (List.mem_of_getElem? (i := 738) (by decide +kernel)) rfl
theorem cs_X8_179 {a0 : Int32} {a1 : Int32} {ra : Option Nat} {τ : Mem} {v : Option Nat} {b : Nat} (ek : kT σ 7 v = some b) (hC : CallFix p m c cc nL s args WALL RX8) (hG : GS D cy A s) (hM : MS D cy ad A s.heap z σ H locs) (hct : CtR l yX7_together cX7_together 6 (some (.array .int)) 3 [.ref (ad b), .int a0, .int a1] D cy ad A z σ ra τ) (hR : 3 + 1 ≤ R.frames ∧ 8 + (6 + 11) + 36 * 3 ≤ R.locals) (hsz : ls.size = nL) (hW : (rest.map fun v => v.category).sum ≤ 8) (hdg : decode cc pc = .ok (.invokevirtual 179, 3)) (kk : ∀ (H : Heap) (locs : List Loc), MS D cy ad A s.heap z τ H locs → W p l e R s m args below meth c H locs 0 0 Q (F0 m (pc + 3) ls (va_rf (Option.map ad ra) :: rest))) : W p l e R s m args below meth c H locs 0 0 Q (F0 m pc ls (.int a1 :: .int a0 :: va_rf (Option.map ad v) :: rest)) :=
  callVN_R (As := [.int a0, .int a1]) ek (by decide) rfl ml_X8_179 wi_X7_together ws_X7_together rfl wn_X7 wc_X7_together hd_X7_together hC hG hM hct hR hsz hW hdg rfl kk
theorem ml_X8_183 : Cond.methodLinkNest RX8 183 yX2_monthCents "TariffDesk" ∈ NWL := NW_of (List.mem_of_getElem? (i := 739) (by decide +kernel)) rfl
theorem cs_X8_183 {a0 : Option Nat} {ra : Int64} {τ : Mem} {v : Option Nat} {b : Nat} (ek : kT σ 2 v = some b) (hC : CallFix p m c cc nL s args WALL RX8) (hG : GS D cy A s) (hM : MS D cy ad A s.heap z σ H locs) (hct : CtL l yX2_monthCents cX2_monthCents 5 (some .long) 3 [.ref (ad b), va_rf (Option.map ad a0)] D cy ad A z σ ra τ) (hR : 3 + 1 ≤ R.frames ∧ 8 + (5 + 11) + 36 * 3 ≤ R.locals) (hsz : ls.size = nL) (hW : (rest.map fun v => v.category).sum ≤ 8) (hdg : decode cc pc = .ok (.invokevirtual 183, 3)) (kk : ∀ (H : Heap) (locs : List Loc), MS D cy ad A s.heap z τ H locs → W p l e R s m args below meth c H locs 0 0 Q (F0 m (pc + 3) ls (.long ra :: rest))) : W p l e R s m args below meth c H locs 0 0 Q (F0 m pc ls (va_rf (Option.map ad a0) :: va_rf (Option.map ad v) :: rest)) :=
  callVN_L (As := [va_rf (Option.map ad a0)]) ek (by decide) rfl ml_X8_183 wi_X2_monthCents ws_X2_monthCents rfl wn_X2 wc_X2_monthCents hd_X2_monthCents hC hG hM hct hR hsz hW hdg rfl kk
theorem ml_X8_187 : Cond.methodLinkNest RX8 187 yX2_partCents "TariffDesk" ∈ NWL := NW_of (List.mem_of_getElem? (i := 740) (by decide +kernel)) rfl
theorem cs_X8_187 {a0 : Option Nat} {a1 : Int32} {ra : Int64} {τ : Mem} {v : Option Nat} {b : Nat} (ek : kT σ 2 v = some b) (hC : CallFix p m c cc nL s args WALL RX8) (hG : GS D cy A s) (hM : MS D cy ad A s.heap z σ H locs) (hct : CtL l yX2_partCents cX2_partCents 4 (some .long) 2 [.ref (ad b), va_rf (Option.map ad a0), .int a1] D cy ad A z σ ra τ) (hR : 2 + 1 ≤ R.frames ∧ 8 + (4 + 11) + 36 * 2 ≤ R.locals) (hsz : ls.size = nL) (hW : (rest.map fun v => v.category).sum ≤ 8) (hdg : decode cc pc = .ok (.invokevirtual 187, 3)) (kk : ∀ (H : Heap) (locs : List Loc), MS D cy ad A s.heap z τ H locs → W p l e R s m args below meth c H locs 0 0 Q (F0 m (pc + 3) ls (.long ra :: rest))) : W p l e R s m args below meth c H locs 0 0 Q (F0 m pc ls (.int a1 :: va_rf (Option.map ad a0) :: va_rf (Option.map ad v) :: rest)) :=
  callVN_L (As := [va_rf (Option.map ad a0), .int a1]) ek (by decide) rfl ml_X8_187 wi_X2_partCents ws_X2_partCents rfl wn_X2 wc_X2_partCents hd_X2_partCents hC hG hM hct hR hsz hW hdg rfl kk
theorem ml_X8_191 : Cond.methodLink RX8 191 yX8_differenceAt ∈ WALL := WALL_of (List.mem_of_getElem? (i := 760) (by decide +kernel)) (by decide +kernel)
theorem cs_X8_191 {a0 : Option Nat} {a1 : Option Nat} {a2 : Int32} {ra : Int64} {τ : Mem} (hC : CallFix p m c cc nL s args WALL RX8) (hG : GS D cy A s) (hM : MS D cy ad A s.heap z σ H locs) (hct : CtL l yX8_differenceAt cX8_differenceAt 3 (some .long) 2 [va_rf (Option.map ad a0), va_rf (Option.map ad a1), .int a2] D cy ad A z σ ra τ) (hR : 2 + 1 ≤ R.frames ∧ 8 + (3 + 11) + 36 * 2 ≤ R.locals) (hsz : ls.size = nL) (hW : (rest.map fun v => v.category).sum ≤ 8) (hdg : decode cc pc = .ok (.invokestatic 191, 3)) (kk : ∀ (H : Heap) (locs : List Loc), MS D cy ad A s.heap z τ H locs → W p l e R s m args below meth c H locs 0 0 Q (F0 m (pc + 3) ls (.long ra :: rest))) : W p l e R s m args below meth c H locs 0 0 Q (F0 m pc ls (.int a2 :: va_rf (Option.map ad a1) :: va_rf (Option.map ad a0) :: rest)) :=
  callS_L (As := [va_rf (Option.map ad a0), va_rf (Option.map ad a1), .int a2]) ml_X8_191 wt_X8_differenceAt wn_X8 wc_X8_differenceAt hd_X8_differenceAt hC hG hM hct hR hsz hW hdg rfl kk
theorem ml_X8_195 : Cond.methodLink RX8 195 yX8_further ∈ WALL := WALL_of (List.mem_of_getElem? (i := 764) (by decide +kernel)) (by decide +kernel)
theorem cs_X8_195 {a0 : Int64} {a1 : Int64} {a2 : Int32} {ra : Int64} {τ : Mem} (hC : CallFix p m c cc nL s args WALL RX8) (hG : GS D cy A s) (hM : MS D cy ad A s.heap z σ H locs) (hct : CtL l yX8_further cX8_further 5 (some .long) 1 [.long a0, .long a1, .int a2] D cy ad A z σ ra τ) (hR : 1 + 1 ≤ R.frames ∧ 8 + (5 + 11) + 36 * 1 ≤ R.locals) (hsz : ls.size = nL) (hW : (rest.map fun v => v.category).sum ≤ 8) (hdg : decode cc pc = .ok (.invokestatic 195, 3)) (kk : ∀ (H : Heap) (locs : List Loc), MS D cy ad A s.heap z τ H locs → W p l e R s m args below meth c H locs 0 0 Q (F0 m (pc + 3) ls (.long ra :: rest))) : W p l e R s m args below meth c H locs 0 0 Q (F0 m pc ls (.int a2 :: .long a1 :: .long a0 :: rest)) :=
  callS_L (As := [.long a0, .long a1, .int a2]) ml_X8_195 wt_X8_further wn_X8 wc_X8_further hd_X8_further hC hG hM hct hR hsz hW hdg rfl kk
theorem ml_X8_199 : Cond.methodLinkNest RX8 199 yX0_corner "TariffDesk" ∈ NWL := NW_of (List.mem_of_getElem? (i := 773) (by decide +kernel)) rfl
theorem cs_X8_199 {a0 : Int32} {ra : Int32} {τ : Mem} {v : Option Nat} {b : Nat} (ek : kT σ 0 v = some b) (hC : CallFix p m c cc nL s args WALL RX8) (hG : GS D cy A s) (hM : MS D cy ad A s.heap z σ H locs) (hct : CtI l yX0_corner cX0_corner 2 (some .int) 0 [.ref (ad b), .int a0] D cy ad A z σ ra τ) (hR : 0 + 1 ≤ R.frames ∧ 8 + (2 + 11) + 36 * 0 ≤ R.locals) (hsz : ls.size = nL) (hW : (rest.map fun v => v.category).sum ≤ 8) (hdg : decode cc pc = .ok (.invokevirtual 199, 3)) (kk : ∀ (H : Heap) (locs : List Loc), MS D cy ad A s.heap z τ H locs → W p l e R s m args below meth c H locs 0 0 Q (F0 m (pc + 3) ls (.int ra :: rest))) : W p l e R s m args below meth c H locs 0 0 Q (F0 m pc ls (.int a0 :: va_rf (Option.map ad v) :: rest)) :=
  callVN_I (As := [.int a0]) ek (by decide) rfl ml_X8_199 wi_X0_corner ws_X0_corner rfl wn_X0 wc_X0_corner hd_X0_corner hC hG hM hct hR hsz hW hdg rfl kk
theorem ml_X8_205 : Cond.methodLinkNest RX8 205 yX0_centsFor "TariffDesk" ∈ NWL := NW_of (List.mem_of_getElem? (i := 763) (by decide +kernel)) rfl
theorem cs_X8_205 {a0 : Int32} {ra : Int64} {τ : Mem} {v : Option Nat} {b : Nat} (ek : kT σ 0 v = some b) (hC : CallFix p m c cc nL s args WALL RX8) (hG : GS D cy A s) (hM : MS D cy ad A s.heap z σ H locs) (hct : CtL l yX0_centsFor cX0_centsFor 8 (some .long) 1 [.ref (ad b), .int a0] D cy ad A z σ ra τ) (hR : 1 + 1 ≤ R.frames ∧ 8 + (8 + 11) + 36 * 1 ≤ R.locals) (hsz : ls.size = nL) (hW : (rest.map fun v => v.category).sum ≤ 8) (hdg : decode cc pc = .ok (.invokevirtual 205, 3)) (kk : ∀ (H : Heap) (locs : List Loc), MS D cy ad A s.heap z τ H locs → W p l e R s m args below meth c H locs 0 0 Q (F0 m (pc + 3) ls (.long ra :: rest))) : W p l e R s m args below meth c H locs 0 0 Q (F0 m pc ls (.int a0 :: va_rf (Option.map ad v) :: rest)) :=
  callVN_L (As := [.int a0]) ek (by decide) rfl ml_X8_205 wi_X0_centsFor ws_X0_centsFor rfl wn_X0 wc_X0_centsFor hd_X0_centsFor hC hG hM hct hR hsz hW hdg rfl kk
theorem ml_X8_63 : Cond.methodLink RX8 63 yX8_forgetRow ∈ WALL := WALL_of (List.mem_of_getElem? (i := 324) (by decide +kernel)) (by decide +kernel)
theorem cs_X8_63  {τ : Mem} {v : Option Nat} {b : Nat} (ek : kT σ 8 v = some b) (hC : CallFix p m c cc nL s args WALL RX8) (hG : GS D cy A s) (hM : MS D cy ad A s.heap z σ H locs) (hct : CtV l yX8_forgetRow cX8_forgetRow 2 none 0 [.ref (ad b)] D cy ad A z σ () τ) (hR : 0 + 1 ≤ R.frames ∧ 8 + (2 + 11) + 36 * 0 ≤ R.locals) (hsz : ls.size = nL) (hW : (rest.map fun v => v.category).sum ≤ 8) (hdg : decode cc pc = .ok (.invokevirtual 63, 3)) (kk : ∀ (H : Heap) (locs : List Loc), MS D cy ad A s.heap z τ H locs → W p l e R s m args below meth c H locs 0 0 Q (F0 m (pc + 3) ls (rest))) : W p l e R s m args below meth c H locs 0 0 Q (F0 m pc ls (va_rf (Option.map ad v) :: rest)) :=
  callV_V (As := []) ek (by decide) rfl ml_X8_63 wi_X8_forgetRow ws_X8_forgetRow rfl wn_X8 wc_X8_forgetRow hd_X8_forgetRow hC hG hM hct hR hsz hW hdg rfl kk
theorem ml_X8_70 : Cond.methodLinkNest RX8 70 yX6_append "TariffDesk" ∈ NWL := NW_of (List.mem_of_getElem? (i := 369) (by decide +kernel)) rfl
theorem cs_X8_70 {a0 : Int32} {τ : Mem} {v : Option Nat} {b : Nat} (ek : kT σ 6 v = some b) (hC : CallFix p m c cc nL s args WALL RX8) (hG : GS D cy A s) (hM : MS D cy ad A s.heap z σ H locs) (hct : CtV l yX6_append cX6_append 3 none 0 [.ref (ad b), .int a0] D cy ad A z σ () τ) (hR : 0 + 1 ≤ R.frames ∧ 8 + (3 + 11) + 36 * 0 ≤ R.locals) (hsz : ls.size = nL) (hW : (rest.map fun v => v.category).sum ≤ 8) (hdg : decode cc pc = .ok (.invokevirtual 70, 3)) (kk : ∀ (H : Heap) (locs : List Loc), MS D cy ad A s.heap z τ H locs → W p l e R s m args below meth c H locs 0 0 Q (F0 m (pc + 3) ls (rest))) : W p l e R s m args below meth c H locs 0 0 Q (F0 m pc ls (.int a0 :: va_rf (Option.map ad v) :: rest)) :=
  callVN_V (As := [.int a0]) ek (by decide) rfl ml_X8_70 wi_X6_append ws_X6_append rfl wn_X6 wc_X6_append hd_X6_append hC hG hM hct hR hsz hW hdg rfl kk
theorem ml_X8_74 : Cond.methodLinkNest RX8 74 yX4_readText "TariffDesk" ∈ NWL := NW_of (List.mem_of_getElem? (i := 381) (by decide +kernel)) rfl
theorem cs_X8_74  {ra : Int32} {τ : Mem} {v : Option Nat} {b : Nat} (ek : kT σ 4 v = some b) (hC : CallFix p m c cc nL s args WALL RX8) (hG : GS D cy A s) (hM : MS D cy ad A s.heap z σ H locs) (hct : CtI l yX4_readText cX4_readText 3 (some .boolean) 5 [.ref (ad b)] D cy ad A z σ ra τ) (hR : 5 + 1 ≤ R.frames ∧ 8 + (3 + 11) + 36 * 5 ≤ R.locals) (hsz : ls.size = nL) (hW : (rest.map fun v => v.category).sum ≤ 8) (hdg : decode cc pc = .ok (.invokevirtual 74, 3)) (kk : ∀ (H : Heap) (locs : List Loc), MS D cy ad A s.heap z τ H locs → W p l e R s m args below meth c H locs 0 0 Q (F0 m (pc + 3) ls (.int ra :: rest))) : W p l e R s m args below meth c H locs 0 0 Q (F0 m pc ls (va_rf (Option.map ad v) :: rest)) :=
  callVN_I (As := []) ek (by decide) rfl ml_X8_74 wi_X4_readText ws_X4_readText rfl wn_X4 wc_X4_readText hd_X4_readText hC hG hM hct hR hsz hW hdg rfl kk
theorem ml_X8_81 : Cond.methodLinkNest RX8 81 yX4_exchange "TariffDesk" ∈ NWL := NW_of (List.mem_of_getElem? (i := 485) (by decide +kernel)) rfl
theorem cs_X8_81 {a0 : Option Nat} {ra : Option Nat} {τ : Mem} {v : Option Nat} {b : Nat} (ek : kT σ 4 v = some b) (hC : CallFix p m c cc nL s args WALL RX8) (hG : GS D cy A s) (hM : MS D cy ad A s.heap z σ H locs) (hct : CtR l yX4_exchange cX4_exchange 3 (some (.object "TariffDesk$PlanBook")) 0 [.ref (ad b), va_rf (Option.map ad a0)] D cy ad A z σ ra τ) (hR : 0 + 1 ≤ R.frames ∧ 8 + (3 + 11) + 36 * 0 ≤ R.locals) (hsz : ls.size = nL) (hW : (rest.map fun v => v.category).sum ≤ 8) (hdg : decode cc pc = .ok (.invokevirtual 81, 3)) (kk : ∀ (H : Heap) (locs : List Loc), MS D cy ad A s.heap z τ H locs → W p l e R s m args below meth c H locs 0 0 Q (F0 m (pc + 3) ls (va_rf (Option.map ad ra) :: rest))) : W p l e R s m args below meth c H locs 0 0 Q (F0 m pc ls (va_rf (Option.map ad a0) :: va_rf (Option.map ad v) :: rest)) :=
  callVN_R (As := [va_rf (Option.map ad a0)]) ek (by decide) rfl ml_X8_81 wi_X4_exchange ws_X4_exchange rfl wn_X4 wc_X4_exchange hd_X4_exchange hC hG hM hct hR hsz hW hdg rfl kk
theorem ml_X8_85 : Cond.methodLinkNest RX8 85 yX1_forget "TariffDesk" ∈ NWL := NW_of (List.mem_of_getElem? (i := 489) (by decide +kernel)) rfl
theorem cs_X8_85  {τ : Mem} {v : Option Nat} {b : Nat} (ek : kT σ 1 v = some b) (hC : CallFix p m c cc nL s args WALL RX8) (hG : GS D cy A s) (hM : MS D cy ad A s.heap z σ H locs) (hct : CtV l yX1_forget cX1_forget 2 none 0 [.ref (ad b)] D cy ad A z σ () τ) (hR : 0 + 1 ≤ R.frames ∧ 8 + (2 + 11) + 36 * 0 ≤ R.locals) (hsz : ls.size = nL) (hW : (rest.map fun v => v.category).sum ≤ 8) (hdg : decode cc pc = .ok (.invokevirtual 85, 3)) (kk : ∀ (H : Heap) (locs : List Loc), MS D cy ad A s.heap z τ H locs → W p l e R s m args below meth c H locs 0 0 Q (F0 m (pc + 3) ls (rest))) : W p l e R s m args below meth c H locs 0 0 Q (F0 m pc ls (va_rf (Option.map ad v) :: rest)) :=
  callVN_V (As := []) ek (by decide) rfl ml_X8_85 wi_X1_forget ws_X1_forget rfl wn_X1 wc_X1_forget hd_X1_forget hC hG hM hct hR hsz hW hdg rfl kk
theorem ml_X8_94 : Cond.methodLinkNest RX8 94 yX3_at "TariffDesk" ∈ NWL := NW_of (List.mem_of_getElem? (i := 498) (by decide +kernel)) rfl
theorem cs_X8_94 {a0 : Int32} {ra : Option Nat} {τ : Mem} {v : Option Nat} {b : Nat} (ek : kT σ 3 v = some b) (hC : CallFix p m c cc nL s args WALL RX8) (hG : GS D cy A s) (hM : MS D cy ad A s.heap z σ H locs) (hct : CtR l yX3_at cX3_at 2 (some (.object "TariffDesk$Plan")) 0 [.ref (ad b), .int a0] D cy ad A z σ ra τ) (hR : 0 + 1 ≤ R.frames ∧ 8 + (2 + 11) + 36 * 0 ≤ R.locals) (hsz : ls.size = nL) (hW : (rest.map fun v => v.category).sum ≤ 8) (hdg : decode cc pc = .ok (.invokevirtual 94, 3)) (kk : ∀ (H : Heap) (locs : List Loc), MS D cy ad A s.heap z τ H locs → W p l e R s m args below meth c H locs 0 0 Q (F0 m (pc + 3) ls (va_rf (Option.map ad ra) :: rest))) : W p l e R s m args below meth c H locs 0 0 Q (F0 m pc ls (.int a0 :: va_rf (Option.map ad v) :: rest)) :=
  callVN_R (As := [.int a0]) ek (by decide) rfl ml_X8_94 wi_X3_at ws_X3_at rfl wn_X3 wc_X3_at hd_X3_at hC hG hM hct hR hsz hW hdg rfl kk
theorem ml_X9_110 : Cond.methodLink RX9 110 yX9_isLetter ∈ WALL := WALL_of (List.mem_of_getElem? (i := 939) (by decide +kernel)) (by decide +kernel)
theorem cs_X9_110 {a0 : Int32} {ra : Int32} {τ : Mem} (hC : CallFix p m c cc nL s args WALL RX9) (hG : GS D cy A s) (hM : MS D cy ad A s.heap z σ H locs) (hct : CtI l yX9_isLetter cX9_isLetter 1 (some .boolean) 0 [.int a0] D cy ad A z σ ra τ) (hR : 0 + 1 ≤ R.frames ∧ 8 + (1 + 11) + 36 * 0 ≤ R.locals) (hsz : ls.size = nL) (hW : (rest.map fun v => v.category).sum ≤ 8) (hdg : decode cc pc = .ok (.invokestatic 110, 3)) (kk : ∀ (H : Heap) (locs : List Loc), MS D cy ad A s.heap z τ H locs → W p l e R s m args below meth c H locs 0 0 Q (F0 m (pc + 3) ls (.int ra :: rest))) : W p l e R s m args below meth c H locs 0 0 Q (F0 m pc ls (.int a0 :: rest)) :=
  callS_I (As := [.int a0]) ml_X9_110 wt_X9_isLetter wn_X9 wc_X9_isLetter hd_X9_isLetter hC hG hM hct hR hsz hW hdg rfl kk
theorem ml_X9_114 : Cond.methodLink RX9 114 yX9_isDigit ∈ WALL := WALL_of (List.mem_of_getElem? (i := 942) (by decide +kernel)) (by decide +kernel)
theorem cs_X9_114 {a0 : Int32} {ra : Int32} {τ : Mem} (hC : CallFix p m c cc nL s args WALL RX9) (hG : GS D cy A s) (hM : MS D cy ad A s.heap z σ H locs) (hct : CtI l yX9_isDigit cX9_isDigit 1 (some .boolean) 0 [.int a0] D cy ad A z σ ra τ) (hR : 0 + 1 ≤ R.frames ∧ 8 + (1 + 11) + 36 * 0 ≤ R.locals) (hsz : ls.size = nL) (hW : (rest.map fun v => v.category).sum ≤ 8) (hdg : decode cc pc = .ok (.invokestatic 114, 3)) (kk : ∀ (H : Heap) (locs : List Loc), MS D cy ad A s.heap z τ H locs → W p l e R s m args below meth c H locs 0 0 Q (F0 m (pc + 3) ls (.int ra :: rest))) : W p l e R s m args below meth c H locs 0 0 Q (F0 m pc ls (.int a0 :: rest)) :=
  callS_I (As := [.int a0]) ml_X9_114 wt_X9_isDigit wn_X9 wc_X9_isDigit hd_X9_isDigit hC hG hM hct hR hsz hW hdg rfl kk
theorem ml_X9_124 : Cond.methodLink RX9 124 yX9_byteAt ∈ WALL := WALL_of (List.mem_of_getElem? (i := 945) (by decide +kernel)) (by decide +kernel)
theorem cs_X9_124 {a0 : Int32} {ra : Int32} {τ : Mem} {v : Option Nat} {b : Nat} (ek : kT σ 9 v = some b) (hC : CallFix p m c cc nL s args WALL RX9) (hG : GS D cy A s) (hM : MS D cy ad A s.heap z σ H locs) (hct : CtI l yX9_byteAt cX9_byteAt 2 (some .int) 0 [.ref (ad b), .int a0] D cy ad A z σ ra τ) (hR : 0 + 1 ≤ R.frames ∧ 8 + (2 + 11) + 36 * 0 ≤ R.locals) (hsz : ls.size = nL) (hW : (rest.map fun v => v.category).sum ≤ 8) (hdg : decode cc pc = .ok (.invokevirtual 124, 3)) (kk : ∀ (H : Heap) (locs : List Loc), MS D cy ad A s.heap z τ H locs → W p l e R s m args below meth c H locs 0 0 Q (F0 m (pc + 3) ls (.int ra :: rest))) : W p l e R s m args below meth c H locs 0 0 Q (F0 m pc ls (.int a0 :: va_rf (Option.map ad v) :: rest)) :=
  callV_I (As := [.int a0]) ek (by decide) rfl ml_X9_124 wi_X9_byteAt ws_X9_byteAt rfl wn_X9 wc_X9_byteAt hd_X9_byteAt hC hG hM hct hR hsz hW hdg rfl kk
theorem ml_X9_168 : Cond.methodLink RX9 168 yX9_bad ∈ WALL := WALL_of (List.mem_of_getElem? (i := 957) (by decide +kernel)) (by decide +kernel)
theorem cs_X9_168 {a0 : Int32} {ra : Int32} {τ : Mem} {v : Option Nat} {b : Nat} (ek : kT σ 9 v = some b) (hC : CallFix p m c cc nL s args WALL RX9) (hG : GS D cy A s) (hM : MS D cy ad A s.heap z σ H locs) (hct : CtI l yX9_bad cX9_bad 2 (some .boolean) 0 [.ref (ad b), .int a0] D cy ad A z σ ra τ) (hR : 0 + 1 ≤ R.frames ∧ 8 + (2 + 11) + 36 * 0 ≤ R.locals) (hsz : ls.size = nL) (hW : (rest.map fun v => v.category).sum ≤ 8) (hdg : decode cc pc = .ok (.invokevirtual 168, 3)) (kk : ∀ (H : Heap) (locs : List Loc), MS D cy ad A s.heap z τ H locs → W p l e R s m args below meth c H locs 0 0 Q (F0 m (pc + 3) ls (.int ra :: rest))) : W p l e R s m args below meth c H locs 0 0 Q (F0 m pc ls (.int a0 :: va_rf (Option.map ad v) :: rest)) :=
  callV_I (As := [.int a0]) ek (by decide) rfl ml_X9_168 wi_X9_bad ws_X9_bad rfl wn_X9 wc_X9_bad hd_X9_bad hC hG hM hct hR hsz hW hdg rfl kk
theorem ml_X9_174 : Cond.methodLink RX9 174 yX9_go ∈ WALL := WALL_of (List.mem_of_getElem? (i := 935) (by decide +kernel)) (by decide +kernel)
theorem cs_X9_174  {τ : Mem} {v : Option Nat} {b : Nat} (ek : kT σ 9 v = some b) (hC : CallFix p m c cc nL s args WALL RX9) (hG : GS D cy A s) (hM : MS D cy ad A s.heap z σ H locs) (hct : CtV l yX9_go cX9_go 5 none 1 [.ref (ad b)] D cy ad A z σ () τ) (hR : 1 + 1 ≤ R.frames ∧ 8 + (5 + 11) + 36 * 1 ≤ R.locals) (hsz : ls.size = nL) (hW : (rest.map fun v => v.category).sum ≤ 8) (hdg : decode cc pc = .ok (.invokevirtual 174, 3)) (kk : ∀ (H : Heap) (locs : List Loc), MS D cy ad A s.heap z τ H locs → W p l e R s m args below meth c H locs 0 0 Q (F0 m (pc + 3) ls (rest))) : W p l e R s m args below meth c H locs 0 0 Q (F0 m pc ls (va_rf (Option.map ad v) :: rest)) :=
  callV_V (As := []) ek (by decide) rfl ml_X9_174 wi_X9_go ws_X9_go rfl wn_X9 wc_X9_go hd_X9_go hC hG hM hct hR hsz hW hdg rfl kk
theorem ml_X9_177 : Cond.methodLink RX9 177 yX9_isKey ∈ WALL := WALL_of (List.mem_of_getElem? (i := 953) (by decide +kernel)) (by decide +kernel)
theorem cs_X9_177 {a0 : Int64} {ra : Int32} {τ : Mem} {v : Option Nat} {b : Nat} (ek : kT σ 9 v = some b) (hC : CallFix p m c cc nL s args WALL RX9) (hG : GS D cy A s) (hM : MS D cy ad A s.heap z σ H locs) (hct : CtI l yX9_isKey cX9_isKey 3 (some .boolean) 0 [.ref (ad b), .long a0] D cy ad A z σ ra τ) (hR : 0 + 1 ≤ R.frames ∧ 8 + (3 + 11) + 36 * 0 ≤ R.locals) (hsz : ls.size = nL) (hW : (rest.map fun v => v.category).sum ≤ 8) (hdg : decode cc pc = .ok (.invokevirtual 177, 3)) (kk : ∀ (H : Heap) (locs : List Loc), MS D cy ad A s.heap z τ H locs → W p l e R s m args below meth c H locs 0 0 Q (F0 m (pc + 3) ls (.int ra :: rest))) : W p l e R s m args below meth c H locs 0 0 Q (F0 m pc ls (.long a0 :: va_rf (Option.map ad v) :: rest)) :=
  callV_I (As := [.long a0]) ek (by decide) rfl ml_X9_177 wi_X9_isKey ws_X9_isKey rfl wn_X9 wc_X9_isKey hd_X9_isKey hC hG hM hct hR hsz hW hdg rfl kk
theorem ml_X9_181 : Cond.methodLink RX9 181 yX9_readNumber ∈ WALL := WALL_of (List.mem_of_getElem? (i := 992) (by decide +kernel)) (by decide +kernel)
theorem cs_X9_181 {a0 : Int32} {a1 : Int32} {ra : Int32} {τ : Mem} {v : Option Nat} {b : Nat} (ek : kT σ 9 v = some b) (hC : CallFix p m c cc nL s args WALL RX9) (hG : GS D cy A s) (hM : MS D cy ad A s.heap z σ H locs) (hct : CtI l yX9_readNumber cX9_readNumber 3 (some .boolean) 2 [.ref (ad b), .int a0, .int a1] D cy ad A z σ ra τ) (hR : 2 + 1 ≤ R.frames ∧ 8 + (3 + 11) + 36 * 2 ≤ R.locals) (hsz : ls.size = nL) (hW : (rest.map fun v => v.category).sum ≤ 8) (hdg : decode cc pc = .ok (.invokevirtual 181, 3)) (kk : ∀ (H : Heap) (locs : List Loc), MS D cy ad A s.heap z τ H locs → W p l e R s m args below meth c H locs 0 0 Q (F0 m (pc + 3) ls (.int ra :: rest))) : W p l e R s m args below meth c H locs 0 0 Q (F0 m pc ls (.int a1 :: .int a0 :: va_rf (Option.map ad v) :: rest)) :=
  callV_I (As := [.int a0, .int a1]) ek (by decide) rfl ml_X9_181 wi_X9_readNumber ws_X9_readNumber rfl wn_X9 wc_X9_readNumber hd_X9_readNumber hC hG hM hct hR hsz hW hdg rfl kk
theorem ml_X9_185 : Cond.methodLink RX9 185 yX9_readKey ∈ WALL := WALL_of (List.mem_of_getElem? (i := 987) (by decide +kernel)) (by decide +kernel)
theorem cs_X9_185 {a0 : Int64} {ra : Int32} {τ : Mem} {v : Option Nat} {b : Nat} (ek : kT σ 9 v = some b) (hC : CallFix p m c cc nL s args WALL RX9) (hG : GS D cy A s) (hM : MS D cy ad A s.heap z σ H locs) (hct : CtI l yX9_readKey cX9_readKey 3 (some .boolean) 2 [.ref (ad b), .long a0] D cy ad A z σ ra τ) (hR : 2 + 1 ≤ R.frames ∧ 8 + (3 + 11) + 36 * 2 ≤ R.locals) (hsz : ls.size = nL) (hW : (rest.map fun v => v.category).sum ≤ 8) (hdg : decode cc pc = .ok (.invokevirtual 185, 3)) (kk : ∀ (H : Heap) (locs : List Loc), MS D cy ad A s.heap z τ H locs → W p l e R s m args below meth c H locs 0 0 Q (F0 m (pc + 3) ls (.int ra :: rest))) : W p l e R s m args below meth c H locs 0 0 Q (F0 m pc ls (.long a0 :: va_rf (Option.map ad v) :: rest)) :=
  callV_I (As := [.long a0]) ek (by decide) rfl ml_X9_185 wi_X9_readKey ws_X9_readKey rfl wn_X9 wc_X9_readKey hd_X9_readKey hC hG hM hct hR hsz hW hdg rfl kk
theorem ml_X9_188 : Cond.methodLink RX9 188 yX9_isFree ∈ WALL := WALL_of (List.mem_of_getElem? (i := 965) (by decide +kernel)) (by decide +kernel)
theorem cs_X9_188  {ra : Int32} {τ : Mem} {v : Option Nat} {b : Nat} (ek : kT σ 9 v = some b) (hC : CallFix p m c cc nL s args WALL RX9) (hG : GS D cy A s) (hM : MS D cy ad A s.heap z σ H locs) (hct : CtI l yX9_isFree cX9_isFree 1 (some .boolean) 0 [.ref (ad b)] D cy ad A z σ ra τ) (hR : 0 + 1 ≤ R.frames ∧ 8 + (1 + 11) + 36 * 0 ≤ R.locals) (hsz : ls.size = nL) (hW : (rest.map fun v => v.category).sum ≤ 8) (hdg : decode cc pc = .ok (.invokevirtual 188, 3)) (kk : ∀ (H : Heap) (locs : List Loc), MS D cy ad A s.heap z τ H locs → W p l e R s m args below meth c H locs 0 0 Q (F0 m (pc + 3) ls (.int ra :: rest))) : W p l e R s m args below meth c H locs 0 0 Q (F0 m pc ls (va_rf (Option.map ad v) :: rest)) :=
  callV_I (As := []) ek (by decide) rfl ml_X9_188 wi_X9_isFree ws_X9_isFree rfl wn_X9 wc_X9_isFree hd_X9_isFree hC hG hM hct hR hsz hW hdg rfl kk
theorem ml_X9_193 : Cond.methodLink RX9 193 yX9_readPart ∈ WALL := WALL_of (List.mem_of_getElem? (i := 996) (by decide +kernel)) (by decide +kernel)
theorem cs_X9_193 {a0 : Int32} {ra : Int32} {τ : Mem} {v : Option Nat} {b : Nat} (ek : kT σ 9 v = some b) (hC : CallFix p m c cc nL s args WALL RX9) (hG : GS D cy A s) (hM : MS D cy ad A s.heap z σ H locs) (hct : CtI l yX9_readPart cX9_readPart 5 (some .boolean) 3 [.ref (ad b), .int a0] D cy ad A z σ ra τ) (hR : 3 + 1 ≤ R.frames ∧ 8 + (5 + 11) + 36 * 3 ≤ R.locals) (hsz : ls.size = nL) (hW : (rest.map fun v => v.category).sum ≤ 8) (hdg : decode cc pc = .ok (.invokevirtual 193, 3)) (kk : ∀ (H : Heap) (locs : List Loc), MS D cy ad A s.heap z τ H locs → W p l e R s m args below meth c H locs 0 0 Q (F0 m (pc + 3) ls (.int ra :: rest))) : W p l e R s m args below meth c H locs 0 0 Q (F0 m pc ls (.int a0 :: va_rf (Option.map ad v) :: rest)) :=
  callV_I (As := [.int a0]) ek (by decide) rfl ml_X9_193 wi_X9_readPart ws_X9_readPart rfl wn_X9 wc_X9_readPart hd_X9_readPart hC hG hM hct hR hsz hW hdg rfl kk
theorem ml_X9_199 : Cond.methodLink RX9 199 yX9_readPlan ∈ WALL := WALL_of (List.mem_of_getElem? (i := 961) (by decide +kernel)) (by decide +kernel)
theorem cs_X9_199 {a0 : Int32} {ra : Int32} {τ : Mem} {v : Option Nat} {b : Nat} (ek : kT σ 9 v = some b) (hC : CallFix p m c cc nL s args WALL RX9) (hG : GS D cy A s) (hM : MS D cy ad A s.heap z σ H locs) (hct : CtI l yX9_readPlan cX9_readPlan 4 (some .boolean) 4 [.ref (ad b), .int a0] D cy ad A z σ ra τ) (hR : 4 + 1 ≤ R.frames ∧ 8 + (4 + 11) + 36 * 4 ≤ R.locals) (hsz : ls.size = nL) (hW : (rest.map fun v => v.category).sum ≤ 8) (hdg : decode cc pc = .ok (.invokevirtual 199, 3)) (kk : ∀ (H : Heap) (locs : List Loc), MS D cy ad A s.heap z τ H locs → W p l e R s m args below meth c H locs 0 0 Q (F0 m (pc + 3) ls (.int ra :: rest))) : W p l e R s m args below meth c H locs 0 0 Q (F0 m pc ls (.int a0 :: va_rf (Option.map ad v) :: rest)) :=
  callV_I (As := [.int a0]) ek (by decide) rfl ml_X9_199 wi_X9_readPlan ws_X9_readPlan rfl wn_X9 wc_X9_readPlan hd_X9_readPlan hC hG hM hct hR hsz hW hdg rfl kk
theorem ml_X9_202 : Cond.methodLink RX9 202 yX9_readText ∈ WALL := WALL_of (List.mem_of_getElem? (i := 931) (by decide +kernel)) (by decide +kernel)
theorem cs_X9_202  {ra : Int32} {τ : Mem} {v : Option Nat} {b : Nat} (ek : kT σ 9 v = some b) (hC : CallFix p m c cc nL s args WALL RX9) (hG : GS D cy A s) (hM : MS D cy ad A s.heap z σ H locs) (hct : CtI l yX9_readText cX9_readText 1 (some .boolean) 5 [.ref (ad b)] D cy ad A z σ ra τ) (hR : 5 + 1 ≤ R.frames ∧ 8 + (1 + 11) + 36 * 5 ≤ R.locals) (hsz : ls.size = nL) (hW : (rest.map fun v => v.category).sum ≤ 8) (hdg : decode cc pc = .ok (.invokevirtual 202, 3)) (kk : ∀ (H : Heap) (locs : List Loc), MS D cy ad A s.heap z τ H locs → W p l e R s m args below meth c H locs 0 0 Q (F0 m (pc + 3) ls (.int ra :: rest))) : W p l e R s m args below meth c H locs 0 0 Q (F0 m pc ls (va_rf (Option.map ad v) :: rest)) :=
  callV_I (As := []) ek (by decide) rfl ml_X9_202 wi_X9_readText ws_X9_readText rfl wn_X9 wc_X9_readText hd_X9_readText hC hG hM hct hR hsz hW hdg rfl kk
theorem ml_X9_214 : Cond.methodLink RX9 214 yX9_isPlan ∈ WALL := WALL_of (List.mem_of_getElem? (i := 1008) (by decide +kernel)) (by decide +kernel)
theorem cs_X9_214 {a0 : Int32} {ra : Int32} {τ : Mem} {v : Option Nat} {b : Nat} (ek : kT σ 9 v = some b) (hC : CallFix p m c cc nL s args WALL RX9) (hG : GS D cy A s) (hM : MS D cy ad A s.heap z σ H locs) (hct : CtI l yX9_isPlan cX9_isPlan 2 (some .boolean) 0 [.ref (ad b), .int a0] D cy ad A z σ ra τ) (hR : 0 + 1 ≤ R.frames ∧ 8 + (2 + 11) + 36 * 0 ≤ R.locals) (hsz : ls.size = nL) (hW : (rest.map fun v => v.category).sum ≤ 8) (hdg : decode cc pc = .ok (.invokevirtual 214, 3)) (kk : ∀ (H : Heap) (locs : List Loc), MS D cy ad A s.heap z τ H locs → W p l e R s m args below meth c H locs 0 0 Q (F0 m (pc + 3) ls (.int ra :: rest))) : W p l e R s m args below meth c H locs 0 0 Q (F0 m pc ls (.int a0 :: va_rf (Option.map ad v) :: rest)) :=
  callV_I (As := [.int a0]) ek (by decide) rfl ml_X9_214 wi_X9_isPlan ws_X9_isPlan rfl wn_X9 wc_X9_isPlan hd_X9_isPlan hC hG hM hct hR hsz hW hdg rfl kk
theorem ml_X9_217 : Cond.methodLink RX9 217 yX9_refuse ∈ WALL := WALL_of (List.mem_of_getElem? (i := 1012) (by decide +kernel)) (by decide +kernel)
theorem cs_X9_217  {ra : Int32} {τ : Mem} {v : Option Nat} {b : Nat} (ek : kT σ 9 v = some b) (hC : CallFix p m c cc nL s args WALL RX9) (hG : GS D cy A s) (hM : MS D cy ad A s.heap z σ H locs) (hct : CtI l yX9_refuse cX9_refuse 1 (some .int) 0 [.ref (ad b)] D cy ad A z σ ra τ) (hR : 0 + 1 ≤ R.frames ∧ 8 + (1 + 11) + 36 * 0 ≤ R.locals) (hsz : ls.size = nL) (hW : (rest.map fun v => v.category).sum ≤ 8) (hdg : decode cc pc = .ok (.invokevirtual 217, 3)) (kk : ∀ (H : Heap) (locs : List Loc), MS D cy ad A s.heap z τ H locs → W p l e R s m args below meth c H locs 0 0 Q (F0 m (pc + 3) ls (.int ra :: rest))) : W p l e R s m args below meth c H locs 0 0 Q (F0 m pc ls (va_rf (Option.map ad v) :: rest)) :=
  callV_I (As := []) ek (by decide) rfl ml_X9_217 wi_X9_refuse ws_X9_refuse rfl wn_X9 wc_X9_refuse hd_X9_refuse hC hG hM hct hR hsz hW hdg rfl kk
theorem ml_X9_224 : Cond.methodLink RX9 224 yX9_isIn ∈ WALL := WALL_of (List.mem_of_getElem? (i := 1028) (by decide +kernel)) (by decide +kernel)
theorem cs_X9_224 {a0 : Int32} {a1 : Int32} {ra : Int32} {τ : Mem} (hC : CallFix p m c cc nL s args WALL RX9) (hG : GS D cy A s) (hM : MS D cy ad A s.heap z σ H locs) (hct : CtI l yX9_isIn cX9_isIn 2 (some .boolean) 0 [.int a0, .int a1] D cy ad A z σ ra τ) (hR : 0 + 1 ≤ R.frames ∧ 8 + (2 + 11) + 36 * 0 ≤ R.locals) (hsz : ls.size = nL) (hW : (rest.map fun v => v.category).sum ≤ 8) (hdg : decode cc pc = .ok (.invokestatic 224, 3)) (kk : ∀ (H : Heap) (locs : List Loc), MS D cy ad A s.heap z τ H locs → W p l e R s m args below meth c H locs 0 0 Q (F0 m (pc + 3) ls (.int ra :: rest))) : W p l e R s m args below meth c H locs 0 0 Q (F0 m pc ls (.int a1 :: .int a0 :: rest)) :=
  callS_I (As := [.int a0, .int a1]) ml_X9_224 wt_X9_isIn wn_X9 wc_X9_isIn hd_X9_isIn hC hG hM hct hR hsz hW hdg rfl kk
theorem ml_X9_227 : Cond.methodLink RX9 227 yX9_cell ∈ WALL := WALL_of (List.mem_of_getElem? (i := 1031) (by decide +kernel)) (by decide +kernel)
theorem cs_X9_227 {a0 : Int32} {a1 : Int32} {a2 : Int32} {ra : Int32} {τ : Mem} (hC : CallFix p m c cc nL s args WALL RX9) (hG : GS D cy A s) (hM : MS D cy ad A s.heap z σ H locs) (hct : CtI l yX9_cell cX9_cell 3 (some .int) 0 [.int a0, .int a1, .int a2] D cy ad A z σ ra τ) (hR : 0 + 1 ≤ R.frames ∧ 8 + (3 + 11) + 36 * 0 ≤ R.locals) (hsz : ls.size = nL) (hW : (rest.map fun v => v.category).sum ≤ 8) (hdg : decode cc pc = .ok (.invokestatic 227, 3)) (kk : ∀ (H : Heap) (locs : List Loc), MS D cy ad A s.heap z τ H locs → W p l e R s m args below meth c H locs 0 0 Q (F0 m (pc + 3) ls (.int ra :: rest))) : W p l e R s m args below meth c H locs 0 0 Q (F0 m pc ls (.int a2 :: .int a1 :: .int a0 :: rest)) :=
  callS_I (As := [.int a0, .int a1, .int a2]) ml_X9_227 wt_X9_cell wn_X9 wc_X9_cell hd_X9_cell hC hG hM hct hR hsz hW hdg rfl kk
theorem ml_X9_235 : Cond.methodLink RX9 235 yX9_together ∈ WALL := WALL_of (List.mem_of_getElem? (i := 1051) (by decide +kernel)) (by decide +kernel)
theorem cs_X9_235 {a0 : Int32} {a1 : Int32} {a2 : Int32} {ra : Int32} {τ : Mem} {v : Option Nat} {b : Nat} (ek : kT σ 9 v = some b) (hC : CallFix p m c cc nL s args WALL RX9) (hG : GS D cy A s) (hM : MS D cy ad A s.heap z σ H locs) (hct : CtI l yX9_together cX9_together 6 (some .int) 1 [.ref (ad b), .int a0, .int a1, .int a2] D cy ad A z σ ra τ) (hR : 1 + 1 ≤ R.frames ∧ 8 + (6 + 11) + 36 * 1 ≤ R.locals) (hsz : ls.size = nL) (hW : (rest.map fun v => v.category).sum ≤ 8) (hdg : decode cc pc = .ok (.invokevirtual 235, 3)) (kk : ∀ (H : Heap) (locs : List Loc), MS D cy ad A s.heap z τ H locs → W p l e R s m args below meth c H locs 0 0 Q (F0 m (pc + 3) ls (.int ra :: rest))) : W p l e R s m args below meth c H locs 0 0 Q (F0 m pc ls (.int a2 :: .int a1 :: .int a0 :: va_rf (Option.map ad v) :: rest)) :=
  callV_I (As := [.int a0, .int a1, .int a2]) ek (by decide) rfl ml_X9_235 wi_X9_together ws_X9_together rfl wn_X9 wc_X9_together hd_X9_together hC hG hM hct hR hsz hW hdg rfl kk
theorem ml_X9_238 : Cond.methodLink RX9 238 yX9_partCost ∈ WALL := WALL_of (List.mem_of_getElem? (i := 1063) (by decide +kernel)) (by decide +kernel)
theorem cs_X9_238 {a0 : Int32} {a1 : Int32} {ra : Int64} {τ : Mem} {v : Option Nat} {b : Nat} (ek : kT σ 9 v = some b) (hC : CallFix p m c cc nL s args WALL RX9) (hG : GS D cy A s) (hM : MS D cy ad A s.heap z σ H locs) (hct : CtL l yX9_partCost cX9_partCost 10 (some .long) 0 [.ref (ad b), .int a0, .int a1] D cy ad A z σ ra τ) (hR : 0 + 1 ≤ R.frames ∧ 8 + (10 + 11) + 36 * 0 ≤ R.locals) (hsz : ls.size = nL) (hW : (rest.map fun v => v.category).sum ≤ 8) (hdg : decode cc pc = .ok (.invokevirtual 238, 3)) (kk : ∀ (H : Heap) (locs : List Loc), MS D cy ad A s.heap z τ H locs → W p l e R s m args below meth c H locs 0 0 Q (F0 m (pc + 3) ls (.long ra :: rest))) : W p l e R s m args below meth c H locs 0 0 Q (F0 m pc ls (.int a1 :: .int a0 :: va_rf (Option.map ad v) :: rest)) :=
  callV_L (As := [.int a0, .int a1]) ek (by decide) rfl ml_X9_238 wi_X9_partCost ws_X9_partCost rfl wn_X9 wc_X9_partCost hd_X9_partCost hC hG hM hct hR hsz hW hdg rfl kk
theorem ml_X9_242 : Cond.methodLink RX9 242 yX9_serviceCost ∈ WALL := WALL_of (List.mem_of_getElem? (i := 1059) (by decide +kernel)) (by decide +kernel)
theorem cs_X9_242 {a0 : Int32} {a1 : Int32} {a2 : Int32} {a3 : Int32} {ra : Int64} {τ : Mem} {v : Option Nat} {b : Nat} (ek : kT σ 9 v = some b) (hC : CallFix p m c cc nL s args WALL RX9) (hG : GS D cy A s) (hM : MS D cy ad A s.heap z σ H locs) (hct : CtL l yX9_serviceCost cX9_serviceCost 5 (some .long) 2 [.ref (ad b), .int a0, .int a1, .int a2, .int a3] D cy ad A z σ ra τ) (hR : 2 + 1 ≤ R.frames ∧ 8 + (5 + 11) + 36 * 2 ≤ R.locals) (hsz : ls.size = nL) (hW : (rest.map fun v => v.category).sum ≤ 8) (hdg : decode cc pc = .ok (.invokevirtual 242, 3)) (kk : ∀ (H : Heap) (locs : List Loc), MS D cy ad A s.heap z τ H locs → W p l e R s m args below meth c H locs 0 0 Q (F0 m (pc + 3) ls (.long ra :: rest))) : W p l e R s m args below meth c H locs 0 0 Q (F0 m pc ls (.int a3 :: .int a2 :: .int a1 :: .int a0 :: va_rf (Option.map ad v) :: rest)) :=
  callV_L (As := [.int a0, .int a1, .int a2, .int a3]) ek (by decide) rfl ml_X9_242 wi_X9_serviceCost ws_X9_serviceCost rfl wn_X9 wc_X9_serviceCost hd_X9_serviceCost hC hG hM hct hR hsz hW hdg rfl kk
theorem ml_X9_246 : Cond.methodLink RX9 246 yX9_mayHave ∈ WALL := WALL_of (List.mem_of_getElem? (i := 1047) (by decide +kernel)) (by decide +kernel)
theorem cs_X9_246 {a0 : Int32} {a1 : Int32} {a2 : Int32} {ra : Int32} {τ : Mem} {v : Option Nat} {b : Nat} (ek : kT σ 9 v = some b) (hC : CallFix p m c cc nL s args WALL RX9) (hG : GS D cy A s) (hM : MS D cy ad A s.heap z σ H locs) (hct : CtI l yX9_mayHave cX9_mayHave 5 (some .boolean) 2 [.ref (ad b), .int a0, .int a1, .int a2] D cy ad A z σ ra τ) (hR : 2 + 1 ≤ R.frames ∧ 8 + (5 + 11) + 36 * 2 ≤ R.locals) (hsz : ls.size = nL) (hW : (rest.map fun v => v.category).sum ≤ 8) (hdg : decode cc pc = .ok (.invokevirtual 246, 3)) (kk : ∀ (H : Heap) (locs : List Loc), MS D cy ad A s.heap z τ H locs → W p l e R s m args below meth c H locs 0 0 Q (F0 m (pc + 3) ls (.int ra :: rest))) : W p l e R s m args below meth c H locs 0 0 Q (F0 m pc ls (.int a2 :: .int a1 :: .int a0 :: va_rf (Option.map ad v) :: rest)) :=
  callV_I (As := [.int a0, .int a1, .int a2]) ek (by decide) rfl ml_X9_246 wi_X9_mayHave ws_X9_mayHave rfl wn_X9 wc_X9_mayHave hd_X9_mayHave hC hG hM hct hR hsz hW hdg rfl kk
theorem ml_X9_250 : Cond.methodLink RX9 250 yX9_monthCost ∈ WALL := WALL_of (List.mem_of_getElem? (i := 1055) (by decide +kernel)) (by decide +kernel)
theorem cs_X9_250 {a0 : Int32} {a1 : Int32} {a2 : Int32} {ra : Int64} {τ : Mem} {v : Option Nat} {b : Nat} (ek : kT σ 9 v = some b) (hC : CallFix p m c cc nL s args WALL RX9) (hG : GS D cy A s) (hM : MS D cy ad A s.heap z σ H locs) (hct : CtL l yX9_monthCost cX9_monthCost 7 (some .long) 3 [.ref (ad b), .int a0, .int a1, .int a2] D cy ad A z σ ra τ) (hR : 3 + 1 ≤ R.frames ∧ 8 + (7 + 11) + 36 * 3 ≤ R.locals) (hsz : ls.size = nL) (hW : (rest.map fun v => v.category).sum ≤ 8) (hdg : decode cc pc = .ok (.invokevirtual 250, 3)) (kk : ∀ (H : Heap) (locs : List Loc), MS D cy ad A s.heap z τ H locs → W p l e R s m args below meth c H locs 0 0 Q (F0 m (pc + 3) ls (.long ra :: rest))) : W p l e R s m args below meth c H locs 0 0 Q (F0 m pc ls (.int a2 :: .int a1 :: .int a0 :: va_rf (Option.map ad v) :: rest)) :=
  callV_L (As := [.int a0, .int a1, .int a2]) ek (by decide) rfl ml_X9_250 wi_X9_monthCost ws_X9_monthCost rfl wn_X9 wc_X9_monthCost hd_X9_monthCost hC hG hM hct hR hsz hW hdg rfl kk
theorem ml_X9_254 : Cond.methodLink RX9 254 yX9_state ∈ WALL := WALL_of (List.mem_of_getElem? (i := 1089) (by decide +kernel)) (by decide +kernel)
theorem cs_X9_254 {a0 : Int32} {a1 : Int32} {ra : Int32} {τ : Mem} (hC : CallFix p m c cc nL s args WALL RX9) (hG : GS D cy A s) (hM : MS D cy ad A s.heap z σ H locs) (hct : CtI l yX9_state cX9_state 2 (some .int) 0 [.int a0, .int a1] D cy ad A z σ ra τ) (hR : 0 + 1 ≤ R.frames ∧ 8 + (2 + 11) + 36 * 0 ≤ R.locals) (hsz : ls.size = nL) (hW : (rest.map fun v => v.category).sum ≤ 8) (hdg : decode cc pc = .ok (.invokestatic 254, 3)) (kk : ∀ (H : Heap) (locs : List Loc), MS D cy ad A s.heap z τ H locs → W p l e R s m args below meth c H locs 0 0 Q (F0 m (pc + 3) ls (.int ra :: rest))) : W p l e R s m args below meth c H locs 0 0 Q (F0 m pc ls (.int a1 :: .int a0 :: rest)) :=
  callS_I (As := [.int a0, .int a1]) ml_X9_254 wt_X9_state wn_X9 wc_X9_state hd_X9_state hC hG hM hct hR hsz hW hdg rfl kk
theorem ml_X9_260 : Cond.methodLink RX9 260 yX9_mayBegin ∈ WALL := WALL_of (List.mem_of_getElem? (i := 1081) (by decide +kernel)) (by decide +kernel)
theorem cs_X9_260 {a0 : Int32} {a1 : Int32} {ra : Int32} {τ : Mem} {v : Option Nat} {b : Nat} (ek : kT σ 9 v = some b) (hC : CallFix p m c cc nL s args WALL RX9) (hG : GS D cy A s) (hM : MS D cy ad A s.heap z σ H locs) (hct : CtI l yX9_mayBegin cX9_mayBegin 3 (some .boolean) 0 [.ref (ad b), .int a0, .int a1] D cy ad A z σ ra τ) (hR : 0 + 1 ≤ R.frames ∧ 8 + (3 + 11) + 36 * 0 ≤ R.locals) (hsz : ls.size = nL) (hW : (rest.map fun v => v.category).sum ≤ 8) (hdg : decode cc pc = .ok (.invokevirtual 260, 3)) (kk : ∀ (H : Heap) (locs : List Loc), MS D cy ad A s.heap z τ H locs → W p l e R s m args below meth c H locs 0 0 Q (F0 m (pc + 3) ls (.int ra :: rest))) : W p l e R s m args below meth c H locs 0 0 Q (F0 m pc ls (.int a1 :: .int a0 :: va_rf (Option.map ad v) :: rest)) :=
  callV_I (As := [.int a0, .int a1]) ek (by decide) rfl ml_X9_260 wi_X9_mayBegin ws_X9_mayBegin rfl wn_X9 wc_X9_mayBegin hd_X9_mayBegin hC hG hM hct hR hsz hW hdg rfl kk
theorem ml_X9_263 : Cond.methodLink RX9 263 yX9_offer ∈ WALL := WALL_of (List.mem_of_getElem? (i := 1085) (by decide +kernel)) (by decide +kernel)
theorem cs_X9_263 {a0 : Int32} {a1 : Int32} {a2 : Int32} {a3 : Int32} {a4 : Int64} {τ : Mem} {v : Option Nat} {b : Nat} (ek : kT σ 9 v = some b) (hC : CallFix p m c cc nL s args WALL RX9) (hG : GS D cy A s) (hM : MS D cy ad A s.heap z σ H locs) (hct : CtV l yX9_offer cX9_offer 10 none 1 [.ref (ad b), .int a0, .int a1, .int a2, .int a3, .long a4] D cy ad A z σ () τ) (hR : 1 + 1 ≤ R.frames ∧ 8 + (10 + 11) + 36 * 1 ≤ R.locals) (hsz : ls.size = nL) (hW : (rest.map fun v => v.category).sum ≤ 8) (hdg : decode cc pc = .ok (.invokevirtual 263, 3)) (kk : ∀ (H : Heap) (locs : List Loc), MS D cy ad A s.heap z τ H locs → W p l e R s m args below meth c H locs 0 0 Q (F0 m (pc + 3) ls (rest))) : W p l e R s m args below meth c H locs 0 0 Q (F0 m pc ls (.long a4 :: .int a3 :: .int a2 :: .int a1 :: .int a0 :: va_rf (Option.map ad v) :: rest)) :=
  callV_V (As := [.int a0, .int a1, .int a2, .int a3, .long a4]) ek (by decide) rfl ml_X9_263 wi_X9_offer ws_X9_offer rfl wn_X9 wc_X9_offer hd_X9_offer hC hG hM hct hR hsz hW hdg rfl kk
theorem ml_X9_267 : Cond.methodLink RX9 267 yX9_turn ∈ WALL := WALL_of (List.mem_of_getElem? (i := 1092) (by decide +kernel)) (by decide +kernel)
theorem cs_X9_267  {τ : Mem} {v : Option Nat} {b : Nat} (ek : kT σ 9 v = some b) (hC : CallFix p m c cc nL s args WALL RX9) (hG : GS D cy A s) (hM : MS D cy ad A s.heap z σ H locs) (hct : CtV l yX9_turn cX9_turn 3 none 0 [.ref (ad b)] D cy ad A z σ () τ) (hR : 0 + 1 ≤ R.frames ∧ 8 + (3 + 11) + 36 * 0 ≤ R.locals) (hsz : ls.size = nL) (hW : (rest.map fun v => v.category).sum ≤ 8) (hdg : decode cc pc = .ok (.invokevirtual 267, 3)) (kk : ∀ (H : Heap) (locs : List Loc), MS D cy ad A s.heap z τ H locs → W p l e R s m args below meth c H locs 0 0 Q (F0 m (pc + 3) ls (rest))) : W p l e R s m args below meth c H locs 0 0 Q (F0 m pc ls (va_rf (Option.map ad v) :: rest)) :=
  callV_V (As := []) ek (by decide) rfl ml_X9_267 wi_X9_turn ws_X9_turn rfl wn_X9 wc_X9_turn hd_X9_turn hC hG hM hct hR hsz hW hdg rfl kk
theorem ml_X9_270 : Cond.methodLink RX9 270 yX9_isAhead ∈ WALL := WALL_of (List.mem_of_getElem? (i := 1096) (by decide +kernel)) (by decide +kernel)
theorem cs_X9_270 {a0 : Int32} {a1 : Int32} {a2 : Int32} {ra : Int32} {τ : Mem} {v : Option Nat} {b : Nat} (ek : kT σ 9 v = some b) (hC : CallFix p m c cc nL s args WALL RX9) (hG : GS D cy A s) (hM : MS D cy ad A s.heap z σ H locs) (hct : CtI l yX9_isAhead cX9_isAhead 5 (some .boolean) 0 [.ref (ad b), .int a0, .int a1, .int a2] D cy ad A z σ ra τ) (hR : 0 + 1 ≤ R.frames ∧ 8 + (5 + 11) + 36 * 0 ≤ R.locals) (hsz : ls.size = nL) (hW : (rest.map fun v => v.category).sum ≤ 8) (hdg : decode cc pc = .ok (.invokevirtual 270, 3)) (kk : ∀ (H : Heap) (locs : List Loc), MS D cy ad A s.heap z τ H locs → W p l e R s m args below meth c H locs 0 0 Q (F0 m (pc + 3) ls (.int ra :: rest))) : W p l e R s m args below meth c H locs 0 0 Q (F0 m pc ls (.int a2 :: .int a1 :: .int a0 :: va_rf (Option.map ad v) :: rest)) :=
  callV_I (As := [.int a0, .int a1, .int a2]) ek (by decide) rfl ml_X9_270 wi_X9_isAhead ws_X9_isAhead rfl wn_X9 wc_X9_isAhead hd_X9_isAhead hC hG hM hct hR hsz hW hdg rfl kk
theorem ml_X9_275 : Cond.methodLink RX9 275 yX9_find ∈ WALL := WALL_of (List.mem_of_getElem? (i := 1076) (by decide +kernel)) (by decide +kernel)
theorem cs_X9_275 {a0 : Int32} {a1 : Int32} {a2 : Int32} {ra : Int32} {τ : Mem} {v : Option Nat} {b : Nat} (ek : kT σ 9 v = some b) (hC : CallFix p m c cc nL s args WALL RX9) (hG : GS D cy A s) (hM : MS D cy ad A s.heap z σ H locs) (hct : CtI l yX9_find cX9_find 11 (some .int) 4 [.ref (ad b), .int a0, .int a1, .int a2] D cy ad A z σ ra τ) (hR : 4 + 1 ≤ R.frames ∧ 8 + (11 + 11) + 36 * 4 ≤ R.locals) (hsz : ls.size = nL) (hW : (rest.map fun v => v.category).sum ≤ 8) (hdg : decode cc pc = .ok (.invokevirtual 275, 3)) (kk : ∀ (H : Heap) (locs : List Loc), MS D cy ad A s.heap z τ H locs → W p l e R s m args below meth c H locs 0 0 Q (F0 m (pc + 3) ls (.int ra :: rest))) : W p l e R s m args below meth c H locs 0 0 Q (F0 m pc ls (.int a2 :: .int a1 :: .int a0 :: va_rf (Option.map ad v) :: rest)) :=
  callV_I (As := [.int a0, .int a1, .int a2]) ek (by decide) rfl ml_X9_275 wi_X9_find ws_X9_find rfl wn_X9 wc_X9_find hd_X9_find hC hG hM hct hR hsz hW hdg rfl kk
theorem ml_X9_94 : Cond.methodLink RX9 94 yX9_come ∈ WALL := WALL_of (List.mem_of_getElem? (i := 919) (by decide +kernel)) (by decide +kernel)
theorem cs_X9_94 {a0 : Int32} {τ : Mem} {v : Option Nat} {b : Nat} (ek : kT σ 9 v = some b) (hC : CallFix p m c cc nL s args WALL RX9) (hG : GS D cy A s) (hM : MS D cy ad A s.heap z σ H locs) (hct : CtV l yX9_come cX9_come 3 none 0 [.ref (ad b), .int a0] D cy ad A z σ () τ) (hR : 0 + 1 ≤ R.frames ∧ 8 + (3 + 11) + 36 * 0 ≤ R.locals) (hsz : ls.size = nL) (hW : (rest.map fun v => v.category).sum ≤ 8) (hdg : decode cc pc = .ok (.invokevirtual 94, 3)) (kk : ∀ (H : Heap) (locs : List Loc), MS D cy ad A s.heap z τ H locs → W p l e R s m args below meth c H locs 0 0 Q (F0 m (pc + 3) ls (rest))) : W p l e R s m args below meth c H locs 0 0 Q (F0 m pc ls (.int a0 :: va_rf (Option.map ad v) :: rest)) :=
  callV_V (As := [.int a0]) ek (by decide) rfl ml_X9_94 wi_X9_come ws_X9_come rfl wn_X9 wc_X9_come hd_X9_come hC hG hM hct hR hsz hW hdg rfl kk
theorem wk_X4_126 : Cond.constant RX4 126 (999999) ∈ WALL := WALL_of (List.mem_of_getElem? (i := 455) (by decide +kernel)) (by decide +kernel)
theorem wk_X8_138 : Cond.constant RX8 138 (100000) ∈ WALL := WALL_of (List.mem_of_getElem? (i := 527) (by decide +kernel)) (by decide +kernel)
theorem wk_X9_192 : Cond.constant RX9 192 (999999) ∈ WALL := WALL_of (List.mem_of_getElem? (i := 991) (by decide +kernel)) (by decide +kernel)
theorem wk_X9_231 : Cond.constant RX9 231 (100000) ∈ WALL := WALL_of (List.mem_of_getElem? (i := 1042) (by decide +kernel)) (by decide +kernel)
theorem wk_X1_36 : Cond.constantLong RX1 36 (-1) ∈ WALL := WALL_of (List.mem_of_getElem? (i := 632) (by decide +kernel)) (by decide +kernel)
theorem wk_X2_57 : Cond.constantLong RX2 57 (-1) ∈ WALL := WALL_of (List.mem_of_getElem? (i := 562) (by decide +kernel)) (by decide +kernel)
theorem wk_X5_98 : Cond.constantLong RX5 98 (-1) ∈ WALL := WALL_of (List.mem_of_getElem? (i := 556) (by decide +kernel)) (by decide +kernel)
theorem wk_X8_146 : Cond.constantLong RX8 146 (-1) ∈ WALL := WALL_of (List.mem_of_getElem? (i := 533) (by decide +kernel)) (by decide +kernel)
theorem wk_X9_128 : Cond.constantLong RX9 128 (27) ∈ WALL := WALL_of (List.mem_of_getElem? (i := 949) (by decide +kernel)) (by decide +kernel)
theorem wk_X9_130 : Cond.constantLong RX9 130 (96) ∈ WALL := WALL_of (List.mem_of_getElem? (i := 950) (by decide +kernel)) (by decide +kernel)
theorem wk_X9_258 : Cond.constantLong RX9 258 (1000000000000000) ∈ WALL := WALL_of (List.mem_of_getElem? (i := 1080) (by decide +kernel)) (by decide +kernel)
theorem wk_X9_273 : Cond.constantLong RX9 273 (-1) ∈ WALL := WALL_of (List.mem_of_getElem? (i := 1075) (by decide +kernel)) (by decide +kernel)
theorem fl_X0_15 : Cond.fieldLink RX0 15 "TariffDesk$Part" "stepCents" "[I" ∈ WALL := WALL_of (List.mem_of_getElem? (i := 141) (by decide +kernel)) (by decide +kernel)
theorem gf_X0_15 {v : Option Nat} {x : Option Nat} (hC : CallFix p m c cc nL s args WALL RX0) (hG : GS D cy A s) (hM : MS D cy ad A s.heap z σ H locs) (e1 : fR σ 0 1 v = some x) (hdg : decode cc pc = .ok (.getfield 15, 3)) (kk : W p l e R s m args below meth c H locs 0 0 Q (F0 m (pc + 3) ls (va_rf (Option.map ad x) :: rest))) : W p l e R s m args below meth c H locs 0 0 Q (F0 m pc ls (va_rf (Option.map ad v) :: rest)) :=
  g_fR (ref := "TariffDesk$Part") (T := TX0) hC inW0 hG hM 1 e1 (by decide) rfl rfl (by decide) rfl (hC.2.2.2.2 _ fl_X0_15) (fun _ h => h) hdg kk
theorem fl_X0_18 : Cond.fieldLink RX0 18 "TariffDesk$Part" "free" "I" ∈ WALL := WALL_of (List.mem_of_getElem? (i := 142) (by decide +kernel)) (by decide +kernel)
theorem gf_X0_18 {v : Option Nat} {x : Int32} (hC : CallFix p m c cc nL s args WALL RX0) (hG : GS D cy A s) (hM : MS D cy ad A s.heap z σ H locs) (e1 : fI σ 0 2 v = some x) (hdg : decode cc pc = .ok (.getfield 18, 3)) (kk : W p l e R s m args below meth c H locs 0 0 Q (F0 m (pc + 3) ls (.int x :: rest))) : W p l e R s m args below meth c H locs 0 0 Q (F0 m pc ls (va_rf (Option.map ad v) :: rest)) :=
  g_fI (ref := "TariffDesk$Part") (T := TX0) hC inW0 hG hM 2 e1 (by decide) rfl rfl (by decide) rfl (hC.2.2.2.2 _ fl_X0_18) (fun _ h => h) hdg kk
theorem fl_X0_22 : Cond.fieldLink RX0 22 "TariffDesk$Part" "steps" "I" ∈ WALL := WALL_of (List.mem_of_getElem? (i := 144) (by decide +kernel)) (by decide +kernel)
theorem gf_X0_22 {v : Option Nat} {x : Int32} (hC : CallFix p m c cc nL s args WALL RX0) (hG : GS D cy A s) (hM : MS D cy ad A s.heap z σ H locs) (e1 : fI σ 0 3 v = some x) (hdg : decode cc pc = .ok (.getfield 22, 3)) (kk : W p l e R s m args below meth c H locs 0 0 Q (F0 m (pc + 3) ls (.int x :: rest))) : W p l e R s m args below meth c H locs 0 0 Q (F0 m pc ls (va_rf (Option.map ad v) :: rest)) :=
  g_fI (ref := "TariffDesk$Part") (T := TX0) hC inW0 hG hM 3 e1 (by decide) rfl rfl (by decide) rfl (hC.2.2.2.2 _ fl_X0_22) (fun _ h => h) hdg kk
theorem fl_X0_25 : Cond.fieldLink RX0 25 "TariffDesk$Part" "restCents" "I" ∈ WALL := WALL_of (List.mem_of_getElem? (i := 146) (by decide +kernel)) (by decide +kernel)
theorem gf_X0_25 {v : Option Nat} {x : Int32} (hC : CallFix p m c cc nL s args WALL RX0) (hG : GS D cy A s) (hM : MS D cy ad A s.heap z σ H locs) (e1 : fI σ 0 4 v = some x) (hdg : decode cc pc = .ok (.getfield 25, 3)) (kk : W p l e R s m args below meth c H locs 0 0 Q (F0 m (pc + 3) ls (.int x :: rest))) : W p l e R s m args below meth c H locs 0 0 Q (F0 m pc ls (va_rf (Option.map ad v) :: rest)) :=
  g_fI (ref := "TariffDesk$Part") (T := TX0) hC inW0 hG hM 4 e1 (by decide) rfl rfl (by decide) rfl (hC.2.2.2.2 _ fl_X0_25) (fun _ h => h) hdg kk
theorem fl_X0_9 : Cond.fieldLink RX0 9 "TariffDesk$Part" "stepEnds" "[I" ∈ WALL := WALL_of (List.mem_of_getElem? (i := 140) (by decide +kernel)) (by decide +kernel)
theorem gf_X0_9 {v : Option Nat} {x : Option Nat} (hC : CallFix p m c cc nL s args WALL RX0) (hG : GS D cy A s) (hM : MS D cy ad A s.heap z σ H locs) (e1 : fR σ 0 0 v = some x) (hdg : decode cc pc = .ok (.getfield 9, 3)) (kk : W p l e R s m args below meth c H locs 0 0 Q (F0 m (pc + 3) ls (va_rf (Option.map ad x) :: rest))) : W p l e R s m args below meth c H locs 0 0 Q (F0 m pc ls (va_rf (Option.map ad v) :: rest)) :=
  g_fR (ref := "TariffDesk$Part") (T := TX0) hC inW0 hG hM 0 e1 (by decide) rfl rfl (by decide) rfl (hC.2.2.2.2 _ fl_X0_9) (fun _ h => h) hdg kk
theorem fl_X1_15 : Cond.fieldLink RX1 15 "TariffDesk$Parting" "leastCents" "[J" ∈ WALL := WALL_of (List.mem_of_getElem? (i := 309) (by decide +kernel)) (by decide +kernel)
theorem gf_X1_15 {v : Option Nat} {x : Option Nat} (hC : CallFix p m c cc nL s args WALL RX1) (hG : GS D cy A s) (hM : MS D cy ad A s.heap z σ H locs) (e1 : fR σ 1 1 v = some x) (hdg : decode cc pc = .ok (.getfield 15, 3)) (kk : W p l e R s m args below meth c H locs 0 0 Q (F0 m (pc + 3) ls (va_rf (Option.map ad x) :: rest))) : W p l e R s m args below meth c H locs 0 0 Q (F0 m pc ls (va_rf (Option.map ad v) :: rest)) :=
  g_fR (ref := "TariffDesk$Parting") (T := TX1) hC inW1 hG hM 1 e1 (by decide) rfl rfl (by decide) rfl (hC.2.2.2.2 _ fl_X1_15) (fun _ h => h) hdg kk
theorem fl_X1_18 : Cond.fieldLink RX1 18 "TariffDesk$Parting" "firstGroup" "[I" ∈ WALL := WALL_of (List.mem_of_getElem? (i := 310) (by decide +kernel)) (by decide +kernel)
theorem gf_X1_18 {v : Option Nat} {x : Option Nat} (hC : CallFix p m c cc nL s args WALL RX1) (hG : GS D cy A s) (hM : MS D cy ad A s.heap z σ H locs) (e1 : fR σ 1 2 v = some x) (hdg : decode cc pc = .ok (.getfield 18, 3)) (kk : W p l e R s m args below meth c H locs 0 0 Q (F0 m (pc + 3) ls (va_rf (Option.map ad x) :: rest))) : W p l e R s m args below meth c H locs 0 0 Q (F0 m pc ls (va_rf (Option.map ad v) :: rest)) :=
  g_fR (ref := "TariffDesk$Parting") (T := TX1) hC inW1 hG hM 2 e1 (by decide) rfl rfl (by decide) rfl (hC.2.2.2.2 _ fl_X1_18) (fun _ h => h) hdg kk
theorem fl_X1_22 : Cond.fieldLink RX1 22 "TariffDesk$Parting" "groups" "[I" ∈ WALL := WALL_of (List.mem_of_getElem? (i := 311) (by decide +kernel)) (by decide +kernel)
theorem gf_X1_22 {v : Option Nat} {x : Option Nat} (hC : CallFix p m c cc nL s args WALL RX1) (hG : GS D cy A s) (hM : MS D cy ad A s.heap z σ H locs) (e1 : fR σ 1 3 v = some x) (hdg : decode cc pc = .ok (.getfield 22, 3)) (kk : W p l e R s m args below meth c H locs 0 0 Q (F0 m (pc + 3) ls (va_rf (Option.map ad x) :: rest))) : W p l e R s m args below meth c H locs 0 0 Q (F0 m pc ls (va_rf (Option.map ad v) :: rest)) :=
  g_fR (ref := "TariffDesk$Parting") (T := TX1) hC inW1 hG hM 3 e1 (by decide) rfl rfl (by decide) rfl (hC.2.2.2.2 _ fl_X1_22) (fun _ h => h) hdg kk
theorem fl_X1_9 : Cond.fieldLink RX1 9 "TariffDesk$Parting" "bests" "[J" ∈ WALL := WALL_of (List.mem_of_getElem? (i := 308) (by decide +kernel)) (by decide +kernel)
theorem gf_X1_9 {v : Option Nat} {x : Option Nat} (hC : CallFix p m c cc nL s args WALL RX1) (hG : GS D cy A s) (hM : MS D cy ad A s.heap z σ H locs) (e1 : fR σ 1 0 v = some x) (hdg : decode cc pc = .ok (.getfield 9, 3)) (kk : W p l e R s m args below meth c H locs 0 0 Q (F0 m (pc + 3) ls (va_rf (Option.map ad x) :: rest))) : W p l e R s m args below meth c H locs 0 0 Q (F0 m pc ls (va_rf (Option.map ad v) :: rest)) :=
  g_fR (ref := "TariffDesk$Parting") (T := TX1) hC inW1 hG hM 0 e1 (by decide) rfl rfl (by decide) rfl (hC.2.2.2.2 _ fl_X1_9) (fun _ h => h) hdg kk
theorem fl_X2_11 : Cond.fieldLink RX2 11 "TariffDesk$Plan" "parts" "[LTariffDesk$Part;" ∈ WALL := WALL_of (List.mem_of_getElem? (i := 164) (by decide +kernel)) (by decide +kernel)
theorem gf_X2_11 {v : Option Nat} {x : Option Nat} (hC : CallFix p m c cc nL s args WALL RX2) (hG : GS D cy A s) (hM : MS D cy ad A s.heap z σ H locs) (e1 : fR σ 2 0 v = some x) (hdg : decode cc pc = .ok (.getfield 11, 3)) (kk : W p l e R s m args below meth c H locs 0 0 Q (F0 m (pc + 3) ls (va_rf (Option.map ad x) :: rest))) : W p l e R s m args below meth c H locs 0 0 Q (F0 m pc ls (va_rf (Option.map ad v) :: rest)) :=
  g_fR (ref := "TariffDesk$Plan") (T := TX2) hC inW2 hG hM 0 e1 (by decide) rfl rfl (by decide) rfl (hC.2.2.2.2 _ fl_X2_11) (fun _ h => h) hdg kk
theorem fl_X2_29 : Cond.fieldLink RX2 29 "TariffDesk$Plan" "fee" "I" ∈ WALL := WALL_of (List.mem_of_getElem? (i := 172) (by decide +kernel)) (by decide +kernel)
theorem gf_X2_29 {v : Option Nat} {x : Int32} (hC : CallFix p m c cc nL s args WALL RX2) (hG : GS D cy A s) (hM : MS D cy ad A s.heap z σ H locs) (e1 : fI σ 2 3 v = some x) (hdg : decode cc pc = .ok (.getfield 29, 3)) (kk : W p l e R s m args below meth c H locs 0 0 Q (F0 m (pc + 3) ls (.int x :: rest))) : W p l e R s m args below meth c H locs 0 0 Q (F0 m pc ls (va_rf (Option.map ad v) :: rest)) :=
  g_fI (ref := "TariffDesk$Plan") (T := TX2) hC inW2 hG hM 3 e1 (by decide) rfl rfl (by decide) rfl (hC.2.2.2.2 _ fl_X2_29) (fun _ h => h) hdg kk
theorem fl_X2_35 : Cond.fieldLink RX2 35 "TariffDesk$Plan" "from" "I" ∈ WALL := WALL_of (List.mem_of_getElem? (i := 179) (by decide +kernel)) (by decide +kernel)
theorem gf_X2_35 {v : Option Nat} {x : Int32} (hC : CallFix p m c cc nL s args WALL RX2) (hG : GS D cy A s) (hM : MS D cy ad A s.heap z σ H locs) (e1 : fI σ 2 5 v = some x) (hdg : decode cc pc = .ok (.getfield 35, 3)) (kk : W p l e R s m args below meth c H locs 0 0 Q (F0 m (pc + 3) ls (.int x :: rest))) : W p l e R s m args below meth c H locs 0 0 Q (F0 m pc ls (va_rf (Option.map ad v) :: rest)) :=
  g_fI (ref := "TariffDesk$Plan") (T := TX2) hC inW2 hG hM 5 e1 (by decide) rfl rfl (by decide) rfl (hC.2.2.2.2 _ fl_X2_35) (fun _ h => h) hdg kk
theorem fl_X2_38 : Cond.fieldLink RX2 38 "TariffDesk$Plan" "until" "I" ∈ WALL := WALL_of (List.mem_of_getElem? (i := 182) (by decide +kernel)) (by decide +kernel)
theorem gf_X2_38 {v : Option Nat} {x : Int32} (hC : CallFix p m c cc nL s args WALL RX2) (hG : GS D cy A s) (hM : MS D cy ad A s.heap z σ H locs) (e1 : fI σ 2 6 v = some x) (hdg : decode cc pc = .ok (.getfield 38, 3)) (kk : W p l e R s m args below meth c H locs 0 0 Q (F0 m (pc + 3) ls (.int x :: rest))) : W p l e R s m args below meth c H locs 0 0 Q (F0 m pc ls (va_rf (Option.map ad v) :: rest)) :=
  g_fI (ref := "TariffDesk$Plan") (T := TX2) hC inW2 hG hM 6 e1 (by decide) rfl rfl (by decide) rfl (hC.2.2.2.2 _ fl_X2_38) (fun _ h => h) hdg kk
theorem fl_X2_41 : Cond.fieldLink RX2 41 "TariffDesk$Plan" "services" "I" ∈ WALL := WALL_of (List.mem_of_getElem? (i := 185) (by decide +kernel)) (by decide +kernel)
theorem gf_X2_41 {v : Option Nat} {x : Int32} (hC : CallFix p m c cc nL s args WALL RX2) (hG : GS D cy A s) (hM : MS D cy ad A s.heap z σ H locs) (e1 : fI σ 2 7 v = some x) (hdg : decode cc pc = .ok (.getfield 41, 3)) (kk : W p l e R s m args below meth c H locs 0 0 Q (F0 m (pc + 3) ls (.int x :: rest))) : W p l e R s m args below meth c H locs 0 0 Q (F0 m pc ls (va_rf (Option.map ad v) :: rest)) :=
  g_fI (ref := "TariffDesk$Plan") (T := TX2) hC inW2 hG hM 7 e1 (by decide) rfl rfl (by decide) rfl (hC.2.2.2.2 _ fl_X2_41) (fun _ h => h) hdg kk
theorem fl_X3_11 : Cond.fieldLink RX3 11 "TariffDesk$PlanBook" "entries" "[LTariffDesk$Plan;" ∈ WALL := WALL_of (List.mem_of_getElem? (i := 204) (by decide +kernel)) (by decide +kernel)
theorem gf_X3_11 {v : Option Nat} {x : Option Nat} (hC : CallFix p m c cc nL s args WALL RX3) (hG : GS D cy A s) (hM : MS D cy ad A s.heap z σ H locs) (e1 : fR σ 3 0 v = some x) (hdg : decode cc pc = .ok (.getfield 11, 3)) (kk : W p l e R s m args below meth c H locs 0 0 Q (F0 m (pc + 3) ls (va_rf (Option.map ad x) :: rest))) : W p l e R s m args below meth c H locs 0 0 Q (F0 m pc ls (va_rf (Option.map ad v) :: rest)) :=
  g_fR (ref := "TariffDesk$PlanBook") (T := TX3) hC inW3 hG hM 0 e1 (by decide) rfl rfl (by decide) rfl (hC.2.2.2.2 _ fl_X3_11) (fun _ h => h) hdg kk
theorem fl_X3_18 : Cond.fieldLink RX3 18 "TariffDesk$PlanBook" "size" "I" ∈ WALL := WALL_of (List.mem_of_getElem? (i := 205) (by decide +kernel)) (by decide +kernel)
theorem gf_X3_18 {v : Option Nat} {x : Int32} (hC : CallFix p m c cc nL s args WALL RX3) (hG : GS D cy A s) (hM : MS D cy ad A s.heap z σ H locs) (e1 : fI σ 3 1 v = some x) (hdg : decode cc pc = .ok (.getfield 18, 3)) (kk : W p l e R s m args below meth c H locs 0 0 Q (F0 m (pc + 3) ls (.int x :: rest))) : W p l e R s m args below meth c H locs 0 0 Q (F0 m pc ls (va_rf (Option.map ad v) :: rest)) :=
  g_fI (ref := "TariffDesk$PlanBook") (T := TX3) hC inW3 hG hM 1 e1 (by decide) rfl rfl (by decide) rfl (hC.2.2.2.2 _ fl_X3_18) (fun _ h => h) hdg kk
theorem fl_X3_26 : Cond.fieldLinkNest RX3 26 "TariffDesk$Plan" "nameLetters" "J" "TariffDesk" ∈ NWL := NW_of (List.mem_of_getElem? (i := 166) (by decide +kernel)) rfl
theorem gf_X3_26 {v : Option Nat} {x : Int64} (hC : CallFix p m c cc nL s args WALL RX3) (hG : GS D cy A s) (hM : MS D cy ad A s.heap z σ H locs) (e1 : fJ σ 2 1 v = some x) (hdg : decode cc pc = .ok (.getfield 26, 3)) (kk : W p l e R s m args below meth c H locs 0 0 Q (F0 m (pc + 3) ls (.long x :: rest))) : W p l e R s m args below meth c H locs 0 0 Q (F0 m pc ls (va_rf (Option.map ad v) :: rest)) :=
  gN_fJ (ref := "TariffDesk$Plan") (T := TX2) hC inW2 hG hM 1 e1 (by decide) rfl rfl (by decide) rfl (hG.2.1 _ fl_X3_26) (fun _ h => h) hdg kk
theorem fl_X4_119 : Cond.fieldLinkNest RX4 119 "TariffDesk$Plan" "from" "I" "TariffDesk" ∈ NWL := NW_of (List.mem_of_getElem? (i := 181) (by decide +kernel)) rfl
theorem gf_X4_119 {v : Option Nat} {x : Int32} (hC : CallFix p m c cc nL s args WALL RX4) (hG : GS D cy A s) (hM : MS D cy ad A s.heap z σ H locs) (e1 : fI σ 2 5 v = some x) (hdg : decode cc pc = .ok (.getfield 119, 3)) (kk : W p l e R s m args below meth c H locs 0 0 Q (F0 m (pc + 3) ls (.int x :: rest))) : W p l e R s m args below meth c H locs 0 0 Q (F0 m pc ls (va_rf (Option.map ad v) :: rest)) :=
  gN_fI (ref := "TariffDesk$Plan") (T := TX2) hC inW2 hG hM 5 e1 (by decide) rfl rfl (by decide) rfl (hG.2.1 _ fl_X4_119) (fun _ h => h) hdg kk
theorem fl_X4_154 : Cond.fieldLinkNest RX4 154 "TariffDesk$Tape" "length" "I" "TariffDesk" ∈ NWL := NW_of (List.mem_of_getElem? (i := 107) (by decide +kernel)) rfl
theorem gf_X4_154 {v : Option Nat} {x : Int32} (hC : CallFix p m c cc nL s args WALL RX4) (hG : GS D cy A s) (hM : MS D cy ad A s.heap z σ H locs) (e1 : fI σ 6 1 v = some x) (hdg : decode cc pc = .ok (.getfield 154, 3)) (kk : W p l e R s m args below meth c H locs 0 0 Q (F0 m (pc + 3) ls (.int x :: rest))) : W p l e R s m args below meth c H locs 0 0 Q (F0 m pc ls (va_rf (Option.map ad v) :: rest)) :=
  gN_fI (ref := "TariffDesk$Tape") (T := TX6) hC inW6 hG hM 1 e1 (by decide) rfl rfl (by decide) rfl (hG.2.1 _ fl_X4_154) (fun _ h => h) hdg kk
theorem fl_X4_18 : Cond.fieldLink RX4 18 "TariffDesk$PlanReader" "book" "LTariffDesk$PlanBook;" ∈ WALL := WALL_of (List.mem_of_getElem? (i := 215) (by decide +kernel)) (by decide +kernel)
theorem gf_X4_18 {v : Option Nat} {x : Option Nat} (hC : CallFix p m c cc nL s args WALL RX4) (hG : GS D cy A s) (hM : MS D cy ad A s.heap z σ H locs) (e1 : fR σ 4 1 v = some x) (hdg : decode cc pc = .ok (.getfield 18, 3)) (kk : W p l e R s m args below meth c H locs 0 0 Q (F0 m (pc + 3) ls (va_rf (Option.map ad x) :: rest))) : W p l e R s m args below meth c H locs 0 0 Q (F0 m pc ls (va_rf (Option.map ad v) :: rest)) :=
  g_fR (ref := "TariffDesk$PlanReader") (T := TX4) hC inW4 hG hM 1 e1 (by decide) rfl rfl (by decide) rfl (hC.2.2.2.2 _ fl_X4_18) (fun _ h => h) hdg kk
theorem fl_X4_22 : Cond.fieldLinkNest RX4 22 "TariffDesk$PlanBook" "size" "I" "TariffDesk" ∈ NWL := NW_of (List.mem_of_getElem? (i := 207) (by decide +kernel)) rfl
theorem gf_X4_22 {v : Option Nat} {x : Int32} (hC : CallFix p m c cc nL s args WALL RX4) (hG : GS D cy A s) (hM : MS D cy ad A s.heap z σ H locs) (e1 : fI σ 3 1 v = some x) (hdg : decode cc pc = .ok (.getfield 22, 3)) (kk : W p l e R s m args below meth c H locs 0 0 Q (F0 m (pc + 3) ls (.int x :: rest))) : W p l e R s m args below meth c H locs 0 0 Q (F0 m pc ls (va_rf (Option.map ad v) :: rest)) :=
  gN_fI (ref := "TariffDesk$PlanBook") (T := TX3) hC inW3 hG hM 1 e1 (by decide) rfl rfl (by decide) rfl (hG.2.1 _ fl_X4_22) (fun _ h => h) hdg kk
theorem fl_X4_29 : Cond.fieldLink RX4 29 "TariffDesk$PlanReader" "tokenPlace" "I" ∈ WALL := WALL_of (List.mem_of_getElem? (i := 223) (by decide +kernel)) (by decide +kernel)
theorem gf_X4_29 {v : Option Nat} {x : Int32} (hC : CallFix p m c cc nL s args WALL RX4) (hG : GS D cy A s) (hM : MS D cy ad A s.heap z σ H locs) (e1 : fI σ 4 7 v = some x) (hdg : decode cc pc = .ok (.getfield 29, 3)) (kk : W p l e R s m args below meth c H locs 0 0 Q (F0 m (pc + 3) ls (.int x :: rest))) : W p l e R s m args below meth c H locs 0 0 Q (F0 m pc ls (va_rf (Option.map ad v) :: rest)) :=
  g_fI (ref := "TariffDesk$PlanReader") (T := TX4) hC inW4 hG hM 7 e1 (by decide) rfl rfl (by decide) rfl (hC.2.2.2.2 _ fl_X4_29) (fun _ h => h) hdg kk
theorem fl_X4_32 : Cond.fieldLink RX4 32 "TariffDesk$PlanReader" "tokenLength" "I" ∈ WALL := WALL_of (List.mem_of_getElem? (i := 224) (by decide +kernel)) (by decide +kernel)
theorem gf_X4_32 {v : Option Nat} {x : Int32} (hC : CallFix p m c cc nL s args WALL RX4) (hG : GS D cy A s) (hM : MS D cy ad A s.heap z σ H locs) (e1 : fI σ 4 8 v = some x) (hdg : decode cc pc = .ok (.getfield 32, 3)) (kk : W p l e R s m args below meth c H locs 0 0 Q (F0 m (pc + 3) ls (.int x :: rest))) : W p l e R s m args below meth c H locs 0 0 Q (F0 m pc ls (va_rf (Option.map ad v) :: rest)) :=
  g_fI (ref := "TariffDesk$PlanReader") (T := TX4) hC inW4 hG hM 8 e1 (by decide) rfl rfl (by decide) rfl (hC.2.2.2.2 _ fl_X4_32) (fun _ h => h) hdg kk
theorem fl_X4_45 : Cond.fieldLink RX4 45 "TariffDesk$PlanReader" "word" "I" ∈ WALL := WALL_of (List.mem_of_getElem? (i := 227) (by decide +kernel)) (by decide +kernel)
theorem gf_X4_45 {v : Option Nat} {x : Int32} (hC : CallFix p m c cc nL s args WALL RX4) (hG : GS D cy A s) (hM : MS D cy ad A s.heap z σ H locs) (e1 : fI σ 4 11 v = some x) (hdg : decode cc pc = .ok (.getfield 45, 3)) (kk : W p l e R s m args below meth c H locs 0 0 Q (F0 m (pc + 3) ls (.int x :: rest))) : W p l e R s m args below meth c H locs 0 0 Q (F0 m pc ls (va_rf (Option.map ad v) :: rest)) :=
  g_fI (ref := "TariffDesk$PlanReader") (T := TX4) hC inW4 hG hM 11 e1 (by decide) rfl rfl (by decide) rfl (hC.2.2.2.2 _ fl_X4_45) (fun _ h => h) hdg kk
theorem fl_X4_56 : Cond.fieldLink RX4 56 "TariffDesk$PlanReader" "plan" "LTariffDesk$Plan;" ∈ WALL := WALL_of (List.mem_of_getElem? (i := 216) (by decide +kernel)) (by decide +kernel)
theorem gf_X4_56 {v : Option Nat} {x : Option Nat} (hC : CallFix p m c cc nL s args WALL RX4) (hG : GS D cy A s) (hM : MS D cy ad A s.heap z σ H locs) (e1 : fR σ 4 2 v = some x) (hdg : decode cc pc = .ok (.getfield 56, 3)) (kk : W p l e R s m args below meth c H locs 0 0 Q (F0 m (pc + 3) ls (va_rf (Option.map ad x) :: rest))) : W p l e R s m args below meth c H locs 0 0 Q (F0 m pc ls (va_rf (Option.map ad v) :: rest)) :=
  g_fR (ref := "TariffDesk$PlanReader") (T := TX4) hC inW4 hG hM 2 e1 (by decide) rfl rfl (by decide) rfl (hC.2.2.2.2 _ fl_X4_56) (fun _ h => h) hdg kk
theorem fl_X4_63 : Cond.fieldLink RX4 63 "TariffDesk$PlanReader" "part" "LTariffDesk$Part;" ∈ WALL := WALL_of (List.mem_of_getElem? (i := 217) (by decide +kernel)) (by decide +kernel)
theorem gf_X4_63 {v : Option Nat} {x : Option Nat} (hC : CallFix p m c cc nL s args WALL RX4) (hG : GS D cy A s) (hM : MS D cy ad A s.heap z σ H locs) (e1 : fR σ 4 3 v = some x) (hdg : decode cc pc = .ok (.getfield 63, 3)) (kk : W p l e R s m args below meth c H locs 0 0 Q (F0 m (pc + 3) ls (va_rf (Option.map ad x) :: rest))) : W p l e R s m args below meth c H locs 0 0 Q (F0 m pc ls (va_rf (Option.map ad v) :: rest)) :=
  g_fR (ref := "TariffDesk$PlanReader") (T := TX4) hC inW4 hG hM 3 e1 (by decide) rfl rfl (by decide) rfl (hC.2.2.2.2 _ fl_X4_63) (fun _ h => h) hdg kk
theorem fl_X4_67 : Cond.fieldLinkNest RX4 67 "TariffDesk$Part" "steps" "I" "TariffDesk" ∈ NWL := NW_of (List.mem_of_getElem? (i := 145) (by decide +kernel)) rfl
theorem gf_X4_67 {v : Option Nat} {x : Int32} (hC : CallFix p m c cc nL s args WALL RX4) (hG : GS D cy A s) (hM : MS D cy ad A s.heap z σ H locs) (e1 : fI σ 0 3 v = some x) (hdg : decode cc pc = .ok (.getfield 67, 3)) (kk : W p l e R s m args below meth c H locs 0 0 Q (F0 m (pc + 3) ls (.int x :: rest))) : W p l e R s m args below meth c H locs 0 0 Q (F0 m pc ls (va_rf (Option.map ad v) :: rest)) :=
  gN_fI (ref := "TariffDesk$Part") (T := TX0) hC inW0 hG hM 3 e1 (by decide) rfl rfl (by decide) rfl (hG.2.1 _ fl_X4_67) (fun _ h => h) hdg kk
theorem fl_X4_75 : Cond.fieldLink RX4 75 "TariffDesk$PlanReader" "token" "I" ∈ WALL := WALL_of (List.mem_of_getElem? (i := 222) (by decide +kernel)) (by decide +kernel)
theorem gf_X4_75 {v : Option Nat} {x : Int32} (hC : CallFix p m c cc nL s args WALL RX4) (hG : GS D cy A s) (hM : MS D cy ad A s.heap z σ H locs) (e1 : fI σ 4 6 v = some x) (hdg : decode cc pc = .ok (.getfield 75, 3)) (kk : W p l e R s m args below meth c H locs 0 0 Q (F0 m (pc + 3) ls (.int x :: rest))) : W p l e R s m args below meth c H locs 0 0 Q (F0 m pc ls (va_rf (Option.map ad v) :: rest)) :=
  g_fI (ref := "TariffDesk$PlanReader") (T := TX4) hC inW4 hG hM 6 e1 (by decide) rfl rfl (by decide) rfl (hC.2.2.2.2 _ fl_X4_75) (fun _ h => h) hdg kk
theorem fl_X4_78 : Cond.fieldLink RX4 78 "TariffDesk$PlanReader" "letters" "J" ∈ WALL := WALL_of (List.mem_of_getElem? (i := 225) (by decide +kernel)) (by decide +kernel)
theorem gf_X4_78 {v : Option Nat} {x : Int64} (hC : CallFix p m c cc nL s args WALL RX4) (hG : GS D cy A s) (hM : MS D cy ad A s.heap z σ H locs) (e1 : fJ σ 4 9 v = some x) (hdg : decode cc pc = .ok (.getfield 78, 3)) (kk : W p l e R s m args below meth c H locs 0 0 Q (F0 m (pc + 3) ls (.long x :: rest))) : W p l e R s m args below meth c H locs 0 0 Q (F0 m pc ls (va_rf (Option.map ad v) :: rest)) :=
  g_fJ (ref := "TariffDesk$PlanReader") (T := TX4) hC inW4 hG hM 9 e1 (by decide) rfl rfl (by decide) rfl (hC.2.2.2.2 _ fl_X4_78) (fun _ h => h) hdg kk
theorem fl_X4_9 : Cond.fieldLink RX4 9 "TariffDesk$PlanReader" "tape" "LTariffDesk$Tape;" ∈ WALL := WALL_of (List.mem_of_getElem? (i := 214) (by decide +kernel)) (by decide +kernel)
theorem gf_X4_9 {v : Option Nat} {x : Option Nat} (hC : CallFix p m c cc nL s args WALL RX4) (hG : GS D cy A s) (hM : MS D cy ad A s.heap z σ H locs) (e1 : fR σ 4 0 v = some x) (hdg : decode cc pc = .ok (.getfield 9, 3)) (kk : W p l e R s m args below meth c H locs 0 0 Q (F0 m (pc + 3) ls (va_rf (Option.map ad x) :: rest))) : W p l e R s m args below meth c H locs 0 0 Q (F0 m pc ls (va_rf (Option.map ad v) :: rest)) :=
  g_fR (ref := "TariffDesk$PlanReader") (T := TX4) hC inW4 hG hM 0 e1 (by decide) rfl rfl (by decide) rfl (hC.2.2.2.2 _ fl_X4_9) (fun _ h => h) hdg kk
theorem fl_X4_94 : Cond.fieldLink RX4 94 "TariffDesk$PlanReader" "number" "I" ∈ WALL := WALL_of (List.mem_of_getElem? (i := 226) (by decide +kernel)) (by decide +kernel)
theorem gf_X4_94 {v : Option Nat} {x : Int32} (hC : CallFix p m c cc nL s args WALL RX4) (hG : GS D cy A s) (hM : MS D cy ad A s.heap z σ H locs) (e1 : fI σ 4 10 v = some x) (hdg : decode cc pc = .ok (.getfield 94, 3)) (kk : W p l e R s m args below meth c H locs 0 0 Q (F0 m (pc + 3) ls (.int x :: rest))) : W p l e R s m args below meth c H locs 0 0 Q (F0 m pc ls (va_rf (Option.map ad v) :: rest)) :=
  g_fI (ref := "TariffDesk$PlanReader") (T := TX4) hC inW4 hG hM 10 e1 (by decide) rfl rfl (by decide) rfl (hC.2.2.2.2 _ fl_X4_94) (fun _ h => h) hdg kk
theorem fl_X5_15 : Cond.fieldLink RX5 15 "TariffDesk$RowFinder" "begunCents" "[J" ∈ WALL := WALL_of (List.mem_of_getElem? (i := 273) (by decide +kernel)) (by decide +kernel)
theorem gf_X5_15 {v : Option Nat} {x : Option Nat} (hC : CallFix p m c cc nL s args WALL RX5) (hG : GS D cy A s) (hM : MS D cy ad A s.heap z σ H locs) (e1 : fR σ 5 1 v = some x) (hdg : decode cc pc = .ok (.getfield 15, 3)) (kk : W p l e R s m args below meth c H locs 0 0 Q (F0 m (pc + 3) ls (va_rf (Option.map ad x) :: rest))) : W p l e R s m args below meth c H locs 0 0 Q (F0 m pc ls (va_rf (Option.map ad v) :: rest)) :=
  g_fR (ref := "TariffDesk$RowFinder") (T := TX5) hC inW5 hG hM 1 e1 (by decide) rfl rfl (by decide) rfl (hC.2.2.2.2 _ fl_X5_15) (fun _ h => h) hdg kk
theorem fl_X5_18 : Cond.fieldLink RX5 18 "TariffDesk$RowFinder" "freedCents" "[J" ∈ WALL := WALL_of (List.mem_of_getElem? (i := 274) (by decide +kernel)) (by decide +kernel)
theorem gf_X5_18 {v : Option Nat} {x : Option Nat} (hC : CallFix p m c cc nL s args WALL RX5) (hG : GS D cy A s) (hM : MS D cy ad A s.heap z σ H locs) (e1 : fR σ 5 2 v = some x) (hdg : decode cc pc = .ok (.getfield 18, 3)) (kk : W p l e R s m args below meth c H locs 0 0 Q (F0 m (pc + 3) ls (va_rf (Option.map ad x) :: rest))) : W p l e R s m args below meth c H locs 0 0 Q (F0 m pc ls (va_rf (Option.map ad v) :: rest)) :=
  g_fR (ref := "TariffDesk$RowFinder") (T := TX5) hC inW5 hG hM 2 e1 (by decide) rfl rfl (by decide) rfl (hC.2.2.2.2 _ fl_X5_18) (fun _ h => h) hdg kk
theorem fl_X5_21 : Cond.fieldLink RX5 21 "TariffDesk$RowFinder" "freedChoice" "[I" ∈ WALL := WALL_of (List.mem_of_getElem? (i := 275) (by decide +kernel)) (by decide +kernel)
theorem gf_X5_21 {v : Option Nat} {x : Option Nat} (hC : CallFix p m c cc nL s args WALL RX5) (hG : GS D cy A s) (hM : MS D cy ad A s.heap z σ H locs) (e1 : fR σ 5 3 v = some x) (hdg : decode cc pc = .ok (.getfield 21, 3)) (kk : W p l e R s m args below meth c H locs 0 0 Q (F0 m (pc + 3) ls (va_rf (Option.map ad x) :: rest))) : W p l e R s m args below meth c H locs 0 0 Q (F0 m pc ls (va_rf (Option.map ad v) :: rest)) :=
  g_fR (ref := "TariffDesk$RowFinder") (T := TX5) hC inW5 hG hM 3 e1 (by decide) rfl rfl (by decide) rfl (hC.2.2.2.2 _ fl_X5_21) (fun _ h => h) hdg kk
theorem fl_X5_25 : Cond.fieldLink RX5 25 "TariffDesk$RowFinder" "book" "LTariffDesk$PlanBook;" ∈ WALL := WALL_of (List.mem_of_getElem? (i := 276) (by decide +kernel)) (by decide +kernel)
theorem gf_X5_25 {v : Option Nat} {x : Option Nat} (hC : CallFix p m c cc nL s args WALL RX5) (hG : GS D cy A s) (hM : MS D cy ad A s.heap z σ H locs) (e1 : fR σ 5 4 v = some x) (hdg : decode cc pc = .ok (.getfield 25, 3)) (kk : W p l e R s m args below meth c H locs 0 0 Q (F0 m (pc + 3) ls (va_rf (Option.map ad x) :: rest))) : W p l e R s m args below meth c H locs 0 0 Q (F0 m pc ls (va_rf (Option.map ad v) :: rest)) :=
  g_fR (ref := "TariffDesk$RowFinder") (T := TX5) hC inW5 hG hM 4 e1 (by decide) rfl rfl (by decide) rfl (hC.2.2.2.2 _ fl_X5_25) (fun _ h => h) hdg kk
theorem fl_X5_35 : Cond.fieldLink RX5 35 "TariffDesk$RowFinder" "from" "I" ∈ WALL := WALL_of (List.mem_of_getElem? (i := 277) (by decide +kernel)) (by decide +kernel)
theorem gf_X5_35 {v : Option Nat} {x : Int32} (hC : CallFix p m c cc nL s args WALL RX5) (hG : GS D cy A s) (hM : MS D cy ad A s.heap z σ H locs) (e1 : fI σ 5 5 v = some x) (hdg : decode cc pc = .ok (.getfield 35, 3)) (kk : W p l e R s m args below meth c H locs 0 0 Q (F0 m (pc + 3) ls (.int x :: rest))) : W p l e R s m args below meth c H locs 0 0 Q (F0 m pc ls (va_rf (Option.map ad v) :: rest)) :=
  g_fI (ref := "TariffDesk$RowFinder") (T := TX5) hC inW5 hG hM 5 e1 (by decide) rfl rfl (by decide) rfl (hC.2.2.2.2 _ fl_X5_35) (fun _ h => h) hdg kk
theorem fl_X5_42 : Cond.fieldLink RX5 42 "TariffDesk$RowFinder" "to" "I" ∈ WALL := WALL_of (List.mem_of_getElem? (i := 278) (by decide +kernel)) (by decide +kernel)
theorem gf_X5_42 {v : Option Nat} {x : Int32} (hC : CallFix p m c cc nL s args WALL RX5) (hG : GS D cy A s) (hM : MS D cy ad A s.heap z σ H locs) (e1 : fI σ 5 6 v = some x) (hdg : decode cc pc = .ok (.getfield 42, 3)) (kk : W p l e R s m args below meth c H locs 0 0 Q (F0 m (pc + 3) ls (.int x :: rest))) : W p l e R s m args below meth c H locs 0 0 Q (F0 m pc ls (va_rf (Option.map ad v) :: rest)) :=
  g_fI (ref := "TariffDesk$RowFinder") (T := TX5) hC inW5 hG hM 6 e1 (by decide) rfl rfl (by decide) rfl (hC.2.2.2.2 _ fl_X5_42) (fun _ h => h) hdg kk
theorem fl_X5_55 : Cond.fieldLinkNest RX5 55 "TariffDesk$PlanBook" "size" "I" "TariffDesk" ∈ NWL := NW_of (List.mem_of_getElem? (i := 206) (by decide +kernel)) rfl
theorem gf_X5_55 {v : Option Nat} {x : Int32} (hC : CallFix p m c cc nL s args WALL RX5) (hG : GS D cy A s) (hM : MS D cy ad A s.heap z σ H locs) (e1 : fI σ 3 1 v = some x) (hdg : decode cc pc = .ok (.getfield 55, 3)) (kk : W p l e R s m args below meth c H locs 0 0 Q (F0 m (pc + 3) ls (.int x :: rest))) : W p l e R s m args below meth c H locs 0 0 Q (F0 m pc ls (va_rf (Option.map ad v) :: rest)) :=
  gN_fI (ref := "TariffDesk$PlanBook") (T := TX3) hC inW3 hG hM 1 e1 (by decide) rfl rfl (by decide) rfl (hG.2.1 _ fl_X5_55) (fun _ h => h) hdg kk
theorem fl_X5_72 : Cond.fieldLink RX5 72 "TariffDesk$RowFinder" "firstPlan" "I" ∈ WALL := WALL_of (List.mem_of_getElem? (i := 279) (by decide +kernel)) (by decide +kernel)
theorem gf_X5_72 {v : Option Nat} {x : Int32} (hC : CallFix p m c cc nL s args WALL RX5) (hG : GS D cy A s) (hM : MS D cy ad A s.heap z σ H locs) (e1 : fI σ 5 7 v = some x) (hdg : decode cc pc = .ok (.getfield 72, 3)) (kk : W p l e R s m args below meth c H locs 0 0 Q (F0 m (pc + 3) ls (.int x :: rest))) : W p l e R s m args below meth c H locs 0 0 Q (F0 m pc ls (va_rf (Option.map ad v) :: rest)) :=
  g_fI (ref := "TariffDesk$RowFinder") (T := TX5) hC inW5 hG hM 7 e1 (by decide) rfl rfl (by decide) rfl (hC.2.2.2.2 _ fl_X5_72) (fun _ h => h) hdg kk
theorem fl_X5_9 : Cond.fieldLink RX5 9 "TariffDesk$RowFinder" "monthCents" "[J" ∈ WALL := WALL_of (List.mem_of_getElem? (i := 272) (by decide +kernel)) (by decide +kernel)
theorem gf_X5_9 {v : Option Nat} {x : Option Nat} (hC : CallFix p m c cc nL s args WALL RX5) (hG : GS D cy A s) (hM : MS D cy ad A s.heap z σ H locs) (e1 : fR σ 5 0 v = some x) (hdg : decode cc pc = .ok (.getfield 9, 3)) (kk : W p l e R s m args below meth c H locs 0 0 Q (F0 m (pc + 3) ls (va_rf (Option.map ad x) :: rest))) : W p l e R s m args below meth c H locs 0 0 Q (F0 m pc ls (va_rf (Option.map ad v) :: rest)) :=
  g_fR (ref := "TariffDesk$RowFinder") (T := TX5) hC inW5 hG hM 0 e1 (by decide) rfl rfl (by decide) rfl (hC.2.2.2.2 _ fl_X5_9) (fun _ h => h) hdg kk
theorem fl_X5_90 : Cond.fieldLinkNest RX5 90 "TariffDesk$Plan" "term" "I" "TariffDesk" ∈ NWL := NW_of (List.mem_of_getElem? (i := 176) (by decide +kernel)) rfl
theorem gf_X5_90 {v : Option Nat} {x : Int32} (hC : CallFix p m c cc nL s args WALL RX5) (hG : GS D cy A s) (hM : MS D cy ad A s.heap z σ H locs) (e1 : fI σ 2 4 v = some x) (hdg : decode cc pc = .ok (.getfield 90, 3)) (kk : W p l e R s m args below meth c H locs 0 0 Q (F0 m (pc + 3) ls (.int x :: rest))) : W p l e R s m args below meth c H locs 0 0 Q (F0 m pc ls (va_rf (Option.map ad v) :: rest)) :=
  gN_fI (ref := "TariffDesk$Plan") (T := TX2) hC inW2 hG hM 4 e1 (by decide) rfl rfl (by decide) rfl (hG.2.1 _ fl_X5_90) (fun _ h => h) hdg kk
theorem fl_X6_15 : Cond.fieldLink RX6 15 "TariffDesk$Tape" "length" "I" ∈ WALL := WALL_of (List.mem_of_getElem? (i := 105) (by decide +kernel)) (by decide +kernel)
theorem gf_X6_15 {v : Option Nat} {x : Int32} (hC : CallFix p m c cc nL s args WALL RX6) (hG : GS D cy A s) (hM : MS D cy ad A s.heap z σ H locs) (e1 : fI σ 6 1 v = some x) (hdg : decode cc pc = .ok (.getfield 15, 3)) (kk : W p l e R s m args below meth c H locs 0 0 Q (F0 m (pc + 3) ls (.int x :: rest))) : W p l e R s m args below meth c H locs 0 0 Q (F0 m pc ls (va_rf (Option.map ad v) :: rest)) :=
  g_fI (ref := "TariffDesk$Tape") (T := TX6) hC inW6 hG hM 1 e1 (by decide) rfl rfl (by decide) rfl (hC.2.2.2.2 _ fl_X6_15) (fun _ h => h) hdg kk
theorem fl_X6_9 : Cond.fieldLink RX6 9 "TariffDesk$Tape" "bytes" "[B" ∈ WALL := WALL_of (List.mem_of_getElem? (i := 103) (by decide +kernel)) (by decide +kernel)
theorem gf_X6_9 {v : Option Nat} {x : Option Nat} (hC : CallFix p m c cc nL s args WALL RX6) (hG : GS D cy A s) (hM : MS D cy ad A s.heap z σ H locs) (e1 : fR σ 6 0 v = some x) (hdg : decode cc pc = .ok (.getfield 9, 3)) (kk : W p l e R s m args below meth c H locs 0 0 Q (F0 m (pc + 3) ls (va_rf (Option.map ad x) :: rest))) : W p l e R s m args below meth c H locs 0 0 Q (F0 m pc ls (va_rf (Option.map ad v) :: rest)) :=
  g_fR (ref := "TariffDesk$Tape") (T := TX6) hC inW6 hG hM 0 e1 (by decide) rfl rfl (by decide) rfl (hC.2.2.2.2 _ fl_X6_9) (fun _ h => h) hdg kk
theorem fl_X7_15 : Cond.fieldLink RX7 15 "TariffDesk$UseBook" "sums" "[I" ∈ WALL := WALL_of (List.mem_of_getElem? (i := 260) (by decide +kernel)) (by decide +kernel)
theorem gf_X7_15 {v : Option Nat} {x : Option Nat} (hC : CallFix p m c cc nL s args WALL RX7) (hG : GS D cy A s) (hM : MS D cy ad A s.heap z σ H locs) (e1 : fR σ 7 1 v = some x) (hdg : decode cc pc = .ok (.getfield 15, 3)) (kk : W p l e R s m args below meth c H locs 0 0 Q (F0 m (pc + 3) ls (va_rf (Option.map ad x) :: rest))) : W p l e R s m args below meth c H locs 0 0 Q (F0 m pc ls (va_rf (Option.map ad v) :: rest)) :=
  g_fR (ref := "TariffDesk$UseBook") (T := TX7) hC inW7 hG hM 1 e1 (by decide) rfl rfl (by decide) rfl (hC.2.2.2.2 _ fl_X7_15) (fun _ h => h) hdg kk
theorem fl_X7_26 : Cond.fieldLinkNest RX7 26 "TariffDesk$Tape" "length" "I" "TariffDesk" ∈ NWL := NW_of (List.mem_of_getElem? (i := 106) (by decide +kernel)) rfl
theorem gf_X7_26 {v : Option Nat} {x : Int32} (hC : CallFix p m c cc nL s args WALL RX7) (hG : GS D cy A s) (hM : MS D cy ad A s.heap z σ H locs) (e1 : fI σ 6 1 v = some x) (hdg : decode cc pc = .ok (.getfield 26, 3)) (kk : W p l e R s m args below meth c H locs 0 0 Q (F0 m (pc + 3) ls (.int x :: rest))) : W p l e R s m args below meth c H locs 0 0 Q (F0 m pc ls (va_rf (Option.map ad v) :: rest)) :=
  gN_fI (ref := "TariffDesk$Tape") (T := TX6) hC inW6 hG hM 1 e1 (by decide) rfl rfl (by decide) rfl (hG.2.1 _ fl_X7_26) (fun _ h => h) hdg kk
theorem fl_X7_9 : Cond.fieldLink RX7 9 "TariffDesk$UseBook" "units" "[I" ∈ WALL := WALL_of (List.mem_of_getElem? (i := 259) (by decide +kernel)) (by decide +kernel)
theorem gf_X7_9 {v : Option Nat} {x : Option Nat} (hC : CallFix p m c cc nL s args WALL RX7) (hG : GS D cy A s) (hM : MS D cy ad A s.heap z σ H locs) (e1 : fR σ 7 0 v = some x) (hdg : decode cc pc = .ok (.getfield 9, 3)) (kk : W p l e R s m args below meth c H locs 0 0 Q (F0 m (pc + 3) ls (va_rf (Option.map ad x) :: rest))) : W p l e R s m args below meth c H locs 0 0 Q (F0 m pc ls (va_rf (Option.map ad v) :: rest)) :=
  g_fR (ref := "TariffDesk$UseBook") (T := TX7) hC inW7 hG hM 0 e1 (by decide) rfl rfl (by decide) rfl (hC.2.2.2.2 _ fl_X7_9) (fun _ h => h) hdg kk
theorem fl_X8_10 : Cond.fieldLink RX8 10 "TariffDesk" "tape" "LTariffDesk$Tape;" ∈ WALL := WALL_of (List.mem_of_getElem? (i := 328) (by decide +kernel)) (by decide +kernel)
theorem gf_X8_10 {v : Option Nat} {x : Option Nat} (hC : CallFix p m c cc nL s args WALL RX8) (hG : GS D cy A s) (hM : MS D cy ad A s.heap z σ H locs) (e1 : fR σ 8 0 v = some x) (hdg : decode cc pc = .ok (.getfield 10, 3)) (kk : W p l e R s m args below meth c H locs 0 0 Q (F0 m (pc + 3) ls (va_rf (Option.map ad x) :: rest))) : W p l e R s m args below meth c H locs 0 0 Q (F0 m pc ls (va_rf (Option.map ad v) :: rest)) :=
  g_fR (ref := "TariffDesk") (T := TX8) hC inW8 hG hM 0 e1 (by decide) rfl rfl (by decide) rfl (hC.2.2.2.2 _ fl_X8_10) (fun _ h => h) hdg kk
theorem fl_X8_101 : Cond.fieldLinkNest RX8 101 "TariffDesk$Plan" "fee" "I" "TariffDesk" ∈ NWL := NW_of (List.mem_of_getElem? (i := 173) (by decide +kernel)) rfl
theorem gf_X8_101 {v : Option Nat} {x : Int32} (hC : CallFix p m c cc nL s args WALL RX8) (hG : GS D cy A s) (hM : MS D cy ad A s.heap z σ H locs) (e1 : fI σ 2 3 v = some x) (hdg : decode cc pc = .ok (.getfield 101, 3)) (kk : W p l e R s m args below meth c H locs 0 0 Q (F0 m (pc + 3) ls (.int x :: rest))) : W p l e R s m args below meth c H locs 0 0 Q (F0 m pc ls (va_rf (Option.map ad v) :: rest)) :=
  gN_fI (ref := "TariffDesk$Plan") (T := TX2) hC inW2 hG hM 3 e1 (by decide) rfl rfl (by decide) rfl (hG.2.1 _ fl_X8_101) (fun _ h => h) hdg kk
theorem fl_X8_118 : Cond.fieldLinkNest RX8 118 "TariffDesk$Plan" "nameLetters" "J" "TariffDesk" ∈ NWL := NW_of (List.mem_of_getElem? (i := 168) (by decide +kernel)) rfl
theorem gf_X8_118 {v : Option Nat} {x : Int64} (hC : CallFix p m c cc nL s args WALL RX8) (hG : GS D cy A s) (hM : MS D cy ad A s.heap z σ H locs) (e1 : fJ σ 2 1 v = some x) (hdg : decode cc pc = .ok (.getfield 118, 3)) (kk : W p l e R s m args below meth c H locs 0 0 Q (F0 m (pc + 3) ls (.long x :: rest))) : W p l e R s m args below meth c H locs 0 0 Q (F0 m pc ls (va_rf (Option.map ad v) :: rest)) :=
  gN_fJ (ref := "TariffDesk$Plan") (T := TX2) hC inW2 hG hM 1 e1 (by decide) rfl rfl (by decide) rfl (hG.2.1 _ fl_X8_118) (fun _ h => h) hdg kk
theorem fl_X8_125 : Cond.fieldLinkNest RX8 125 "TariffDesk$Plan" "nameLength" "I" "TariffDesk" ∈ NWL := NW_of (List.mem_of_getElem? (i := 171) (by decide +kernel)) rfl
theorem gf_X8_125 {v : Option Nat} {x : Int32} (hC : CallFix p m c cc nL s args WALL RX8) (hG : GS D cy A s) (hM : MS D cy ad A s.heap z σ H locs) (e1 : fI σ 2 2 v = some x) (hdg : decode cc pc = .ok (.getfield 125, 3)) (kk : W p l e R s m args below meth c H locs 0 0 Q (F0 m (pc + 3) ls (.int x :: rest))) : W p l e R s m args below meth c H locs 0 0 Q (F0 m pc ls (va_rf (Option.map ad v) :: rest)) :=
  gN_fI (ref := "TariffDesk$Plan") (T := TX2) hC inW2 hG hM 2 e1 (by decide) rfl rfl (by decide) rfl (hG.2.1 _ fl_X8_125) (fun _ h => h) hdg kk
theorem fl_X8_128 : Cond.fieldLink RX8 128 "TariffDesk" "outLength" "I" ∈ WALL := WALL_of (List.mem_of_getElem? (i := 339) (by decide +kernel)) (by decide +kernel)
theorem gf_X8_128 {v : Option Nat} {x : Int32} (hC : CallFix p m c cc nL s args WALL RX8) (hG : GS D cy A s) (hM : MS D cy ad A s.heap z σ H locs) (e1 : fI σ 8 11 v = some x) (hdg : decode cc pc = .ok (.getfield 128, 3)) (kk : W p l e R s m args below meth c H locs 0 0 Q (F0 m (pc + 3) ls (.int x :: rest))) : W p l e R s m args below meth c H locs 0 0 Q (F0 m pc ls (va_rf (Option.map ad v) :: rest)) :=
  g_fI (ref := "TariffDesk") (T := TX8) hC inW8 hG hM 11 e1 (by decide) rfl rfl (by decide) rfl (hC.2.2.2.2 _ fl_X8_128) (fun _ h => h) hdg kk
theorem fl_X8_139 : Cond.fieldLink RX8 139 "TariffDesk" "switchCents" "I" ∈ WALL := WALL_of (List.mem_of_getElem? (i := 337) (by decide +kernel)) (by decide +kernel)
theorem gf_X8_139 {v : Option Nat} {x : Int32} (hC : CallFix p m c cc nL s args WALL RX8) (hG : GS D cy A s) (hM : MS D cy ad A s.heap z σ H locs) (e1 : fI σ 8 9 v = some x) (hdg : decode cc pc = .ok (.getfield 139, 3)) (kk : W p l e R s m args below meth c H locs 0 0 Q (F0 m (pc + 3) ls (.int x :: rest))) : W p l e R s m args below meth c H locs 0 0 Q (F0 m pc ls (va_rf (Option.map ad v) :: rest)) :=
  g_fI (ref := "TariffDesk") (T := TX8) hC inW8 hG hM 9 e1 (by decide) rfl rfl (by decide) rfl (hC.2.2.2.2 _ fl_X8_139) (fun _ h => h) hdg kk
theorem fl_X8_168 : Cond.fieldLinkNest RX8 168 "TariffDesk$Parting" "groups" "[I" "TariffDesk" ∈ NWL := NW_of (List.mem_of_getElem? (i := 312) (by decide +kernel)) rfl
theorem gf_X8_168 {v : Option Nat} {x : Option Nat} (hC : CallFix p m c cc nL s args WALL RX8) (hG : GS D cy A s) (hM : MS D cy ad A s.heap z σ H locs) (e1 : fR σ 1 3 v = some x) (hdg : decode cc pc = .ok (.getfield 168, 3)) (kk : W p l e R s m args below meth c H locs 0 0 Q (F0 m (pc + 3) ls (va_rf (Option.map ad x) :: rest))) : W p l e R s m args below meth c H locs 0 0 Q (F0 m pc ls (va_rf (Option.map ad v) :: rest)) :=
  gN_fR (ref := "TariffDesk$Parting") (T := TX1) hC inW1 hG hM 3 e1 (by decide) rfl rfl (by decide) rfl (hG.2.1 _ fl_X8_168) (fun _ h => h) hdg kk
theorem fl_X8_21 : Cond.fieldLink RX8 21 "TariffDesk" "reader" "LTariffDesk$PlanReader;" ∈ WALL := WALL_of (List.mem_of_getElem? (i := 329) (by decide +kernel)) (by decide +kernel)
theorem gf_X8_21 {v : Option Nat} {x : Option Nat} (hC : CallFix p m c cc nL s args WALL RX8) (hG : GS D cy A s) (hM : MS D cy ad A s.heap z σ H locs) (e1 : fR σ 8 1 v = some x) (hdg : decode cc pc = .ok (.getfield 21, 3)) (kk : W p l e R s m args below meth c H locs 0 0 Q (F0 m (pc + 3) ls (va_rf (Option.map ad x) :: rest))) : W p l e R s m args below meth c H locs 0 0 Q (F0 m pc ls (va_rf (Option.map ad v) :: rest)) :=
  g_fR (ref := "TariffDesk") (T := TX8) hC inW8 hG hM 1 e1 (by decide) rfl rfl (by decide) rfl (hC.2.2.2.2 _ fl_X8_21) (fun _ h => h) hdg kk
theorem fl_X8_28 : Cond.fieldLink RX8 28 "TariffDesk" "useBook" "LTariffDesk$UseBook;" ∈ WALL := WALL_of (List.mem_of_getElem? (i := 330) (by decide +kernel)) (by decide +kernel)
theorem gf_X8_28 {v : Option Nat} {x : Option Nat} (hC : CallFix p m c cc nL s args WALL RX8) (hG : GS D cy A s) (hM : MS D cy ad A s.heap z σ H locs) (e1 : fR σ 8 2 v = some x) (hdg : decode cc pc = .ok (.getfield 28, 3)) (kk : W p l e R s m args below meth c H locs 0 0 Q (F0 m (pc + 3) ls (va_rf (Option.map ad x) :: rest))) : W p l e R s m args below meth c H locs 0 0 Q (F0 m pc ls (va_rf (Option.map ad v) :: rest)) :=
  g_fR (ref := "TariffDesk") (T := TX8) hC inW8 hG hM 2 e1 (by decide) rfl rfl (by decide) rfl (hC.2.2.2.2 _ fl_X8_28) (fun _ h => h) hdg kk
theorem fl_X8_35 : Cond.fieldLink RX8 35 "TariffDesk" "finder" "LTariffDesk$RowFinder;" ∈ WALL := WALL_of (List.mem_of_getElem? (i := 331) (by decide +kernel)) (by decide +kernel)
theorem gf_X8_35 {v : Option Nat} {x : Option Nat} (hC : CallFix p m c cc nL s args WALL RX8) (hG : GS D cy A s) (hM : MS D cy ad A s.heap z σ H locs) (e1 : fR σ 8 3 v = some x) (hdg : decode cc pc = .ok (.getfield 35, 3)) (kk : W p l e R s m args below meth c H locs 0 0 Q (F0 m (pc + 3) ls (va_rf (Option.map ad x) :: rest))) : W p l e R s m args below meth c H locs 0 0 Q (F0 m pc ls (va_rf (Option.map ad v) :: rest)) :=
  g_fR (ref := "TariffDesk") (T := TX8) hC inW8 hG hM 3 e1 (by decide) rfl rfl (by decide) rfl (hC.2.2.2.2 _ fl_X8_35) (fun _ h => h) hdg kk
theorem fl_X8_42 : Cond.fieldLink RX8 42 "TariffDesk" "parting" "LTariffDesk$Parting;" ∈ WALL := WALL_of (List.mem_of_getElem? (i := 332) (by decide +kernel)) (by decide +kernel)
theorem gf_X8_42 {v : Option Nat} {x : Option Nat} (hC : CallFix p m c cc nL s args WALL RX8) (hG : GS D cy A s) (hM : MS D cy ad A s.heap z σ H locs) (e1 : fR σ 8 4 v = some x) (hdg : decode cc pc = .ok (.getfield 42, 3)) (kk : W p l e R s m args below meth c H locs 0 0 Q (F0 m (pc + 3) ls (va_rf (Option.map ad x) :: rest))) : W p l e R s m args below meth c H locs 0 0 Q (F0 m pc ls (va_rf (Option.map ad v) :: rest)) :=
  g_fR (ref := "TariffDesk") (T := TX8) hC inW8 hG hM 4 e1 (by decide) rfl rfl (by decide) rfl (hC.2.2.2.2 _ fl_X8_42) (fun _ h => h) hdg kk
theorem fl_X8_46 : Cond.fieldLink RX8 46 "TariffDesk" "spanLeast" "[I" ∈ WALL := WALL_of (List.mem_of_getElem? (i := 333) (by decide +kernel)) (by decide +kernel)
theorem gf_X8_46 {v : Option Nat} {x : Option Nat} (hC : CallFix p m c cc nL s args WALL RX8) (hG : GS D cy A s) (hM : MS D cy ad A s.heap z σ H locs) (e1 : fR σ 8 5 v = some x) (hdg : decode cc pc = .ok (.getfield 46, 3)) (kk : W p l e R s m args below meth c H locs 0 0 Q (F0 m (pc + 3) ls (va_rf (Option.map ad x) :: rest))) : W p l e R s m args below meth c H locs 0 0 Q (F0 m pc ls (va_rf (Option.map ad v) :: rest)) :=
  g_fR (ref := "TariffDesk") (T := TX8) hC inW8 hG hM 5 e1 (by decide) rfl rfl (by decide) rfl (hC.2.2.2.2 _ fl_X8_46) (fun _ h => h) hdg kk
theorem fl_X8_50 : Cond.fieldLink RX8 50 "TariffDesk" "spanGreatest" "[I" ∈ WALL := WALL_of (List.mem_of_getElem? (i := 334) (by decide +kernel)) (by decide +kernel)
theorem gf_X8_50 {v : Option Nat} {x : Option Nat} (hC : CallFix p m c cc nL s args WALL RX8) (hG : GS D cy A s) (hM : MS D cy ad A s.heap z σ H locs) (e1 : fR σ 8 6 v = some x) (hdg : decode cc pc = .ok (.getfield 50, 3)) (kk : W p l e R s m args below meth c H locs 0 0 Q (F0 m (pc + 3) ls (va_rf (Option.map ad x) :: rest))) : W p l e R s m args below meth c H locs 0 0 Q (F0 m pc ls (va_rf (Option.map ad v) :: rest)) :=
  g_fR (ref := "TariffDesk") (T := TX8) hC inW8 hG hM 6 e1 (by decide) rfl rfl (by decide) rfl (hC.2.2.2.2 _ fl_X8_50) (fun _ h => h) hdg kk
theorem fl_X8_53 : Cond.fieldLink RX8 53 "TariffDesk" "row" "[I" ∈ WALL := WALL_of (List.mem_of_getElem? (i := 335) (by decide +kernel)) (by decide +kernel)
theorem gf_X8_53 {v : Option Nat} {x : Option Nat} (hC : CallFix p m c cc nL s args WALL RX8) (hG : GS D cy A s) (hM : MS D cy ad A s.heap z σ H locs) (e1 : fR σ 8 7 v = some x) (hdg : decode cc pc = .ok (.getfield 53, 3)) (kk : W p l e R s m args below meth c H locs 0 0 Q (F0 m (pc + 3) ls (va_rf (Option.map ad x) :: rest))) : W p l e R s m args below meth c H locs 0 0 Q (F0 m pc ls (va_rf (Option.map ad v) :: rest)) :=
  g_fR (ref := "TariffDesk") (T := TX8) hC inW8 hG hM 7 e1 (by decide) rfl rfl (by decide) rfl (hC.2.2.2.2 _ fl_X8_53) (fun _ h => h) hdg kk
theorem fl_X8_59 : Cond.fieldLink RX8 59 "TariffDesk" "book" "LTariffDesk$PlanBook;" ∈ WALL := WALL_of (List.mem_of_getElem? (i := 336) (by decide +kernel)) (by decide +kernel)
theorem gf_X8_59 {v : Option Nat} {x : Option Nat} (hC : CallFix p m c cc nL s args WALL RX8) (hG : GS D cy A s) (hM : MS D cy ad A s.heap z σ H locs) (e1 : fR σ 8 8 v = some x) (hdg : decode cc pc = .ok (.getfield 59, 3)) (kk : W p l e R s m args below meth c H locs 0 0 Q (F0 m (pc + 3) ls (va_rf (Option.map ad x) :: rest))) : W p l e R s m args below meth c H locs 0 0 Q (F0 m pc ls (va_rf (Option.map ad v) :: rest)) :=
  g_fR (ref := "TariffDesk") (T := TX8) hC inW8 hG hM 8 e1 (by decide) rfl rfl (by decide) rfl (hC.2.2.2.2 _ fl_X8_59) (fun _ h => h) hdg kk
theorem fl_X8_66 : Cond.fieldLinkNest RX8 66 "TariffDesk$Tape" "length" "I" "TariffDesk" ∈ NWL := NW_of (List.mem_of_getElem? (i := 104) (by decide +kernel)) rfl
theorem gf_X8_66 {v : Option Nat} {x : Int32} (hC : CallFix p m c cc nL s args WALL RX8) (hG : GS D cy A s) (hM : MS D cy ad A s.heap z σ H locs) (e1 : fI σ 6 1 v = some x) (hdg : decode cc pc = .ok (.getfield 66, 3)) (kk : W p l e R s m args below meth c H locs 0 0 Q (F0 m (pc + 3) ls (.int x :: rest))) : W p l e R s m args below meth c H locs 0 0 Q (F0 m pc ls (va_rf (Option.map ad v) :: rest)) :=
  gN_fI (ref := "TariffDesk$Tape") (T := TX6) hC inW6 hG hM 1 e1 (by decide) rfl rfl (by decide) rfl (hG.2.1 _ fl_X8_66) (fun _ h => h) hdg kk
theorem fl_X8_78 : Cond.fieldLinkNest RX8 78 "TariffDesk$PlanReader" "faultPlace" "I" "TariffDesk" ∈ NWL := NW_of (List.mem_of_getElem? (i := 220) (by decide +kernel)) rfl
theorem gf_X8_78 {v : Option Nat} {x : Int32} (hC : CallFix p m c cc nL s args WALL RX8) (hG : GS D cy A s) (hM : MS D cy ad A s.heap z σ H locs) (e1 : fI σ 4 5 v = some x) (hdg : decode cc pc = .ok (.getfield 78, 3)) (kk : W p l e R s m args below meth c H locs 0 0 Q (F0 m (pc + 3) ls (.int x :: rest))) : W p l e R s m args below meth c H locs 0 0 Q (F0 m pc ls (va_rf (Option.map ad v) :: rest)) :=
  gN_fI (ref := "TariffDesk$PlanReader") (T := TX4) hC inW4 hG hM 5 e1 (by decide) rfl rfl (by decide) rfl (hG.2.1 _ fl_X8_78) (fun _ h => h) hdg kk
theorem fl_X8_88 : Cond.fieldLinkNest RX8 88 "TariffDesk$PlanBook" "size" "I" "TariffDesk" ∈ NWL := NW_of (List.mem_of_getElem? (i := 208) (by decide +kernel)) rfl
theorem gf_X8_88 {v : Option Nat} {x : Int32} (hC : CallFix p m c cc nL s args WALL RX8) (hG : GS D cy A s) (hM : MS D cy ad A s.heap z σ H locs) (e1 : fI σ 3 1 v = some x) (hdg : decode cc pc = .ok (.getfield 88, 3)) (kk : W p l e R s m args below meth c H locs 0 0 Q (F0 m (pc + 3) ls (.int x :: rest))) : W p l e R s m args below meth c H locs 0 0 Q (F0 m pc ls (va_rf (Option.map ad v) :: rest)) :=
  gN_fI (ref := "TariffDesk$PlanBook") (T := TX3) hC inW3 hG hM 1 e1 (by decide) rfl rfl (by decide) rfl (hG.2.1 _ fl_X8_88) (fun _ h => h) hdg kk
theorem fl_X8_91 : Cond.fieldLinkNest RX8 91 "TariffDesk$PlanReader" "faultKind" "I" "TariffDesk" ∈ NWL := NW_of (List.mem_of_getElem? (i := 219) (by decide +kernel)) rfl
theorem gf_X8_91 {v : Option Nat} {x : Int32} (hC : CallFix p m c cc nL s args WALL RX8) (hG : GS D cy A s) (hM : MS D cy ad A s.heap z σ H locs) (e1 : fI σ 4 4 v = some x) (hdg : decode cc pc = .ok (.getfield 91, 3)) (kk : W p l e R s m args below meth c H locs 0 0 Q (F0 m (pc + 3) ls (.int x :: rest))) : W p l e R s m args below meth c H locs 0 0 Q (F0 m pc ls (va_rf (Option.map ad v) :: rest)) :=
  gN_fI (ref := "TariffDesk$PlanReader") (T := TX4) hC inW4 hG hM 4 e1 (by decide) rfl rfl (by decide) rfl (hG.2.1 _ fl_X8_91) (fun _ h => h) hdg kk
theorem fl_X9_101 : Cond.fieldLink RX9 101 "TariffDeskModel" "to" "I" ∈ WALL := WALL_of (List.mem_of_getElem? (i := 787) (by decide +kernel)) (by decide +kernel)
theorem gf_X9_101 {v : Option Nat} {x : Int32} (hC : CallFix p m c cc nL s args WALL RX9) (hG : GS D cy A s) (hM : MS D cy ad A s.heap z σ H locs) (e1 : fI σ 9 4 v = some x) (hdg : decode cc pc = .ok (.getfield 101, 3)) (kk : W p l e R s m args below meth c H locs 0 0 Q (F0 m (pc + 3) ls (.int x :: rest))) : W p l e R s m args below meth c H locs 0 0 Q (F0 m pc ls (va_rf (Option.map ad v) :: rest)) :=
  g_fI (ref := "TariffDeskModel") (T := TX9) hC inW9 hG hM 4 e1 (by decide) rfl rfl (by decide) rfl (hC.2.2.2.2 _ fl_X9_101) (fun _ h => h) hdg kk
theorem fl_X9_104 : Cond.fieldLink RX9 104 "TariffDeskModel" "from" "I" ∈ WALL := WALL_of (List.mem_of_getElem? (i := 788) (by decide +kernel)) (by decide +kernel)
theorem gf_X9_104 {v : Option Nat} {x : Int32} (hC : CallFix p m c cc nL s args WALL RX9) (hG : GS D cy A s) (hM : MS D cy ad A s.heap z σ H locs) (e1 : fI σ 9 5 v = some x) (hdg : decode cc pc = .ok (.getfield 104, 3)) (kk : W p l e R s m args below meth c H locs 0 0 Q (F0 m (pc + 3) ls (.int x :: rest))) : W p l e R s m args below meth c H locs 0 0 Q (F0 m pc ls (va_rf (Option.map ad v) :: rest)) :=
  g_fI (ref := "TariffDeskModel") (T := TX9) hC inW9 hG hM 5 e1 (by decide) rfl rfl (by decide) rfl (hC.2.2.2.2 _ fl_X9_104) (fun _ h => h) hdg kk
theorem fl_X9_107 : Cond.fieldLink RX9 107 "TariffDeskModel" "kind" "I" ∈ WALL := WALL_of (List.mem_of_getElem? (i := 789) (by decide +kernel)) (by decide +kernel)
theorem gf_X9_107 {v : Option Nat} {x : Int32} (hC : CallFix p m c cc nL s args WALL RX9) (hG : GS D cy A s) (hM : MS D cy ad A s.heap z σ H locs) (e1 : fI σ 9 6 v = some x) (hdg : decode cc pc = .ok (.getfield 107, 3)) (kk : W p l e R s m args below meth c H locs 0 0 Q (F0 m (pc + 3) ls (.int x :: rest))) : W p l e R s m args below meth c H locs 0 0 Q (F0 m pc ls (va_rf (Option.map ad v) :: rest)) :=
  g_fI (ref := "TariffDeskModel") (T := TX9) hC inW9 hG hM 6 e1 (by decide) rfl rfl (by decide) rfl (hC.2.2.2.2 _ fl_X9_107) (fun _ h => h) hdg kk
theorem fl_X9_117 : Cond.fieldLink RX9 117 "TariffDeskModel" "name" "J" ∈ WALL := WALL_of (List.mem_of_getElem? (i := 793) (by decide +kernel)) (by decide +kernel)
theorem gf_X9_117 {v : Option Nat} {x : Int64} (hC : CallFix p m c cc nL s args WALL RX9) (hG : GS D cy A s) (hM : MS D cy ad A s.heap z σ H locs) (e1 : fJ σ 9 10 v = some x) (hdg : decode cc pc = .ok (.getfield 117, 3)) (kk : W p l e R s m args below meth c H locs 0 0 Q (F0 m (pc + 3) ls (.long x :: rest))) : W p l e R s m args below meth c H locs 0 0 Q (F0 m pc ls (va_rf (Option.map ad v) :: rest)) :=
  g_fJ (ref := "TariffDeskModel") (T := TX9) hC inW9 hG hM 10 e1 (by decide) rfl rfl (by decide) rfl (hC.2.2.2.2 _ fl_X9_117) (fun _ h => h) hdg kk
theorem fl_X9_121 : Cond.fieldLink RX9 121 "TariffDeskModel" "number" "I" ∈ WALL := WALL_of (List.mem_of_getElem? (i := 790) (by decide +kernel)) (by decide +kernel)
theorem gf_X9_121 {v : Option Nat} {x : Int32} (hC : CallFix p m c cc nL s args WALL RX9) (hG : GS D cy A s) (hM : MS D cy ad A s.heap z σ H locs) (e1 : fI σ 9 7 v = some x) (hdg : decode cc pc = .ok (.getfield 121, 3)) (kk : W p l e R s m args below meth c H locs 0 0 Q (F0 m (pc + 3) ls (.int x :: rest))) : W p l e R s m args below meth c H locs 0 0 Q (F0 m pc ls (va_rf (Option.map ad v) :: rest)) :=
  g_fI (ref := "TariffDeskModel") (T := TX9) hC inW9 hG hM 7 e1 (by decide) rfl rfl (by decide) rfl (hC.2.2.2.2 _ fl_X9_121) (fun _ h => h) hdg kk
theorem fl_X9_13 : Cond.fieldLink RX9 13 "TariffDeskModel" "names" "[J" ∈ WALL := WALL_of (List.mem_of_getElem? (i := 794) (by decide +kernel)) (by decide +kernel)
theorem gf_X9_13 {v : Option Nat} {x : Option Nat} (hC : CallFix p m c cc nL s args WALL RX9) (hG : GS D cy A s) (hM : MS D cy ad A s.heap z σ H locs) (e1 : fR σ 9 11 v = some x) (hdg : decode cc pc = .ok (.getfield 13, 3)) (kk : W p l e R s m args below meth c H locs 0 0 Q (F0 m (pc + 3) ls (va_rf (Option.map ad x) :: rest))) : W p l e R s m args below meth c H locs 0 0 Q (F0 m pc ls (va_rf (Option.map ad v) :: rest)) :=
  g_fR (ref := "TariffDeskModel") (T := TX9) hC inW9 hG hM 11 e1 (by decide) rfl rfl (by decide) rfl (hC.2.2.2.2 _ fl_X9_13) (fun _ h => h) hdg kk
theorem fl_X9_162 : Cond.fieldLink RX9 162 "TariffDeskModel" "fault" "I" ∈ WALL := WALL_of (List.mem_of_getElem? (i := 791) (by decide +kernel)) (by decide +kernel)
theorem gf_X9_162 {v : Option Nat} {x : Int32} (hC : CallFix p m c cc nL s args WALL RX9) (hG : GS D cy A s) (hM : MS D cy ad A s.heap z σ H locs) (e1 : fI σ 9 8 v = some x) (hdg : decode cc pc = .ok (.getfield 162, 3)) (kk : W p l e R s m args below meth c H locs 0 0 Q (F0 m (pc + 3) ls (.int x :: rest))) : W p l e R s m args below meth c H locs 0 0 Q (F0 m pc ls (va_rf (Option.map ad v) :: rest)) :=
  g_fI (ref := "TariffDeskModel") (T := TX9) hC inW9 hG hM 8 e1 (by decide) rfl rfl (by decide) rfl (hC.2.2.2.2 _ fl_X9_162) (fun _ h => h) hdg kk
theorem fl_X9_165 : Cond.fieldLink RX9 165 "TariffDeskModel" "place" "I" ∈ WALL := WALL_of (List.mem_of_getElem? (i := 792) (by decide +kernel)) (by decide +kernel)
theorem gf_X9_165 {v : Option Nat} {x : Int32} (hC : CallFix p m c cc nL s args WALL RX9) (hG : GS D cy A s) (hM : MS D cy ad A s.heap z σ H locs) (e1 : fI σ 9 9 v = some x) (hdg : decode cc pc = .ok (.getfield 165, 3)) (kk : W p l e R s m args below meth c H locs 0 0 Q (F0 m (pc + 3) ls (.int x :: rest))) : W p l e R s m args below meth c H locs 0 0 Q (F0 m pc ls (va_rf (Option.map ad v) :: rest)) :=
  g_fI (ref := "TariffDeskModel") (T := TX9) hC inW9 hG hM 9 e1 (by decide) rfl rfl (by decide) rfl (hC.2.2.2.2 _ fl_X9_165) (fun _ h => h) hdg kk
theorem fl_X9_17 : Cond.fieldLink RX9 17 "TariffDeskModel" "fee" "[I" ∈ WALL := WALL_of (List.mem_of_getElem? (i := 795) (by decide +kernel)) (by decide +kernel)
theorem gf_X9_17 {v : Option Nat} {x : Option Nat} (hC : CallFix p m c cc nL s args WALL RX9) (hG : GS D cy A s) (hM : MS D cy ad A s.heap z σ H locs) (e1 : fR σ 9 12 v = some x) (hdg : decode cc pc = .ok (.getfield 17, 3)) (kk : W p l e R s m args below meth c H locs 0 0 Q (F0 m (pc + 3) ls (va_rf (Option.map ad x) :: rest))) : W p l e R s m args below meth c H locs 0 0 Q (F0 m pc ls (va_rf (Option.map ad v) :: rest)) :=
  g_fR (ref := "TariffDeskModel") (T := TX9) hC inW9 hG hM 12 e1 (by decide) rfl rfl (by decide) rfl (hC.2.2.2.2 _ fl_X9_17) (fun _ h => h) hdg kk
theorem fl_X9_171 : Cond.fieldLink RX9 171 "TariffDeskModel" "read" "I" ∈ WALL := WALL_of (List.mem_of_getElem? (i := 806) (by decide +kernel)) (by decide +kernel)
theorem gf_X9_171 {v : Option Nat} {x : Int32} (hC : CallFix p m c cc nL s args WALL RX9) (hG : GS D cy A s) (hM : MS D cy ad A s.heap z σ H locs) (e1 : fI σ 9 23 v = some x) (hdg : decode cc pc = .ok (.getfield 171, 3)) (kk : W p l e R s m args below meth c H locs 0 0 Q (F0 m (pc + 3) ls (.int x :: rest))) : W p l e R s m args below meth c H locs 0 0 Q (F0 m pc ls (va_rf (Option.map ad v) :: rest)) :=
  g_fI (ref := "TariffDeskModel") (T := TX9) hC inW9 hG hM 23 e1 (by decide) rfl rfl (by decide) rfl (hC.2.2.2.2 _ fl_X9_171) (fun _ h => h) hdg kk
theorem fl_X9_196 : Cond.fieldLink RX9 196 "TariffDeskModel" "newPlans" "I" ∈ WALL := WALL_of (List.mem_of_getElem? (i := 807) (by decide +kernel)) (by decide +kernel)
theorem gf_X9_196 {v : Option Nat} {x : Int32} (hC : CallFix p m c cc nL s args WALL RX9) (hG : GS D cy A s) (hM : MS D cy ad A s.heap z σ H locs) (e1 : fI σ 9 24 v = some x) (hdg : decode cc pc = .ok (.getfield 196, 3)) (kk : W p l e R s m args below meth c H locs 0 0 Q (F0 m (pc + 3) ls (.int x :: rest))) : W p l e R s m args below meth c H locs 0 0 Q (F0 m pc ls (va_rf (Option.map ad v) :: rest)) :=
  g_fI (ref := "TariffDeskModel") (T := TX9) hC inW9 hG hM 24 e1 (by decide) rfl rfl (by decide) rfl (hC.2.2.2.2 _ fl_X9_196) (fun _ h => h) hdg kk
theorem fl_X9_20 : Cond.fieldLink RX9 20 "TariffDeskModel" "term" "[I" ∈ WALL := WALL_of (List.mem_of_getElem? (i := 796) (by decide +kernel)) (by decide +kernel)
theorem gf_X9_20 {v : Option Nat} {x : Option Nat} (hC : CallFix p m c cc nL s args WALL RX9) (hG : GS D cy A s) (hM : MS D cy ad A s.heap z σ H locs) (e1 : fR σ 9 13 v = some x) (hdg : decode cc pc = .ok (.getfield 20, 3)) (kk : W p l e R s m args below meth c H locs 0 0 Q (F0 m (pc + 3) ls (va_rf (Option.map ad x) :: rest))) : W p l e R s m args below meth c H locs 0 0 Q (F0 m pc ls (va_rf (Option.map ad v) :: rest)) :=
  g_fR (ref := "TariffDeskModel") (T := TX9) hC inW9 hG hM 13 e1 (by decide) rfl rfl (by decide) rfl (hC.2.2.2.2 _ fl_X9_20) (fun _ h => h) hdg kk
theorem fl_X9_205 : Cond.fieldLink RX9 205 "TariffDeskModel" "plans" "I" ∈ WALL := WALL_of (List.mem_of_getElem? (i := 805) (by decide +kernel)) (by decide +kernel)
theorem gf_X9_205 {v : Option Nat} {x : Int32} (hC : CallFix p m c cc nL s args WALL RX9) (hG : GS D cy A s) (hM : MS D cy ad A s.heap z σ H locs) (e1 : fI σ 9 22 v = some x) (hdg : decode cc pc = .ok (.getfield 205, 3)) (kk : W p l e R s m args below meth c H locs 0 0 Q (F0 m (pc + 3) ls (.int x :: rest))) : W p l e R s m args below meth c H locs 0 0 Q (F0 m pc ls (va_rf (Option.map ad v) :: rest)) :=
  g_fI (ref := "TariffDeskModel") (T := TX9) hC inW9 hG hM 22 e1 (by decide) rfl rfl (by decide) rfl (hC.2.2.2.2 _ fl_X9_205) (fun _ h => h) hdg kk
theorem fl_X9_208 : Cond.fieldLink RX9 208 "TariffDeskModel" "begun" "I" ∈ WALL := WALL_of (List.mem_of_getElem? (i := 817) (by decide +kernel)) (by decide +kernel)
theorem gf_X9_208 {v : Option Nat} {x : Int32} (hC : CallFix p m c cc nL s args WALL RX9) (hG : GS D cy A s) (hM : MS D cy ad A s.heap z σ H locs) (e1 : fI σ 9 34 v = some x) (hdg : decode cc pc = .ok (.getfield 208, 3)) (kk : W p l e R s m args below meth c H locs 0 0 Q (F0 m (pc + 3) ls (.int x :: rest))) : W p l e R s m args below meth c H locs 0 0 Q (F0 m pc ls (va_rf (Option.map ad v) :: rest)) :=
  g_fI (ref := "TariffDeskModel") (T := TX9) hC inW9 hG hM 34 e1 (by decide) rfl rfl (by decide) rfl (hC.2.2.2.2 _ fl_X9_208) (fun _ h => h) hdg kk
theorem fl_X9_211 : Cond.fieldLink RX9 211 "TariffDeskModel" "ended" "I" ∈ WALL := WALL_of (List.mem_of_getElem? (i := 818) (by decide +kernel)) (by decide +kernel)
theorem gf_X9_211 {v : Option Nat} {x : Int32} (hC : CallFix p m c cc nL s args WALL RX9) (hG : GS D cy A s) (hM : MS D cy ad A s.heap z σ H locs) (e1 : fI σ 9 35 v = some x) (hdg : decode cc pc = .ok (.getfield 211, 3)) (kk : W p l e R s m args below meth c H locs 0 0 Q (F0 m (pc + 3) ls (.int x :: rest))) : W p l e R s m args below meth c H locs 0 0 Q (F0 m pc ls (va_rf (Option.map ad v) :: rest)) :=
  g_fI (ref := "TariffDeskModel") (T := TX9) hC inW9 hG hM 35 e1 (by decide) rfl rfl (by decide) rfl (hC.2.2.2.2 _ fl_X9_211) (fun _ h => h) hdg kk
theorem fl_X9_221 : Cond.fieldLink RX9 221 "TariffDeskModel" "outs" "I" ∈ WALL := WALL_of (List.mem_of_getElem? (i := 809) (by decide +kernel)) (by decide +kernel)
theorem gf_X9_221 {v : Option Nat} {x : Int32} (hC : CallFix p m c cc nL s args WALL RX9) (hG : GS D cy A s) (hM : MS D cy ad A s.heap z σ H locs) (e1 : fI σ 9 26 v = some x) (hdg : decode cc pc = .ok (.getfield 221, 3)) (kk : W p l e R s m args below meth c H locs 0 0 Q (F0 m (pc + 3) ls (.int x :: rest))) : W p l e R s m args below meth c H locs 0 0 Q (F0 m pc ls (va_rf (Option.map ad v) :: rest)) :=
  g_fI (ref := "TariffDeskModel") (T := TX9) hC inW9 hG hM 26 e1 (by decide) rfl rfl (by decide) rfl (hC.2.2.2.2 _ fl_X9_221) (fun _ h => h) hdg kk
theorem fl_X9_23 : Cond.fieldLink RX9 23 "TariffDeskModel" "first" "[I" ∈ WALL := WALL_of (List.mem_of_getElem? (i := 797) (by decide +kernel)) (by decide +kernel)
theorem gf_X9_23 {v : Option Nat} {x : Option Nat} (hC : CallFix p m c cc nL s args WALL RX9) (hG : GS D cy A s) (hM : MS D cy ad A s.heap z σ H locs) (e1 : fR σ 9 14 v = some x) (hdg : decode cc pc = .ok (.getfield 23, 3)) (kk : W p l e R s m args below meth c H locs 0 0 Q (F0 m (pc + 3) ls (va_rf (Option.map ad x) :: rest))) : W p l e R s m args below meth c H locs 0 0 Q (F0 m pc ls (va_rf (Option.map ad v) :: rest)) :=
  g_fR (ref := "TariffDeskModel") (T := TX9) hC inW9 hG hM 14 e1 (by decide) rfl rfl (by decide) rfl (hC.2.2.2.2 _ fl_X9_23) (fun _ h => h) hdg kk
theorem fl_X9_232 : Cond.fieldLink RX9 232 "TariffDeskModel" "change" "I" ∈ WALL := WALL_of (List.mem_of_getElem? (i := 811) (by decide +kernel)) (by decide +kernel)
theorem gf_X9_232 {v : Option Nat} {x : Int32} (hC : CallFix p m c cc nL s args WALL RX9) (hG : GS D cy A s) (hM : MS D cy ad A s.heap z σ H locs) (e1 : fI σ 9 28 v = some x) (hdg : decode cc pc = .ok (.getfield 232, 3)) (kk : W p l e R s m args below meth c H locs 0 0 Q (F0 m (pc + 3) ls (.int x :: rest))) : W p l e R s m args below meth c H locs 0 0 Q (F0 m pc ls (va_rf (Option.map ad v) :: rest)) :=
  g_fI (ref := "TariffDeskModel") (T := TX9) hC inW9 hG hM 28 e1 (by decide) rfl rfl (by decide) rfl (hC.2.2.2.2 _ fl_X9_232) (fun _ h => h) hdg kk
theorem fl_X9_26 : Cond.fieldLink RX9 26 "TariffDeskModel" "last" "[I" ∈ WALL := WALL_of (List.mem_of_getElem? (i := 798) (by decide +kernel)) (by decide +kernel)
theorem gf_X9_26 {v : Option Nat} {x : Option Nat} (hC : CallFix p m c cc nL s args WALL RX9) (hG : GS D cy A s) (hM : MS D cy ad A s.heap z σ H locs) (e1 : fR σ 9 15 v = some x) (hdg : decode cc pc = .ok (.getfield 26, 3)) (kk : W p l e R s m args below meth c H locs 0 0 Q (F0 m (pc + 3) ls (va_rf (Option.map ad x) :: rest))) : W p l e R s m args below meth c H locs 0 0 Q (F0 m pc ls (va_rf (Option.map ad v) :: rest)) :=
  g_fR (ref := "TariffDeskModel") (T := TX9) hC inW9 hG hM 15 e1 (by decide) rfl rfl (by decide) rfl (hC.2.2.2.2 _ fl_X9_26) (fun _ h => h) hdg kk
theorem fl_X9_29 : Cond.fieldLink RX9 29 "TariffDeskModel" "has" "[Z" ∈ WALL := WALL_of (List.mem_of_getElem? (i := 799) (by decide +kernel)) (by decide +kernel)
theorem gf_X9_29 {v : Option Nat} {x : Option Nat} (hC : CallFix p m c cc nL s args WALL RX9) (hG : GS D cy A s) (hM : MS D cy ad A s.heap z σ H locs) (e1 : fR σ 9 16 v = some x) (hdg : decode cc pc = .ok (.getfield 29, 3)) (kk : W p l e R s m args below meth c H locs 0 0 Q (F0 m (pc + 3) ls (va_rf (Option.map ad x) :: rest))) : W p l e R s m args below meth c H locs 0 0 Q (F0 m pc ls (va_rf (Option.map ad v) :: rest)) :=
  g_fR (ref := "TariffDeskModel") (T := TX9) hC inW9 hG hM 16 e1 (by decide) rfl rfl (by decide) rfl (hC.2.2.2.2 _ fl_X9_29) (fun _ h => h) hdg kk
theorem fl_X9_33 : Cond.fieldLink RX9 33 "TariffDeskModel" "free" "[I" ∈ WALL := WALL_of (List.mem_of_getElem? (i := 800) (by decide +kernel)) (by decide +kernel)
theorem gf_X9_33 {v : Option Nat} {x : Option Nat} (hC : CallFix p m c cc nL s args WALL RX9) (hG : GS D cy A s) (hM : MS D cy ad A s.heap z σ H locs) (e1 : fR σ 9 17 v = some x) (hdg : decode cc pc = .ok (.getfield 33, 3)) (kk : W p l e R s m args below meth c H locs 0 0 Q (F0 m (pc + 3) ls (va_rf (Option.map ad x) :: rest))) : W p l e R s m args below meth c H locs 0 0 Q (F0 m pc ls (va_rf (Option.map ad v) :: rest)) :=
  g_fR (ref := "TariffDeskModel") (T := TX9) hC inW9 hG hM 17 e1 (by decide) rfl rfl (by decide) rfl (hC.2.2.2.2 _ fl_X9_33) (fun _ h => h) hdg kk
theorem fl_X9_36 : Cond.fieldLink RX9 36 "TariffDeskModel" "steps" "[I" ∈ WALL := WALL_of (List.mem_of_getElem? (i := 801) (by decide +kernel)) (by decide +kernel)
theorem gf_X9_36 {v : Option Nat} {x : Option Nat} (hC : CallFix p m c cc nL s args WALL RX9) (hG : GS D cy A s) (hM : MS D cy ad A s.heap z σ H locs) (e1 : fR σ 9 18 v = some x) (hdg : decode cc pc = .ok (.getfield 36, 3)) (kk : W p l e R s m args below meth c H locs 0 0 Q (F0 m (pc + 3) ls (va_rf (Option.map ad x) :: rest))) : W p l e R s m args below meth c H locs 0 0 Q (F0 m pc ls (va_rf (Option.map ad v) :: rest)) :=
  g_fR (ref := "TariffDeskModel") (T := TX9) hC inW9 hG hM 18 e1 (by decide) rfl rfl (by decide) rfl (hC.2.2.2.2 _ fl_X9_36) (fun _ h => h) hdg kk
theorem fl_X9_39 : Cond.fieldLink RX9 39 "TariffDeskModel" "upTo" "[I" ∈ WALL := WALL_of (List.mem_of_getElem? (i := 802) (by decide +kernel)) (by decide +kernel)
theorem gf_X9_39 {v : Option Nat} {x : Option Nat} (hC : CallFix p m c cc nL s args WALL RX9) (hG : GS D cy A s) (hM : MS D cy ad A s.heap z σ H locs) (e1 : fR σ 9 19 v = some x) (hdg : decode cc pc = .ok (.getfield 39, 3)) (kk : W p l e R s m args below meth c H locs 0 0 Q (F0 m (pc + 3) ls (va_rf (Option.map ad x) :: rest))) : W p l e R s m args below meth c H locs 0 0 Q (F0 m pc ls (va_rf (Option.map ad v) :: rest)) :=
  g_fR (ref := "TariffDeskModel") (T := TX9) hC inW9 hG hM 19 e1 (by decide) rfl rfl (by decide) rfl (hC.2.2.2.2 _ fl_X9_39) (fun _ h => h) hdg kk
theorem fl_X9_42 : Cond.fieldLink RX9 42 "TariffDeskModel" "cents" "[I" ∈ WALL := WALL_of (List.mem_of_getElem? (i := 803) (by decide +kernel)) (by decide +kernel)
theorem gf_X9_42 {v : Option Nat} {x : Option Nat} (hC : CallFix p m c cc nL s args WALL RX9) (hG : GS D cy A s) (hM : MS D cy ad A s.heap z σ H locs) (e1 : fR σ 9 20 v = some x) (hdg : decode cc pc = .ok (.getfield 42, 3)) (kk : W p l e R s m args below meth c H locs 0 0 Q (F0 m (pc + 3) ls (va_rf (Option.map ad x) :: rest))) : W p l e R s m args below meth c H locs 0 0 Q (F0 m pc ls (va_rf (Option.map ad v) :: rest)) :=
  g_fR (ref := "TariffDeskModel") (T := TX9) hC inW9 hG hM 20 e1 (by decide) rfl rfl (by decide) rfl (hC.2.2.2.2 _ fl_X9_42) (fun _ h => h) hdg kk
theorem fl_X9_45 : Cond.fieldLink RX9 45 "TariffDeskModel" "rest" "[I" ∈ WALL := WALL_of (List.mem_of_getElem? (i := 804) (by decide +kernel)) (by decide +kernel)
theorem gf_X9_45 {v : Option Nat} {x : Option Nat} (hC : CallFix p m c cc nL s args WALL RX9) (hG : GS D cy A s) (hM : MS D cy ad A s.heap z σ H locs) (e1 : fR σ 9 21 v = some x) (hdg : decode cc pc = .ok (.getfield 45, 3)) (kk : W p l e R s m args below meth c H locs 0 0 Q (F0 m (pc + 3) ls (va_rf (Option.map ad x) :: rest))) : W p l e R s m args below meth c H locs 0 0 Q (F0 m pc ls (va_rf (Option.map ad v) :: rest)) :=
  g_fR (ref := "TariffDeskModel") (T := TX9) hC inW9 hG hM 21 e1 (by decide) rfl rfl (by decide) rfl (hC.2.2.2.2 _ fl_X9_45) (fun _ h => h) hdg kk
theorem fl_X9_48 : Cond.fieldLink RX9 48 "TariffDeskModel" "out" "[I" ∈ WALL := WALL_of (List.mem_of_getElem? (i := 808) (by decide +kernel)) (by decide +kernel)
theorem gf_X9_48 {v : Option Nat} {x : Option Nat} (hC : CallFix p m c cc nL s args WALL RX9) (hG : GS D cy A s) (hM : MS D cy ad A s.heap z σ H locs) (e1 : fR σ 9 25 v = some x) (hdg : decode cc pc = .ok (.getfield 48, 3)) (kk : W p l e R s m args below meth c H locs 0 0 Q (F0 m (pc + 3) ls (va_rf (Option.map ad x) :: rest))) : W p l e R s m args below meth c H locs 0 0 Q (F0 m pc ls (va_rf (Option.map ad v) :: rest)) :=
  g_fR (ref := "TariffDeskModel") (T := TX9) hC inW9 hG hM 25 e1 (by decide) rfl rfl (by decide) rfl (hC.2.2.2.2 _ fl_X9_48) (fun _ h => h) hdg kk
theorem fl_X9_51 : Cond.fieldLink RX9 51 "TariffDeskModel" "used" "[I" ∈ WALL := WALL_of (List.mem_of_getElem? (i := 810) (by decide +kernel)) (by decide +kernel)
theorem gf_X9_51 {v : Option Nat} {x : Option Nat} (hC : CallFix p m c cc nL s args WALL RX9) (hG : GS D cy A s) (hM : MS D cy ad A s.heap z σ H locs) (e1 : fR σ 9 27 v = some x) (hdg : decode cc pc = .ok (.getfield 51, 3)) (kk : W p l e R s m args below meth c H locs 0 0 Q (F0 m (pc + 3) ls (va_rf (Option.map ad x) :: rest))) : W p l e R s m args below meth c H locs 0 0 Q (F0 m pc ls (va_rf (Option.map ad v) :: rest)) :=
  g_fR (ref := "TariffDeskModel") (T := TX9) hC inW9 hG hM 27 e1 (by decide) rfl rfl (by decide) rfl (hC.2.2.2.2 _ fl_X9_51) (fun _ h => h) hdg kk
theorem fl_X9_54 : Cond.fieldLink RX9 54 "TariffDeskModel" "dear" "[J" ∈ WALL := WALL_of (List.mem_of_getElem? (i := 812) (by decide +kernel)) (by decide +kernel)
theorem gf_X9_54 {v : Option Nat} {x : Option Nat} (hC : CallFix p m c cc nL s args WALL RX9) (hG : GS D cy A s) (hM : MS D cy ad A s.heap z σ H locs) (e1 : fR σ 9 29 v = some x) (hdg : decode cc pc = .ok (.getfield 54, 3)) (kk : W p l e R s m args below meth c H locs 0 0 Q (F0 m (pc + 3) ls (va_rf (Option.map ad x) :: rest))) : W p l e R s m args below meth c H locs 0 0 Q (F0 m pc ls (va_rf (Option.map ad v) :: rest)) :=
  g_fR (ref := "TariffDeskModel") (T := TX9) hC inW9 hG hM 29 e1 (by decide) rfl rfl (by decide) rfl (hC.2.2.2.2 _ fl_X9_54) (fun _ h => h) hdg kk
theorem fl_X9_57 : Cond.fieldLink RX9 57 "TariffDeskModel" "dearThen" "[J" ∈ WALL := WALL_of (List.mem_of_getElem? (i := 813) (by decide +kernel)) (by decide +kernel)
theorem gf_X9_57 {v : Option Nat} {x : Option Nat} (hC : CallFix p m c cc nL s args WALL RX9) (hG : GS D cy A s) (hM : MS D cy ad A s.heap z σ H locs) (e1 : fR σ 9 30 v = some x) (hdg : decode cc pc = .ok (.getfield 57, 3)) (kk : W p l e R s m args below meth c H locs 0 0 Q (F0 m (pc + 3) ls (va_rf (Option.map ad x) :: rest))) : W p l e R s m args below meth c H locs 0 0 Q (F0 m pc ls (va_rf (Option.map ad v) :: rest)) :=
  g_fR (ref := "TariffDeskModel") (T := TX9) hC inW9 hG hM 30 e1 (by decide) rfl rfl (by decide) rfl (hC.2.2.2.2 _ fl_X9_57) (fun _ h => h) hdg kk
theorem fl_X9_60 : Cond.fieldLink RX9 60 "TariffDeskModel" "rows" "[I" ∈ WALL := WALL_of (List.mem_of_getElem? (i := 814) (by decide +kernel)) (by decide +kernel)
theorem gf_X9_60 {v : Option Nat} {x : Option Nat} (hC : CallFix p m c cc nL s args WALL RX9) (hG : GS D cy A s) (hM : MS D cy ad A s.heap z σ H locs) (e1 : fR σ 9 31 v = some x) (hdg : decode cc pc = .ok (.getfield 60, 3)) (kk : W p l e R s m args below meth c H locs 0 0 Q (F0 m (pc + 3) ls (va_rf (Option.map ad x) :: rest))) : W p l e R s m args below meth c H locs 0 0 Q (F0 m pc ls (va_rf (Option.map ad v) :: rest)) :=
  g_fR (ref := "TariffDeskModel") (T := TX9) hC inW9 hG hM 31 e1 (by decide) rfl rfl (by decide) rfl (hC.2.2.2.2 _ fl_X9_60) (fun _ h => h) hdg kk
theorem fl_X9_63 : Cond.fieldLink RX9 63 "TariffDeskModel" "rowsThen" "[I" ∈ WALL := WALL_of (List.mem_of_getElem? (i := 815) (by decide +kernel)) (by decide +kernel)
theorem gf_X9_63 {v : Option Nat} {x : Option Nat} (hC : CallFix p m c cc nL s args WALL RX9) (hG : GS D cy A s) (hM : MS D cy ad A s.heap z σ H locs) (e1 : fR σ 9 32 v = some x) (hdg : decode cc pc = .ok (.getfield 63, 3)) (kk : W p l e R s m args below meth c H locs 0 0 Q (F0 m (pc + 3) ls (va_rf (Option.map ad x) :: rest))) : W p l e R s m args below meth c H locs 0 0 Q (F0 m pc ls (va_rf (Option.map ad v) :: rest)) :=
  g_fR (ref := "TariffDeskModel") (T := TX9) hC inW9 hG hM 32 e1 (by decide) rfl rfl (by decide) rfl (hC.2.2.2.2 _ fl_X9_63) (fun _ h => h) hdg kk
theorem fl_X9_66 : Cond.fieldLink RX9 66 "TariffDeskModel" "row" "[I" ∈ WALL := WALL_of (List.mem_of_getElem? (i := 816) (by decide +kernel)) (by decide +kernel)
theorem gf_X9_66 {v : Option Nat} {x : Option Nat} (hC : CallFix p m c cc nL s args WALL RX9) (hG : GS D cy A s) (hM : MS D cy ad A s.heap z σ H locs) (e1 : fR σ 9 33 v = some x) (hdg : decode cc pc = .ok (.getfield 66, 3)) (kk : W p l e R s m args below meth c H locs 0 0 Q (F0 m (pc + 3) ls (va_rf (Option.map ad x) :: rest))) : W p l e R s m args below meth c H locs 0 0 Q (F0 m pc ls (va_rf (Option.map ad v) :: rest)) :=
  g_fR (ref := "TariffDeskModel") (T := TX9) hC inW9 hG hM 33 e1 (by decide) rfl rfl (by decide) rfl (hC.2.2.2.2 _ fl_X9_66) (fun _ h => h) hdg kk
theorem fl_X9_69 : Cond.fieldLink RX9 69 "TariffDeskModel" "alone" "[J" ∈ WALL := WALL_of (List.mem_of_getElem? (i := 819) (by decide +kernel)) (by decide +kernel)
theorem gf_X9_69 {v : Option Nat} {x : Option Nat} (hC : CallFix p m c cc nL s args WALL RX9) (hG : GS D cy A s) (hM : MS D cy ad A s.heap z σ H locs) (e1 : fR σ 9 36 v = some x) (hdg : decode cc pc = .ok (.getfield 69, 3)) (kk : W p l e R s m args below meth c H locs 0 0 Q (F0 m (pc + 3) ls (va_rf (Option.map ad x) :: rest))) : W p l e R s m args below meth c H locs 0 0 Q (F0 m pc ls (va_rf (Option.map ad v) :: rest)) :=
  g_fR (ref := "TariffDeskModel") (T := TX9) hC inW9 hG hM 36 e1 (by decide) rfl rfl (by decide) rfl (hC.2.2.2.2 _ fl_X9_69) (fun _ h => h) hdg kk
theorem fl_X9_7 : Cond.fieldLink RX9 7 "TariffDeskModel" "tape" "[I" ∈ WALL := WALL_of (List.mem_of_getElem? (i := 784) (by decide +kernel)) (by decide +kernel)
theorem gf_X9_7 {v : Option Nat} {x : Option Nat} (hC : CallFix p m c cc nL s args WALL RX9) (hG : GS D cy A s) (hM : MS D cy ad A s.heap z σ H locs) (e1 : fR σ 9 1 v = some x) (hdg : decode cc pc = .ok (.getfield 7, 3)) (kk : W p l e R s m args below meth c H locs 0 0 Q (F0 m (pc + 3) ls (va_rf (Option.map ad x) :: rest))) : W p l e R s m args below meth c H locs 0 0 Q (F0 m pc ls (va_rf (Option.map ad v) :: rest)) :=
  g_fR (ref := "TariffDeskModel") (T := TX9) hC inW9 hG hM 1 e1 (by decide) rfl rfl (by decide) rfl (hC.2.2.2.2 _ fl_X9_7) (fun _ h => h) hdg kk
theorem fl_X9_72 : Cond.fieldLink RX9 72 "TariffDeskModel" "parted" "[J" ∈ WALL := WALL_of (List.mem_of_getElem? (i := 820) (by decide +kernel)) (by decide +kernel)
theorem gf_X9_72 {v : Option Nat} {x : Option Nat} (hC : CallFix p m c cc nL s args WALL RX9) (hG : GS D cy A s) (hM : MS D cy ad A s.heap z σ H locs) (e1 : fR σ 9 37 v = some x) (hdg : decode cc pc = .ok (.getfield 72, 3)) (kk : W p l e R s m args below meth c H locs 0 0 Q (F0 m (pc + 3) ls (va_rf (Option.map ad x) :: rest))) : W p l e R s m args below meth c H locs 0 0 Q (F0 m pc ls (va_rf (Option.map ad v) :: rest)) :=
  g_fR (ref := "TariffDeskModel") (T := TX9) hC inW9 hG hM 37 e1 (by decide) rfl rfl (by decide) rfl (hC.2.2.2.2 _ fl_X9_72) (fun _ h => h) hdg kk
theorem fl_X9_75 : Cond.fieldLink RX9 75 "TariffDeskModel" "taken" "[I" ∈ WALL := WALL_of (List.mem_of_getElem? (i := 821) (by decide +kernel)) (by decide +kernel)
theorem gf_X9_75 {v : Option Nat} {x : Option Nat} (hC : CallFix p m c cc nL s args WALL RX9) (hG : GS D cy A s) (hM : MS D cy ad A s.heap z σ H locs) (e1 : fR σ 9 38 v = some x) (hdg : decode cc pc = .ok (.getfield 75, 3)) (kk : W p l e R s m args below meth c H locs 0 0 Q (F0 m (pc + 3) ls (va_rf (Option.map ad x) :: rest))) : W p l e R s m args below meth c H locs 0 0 Q (F0 m pc ls (va_rf (Option.map ad v) :: rest)) :=
  g_fR (ref := "TariffDeskModel") (T := TX9) hC inW9 hG hM 38 e1 (by decide) rfl rfl (by decide) rfl (hC.2.2.2.2 _ fl_X9_75) (fun _ h => h) hdg kk
theorem fl_X9_78 : Cond.fieldLink RX9 78 "TariffDeskModel" "group" "[I" ∈ WALL := WALL_of (List.mem_of_getElem? (i := 822) (by decide +kernel)) (by decide +kernel)
theorem gf_X9_78 {v : Option Nat} {x : Option Nat} (hC : CallFix p m c cc nL s args WALL RX9) (hG : GS D cy A s) (hM : MS D cy ad A s.heap z σ H locs) (e1 : fR σ 9 39 v = some x) (hdg : decode cc pc = .ok (.getfield 78, 3)) (kk : W p l e R s m args below meth c H locs 0 0 Q (F0 m (pc + 3) ls (va_rf (Option.map ad x) :: rest))) : W p l e R s m args below meth c H locs 0 0 Q (F0 m pc ls (va_rf (Option.map ad v) :: rest)) :=
  g_fR (ref := "TariffDeskModel") (T := TX9) hC inW9 hG hM 39 e1 (by decide) rfl rfl (by decide) rfl (hC.2.2.2.2 _ fl_X9_78) (fun _ h => h) hdg kk
theorem fl_X9_81 : Cond.fieldLink RX9 81 "TariffDeskModel" "least" "[I" ∈ WALL := WALL_of (List.mem_of_getElem? (i := 823) (by decide +kernel)) (by decide +kernel)
theorem gf_X9_81 {v : Option Nat} {x : Option Nat} (hC : CallFix p m c cc nL s args WALL RX9) (hG : GS D cy A s) (hM : MS D cy ad A s.heap z σ H locs) (e1 : fR σ 9 40 v = some x) (hdg : decode cc pc = .ok (.getfield 81, 3)) (kk : W p l e R s m args below meth c H locs 0 0 Q (F0 m (pc + 3) ls (va_rf (Option.map ad x) :: rest))) : W p l e R s m args below meth c H locs 0 0 Q (F0 m pc ls (va_rf (Option.map ad v) :: rest)) :=
  g_fR (ref := "TariffDeskModel") (T := TX9) hC inW9 hG hM 40 e1 (by decide) rfl rfl (by decide) rfl (hC.2.2.2.2 _ fl_X9_81) (fun _ h => h) hdg kk
theorem fl_X9_84 : Cond.fieldLink RX9 84 "TariffDeskModel" "greatest" "[I" ∈ WALL := WALL_of (List.mem_of_getElem? (i := 824) (by decide +kernel)) (by decide +kernel)
theorem gf_X9_84 {v : Option Nat} {x : Option Nat} (hC : CallFix p m c cc nL s args WALL RX9) (hG : GS D cy A s) (hM : MS D cy ad A s.heap z σ H locs) (e1 : fR σ 9 41 v = some x) (hdg : decode cc pc = .ok (.getfield 84, 3)) (kk : W p l e R s m args below meth c H locs 0 0 Q (F0 m (pc + 3) ls (va_rf (Option.map ad x) :: rest))) : W p l e R s m args below meth c H locs 0 0 Q (F0 m pc ls (va_rf (Option.map ad v) :: rest)) :=
  g_fR (ref := "TariffDeskModel") (T := TX9) hC inW9 hG hM 41 e1 (by decide) rfl rfl (by decide) rfl (hC.2.2.2.2 _ fl_X9_84) (fun _ h => h) hdg kk
theorem fl_X9_87 : Cond.fieldLink RX9 87 "TariffDeskModel" "thrown" "I" ∈ WALL := WALL_of (List.mem_of_getElem? (i := 783) (by decide +kernel)) (by decide +kernel)
theorem gf_X9_87 {v : Option Nat} {x : Int32} (hC : CallFix p m c cc nL s args WALL RX9) (hG : GS D cy A s) (hM : MS D cy ad A s.heap z σ H locs) (e1 : fI σ 9 0 v = some x) (hdg : decode cc pc = .ok (.getfield 87, 3)) (kk : W p l e R s m args below meth c H locs 0 0 Q (F0 m (pc + 3) ls (.int x :: rest))) : W p l e R s m args below meth c H locs 0 0 Q (F0 m pc ls (va_rf (Option.map ad v) :: rest)) :=
  g_fI (ref := "TariffDeskModel") (T := TX9) hC inW9 hG hM 0 e1 (by decide) rfl rfl (by decide) rfl (hC.2.2.2.2 _ fl_X9_87) (fun _ h => h) hdg kk
theorem fl_X9_91 : Cond.fieldLink RX9 91 "TariffDeskModel" "taped" "I" ∈ WALL := WALL_of (List.mem_of_getElem? (i := 785) (by decide +kernel)) (by decide +kernel)
theorem gf_X9_91 {v : Option Nat} {x : Int32} (hC : CallFix p m c cc nL s args WALL RX9) (hG : GS D cy A s) (hM : MS D cy ad A s.heap z σ H locs) (e1 : fI σ 9 2 v = some x) (hdg : decode cc pc = .ok (.getfield 91, 3)) (kk : W p l e R s m args below meth c H locs 0 0 Q (F0 m (pc + 3) ls (.int x :: rest))) : W p l e R s m args below meth c H locs 0 0 Q (F0 m pc ls (va_rf (Option.map ad v) :: rest)) :=
  g_fI (ref := "TariffDeskModel") (T := TX9) hC inW9 hG hM 2 e1 (by decide) rfl rfl (by decide) rfl (hC.2.2.2.2 _ fl_X9_91) (fun _ h => h) hdg kk
theorem fl_X9_98 : Cond.fieldLink RX9 98 "TariffDeskModel" "size" "I" ∈ WALL := WALL_of (List.mem_of_getElem? (i := 786) (by decide +kernel)) (by decide +kernel)
theorem gf_X9_98 {v : Option Nat} {x : Int32} (hC : CallFix p m c cc nL s args WALL RX9) (hG : GS D cy A s) (hM : MS D cy ad A s.heap z σ H locs) (e1 : fI σ 9 3 v = some x) (hdg : decode cc pc = .ok (.getfield 98, 3)) (kk : W p l e R s m args below meth c H locs 0 0 Q (F0 m (pc + 3) ls (.int x :: rest))) : W p l e R s m args below meth c H locs 0 0 Q (F0 m pc ls (va_rf (Option.map ad v) :: rest)) :=
  g_fI (ref := "TariffDeskModel") (T := TX9) hC inW9 hG hM 3 e1 (by decide) rfl rfl (by decide) rfl (hC.2.2.2.2 _ fl_X9_98) (fun _ h => h) hdg kk
theorem fl_X9_132 : Cond.fieldLink RX9 132 "TariffDeskModel" "PLAN" "J" ∈ WALL := WALL_of (List.mem_of_getElem? (i := 951) (by decide +kernel)) (by decide +kernel)
theorem gs_X9_132 (hC : CallFix p m c cc nL s args WALL RX9) (hG : GS D cy A s) (hM : MS D cy ad A s.heap z σ H locs) (hdg : decode cc pc = .ok (.getstatic 132, 3)) (kk : W p l e R s m args below meth c H locs 0 0 Q (F0 m (pc + 3) ls (.long 323717 :: rest))) : W p l e R s m args below meth c H locs 0 0 Q (F0 m pc ls rest) :=
  va_gets hC.1 hC.2.1 (hG.2.2.1.1 ("PLAN", 323717) (by decide +kernel)) hM.2.2.1 hC.2.2.2.1 (hC.2.2.2.2 _ fl_X9_132) (fun _ h => h) hdg kk
theorem fl_X9_135 : Cond.fieldLink RX9 135 "TariffDeskModel" "FEE" "J" ∈ WALL := WALL_of (List.mem_of_getElem? (i := 969) (by decide +kernel)) (by decide +kernel)
theorem gs_X9_135 (hC : CallFix p m c cc nL s args WALL RX9) (hG : GS D cy A s) (hM : MS D cy ad A s.heap z σ H locs) (hdg : decode cc pc = .ok (.getstatic 135, 3)) (kk : W p l e R s m args below meth c H locs 0 0 Q (F0 m (pc + 3) ls (.long 4514 :: rest))) : W p l e R s m args below meth c H locs 0 0 Q (F0 m pc ls rest) :=
  va_gets hC.1 hC.2.1 (hG.2.2.1.1 ("FEE", 4514) (by decide +kernel)) hM.2.2.1 hC.2.2.2.1 (hC.2.2.2.2 _ fl_X9_135) (fun _ h => h) hdg kk
theorem fl_X9_138 : Cond.fieldLink RX9 138 "TariffDeskModel" "TERM" "J" ∈ WALL := WALL_of (List.mem_of_getElem? (i := 971) (by decide +kernel)) (by decide +kernel)
theorem gs_X9_138 (hC : CallFix p m c cc nL s args WALL RX9) (hG : GS D cy A s) (hM : MS D cy ad A s.heap z σ H locs) (hdg : decode cc pc = .ok (.getstatic 138, 3)) (kk : W p l e R s m args below meth c H locs 0 0 Q (F0 m (pc + 3) ls (.long 397804 :: rest))) : W p l e R s m args below meth c H locs 0 0 Q (F0 m pc ls rest) :=
  va_gets hC.1 hC.2.1 (hG.2.2.1.1 ("TERM", 397804) (by decide +kernel)) hM.2.2.1 hC.2.2.2.1 (hC.2.2.2.2 _ fl_X9_138) (fun _ h => h) hdg kk
theorem fl_X9_141 : Cond.fieldLink RX9 141 "TariffDeskModel" "FROM" "J" ∈ WALL := WALL_of (List.mem_of_getElem? (i := 973) (by decide +kernel)) (by decide +kernel)
theorem gs_X9_141 (hC : CallFix p m c cc nL s args WALL RX9) (hG : GS D cy A s) (hM : MS D cy ad A s.heap z σ H locs) (hdg : decode cc pc = .ok (.getstatic 141, 3)) (kk : W p l e R s m args below meth c H locs 0 0 Q (F0 m (pc + 3) ls (.long 131638 :: rest))) : W p l e R s m args below meth c H locs 0 0 Q (F0 m pc ls rest) :=
  va_gets hC.1 hC.2.1 (hG.2.2.1.1 ("FROM", 131638) (by decide +kernel)) hM.2.2.1 hC.2.2.2.1 (hC.2.2.2.2 _ fl_X9_141) (fun _ h => h) hdg kk
theorem fl_X9_144 : Cond.fieldLink RX9 144 "TariffDeskModel" "UNTIL" "J" ∈ WALL := WALL_of (List.mem_of_getElem? (i := 975) (by decide +kernel)) (by decide +kernel)
theorem gs_X9_144 (hC : CallFix p m c cc nL s args WALL RX9) (hG : GS D cy A s) (hM : MS D cy ad A s.heap z σ H locs) (hdg : decode cc pc = .ok (.getstatic 144, 3)) (kk : W p l e R s m args below meth c H locs 0 0 Q (F0 m (pc + 3) ls (.long 11450658 :: rest))) : W p l e R s m args below meth c H locs 0 0 Q (F0 m pc ls rest) :=
  va_gets hC.1 hC.2.1 (hG.2.2.1.1 ("UNTIL", 11450658) (by decide +kernel)) hM.2.2.1 hC.2.2.2.1 (hC.2.2.2.2 _ fl_X9_144) (fun _ h => h) hdg kk
theorem fl_X9_147 : Cond.fieldLink RX9 147 "TariffDeskModel" "FOR" "J" ∈ WALL := WALL_of (List.mem_of_getElem? (i := 977) (by decide +kernel)) (by decide +kernel)
theorem gs_X9_147 (hC : CallFix p m c cc nL s args WALL RX9) (hG : GS D cy A s) (hM : MS D cy ad A s.heap z σ H locs) (hdg : decode cc pc = .ok (.getstatic 147, 3)) (kk : W p l e R s m args below meth c H locs 0 0 Q (F0 m (pc + 3) ls (.long 4797 :: rest))) : W p l e R s m args below meth c H locs 0 0 Q (F0 m pc ls rest) :=
  va_gets hC.1 hC.2.1 (hG.2.2.1.1 ("FOR", 4797) (by decide +kernel)) hM.2.2.1 hC.2.2.2.1 (hC.2.2.2.2 _ fl_X9_147) (fun _ h => h) hdg kk
theorem fl_X9_150 : Cond.fieldLink RX9 150 "TariffDeskModel" "FREE" "J" ∈ WALL := WALL_of (List.mem_of_getElem? (i := 979) (by decide +kernel)) (by decide +kernel)
theorem gs_X9_150 (hC : CallFix p m c cc nL s args WALL RX9) (hG : GS D cy A s) (hM : MS D cy ad A s.heap z σ H locs) (hdg : decode cc pc = .ok (.getstatic 150, 3)) (kk : W p l e R s m args below meth c H locs 0 0 Q (F0 m (pc + 3) ls (.long 131360 :: rest))) : W p l e R s m args below meth c H locs 0 0 Q (F0 m pc ls rest) :=
  va_gets hC.1 hC.2.1 (hG.2.2.1.1 ("FREE", 131360) (by decide +kernel)) hM.2.2.1 hC.2.2.2.1 (hC.2.2.2.2 _ fl_X9_150) (fun _ h => h) hdg kk
theorem fl_X9_153 : Cond.fieldLink RX9 153 "TariffDeskModel" "TO" "J" ∈ WALL := WALL_of (List.mem_of_getElem? (i := 981) (by decide +kernel)) (by decide +kernel)
theorem gs_X9_153 (hC : CallFix p m c cc nL s args WALL RX9) (hG : GS D cy A s) (hM : MS D cy ad A s.heap z σ H locs) (hdg : decode cc pc = .ok (.getstatic 153, 3)) (kk : W p l e R s m args below meth c H locs 0 0 Q (F0 m (pc + 3) ls (.long 555 :: rest))) : W p l e R s m args below meth c H locs 0 0 Q (F0 m pc ls rest) :=
  va_gets hC.1 hC.2.1 (hG.2.2.1.1 ("TO", 555) (by decide +kernel)) hM.2.2.1 hC.2.2.2.1 (hC.2.2.2.2 _ fl_X9_153) (fun _ h => h) hdg kk
theorem fl_X9_156 : Cond.fieldLink RX9 156 "TariffDeskModel" "AT" "J" ∈ WALL := WALL_of (List.mem_of_getElem? (i := 983) (by decide +kernel)) (by decide +kernel)
theorem gs_X9_156 (hC : CallFix p m c cc nL s args WALL RX9) (hG : GS D cy A s) (hM : MS D cy ad A s.heap z σ H locs) (hdg : decode cc pc = .ok (.getstatic 156, 3)) (kk : W p l e R s m args below meth c H locs 0 0 Q (F0 m (pc + 3) ls (.long 47 :: rest))) : W p l e R s m args below meth c H locs 0 0 Q (F0 m pc ls rest) :=
  va_gets hC.1 hC.2.1 (hG.2.2.1.1 ("AT", 47) (by decide +kernel)) hM.2.2.1 hC.2.2.2.1 (hC.2.2.2.2 _ fl_X9_156) (fun _ h => h) hdg kk
theorem fl_X9_159 : Cond.fieldLink RX9 159 "TariffDeskModel" "REST" "J" ∈ WALL := WALL_of (List.mem_of_getElem? (i := 985) (by decide +kernel)) (by decide +kernel)
theorem gs_X9_159 (hC : CallFix p m c cc nL s args WALL RX9) (hG : GS D cy A s) (hM : MS D cy ad A s.heap z σ H locs) (hdg : decode cc pc = .ok (.getstatic 159, 3)) (kk : W p l e R s m args below meth c H locs 0 0 Q (F0 m (pc + 3) ls (.long 358472 :: rest))) : W p l e R s m args below meth c H locs 0 0 Q (F0 m pc ls rest) :=
  va_gets hC.1 hC.2.1 (hG.2.2.1.1 ("REST", 358472) (by decide +kernel)) hM.2.2.1 hC.2.2.2.1 (hC.2.2.2.2 _ fl_X9_159) (fun _ h => h) hdg kk
theorem fl_X4_178 : Cond.fieldLink RX4 178 "TariffDesk$PlanReader" "WORD_LETTERS" "[J" ∈ WALL := WALL_of (List.mem_of_getElem? (i := 409) (by decide +kernel)) (by decide +kernel)
theorem ml_X0_28 : Cond.methodLink RX0 28 Lib.Math.max.name ∈ WALL := WALL_of (by decide +kernel) (by decide +kernel)
theorem mm_X0_28 {x y : Int32} (hC : CallFix p m c cc nL s args WALL RX0) (hf : 1 ≤ R.frames) (hlo : (rest.map fun v => v.category).sum + 13 ≤ R.locals) (hdg : decode cc pc = .ok (.invokestatic 28, 3)) (hsz : ls.size = nL) (kk : W p l e R s m args below meth c H locs 0 0 Q (F0 m (pc + 3) ls (.int (if x < y then y else x) :: rest))) : W p l e R s m args below meth c H locs 0 0 Q (F0 m pc ls (.int y :: .int x :: rest)) :=
  va_mmax hC.1 hC.2.1 (hC.2.2.1.trans hsz.symm) hC.2.2.2.1 (hC.2.2.2.2 _ ml_X0_28) (hC.2.2.2.2 _ wt_va_mmax) (hC.2.2.2.2 _ wn_Math) (hC.2.2.2.2 _ wc_va_mmax) hf hlo (Nat.zero_le _) (Nat.zero_le _) hdg kk
theorem ml_X0_34 : Cond.methodLink RX0 34 Lib.Math.min.name ∈ WALL := WALL_of (by decide +kernel) (by decide +kernel)
theorem mm_X0_34 {x y : Int32} (hC : CallFix p m c cc nL s args WALL RX0) (hf : 1 ≤ R.frames) (hlo : (rest.map fun v => v.category).sum + 13 ≤ R.locals) (hdg : decode cc pc = .ok (.invokestatic 34, 3)) (hsz : ls.size = nL) (kk : W p l e R s m args below meth c H locs 0 0 Q (F0 m (pc + 3) ls (.int (if y < x then y else x) :: rest))) : W p l e R s m args below meth c H locs 0 0 Q (F0 m pc ls (.int y :: .int x :: rest)) :=
  va_mmin hC.1 hC.2.1 (hC.2.2.1.trans hsz.symm) hC.2.2.2.1 (hC.2.2.2.2 _ ml_X0_34) (hC.2.2.2.2 _ wt_va_mmin) (hC.2.2.2.2 _ wn_Math) (hC.2.2.2.2 _ wc_va_mmin) hf hlo (Nat.zero_le _) (Nat.zero_le _) hdg kk
theorem ml_X4_165 : Cond.methodLink RX4 165 Lib.Math.min.name ∈ WALL := WALL_of (by decide +kernel) (by decide +kernel)
theorem mm_X4_165 {x y : Int32} (hC : CallFix p m c cc nL s args WALL RX4) (hf : 1 ≤ R.frames) (hlo : (rest.map fun v => v.category).sum + 13 ≤ R.locals) (hdg : decode cc pc = .ok (.invokestatic 165, 3)) (hsz : ls.size = nL) (kk : W p l e R s m args below meth c H locs 0 0 Q (F0 m (pc + 3) ls (.int (if y < x then y else x) :: rest))) : W p l e R s m args below meth c H locs 0 0 Q (F0 m pc ls (.int y :: .int x :: rest)) :=
  va_mmin hC.1 hC.2.1 (hC.2.2.1.trans hsz.symm) hC.2.2.2.1 (hC.2.2.2.2 _ ml_X4_165) (hC.2.2.2.2 _ wt_va_mmin) (hC.2.2.2.2 _ wn_Math) (hC.2.2.2.2 _ wc_va_mmin) hf hlo (Nat.zero_le _) (Nat.zero_le _) hdg kk
theorem ml_X5_29 : Cond.methodLink RX5 29 Lib.Math.max.name ∈ WALL := WALL_of (by decide +kernel) (by decide +kernel)
theorem mm_X5_29 {x y : Int32} (hC : CallFix p m c cc nL s args WALL RX5) (hf : 1 ≤ R.frames) (hlo : (rest.map fun v => v.category).sum + 13 ≤ R.locals) (hdg : decode cc pc = .ok (.invokestatic 29, 3)) (hsz : ls.size = nL) (kk : W p l e R s m args below meth c H locs 0 0 Q (F0 m (pc + 3) ls (.int (if x < y then y else x) :: rest))) : W p l e R s m args below meth c H locs 0 0 Q (F0 m pc ls (.int y :: .int x :: rest)) :=
  va_mmax hC.1 hC.2.1 (hC.2.2.1.trans hsz.symm) hC.2.2.2.1 (hC.2.2.2.2 _ ml_X5_29) (hC.2.2.2.2 _ wt_va_mmax) (hC.2.2.2.2 _ wn_Math) (hC.2.2.2.2 _ wc_va_mmax) hf hlo (Nat.zero_le _) (Nat.zero_le _) hdg kk
theorem ml_X5_39 : Cond.methodLink RX5 39 Lib.Math.min.name ∈ WALL := WALL_of (by decide +kernel) (by decide +kernel)
theorem mm_X5_39 {x y : Int32} (hC : CallFix p m c cc nL s args WALL RX5) (hf : 1 ≤ R.frames) (hlo : (rest.map fun v => v.category).sum + 13 ≤ R.locals) (hdg : decode cc pc = .ok (.invokestatic 39, 3)) (hsz : ls.size = nL) (kk : W p l e R s m args below meth c H locs 0 0 Q (F0 m (pc + 3) ls (.int (if y < x then y else x) :: rest))) : W p l e R s m args below meth c H locs 0 0 Q (F0 m pc ls (.int y :: .int x :: rest)) :=
  va_mmin hC.1 hC.2.1 (hC.2.2.1.trans hsz.symm) hC.2.2.2.1 (hC.2.2.2.2 _ ml_X5_39) (hC.2.2.2.2 _ wt_va_mmin) (hC.2.2.2.2 _ wn_Math) (hC.2.2.2.2 _ wc_va_mmin) hf hlo (Nat.zero_le _) (Nat.zero_le _) hdg kk
theorem ml_X8_209 : Cond.methodLink RX8 209 Lib.MathLoose.max_long.x ∈ WALL := WALL_of (by decide +kernel) (by decide +kernel)
theorem mm_X8_209 {x y : Int64} (hC : CallFix p m c cc nL s args WALL RX8) (hf : 1 ≤ R.frames) (hlo : (rest.map fun v => v.category).sum + 15 ≤ R.locals) (hdg : decode cc pc = .ok (.invokestatic 209, 3)) (hsz : ls.size = nL) (kk : W p l e R s m args below meth c H locs 0 0 Q (F0 m (pc + 3) ls (.long (if y < x then x else y) :: rest))) : W p l e R s m args below meth c H locs 0 0 Q (F0 m pc ls (.long y :: .long x :: rest)) :=
  va_mmax_long hC.1 hC.2.1 (hC.2.2.1.trans hsz.symm) hC.2.2.2.1 (hC.2.2.2.2 _ ml_X8_209) (hC.2.2.2.2 _ wt_va_mmax_long) (hC.2.2.2.2 _ wn_Math) (hC.2.2.2.2 _ wc_va_mmax_long) hf hlo (Nat.zero_le _) (Nat.zero_le _) hdg kk
theorem ml_X8_215 : Cond.methodLink RX8 215 Lib.MathLoose.min_long.x ∈ WALL := WALL_of (by decide +kernel) (by decide +kernel)
theorem mm_X8_215 {x y : Int64} (hC : CallFix p m c cc nL s args WALL RX8) (hf : 1 ≤ R.frames) (hlo : (rest.map fun v => v.category).sum + 15 ≤ R.locals) (hdg : decode cc pc = .ok (.invokestatic 215, 3)) (hsz : ls.size = nL) (kk : W p l e R s m args below meth c H locs 0 0 Q (F0 m (pc + 3) ls (.long (if y < x then y else x) :: rest))) : W p l e R s m args below meth c H locs 0 0 Q (F0 m pc ls (.long y :: .long x :: rest)) :=
  va_mmin_long hC.1 hC.2.1 (hC.2.2.1.trans hsz.symm) hC.2.2.2.1 (hC.2.2.2.2 _ ml_X8_215) (hC.2.2.2.2 _ wt_va_mmin_long) (hC.2.2.2.2 _ wn_Math) (hC.2.2.2.2 _ wc_va_mmin_long) hf hlo (Nat.zero_le _) (Nat.zero_le _) hdg kk
theorem pf_X0_18 {v : Option Nat} {x : Int32} {τ : Mem} (hC : CallFix p m c cc nL s args WALL RX0) (hG : GS D cy A s) (hM : MS D cy ad A s.heap z σ H locs) (e1 : pI σ 0 2 v x = some τ) (hdg : decode cc pc = .ok (.putfield 18, 3)) (kk : ∀ (H : Heap) (locs : List Loc), MS D cy ad A s.heap z τ H locs → W p l e R s m args below meth c H locs 0 0 Q (F0 m (pc + 3) ls rest)) : W p l e R s m args below meth c H locs 0 0 Q (F0 m pc ls (.int x :: va_rf (Option.map ad v) :: rest)) :=
  g_pI (ref := "TariffDesk$Part") (T := TX0) hC inW0 tyX0 tyX0_ok nmX0 hG hM 2 e1 (by decide) rfl rfl (by decide) rfl (hC.2.2.2.2 _ fl_X0_18) (fun _ h => h) rfl (tyX0_ok 2 (by decide)) hdg kk
theorem pf_X0_22 {v : Option Nat} {x : Int32} {τ : Mem} (hC : CallFix p m c cc nL s args WALL RX0) (hG : GS D cy A s) (hM : MS D cy ad A s.heap z σ H locs) (e1 : pI σ 0 3 v x = some τ) (hdg : decode cc pc = .ok (.putfield 22, 3)) (kk : ∀ (H : Heap) (locs : List Loc), MS D cy ad A s.heap z τ H locs → W p l e R s m args below meth c H locs 0 0 Q (F0 m (pc + 3) ls rest)) : W p l e R s m args below meth c H locs 0 0 Q (F0 m pc ls (.int x :: va_rf (Option.map ad v) :: rest)) :=
  g_pI (ref := "TariffDesk$Part") (T := TX0) hC inW0 tyX0 tyX0_ok nmX0 hG hM 3 e1 (by decide) rfl rfl (by decide) rfl (hC.2.2.2.2 _ fl_X0_22) (fun _ h => h) rfl (tyX0_ok 3 (by decide)) hdg kk
theorem pf_X0_25 {v : Option Nat} {x : Int32} {τ : Mem} (hC : CallFix p m c cc nL s args WALL RX0) (hG : GS D cy A s) (hM : MS D cy ad A s.heap z σ H locs) (e1 : pI σ 0 4 v x = some τ) (hdg : decode cc pc = .ok (.putfield 25, 3)) (kk : ∀ (H : Heap) (locs : List Loc), MS D cy ad A s.heap z τ H locs → W p l e R s m args below meth c H locs 0 0 Q (F0 m (pc + 3) ls rest)) : W p l e R s m args below meth c H locs 0 0 Q (F0 m pc ls (.int x :: va_rf (Option.map ad v) :: rest)) :=
  g_pI (ref := "TariffDesk$Part") (T := TX0) hC inW0 tyX0 tyX0_ok nmX0 hG hM 4 e1 (by decide) rfl rfl (by decide) rfl (hC.2.2.2.2 _ fl_X0_25) (fun _ h => h) rfl (tyX0_ok 4 (by decide)) hdg kk
theorem fl_X2_21 : Cond.fieldLink RX2 21 "TariffDesk$Plan" "nameLetters" "J" ∈ WALL := WALL_of (List.mem_of_getElem? (i := 165) (by decide +kernel)) (by decide +kernel)
theorem pf_X2_21 {v : Option Nat} {x : Int64} {τ : Mem} (hC : CallFix p m c cc nL s args WALL RX2) (hG : GS D cy A s) (hM : MS D cy ad A s.heap z σ H locs) (e1 : pJ σ 2 1 v x = some τ) (hdg : decode cc pc = .ok (.putfield 21, 3)) (kk : ∀ (H : Heap) (locs : List Loc), MS D cy ad A s.heap z τ H locs → W p l e R s m args below meth c H locs 0 0 Q (F0 m (pc + 3) ls rest)) : W p l e R s m args below meth c H locs 0 0 Q (F0 m pc ls (.long x :: va_rf (Option.map ad v) :: rest)) :=
  g_pJ (ref := "TariffDesk$Plan") (T := TX2) hC inW2 tyX2 tyX2_ok nmX2 hG hM 1 e1 (by decide) rfl rfl (by decide) rfl (hC.2.2.2.2 _ fl_X2_21) (fun _ h => h) rfl (tyX2_ok 1 (by decide)) hdg kk
theorem fl_X2_25 : Cond.fieldLink RX2 25 "TariffDesk$Plan" "nameLength" "I" ∈ WALL := WALL_of (List.mem_of_getElem? (i := 169) (by decide +kernel)) (by decide +kernel)
theorem pf_X2_25 {v : Option Nat} {x : Int32} {τ : Mem} (hC : CallFix p m c cc nL s args WALL RX2) (hG : GS D cy A s) (hM : MS D cy ad A s.heap z σ H locs) (e1 : pI σ 2 2 v x = some τ) (hdg : decode cc pc = .ok (.putfield 25, 3)) (kk : ∀ (H : Heap) (locs : List Loc), MS D cy ad A s.heap z τ H locs → W p l e R s m args below meth c H locs 0 0 Q (F0 m (pc + 3) ls rest)) : W p l e R s m args below meth c H locs 0 0 Q (F0 m pc ls (.int x :: va_rf (Option.map ad v) :: rest)) :=
  g_pI (ref := "TariffDesk$Plan") (T := TX2) hC inW2 tyX2 tyX2_ok nmX2 hG hM 2 e1 (by decide) rfl rfl (by decide) rfl (hC.2.2.2.2 _ fl_X2_25) (fun _ h => h) rfl (tyX2_ok 2 (by decide)) hdg kk
theorem pf_X2_29 {v : Option Nat} {x : Int32} {τ : Mem} (hC : CallFix p m c cc nL s args WALL RX2) (hG : GS D cy A s) (hM : MS D cy ad A s.heap z σ H locs) (e1 : pI σ 2 3 v x = some τ) (hdg : decode cc pc = .ok (.putfield 29, 3)) (kk : ∀ (H : Heap) (locs : List Loc), MS D cy ad A s.heap z τ H locs → W p l e R s m args below meth c H locs 0 0 Q (F0 m (pc + 3) ls rest)) : W p l e R s m args below meth c H locs 0 0 Q (F0 m pc ls (.int x :: va_rf (Option.map ad v) :: rest)) :=
  g_pI (ref := "TariffDesk$Plan") (T := TX2) hC inW2 tyX2 tyX2_ok nmX2 hG hM 3 e1 (by decide) rfl rfl (by decide) rfl (hC.2.2.2.2 _ fl_X2_29) (fun _ h => h) rfl (tyX2_ok 3 (by decide)) hdg kk
theorem fl_X2_32 : Cond.fieldLink RX2 32 "TariffDesk$Plan" "term" "I" ∈ WALL := WALL_of (List.mem_of_getElem? (i := 175) (by decide +kernel)) (by decide +kernel)
theorem pf_X2_32 {v : Option Nat} {x : Int32} {τ : Mem} (hC : CallFix p m c cc nL s args WALL RX2) (hG : GS D cy A s) (hM : MS D cy ad A s.heap z σ H locs) (e1 : pI σ 2 4 v x = some τ) (hdg : decode cc pc = .ok (.putfield 32, 3)) (kk : ∀ (H : Heap) (locs : List Loc), MS D cy ad A s.heap z τ H locs → W p l e R s m args below meth c H locs 0 0 Q (F0 m (pc + 3) ls rest)) : W p l e R s m args below meth c H locs 0 0 Q (F0 m pc ls (.int x :: va_rf (Option.map ad v) :: rest)) :=
  g_pI (ref := "TariffDesk$Plan") (T := TX2) hC inW2 tyX2 tyX2_ok nmX2 hG hM 4 e1 (by decide) rfl rfl (by decide) rfl (hC.2.2.2.2 _ fl_X2_32) (fun _ h => h) rfl (tyX2_ok 4 (by decide)) hdg kk
theorem pf_X2_35 {v : Option Nat} {x : Int32} {τ : Mem} (hC : CallFix p m c cc nL s args WALL RX2) (hG : GS D cy A s) (hM : MS D cy ad A s.heap z σ H locs) (e1 : pI σ 2 5 v x = some τ) (hdg : decode cc pc = .ok (.putfield 35, 3)) (kk : ∀ (H : Heap) (locs : List Loc), MS D cy ad A s.heap z τ H locs → W p l e R s m args below meth c H locs 0 0 Q (F0 m (pc + 3) ls rest)) : W p l e R s m args below meth c H locs 0 0 Q (F0 m pc ls (.int x :: va_rf (Option.map ad v) :: rest)) :=
  g_pI (ref := "TariffDesk$Plan") (T := TX2) hC inW2 tyX2 tyX2_ok nmX2 hG hM 5 e1 (by decide) rfl rfl (by decide) rfl (hC.2.2.2.2 _ fl_X2_35) (fun _ h => h) rfl (tyX2_ok 5 (by decide)) hdg kk
theorem pf_X2_38 {v : Option Nat} {x : Int32} {τ : Mem} (hC : CallFix p m c cc nL s args WALL RX2) (hG : GS D cy A s) (hM : MS D cy ad A s.heap z σ H locs) (e1 : pI σ 2 6 v x = some τ) (hdg : decode cc pc = .ok (.putfield 38, 3)) (kk : ∀ (H : Heap) (locs : List Loc), MS D cy ad A s.heap z τ H locs → W p l e R s m args below meth c H locs 0 0 Q (F0 m (pc + 3) ls rest)) : W p l e R s m args below meth c H locs 0 0 Q (F0 m pc ls (.int x :: va_rf (Option.map ad v) :: rest)) :=
  g_pI (ref := "TariffDesk$Plan") (T := TX2) hC inW2 tyX2 tyX2_ok nmX2 hG hM 6 e1 (by decide) rfl rfl (by decide) rfl (hC.2.2.2.2 _ fl_X2_38) (fun _ h => h) rfl (tyX2_ok 6 (by decide)) hdg kk
theorem pf_X2_41 {v : Option Nat} {x : Int32} {τ : Mem} (hC : CallFix p m c cc nL s args WALL RX2) (hG : GS D cy A s) (hM : MS D cy ad A s.heap z σ H locs) (e1 : pI σ 2 7 v x = some τ) (hdg : decode cc pc = .ok (.putfield 41, 3)) (kk : ∀ (H : Heap) (locs : List Loc), MS D cy ad A s.heap z τ H locs → W p l e R s m args below meth c H locs 0 0 Q (F0 m (pc + 3) ls rest)) : W p l e R s m args below meth c H locs 0 0 Q (F0 m pc ls (.int x :: va_rf (Option.map ad v) :: rest)) :=
  g_pI (ref := "TariffDesk$Plan") (T := TX2) hC inW2 tyX2 tyX2_ok nmX2 hG hM 7 e1 (by decide) rfl rfl (by decide) rfl (hC.2.2.2.2 _ fl_X2_41) (fun _ h => h) rfl (tyX2_ok 7 (by decide)) hdg kk
theorem pf_X4_119 {v : Option Nat} {x : Int32} {τ : Mem} (hC : CallFix p m c cc nL s args WALL RX4) (hG : GS D cy A s) (hM : MS D cy ad A s.heap z σ H locs) (e1 : pI σ 2 5 v x = some τ) (hdg : decode cc pc = .ok (.putfield 119, 3)) (kk : ∀ (H : Heap) (locs : List Loc), MS D cy ad A s.heap z τ H locs → W p l e R s m args below meth c H locs 0 0 Q (F0 m (pc + 3) ls rest)) : W p l e R s m args below meth c H locs 0 0 Q (F0 m pc ls (.int x :: va_rf (Option.map ad v) :: rest)) :=
  gN_pI (ref := "TariffDesk$Plan") (T := TX2) hC inW2 tyX2 tyX2_ok nmX2 hG hM 5 e1 (by decide) rfl rfl (by decide) rfl (hG.2.1 _ fl_X4_119) (fun _ h => h) rfl (tyX2_ok 5 (by decide)) hdg kk
theorem fl_X4_127 : Cond.fieldLinkNest RX4 127 "TariffDesk$Plan" "fee" "I" "TariffDesk" ∈ NWL := NW_of (List.mem_of_getElem? (i := 174) (by decide +kernel)) rfl
theorem pf_X4_127 {v : Option Nat} {x : Int32} {τ : Mem} (hC : CallFix p m c cc nL s args WALL RX4) (hG : GS D cy A s) (hM : MS D cy ad A s.heap z σ H locs) (e1 : pI σ 2 3 v x = some τ) (hdg : decode cc pc = .ok (.putfield 127, 3)) (kk : ∀ (H : Heap) (locs : List Loc), MS D cy ad A s.heap z τ H locs → W p l e R s m args below meth c H locs 0 0 Q (F0 m (pc + 3) ls rest)) : W p l e R s m args below meth c H locs 0 0 Q (F0 m pc ls (.int x :: va_rf (Option.map ad v) :: rest)) :=
  gN_pI (ref := "TariffDesk$Plan") (T := TX2) hC inW2 tyX2 tyX2_ok nmX2 hG hM 3 e1 (by decide) rfl rfl (by decide) rfl (hG.2.1 _ fl_X4_127) (fun _ h => h) rfl (tyX2_ok 3 (by decide)) hdg kk
theorem fl_X4_130 : Cond.fieldLinkNest RX4 130 "TariffDesk$Plan" "term" "I" "TariffDesk" ∈ NWL := NW_of (List.mem_of_getElem? (i := 178) (by decide +kernel)) rfl
theorem pf_X4_130 {v : Option Nat} {x : Int32} {τ : Mem} (hC : CallFix p m c cc nL s args WALL RX4) (hG : GS D cy A s) (hM : MS D cy ad A s.heap z σ H locs) (e1 : pI σ 2 4 v x = some τ) (hdg : decode cc pc = .ok (.putfield 130, 3)) (kk : ∀ (H : Heap) (locs : List Loc), MS D cy ad A s.heap z τ H locs → W p l e R s m args below meth c H locs 0 0 Q (F0 m (pc + 3) ls rest)) : W p l e R s m args below meth c H locs 0 0 Q (F0 m pc ls (.int x :: va_rf (Option.map ad v) :: rest)) :=
  gN_pI (ref := "TariffDesk$Plan") (T := TX2) hC inW2 tyX2 tyX2_ok nmX2 hG hM 4 e1 (by decide) rfl rfl (by decide) rfl (hG.2.1 _ fl_X4_130) (fun _ h => h) rfl (tyX2_ok 4 (by decide)) hdg kk
theorem fl_X4_133 : Cond.fieldLinkNest RX4 133 "TariffDesk$Plan" "until" "I" "TariffDesk" ∈ NWL := NW_of (List.mem_of_getElem? (i := 184) (by decide +kernel)) rfl
theorem pf_X4_133 {v : Option Nat} {x : Int32} {τ : Mem} (hC : CallFix p m c cc nL s args WALL RX4) (hG : GS D cy A s) (hM : MS D cy ad A s.heap z σ H locs) (e1 : pI σ 2 6 v x = some τ) (hdg : decode cc pc = .ok (.putfield 133, 3)) (kk : ∀ (H : Heap) (locs : List Loc), MS D cy ad A s.heap z τ H locs → W p l e R s m args below meth c H locs 0 0 Q (F0 m (pc + 3) ls rest)) : W p l e R s m args below meth c H locs 0 0 Q (F0 m pc ls (.int x :: va_rf (Option.map ad v) :: rest)) :=
  gN_pI (ref := "TariffDesk$Plan") (T := TX2) hC inW2 tyX2 tyX2_ok nmX2 hG hM 6 e1 (by decide) rfl rfl (by decide) rfl (hG.2.1 _ fl_X4_133) (fun _ h => h) rfl (tyX2_ok 6 (by decide)) hdg kk
theorem fl_X4_139 : Cond.fieldLinkNest RX4 139 "TariffDesk$Part" "free" "I" "TariffDesk" ∈ NWL := NW_of (List.mem_of_getElem? (i := 143) (by decide +kernel)) rfl
theorem pf_X4_139 {v : Option Nat} {x : Int32} {τ : Mem} (hC : CallFix p m c cc nL s args WALL RX4) (hG : GS D cy A s) (hM : MS D cy ad A s.heap z σ H locs) (e1 : pI σ 0 2 v x = some τ) (hdg : decode cc pc = .ok (.putfield 139, 3)) (kk : ∀ (H : Heap) (locs : List Loc), MS D cy ad A s.heap z τ H locs → W p l e R s m args below meth c H locs 0 0 Q (F0 m (pc + 3) ls rest)) : W p l e R s m args below meth c H locs 0 0 Q (F0 m pc ls (.int x :: va_rf (Option.map ad v) :: rest)) :=
  gN_pI (ref := "TariffDesk$Part") (T := TX0) hC inW0 tyX0 tyX0_ok nmX0 hG hM 2 e1 (by decide) rfl rfl (by decide) rfl (hG.2.1 _ fl_X4_139) (fun _ h => h) rfl (tyX0_ok 2 (by decide)) hdg kk
theorem fl_X4_148 : Cond.fieldLinkNest RX4 148 "TariffDesk$Part" "restCents" "I" "TariffDesk" ∈ NWL := NW_of (List.mem_of_getElem? (i := 147) (by decide +kernel)) rfl
theorem pf_X4_148 {v : Option Nat} {x : Int32} {τ : Mem} (hC : CallFix p m c cc nL s args WALL RX4) (hG : GS D cy A s) (hM : MS D cy ad A s.heap z σ H locs) (e1 : pI σ 0 4 v x = some τ) (hdg : decode cc pc = .ok (.putfield 148, 3)) (kk : ∀ (H : Heap) (locs : List Loc), MS D cy ad A s.heap z τ H locs → W p l e R s m args below meth c H locs 0 0 Q (F0 m (pc + 3) ls rest)) : W p l e R s m args below meth c H locs 0 0 Q (F0 m pc ls (.int x :: va_rf (Option.map ad v) :: rest)) :=
  gN_pI (ref := "TariffDesk$Part") (T := TX0) hC inW0 tyX0 tyX0_ok nmX0 hG hM 4 e1 (by decide) rfl rfl (by decide) rfl (hG.2.1 _ fl_X4_148) (fun _ h => h) rfl (tyX0_ok 4 (by decide)) hdg kk
theorem fl_X4_151 : Cond.fieldLink RX4 151 "TariffDesk$PlanReader" "faultPlace" "I" ∈ WALL := WALL_of (List.mem_of_getElem? (i := 221) (by decide +kernel)) (by decide +kernel)
theorem pf_X4_151 {v : Option Nat} {x : Int32} {τ : Mem} (hC : CallFix p m c cc nL s args WALL RX4) (hG : GS D cy A s) (hM : MS D cy ad A s.heap z σ H locs) (e1 : pI σ 4 5 v x = some τ) (hdg : decode cc pc = .ok (.putfield 151, 3)) (kk : ∀ (H : Heap) (locs : List Loc), MS D cy ad A s.heap z τ H locs → W p l e R s m args below meth c H locs 0 0 Q (F0 m (pc + 3) ls rest)) : W p l e R s m args below meth c H locs 0 0 Q (F0 m pc ls (.int x :: va_rf (Option.map ad v) :: rest)) :=
  g_pI (ref := "TariffDesk$PlanReader") (T := TX4) hC inW4 tyX4 tyX4_ok nmX4 hG hM 5 e1 (by decide) rfl rfl (by decide) rfl (hC.2.2.2.2 _ fl_X4_151) (fun _ h => h) rfl (tyX4_ok 5 (by decide)) hdg kk
theorem pf_X4_18 {v : Option Nat} {x : Option Nat} {τ : Mem} (hC : CallFix p m c cc nL s args WALL RX4) (hG : GS D cy A s) (hM : MS D cy ad A s.heap z σ H locs) (e1 : pR σ 4 1 v x = some τ) (hdg : decode cc pc = .ok (.putfield 18, 3)) (kk : ∀ (H : Heap) (locs : List Loc), MS D cy ad A s.heap z τ H locs → W p l e R s m args below meth c H locs 0 0 Q (F0 m (pc + 3) ls rest)) : W p l e R s m args below meth c H locs 0 0 Q (F0 m pc ls (va_rf (Option.map ad x) :: va_rf (Option.map ad v) :: rest)) :=
  g_pR (ref := "TariffDesk$PlanReader") (T := TX4) hC inW4 tyX4 tyX4_ok nmX4 hG hM 1 e1 (by decide) rfl rfl (by decide) rfl (hC.2.2.2.2 _ fl_X4_18) (fun _ h => h) rfl (tyX4_ok 1 (by decide)) (nr_obj _) hdg kk
theorem pf_X4_22 {v : Option Nat} {x : Int32} {τ : Mem} (hC : CallFix p m c cc nL s args WALL RX4) (hG : GS D cy A s) (hM : MS D cy ad A s.heap z σ H locs) (e1 : pI σ 3 1 v x = some τ) (hdg : decode cc pc = .ok (.putfield 22, 3)) (kk : ∀ (H : Heap) (locs : List Loc), MS D cy ad A s.heap z τ H locs → W p l e R s m args below meth c H locs 0 0 Q (F0 m (pc + 3) ls rest)) : W p l e R s m args below meth c H locs 0 0 Q (F0 m pc ls (.int x :: va_rf (Option.map ad v) :: rest)) :=
  gN_pI (ref := "TariffDesk$PlanBook") (T := TX3) hC inW3 tyX3 tyX3_ok nmX3 hG hM 1 e1 (by decide) rfl rfl (by decide) rfl (hG.2.1 _ fl_X4_22) (fun _ h => h) rfl (tyX3_ok 1 (by decide)) hdg kk
theorem fl_X4_26 : Cond.fieldLink RX4 26 "TariffDesk$PlanReader" "faultKind" "I" ∈ WALL := WALL_of (List.mem_of_getElem? (i := 218) (by decide +kernel)) (by decide +kernel)
theorem pf_X4_26 {v : Option Nat} {x : Int32} {τ : Mem} (hC : CallFix p m c cc nL s args WALL RX4) (hG : GS D cy A s) (hM : MS D cy ad A s.heap z σ H locs) (e1 : pI σ 4 4 v x = some τ) (hdg : decode cc pc = .ok (.putfield 26, 3)) (kk : ∀ (H : Heap) (locs : List Loc), MS D cy ad A s.heap z τ H locs → W p l e R s m args below meth c H locs 0 0 Q (F0 m (pc + 3) ls rest)) : W p l e R s m args below meth c H locs 0 0 Q (F0 m pc ls (.int x :: va_rf (Option.map ad v) :: rest)) :=
  g_pI (ref := "TariffDesk$PlanReader") (T := TX4) hC inW4 tyX4 tyX4_ok nmX4 hG hM 4 e1 (by decide) rfl rfl (by decide) rfl (hC.2.2.2.2 _ fl_X4_26) (fun _ h => h) rfl (tyX4_ok 4 (by decide)) hdg kk
theorem pf_X4_29 {v : Option Nat} {x : Int32} {τ : Mem} (hC : CallFix p m c cc nL s args WALL RX4) (hG : GS D cy A s) (hM : MS D cy ad A s.heap z σ H locs) (e1 : pI σ 4 7 v x = some τ) (hdg : decode cc pc = .ok (.putfield 29, 3)) (kk : ∀ (H : Heap) (locs : List Loc), MS D cy ad A s.heap z τ H locs → W p l e R s m args below meth c H locs 0 0 Q (F0 m (pc + 3) ls rest)) : W p l e R s m args below meth c H locs 0 0 Q (F0 m pc ls (.int x :: va_rf (Option.map ad v) :: rest)) :=
  g_pI (ref := "TariffDesk$PlanReader") (T := TX4) hC inW4 tyX4 tyX4_ok nmX4 hG hM 7 e1 (by decide) rfl rfl (by decide) rfl (hC.2.2.2.2 _ fl_X4_29) (fun _ h => h) rfl (tyX4_ok 7 (by decide)) hdg kk
theorem pf_X4_32 {v : Option Nat} {x : Int32} {τ : Mem} (hC : CallFix p m c cc nL s args WALL RX4) (hG : GS D cy A s) (hM : MS D cy ad A s.heap z σ H locs) (e1 : pI σ 4 8 v x = some τ) (hdg : decode cc pc = .ok (.putfield 32, 3)) (kk : ∀ (H : Heap) (locs : List Loc), MS D cy ad A s.heap z τ H locs → W p l e R s m args below meth c H locs 0 0 Q (F0 m (pc + 3) ls rest)) : W p l e R s m args below meth c H locs 0 0 Q (F0 m pc ls (.int x :: va_rf (Option.map ad v) :: rest)) :=
  g_pI (ref := "TariffDesk$PlanReader") (T := TX4) hC inW4 tyX4 tyX4_ok nmX4 hG hM 8 e1 (by decide) rfl rfl (by decide) rfl (hC.2.2.2.2 _ fl_X4_32) (fun _ h => h) rfl (tyX4_ok 8 (by decide)) hdg kk
theorem pf_X4_45 {v : Option Nat} {x : Int32} {τ : Mem} (hC : CallFix p m c cc nL s args WALL RX4) (hG : GS D cy A s) (hM : MS D cy ad A s.heap z σ H locs) (e1 : pI σ 4 11 v x = some τ) (hdg : decode cc pc = .ok (.putfield 45, 3)) (kk : ∀ (H : Heap) (locs : List Loc), MS D cy ad A s.heap z τ H locs → W p l e R s m args below meth c H locs 0 0 Q (F0 m (pc + 3) ls rest)) : W p l e R s m args below meth c H locs 0 0 Q (F0 m pc ls (.int x :: va_rf (Option.map ad v) :: rest)) :=
  g_pI (ref := "TariffDesk$PlanReader") (T := TX4) hC inW4 tyX4 tyX4_ok nmX4 hG hM 11 e1 (by decide) rfl rfl (by decide) rfl (hC.2.2.2.2 _ fl_X4_45) (fun _ h => h) rfl (tyX4_ok 11 (by decide)) hdg kk
theorem pf_X4_56 {v : Option Nat} {x : Option Nat} {τ : Mem} (hC : CallFix p m c cc nL s args WALL RX4) (hG : GS D cy A s) (hM : MS D cy ad A s.heap z σ H locs) (e1 : pR σ 4 2 v x = some τ) (hdg : decode cc pc = .ok (.putfield 56, 3)) (kk : ∀ (H : Heap) (locs : List Loc), MS D cy ad A s.heap z τ H locs → W p l e R s m args below meth c H locs 0 0 Q (F0 m (pc + 3) ls rest)) : W p l e R s m args below meth c H locs 0 0 Q (F0 m pc ls (va_rf (Option.map ad x) :: va_rf (Option.map ad v) :: rest)) :=
  g_pR (ref := "TariffDesk$PlanReader") (T := TX4) hC inW4 tyX4 tyX4_ok nmX4 hG hM 2 e1 (by decide) rfl rfl (by decide) rfl (hC.2.2.2.2 _ fl_X4_56) (fun _ h => h) rfl (tyX4_ok 2 (by decide)) (nr_obj _) hdg kk
theorem pf_X4_63 {v : Option Nat} {x : Option Nat} {τ : Mem} (hC : CallFix p m c cc nL s args WALL RX4) (hG : GS D cy A s) (hM : MS D cy ad A s.heap z σ H locs) (e1 : pR σ 4 3 v x = some τ) (hdg : decode cc pc = .ok (.putfield 63, 3)) (kk : ∀ (H : Heap) (locs : List Loc), MS D cy ad A s.heap z τ H locs → W p l e R s m args below meth c H locs 0 0 Q (F0 m (pc + 3) ls rest)) : W p l e R s m args below meth c H locs 0 0 Q (F0 m pc ls (va_rf (Option.map ad x) :: va_rf (Option.map ad v) :: rest)) :=
  g_pR (ref := "TariffDesk$PlanReader") (T := TX4) hC inW4 tyX4 tyX4_ok nmX4 hG hM 3 e1 (by decide) rfl rfl (by decide) rfl (hC.2.2.2.2 _ fl_X4_63) (fun _ h => h) rfl (tyX4_ok 3 (by decide)) (nr_obj _) hdg kk
theorem pf_X4_75 {v : Option Nat} {x : Int32} {τ : Mem} (hC : CallFix p m c cc nL s args WALL RX4) (hG : GS D cy A s) (hM : MS D cy ad A s.heap z σ H locs) (e1 : pI σ 4 6 v x = some τ) (hdg : decode cc pc = .ok (.putfield 75, 3)) (kk : ∀ (H : Heap) (locs : List Loc), MS D cy ad A s.heap z τ H locs → W p l e R s m args below meth c H locs 0 0 Q (F0 m (pc + 3) ls rest)) : W p l e R s m args below meth c H locs 0 0 Q (F0 m pc ls (.int x :: va_rf (Option.map ad v) :: rest)) :=
  g_pI (ref := "TariffDesk$PlanReader") (T := TX4) hC inW4 tyX4 tyX4_ok nmX4 hG hM 6 e1 (by decide) rfl rfl (by decide) rfl (hC.2.2.2.2 _ fl_X4_75) (fun _ h => h) rfl (tyX4_ok 6 (by decide)) hdg kk
theorem pf_X4_78 {v : Option Nat} {x : Int64} {τ : Mem} (hC : CallFix p m c cc nL s args WALL RX4) (hG : GS D cy A s) (hM : MS D cy ad A s.heap z σ H locs) (e1 : pJ σ 4 9 v x = some τ) (hdg : decode cc pc = .ok (.putfield 78, 3)) (kk : ∀ (H : Heap) (locs : List Loc), MS D cy ad A s.heap z τ H locs → W p l e R s m args below meth c H locs 0 0 Q (F0 m (pc + 3) ls rest)) : W p l e R s m args below meth c H locs 0 0 Q (F0 m pc ls (.long x :: va_rf (Option.map ad v) :: rest)) :=
  g_pJ (ref := "TariffDesk$PlanReader") (T := TX4) hC inW4 tyX4 tyX4_ok nmX4 hG hM 9 e1 (by decide) rfl rfl (by decide) rfl (hC.2.2.2.2 _ fl_X4_78) (fun _ h => h) rfl (tyX4_ok 9 (by decide)) hdg kk
theorem fl_X4_86 : Cond.fieldLinkNest RX4 86 "TariffDesk$Plan" "nameLetters" "J" "TariffDesk" ∈ NWL := NW_of (List.mem_of_getElem? (i := 167) (by decide +kernel)) rfl
theorem pf_X4_86 {v : Option Nat} {x : Int64} {τ : Mem} (hC : CallFix p m c cc nL s args WALL RX4) (hG : GS D cy A s) (hM : MS D cy ad A s.heap z σ H locs) (e1 : pJ σ 2 1 v x = some τ) (hdg : decode cc pc = .ok (.putfield 86, 3)) (kk : ∀ (H : Heap) (locs : List Loc), MS D cy ad A s.heap z τ H locs → W p l e R s m args below meth c H locs 0 0 Q (F0 m (pc + 3) ls rest)) : W p l e R s m args below meth c H locs 0 0 Q (F0 m pc ls (.long x :: va_rf (Option.map ad v) :: rest)) :=
  gN_pJ (ref := "TariffDesk$Plan") (T := TX2) hC inW2 tyX2 tyX2_ok nmX2 hG hM 1 e1 (by decide) rfl rfl (by decide) rfl (hG.2.1 _ fl_X4_86) (fun _ h => h) rfl (tyX2_ok 1 (by decide)) hdg kk
theorem fl_X4_91 : Cond.fieldLinkNest RX4 91 "TariffDesk$Plan" "nameLength" "I" "TariffDesk" ∈ NWL := NW_of (List.mem_of_getElem? (i := 170) (by decide +kernel)) rfl
theorem pf_X4_91 {v : Option Nat} {x : Int32} {τ : Mem} (hC : CallFix p m c cc nL s args WALL RX4) (hG : GS D cy A s) (hM : MS D cy ad A s.heap z σ H locs) (e1 : pI σ 2 2 v x = some τ) (hdg : decode cc pc = .ok (.putfield 91, 3)) (kk : ∀ (H : Heap) (locs : List Loc), MS D cy ad A s.heap z τ H locs → W p l e R s m args below meth c H locs 0 0 Q (F0 m (pc + 3) ls rest)) : W p l e R s m args below meth c H locs 0 0 Q (F0 m pc ls (.int x :: va_rf (Option.map ad v) :: rest)) :=
  gN_pI (ref := "TariffDesk$Plan") (T := TX2) hC inW2 tyX2 tyX2_ok nmX2 hG hM 2 e1 (by decide) rfl rfl (by decide) rfl (hG.2.1 _ fl_X4_91) (fun _ h => h) rfl (tyX2_ok 2 (by decide)) hdg kk
theorem pf_X4_94 {v : Option Nat} {x : Int32} {τ : Mem} (hC : CallFix p m c cc nL s args WALL RX4) (hG : GS D cy A s) (hM : MS D cy ad A s.heap z σ H locs) (e1 : pI σ 4 10 v x = some τ) (hdg : decode cc pc = .ok (.putfield 94, 3)) (kk : ∀ (H : Heap) (locs : List Loc), MS D cy ad A s.heap z τ H locs → W p l e R s m args below meth c H locs 0 0 Q (F0 m (pc + 3) ls rest)) : W p l e R s m args below meth c H locs 0 0 Q (F0 m pc ls (.int x :: va_rf (Option.map ad v) :: rest)) :=
  g_pI (ref := "TariffDesk$PlanReader") (T := TX4) hC inW4 tyX4 tyX4_ok nmX4 hG hM 10 e1 (by decide) rfl rfl (by decide) rfl (hC.2.2.2.2 _ fl_X4_94) (fun _ h => h) rfl (tyX4_ok 10 (by decide)) hdg kk
theorem pf_X5_25 {v : Option Nat} {x : Option Nat} {τ : Mem} (hC : CallFix p m c cc nL s args WALL RX5) (hG : GS D cy A s) (hM : MS D cy ad A s.heap z σ H locs) (e1 : pR σ 5 4 v x = some τ) (hdg : decode cc pc = .ok (.putfield 25, 3)) (kk : ∀ (H : Heap) (locs : List Loc), MS D cy ad A s.heap z τ H locs → W p l e R s m args below meth c H locs 0 0 Q (F0 m (pc + 3) ls rest)) : W p l e R s m args below meth c H locs 0 0 Q (F0 m pc ls (va_rf (Option.map ad x) :: va_rf (Option.map ad v) :: rest)) :=
  g_pR (ref := "TariffDesk$RowFinder") (T := TX5) hC inW5 tyX5 tyX5_ok nmX5 hG hM 4 e1 (by decide) rfl rfl (by decide) rfl (hC.2.2.2.2 _ fl_X5_25) (fun _ h => h) rfl (tyX5_ok 4 (by decide)) (nr_obj _) hdg kk
theorem pf_X5_35 {v : Option Nat} {x : Int32} {τ : Mem} (hC : CallFix p m c cc nL s args WALL RX5) (hG : GS D cy A s) (hM : MS D cy ad A s.heap z σ H locs) (e1 : pI σ 5 5 v x = some τ) (hdg : decode cc pc = .ok (.putfield 35, 3)) (kk : ∀ (H : Heap) (locs : List Loc), MS D cy ad A s.heap z τ H locs → W p l e R s m args below meth c H locs 0 0 Q (F0 m (pc + 3) ls rest)) : W p l e R s m args below meth c H locs 0 0 Q (F0 m pc ls (.int x :: va_rf (Option.map ad v) :: rest)) :=
  g_pI (ref := "TariffDesk$RowFinder") (T := TX5) hC inW5 tyX5 tyX5_ok nmX5 hG hM 5 e1 (by decide) rfl rfl (by decide) rfl (hC.2.2.2.2 _ fl_X5_35) (fun _ h => h) rfl (tyX5_ok 5 (by decide)) hdg kk
theorem pf_X5_42 {v : Option Nat} {x : Int32} {τ : Mem} (hC : CallFix p m c cc nL s args WALL RX5) (hG : GS D cy A s) (hM : MS D cy ad A s.heap z σ H locs) (e1 : pI σ 5 6 v x = some τ) (hdg : decode cc pc = .ok (.putfield 42, 3)) (kk : ∀ (H : Heap) (locs : List Loc), MS D cy ad A s.heap z τ H locs → W p l e R s m args below meth c H locs 0 0 Q (F0 m (pc + 3) ls rest)) : W p l e R s m args below meth c H locs 0 0 Q (F0 m pc ls (.int x :: va_rf (Option.map ad v) :: rest)) :=
  g_pI (ref := "TariffDesk$RowFinder") (T := TX5) hC inW5 tyX5 tyX5_ok nmX5 hG hM 6 e1 (by decide) rfl rfl (by decide) rfl (hC.2.2.2.2 _ fl_X5_42) (fun _ h => h) rfl (tyX5_ok 6 (by decide)) hdg kk
theorem pf_X5_72 {v : Option Nat} {x : Int32} {τ : Mem} (hC : CallFix p m c cc nL s args WALL RX5) (hG : GS D cy A s) (hM : MS D cy ad A s.heap z σ H locs) (e1 : pI σ 5 7 v x = some τ) (hdg : decode cc pc = .ok (.putfield 72, 3)) (kk : ∀ (H : Heap) (locs : List Loc), MS D cy ad A s.heap z τ H locs → W p l e R s m args below meth c H locs 0 0 Q (F0 m (pc + 3) ls rest)) : W p l e R s m args below meth c H locs 0 0 Q (F0 m pc ls (.int x :: va_rf (Option.map ad v) :: rest)) :=
  g_pI (ref := "TariffDesk$RowFinder") (T := TX5) hC inW5 tyX5 tyX5_ok nmX5 hG hM 7 e1 (by decide) rfl rfl (by decide) rfl (hC.2.2.2.2 _ fl_X5_72) (fun _ h => h) rfl (tyX5_ok 7 (by decide)) hdg kk
theorem pf_X6_15 {v : Option Nat} {x : Int32} {τ : Mem} (hC : CallFix p m c cc nL s args WALL RX6) (hG : GS D cy A s) (hM : MS D cy ad A s.heap z σ H locs) (e1 : pI σ 6 1 v x = some τ) (hdg : decode cc pc = .ok (.putfield 15, 3)) (kk : ∀ (H : Heap) (locs : List Loc), MS D cy ad A s.heap z τ H locs → W p l e R s m args below meth c H locs 0 0 Q (F0 m (pc + 3) ls rest)) : W p l e R s m args below meth c H locs 0 0 Q (F0 m pc ls (.int x :: va_rf (Option.map ad v) :: rest)) :=
  g_pI (ref := "TariffDesk$Tape") (T := TX6) hC inW6 tyX6 tyX6_ok nmX6 hG hM 1 e1 (by decide) rfl rfl (by decide) rfl (hC.2.2.2.2 _ fl_X6_15) (fun _ h => h) rfl (tyX6_ok 1 (by decide)) hdg kk
theorem fl_X8_122 : Cond.fieldLink RX8 122 "TariffDesk" "outLetters" "J" ∈ WALL := WALL_of (List.mem_of_getElem? (i := 338) (by decide +kernel)) (by decide +kernel)
theorem pf_X8_122 {v : Option Nat} {x : Int64} {τ : Mem} (hC : CallFix p m c cc nL s args WALL RX8) (hG : GS D cy A s) (hM : MS D cy ad A s.heap z σ H locs) (e1 : pJ σ 8 10 v x = some τ) (hdg : decode cc pc = .ok (.putfield 122, 3)) (kk : ∀ (H : Heap) (locs : List Loc), MS D cy ad A s.heap z τ H locs → W p l e R s m args below meth c H locs 0 0 Q (F0 m (pc + 3) ls rest)) : W p l e R s m args below meth c H locs 0 0 Q (F0 m pc ls (.long x :: va_rf (Option.map ad v) :: rest)) :=
  g_pJ (ref := "TariffDesk") (T := TX8) hC inW8 tyX8 tyX8_ok nmX8 hG hM 10 e1 (by decide) rfl rfl (by decide) rfl (hC.2.2.2.2 _ fl_X8_122) (fun _ h => h) rfl (tyX8_ok 10 (by decide)) hdg kk
theorem pf_X8_128 {v : Option Nat} {x : Int32} {τ : Mem} (hC : CallFix p m c cc nL s args WALL RX8) (hG : GS D cy A s) (hM : MS D cy ad A s.heap z σ H locs) (e1 : pI σ 8 11 v x = some τ) (hdg : decode cc pc = .ok (.putfield 128, 3)) (kk : ∀ (H : Heap) (locs : List Loc), MS D cy ad A s.heap z τ H locs → W p l e R s m args below meth c H locs 0 0 Q (F0 m (pc + 3) ls rest)) : W p l e R s m args below meth c H locs 0 0 Q (F0 m pc ls (.int x :: va_rf (Option.map ad v) :: rest)) :=
  g_pI (ref := "TariffDesk") (T := TX8) hC inW8 tyX8 tyX8_ok nmX8 hG hM 11 e1 (by decide) rfl rfl (by decide) rfl (hC.2.2.2.2 _ fl_X8_128) (fun _ h => h) rfl (tyX8_ok 11 (by decide)) hdg kk
theorem pf_X8_139 {v : Option Nat} {x : Int32} {τ : Mem} (hC : CallFix p m c cc nL s args WALL RX8) (hG : GS D cy A s) (hM : MS D cy ad A s.heap z σ H locs) (e1 : pI σ 8 9 v x = some τ) (hdg : decode cc pc = .ok (.putfield 139, 3)) (kk : ∀ (H : Heap) (locs : List Loc), MS D cy ad A s.heap z τ H locs → W p l e R s m args below meth c H locs 0 0 Q (F0 m (pc + 3) ls rest)) : W p l e R s m args below meth c H locs 0 0 Q (F0 m pc ls (.int x :: va_rf (Option.map ad v) :: rest)) :=
  g_pI (ref := "TariffDesk") (T := TX8) hC inW8 tyX8 tyX8_ok nmX8 hG hM 9 e1 (by decide) rfl rfl (by decide) rfl (hC.2.2.2.2 _ fl_X8_139) (fun _ h => h) rfl (tyX8_ok 9 (by decide)) hdg kk
theorem pf_X8_59 {v : Option Nat} {x : Option Nat} {τ : Mem} (hC : CallFix p m c cc nL s args WALL RX8) (hG : GS D cy A s) (hM : MS D cy ad A s.heap z σ H locs) (e1 : pR σ 8 8 v x = some τ) (hdg : decode cc pc = .ok (.putfield 59, 3)) (kk : ∀ (H : Heap) (locs : List Loc), MS D cy ad A s.heap z τ H locs → W p l e R s m args below meth c H locs 0 0 Q (F0 m (pc + 3) ls rest)) : W p l e R s m args below meth c H locs 0 0 Q (F0 m pc ls (va_rf (Option.map ad x) :: va_rf (Option.map ad v) :: rest)) :=
  g_pR (ref := "TariffDesk") (T := TX8) hC inW8 tyX8 tyX8_ok nmX8 hG hM 8 e1 (by decide) rfl rfl (by decide) rfl (hC.2.2.2.2 _ fl_X8_59) (fun _ h => h) rfl (tyX8_ok 8 (by decide)) (nr_obj _) hdg kk
theorem pf_X8_66 {v : Option Nat} {x : Int32} {τ : Mem} (hC : CallFix p m c cc nL s args WALL RX8) (hG : GS D cy A s) (hM : MS D cy ad A s.heap z σ H locs) (e1 : pI σ 6 1 v x = some τ) (hdg : decode cc pc = .ok (.putfield 66, 3)) (kk : ∀ (H : Heap) (locs : List Loc), MS D cy ad A s.heap z τ H locs → W p l e R s m args below meth c H locs 0 0 Q (F0 m (pc + 3) ls rest)) : W p l e R s m args below meth c H locs 0 0 Q (F0 m pc ls (.int x :: va_rf (Option.map ad v) :: rest)) :=
  gN_pI (ref := "TariffDesk$Tape") (T := TX6) hC inW6 tyX6 tyX6_ok nmX6 hG hM 1 e1 (by decide) rfl rfl (by decide) rfl (hG.2.1 _ fl_X8_66) (fun _ h => h) rfl (tyX6_ok 1 (by decide)) hdg kk
theorem pf_X9_101 {v : Option Nat} {x : Int32} {τ : Mem} (hC : CallFix p m c cc nL s args WALL RX9) (hG : GS D cy A s) (hM : MS D cy ad A s.heap z σ H locs) (e1 : pI σ 9 4 v x = some τ) (hdg : decode cc pc = .ok (.putfield 101, 3)) (kk : ∀ (H : Heap) (locs : List Loc), MS D cy ad A s.heap z τ H locs → W p l e R s m args below meth c H locs 0 0 Q (F0 m (pc + 3) ls rest)) : W p l e R s m args below meth c H locs 0 0 Q (F0 m pc ls (.int x :: va_rf (Option.map ad v) :: rest)) :=
  g_pI (ref := "TariffDeskModel") (T := TX9) hC inW9 tyX9 tyX9_ok nmX9 hG hM 4 e1 (by decide) rfl rfl (by decide) rfl (hC.2.2.2.2 _ fl_X9_101) (fun _ h => h) rfl (tyX9_ok 4 (by decide)) hdg kk
theorem pf_X9_104 {v : Option Nat} {x : Int32} {τ : Mem} (hC : CallFix p m c cc nL s args WALL RX9) (hG : GS D cy A s) (hM : MS D cy ad A s.heap z σ H locs) (e1 : pI σ 9 5 v x = some τ) (hdg : decode cc pc = .ok (.putfield 104, 3)) (kk : ∀ (H : Heap) (locs : List Loc), MS D cy ad A s.heap z τ H locs → W p l e R s m args below meth c H locs 0 0 Q (F0 m (pc + 3) ls rest)) : W p l e R s m args below meth c H locs 0 0 Q (F0 m pc ls (.int x :: va_rf (Option.map ad v) :: rest)) :=
  g_pI (ref := "TariffDeskModel") (T := TX9) hC inW9 tyX9 tyX9_ok nmX9 hG hM 5 e1 (by decide) rfl rfl (by decide) rfl (hC.2.2.2.2 _ fl_X9_104) (fun _ h => h) rfl (tyX9_ok 5 (by decide)) hdg kk
theorem pf_X9_107 {v : Option Nat} {x : Int32} {τ : Mem} (hC : CallFix p m c cc nL s args WALL RX9) (hG : GS D cy A s) (hM : MS D cy ad A s.heap z σ H locs) (e1 : pI σ 9 6 v x = some τ) (hdg : decode cc pc = .ok (.putfield 107, 3)) (kk : ∀ (H : Heap) (locs : List Loc), MS D cy ad A s.heap z τ H locs → W p l e R s m args below meth c H locs 0 0 Q (F0 m (pc + 3) ls rest)) : W p l e R s m args below meth c H locs 0 0 Q (F0 m pc ls (.int x :: va_rf (Option.map ad v) :: rest)) :=
  g_pI (ref := "TariffDeskModel") (T := TX9) hC inW9 tyX9 tyX9_ok nmX9 hG hM 6 e1 (by decide) rfl rfl (by decide) rfl (hC.2.2.2.2 _ fl_X9_107) (fun _ h => h) rfl (tyX9_ok 6 (by decide)) hdg kk
theorem pf_X9_117 {v : Option Nat} {x : Int64} {τ : Mem} (hC : CallFix p m c cc nL s args WALL RX9) (hG : GS D cy A s) (hM : MS D cy ad A s.heap z σ H locs) (e1 : pJ σ 9 10 v x = some τ) (hdg : decode cc pc = .ok (.putfield 117, 3)) (kk : ∀ (H : Heap) (locs : List Loc), MS D cy ad A s.heap z τ H locs → W p l e R s m args below meth c H locs 0 0 Q (F0 m (pc + 3) ls rest)) : W p l e R s m args below meth c H locs 0 0 Q (F0 m pc ls (.long x :: va_rf (Option.map ad v) :: rest)) :=
  g_pJ (ref := "TariffDeskModel") (T := TX9) hC inW9 tyX9 tyX9_ok nmX9 hG hM 10 e1 (by decide) rfl rfl (by decide) rfl (hC.2.2.2.2 _ fl_X9_117) (fun _ h => h) rfl (tyX9_ok 10 (by decide)) hdg kk
theorem pf_X9_121 {v : Option Nat} {x : Int32} {τ : Mem} (hC : CallFix p m c cc nL s args WALL RX9) (hG : GS D cy A s) (hM : MS D cy ad A s.heap z σ H locs) (e1 : pI σ 9 7 v x = some τ) (hdg : decode cc pc = .ok (.putfield 121, 3)) (kk : ∀ (H : Heap) (locs : List Loc), MS D cy ad A s.heap z τ H locs → W p l e R s m args below meth c H locs 0 0 Q (F0 m (pc + 3) ls rest)) : W p l e R s m args below meth c H locs 0 0 Q (F0 m pc ls (.int x :: va_rf (Option.map ad v) :: rest)) :=
  g_pI (ref := "TariffDeskModel") (T := TX9) hC inW9 tyX9 tyX9_ok nmX9 hG hM 7 e1 (by decide) rfl rfl (by decide) rfl (hC.2.2.2.2 _ fl_X9_121) (fun _ h => h) rfl (tyX9_ok 7 (by decide)) hdg kk
theorem pf_X9_162 {v : Option Nat} {x : Int32} {τ : Mem} (hC : CallFix p m c cc nL s args WALL RX9) (hG : GS D cy A s) (hM : MS D cy ad A s.heap z σ H locs) (e1 : pI σ 9 8 v x = some τ) (hdg : decode cc pc = .ok (.putfield 162, 3)) (kk : ∀ (H : Heap) (locs : List Loc), MS D cy ad A s.heap z τ H locs → W p l e R s m args below meth c H locs 0 0 Q (F0 m (pc + 3) ls rest)) : W p l e R s m args below meth c H locs 0 0 Q (F0 m pc ls (.int x :: va_rf (Option.map ad v) :: rest)) :=
  g_pI (ref := "TariffDeskModel") (T := TX9) hC inW9 tyX9 tyX9_ok nmX9 hG hM 8 e1 (by decide) rfl rfl (by decide) rfl (hC.2.2.2.2 _ fl_X9_162) (fun _ h => h) rfl (tyX9_ok 8 (by decide)) hdg kk
theorem pf_X9_165 {v : Option Nat} {x : Int32} {τ : Mem} (hC : CallFix p m c cc nL s args WALL RX9) (hG : GS D cy A s) (hM : MS D cy ad A s.heap z σ H locs) (e1 : pI σ 9 9 v x = some τ) (hdg : decode cc pc = .ok (.putfield 165, 3)) (kk : ∀ (H : Heap) (locs : List Loc), MS D cy ad A s.heap z τ H locs → W p l e R s m args below meth c H locs 0 0 Q (F0 m (pc + 3) ls rest)) : W p l e R s m args below meth c H locs 0 0 Q (F0 m pc ls (.int x :: va_rf (Option.map ad v) :: rest)) :=
  g_pI (ref := "TariffDeskModel") (T := TX9) hC inW9 tyX9 tyX9_ok nmX9 hG hM 9 e1 (by decide) rfl rfl (by decide) rfl (hC.2.2.2.2 _ fl_X9_165) (fun _ h => h) rfl (tyX9_ok 9 (by decide)) hdg kk
theorem pf_X9_171 {v : Option Nat} {x : Int32} {τ : Mem} (hC : CallFix p m c cc nL s args WALL RX9) (hG : GS D cy A s) (hM : MS D cy ad A s.heap z σ H locs) (e1 : pI σ 9 23 v x = some τ) (hdg : decode cc pc = .ok (.putfield 171, 3)) (kk : ∀ (H : Heap) (locs : List Loc), MS D cy ad A s.heap z τ H locs → W p l e R s m args below meth c H locs 0 0 Q (F0 m (pc + 3) ls rest)) : W p l e R s m args below meth c H locs 0 0 Q (F0 m pc ls (.int x :: va_rf (Option.map ad v) :: rest)) :=
  g_pI (ref := "TariffDeskModel") (T := TX9) hC inW9 tyX9 tyX9_ok nmX9 hG hM 23 e1 (by decide) rfl rfl (by decide) rfl (hC.2.2.2.2 _ fl_X9_171) (fun _ h => h) rfl (tyX9_ok 23 (by decide)) hdg kk
theorem pf_X9_196 {v : Option Nat} {x : Int32} {τ : Mem} (hC : CallFix p m c cc nL s args WALL RX9) (hG : GS D cy A s) (hM : MS D cy ad A s.heap z σ H locs) (e1 : pI σ 9 24 v x = some τ) (hdg : decode cc pc = .ok (.putfield 196, 3)) (kk : ∀ (H : Heap) (locs : List Loc), MS D cy ad A s.heap z τ H locs → W p l e R s m args below meth c H locs 0 0 Q (F0 m (pc + 3) ls rest)) : W p l e R s m args below meth c H locs 0 0 Q (F0 m pc ls (.int x :: va_rf (Option.map ad v) :: rest)) :=
  g_pI (ref := "TariffDeskModel") (T := TX9) hC inW9 tyX9 tyX9_ok nmX9 hG hM 24 e1 (by decide) rfl rfl (by decide) rfl (hC.2.2.2.2 _ fl_X9_196) (fun _ h => h) rfl (tyX9_ok 24 (by decide)) hdg kk
theorem pf_X9_205 {v : Option Nat} {x : Int32} {τ : Mem} (hC : CallFix p m c cc nL s args WALL RX9) (hG : GS D cy A s) (hM : MS D cy ad A s.heap z σ H locs) (e1 : pI σ 9 22 v x = some τ) (hdg : decode cc pc = .ok (.putfield 205, 3)) (kk : ∀ (H : Heap) (locs : List Loc), MS D cy ad A s.heap z τ H locs → W p l e R s m args below meth c H locs 0 0 Q (F0 m (pc + 3) ls rest)) : W p l e R s m args below meth c H locs 0 0 Q (F0 m pc ls (.int x :: va_rf (Option.map ad v) :: rest)) :=
  g_pI (ref := "TariffDeskModel") (T := TX9) hC inW9 tyX9 tyX9_ok nmX9 hG hM 22 e1 (by decide) rfl rfl (by decide) rfl (hC.2.2.2.2 _ fl_X9_205) (fun _ h => h) rfl (tyX9_ok 22 (by decide)) hdg kk
theorem pf_X9_208 {v : Option Nat} {x : Int32} {τ : Mem} (hC : CallFix p m c cc nL s args WALL RX9) (hG : GS D cy A s) (hM : MS D cy ad A s.heap z σ H locs) (e1 : pI σ 9 34 v x = some τ) (hdg : decode cc pc = .ok (.putfield 208, 3)) (kk : ∀ (H : Heap) (locs : List Loc), MS D cy ad A s.heap z τ H locs → W p l e R s m args below meth c H locs 0 0 Q (F0 m (pc + 3) ls rest)) : W p l e R s m args below meth c H locs 0 0 Q (F0 m pc ls (.int x :: va_rf (Option.map ad v) :: rest)) :=
  g_pI (ref := "TariffDeskModel") (T := TX9) hC inW9 tyX9 tyX9_ok nmX9 hG hM 34 e1 (by decide) rfl rfl (by decide) rfl (hC.2.2.2.2 _ fl_X9_208) (fun _ h => h) rfl (tyX9_ok 34 (by decide)) hdg kk
theorem pf_X9_211 {v : Option Nat} {x : Int32} {τ : Mem} (hC : CallFix p m c cc nL s args WALL RX9) (hG : GS D cy A s) (hM : MS D cy ad A s.heap z σ H locs) (e1 : pI σ 9 35 v x = some τ) (hdg : decode cc pc = .ok (.putfield 211, 3)) (kk : ∀ (H : Heap) (locs : List Loc), MS D cy ad A s.heap z τ H locs → W p l e R s m args below meth c H locs 0 0 Q (F0 m (pc + 3) ls rest)) : W p l e R s m args below meth c H locs 0 0 Q (F0 m pc ls (.int x :: va_rf (Option.map ad v) :: rest)) :=
  g_pI (ref := "TariffDeskModel") (T := TX9) hC inW9 tyX9 tyX9_ok nmX9 hG hM 35 e1 (by decide) rfl rfl (by decide) rfl (hC.2.2.2.2 _ fl_X9_211) (fun _ h => h) rfl (tyX9_ok 35 (by decide)) hdg kk
theorem pf_X9_221 {v : Option Nat} {x : Int32} {τ : Mem} (hC : CallFix p m c cc nL s args WALL RX9) (hG : GS D cy A s) (hM : MS D cy ad A s.heap z σ H locs) (e1 : pI σ 9 26 v x = some τ) (hdg : decode cc pc = .ok (.putfield 221, 3)) (kk : ∀ (H : Heap) (locs : List Loc), MS D cy ad A s.heap z τ H locs → W p l e R s m args below meth c H locs 0 0 Q (F0 m (pc + 3) ls rest)) : W p l e R s m args below meth c H locs 0 0 Q (F0 m pc ls (.int x :: va_rf (Option.map ad v) :: rest)) :=
  g_pI (ref := "TariffDeskModel") (T := TX9) hC inW9 tyX9 tyX9_ok nmX9 hG hM 26 e1 (by decide) rfl rfl (by decide) rfl (hC.2.2.2.2 _ fl_X9_221) (fun _ h => h) rfl (tyX9_ok 26 (by decide)) hdg kk
theorem pf_X9_232 {v : Option Nat} {x : Int32} {τ : Mem} (hC : CallFix p m c cc nL s args WALL RX9) (hG : GS D cy A s) (hM : MS D cy ad A s.heap z σ H locs) (e1 : pI σ 9 28 v x = some τ) (hdg : decode cc pc = .ok (.putfield 232, 3)) (kk : ∀ (H : Heap) (locs : List Loc), MS D cy ad A s.heap z τ H locs → W p l e R s m args below meth c H locs 0 0 Q (F0 m (pc + 3) ls rest)) : W p l e R s m args below meth c H locs 0 0 Q (F0 m pc ls (.int x :: va_rf (Option.map ad v) :: rest)) :=
  g_pI (ref := "TariffDeskModel") (T := TX9) hC inW9 tyX9 tyX9_ok nmX9 hG hM 28 e1 (by decide) rfl rfl (by decide) rfl (hC.2.2.2.2 _ fl_X9_232) (fun _ h => h) rfl (tyX9_ok 28 (by decide)) hdg kk
theorem pf_X9_87 {v : Option Nat} {x : Int32} {τ : Mem} (hC : CallFix p m c cc nL s args WALL RX9) (hG : GS D cy A s) (hM : MS D cy ad A s.heap z σ H locs) (e1 : pI σ 9 0 v x = some τ) (hdg : decode cc pc = .ok (.putfield 87, 3)) (kk : ∀ (H : Heap) (locs : List Loc), MS D cy ad A s.heap z τ H locs → W p l e R s m args below meth c H locs 0 0 Q (F0 m (pc + 3) ls rest)) : W p l e R s m args below meth c H locs 0 0 Q (F0 m pc ls (.int x :: va_rf (Option.map ad v) :: rest)) :=
  g_pI (ref := "TariffDeskModel") (T := TX9) hC inW9 tyX9 tyX9_ok nmX9 hG hM 0 e1 (by decide) rfl rfl (by decide) rfl (hC.2.2.2.2 _ fl_X9_87) (fun _ h => h) rfl (tyX9_ok 0 (by decide)) hdg kk
theorem pf_X9_91 {v : Option Nat} {x : Int32} {τ : Mem} (hC : CallFix p m c cc nL s args WALL RX9) (hG : GS D cy A s) (hM : MS D cy ad A s.heap z σ H locs) (e1 : pI σ 9 2 v x = some τ) (hdg : decode cc pc = .ok (.putfield 91, 3)) (kk : ∀ (H : Heap) (locs : List Loc), MS D cy ad A s.heap z τ H locs → W p l e R s m args below meth c H locs 0 0 Q (F0 m (pc + 3) ls rest)) : W p l e R s m args below meth c H locs 0 0 Q (F0 m pc ls (.int x :: va_rf (Option.map ad v) :: rest)) :=
  g_pI (ref := "TariffDeskModel") (T := TX9) hC inW9 tyX9 tyX9_ok nmX9 hG hM 2 e1 (by decide) rfl rfl (by decide) rfl (hC.2.2.2.2 _ fl_X9_91) (fun _ h => h) rfl (tyX9_ok 2 (by decide)) hdg kk
theorem pf_X9_98 {v : Option Nat} {x : Int32} {τ : Mem} (hC : CallFix p m c cc nL s args WALL RX9) (hG : GS D cy A s) (hM : MS D cy ad A s.heap z σ H locs) (e1 : pI σ 9 3 v x = some τ) (hdg : decode cc pc = .ok (.putfield 98, 3)) (kk : ∀ (H : Heap) (locs : List Loc), MS D cy ad A s.heap z τ H locs → W p l e R s m args below meth c H locs 0 0 Q (F0 m (pc + 3) ls rest)) : W p l e R s m args below meth c H locs 0 0 Q (F0 m pc ls (.int x :: va_rf (Option.map ad v) :: rest)) :=
  g_pI (ref := "TariffDeskModel") (T := TX9) hC inW9 tyX9 tyX9_ok nmX9 hG hM 3 e1 (by decide) rfl rfl (by decide) rfl (hC.2.2.2.2 _ fl_X9_98) (fun _ h => h) rfl (tyX9_ok 3 (by decide)) hdg kk
end SITES
end
