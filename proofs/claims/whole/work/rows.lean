section
-- ===== PART A: goes FIRST, ahead of the names: the tables' words, and 'selects' of the private methods out of them =====
/-- a private method of a class that the tables say can be made, by its rows of tables_1 -/
def lw_okq (q : MethodName × Nat) : Prop := (q.1.cls ≠ "java/lang/invoke/MethodHandle" ∧ q.1.cls ≠ "java/lang/invoke/VarHandle") ∧ Cond.instantiable q.1.cls q.2 ∈ tables_1 ∧ Cond.privateMethod q.1 ∈ tables_1 ∧ Cond.instanceMethod q.1 ∈ tables_1
theorem lw_p0 : lw_okq (⟨"TimetableDesk$Board", "weekPenalty", "()I"⟩, 10) := ⟨⟨by decide +kernel, by decide +kernel⟩, List.mem_of_getElem? (i := 80) (by decide +kernel), List.mem_of_getElem? (i := 198) (by decide +kernel), List.mem_of_getElem? (i := 199) (by decide +kernel)⟩
theorem lw_p1 : lw_okq (⟨"TimetableDesk$Board", "teacherPart", "(I)I"⟩, 10) := ⟨⟨by decide +kernel, by decide +kernel⟩, List.mem_of_getElem? (i := 80) (by decide +kernel), List.mem_of_getElem? (i := 202) (by decide +kernel), List.mem_of_getElem? (i := 203) (by decide +kernel)⟩
theorem lw_p2 : lw_okq (⟨"TimetableDesk$Board", "gapsIn", "(I)I"⟩, 10) := ⟨⟨by decide +kernel, by decide +kernel⟩, List.mem_of_getElem? (i := 80) (by decide +kernel), List.mem_of_getElem? (i := 206) (by decide +kernel), List.mem_of_getElem? (i := 207) (by decide +kernel)⟩
theorem lw_p3 : lw_okq (⟨"TimetableDesk$Board", "classPart", "(I)I"⟩, 10) := ⟨⟨by decide +kernel, by decide +kernel⟩, List.mem_of_getElem? (i := 80) (by decide +kernel), List.mem_of_getElem? (i := 216) (by decide +kernel), List.mem_of_getElem? (i := 217) (by decide +kernel)⟩
theorem lw_p4 : lw_okq (⟨"java/lang/Throwable", "fillInStackTrace", "(I)Ljava/lang/Throwable;"⟩, 6) := ⟨⟨by decide +kernel, by decide +kernel⟩, List.mem_of_getElem? (i := 270) (by decide +kernel), List.mem_of_getElem? (i := 268) (by decide +kernel), List.mem_of_getElem? (i := 269) (by decide +kernel)⟩
theorem lw_p5 : lw_okq (⟨"TimetableDesk$Lessons", "add", "(IIIIII)I"⟩, 8) := ⟨⟨by decide +kernel, by decide +kernel⟩, List.mem_of_getElem? (i := 89) (by decide +kernel), List.mem_of_getElem? (i := 328) (by decide +kernel), List.mem_of_getElem? (i := 329) (by decide +kernel)⟩
theorem lw_p6 : lw_okq (⟨"TimetableDesk$Lessons", "hasItem", "(II)Z"⟩, 8) := ⟨⟨by decide +kernel, by decide +kernel⟩, List.mem_of_getElem? (i := 89) (by decide +kernel), List.mem_of_getElem? (i := 354) (by decide +kernel), List.mem_of_getElem? (i := 355) (by decide +kernel)⟩
theorem lw_p7 : lw_okq (⟨"TimetableDesk$Board", "isPlaced", "(I)Z"⟩, 10) := ⟨⟨by decide +kernel, by decide +kernel⟩, List.mem_of_getElem? (i := 80) (by decide +kernel), List.mem_of_getElem? (i := 363) (by decide +kernel), List.mem_of_getElem? (i := 364) (by decide +kernel)⟩
theorem lw_p8 : lw_okq (⟨"TimetableDesk$Journal", "draw", "([I)V"⟩, 3) := ⟨⟨by decide +kernel, by decide +kernel⟩, List.mem_of_getElem? (i := 63) (by decide +kernel), List.mem_of_getElem? (i := 368) (by decide +kernel), List.mem_of_getElem? (i := 369) (by decide +kernel)⟩
theorem lw_p9 : lw_okq (⟨"TimetableDesk$Journal", "startOf", "(I)I"⟩, 3) := ⟨⟨by decide +kernel, by decide +kernel⟩, List.mem_of_getElem? (i := 63) (by decide +kernel), List.mem_of_getElem? (i := 372) (by decide +kernel), List.mem_of_getElem? (i := 373) (by decide +kernel)⟩
theorem lw_p10 : lw_okq (⟨"TimetableDesk$Board", "putByRules", "(II)I"⟩, 10) := ⟨⟨by decide +kernel, by decide +kernel⟩, List.mem_of_getElem? (i := 80) (by decide +kernel), List.mem_of_getElem? (i := 379) (by decide +kernel), List.mem_of_getElem? (i := 380) (by decide +kernel)⟩
theorem lw_p11 : lw_okq (⟨"TimetableDesk$Board", "brokenRule", "(II)I"⟩, 10) := ⟨⟨by decide +kernel, by decide +kernel⟩, List.mem_of_getElem? (i := 80) (by decide +kernel), List.mem_of_getElem? (i := 383) (by decide +kernel), List.mem_of_getElem? (i := 384) (by decide +kernel)⟩
theorem lw_p12 : lw_okq (⟨"TimetableDesk$Lessons", "bitsAt", "(II)I"⟩, 8) := ⟨⟨by decide +kernel, by decide +kernel⟩, List.mem_of_getElem? (i := 89) (by decide +kernel), List.mem_of_getElem? (i := 390) (by decide +kernel), List.mem_of_getElem? (i := 391) (by decide +kernel)⟩
theorem lw_p13 : lw_okq (⟨"TimetableDesk$Board", "eitherClass", "([II)I"⟩, 10) := ⟨⟨by decide +kernel, by decide +kernel⟩, List.mem_of_getElem? (i := 80) (by decide +kernel), List.mem_of_getElem? (i := 394) (by decide +kernel), List.mem_of_getElem? (i := 395) (by decide +kernel)⟩
theorem lw_p14 : lw_okq (⟨"TimetableDesk$Board", "isLessonOnDay", "(II)Z"⟩, 10) := ⟨⟨by decide +kernel, by decide +kernel⟩, List.mem_of_getElem? (i := 80) (by decide +kernel), List.mem_of_getElem? (i := 398) (by decide +kernel), List.mem_of_getElem? (i := 399) (by decide +kernel)⟩
theorem lw_p15 : lw_okq (⟨"TimetableDesk$Board", "isOnDay", "(II)Z"⟩, 10) := ⟨⟨by decide +kernel, by decide +kernel⟩, List.mem_of_getElem? (i := 80) (by decide +kernel), List.mem_of_getElem? (i := 403) (by decide +kernel), List.mem_of_getElem? (i := 404) (by decide +kernel)⟩
def lw_privs_1 : List (MethodName × Nat) := [(⟨"TimetableDesk$Board", "weekPenalty", "()I"⟩, 10), (⟨"TimetableDesk$Board", "teacherPart", "(I)I"⟩, 10), (⟨"TimetableDesk$Board", "gapsIn", "(I)I"⟩, 10), (⟨"TimetableDesk$Board", "classPart", "(I)I"⟩, 10), (⟨"java/lang/Throwable", "fillInStackTrace", "(I)Ljava/lang/Throwable;"⟩, 6), (⟨"TimetableDesk$Lessons", "add", "(IIIIII)I"⟩, 8), (⟨"TimetableDesk$Lessons", "hasItem", "(II)Z"⟩, 8), (⟨"TimetableDesk$Board", "isPlaced", "(I)Z"⟩, 10), (⟨"TimetableDesk$Journal", "draw", "([I)V"⟩, 3), (⟨"TimetableDesk$Journal", "startOf", "(I)I"⟩, 3), (⟨"TimetableDesk$Board", "putByRules", "(II)I"⟩, 10), (⟨"TimetableDesk$Board", "brokenRule", "(II)I"⟩, 10), (⟨"TimetableDesk$Lessons", "bitsAt", "(II)I"⟩, 8), (⟨"TimetableDesk$Board", "eitherClass", "([II)I"⟩, 10), (⟨"TimetableDesk$Board", "isLessonOnDay", "(II)Z"⟩, 10), (⟨"TimetableDesk$Board", "isOnDay", "(II)Z"⟩, 10)]
theorem lw_r1 : ∀ q ∈ lw_privs_1, lw_okq q := List.forall_mem_cons.mpr ⟨lw_p0, List.forall_mem_cons.mpr ⟨lw_p1, List.forall_mem_cons.mpr ⟨lw_p2, List.forall_mem_cons.mpr ⟨lw_p3, List.forall_mem_cons.mpr ⟨lw_p4, List.forall_mem_cons.mpr ⟨lw_p5, List.forall_mem_cons.mpr ⟨lw_p6, List.forall_mem_cons.mpr ⟨lw_p7, List.forall_mem_cons.mpr ⟨lw_p8, List.forall_mem_cons.mpr ⟨lw_p9, List.forall_mem_cons.mpr ⟨lw_p10, List.forall_mem_cons.mpr ⟨lw_p11, List.forall_mem_cons.mpr ⟨lw_p12, List.forall_mem_cons.mpr ⟨lw_p13, List.forall_mem_cons.mpr ⟨lw_p14, List.forall_mem_cons.mpr ⟨lw_p15, fun _ h => absurd h List.not_mem_nil⟩⟩⟩⟩⟩⟩⟩⟩⟩⟩⟩⟩⟩⟩⟩⟩
theorem lw_p16 : lw_okq (⟨"TimetableDesk$Board", "lowestRoom", "(II)I"⟩, 10) := ⟨⟨by decide +kernel, by decide +kernel⟩, List.mem_of_getElem? (i := 80) (by decide +kernel), List.mem_of_getElem? (i := 407) (by decide +kernel), List.mem_of_getElem? (i := 408) (by decide +kernel)⟩
theorem lw_p17 : lw_okq (⟨"TimetableDesk$Board", "putAt", "(II)V"⟩, 10) := ⟨⟨by decide +kernel, by decide +kernel⟩, List.mem_of_getElem? (i := 80) (by decide +kernel), List.mem_of_getElem? (i := 411) (by decide +kernel), List.mem_of_getElem? (i := 412) (by decide +kernel)⟩
theorem lw_p18 : lw_okq (⟨"TimetableDesk$Board", "mark", "(I)V"⟩, 10) := ⟨⟨by decide +kernel, by decide +kernel⟩, List.mem_of_getElem? (i := 80) (by decide +kernel), List.mem_of_getElem? (i := 415) (by decide +kernel), List.mem_of_getElem? (i := 416) (by decide +kernel)⟩
theorem lw_p19 : lw_okq (⟨"TimetableDesk$Journal", "keep", "()V"⟩, 3) := ⟨⟨by decide +kernel, by decide +kernel⟩, List.mem_of_getElem? (i := 63) (by decide +kernel), List.mem_of_getElem? (i := 419) (by decide +kernel), List.mem_of_getElem? (i := 420) (by decide +kernel)⟩
theorem lw_p20 : lw_okq (⟨"TimetableDesk$Board", "periodOfItem", "(I)I"⟩, 10) := ⟨⟨by decide +kernel, by decide +kernel⟩, List.mem_of_getElem? (i := 80) (by decide +kernel), List.mem_of_getElem? (i := 432) (by decide +kernel), List.mem_of_getElem? (i := 433) (by decide +kernel)⟩
theorem lw_p21 : lw_okq (⟨"TimetableDesk$Board", "takeOut", "(I)V"⟩, 10) := ⟨⟨by decide +kernel, by decide +kernel⟩, List.mem_of_getElem? (i := 80) (by decide +kernel), List.mem_of_getElem? (i := 437) (by decide +kernel), List.mem_of_getElem? (i := 438) (by decide +kernel)⟩
theorem lw_p22 : lw_okq (⟨"TimetableDesk$Search", "run", "(LTimetableDesk$Board;I)I"⟩, 4) := ⟨⟨by decide +kernel, by decide +kernel⟩, List.mem_of_getElem? (i := 26) (by decide +kernel), List.mem_of_getElem? (i := 449) (by decide +kernel), List.mem_of_getElem? (i := 450) (by decide +kernel)⟩
theorem lw_p23 : lw_okq (⟨"TimetableDesk$Search", "collect", "(LTimetableDesk$Board;)V"⟩, 4) := ⟨⟨by decide +kernel, by decide +kernel⟩, List.mem_of_getElem? (i := 26) (by decide +kernel), List.mem_of_getElem? (i := 453) (by decide +kernel), List.mem_of_getElem? (i := 454) (by decide +kernel)⟩
theorem lw_p24 : lw_okq (⟨"TimetableDesk$Search", "aim", "(LTimetableDesk$Board;I)V"⟩, 4) := ⟨⟨by decide +kernel, by decide +kernel⟩, List.mem_of_getElem? (i := 26) (by decide +kernel), List.mem_of_getElem? (i := 459) (by decide +kernel), List.mem_of_getElem? (i := 460) (by decide +kernel)⟩
theorem lw_p25 : lw_okq (⟨"TimetableDesk$Search", "tryNext", "(LTimetableDesk$Board;I)Z"⟩, 4) := ⟨⟨by decide +kernel, by decide +kernel⟩, List.mem_of_getElem? (i := 26) (by decide +kernel), List.mem_of_getElem? (i := 467) (by decide +kernel), List.mem_of_getElem? (i := 468) (by decide +kernel)⟩
theorem lw_p26 : lw_okq (⟨"TimetableDesk$Search", "takeAllOut", "(LTimetableDesk$Board;I)V"⟩, 4) := ⟨⟨by decide +kernel, by decide +kernel⟩, List.mem_of_getElem? (i := 26) (by decide +kernel), List.mem_of_getElem? (i := 472) (by decide +kernel), List.mem_of_getElem? (i := 473) (by decide +kernel)⟩
theorem lw_p27 : lw_okq (⟨"TimetableDesk$Board", "roomOfItem", "(I)I"⟩, 10) := ⟨⟨by decide +kernel, by decide +kernel⟩, List.mem_of_getElem? (i := 80) (by decide +kernel), List.mem_of_getElem? (i := 490) (by decide +kernel), List.mem_of_getElem? (i := 491) (by decide +kernel)⟩
theorem lw_p28 : lw_okq (⟨"TimetableDesk$Board", "betterAll", "()Z"⟩, 10) := ⟨⟨by decide +kernel, by decide +kernel⟩, List.mem_of_getElem? (i := 80) (by decide +kernel), List.mem_of_getElem? (i := 502) (by decide +kernel), List.mem_of_getElem? (i := 503) (by decide +kernel)⟩
theorem lw_p29 : lw_okq (⟨"TimetableDesk$Board", "moveToBest", "(I)Z"⟩, 10) := ⟨⟨by decide +kernel, by decide +kernel⟩, List.mem_of_getElem? (i := 80) (by decide +kernel), List.mem_of_getElem? (i := 506) (by decide +kernel), List.mem_of_getElem? (i := 507) (by decide +kernel)⟩
theorem lw_p30 : lw_okq (⟨"TimetableDesk$Board", "partWith", "(II)I"⟩, 10) := ⟨⟨by decide +kernel, by decide +kernel⟩, List.mem_of_getElem? (i := 80) (by decide +kernel), List.mem_of_getElem? (i := 512) (by decide +kernel), List.mem_of_getElem? (i := 513) (by decide +kernel)⟩
theorem lw_p31 : lw_okq (⟨"TimetableDesk$Cover", "find", "(LTimetableDesk$Board;II)V"⟩, 2) := ⟨⟨by decide +kernel, by decide +kernel⟩, List.mem_of_getElem? (i := 48) (by decide +kernel), List.mem_of_getElem? (i := 524) (by decide +kernel), List.mem_of_getElem? (i := 525) (by decide +kernel)⟩
def lw_privs_2 : List (MethodName × Nat) := [(⟨"TimetableDesk$Board", "lowestRoom", "(II)I"⟩, 10), (⟨"TimetableDesk$Board", "putAt", "(II)V"⟩, 10), (⟨"TimetableDesk$Board", "mark", "(I)V"⟩, 10), (⟨"TimetableDesk$Journal", "keep", "()V"⟩, 3), (⟨"TimetableDesk$Board", "periodOfItem", "(I)I"⟩, 10), (⟨"TimetableDesk$Board", "takeOut", "(I)V"⟩, 10), (⟨"TimetableDesk$Search", "run", "(LTimetableDesk$Board;I)I"⟩, 4), (⟨"TimetableDesk$Search", "collect", "(LTimetableDesk$Board;)V"⟩, 4), (⟨"TimetableDesk$Search", "aim", "(LTimetableDesk$Board;I)V"⟩, 4), (⟨"TimetableDesk$Search", "tryNext", "(LTimetableDesk$Board;I)Z"⟩, 4), (⟨"TimetableDesk$Search", "takeAllOut", "(LTimetableDesk$Board;I)V"⟩, 4), (⟨"TimetableDesk$Board", "roomOfItem", "(I)I"⟩, 10), (⟨"TimetableDesk$Board", "betterAll", "()Z"⟩, 10), (⟨"TimetableDesk$Board", "moveToBest", "(I)Z"⟩, 10), (⟨"TimetableDesk$Board", "partWith", "(II)I"⟩, 10), (⟨"TimetableDesk$Cover", "find", "(LTimetableDesk$Board;II)V"⟩, 2)]
theorem lw_r2 : ∀ q ∈ lw_privs_2, lw_okq q := List.forall_mem_cons.mpr ⟨lw_p16, List.forall_mem_cons.mpr ⟨lw_p17, List.forall_mem_cons.mpr ⟨lw_p18, List.forall_mem_cons.mpr ⟨lw_p19, List.forall_mem_cons.mpr ⟨lw_p20, List.forall_mem_cons.mpr ⟨lw_p21, List.forall_mem_cons.mpr ⟨lw_p22, List.forall_mem_cons.mpr ⟨lw_p23, List.forall_mem_cons.mpr ⟨lw_p24, List.forall_mem_cons.mpr ⟨lw_p25, List.forall_mem_cons.mpr ⟨lw_p26, List.forall_mem_cons.mpr ⟨lw_p27, List.forall_mem_cons.mpr ⟨lw_p28, List.forall_mem_cons.mpr ⟨lw_p29, List.forall_mem_cons.mpr ⟨lw_p30, List.forall_mem_cons.mpr ⟨lw_p31, fun _ h => absurd h List.not_mem_nil⟩⟩⟩⟩⟩⟩⟩⟩⟩⟩⟩⟩⟩⟩⟩⟩
theorem lw_p32 : lw_okq (⟨"TimetableDesk$Board", "itemBeginningAt", "(II)I"⟩, 10) := ⟨⟨by decide +kernel, by decide +kernel⟩, List.mem_of_getElem? (i := 80) (by decide +kernel), List.mem_of_getElem? (i := 528) (by decide +kernel), List.mem_of_getElem? (i := 529) (by decide +kernel)⟩
theorem lw_p33 : lw_okq (⟨"TimetableDesk$Board", "bitsOfItem", "(I)I"⟩, 10) := ⟨⟨by decide +kernel, by decide +kernel⟩, List.mem_of_getElem? (i := 80) (by decide +kernel), List.mem_of_getElem? (i := 532) (by decide +kernel), List.mem_of_getElem? (i := 533) (by decide +kernel)⟩
theorem lw_p34 : lw_okq (⟨"TimetableDesk$Cover", "bestFor", "(LTimetableDesk$Board;III)I"⟩, 2) := ⟨⟨by decide +kernel, by decide +kernel⟩, List.mem_of_getElem? (i := 48) (by decide +kernel), List.mem_of_getElem? (i := 536) (by decide +kernel), List.mem_of_getElem? (i := 537) (by decide +kernel)⟩
theorem lw_p35 : lw_okq (⟨"TimetableDesk$Board", "itemsOnDay", "(II)I"⟩, 10) := ⟨⟨by decide +kernel, by decide +kernel⟩, List.mem_of_getElem? (i := 80) (by decide +kernel), List.mem_of_getElem? (i := 540) (by decide +kernel), List.mem_of_getElem? (i := 541) (by decide +kernel)⟩
theorem lw_p36 : lw_okq (⟨"TimetableDesk$Cover", "timesGiven", "(I)I"⟩, 2) := ⟨⟨by decide +kernel, by decide +kernel⟩, List.mem_of_getElem? (i := 48) (by decide +kernel), List.mem_of_getElem? (i := 544) (by decide +kernel), List.mem_of_getElem? (i := 545) (by decide +kernel)⟩
theorem lw_p37 : lw_okq (⟨"TimetableDesk$Journal", "takeBack", "([I)V"⟩, 3) := ⟨⟨by decide +kernel, by decide +kernel⟩, List.mem_of_getElem? (i := 63) (by decide +kernel), List.mem_of_getElem? (i := 579) (by decide +kernel), List.mem_of_getElem? (i := 580) (by decide +kernel)⟩
theorem lw_p38 : lw_okq (⟨"TimetableDesk$Board", "markAllAgain", "()V"⟩, 10) := ⟨⟨by decide +kernel, by decide +kernel⟩, List.mem_of_getElem? (i := 80) (by decide +kernel), List.mem_of_getElem? (i := 583) (by decide +kernel), List.mem_of_getElem? (i := 584) (by decide +kernel)⟩
theorem lw_p39 : lw_okq (⟨"TimetableDesk$Board", "letterAt", "(II)I"⟩, 10) := ⟨⟨by decide +kernel, by decide +kernel⟩, List.mem_of_getElem? (i := 80) (by decide +kernel), List.mem_of_getElem? (i := 596) (by decide +kernel), List.mem_of_getElem? (i := 597) (by decide +kernel)⟩
theorem lw_p40 : lw_okq (⟨"TimetableDesk$Board", "isUsedBy", "(II)Z"⟩, 10) := ⟨⟨by decide +kernel, by decide +kernel⟩, List.mem_of_getElem? (i := 80) (by decide +kernel), List.mem_of_getElem? (i := 601) (by decide +kernel), List.mem_of_getElem? (i := 602) (by decide +kernel)⟩
theorem lw_p41 : lw_okq (⟨"TimetableDeskModel", "throwing", "(ZZ)Z"⟩, 24) := ⟨⟨by decide +kernel, by decide +kernel⟩, List.mem_of_getElem? (i := 606) (by decide +kernel), List.mem_of_getElem? (i := 697) (by decide +kernel), List.mem_of_getElem? (i := 698) (by decide +kernel)⟩
theorem lw_p42 : lw_okq (⟨"TimetableDeskModel", "isPeriod", "(I)Z"⟩, 24) := ⟨⟨by decide +kernel, by decide +kernel⟩, List.mem_of_getElem? (i := 606) (by decide +kernel), List.mem_of_getElem? (i := 709) (by decide +kernel), List.mem_of_getElem? (i := 710) (by decide +kernel)⟩
theorem lw_p43 : lw_okq (⟨"TimetableDeskModel", "itemAt", "(III)I"⟩, 24) := ⟨⟨by decide +kernel, by decide +kernel⟩, List.mem_of_getElem? (i := 606) (by decide +kernel), List.mem_of_getElem? (i := 713) (by decide +kernel), List.mem_of_getElem? (i := 714) (by decide +kernel)⟩
theorem lw_p44 : lw_okq (⟨"TimetableDeskModel", "covers", "(II)Z"⟩, 24) := ⟨⟨by decide +kernel, by decide +kernel⟩, List.mem_of_getElem? (i := 606) (by decide +kernel), List.mem_of_getElem? (i := 717) (by decide +kernel), List.mem_of_getElem? (i := 718) (by decide +kernel)⟩
theorem lw_p45 : lw_okq (⟨"TimetableDeskModel", "isOf", "(III)Z"⟩, 24) := ⟨⟨by decide +kernel, by decide +kernel⟩, List.mem_of_getElem? (i := 606) (by decide +kernel), List.mem_of_getElem? (i := 724) (by decide +kernel), List.mem_of_getElem? (i := 725) (by decide +kernel)⟩
theorem lw_p46 : lw_okq (⟨"TimetableDeskModel", "isItem", "(II)Z"⟩, 24) := ⟨⟨by decide +kernel, by decide +kernel⟩, List.mem_of_getElem? (i := 606) (by decide +kernel), List.mem_of_getElem? (i := 736) (by decide +kernel), List.mem_of_getElem? (i := 737) (by decide +kernel)⟩
theorem lw_p47 : lw_okq (⟨"TimetableDeskModel", "rule", "(II)I"⟩, 24) := ⟨⟨by decide +kernel, by decide +kernel⟩, List.mem_of_getElem? (i := 606) (by decide +kernel), List.mem_of_getElem? (i := 740) (by decide +kernel), List.mem_of_getElem? (i := 741) (by decide +kernel)⟩
def lw_privs_3 : List (MethodName × Nat) := [(⟨"TimetableDesk$Board", "itemBeginningAt", "(II)I"⟩, 10), (⟨"TimetableDesk$Board", "bitsOfItem", "(I)I"⟩, 10), (⟨"TimetableDesk$Cover", "bestFor", "(LTimetableDesk$Board;III)I"⟩, 2), (⟨"TimetableDesk$Board", "itemsOnDay", "(II)I"⟩, 10), (⟨"TimetableDesk$Cover", "timesGiven", "(I)I"⟩, 2), (⟨"TimetableDesk$Journal", "takeBack", "([I)V"⟩, 3), (⟨"TimetableDesk$Board", "markAllAgain", "()V"⟩, 10), (⟨"TimetableDesk$Board", "letterAt", "(II)I"⟩, 10), (⟨"TimetableDesk$Board", "isUsedBy", "(II)Z"⟩, 10), (⟨"TimetableDeskModel", "throwing", "(ZZ)Z"⟩, 24), (⟨"TimetableDeskModel", "isPeriod", "(I)Z"⟩, 24), (⟨"TimetableDeskModel", "itemAt", "(III)I"⟩, 24), (⟨"TimetableDeskModel", "covers", "(II)Z"⟩, 24), (⟨"TimetableDeskModel", "isOf", "(III)Z"⟩, 24), (⟨"TimetableDeskModel", "isItem", "(II)Z"⟩, 24), (⟨"TimetableDeskModel", "rule", "(II)I"⟩, 24)]
theorem lw_r3 : ∀ q ∈ lw_privs_3, lw_okq q := List.forall_mem_cons.mpr ⟨lw_p32, List.forall_mem_cons.mpr ⟨lw_p33, List.forall_mem_cons.mpr ⟨lw_p34, List.forall_mem_cons.mpr ⟨lw_p35, List.forall_mem_cons.mpr ⟨lw_p36, List.forall_mem_cons.mpr ⟨lw_p37, List.forall_mem_cons.mpr ⟨lw_p38, List.forall_mem_cons.mpr ⟨lw_p39, List.forall_mem_cons.mpr ⟨lw_p40, List.forall_mem_cons.mpr ⟨lw_p41, List.forall_mem_cons.mpr ⟨lw_p42, List.forall_mem_cons.mpr ⟨lw_p43, List.forall_mem_cons.mpr ⟨lw_p44, List.forall_mem_cons.mpr ⟨lw_p45, List.forall_mem_cons.mpr ⟨lw_p46, List.forall_mem_cons.mpr ⟨lw_p47, fun _ h => absurd h List.not_mem_nil⟩⟩⟩⟩⟩⟩⟩⟩⟩⟩⟩⟩⟩⟩⟩⟩
theorem lw_p48 : lw_okq (⟨"TimetableDeskModel", "anyBlocked", "(IIII)Z"⟩, 24) := ⟨⟨by decide +kernel, by decide +kernel⟩, List.mem_of_getElem? (i := 606) (by decide +kernel), List.mem_of_getElem? (i := 744) (by decide +kernel), List.mem_of_getElem? (i := 745) (by decide +kernel)⟩
theorem lw_p49 : lw_okq (⟨"TimetableDeskModel", "isBlocked", "(III)Z"⟩, 24) := ⟨⟨by decide +kernel, by decide +kernel⟩, List.mem_of_getElem? (i := 606) (by decide +kernel), List.mem_of_getElem? (i := 748) (by decide +kernel), List.mem_of_getElem? (i := 749) (by decide +kernel)⟩
theorem lw_p50 : lw_okq (⟨"TimetableDeskModel", "anyItem", "(IIII)Z"⟩, 24) := ⟨⟨by decide +kernel, by decide +kernel⟩, List.mem_of_getElem? (i := 606) (by decide +kernel), List.mem_of_getElem? (i := 752) (by decide +kernel), List.mem_of_getElem? (i := 753) (by decide +kernel)⟩
theorem lw_p51 : lw_okq (⟨"TimetableDeskModel", "freeRoom", "(II)I"⟩, 24) := ⟨⟨by decide +kernel, by decide +kernel⟩, List.mem_of_getElem? (i := 606) (by decide +kernel), List.mem_of_getElem? (i := 756) (by decide +kernel), List.mem_of_getElem? (i := 757) (by decide +kernel)⟩
theorem lw_p52 : lw_okq (⟨"TimetableDeskModel", "keep", "()V"⟩, 24) := ⟨⟨by decide +kernel, by decide +kernel⟩, List.mem_of_getElem? (i := 606) (by decide +kernel), List.mem_of_getElem? (i := 760) (by decide +kernel), List.mem_of_getElem? (i := 761) (by decide +kernel)⟩
theorem lw_p53 : lw_okq (⟨"TimetableDeskModel", "put", "(II)V"⟩, 24) := ⟨⟨by decide +kernel, by decide +kernel⟩, List.mem_of_getElem? (i := 606) (by decide +kernel), List.mem_of_getElem? (i := 764) (by decide +kernel), List.mem_of_getElem? (i := 765) (by decide +kernel)⟩
theorem lw_p54 : lw_okq (⟨"TimetableDeskModel", "note", "()V"⟩, 24) := ⟨⟨by decide +kernel, by decide +kernel⟩, List.mem_of_getElem? (i := 606) (by decide +kernel), List.mem_of_getElem? (i := 768) (by decide +kernel), List.mem_of_getElem? (i := 769) (by decide +kernel)⟩
theorem lw_p55 : lw_okq (⟨"TimetableDeskModel", "out", "(I)V"⟩, 24) := ⟨⟨by decide +kernel, by decide +kernel⟩, List.mem_of_getElem? (i := 606) (by decide +kernel), List.mem_of_getElem? (i := 776) (by decide +kernel), List.mem_of_getElem? (i := 777) (by decide +kernel)⟩
theorem lw_p56 : lw_okq (⟨"TimetableDeskModel", "restore", "()V"⟩, 24) := ⟨⟨by decide +kernel, by decide +kernel⟩, List.mem_of_getElem? (i := 606) (by decide +kernel), List.mem_of_getElem? (i := 784) (by decide +kernel), List.mem_of_getElem? (i := 785) (by decide +kernel)⟩
theorem lw_p57 : lw_okq (⟨"TimetableDeskModel", "penaltyNow", "()I"⟩, 24) := ⟨⟨by decide +kernel, by decide +kernel⟩, List.mem_of_getElem? (i := 606) (by decide +kernel), List.mem_of_getElem? (i := 804) (by decide +kernel), List.mem_of_getElem? (i := 805) (by decide +kernel)⟩
theorem lw_p58 : lw_okq (⟨"TimetableDeskModel", "gaps", "(III)I"⟩, 24) := ⟨⟨by decide +kernel, by decide +kernel⟩, List.mem_of_getElem? (i := 606) (by decide +kernel), List.mem_of_getElem? (i := 808) (by decide +kernel), List.mem_of_getElem? (i := 809) (by decide +kernel)⟩
theorem lw_p59 : lw_okq (⟨"TimetableDeskModel", "move", "(I)Z"⟩, 24) := ⟨⟨by decide +kernel, by decide +kernel⟩, List.mem_of_getElem? (i := 606) (by decide +kernel), List.mem_of_getElem? (i := 816) (by decide +kernel), List.mem_of_getElem? (i := 817) (by decide +kernel)⟩
theorem lw_p60 : lw_okq (⟨"TimetableDeskModel", "mayTake", "(II)Z"⟩, 24) := ⟨⟨by decide +kernel, by decide +kernel⟩, List.mem_of_getElem? (i := 606) (by decide +kernel), List.mem_of_getElem? (i := 824) (by decide +kernel), List.mem_of_getElem? (i := 825) (by decide +kernel)⟩
theorem lw_p61 : lw_okq (⟨"TimetableDeskModel", "load", "(II)I"⟩, 24) := ⟨⟨by decide +kernel, by decide +kernel⟩, List.mem_of_getElem? (i := 606) (by decide +kernel), List.mem_of_getElem? (i := 828) (by decide +kernel), List.mem_of_getElem? (i := 829) (by decide +kernel)⟩
def lw_privs_4 : List (MethodName × Nat) := [(⟨"TimetableDeskModel", "anyBlocked", "(IIII)Z"⟩, 24), (⟨"TimetableDeskModel", "isBlocked", "(III)Z"⟩, 24), (⟨"TimetableDeskModel", "anyItem", "(IIII)Z"⟩, 24), (⟨"TimetableDeskModel", "freeRoom", "(II)I"⟩, 24), (⟨"TimetableDeskModel", "keep", "()V"⟩, 24), (⟨"TimetableDeskModel", "put", "(II)V"⟩, 24), (⟨"TimetableDeskModel", "note", "()V"⟩, 24), (⟨"TimetableDeskModel", "out", "(I)V"⟩, 24), (⟨"TimetableDeskModel", "restore", "()V"⟩, 24), (⟨"TimetableDeskModel", "penaltyNow", "()I"⟩, 24), (⟨"TimetableDeskModel", "gaps", "(III)I"⟩, 24), (⟨"TimetableDeskModel", "move", "(I)Z"⟩, 24), (⟨"TimetableDeskModel", "mayTake", "(II)Z"⟩, 24), (⟨"TimetableDeskModel", "load", "(II)I"⟩, 24)]
theorem lw_r4 : ∀ q ∈ lw_privs_4, lw_okq q := List.forall_mem_cons.mpr ⟨lw_p48, List.forall_mem_cons.mpr ⟨lw_p49, List.forall_mem_cons.mpr ⟨lw_p50, List.forall_mem_cons.mpr ⟨lw_p51, List.forall_mem_cons.mpr ⟨lw_p52, List.forall_mem_cons.mpr ⟨lw_p53, List.forall_mem_cons.mpr ⟨lw_p54, List.forall_mem_cons.mpr ⟨lw_p55, List.forall_mem_cons.mpr ⟨lw_p56, List.forall_mem_cons.mpr ⟨lw_p57, List.forall_mem_cons.mpr ⟨lw_p58, List.forall_mem_cons.mpr ⟨lw_p59, List.forall_mem_cons.mpr ⟨lw_p60, List.forall_mem_cons.mpr ⟨lw_p61, fun _ h => absurd h List.not_mem_nil⟩⟩⟩⟩⟩⟩⟩⟩⟩⟩⟩⟩⟩⟩
def lw_privs : List (MethodName × Nat) := lw_privs_1 ++ (lw_privs_2 ++ (lw_privs_3 ++ (lw_privs_4)))
def lw_tbl : List Cond := k2_sels lw_privs ++ tables_1
theorem lw_privs_ok : ∀ q ∈ lw_privs, lw_okq q := by
  show ∀ q ∈ lw_privs_1 ++ (lw_privs_2 ++ (lw_privs_3 ++ (lw_privs_4))), lw_okq q
  exact List.forall_mem_append.mpr ⟨lw_r1, List.forall_mem_append.mpr ⟨lw_r2, List.forall_mem_append.mpr ⟨lw_r3, lw_r4⟩⟩⟩
end
section
/-! a thrown object and the rows of a method's table: own rows (the library's are in the part of it that rounds don't have) -/
def ct_Pass (pl : Platform) (s0 : State) (d : ClassId) (pc : Nat) (thrown : ClassId) (y : ExceptionTableEntry) : Prop :=
  covers y pc = false ∨ (y.catchType ≠ 0 ∧ ∃ c, s0.vm.ClassLinks pl d y.catchType c ∧ s0.vm.assignable thrown c = false)
def ct_Take (pl : Platform) (s0 : State) (d : ClassId) (thrown : ClassId) (x : ExceptionTableEntry) : Prop :=
  x.catchType = 0 ∨ (x.catchType ≠ 0 ∧ ∃ c, s0.vm.ClassLinks pl d x.catchType c ∧ s0.vm.assignable thrown c = true)
section CT
variable {E : CtlPost} {e : Env} {d : Bool} {acts : List Action} {s : State} {f : JFrame} {a : Addr} {Q : Handler → Pre}
/-- one row that names a class: it takes the object, or the search goes on; either way the class is noted -/
theorem ct_row {x : ExceptionTableEntry} {t : List ExceptionTableEntry} {c : ClassId} {cell : Cell} (hx : covers x f.pc = true) (h0 : x.catchType ≠ 0)
    (hl : s.vm.ClassLinks e.platform f.method.cls x.catchType c) (hcell : s.heap[a]? = some cell) (hobj : ∀ k, cell.vm ≠ .statics k)
    (hk : ∃ k, s.vm.classes[cell.cls]? = some k) (hc : ∃ k, s.vm.classes[c]? = some k) :
    wp (findHandler.go f a (x :: t)) Q E e d acts s ↔ if s.vm.assignable cell.cls c = true then Q (.found x.handlerPc) d acts (s.setVm (s.vm.noted f.method.cls x.catchType (.cls c))) else wp (findHandler.go f a t) Q E e d acts (s.setVm (s.vm.noted f.method.cls x.catchType (.cls c))) := by
  simp only [covers] at hx
  obtain ⟨ha, ht⟩ := (resolveClass_links e.toSetting hl).op (op := VmOp.resolveClass f.method.cls x.catchType) rfl
  have hal : s.vm.Alike (s.vm.noted f.method.cls x.catchType (.cls c)) := (Vm.Alike.refl s.vm).noted _ _ _
  obtain ⟨k1, hk1⟩ := hk
  obtain ⟨k2, hk2⟩ := hc
  obtain ⟨k1', hk1', -⟩ := hal.2.2 _ _ hk1
  obtain ⟨k2', hk2', -⟩ := hal.2.2 _ _ hk2
  have has := hal.assignable (s := cell.cls) (t := c)
  cases hfit : s.vm.assignable cell.cls c <;> rw [hfit] at has <;>
    simp [findHandler.go, hx, h0, ha, ht, hcell, hobj, hk1', hk2', has, VmOp.dirties, VmOp.acts]
end CT
theorem ct_go {e : Env} {s0 : State} {f : JFrame} {a : Addr} {cell : Cell} (hobj : ∀ k, cell.vm ≠ .statics k) (hk0 : ∃ k, s0.vm.classes[cell.cls]? = some k)
    (x : ExceptionTableEntry) (suf : List ExceptionTableEntry) (hx : covers x f.pc = true) (hend : ct_Take e.platform s0 f.method.cls cell.cls x) :
    ∀ (pre : List ExceptionTableEntry) (S : State), s0.WarmedH S.vm → S.heap[a]? = some cell → (∀ y ∈ pre, ct_Pass e.platform s0 f.method.cls f.pc cell.cls y) →
      ∃ vm', s0.WarmedH vm' ∧ ∀ (Q : Handler → Pre) (E : CtlPost) (d : Bool) (acts : List Action), wp (findHandler.go f a (pre ++ x :: suf)) Q E e d acts S ↔ Q (.found x.handlerPc) d acts (S.setVm vm') := by
  intro pre
  induction pre with
  | nil =>
    intro S hW hcell _
    rw [List.nil_append]
    rcases hend with h0 | ⟨h0, c, hl, hfit⟩
    · exact ⟨S.vm, hW, fun Q E d acts => by rw [W.findHandler_go_any hx h0, State.setVm_self]⟩
    · obtain ⟨k0, hk0⟩ := hk0
      obtain ⟨k0', hk0', -⟩ := hW.alike.2.2 _ _ hk0
      obtain ⟨dk, _, _, kt, hd, _, _, _, _, hkt, _, hopen⟩ := hl.here
      obtain ⟨kt', hkt', -⟩ := hW.alike.2.2 _ _ hkt
      refine ⟨_, hW.noted hd hopen (State.rightAt_cls hl), fun Q E d acts => ?_⟩
      rw [ct_row hx h0 (hW.classLinks hl) hcell hobj ⟨k0', hk0'⟩ ⟨kt', hkt'⟩, if_pos (by rw [hW.alike.assignable]; exact hfit)]
  | cons y ys ih =>
    intro S hW hcell hpass
    have hrest : ∀ z ∈ ys, ct_Pass e.platform s0 f.method.cls f.pc cell.cls z := fun z hz => hpass z (List.mem_cons_of_mem _ hz)
    rw [List.cons_append]
    cases hcov : covers y f.pc with
    | false =>
      obtain ⟨vm', hW', hq⟩ := ih S hW hcell hrest
      exact ⟨vm', hW', fun Q E d acts => by rw [W.findHandler_go_skip hcov]; exact hq Q E d acts⟩
    | true =>
      rcases hpass y List.mem_cons_self with h | ⟨h0, c, hl, hno⟩
      · rw [h] at hcov; cases hcov
      · obtain ⟨k0, hk0'⟩ := hk0
        obtain ⟨k1, hk1, -⟩ := hW.alike.2.2 _ _ hk0'
        obtain ⟨dk, _, _, kt, hd, _, _, _, _, hkt, _, hopen⟩ := hl.here
        obtain ⟨kt', hkt', -⟩ := hW.alike.2.2 _ _ hkt
        obtain ⟨vm', hW', hq⟩ := ih (S.setVm (S.vm.noted f.method.cls y.catchType (.cls c))) (hW.noted hd hopen (State.rightAt_cls hl)) hcell hrest
        refine ⟨vm', hW', fun Q E d acts => ?_⟩
        rw [ct_row hcov h0 (hW.classLinks hl) hcell hobj ⟨k1, hk1⟩ ⟨kt', hkt'⟩, if_neg (by rw [hW.alike.assignable, hno]; exact fun h => by cases h)]
        exact hq Q E d acts
theorem ct_frames (u : State) (vm' : Vm) (F G : List Frame) : ((u.setFrames F).setVm vm').setFrames G = (u.setVm vm').setFrames G := by
  rw [show (u.setFrames F).setVm vm' = (u.setVm vm').setFrames F from rfl, State.setFrames_setFrames]
/-- thrown over the frame g, caught by the row x: the frame goes on at the row's handler -/
theorem ct_through {p : Program} {l : Launch} {e : Env} {R : Room} {s : State} {m : MethodId} {args : Array Value} {below : List Frame} {meth : Method} {c : Code} {T : State} {locs : List Loc} {cells slots : Nat}
    (X : Stand p l e R s m args below meth c T locs cells slots) (a : Addr) {g : JFrame} (hg : g.method = m) {s0 : State} (hcome : Steps p.tables e below s0 ((T.setTop g).pushFrame (.throwing a)))
    {cell : Cell} (hcell : T.heap[a]? = some cell) (hobj : cell.vm.isStatics = false) (hk0 : ∃ k, s.vm.classes[cell.cls]? = some k)
    (pre : List ExceptionTableEntry) (x : ExceptionTableEntry) (suf : List ExceptionTableEntry) (hsplit : c.exceptionTable.toList = pre ++ x :: suf)
    (hpass : ∀ y ∈ pre, ct_Pass e.platform s m.cls g.pc cell.cls y) (hx : covers x g.pc = true) (hend : ct_Take e.platform s m.cls cell.cls x) :
    ∃ vm', Stand p l e R s m args below meth c (T.setVm vm') locs cells slots ∧ Steps p.tables e below s0 ((T.setVm vm').setTop { g with pc := x.handlerPc, stack := [.ref a] }) := by
  subst hg
  obtain ⟨vm', hW', hq⟩ := ct_go (e := e) (s0 := s) (f := g) (a := a) (cell := cell) (VmData.ne_statics_of hobj) hk0 x suf hx hend pre ((T.setTop g).pushFrame (.throwing a)) X.warmed hcell hpass
  refine ⟨vm', X.noted hW', hcome.trans ?_⟩
  have h := X.here
  obtain ⟨hgo, hw⟩ := h.throwing a
  refine Steps.head hgo hw ?_
  have hfind : ∀ (Q : Handler → Pre) (E : CtlPost) (d : Bool) (acts : List Action), wp (findHandler g a) Q E e d acts ((T.setTop g).pushFrame (.throwing a)) ↔ Q (.found x.handlerPc) d acts (((T.setTop g).pushFrame (.throwing a)).setVm vm') := fun Q E d acts => by
    rw [W.findHandler_eq (s := (T.setTop g).pushFrame (.throwing a)) X.method' X.code, hsplit]
    exact hq Q E d acts
  have hstep : ∀ r, (stepThrowing e ((T.setTop g).pushFrame (.throwing a)) a (.java g :: r)).Is ((((T.setTop g).pushFrame (.throwing a)).setVm vm').setFrames (.java { g with pc := x.handlerPc, stack := [.ref a] } :: r)) [] := by
    intro r
    simp only [stepThrowing, searchFrame, vmDo]
    generalize hr : Sem.go _ e false [] ((T.setTop g).pushFrame (.throwing a)) = res
    obtain ⟨as, rfl, ha⟩ := Sem.eq_ok_of hr (a := Handler.found x.handlerPc) (s' := ((T.setTop g).pushFrame (.throwing a)).setVm vm') (acts' := []) (by simp [hfind _ _ _ _])
    exact ⟨rfl, ha⟩
  rw [stepThread_throwing (frames_entered h.top _), (hstep _).1]
  obtain ⟨g0, hg0⟩ := Option.isSome_iff_exists.mp h.top
  obtain ⟨r, hr⟩ := State.topJava?_eq_some.mp hg0
  have hr' : (T.setVm vm').frames = .java g0 :: r := hr
  rw [State.setTop_of_frames _ hr', hr, List.tail_cons, State.pushFrame, ct_frames, State.setTop_of_frames _ hr, ct_frames]
  exact Steps.refl _
end
section
/-! ===== BEGIN words of one list among another's, by their places ===== -/
theorem goodIn_r {big : List Cond} (ws : List Cond) (ps : List Nat) (hp : ws = ps.filterMap (fun i => big[i]?)) (h : ws.all goodWord = true) : GoodIn big ws := by
  intro w hw
  have h1 := List.all_eq_true.mp h w hw
  rw [hp] at hw
  obtain ⟨i, -, hi⟩ := List.mem_filterMap.mp hw
  have hm : w ∈ big := by first | exact List.mem_of_getElem? hi | exact List.getElem?_mem hi
  exact ⟨hm, good_of_word h1⟩
theorem goodIn_app {big a b : List Cond} (ha : GoodIn big a) (hb : GoodIn big b) : GoodIn big (a ++ b) := fun w h => (List.mem_append.mp h).elim (ha w) (hb w)
theorem goodIn_ca {big a b : List Cond} {c : Cond} (ha : GoodIn big (c :: a)) (hb : GoodIn big b) : GoodIn big (c :: (a ++ b)) := fun w h => (List.mem_cons.mp h).elim (fun e => ha w (List.mem_cons.mpr (Or.inl e))) (fun h => (List.mem_append.mp h).elim (fun h => ha w (List.mem_cons.mpr (Or.inr h))) (hb w))
theorem goodIn_sub {big ws : List Cond} (hm : ∀ w ∈ ws, w ∈ big) (h : ws.all goodWord = true) : GoodIn big ws := fun w hw => ⟨hm w hw, good_of_word (List.all_eq_true.mp h w hw)⟩
/-! ===== END ===== -/

/-! ===== BEGIN exceptions that leave a method, and their catching by the caller (launches without stack traces) ===== -/
section VXA
/-! The laws vx_back, vx_callV, vx_callS, vx_callSW, vx_throw0, vx_throwS follow proofs of the library, with one case more: JvmDerived/Free/Laws.lean (Back.of_free), Shelf42/LK1.lean (callV, callS), Shelf/KitTraced.lean (throwNew0V, throwNewS). -/
/-- where a method has thrown q: the class by its name, the cell, what was written, the world -/
def vx_T (XC : String → State → State → Prop) (st : State) (q : Addr) (t : State) (mc ms : Nat) (free : Addr → Prop) : Prop :=
  ∃ (E : String) (ce : Cell) (L : List Loc), XC E st t ∧ t.heap[q]? = some ce ∧ ce.vm = .none ∧ st.vm.findClass E = some ce.cls ∧ st.WarmedH t.vm ∧ st.sameButNew ({ t with vm := st.vm } : State) L mc ms ∧ ∀ z ∈ L, free z.base
def vx_Q (Qc : Array Value → State → Outcome → State → Prop) (XC : String → State → State → Prop) (mc ms : Nat) (free : Addr → Prop) : Array Value → State → Outcome → State → Prop := fun a st o t =>
  (Qc a st o t ∧ ∃ L, FrameEnd st o t L mc ms ∧ ∀ q ∈ L, free q.base) ∨ ∃ q, o = .threw q ∧ vx_T XC st q t mc ms free
/-- a callee that returns or throws -/
def vx_Met (l : Launch) (y : MethodName) (ws : List Cond) (rm : Room) (Pc : Array Value → State → Prop) (Qc : Array Value → State → Outcome → State → Prop) (XC : String → State → State → Prop) (mc ms : Nat) (free : Addr → Prop) : Prop :=
  MetFree l y (headSpec ws rm) Pc (fun _ _ _ _ _ => True) (vx_Q Qc XC mc ms free)
def vx_Post (XC : String → State → State → Prop) (mc ms : Nat) (free : Addr → Prop) : Pt → Array Value → Addr → Pt → Prop := fun A a q B =>
  ∃ (g : JFrame) (mk : MethodId) (t : State) (L : List Loc) (E : String) (ce : Cell), B.U.heap = t.heap ∧ B.U.vm = t.vm ∧ XC E (A.U.calling g mk a) t ∧ t.heap[q]? = some ce ∧ ce.vm = .none ∧ A.U.vm.findClass E = some ce.cls ∧ B.locs = A.locs ++ L ∧ (∀ z ∈ L, free z.base) ∧ B.cells = A.cells + mc ∧ B.slots = A.slots + ms
def vx_Back (l : Launch) (R : Room) (p : Program) (e : Env) (below : List Frame) (s : State) (sargs : Array Value) (y : MethodName) (len W9 : Nat)
    (Pre : Pt → Array Value → Prop) (Post : Pt → Array Value → Option Value → Pt → Prop) (PostX : Pt → Array Value → Addr → Pt → Prop) : Prop :=
  ∀ (m : MethodId) (meth : Method) (c : Code) (A : Pt) (g : JFrame) (ig : Instr) (mk : MethodId) (a : Array Value),
    Stand p l e R s m sargs below meth c A.U A.locs A.cells A.slots → g.method = m → g.locals.size = c.maxLocals → decode c.code g.pc = .ok (ig, len) →
    2 * g.monitorRoom + (g.stack.map fun v => v.category).sum ≤ W9 → A.U.methodNamed? y = some mk → Pre A a →
    (∃ (v : Option Value) (B : Pt), Stand p l e R s m sargs below meth c B.U B.locs B.cells B.slots ∧ Post A a v B ∧
      Steps p.tables e below (doInvoke e (A.U.setTop g) [] mk a).1 (B.U.setTop { g with pc := g.pc + len, stack := v.toList ++ g.stack })) ∨
    (∃ (q : Addr) (B : Pt), Stand p l e R s m sargs below meth c B.U B.locs B.cells B.slots ∧ PostX A a q B ∧
      Steps p.tables e below (doInvoke e (A.U.setTop g) [] mk a).1 ((B.U.setTop g).pushFrame (.throwing q)))
section Payer
variable {l : Launch} {R : Room} {p : Program} {e : Env} {below : List Frame} {s : State} {sargs : Array Value} {y : MethodName} {len W9 : Nat}
theorem vx_back {ws : List Cond} {rm : Room} {Pc : Array Value → State → Prop} {Qc : Array Value → State → Outcome → State → Prop} {XC : String → State → State → Prop} {mc ms : Nat} {free : Addr → Prop} {bytes : ByteArray} {maxL : Nat} {ret : Option FieldType}
    (hM : vx_Met l y ws rm Pc Qc XC mc ms free) (hblind : FrameBlind Pc) (hrc : rm.cells = mc) (hrs : rm.slots = ms)
    (hframes : rm.frames + 1 ≤ R.frames) (hlocals : W9 + (maxL + 11) + rm.locals ≤ R.locals)
    (hws : ∀ w ∈ ws, ∀ a' U, s.WarmedH U.vm → w.before a' U = true) (hcode : Cond.code y bytes maxL ret ∈ ws) (hinit : ∀ a' U, s.WarmedH U.vm → (Cond.initialized y.cls).before a' U = true) :
    vx_Back l R p e below s sargs y len W9 (PreOf R mc ms Pc) (PostOf Qc mc ms free) (vx_Post XC mc ms free) := by
  intro m meth c A g ig mk a X hg hsize hdg hW hn hp
  have h1 : (headSpec ws rm).pre.before a A.U = true := atoms_intro fun w hw => hws w hw _ _ X.warmed
  have h2 : (Cond.code y bytes maxL ret).before a A.U = true := hws _ hcode _ _ X.warmed
  have h3 : (Cond.initialized y.cls).before a A.U = true := hinit _ _ X.warmed
  have h4 : A.cells + (headSpec ws rm).room.cells ≤ R.cells := by rw [show (headSpec ws rm).room.cells = mc from hrc]; exact hp.1
  have h5 : A.slots + (headSpec ws rm).room.slots ≤ R.slots := by rw [show (headSpec ws rm).room.slots = ms from hrs]; exact hp.2.1
  have hPc : Pc a (A.U.calling g mk a) := hblind _ _ _ _ hp.2.2
  obtain ⟨U, Ls, c0, s0⟩ := A
  dsimp only [Pt.U, Pt.locs, Pt.cells, Pt.slots] at h1 h2 h3 h4 h5 X hn hPc ⊢
  obtain ⟨methY, cY, hmY, hcY, -, hlY, -, -, -, -⟩ := Cond.code_spec hn h2
  obtain ⟨kY, hkY, -⟩ := className_of_methodNamed hn
  have hinitY : kY.init = .initialized := Cond.initialized_spec (findClass_of_methodNamed hn) hkY h3
  have h : At U g.method c below := by rw [hg]; exact X.here
  have hlocals9 : W9 + (maxL + 11) + (headSpec ws rm).room.locals ≤ R.locals := hlocals
  have happ : (headSpec ws rm).appliesLoose y e.platform (U.calling g mk a) = true :=
    Spec.appliesLoose_calling (g := g) h hdg hn hkY hinitY
      (X.room_calling (g := g) (R' := (headSpec ws rm).room) hsize hmY hcY hframes (by rw [hlY]; omega) h4 h5) h1
  obtain ⟨mid, hmid⟩ := h.above
  have hfr : (U.setTop g).frames = (.java g :: mid) ++ below := by rw [State.frames_setTop' g h.top, hmid]; rfl
  obtain ⟨o, s₂, hsteps, -, hend, hq⟩ := Steps.callFree hM p X.admits X.cas X.clock (acts := []) hfr happ hPc trivial
  have hq' : vx_Q Qc XC mc ms free a (U.calling g mk a) o s₂ := hq
  rw [State.frames_setTop' g h.top] at hend
  obtain ⟨g₀, hg0⟩ := Option.isSome_iff_exists.mp h.top
  obtain ⟨r, hr⟩ := State.topJava?_eq_some.mp hg0
  have hr' : (({ U with heap := s₂.heap, slotsUsed := s₂.slotsUsed } : State).setVm s₂.vm).frames = .java g₀ :: r := hr
  rcases hq' with ⟨hqc, L, hfe, hL⟩ | ⟨q, rfl, E, ce, L, hx, hce, hcv, hcl, hW₂, hsm, hL⟩
  · obtain ⟨⟨v, rfl⟩, hW₂, e2, q2, q3, q4, q5, q6⟩ := id hfe
    have e3 : s₂ = ({ (U.calling g mk a).setFrames s₂.frames with heap := s₂.heap, slotsUsed := s₂.slotsUsed } : State).setVm s₂.vm := by
      have : s₂ = ({ s₂ with vm := (U.calling g mk a).vm } : State).setVm s₂.vm := rfl
      rw [e2] at this
      exact this
    obtain ⟨c₂, i₂, len₂, hc₂, hd₂, hf₂⟩ := hend
    have hW' : U.WarmedH s₂.vm := hW₂
    have hcc : c₂ = c := by
      have h1 : s₂.code? g.method = U.code? g.method := by
        rw [State.code?_eq, State.code?_eq, hW'.alike.method?]
      exact Option.some.inj (hc₂.symm.trans (h1.trans h.code))
    subst hcc
    have hlen : len₂ = len := by rw [hdg] at hd₂; cases hd₂; rfl
    subst hlen
    have hs₂ : s₂ = (({ U with heap := s₂.heap, slotsUsed := s₂.slotsUsed } : State).setVm s₂.vm).setTop { g with pc := g.pc + len₂, stack := v.toList ++ g.stack } := by
      refine e3.trans ?_
      rw [hf₂, State.calling_eq h.top, State.setFrames_setFrames, State.setTop_of_frames _ hr', hr]
      rfl
    have hsame : U.sameButNew ({ U with heap := s₂.heap, slotsUsed := s₂.slotsUsed } : State) L mc ms := by
      refine ⟨?_, q2, q3, q4, q5, q6⟩
      obtain ⟨t, ht, -⟩ := State.frames_cons hr
      show ({ U with heap := s₂.heap, slotsUsed := s₂.slotsUsed } : State) = { U.setFrames U.frames with heap := s₂.heap, slotsUsed := s₂.slotsUsed }
      rw [State.setFrames_self ht]
    subst hg
    refine Or.inl ⟨v, ⟨(({ U with heap := s₂.heap, slotsUsed := s₂.slotsUsed } : State).setVm s₂.vm), Ls ++ L, c0 + mc, s0 + ms⟩,
      ⟨X.admits, X.cas, X.clock, X.frames, X.room, X.hears, X.method, X.code, (X.here.setHeapUsed s₂.heap s₂.slotsUsed).setVm hW'.alike, X.tail, State.WarmedH.trans X.warmed hW', X.limits, X.bytes, X.same.trans (hsame.setVm s.vm)⟩,
      ⟨g, mk, s₂, L, rfl, rfl, hqc, rfl, hL, rfl, rfl⟩, ?_⟩
    show Steps p.tables e below _ ((({ U with heap := s₂.heap, slotsUsed := s₂.slotsUsed } : State).setVm s₂.vm).setTop { g with pc := g.pc + len₂, stack := v.toList ++ g.stack })
    rw [← hs₂]
    exact hsteps
  · obtain ⟨e2, q2, q3, q4, q5, q6⟩ := id hsm
    have e3 : s₂ = ({ (U.calling g mk a).setFrames s₂.frames with heap := s₂.heap, slotsUsed := s₂.slotsUsed } : State).setVm s₂.vm := by
      have : s₂ = ({ s₂ with vm := (U.calling g mk a).vm } : State).setVm s₂.vm := rfl
      rw [e2] at this
      exact this
    have hf₂ : s₂.frames = .throwing q :: .java g :: U.frames.tail := hend
    have hW' : U.WarmedH s₂.vm := hW₂
    have hs₂ : s₂ = ((({ U with heap := s₂.heap, slotsUsed := s₂.slotsUsed } : State).setVm s₂.vm).setTop g).pushFrame (.throwing q) := by
      refine e3.trans ?_
      rw [hf₂, State.calling_eq h.top, State.setFrames_setFrames, State.pushFrame, State.frames_setTop _ hr', State.setTop_of_frames _ hr', State.setFrames_setFrames, hr]
      rfl
    have hsame : U.sameButNew ({ U with heap := s₂.heap, slotsUsed := s₂.slotsUsed } : State) L mc ms := by
      refine ⟨?_, q2, q3, q4, q5, q6⟩
      obtain ⟨t, ht, -⟩ := State.frames_cons hr
      show ({ U with heap := s₂.heap, slotsUsed := s₂.slotsUsed } : State) = { U.setFrames U.frames with heap := s₂.heap, slotsUsed := s₂.slotsUsed }
      rw [State.setFrames_self ht]
    subst hg
    refine Or.inr ⟨q, ⟨(({ U with heap := s₂.heap, slotsUsed := s₂.slotsUsed } : State).setVm s₂.vm), Ls ++ L, c0 + mc, s0 + ms⟩,
      ⟨X.admits, X.cas, X.clock, X.frames, X.room, X.hears, X.method, X.code, (X.here.setHeapUsed s₂.heap s₂.slotsUsed).setVm hW'.alike, X.tail, State.WarmedH.trans X.warmed hW', X.limits, X.bytes, X.same.trans (hsame.setVm s.vm)⟩,
      ⟨g, mk, s₂, L, E, ce, rfl, rfl, hx, hce, hcv, hcl, rfl, hL, rfl, rfl⟩, ?_⟩
    show Steps p.tables e below _ (((({ U with heap := s₂.heap, slotsUsed := s₂.slotsUsed } : State).setVm s₂.vm).setTop g).pushFrame (.throwing q))
    rw [← hs₂]
    exact hsteps
end Payer
section Calls
variable {p : Program} {l : Launch} {e : Env} {R : Room} {s : State} {m : MethodId} {args : Array Value} {below : List Frame} {meth : Method} {c : Code} {T : State} {locs : List Loc} {cells slots : Nat}
theorem vx_callV (X : Stand p l e R s m args below meth c T locs cells slots) (hexec : p.tables.exec = Jvm.exec) {own C : String} {index : Nat} {y : MethodName} {bytes : ByteArray} {maxL : Nat} {ret : Option FieldType}
    (hown : s.vm.findClass own = some m.cls) (hlink : (Cond.methodLink own index y).before args s = true) (hinst : (Cond.instanceMethod y).before args s = true) (hsel : (Cond.selects C y y).before args s = true)
    (hcode : (Cond.code y bytes maxL ret).before args s = true) (hy : y.cls ≠ "java/lang/invoke/MethodHandle" ∧ y.cls ≠ "java/lang/invoke/VarHandle")
    {W9 : Nat} {Pre : Pt → Array Value → Prop} {Post : Pt → Array Value → Option Value → Pt → Prop} {PostX : Pt → Array Value → Addr → Pt → Prop} (hK : vx_Back l R p e below s args y 3 W9 Pre Post PostX)
    {b : Addr} {cellB : Cell} (hcell : T.heap[b]? = some cellB) (hobj : cellB.vm.isStatics = false) (hcls : s.vm.findClass C = some cellB.cls)
    {g : JFrame} (hg : g.method = m) (hsize : g.locals.size = c.maxLocals) {argsL rest : List Value} (hlen : ∀ sig, parseMethodDescriptor y.desc = some sig → argsL.length = sig.parameters.length)
    (hstack : g.stack = argsL.reverse ++ .ref b :: rest) (hW : 2 * g.monitorRoom + (rest.map fun v => v.category).sum ≤ W9) (hdg : decode c.code g.pc = .ok (.invokevirtual index, 3))
    (hpre : ∀ vm₁, s.WarmedH vm₁ → Pre ⟨T.setVm vm₁, locs, cells, slots⟩ (Value.ref b :: argsL).toArray) :
    (∃ (v : Option Value) (vm₁ : Vm) (B : Pt), s.WarmedH vm₁ ∧ Stand p l e R s m args below meth c B.U B.locs B.cells B.slots ∧ Post ⟨T.setVm vm₁, locs, cells, slots⟩ (Value.ref b :: argsL).toArray v B ∧
      ∀ target, Steps p.tables e below (B.U.setTop { g with pc := g.pc + 3, stack := v.toList ++ rest }) target → Steps p.tables e below (T.setTop g) target) ∨
    (∃ (q : Addr) (vm₁ : Vm) (B : Pt), s.WarmedH vm₁ ∧ Stand p l e R s m args below meth c B.U B.locs B.cells B.slots ∧ PostX ⟨T.setVm vm₁, locs, cells, slots⟩ (Value.ref b :: argsL).toArray q B ∧
      Steps p.tables e below (T.setTop g) ((B.U.setTop { g with stack := rest }).pushFrame (.throwing q))) := by
  obtain ⟨mk, methM, hnamed, hmethM, hstM, habM⟩ := Cond.instanceMethod_spec hinst
  obtain ⟨methM', cM, hmethM', -, -, -, -, -, -, hsigM⟩ := Cond.code_spec hnamed hcode
  cases hmethM.symm.trans hmethM'
  obtain ⟨c2, r2, m2, q1, q2, q3, q4, kP, hkP, hkPi⟩ := Cond.selects_spec hsel
  cases hcls.symm.trans q1
  cases (State.methodFound?_of_named hnamed hy).symm.trans q2
  cases hnamed.symm.trans q3
  have hselP : selectMethod e.platform s.vm cellB.cls mk = .method mk := by rw [Launch.admits_selectMethod X.admits]; exact q4
  obtain ⟨vm₁, X₁, hstep₁⟩ := X.invokevirtual hexec hown hlink hnamed hmethM hstM hkP hkPi hy (a := b) (cell := cellB) hcell
    (fun z h => by rw [h] at hobj; cases hobj) hselP hmethM habM hkP hkPi (g := g) hg (argsL := argsL) (rest := rest) (hlen _ hsigM) hstack hdg
  rcases hK m meth c ⟨T.setVm vm₁, locs, cells, slots⟩ { g with stack := rest } (.invokevirtual index) mk (Value.ref b :: argsL).toArray X₁ hg hsize hdg hW (X₁.named hnamed) (hpre vm₁ X₁.warmed) with ⟨v, B, X', hpost, hsteps⟩ | ⟨q, B, X', hpost, hsteps⟩
  · exact Or.inl ⟨v, vm₁, B, X₁.warmed, X', hpost, fun target h => hstep₁ _ fun acts => by rw [doInvoke_state]; exact hsteps.trans h⟩
  · exact Or.inr ⟨q, vm₁, B, X₁.warmed, X', hpost, hstep₁ _ fun acts => by rw [doInvoke_state]; exact hsteps⟩
theorem vx_callS (X : Stand p l e R s m args below meth c T locs cells slots) (hexec : p.tables.exec = Jvm.exec) {own : String} {index : Nat} {y : MethodName} {bytes : ByteArray} {maxL : Nat} {ret : Option FieldType}
    (hown : s.vm.findClass own = some m.cls) (hlink : (Cond.methodLink own index y).before args s = true) (hstat : (Cond.static y).before args s = true) (hinit : (Cond.initialized y.cls).before args s = true)
    (hcode : (Cond.code y bytes maxL ret).before args s = true) (hy : y.cls ≠ "java/lang/invoke/MethodHandle" ∧ y.cls ≠ "java/lang/invoke/VarHandle")
    {W9 : Nat} {Pre : Pt → Array Value → Prop} {Post : Pt → Array Value → Option Value → Pt → Prop} {PostX : Pt → Array Value → Addr → Pt → Prop} (hK : vx_Back l R p e below s args y 3 W9 Pre Post PostX)
    {g : JFrame} (hg : g.method = m) (hsize : g.locals.size = c.maxLocals) {argsL rest : List Value} (hlen : ∀ sig, parseMethodDescriptor y.desc = some sig → argsL.length = sig.parameters.length)
    (hstack : g.stack = argsL.reverse ++ rest) (hW : 2 * g.monitorRoom + (rest.map fun v => v.category).sum ≤ W9) (hdg : decode c.code g.pc = .ok (.invokestatic index, 3))
    (hpre : ∀ vm₁, s.WarmedH vm₁ → Pre ⟨T.setVm vm₁, locs, cells, slots⟩ argsL.toArray) :
    (∃ (v : Option Value) (vm₁ : Vm) (B : Pt), s.WarmedH vm₁ ∧ Stand p l e R s m args below meth c B.U B.locs B.cells B.slots ∧ Post ⟨T.setVm vm₁, locs, cells, slots⟩ argsL.toArray v B ∧
      ∀ target, Steps p.tables e below (B.U.setTop { g with pc := g.pc + 3, stack := v.toList ++ rest }) target → Steps p.tables e below (T.setTop g) target) ∨
    (∃ (q : Addr) (vm₁ : Vm) (B : Pt), s.WarmedH vm₁ ∧ Stand p l e R s m args below meth c B.U B.locs B.cells B.slots ∧ PostX ⟨T.setVm vm₁, locs, cells, slots⟩ argsL.toArray q B ∧
      Steps p.tables e below (T.setTop g) ((B.U.setTop { g with stack := rest }).pushFrame (.throwing q))) := by
  obtain ⟨mk, hnamed⟩ := Cond.code_named hcode
  obtain ⟨methM, cM, hmethM, -, -, -, -, -, -, hsigM⟩ := Cond.code_spec hnamed hcode
  have hstatic : methM.isStatic = true := Cond.static_spec hnamed hmethM hstat
  obtain ⟨kP, hkP, -⟩ := className_of_methodNamed hnamed
  have hinitP : kP.init = .initialized := Cond.initialized_spec (findClass_of_methodNamed hnamed) hkP hinit
  obtain ⟨vm₁, X₁, hstep₁⟩ := X.invokestatic hexec hown hlink hnamed hmethM hstatic hkP hinitP hy (g := g) hg (argsL := argsL) (rest := rest) (hlen _ hsigM) hstack hdg
  rcases hK m meth c ⟨T.setVm vm₁, locs, cells, slots⟩ { g with stack := rest } (.invokestatic index) mk argsL.toArray X₁ hg hsize hdg hW (X₁.named hnamed) (hpre vm₁ X₁.warmed) with ⟨v, B, X', hpost, hsteps⟩ | ⟨q, B, X', hpost, hsteps⟩
  · exact Or.inl ⟨v, vm₁, B, X₁.warmed, X', hpost, fun target h => hstep₁ _ fun acts => by rw [doInvoke_state]; exact hsteps.trans h⟩
  · exact Or.inr ⟨q, vm₁, B, X₁.warmed, X', hpost, hstep₁ _ fun acts => by rw [doInvoke_state]; exact hsteps⟩
end Calls
theorem vx_cls {s : State} {T : State} {vm₁ : Vm} {E : String} {k : ClassId} (hW : s.WarmedH vm₁) (h : (T.setVm vm₁).vm.findClass E = some k) : s.vm.findClass E = some k := by
  have h1 : vm₁.findClass E = some k := h
  rw [hW.alike.findClass] at h1
  exact h1
/-- the method's frame g, with q thrown over it -/
def vx_W (p : Program) (l : Launch) (e : Env) (R : Room) (s : State) (m : MethodId) (args : Array Value) (below : List Frame) (meth : Method) (c : Code) (H : Heap) (locs : List Loc) (cells slots : Nat) (Q : State → Prop) (g : JFrame) (q : Addr) : Prop :=
  ∀ T : State, T.heap = H → Stand p l e R s m args below meth c T locs cells slots → ∃ t, Steps p.tables e below ((T.setTop g).pushFrame (.throwing q)) t ∧ Q t
def vx_Run (p : Program) (l : Launch) (e : Env) (R : Room) (s : State) (m : MethodId) (args : Array Value) (below : List Frame) (meth : Method) (c : Code) (H : Heap) (locs : List Loc) (cells slots mc ms : Nat) (g : JFrame) (rest : List Value) (Qa : State → Outcome → State → Prop) (XC : String → State → State → Prop) (free : Addr → Prop) : Prop :=
  ∀ T : State, T.heap = H → Stand p l e R s m args below meth c T locs cells slots →
    (∃ (v : Option Value) (st₀ t T' : State) (L : List Loc), st₀.heap = H ∧ Stand p l e R s m args below meth c T' (locs ++ L) (cells + mc) (slots + ms) ∧ (∀ q ∈ L, free q.base) ∧ T'.heap = t.heap ∧ T'.vm = t.vm ∧ Qa st₀ (.returned v) t ∧
      Goes p e below T g T' { g with pc := g.pc + 3, stack := v.toList ++ rest }) ∨
    (∃ (q : Addr) (st₀ t T' : State) (L : List Loc) (E : String) (ce : Cell), st₀.heap = H ∧ Stand p l e R s m args below meth c T' (locs ++ L) (cells + mc) (slots + ms) ∧ (∀ z ∈ L, free z.base) ∧ T'.heap = t.heap ∧ T'.vm = t.vm ∧ XC E st₀ t ∧ t.heap[q]? = some ce ∧ ce.vm = .none ∧ s.vm.findClass E = some ce.cls ∧
      Steps p.tables e below (T.setTop g) ((T'.setTop { g with stack := rest }).pushFrame (.throwing q)))
def vx_X {S : Type} (px : S → Prop) (B : String → S → State → Prop) (A : Nat → Prop) : String → State → State → Prop := fun E st t => ∃ u : S, px u ∧ B E u t ∧ va_F A st t
section Runs
variable {p : Program} {l : Launch} {e : Env} {R : Room} {s : State} {m : MethodId} {args : Array Value} {below : List Frame} {meth : Method} {c : Code} {H : Heap} {locs : List Loc} {cells slots : Nat}
variable {y : MethodName} {bytes cc : ByteArray} {maxL nL mc ms n index : Nat} {ret : Option FieldType} {ws : List Cond} {rm : Room} {Pc : Array Value → State → Prop} {Qc : Array Value → State → Outcome → State → Prop} {XC : String → State → State → Prop} {free : Addr → Prop} {Ts : List Cond} {own C : String} {b : Addr} {As rest : List Value} {g : JFrame}
theorem vx_callBack (cb : CallB R s args own index y bytes maxL ret ws rm mc ms n) (hM : vx_Met l y ws rm Pc Qc XC mc ms free) (hbl : FrameBlind Pc) : vx_Back l R p e below s args y 3 8 (PreOf R mc ms Pc) (PostOf Qc mc ms free) (vx_Post XC mc ms free) := by
  obtain ⟨hrc, hrs, hfr, hlo, hws, hcw, -, hini, -⟩ := cb
  exact vx_back (bytes := bytes) (maxL := maxL) (ret := ret) hM hbl hrc hrs hfr hlo hws hcw (fun a' U hW => word_at hW (Or.inl (by first | rfl | simp [Cond.onTables, Cond.keeps, Cond.steady])) hini)
theorem vx_runV (S : CallFix p m c cc nL s args Ts own) (hM : vx_Met l y ws rm Pc Qc XC mc ms free) (cw : CallW R s args own C index y bytes maxL ret ws rm mc ms n) (hp : PreV s H C b Pc As)
    (hg : g.method = m) (hn : As.length = n) (hsize : g.locals.size = nL) (hstack : g.stack = As.reverse ++ .ref b :: rest) (hW : 2 * g.monitorRoom + (rest.map fun v => v.category).sum ≤ 8) (hdg : decode cc g.pc = .ok (.invokevirtual index, 3)) (hf : cells + mc ≤ R.cells ∧ slots + ms ≤ R.slots) :
    vx_Run p l e R s m args below meth c H locs cells slots mc ms g rest (Qc (Value.ref b :: As).toArray) XC free := by
  have hK : vx_Back l R p e below s args y 3 8 (PreOf R mc ms Pc) (PostOf Qc mc ms free) (vx_Post XC mc ms free) := vx_callBack cw.1 hM hp.1
  obtain ⟨⟨-, -, -, -, -, -, hcode, -, hy, hlen, hl⟩, hin, hse⟩ := cw
  obtain ⟨hx, hb, hml, ho, -⟩ := S
  obtain ⟨-, ⟨cellB, hcB, hoB, hclB⟩, hPc⟩ := hp
  intro T hT X
  rcases vx_callV X hx (C := C) (bytes := bytes) (maxL := maxL) (ret := ret) ho hl hin hse hcode hy hK (by rw [hT]; exact hcB) hoB hclB hg (hsize.trans hml.symm) (argsL := As) (rest := rest) (fun sig h => hn.trans (hlen sig h)) hstack hW (by rw [hb]; exact hdg)
    (fun vm₁ hW₁ => ⟨hf.1, hf.2, hPc (T.setVm vm₁) hT hW₁⟩) with ⟨v, vm₁, ⟨U', l2, c2, s2⟩, hW₁, X', ⟨g', mk, t, L, e1, e2, hq, h1, hL, h2, h3⟩, st⟩ | ⟨q, vm₁, ⟨U', l2, c2, s2⟩, hW₁, X', ⟨g', mk, t, L, E, ce, e1, e2, hq, hce, hcv, hcl, h1, hL, h2, h3⟩, st⟩
  · dsimp only [Pt.U, Pt.locs, Pt.cells, Pt.slots] at X' e1 e2 h1 h2 h3 st
    subst h1; subst h2; subst h3
    exact Or.inl ⟨v, (T.setVm vm₁).calling g' mk (Value.ref b :: As).toArray, t, U', L, hT, X', hL, e1, e2, hq, st⟩
  · dsimp only [Pt.U, Pt.locs, Pt.cells, Pt.slots] at X' e1 e2 h1 h2 h3 st hcl
    subst h1; subst h2; subst h3
    exact Or.inr ⟨q, (T.setVm vm₁).calling g' mk (Value.ref b :: As).toArray, t, U', L, E, ce, hT, X', hL, e1, e2, hq, hce, hcv, vx_cls hW₁ hcl, st⟩
theorem vx_runS (S : CallFix p m c cc nL s args Ts own) (hM : vx_Met l y ws rm Pc Qc XC mc ms free) (cw : CallB R s args own index y bytes maxL ret ws rm mc ms n ∧ (Cond.static y).before args s = true) (hp : PreS s H Pc As)
    (hg : g.method = m) (hn : As.length = n) (hsize : g.locals.size = nL) (hstack : g.stack = As.reverse ++ rest) (hW : 2 * g.monitorRoom + (rest.map fun v => v.category).sum ≤ 8) (hdg : decode cc g.pc = .ok (.invokestatic index, 3)) (hf : cells + mc ≤ R.cells ∧ slots + ms ≤ R.slots) :
    vx_Run p l e R s m args below meth c H locs cells slots mc ms g rest (Qc As.toArray) XC free := by
  have hK : vx_Back l R p e below s args y 3 8 (PreOf R mc ms Pc) (PostOf Qc mc ms free) (vx_Post XC mc ms free) := vx_callBack cw.1 hM hp.1
  obtain ⟨⟨-, -, -, -, -, -, hcode, hini, hy, hlen, hl⟩, hstt⟩ := cw
  obtain ⟨hx, hb, hml, ho, -⟩ := S
  intro T hT X
  rcases vx_callS X hx (bytes := bytes) (maxL := maxL) (ret := ret) ho hl hstt hini hcode hy hK hg (hsize.trans hml.symm) (argsL := As) (rest := rest) (fun sig h => hn.trans (hlen sig h)) hstack hW (by rw [hb]; exact hdg)
    (fun vm₁ hW₁ => ⟨hf.1, hf.2, hp.2 (T.setVm vm₁) hT hW₁⟩) with ⟨v, vm₁, ⟨U', l2, c2, s2⟩, hW₁, X', ⟨g', mk, t, L, e1, e2, hq, h1, hL, h2, h3⟩, st⟩ | ⟨q, vm₁, ⟨U', l2, c2, s2⟩, hW₁, X', ⟨g', mk, t, L, E, ce, e1, e2, hq, hce, hcv, hcl, h1, hL, h2, h3⟩, st⟩
  · dsimp only [Pt.U, Pt.locs, Pt.cells, Pt.slots] at X' e1 e2 h1 h2 h3 st
    subst h1; subst h2; subst h3
    exact Or.inl ⟨v, (T.setVm vm₁).calling g' mk As.toArray, t, U', L, hT, X', hL, e1, e2, hq, st⟩
  · dsimp only [Pt.U, Pt.locs, Pt.cells, Pt.slots] at X' e1 e2 h1 h2 h3 st hcl
    subst h1; subst h2; subst h3
    exact Or.inr ⟨q, (T.setVm vm₁).calling g' mk As.toArray, t, U', L, E, ce, hT, X', hL, e1, e2, hq, hce, hcv, vx_cls hW₁ hcl, st⟩
end Runs
section Rows
variable {p : Program} {l : Launch} {e : Env} {R : Room} {s : State} {m : MethodId} {args : Array Value} {below : List Frame} {meth : Method} {c : Code} {H : Heap} {locs : List Loc} {cells slots : Nat} {Q : State → Prop}
variable {mc ms : Nat} {free : Addr → Prop} {A0 A1 : Nat → Prop} {H0 : Heap} {a : Array Value} {pc : Nat} {ls : Array Slot} {st0 rest : List Value}
theorem vx_keep {st₀ t T' : State} {L : List Loc} (h0 : st₀.heap = H) (e1 : T'.heap = t.heap) (hS : va_S A0 H0 H locs) (hA : ∀ q, q < H.size → A1 q → A0 q) (hf : ∀ q, free q → A0 q) (hL : ∀ q ∈ L, free q.base) (hF : va_F A1 st₀ t) :
    H.size ≤ T'.heap.size ∧ (∀ q : Nat, q < H.size → ¬ A1 q → T'.heap[q]? = H[q]?) ∧ va_S A0 H0 T'.heap (locs ++ L) := by
  obtain ⟨hz, hk⟩ := hF
  rw [h0] at hz hk
  exact ⟨by rw [e1]; exact hz, fun q h1 h2 => by rw [e1]; exact hk q h1 h2,
    ⟨Nat.le_trans hS.1 (by rw [e1]; exact hz), fun q h1 h2 => by rw [e1, hk q (Nat.lt_of_lt_of_le h1 hS.1) (fun z => h2 (hA q (Nat.lt_of_lt_of_le h1 hS.1) z))]; exact hS.2.1 q h1 h2, fun q hq => by
      rcases List.mem_append.mp hq with h | h
      · exact hS.2.2 q h
      · exact hf _ (hL q h)⟩⟩
theorem vx_calli {S SX : Type} {post : Int32 → S → Prop} {px : SX → Prop} {B : S → State → Prop} {BX : String → SX → State → Prop} {AX : Nat → Prop} (hr : vx_Run p l e R s m args below meth c H locs cells slots mc ms (F0 m pc ls st0) rest (va_Qi post B A1 a) (vx_X px BX AX) free) (hS : va_S A0 H0 H locs) (hA : ∀ q, q < H.size → A1 q → A0 q) (hf : ∀ q, free q → A0 q) (hAX : ∀ q, q < H.size → AX q → A0 q)
    (kx : ∀ (E : String) (ce : Cell) (q9 : Addr) (u : SX) (t : State) (H1 : Heap) (locs1 : List Loc), t.heap = H1 → s.vm.Alike t.vm → px u → BX E u t → H.size ≤ H1.size → (∀ q : Nat, q < H.size → ¬ AX q → H1[q]? = H[q]?) → va_S A0 H0 H1 locs1 → H1[q9]? = some ce → ce.vm = .none → s.vm.findClass E = some ce.cls → vx_W p l e R s m args below meth c H1 locs1 (cells + mc) (slots + ms) Q (F0 m pc ls rest) q9)
    (kk : ∀ (r : Int32) (u : S) (t : State) (H1 : Heap) (locs1 : List Loc), t.heap = H1 → s.vm.Alike t.vm → post r u → B u t → H.size ≤ H1.size → (∀ q : Nat, q < H.size → ¬ A1 q → H1[q]? = H[q]?) → va_S A0 H0 H1 locs1 → W p l e R s m args below meth c H1 locs1 (cells + mc) (slots + ms) Q (F0 m (pc + 3) ls (.int r :: rest))) : W p l e R s m args below meth c H locs cells slots Q (F0 m pc ls st0) := by
  intro T hT X
  rcases hr T hT X with ⟨v, st₀, t, T', L, h0, X', hL, e1, e2, ⟨⟨r, u, hv, hp, hb⟩, hF⟩, st⟩ | ⟨q, st₀, t, T', L, E, ce, h0, X', hL, e1, e2, ⟨u, hp, hb, hF⟩, hce, hcv, hcl, st⟩
  · cases hv
    obtain ⟨k1, k2, k3⟩ := vx_keep h0 e1 hS hA hf hL hF
    obtain ⟨t2, a1, b1⟩ := kk r u t T'.heap (locs ++ L) e1.symm (by rw [← e2]; exact X'.warmed.alike) hp hb k1 k2 k3 T' rfl X'
    exact ⟨t2, st t2 a1, b1⟩
  · obtain ⟨k1, k2, k3⟩ := vx_keep h0 e1 hS hAX hf hL hF
    obtain ⟨t2, a1, b1⟩ := kx E ce q u t T'.heap (locs ++ L) e1.symm (by rw [← e2]; exact X'.warmed.alike) hp hb k1 k2 k3 (by rw [e1]; exact hce) hcv hcl T' rfl X'
    exact ⟨t2, st.trans a1, b1⟩
theorem vx_calll {S SX : Type} {post : Int64 → S → Prop} {px : SX → Prop} {B : S → State → Prop} {BX : String → SX → State → Prop} {AX : Nat → Prop} (hr : vx_Run p l e R s m args below meth c H locs cells slots mc ms (F0 m pc ls st0) rest (va_Ql post B A1 a) (vx_X px BX AX) free) (hS : va_S A0 H0 H locs) (hA : ∀ q, q < H.size → A1 q → A0 q) (hf : ∀ q, free q → A0 q) (hAX : ∀ q, q < H.size → AX q → A0 q)
    (kx : ∀ (E : String) (ce : Cell) (q9 : Addr) (u : SX) (t : State) (H1 : Heap) (locs1 : List Loc), t.heap = H1 → s.vm.Alike t.vm → px u → BX E u t → H.size ≤ H1.size → (∀ q : Nat, q < H.size → ¬ AX q → H1[q]? = H[q]?) → va_S A0 H0 H1 locs1 → H1[q9]? = some ce → ce.vm = .none → s.vm.findClass E = some ce.cls → vx_W p l e R s m args below meth c H1 locs1 (cells + mc) (slots + ms) Q (F0 m pc ls rest) q9)
    (kk : ∀ (r : Int64) (u : S) (t : State) (H1 : Heap) (locs1 : List Loc), t.heap = H1 → s.vm.Alike t.vm → post r u → B u t → H.size ≤ H1.size → (∀ q : Nat, q < H.size → ¬ A1 q → H1[q]? = H[q]?) → va_S A0 H0 H1 locs1 → W p l e R s m args below meth c H1 locs1 (cells + mc) (slots + ms) Q (F0 m (pc + 3) ls (.long r :: rest))) : W p l e R s m args below meth c H locs cells slots Q (F0 m pc ls st0) := by
  intro T hT X
  rcases hr T hT X with ⟨v, st₀, t, T', L, h0, X', hL, e1, e2, ⟨⟨r, u, hv, hp, hb⟩, hF⟩, st⟩ | ⟨q, st₀, t, T', L, E, ce, h0, X', hL, e1, e2, ⟨u, hp, hb, hF⟩, hce, hcv, hcl, st⟩
  · cases hv
    obtain ⟨k1, k2, k3⟩ := vx_keep h0 e1 hS hA hf hL hF
    obtain ⟨t2, a1, b1⟩ := kk r u t T'.heap (locs ++ L) e1.symm (by rw [← e2]; exact X'.warmed.alike) hp hb k1 k2 k3 T' rfl X'
    exact ⟨t2, st t2 a1, b1⟩
  · obtain ⟨k1, k2, k3⟩ := vx_keep h0 e1 hS hAX hf hL hF
    obtain ⟨t2, a1, b1⟩ := kx E ce q u t T'.heap (locs ++ L) e1.symm (by rw [← e2]; exact X'.warmed.alike) hp hb k1 k2 k3 (by rw [e1]; exact hce) hcv hcl T' rfl X'
    exact ⟨t2, st.trans a1, b1⟩
theorem vx_callf {S SX : Type} {post : UInt32 → S → Prop} {px : SX → Prop} {B : S → State → Prop} {BX : String → SX → State → Prop} {AX : Nat → Prop} (hr : vx_Run p l e R s m args below meth c H locs cells slots mc ms (F0 m pc ls st0) rest (va_Qf post B A1 a) (vx_X px BX AX) free) (hS : va_S A0 H0 H locs) (hA : ∀ q, q < H.size → A1 q → A0 q) (hf : ∀ q, free q → A0 q) (hAX : ∀ q, q < H.size → AX q → A0 q)
    (kx : ∀ (E : String) (ce : Cell) (q9 : Addr) (u : SX) (t : State) (H1 : Heap) (locs1 : List Loc), t.heap = H1 → s.vm.Alike t.vm → px u → BX E u t → H.size ≤ H1.size → (∀ q : Nat, q < H.size → ¬ AX q → H1[q]? = H[q]?) → va_S A0 H0 H1 locs1 → H1[q9]? = some ce → ce.vm = .none → s.vm.findClass E = some ce.cls → vx_W p l e R s m args below meth c H1 locs1 (cells + mc) (slots + ms) Q (F0 m pc ls rest) q9)
    (kk : ∀ (r : UInt32) (u : S) (t : State) (H1 : Heap) (locs1 : List Loc), t.heap = H1 → s.vm.Alike t.vm → post r u → B u t → H.size ≤ H1.size → (∀ q : Nat, q < H.size → ¬ A1 q → H1[q]? = H[q]?) → va_S A0 H0 H1 locs1 → W p l e R s m args below meth c H1 locs1 (cells + mc) (slots + ms) Q (F0 m (pc + 3) ls (.float r :: rest))) : W p l e R s m args below meth c H locs cells slots Q (F0 m pc ls st0) := by
  intro T hT X
  rcases hr T hT X with ⟨v, st₀, t, T', L, h0, X', hL, e1, e2, ⟨⟨r, u, hv, hp, hb⟩, hF⟩, st⟩ | ⟨q, st₀, t, T', L, E, ce, h0, X', hL, e1, e2, ⟨u, hp, hb, hF⟩, hce, hcv, hcl, st⟩
  · cases hv
    obtain ⟨k1, k2, k3⟩ := vx_keep h0 e1 hS hA hf hL hF
    obtain ⟨t2, a1, b1⟩ := kk r u t T'.heap (locs ++ L) e1.symm (by rw [← e2]; exact X'.warmed.alike) hp hb k1 k2 k3 T' rfl X'
    exact ⟨t2, st t2 a1, b1⟩
  · obtain ⟨k1, k2, k3⟩ := vx_keep h0 e1 hS hAX hf hL hF
    obtain ⟨t2, a1, b1⟩ := kx E ce q u t T'.heap (locs ++ L) e1.symm (by rw [← e2]; exact X'.warmed.alike) hp hb k1 k2 k3 (by rw [e1]; exact hce) hcv hcl T' rfl X'
    exact ⟨t2, st.trans a1, b1⟩
theorem vx_calld {S SX : Type} {post : UInt64 → S → Prop} {px : SX → Prop} {B : S → State → Prop} {BX : String → SX → State → Prop} {AX : Nat → Prop} (hr : vx_Run p l e R s m args below meth c H locs cells slots mc ms (F0 m pc ls st0) rest (va_Qd post B A1 a) (vx_X px BX AX) free) (hS : va_S A0 H0 H locs) (hA : ∀ q, q < H.size → A1 q → A0 q) (hf : ∀ q, free q → A0 q) (hAX : ∀ q, q < H.size → AX q → A0 q)
    (kx : ∀ (E : String) (ce : Cell) (q9 : Addr) (u : SX) (t : State) (H1 : Heap) (locs1 : List Loc), t.heap = H1 → s.vm.Alike t.vm → px u → BX E u t → H.size ≤ H1.size → (∀ q : Nat, q < H.size → ¬ AX q → H1[q]? = H[q]?) → va_S A0 H0 H1 locs1 → H1[q9]? = some ce → ce.vm = .none → s.vm.findClass E = some ce.cls → vx_W p l e R s m args below meth c H1 locs1 (cells + mc) (slots + ms) Q (F0 m pc ls rest) q9)
    (kk : ∀ (r : UInt64) (u : S) (t : State) (H1 : Heap) (locs1 : List Loc), t.heap = H1 → s.vm.Alike t.vm → post r u → B u t → H.size ≤ H1.size → (∀ q : Nat, q < H.size → ¬ A1 q → H1[q]? = H[q]?) → va_S A0 H0 H1 locs1 → W p l e R s m args below meth c H1 locs1 (cells + mc) (slots + ms) Q (F0 m (pc + 3) ls (.double r :: rest))) : W p l e R s m args below meth c H locs cells slots Q (F0 m pc ls st0) := by
  intro T hT X
  rcases hr T hT X with ⟨v, st₀, t, T', L, h0, X', hL, e1, e2, ⟨⟨r, u, hv, hp, hb⟩, hF⟩, st⟩ | ⟨q, st₀, t, T', L, E, ce, h0, X', hL, e1, e2, ⟨u, hp, hb, hF⟩, hce, hcv, hcl, st⟩
  · cases hv
    obtain ⟨k1, k2, k3⟩ := vx_keep h0 e1 hS hA hf hL hF
    obtain ⟨t2, a1, b1⟩ := kk r u t T'.heap (locs ++ L) e1.symm (by rw [← e2]; exact X'.warmed.alike) hp hb k1 k2 k3 T' rfl X'
    exact ⟨t2, st t2 a1, b1⟩
  · obtain ⟨k1, k2, k3⟩ := vx_keep h0 e1 hS hAX hf hL hF
    obtain ⟨t2, a1, b1⟩ := kx E ce q u t T'.heap (locs ++ L) e1.symm (by rw [← e2]; exact X'.warmed.alike) hp hb k1 k2 k3 (by rw [e1]; exact hce) hcv hcl T' rfl X'
    exact ⟨t2, st.trans a1, b1⟩
theorem vx_callv {S SX : Type} {post : S → Prop} {px : SX → Prop} {B : S → State → Prop} {BX : String → SX → State → Prop} {AX : Nat → Prop} (hr : vx_Run p l e R s m args below meth c H locs cells slots mc ms (F0 m pc ls st0) rest (va_Qv post B A1 a) (vx_X px BX AX) free) (hS : va_S A0 H0 H locs) (hA : ∀ q, q < H.size → A1 q → A0 q) (hf : ∀ q, free q → A0 q) (hAX : ∀ q, q < H.size → AX q → A0 q)
    (kx : ∀ (E : String) (ce : Cell) (q9 : Addr) (u : SX) (t : State) (H1 : Heap) (locs1 : List Loc), t.heap = H1 → s.vm.Alike t.vm → px u → BX E u t → H.size ≤ H1.size → (∀ q : Nat, q < H.size → ¬ AX q → H1[q]? = H[q]?) → va_S A0 H0 H1 locs1 → H1[q9]? = some ce → ce.vm = .none → s.vm.findClass E = some ce.cls → vx_W p l e R s m args below meth c H1 locs1 (cells + mc) (slots + ms) Q (F0 m pc ls rest) q9)
    (kk : ∀ (u : S) (t : State) (H1 : Heap) (locs1 : List Loc), t.heap = H1 → s.vm.Alike t.vm → post u → B u t → H.size ≤ H1.size → (∀ q : Nat, q < H.size → ¬ A1 q → H1[q]? = H[q]?) → va_S A0 H0 H1 locs1 → W p l e R s m args below meth c H1 locs1 (cells + mc) (slots + ms) Q (F0 m (pc + 3) ls (rest))) : W p l e R s m args below meth c H locs cells slots Q (F0 m pc ls st0) := by
  intro T hT X
  rcases hr T hT X with ⟨v, st₀, t, T', L, h0, X', hL, e1, e2, ⟨⟨u, hv, hp, hb⟩, hF⟩, st⟩ | ⟨q, st₀, t, T', L, E, ce, h0, X', hL, e1, e2, ⟨u, hp, hb, hF⟩, hce, hcv, hcl, st⟩
  · cases hv
    obtain ⟨k1, k2, k3⟩ := vx_keep h0 e1 hS hA hf hL hF
    obtain ⟨t2, a1, b1⟩ := kk u t T'.heap (locs ++ L) e1.symm (by rw [← e2]; exact X'.warmed.alike) hp hb k1 k2 k3 T' rfl X'
    exact ⟨t2, st t2 a1, b1⟩
  · obtain ⟨k1, k2, k3⟩ := vx_keep h0 e1 hS hAX hf hL hF
    obtain ⟨t2, a1, b1⟩ := kx E ce q u t T'.heap (locs ++ L) e1.symm (by rw [← e2]; exact X'.warmed.alike) hp hb k1 k2 k3 (by rw [e1]; exact hce) hcv hcl T' rfl X'
    exact ⟨t2, st.trans a1, b1⟩
/-- caught by the row x of this method's table; the rows ahead don't take it -/
theorem vx_catch {own name : String} {E : String} {ce : Cell} {q : Addr} (hown : s.vm.findClass own = some m.cls) (pre : List ExceptionTableEntry) (x : ExceptionTableEntry) (suf : List ExceptionTableEntry) (hsplit : c.exceptionTable.toList = pre ++ x :: suf)
    (hpass : ∀ z ∈ pre, covers z pc = false ∨ (z.catchType ≠ 0 ∧ ∃ nm : String, (Cond.classLink own z.catchType nm).before args s = true ∧ va_Nc E nm s)) (hx : covers x pc = true) (h0 : x.catchType ≠ 0)
    (hlink : (Cond.classLink own x.catchType name).before args s = true) (hcast : (Cond.castable E name).before args s = true) (hcell : H[q]? = some ce) (hv : ce.vm = .none) (hcl : s.vm.findClass E = some ce.cls)
    (kk : W p l e R s m args below meth c H locs cells slots Q (F0 m x.handlerPc ls [.ref q])) : vx_W p l e R s m args below meth c H locs cells slots Q (F0 m pc ls rest) q := by
  intro T hT X
  have hpl : e.platform.magicAccessors = ({} : Platform).magicAccessors := by rw [X.admits.platform]
  obtain ⟨c3, c4, hc3, hc4, hasg⟩ := Cond.castable_spec hcast
  cases Option.some.inj (hc3.symm.trans hcl)
  obtain ⟨c5, hc5, hcl5⟩ := Cond.classLink_spec hown hlink e.platform hpl
  cases Option.some.inj (hc4.symm.trans hc5)
  obtain ⟨vm', X', st⟩ := ct_through X q (g := F0 m pc ls rest) rfl (Steps.refl _) (by rw [hT]; exact hcell) (by rw [hv]; rfl) (by obtain ⟨k9, h9, -⟩ := Vm.findClass_spec hcl; exact ⟨k9, h9⟩) pre x suf hsplit
    (fun z hz => by
      rcases hpass z hz with h | ⟨hz0, nm, hl1, hn1⟩
      · exact Or.inl h
      · obtain ⟨c6, hc6, hcl6⟩ := Cond.classLink_spec hown hl1 e.platform hpl
        obtain ⟨a8, b8, h1, h2, h3⟩ := hn1
        cases Option.some.inj (h1.symm.trans hcl)
        cases Option.some.inj (h2.symm.trans hc6)
        exact Or.inr ⟨hz0, _, hcl6, h3⟩) hx (Or.inr ⟨h0, c4, hcl5, hasg⟩)
  obtain ⟨t, a1, b1⟩ := kk (T.setVm vm') hT X'
  exact ⟨t, st.trans a1, b1⟩
end Rows
section Ends
variable {p : Program} {l : Launch} {e : Env} {R : Room} {s : State} {m : MethodId} {args : Array Value} {below : List Frame} {meth : Method} {c : Code} {H : Heap} {locs : List Loc} {cells slots : Nat} {Q : State → Prop}
variable {mc ms : Nat} {free : Addr → Prop} {A0 A1 : Nat → Prop} {H0 : Heap} {a : Array Value} {ls : Array Slot} {st0 rest : List Value}
variable {Qc : Array Value → State → Outcome → State → Prop} {XC : String → State → State → Prop}
/-- what a body that may throw owes at its end -/
def vx_MQ (below : List Frame) (Qc : Array Value → State → Outcome → State → Prop) (XC : String → State → State → Prop) (a : Array Value) (s : State) (mc ms : Nat) (free : Addr → Prop) : State → Prop := fun t =>
  ∃ o, t.status = .running ∧ Ended t below o ∧ vx_Q Qc XC mc ms free a s o t
theorem vx_ret {g : JFrame} {mc ms : Nat} (k : W p l e R s m args below meth c H locs cells slots (MQ below Qc args s mc ms free) g) : W p l e R s m args below meth c H locs cells slots (vx_MQ below Qc XC args s mc ms free) g := by
  intro T hT X
  obtain ⟨t, a1, o, b1, b2, b3, b4⟩ := k T hT X
  exact ⟨t, a1, o, b1, b2, Or.inl ⟨b3, b4⟩⟩
/-- not caught here: it goes on to the caller -/
theorem vx_widen {g : JFrame} {q : Addr} {k n : Nat} (h1 : cells ≤ k) (h2 : slots ≤ n) (kk : vx_W p l e R s m args below meth c H locs k n Q g q) : vx_W p l e R s m args below meth c H locs cells slots Q g q := fun T hT X => kk T hT (stand_widen X h1 h2)
theorem vx_out {pc : Nat} {E : String} {ce : Cell} {q : Addr} {mc ms : Nat} (hout : ∀ x ∈ c.exceptionTable.toList, covers x pc = false) (hlocks : meth.locks = false) (hcell : H[q]? = some ce) (hv : ce.vm = .none) (hcl : s.vm.findClass E = some ce.cls)
    (hx : ∀ t : State, t.heap = H → s.vm.Alike t.vm → XC E s t) (hf : ∀ z ∈ locs, free z.base) (hc : cells ≤ mc) (hs : slots ≤ ms) :
    vx_W p l e R s m args below meth c H locs cells slots (vx_MQ below Qc XC args s mc ms free) (F0 m pc ls rest) q := by
  intro T hT X
  obtain ⟨st1, hrun, hend, hW, hsm⟩ := X.leaveThrown q (g := F0 m pc ls rest) rfl rfl rfl hout hlocks
  have hcell9 : (T.setFrames (.throwing q :: below)).heap[q]? = some ce := by
    show T.heap[q]? = some ce
    rw [hT]; exact hcell
  exact ⟨_, st1, .threw q, hrun, hend, Or.inr ⟨q, rfl, E, ce, locs, hx _ hT hW.alike, hcell9, hv, hcl, hW, hsm.mono hc hs, hf⟩⟩
theorem vx_frame {U : State} {k n : Nat} (h : s.sameButNew ({ U with vm := s.vm } : State) locs k n) : s.heap.size ≤ U.heap.size ∧ ∀ q : Nat, q < s.heap.size → (∀ z ∈ locs, z.base ≠ q) → U.heap[q]? = s.heap[q]? := by
  obtain ⟨-, h2, -, -, -, h6⟩ := h
  refine ⟨h2, fun q hq hz => ?_⟩
  obtain ⟨c9, e1, e2, e3, e4⟩ := h6 q _ (Array.getElem?_eq_getElem hq)
  have hs : c9.slots = (s.heap[q]).slots := Array.ext_getElem? fun i => e4 i fun hm => hz _ hm rfl
  have h9 : c9 = s.heap[q] := by
    rw [hs] at e2
    exact e2
  have e5 : U.heap[q]? = some c9 := e1
  rw [e5, h9, Array.getElem?_eq_getElem hq]
/-- the words of a throw but the four that speak of the heap -/
def vx_no (w : Cond) : Bool := decide (w ≠ .isRef (.static Bundle.tN "UNASSIGNED_STACK" Bundle.steD)) && decide (w ≠ .isRef (.static Bundle.tN "SUPPRESSED_SENTINEL" Bundle.listD)) && decide (w ≠ .laysStatic Bundle.tN "UNASSIGNED_STACK" Bundle.steD) && decide (w ≠ .laysStatic Bundle.tN "SUPPRESSED_SENTINEL" Bundle.listD)
def vx_at0 (own : String) (ic : Nat) (X : String) (names : List String) : List Cond := (Bundle.ownAtoms0 own ic X names).filter vx_no
def vx_atS (own : String) (ic : Nat) (X : String) (names : List String) : List Cond := (Bundle.ownAtoms own ic X names).filter vx_no
/-- a word that the tables alone decide, or a good one -/
def vx_ot (w : Cond) : Bool := w.onTables || goodWord w
theorem vx_ot_at {args a' : Array Value} {s U : State} {w : Cond} (hW : s.WarmedH U.vm) (hvm : s.vm = U.vm) (hg : vx_ot w = true) (h : w.before args s = true) : w.before a' U = true := by
  simp only [vx_ot, Bool.or_eq_true] at hg
  rcases hg with hg | hg
  · exact va_tabs hg hvm h
  · exact word_at hW (good_of_word hg) h
/-- a list's words: the good ones out of the method's own list, the others by premises of their own -/
theorem vx_hat {args : Array Value} {s : State} {L B : List Cond} (h1 : ∀ w ∈ L.filter goodWord, w.before args s = true) (h2 : ∀ w ∈ L.filter (fun w => !goodWord w), w ∈ B) (h3 : ∀ w ∈ B, w.before args s = true) : ∀ w ∈ L, w.before args s = true := by
  intro w hw
  by_cases g : goodWord w = true
  · exact h1 w (List.mem_filter.mpr ⟨hw, g⟩)
  · refine h3 w (h2 w (List.mem_filter.mpr ⟨hw, ?_⟩))
    show (!goodWord w) = true
    cases hgw : goodWord w
    · rfl
    · exact absurd hgw g
theorem vx_c {args : Array Value} {s : State} {w : Cond} {B : List Cond} (h : w.before args s = true) (t : ∀ w ∈ B, w.before args s = true) : ∀ w' ∈ w :: B, w'.before args s = true := fun w' h' => (List.mem_cons.mp h').elim (fun e => by rw [e]; exact h) (t w')
theorem vx_n {args : Array Value} {s : State} : ∀ w ∈ ([] : List Cond), w.before args s = true := fun _ h => nomatch h
theorem vx_own {args : Array Value} {s : State} {L : List Cond} (h1 : ∀ w ∈ L.filter vx_no, w.before args s = true)
    (hU : (Cond.isRef (.static Bundle.tN "UNASSIGNED_STACK" Bundle.steD)).before args s = true) (hN : (Cond.isRef (.static Bundle.tN "SUPPRESSED_SENTINEL" Bundle.listD)).before args s = true)
    (lU : (Cond.laysStatic Bundle.tN "UNASSIGNED_STACK" Bundle.steD).before args s = true) (lN : (Cond.laysStatic Bundle.tN "SUPPRESSED_SENTINEL" Bundle.listD).before args s = true) : ∀ w ∈ L, w.before args s = true := by
  intro w hw
  by_cases e1 : w = .isRef (.static Bundle.tN "UNASSIGNED_STACK" Bundle.steD)
  · rw [e1]; exact hU
  · by_cases e2 : w = .isRef (.static Bundle.tN "SUPPRESSED_SENTINEL" Bundle.listD)
    · rw [e2]; exact hN
    · by_cases e3 : w = .laysStatic Bundle.tN "UNASSIGNED_STACK" Bundle.steD
      · rw [e3]; exact lU
      · by_cases e4 : w = .laysStatic Bundle.tN "SUPPRESSED_SENTINEL" Bundle.listD
        · rw [e4]; exact lN
        · exact h1 w (List.mem_filter.mpr ⟨hw, by unfold vx_no; rw [decide_eq_true e1, decide_eq_true e2, decide_eq_true e3, decide_eq_true e4]; rfl⟩)
/-- where a static field lies, its class's statics cell in H -/
def vx_L (C n d : String) (A : Nat → Prop) (U : State) (H : Heap) : Prop := ∃ (c : ClassId) (k : Class) (i : Nat) (f : Field) (a : Nat) (cell : Cell), U.vm.findClass C = some c ∧ U.fieldFound? C n d = some (c, k, i, f) ∧ f.isStatic = true ∧ k.statics = some a ∧ H[a]? = some cell ∧ cell.vm.isStatics = true ∧ cell.cls = c ∧ f.slot < cell.slots.size ∧ k.staticTypes[f.slot]? = some f.type ∧ ¬ A a
theorem vx_L.moved {C n d : String} {A : Nat → Prop} {u U : State} {H : Heap} (hvm : u.vm.Alike U.vm) (h : vx_L C n d A u H) : vx_L C n d A U H := by
  obtain ⟨c, k, i, f, a, cell, h1, h2, h3, h4, h5, h6, h7, h8, h9, h10⟩ := h
  obtain ⟨k', hi', he⟩ := State.fieldFound?_setVm hvm h2
  exact ⟨c, k', i, f, a, cell, by rw [hvm.findClass]; exact h1, hi', h3, by rw [he]; exact h4, h5, h6, h7, h8, by rw [he]; exact h9, h10⟩
theorem vx_L.kept {C n d : String} {A : Nat → Prop} {U : State} {H H1 : Heap} (h : vx_L C n d A U H) (hq : ∀ a : Nat, a < H.size → ¬ A a → H1[a]? = H[a]?) : vx_L C n d A U H1 := by
  obtain ⟨c, k, i, f, a, cell, h1, h2, h3, h4, h5, h6, h7, h8, h9, h10⟩ := h
  exact ⟨c, k, i, f, a, cell, h1, h2, h3, h4, by rw [hq a (Array.getElem?_eq_some_iff.mp h5).1 h10]; exact h5, h6, h7, h8, h9, h10⟩
theorem vx_L.narrow {C n d : String} {A B : Nat → Prop} {U : State} {H : Heap} (h : vx_L C n d A U H) (hAB : ∀ q, B q → A q) : vx_L C n d B U H := by
  obtain ⟨c, k, i, f, a, cell, h1, h2, h3, h4, h5, h6, h7, h8, h9, h10⟩ := h
  exact ⟨c, k, i, f, a, cell, h1, h2, h3, h4, h5, h6, h7, h8, h9, fun z => h10 (hAB _ z)⟩
theorem vx_L.word {C n d : String} {A : Nat → Prop} {s : State} {args : Array Value} (h : vx_L C n d A s s.heap) : (Cond.laysStatic C n d).before args s = true := by
  obtain ⟨c, k, i, f, a, cell, h1, h2, h3, h4, h5, h6, h7, h8, h9, -⟩ := h
  show (Cond.laysStatic C n d).holds args s none s [] = true
  exact Cond.laysStatic_of h1 h2 h3 h4 h5 h6 h7 h8 h9
/-- .. and what it holds: null or some reference -/
def vx_Zq (C n d : String) (A : Nat → Prop) (U : State) (H : Heap) : Prop := va_Zq C n d A U H ∧ vx_L C n d A U H
theorem vx_Zq.moved {C n d : String} {A : Nat → Prop} {u U : State} {H : Heap} (hvm : u.vm.Alike U.vm) (h : vx_Zq C n d A u H) : vx_Zq C n d A U H := ⟨va_Zq.moved hvm h.1, vx_L.moved hvm h.2⟩
theorem vx_Zq.kept {C n d : String} {A : Nat → Prop} {U : State} {H H1 : Heap} (h : vx_Zq C n d A U H) (hq : ∀ a : Nat, a < H.size → ¬ A a → H1[a]? = H[a]?) : vx_Zq C n d A U H1 := ⟨va_Zq.kept h.1 hq, vx_L.kept h.2 hq⟩
theorem vx_Zq.narrow {C n d : String} {A B : Nat → Prop} {U : State} {H : Heap} (h : vx_Zq C n d A U H) (hAB : ∀ q, B q → A q) : vx_Zq C n d B U H := ⟨va_Zq.narrow h.1 hAB, vx_L.narrow h.2 hAB⟩
theorem vx_Zqof {args : Array Value} {s : State} {C n d : String} {A : Nat → Prop} (hl : (Cond.laysStatic C n d).before args s = true) (hini : (Cond.initialized C).before args s = true) (h : (Cond.isRef (.static C n d)).before args s = true) (hA : ∀ a : Nat, a < s.heap.size → ¬ A a) : vx_Zq C n d A s s.heap := by
  refine ⟨va_Zqof hl hini h hA, ?_⟩
  obtain ⟨c, k, i, f, a, cell, h1, h2, h3, h4, h5, h6, h7, h8, h9⟩ := Cond.laysStatic_spec hl
  exact ⟨c, k, i, f, a, cell, h1, h2, h3, h4, h5, h6, h7, h8, h9, hA a (Array.getElem?_eq_some_iff.mp h5).1⟩
theorem vx_isRef {C n d : String} {v : Value} {A : Nat → Prop} {s : State} {args : Array Value} (h : va_Z C n d v A s s.heap) (hv : v.isRef = true) : (Cond.isRef (.static C n d)).before args s = true := by
  obtain ⟨cf, kf, fi, f, a, cell, h1, h2, h3, h4, h5, h6, h7, -⟩ := h
  have he : (Term.static C n d).eval args s none [] s = some v := by
    simp [Term.eval, State.fieldNamed?, h1, h2, h4, h5, h6, h7]
  simp only [Cond.before, Cond.holds, Cond.value, he]
  cases v <;> simp_all [Value.isRef]
theorem vx_isRefq {C n d : String} {A : Nat → Prop} {s : State} {args : Array Value} (h : va_Zq C n d A s s.heap) : (Cond.isRef (.static C n d)).before args s = true := by
  rcases h with h | ⟨t, h⟩
  · exact vx_isRef h rfl
  · exact vx_isRef h rfl
/-- the same frame, seen from here: as if the method were called anew in this heap -/
theorem vx_rebase {T : State} (X : Stand p l e R s m args below meth c T locs cells slots) {R' : Room} (hf : R'.frames ≤ R.frames) (hl : R'.locals ≤ R.locals) (hc : cells + R'.cells ≤ R.cells) (hs : slots + R'.slots ≤ R.slots) :
    Stand p l e R' ((T.setVm s.vm).setFrames (.invoking m args :: below)) m args below meth c T [] 0 0 := by
  have htop : (T.setVm s.vm).topJava?.isSome := X.here.top
  have hF : ((T.setVm s.vm).setFrames (.invoking m args :: below)).frames = .invoking m args :: below := State.frames_setFrames _ (State.cur_lt_of_top htop)
  obtain ⟨g₀, hg0⟩ := Option.isSome_iff_exists.mp htop
  obtain ⟨r, hr⟩ := State.topJava?_eq_some.mp hg0
  have hl9 : e.platform.stackLimits (T.setVm s.vm).me = e.platform.stackLimits s.me := X.limits
  have hb9 : (T.setVm s.vm).me.stackBytes = s.me.stackBytes := X.bytes
  refine ⟨X.admits, X.cas, X.clock, hF, ?_, X.hears, X.method, X.code, X.here, X.tail, X.warmed, ?_, ?_, ?_⟩
  · have h := X.room
    have hU : ((T.setVm s.vm).setFrames (.invoking m args :: below)).localsInUse = s.localsInUse := by
      rw [State.localsInUse_invoking hF (meth := meth) (c := c) X.method X.code, State.localsInUse_invoking X.frames X.method X.code]
    simp only [State.hasRoom, Bool.and_eq_true, decide_eq_true_eq] at h ⊢
    obtain ⟨⟨⟨⟨h1, h2, h3, h4, h5, h6⟩, h7⟩, h8⟩, h9⟩ := h
    rw [X.frames, List.length_cons] at h2 h3
    have q1 := X.heapSize
    have q2 := X.used
    simp only [hF, hU, List.length_cons, State.stackLimits_setFrames, State.stackBytes_setFrames, hl9, hb9]
    refine ⟨⟨⟨⟨by omega, by omega, by omega, by omega, by omega, h6⟩, ?_⟩, ?_⟩, X.book⟩
    · show T.heap.size + R'.cells ≤ e.platform.maxCells
      omega
    · show T.slotsUsed + R'.slots ≤ e.platform.maxSlots
      omega
  · rw [State.stackLimits_setFrames]; rfl
  · rw [State.stackBytes_setFrames]; rfl
  · refine ⟨?_, Nat.le_refl _, Nat.le_refl _, ?_, ?_, fun a c9 h9 => ⟨c9, h9, rfl, rfl, fun _ _ => rfl⟩⟩
    · obtain ⟨t, ht, -⟩ := State.frames_cons hr
      show T.setVm s.vm = { ((T.setVm s.vm).setFrames (.invoking m args :: below)).setFrames (T.setVm s.vm).frames with heap := T.heap, slotsUsed := T.slotsUsed }
      rw [State.setFrames_setFrames, State.setFrames_self ht]
      rfl
    · show T.slotsUsed = T.slotsUsed + ((T.heap.toList.drop T.heap.size).map (·.slots.size)).sum
      rw [List.drop_eq_nil_of_le (Nat.le_of_eq Array.length_toList)]
      rfl
    · show ((T.heap.toList.drop T.heap.size).map (·.slots.size)).sum ≤ 0
      rw [List.drop_eq_nil_of_le (Nat.le_of_eq Array.length_toList)]
      exact Nat.le_refl _
/-- 'throw new E()': new; dup; invokespecial; athrow -/
theorem vx_throw0 {cc : ByteArray} {pc : Nat} (hexec : p.tables.exec = Jvm.exec) (hb : c.code = cc) (hl : l.stackTraces = false) {own cls : String} {names : List String} {ik ic mc ms : Nat} {A : Nat → Prop}
    (hown : s.vm.findClass own = some m.cls) (hcls : Bundle.fit cls = true) (hnames : ∀ n ∈ names, Bundle.fit n = true)
    (hk : (Cond.classLink own ik cls).before args s = true) (hini : (Cond.initialized cls).before args s = true) (hat : ∀ w ∈ vx_at0 own ic cls names, w.before args s = true)
    (hgood : ∀ w ∈ Cond.classLink own ik cls :: Cond.initialized cls :: vx_at0 own ic cls names, vx_ot w = true)
    (hU : vx_Zq Bundle.tN "UNASSIGNED_STACK" Bundle.steD A s s.heap) (hN : vx_Zq Bundle.tN "SUPPRESSED_SENTINEL" Bundle.listD A s s.heap) (hS : va_S A s.heap H locs) (hsize : ls.size = c.maxLocals)
    (d0 : decode cc pc = .ok (.new ik, 3)) (d3 : decode cc (pc + 3) = .ok (.dup, 1)) (d4 : decode cc (pc + 4) = .ok (.invokespecial ic, 3)) (d7 : decode cc (pc + 7) = .ok (.athrow, 1))
    (hout : ∀ x ∈ c.exceptionTable.toList, covers x (pc + 7) = false)
    (hRframes : names.length + 3 < R.frames) (hRlocals : (rest.map fun v => v.category).sum + (13 * (names.length + 1) + 42) ≤ R.locals) (hRcells : cells + 1 ≤ R.cells) (hRslots : slots + 6 ≤ R.slots) (hlocks : meth.locks = false)
    (hx : ∀ t : State, s.vm.Alike t.vm → H.size ≤ t.heap.size → (∀ q : Nat, q < H.size → t.heap[q]? = H[q]?) → XC cls s t)
    (hf : ∀ z ∈ locs, free z.base) (hc : cells + 1 ≤ mc) (hs : slots + 6 ≤ ms) :
    W p l e R s m args below meth c H locs cells slots (vx_MQ below Qc XC args s mc ms free) (F0 m pc ls rest) := by
  intro T hT X
  have htr : e.platform.stackTraces = false := (show e.platform.stackTraces = l.stackTraces by rw [X.admits.platform]).trans hl
  have Y := vx_rebase X (R' := { frames := R.frames, locals := R.locals, cells := 1, slots := 6 }) (Nat.le_refl _) (Nat.le_refl _) hRcells hRslots
  obtain ⟨s', hA⟩ : ∃ z, z = (T.setVm s.vm).setFrames (.invoking m args :: below) := ⟨_, rfl⟩
  rw [← hA] at Y
  have hvm : s'.vm = s.vm := by rw [hA]; rfl
  have hhp : s'.heap = H := by rw [hA]; exact hT
  have hW0 : s.WarmedH s'.vm := by rw [hvm]; exact State.WarmedH.refl s
  have hat' : ∀ w ∈ vx_at0 own ic cls names, w.before args s' = true := fun w hw => vx_ot_at hW0 hvm.symm (hgood w (List.mem_cons_of_mem _ (List.mem_cons_of_mem _ hw))) (hat w hw)
  have hk' : (Cond.classLink own ik cls).before args s' = true := vx_ot_at hW0 hvm.symm (hgood _ List.mem_cons_self) hk
  have hini' : (Cond.initialized cls).before args s' = true := vx_ot_at hW0 hvm.symm (hgood _ (List.mem_cons_of_mem _ List.mem_cons_self)) hini
  have hU' : vx_Zq Bundle.tN "UNASSIGNED_STACK" Bundle.steD A s' s'.heap := by rw [hhp]; exact vx_Zq.moved hW0.alike (hU.kept hS.2.1)
  have hN' : vx_Zq Bundle.tN "SUPPRESSED_SENTINEL" Bundle.listD A s' s'.heap := by rw [hhp]; exact vx_Zq.moved hW0.alike (hN.kept hS.2.1)
  have h : ∀ w ∈ Bundle.ownAtoms0 own ic cls names, w.before args s' = true := vx_own hat' (vx_isRefq hU'.1) (vx_isRefq hN'.1) hU'.2.word hN'.2.word
  have hown' : s'.vm.findClass own = some m.cls := by rw [hvm]; exact hown
  have hins : (Cond.instantiable cls 6).before args s' = true := h _ (by simp [Bundle.ownAtoms0])
  obtain ⟨vm₁, cX, kX, hfX, hkX, -, -, X₁, st1⟩ := Y.newCold hexec (own := own) (C := cls) (index := ik) (n := 6) hown' hk' hins hini'
    (g := F0 m pc ls rest) rfl (by rw [hb]; exact d0) (Nat.le_refl _) (Nat.le_refl _)
  generalize hT1 : (T.setVm vm₁).pushCell { cls := cX, slots := kX.instanceTypes.map defaultValue, vm := .none } = T1 at X₁ st1
  have hcat : (Value.ref T.heap.size).category = 1 := rfl
  have hcellA : T1.heap[T.heap.size]? = some (freshCell cX kX) := by rw [← hT1]; exact State.heap_pushCell_size _ _
  have d3' : decode c.code (pc + 3) = .ok (.dup, 1) := by rw [hb]; exact d3
  obtain ⟨U, hsteps, hrun, hend, hW, hsame, ce, hce, hO⟩ := X₁.ctorThrow0 hexec htr (own := own) (cls := cls) (names := names) (ic := ic) hown' hcls hnames h (fun x hx => nomatch hx) hfX hkX hcellA (by rw [hhp, hT]; exact Nat.le_refl _)
    (g := { method := m, pc := pc + 4, locals := ls, stack := .ref T.heap.size :: .ref T.heap.size :: rest, locked := none }) rfl hsize rfl rfl (rest := rest) rfl
    (by rw [hb]; exact d4) (by rw [hb]; exact d7) hout hRframes (by simp only [List.map_cons, List.sum_cons, hcat]; omega) hlocks
  obtain ⟨f1, f2⟩ := vx_frame hsame
  rw [hhp] at f1 f2
  have hWs : s.WarmedH U.vm := State.WarmedH.trans hW0 hW
  have hcl : s.vm.findClass cls = some ce.cls := by
    have h9 := hO.cls
    rw [hvm] at h9
    exact h9
  have hall : s.sameButNew ({ U with vm := s.vm } : State) locs mc ms := by
    subst hA
    obtain ⟨e1, e2⟩ := hsame
    rw [State.setFrames_setFrames] at e1
    have h2 : (T.setVm s.vm).sameButNew ({ U with vm := s.vm } : State) [] (0 + 1) (0 + 6) := ⟨e1, e2⟩
    have h3 := X.same.trans h2
    rw [List.append_nil] at h3
    exact h3.mono hc hs
  refine ⟨U, ?_, .threw T.heap.size, hrun, hend, Or.inr ⟨T.heap.size, rfl, cls, ce, locs, hx U hWs.alike f1 (fun q hq => f2 q hq (fun z hz => nomatch hz)), hce, hO.vm, hcl, hWs, hall, hf⟩⟩
  refine st1 _ ?_
  show Steps p.tables e below (T1.setTop { method := m, pc := pc + 3, locals := ls, stack := .ref T.heap.size :: rest, locked := none }) _
  jvm_step X₁.here [X₁.here.top, hexec, d3', Value.category]
  exact hsteps
/-- 'throw new E("text")': new; dup; ldc; invokespecial; athrow -/
theorem vx_throwS {cc : ByteArray} {pc : Nat} (hexec : p.tables.exec = Jvm.exec) (hb : c.code = cc) (hl : l.stackTraces = false) {own cls text : String} {names : List String} {ik is ic mc ms sa : Nat} {A : Nat → Prop}
    (hown : s.vm.findClass own = some m.cls) (hcls : Bundle.fit cls = true) (hnames : ∀ n ∈ names, Bundle.fit n = true)
    (hk : (Cond.classLink own ik cls).before args s = true) (hini : (Cond.initialized cls).before args s = true) (hstr : vk_R own is text sa s) (hat : ∀ w ∈ vx_atS own ic cls names, w.before args s = true)
    (hgood : ∀ w ∈ Cond.classLink own ik cls :: Cond.initialized cls :: vx_atS own ic cls names, vx_ot w = true)
    (hU : vx_Zq Bundle.tN "UNASSIGNED_STACK" Bundle.steD A s s.heap) (hN : vx_Zq Bundle.tN "SUPPRESSED_SENTINEL" Bundle.listD A s s.heap) (hS : va_S A s.heap H locs) (hsize : ls.size = c.maxLocals)
    (d0 : decode cc pc = .ok (.new ik, 3)) (d3 : decode cc (pc + 3) = .ok (.dup, 1)) (d4 : decode cc (pc + 4) = .ok (.ldc is, 2)) (d6 : decode cc (pc + 6) = .ok (.invokespecial ic, 3)) (d9 : decode cc (pc + 9) = .ok (.athrow, 1))
    (hout : ∀ x ∈ c.exceptionTable.toList, covers x (pc + 9) = false)
    (hRframes : names.length + 3 < R.frames) (hRlocals : (rest.map fun v => v.category).sum + (13 * (names.length + 1) + 43) ≤ R.locals) (hRcells : cells + 1 ≤ R.cells) (hRslots : slots + 6 ≤ R.slots) (hlocks : meth.locks = false)
    (hx : ∀ t : State, s.vm.Alike t.vm → H.size ≤ t.heap.size → (∀ q : Nat, q < H.size → t.heap[q]? = H[q]?) → XC cls s t)
    (hf : ∀ z ∈ locs, free z.base) (hc : cells + 1 ≤ mc) (hs : slots + 6 ≤ ms) :
    W p l e R s m args below meth c H locs cells slots (vx_MQ below Qc XC args s mc ms free) (F0 m pc ls rest) := by
  intro T hT X
  have htr : e.platform.stackTraces = false := (show e.platform.stackTraces = l.stackTraces by rw [X.admits.platform]).trans hl
  have Y := vx_rebase X (R' := { frames := R.frames, locals := R.locals, cells := 1, slots := 6 }) (Nat.le_refl _) (Nat.le_refl _) hRcells hRslots
  obtain ⟨s', hA⟩ : ∃ z, z = (T.setVm s.vm).setFrames (.invoking m args :: below) := ⟨_, rfl⟩
  rw [← hA] at Y
  have hvm : s'.vm = s.vm := by rw [hA]; rfl
  have hhp : s'.heap = H := by rw [hA]; exact hT
  have hW0 : s.WarmedH s'.vm := by rw [hvm]; exact State.WarmedH.refl s
  have hat' : ∀ w ∈ vx_atS own ic cls names, w.before args s' = true := fun w hw => vx_ot_at hW0 hvm.symm (hgood w (List.mem_cons_of_mem _ (List.mem_cons_of_mem _ hw))) (hat w hw)
  have hk' : (Cond.classLink own ik cls).before args s' = true := vx_ot_at hW0 hvm.symm (hgood _ List.mem_cons_self) hk
  have hini' : (Cond.initialized cls).before args s' = true := vx_ot_at hW0 hvm.symm (hgood _ (List.mem_cons_of_mem _ List.mem_cons_self)) hini
  have hU' : vx_Zq Bundle.tN "UNASSIGNED_STACK" Bundle.steD A s' s'.heap := by rw [hhp]; exact vx_Zq.moved hW0.alike (hU.kept hS.2.1)
  have hN' : vx_Zq Bundle.tN "SUPPRESSED_SENTINEL" Bundle.listD A s' s'.heap := by rw [hhp]; exact vx_Zq.moved hW0.alike (hN.kept hS.2.1)
  have h : ∀ w ∈ Bundle.ownAtoms own ic cls names, w.before args s' = true := vx_own hat' (vx_isRefq hU'.1) (vx_isRefq hN'.1) hU'.2.word hN'.2.word
  have hown' : s'.vm.findClass own = some m.cls := by rw [hvm]; exact hown
  have hins : (Cond.instantiable cls 6).before args s' = true := h _ (by simp [Bundle.ownAtoms])
  obtain ⟨vm₁, cX, kX, hfX, hkX, -, -, X₁, st1⟩ := Y.newCold hexec (own := own) (C := cls) (index := ik) (n := 6) hown' hk' hins hini'
    (g := F0 m pc ls rest) rfl (by rw [hb]; exact d0) (Nat.le_refl _) (Nat.le_refl _)
  generalize hT1 : (T.setVm vm₁).pushCell { cls := cX, slots := kX.instanceTypes.map defaultValue, vm := .none } = T1 at X₁ st1
  have hcat : (Value.ref T.heap.size).category = 1 := rfl
  have hcellA : T1.heap[T.heap.size]? = some (freshCell cX kX) := by rw [← hT1]; exact State.heap_pushCell_size _ _
  have d3' : decode c.code (pc + 3) = .ok (.dup, 1) := by rw [hb]; exact d3
  have d4' : decode c.code (pc + 4) = .ok (.ldc is, 2) := by rw [hb]; exact d4
  have hstr' : vk_R own is text sa s' := vk_R.warm hW0 hstr
  obtain ⟨U, hsteps, hrun, hend, hW, hsame, ce, hce, hO⟩ := X₁.ctorThrowS hexec htr (own := own) (cls := cls) (names := names) (ic := ic) hown' hcls hnames h (fun x hx => nomatch hx) hfX hkX hcellA (by rw [hhp, hT]; exact Nat.le_refl _) (msg := .ref sa) rfl
    (g := { method := m, pc := pc + 6, locals := ls, stack := .ref sa :: .ref T.heap.size :: .ref T.heap.size :: rest, locked := none }) rfl hsize rfl rfl (rest := rest) rfl
    (by rw [hb]; exact d6) (by rw [hb]; exact d9) hout hRframes (by simp only [List.map_cons, List.sum_cons, hcat]; omega) hlocks
  obtain ⟨f1, f2⟩ := vx_frame hsame
  rw [hhp] at f1 f2
  have hWs : s.WarmedH U.vm := State.WarmedH.trans hW0 hW
  have hcl : s.vm.findClass cls = some ce.cls := by
    have h9 := hO.cls
    rw [hvm] at h9
    exact h9
  have hall : s.sameButNew ({ U with vm := s.vm } : State) locs mc ms := by
    subst hA
    obtain ⟨e1, e2⟩ := hsame
    rw [State.setFrames_setFrames] at e1
    have h2 : (T.setVm s.vm).sameButNew ({ U with vm := s.vm } : State) [] (0 + 1) (0 + 6) := ⟨e1, e2⟩
    have h3 := X.same.trans h2
    rw [List.append_nil] at h3
    exact h3.mono hc hs
  refine ⟨U, ?_, .threw T.heap.size, hrun, hend, Or.inr ⟨T.heap.size, rfl, cls, ce, locs, hx U hWs.alike f1 (fun q hq => f2 q hq (fun z hz => nomatch hz)), hce, hO.vm, hcl, hWs, hall, hf⟩⟩
  refine st1 _ ?_
  show Steps p.tables e below (T1.setTop { method := m, pc := pc + 3, locals := ls, stack := .ref T.heap.size :: rest, locked := none }) _
  jvm_step X₁.here [X₁.here.top, hexec, d3', Value.category]
  exact X₁.ldcString hexec (own := own) (text := text) (index := is) (a := sa) hown' hstr'.1 hstr'.2
    (g := { method := m, pc := pc + 4, locals := ls, stack := .ref T.heap.size :: .ref T.heap.size :: rest, locked := none }) rfl d4' _ hsteps
/-- 'throw new E("text")', the text by a wide index -/
theorem vx_throwSW {cc : ByteArray} {pc : Nat} (hexec : p.tables.exec = Jvm.exec) (hb : c.code = cc) (hl : l.stackTraces = false) {own cls text : String} {names : List String} {ik is ic mc ms sa : Nat} {A : Nat → Prop}
    (hown : s.vm.findClass own = some m.cls) (hcls : Bundle.fit cls = true) (hnames : ∀ n ∈ names, Bundle.fit n = true)
    (hk : (Cond.classLink own ik cls).before args s = true) (hini : (Cond.initialized cls).before args s = true) (hstr : vk_R own is text sa s) (hat : ∀ w ∈ vx_atS own ic cls names, w.before args s = true)
    (hgood : ∀ w ∈ Cond.classLink own ik cls :: Cond.initialized cls :: vx_atS own ic cls names, vx_ot w = true)
    (hU : vx_Zq Bundle.tN "UNASSIGNED_STACK" Bundle.steD A s s.heap) (hN : vx_Zq Bundle.tN "SUPPRESSED_SENTINEL" Bundle.listD A s s.heap) (hS : va_S A s.heap H locs) (hsize : ls.size = c.maxLocals)
    (d0 : decode cc pc = .ok (.new ik, 3)) (d3 : decode cc (pc + 3) = .ok (.dup, 1)) (d4 : decode cc (pc + 4) = .ok (.ldc_w is, 3)) (d7 : decode cc (pc + 7) = .ok (.invokespecial ic, 3)) (d10 : decode cc (pc + 10) = .ok (.athrow, 1))
    (hout : ∀ x ∈ c.exceptionTable.toList, covers x (pc + 10) = false)
    (hRframes : names.length + 3 < R.frames) (hRlocals : (rest.map fun v => v.category).sum + (13 * (names.length + 1) + 43) ≤ R.locals) (hRcells : cells + 1 ≤ R.cells) (hRslots : slots + 6 ≤ R.slots) (hlocks : meth.locks = false)
    (hx : ∀ t : State, s.vm.Alike t.vm → H.size ≤ t.heap.size → (∀ q : Nat, q < H.size → t.heap[q]? = H[q]?) → XC cls s t)
    (hf : ∀ z ∈ locs, free z.base) (hc : cells + 1 ≤ mc) (hs : slots + 6 ≤ ms) :
    W p l e R s m args below meth c H locs cells slots (vx_MQ below Qc XC args s mc ms free) (F0 m pc ls rest) := by
  intro T hT X
  have htr : e.platform.stackTraces = false := (show e.platform.stackTraces = l.stackTraces by rw [X.admits.platform]).trans hl
  have Y := vx_rebase X (R' := { frames := R.frames, locals := R.locals, cells := 1, slots := 6 }) (Nat.le_refl _) (Nat.le_refl _) hRcells hRslots
  obtain ⟨s', hA⟩ : ∃ z, z = (T.setVm s.vm).setFrames (.invoking m args :: below) := ⟨_, rfl⟩
  rw [← hA] at Y
  have hvm : s'.vm = s.vm := by rw [hA]; rfl
  have hhp : s'.heap = H := by rw [hA]; exact hT
  have hW0 : s.WarmedH s'.vm := by rw [hvm]; exact State.WarmedH.refl s
  have hat' : ∀ w ∈ vx_atS own ic cls names, w.before args s' = true := fun w hw => vx_ot_at hW0 hvm.symm (hgood w (List.mem_cons_of_mem _ (List.mem_cons_of_mem _ hw))) (hat w hw)
  have hk' : (Cond.classLink own ik cls).before args s' = true := vx_ot_at hW0 hvm.symm (hgood _ List.mem_cons_self) hk
  have hini' : (Cond.initialized cls).before args s' = true := vx_ot_at hW0 hvm.symm (hgood _ (List.mem_cons_of_mem _ List.mem_cons_self)) hini
  have hU' : vx_Zq Bundle.tN "UNASSIGNED_STACK" Bundle.steD A s' s'.heap := by rw [hhp]; exact vx_Zq.moved hW0.alike (hU.kept hS.2.1)
  have hN' : vx_Zq Bundle.tN "SUPPRESSED_SENTINEL" Bundle.listD A s' s'.heap := by rw [hhp]; exact vx_Zq.moved hW0.alike (hN.kept hS.2.1)
  have h : ∀ w ∈ Bundle.ownAtoms own ic cls names, w.before args s' = true := vx_own hat' (vx_isRefq hU'.1) (vx_isRefq hN'.1) hU'.2.word hN'.2.word
  have hown' : s'.vm.findClass own = some m.cls := by rw [hvm]; exact hown
  have hins : (Cond.instantiable cls 6).before args s' = true := h _ (by simp [Bundle.ownAtoms])
  obtain ⟨vm₁, cX, kX, hfX, hkX, -, -, X₁, st1⟩ := Y.newCold hexec (own := own) (C := cls) (index := ik) (n := 6) hown' hk' hins hini'
    (g := F0 m pc ls rest) rfl (by rw [hb]; exact d0) (Nat.le_refl _) (Nat.le_refl _)
  generalize hT1 : (T.setVm vm₁).pushCell { cls := cX, slots := kX.instanceTypes.map defaultValue, vm := .none } = T1 at X₁ st1
  have hcat : (Value.ref T.heap.size).category = 1 := rfl
  have hcellA : T1.heap[T.heap.size]? = some (freshCell cX kX) := by rw [← hT1]; exact State.heap_pushCell_size _ _
  have d3' : decode c.code (pc + 3) = .ok (.dup, 1) := by rw [hb]; exact d3
  have d4' : decode c.code (pc + 4) = .ok (.ldc_w is, 3) := by rw [hb]; exact d4
  have hstr' : vk_R own is text sa s' := vk_R.warm hW0 hstr
  obtain ⟨U, hsteps, hrun, hend, hW, hsame, ce, hce, hO⟩ := X₁.ctorThrowS hexec htr (own := own) (cls := cls) (names := names) (ic := ic) hown' hcls hnames h (fun x hx => nomatch hx) hfX hkX hcellA (by rw [hhp, hT]; exact Nat.le_refl _) (msg := .ref sa) rfl
    (g := { method := m, pc := pc + 7, locals := ls, stack := .ref sa :: .ref T.heap.size :: .ref T.heap.size :: rest, locked := none }) rfl hsize rfl rfl (rest := rest) rfl
    (by rw [hb]; exact d7) (by rw [hb]; exact d10) hout hRframes (by simp only [List.map_cons, List.sum_cons, hcat]; omega) hlocks
  obtain ⟨f1, f2⟩ := vx_frame hsame
  rw [hhp] at f1 f2
  have hWs : s.WarmedH U.vm := State.WarmedH.trans hW0 hW
  have hcl : s.vm.findClass cls = some ce.cls := by
    have h9 := hO.cls
    rw [hvm] at h9
    exact h9
  have hall : s.sameButNew ({ U with vm := s.vm } : State) locs mc ms := by
    subst hA
    obtain ⟨e1, e2⟩ := hsame
    rw [State.setFrames_setFrames] at e1
    have h2 : (T.setVm s.vm).sameButNew ({ U with vm := s.vm } : State) [] (0 + 1) (0 + 6) := ⟨e1, e2⟩
    have h3 := X.same.trans h2
    rw [List.append_nil] at h3
    exact h3.mono hc hs
  refine ⟨U, ?_, .threw T.heap.size, hrun, hend, Or.inr ⟨T.heap.size, rfl, cls, ce, locs, hx U hWs.alike f1 (fun q hq => f2 q hq (fun z hz => nomatch hz)), hce, hO.vm, hcl, hWs, hall, hf⟩⟩
  refine st1 _ ?_
  show Steps p.tables e below (T1.setTop { method := m, pc := pc + 3, locals := ls, stack := .ref T.heap.size :: rest, locked := none }) _
  jvm_step X₁.here [X₁.here.top, hexec, d3', Value.category]
  exact X₁.ldcStringW hexec (own := own) (text := text) (index := is) (a := sa) hown' hstr'.1 hstr'.2
    (g := { method := m, pc := pc + 4, locals := ls, stack := .ref T.heap.size :: .ref T.heap.size :: rest, locked := none }) rfl d4' _ hsteps
end Ends
section Bodies
variable {l : Launch}
theorem vx_ofW {y : MethodName} {ws ws' : List Cond} {rm : Room} {Pc : Array Value → State → Prop} {Qc : Array Value → State → Outcome → State → Prop} {XC : String → State → State → Prop} {mc ms : Nat} {free : Addr → Prop} {cc : ByteArray} {maxL : Nat} {ret : Option FieldType}
    (hy : plainName y.cls = true) (hw : ws = Cond.code y cc maxL ret :: ws')
    (body : ∀ p e s m args below meth c s₁, BodyLoose p l y (headSpec ws rm) cc maxL ret e s m args below meth c s₁ → c.maxLocals = maxL → (∀ x ∈ c.exceptionTable.toList, False) → Pc args s →
      W p l e (headSpec ws rm).room s m args below meth c s.heap [] 0 0 (vx_MQ below Qc XC args s mc ms free) (entryFrame m args maxL)) : vx_Met l y ws rm Pc Qc XC mc ms free := by
  refine MetFree.of_bodyS (code := cc) (maxLocals := maxL) (ret := ret) hy ?_ ?_
  · intro args s m h hn
    obtain ⟨meth, c, h1, h2, h3, h4, h5, h6, -, -⟩ := Cond.code_spec hn (atoms_spec (ws := ws) h _ (by rw [hw]; exact List.mem_cons_self))
    exact ⟨meth, c, h1, h2, h3, h4, h5, h6⟩
  · intro p e s m args below meth c s₁ B hml hP _
    have hh0 : s₁.heap = s.heap := by rw [B.state]; rfl
    have ht : ∀ x ∈ c.exceptionTable.toList, False := by
      obtain ⟨meth9, c9, h1, h2, -, -, -, -, h7, -⟩ := Cond.code_spec B.named (atoms_spec (ws := ws) B.pre _ (by rw [hw]; exact List.mem_cons_self))
      cases Option.some.inj (h1.symm.trans B.method)
      cases Option.some.inj (h2.symm.trans (Stand.of_body B).code)
      intro x hx
      rw [Array.isEmpty_iff.mp h7] at hx
      cases hx
    obtain ⟨t, a1, o, b1, b2, b3⟩ := body p e s m args below meth c s₁ B hml ht hP s₁ hh0 (Stand.of_body B)
    exact ⟨t, o, a1, b1, b2, b3⟩
/-- the table of a body with handlers -/
theorem vx_table {p : Program} {x y : MethodName} {S : Spec} {cc bytes : ByteArray} {maxL maxL' : Nat} {ret ret' : Option FieldType} {e : Env} {s s₁ : State} {m : MethodId} {args : Array Value} {below : List Frame} {meth : Method} {c : Code} {hh : List (Nat × Nat × Nat × Nat)}
    (B : BodyLoose p l y S cc maxL ret e s m args below meth c s₁) (h : (Cond.codeWith y bytes maxL' ret' hh).before args s = true) : c.exceptionTable.toList = tableOf hh := by
  obtain ⟨m9, meth9, c9, hn9, h1, h2, -, -, h6, -⟩ := Cond.codeWith_spec h
  cases Option.some.inj (hn9.symm.trans B.named)
  cases Option.some.inj (h1.symm.trans B.method)
  cases Option.some.inj (h2.symm.trans (Stand.of_body B).code)
  rw [← h6, table_eq]
end Bodies
end VXA
/-! ===== END ===== -/
/-! ===== BEGIN a static call of a method with an exception table ===== -/
section VXS
variable {p : Program} {l : Launch} {e : Env} {R : Room} {s : State} {m : MethodId} {args : Array Value} {below : List Frame} {meth : Method} {c : Code} {T : State} {H : Heap} {locs : List Loc} {cells slots : Nat}
abbrev vx_CSW (R : Room) (s : State) (args : Array Value) (own : String) (index : Nat) (y : MethodName) (bytes : ByteArray) (maxL : Nat) (ret : Option FieldType) (hh : List (Nat × Nat × Nat × Nat)) (ws : List Cond) (rm : Room) (mc ms n : Nat) : Prop :=
  (rm.cells = mc ∧ rm.slots = ms ∧ rm.frames + 1 ≤ R.frames ∧ 8 + (maxL + 11) + rm.locals ≤ R.locals ∧ (∀ w ∈ ws, ∀ (a' : Array Value) (U : State), s.WarmedH U.vm → w.before a' U = true) ∧ Cond.codeWith y bytes maxL ret hh ∈ ws) ∧
  (Cond.codeWith y bytes maxL ret hh).before args s = true ∧ (Cond.initialized y.cls).before args s = true ∧ (y.cls ≠ "java/lang/invoke/MethodHandle" ∧ y.cls ≠ "java/lang/invoke/VarHandle") ∧
  (∀ sig, parseMethodDescriptor y.desc = some sig → n = sig.parameters.length) ∧ (Cond.methodLink own index y).before args s = true ∧ (Cond.static y).before args s = true
theorem vx_cwSW {own : String} {index maxL mc ms : Nat} {y : MethodName} {bytes : ByteArray} {ret : Option FieldType} {hh : List (Nat × Nat × Nat × Nat)} {Ts ws ws' : List Cond} {rm : Room} (n : Nat) (ht : ∀ w ∈ Ts, w.before args s = true) (hT : GoodIn Ts (va_wsS own index y ws)) (hw : ws = Cond.codeWith y bytes maxL ret hh :: ws') (hrc : rm.cells = mc) (hrs : rm.slots = ms)
    (hd : y.cls ≠ "java/lang/invoke/MethodHandle" ∧ y.cls ≠ "java/lang/invoke/VarHandle" ∧ (parseMethodDescriptor y.desc).map (fun d => d.parameters.length) = some n) (hR : rm.frames + 1 ≤ R.frames ∧ 8 + (maxL + 11) + rm.locals ≤ R.locals) :
    vx_CSW R s args own index y bytes maxL ret hh ws rm mc ms n := by
  have ok : ∀ w ∈ va_wsS own index y ws, w.before args s = true := fun w h => ht w (hT w h).1
  have hG : GoodIn Ts ws := fun w h => hT w (by unfold va_wsS; exact List.mem_append_right _ h)
  have hc : Cond.codeWith y bytes maxL ret hh ∈ ws := by rw [hw]; exact List.mem_cons_self
  refine ⟨⟨hrc, hrs, hR.1, hR.2, pay_in ht hG, hc⟩, ht _ (hG _ hc).1, ok _ (by simp [va_wsS]), ⟨hd.1, hd.2.1⟩, fun sig h => ?_, ok _ (by simp [va_wsS]), ok _ (by simp [va_wsS])⟩
  have h2 := hd.2.2
  rw [h] at h2
  exact (Option.some.inj h2).symm
theorem vx_callSW (X : Stand p l e R s m args below meth c T locs cells slots) (hexec : p.tables.exec = Jvm.exec) {own : String} {index : Nat} {y : MethodName} {bytes : ByteArray} {maxL : Nat} {ret : Option FieldType} {hh : List (Nat × Nat × Nat × Nat)}
    (hown : s.vm.findClass own = some m.cls) (hlink : (Cond.methodLink own index y).before args s = true) (hstat : (Cond.static y).before args s = true) (hinit : (Cond.initialized y.cls).before args s = true)
    (hcode : (Cond.codeWith y bytes maxL ret hh).before args s = true) (hy : y.cls ≠ "java/lang/invoke/MethodHandle" ∧ y.cls ≠ "java/lang/invoke/VarHandle")
    {W9 : Nat} {Pre : Pt → Array Value → Prop} {Post : Pt → Array Value → Option Value → Pt → Prop} (hK : Back l R p e below s args y 3 W9 Pre Post)
    {g : JFrame} (hg : g.method = m) (hsize : g.locals.size = c.maxLocals) {argsL rest : List Value} (hlen : ∀ sig, parseMethodDescriptor y.desc = some sig → argsL.length = sig.parameters.length)
    (hstack : g.stack = argsL.reverse ++ rest) (hW : 2 * g.monitorRoom + (rest.map fun v => v.category).sum ≤ W9) (hdg : decode c.code g.pc = .ok (.invokestatic index, 3))
    (hpre : ∀ vm₁, s.WarmedH vm₁ → Pre ⟨T.setVm vm₁, locs, cells, slots⟩ argsL.toArray) :
    ∃ (v : Option Value) (vm₁ : Vm) (B : Pt), s.WarmedH vm₁ ∧ Stand p l e R s m args below meth c B.U B.locs B.cells B.slots ∧ Post ⟨T.setVm vm₁, locs, cells, slots⟩ argsL.toArray v B ∧
      ∀ target, Steps p.tables e below (B.U.setTop { g with pc := g.pc + 3, stack := v.toList ++ rest }) target → Steps p.tables e below (T.setTop g) target := by
  obtain ⟨mk, methM, cM, hnamed, hmethM, -, -, -, -, -, -, hsigM⟩ := Cond.codeWith_spec hcode
  have hstatic : methM.isStatic = true := Cond.static_spec hnamed hmethM hstat
  obtain ⟨kP, hkP, -⟩ := className_of_methodNamed hnamed
  have hinitP : kP.init = .initialized := Cond.initialized_spec (findClass_of_methodNamed hnamed) hkP hinit
  obtain ⟨vm₁, X₁, hstep₁⟩ := X.invokestatic hexec hown hlink hnamed hmethM hstatic hkP hinitP hy (g := g) hg (argsL := argsL) (rest := rest) (hlen _ hsigM) hstack hdg
  obtain ⟨v, B, X', hpost, hsteps⟩ := hK m meth c ⟨T.setVm vm₁, locs, cells, slots⟩ { g with stack := rest } (.invokestatic index) mk argsL.toArray X₁ hg hsize hdg hW (X₁.named hnamed) (hpre vm₁ X₁.warmed)
  exact ⟨v, vm₁, B, X₁.warmed, X', hpost, fun target h => hstep₁ _ fun acts => by rw [doInvoke_state]; exact hsteps.trans h⟩
theorem vx_runSW {y : MethodName} {bytes cc : ByteArray} {maxL nL mc ms n index : Nat} {ret : Option FieldType} {hh : List (Nat × Nat × Nat × Nat)} {ws : List Cond} {rm : Room} {Pc : Array Value → State → Prop} {Qc : Array Value → State → Outcome → State → Prop} {free : Addr → Prop} {Ts : List Cond} {own : String} {As rest : List Value} {g : JFrame}
    (S : CallFix p m c cc nL s args Ts own) (hM : Met l y ws rm Pc Qc mc ms free) (cw : vx_CSW R s args own index y bytes maxL ret hh ws rm mc ms n) (hp : PreS s H Pc As)
    (hg : g.method = m) (hn : As.length = n) (hsize : g.locals.size = nL) (hstack : g.stack = As.reverse ++ rest) (hW : 2 * g.monitorRoom + (rest.map fun v => v.category).sum ≤ 8) (hdg : decode cc g.pc = .ok (.invokestatic index, 3)) (hf : cells + mc ≤ R.cells ∧ slots + ms ≤ R.slots) :
    va_Run p l e R s m args below meth c H locs cells slots mc ms g rest (Qc As.toArray) (free) := by
  obtain ⟨⟨hrc, hrs, hfr, hlo, hws, hcw⟩, hcode, hini, hy, hlen, hl, hstt⟩ := cw
  have hK : Back l R p e below s args y 3 8 (PreOf R mc ms Pc) (PostOf Qc mc ms free) := va_backW (hh := hh) (bytes := bytes) (maxL := maxL) (ret := ret) hM hp.1 hrc hrs hfr hlo hws hcw (fun a' U hW => word_at hW (Or.inl (by first | rfl | simp [Cond.onTables, Cond.keeps, Cond.steady])) hini)
  obtain ⟨hx, hb, hml, ho, -⟩ := S
  intro T hT X
  obtain ⟨v, vm₁, ⟨U', l2, c2, s2⟩, hW₁, X', ⟨g', mk, t, L, e1, e2, hq, h1, hL, h2, h3⟩, st⟩ := vx_callSW X hx (hh := hh) (bytes := bytes) (maxL := maxL) (ret := ret) ho hl hstt hini hcode hy hK hg (hsize.trans hml.symm) (argsL := As) (rest := rest) (fun sig h => hn.trans (hlen sig h)) hstack hW (by rw [hb]; exact hdg)
    (fun vm₁ hW₁ => ⟨hf.1, hf.2, hp.2 (T.setVm vm₁) hT hW₁⟩)
  dsimp only [Pt.U, Pt.locs, Pt.cells, Pt.slots] at X' e1 e2 h1 h2 h3 st
  subst h1; subst h2; subst h3
  exact ⟨v, (T.setVm vm₁).calling g' mk As.toArray, t, U', L, hT, X', hL, e1, e2, hq, st⟩
/-- a thing of a world lies in the heap -/
theorem vx_lt {D : va_G} {cl : List vw_C} {ws : va_W} {H1 : Heap} (h : va_P D cl ws H1) {k : Nat} {q : Nat × va_E} (hk : ws[k]? = some q) : q.1 < H1.size := (h k q hk).lt
end VXS
/-! ===== END ===== -/
end
section
def RX0 : String := "TimetableDesk$Board"
def TX0 : u_T := fun k => match k with
  | 0 => ("TimetableDesk$Board", "days", "I", true)
  | 1 => ("TimetableDesk$Board", "perDay", "I", true)
  | 2 => ("TimetableDesk$Board", "periods", "I", true)
  | 3 => ("TimetableDesk$Board", "firstPeriods", "I", true)
  | 4 => ("TimetableDesk$Board", "lastPeriods", "I", true)
  | 5 => ("TimetableDesk$Board", "lessons", "LTimetableDesk$Lessons;", true)
  | 6 => ("TimetableDesk$Board", "kinds", "[I", true)
  | 7 => ("TimetableDesk$Board", "blocked", "[I", true)
  | 8 => ("TimetableDesk$Board", "busy", "[I", true)
  | _ => ("TimetableDesk$Board", "spots", "[I", true)
def tyX0 : Nat → FieldType := fun k => match k with
  | 0 => .int
  | 1 => .int
  | 2 => .int
  | 3 => .int
  | 4 => .int
  | 5 => .object "TimetableDesk$Lessons"
  | 6 => .array .int
  | 7 => .array .int
  | 8 => .array .int
  | _ => .array .int
abbrev wsX00 : List Cond := u_ws RX0 TX0 10
theorem nmX0 : ∀ a, a < 10 → ∀ b, b < 10 → a ≠ b → (TX0 a).2.1 ≠ (TX0 b).2.1 := by decide +kernel
theorem tyX0_ok : ∀ k, k < 10 → parseFieldDescriptor (TX0 k).2.2.1 = some (tyX0 k) := by decide +kernel
abbrev cX0_init : ByteArray := prog_2_method_1_code
def yX0_init : MethodName := ⟨RX0, "<init>", "(II)V"⟩
abbrev cX0_isPlaced : ByteArray := prog_2_method_2_code
def yX0_isPlaced : MethodName := ⟨RX0, "isPlaced", "(I)Z"⟩
abbrev cX0_periodOfItem : ByteArray := prog_2_method_3_code
def yX0_periodOfItem : MethodName := ⟨RX0, "periodOfItem", "(I)I"⟩
abbrev cX0_roomOfItem : ByteArray := prog_2_method_4_code
def yX0_roomOfItem : MethodName := ⟨RX0, "roomOfItem", "(I)I"⟩
abbrev cX0_bitsOfItem : ByteArray := prog_2_method_5_code
def yX0_bitsOfItem : MethodName := ⟨RX0, "bitsOfItem", "(I)I"⟩
abbrev cX0_isOnDay : ByteArray := prog_2_method_6_code
def yX0_isOnDay : MethodName := ⟨RX0, "isOnDay", "(II)Z"⟩
abbrev cX0_putAt : ByteArray := prog_2_method_7_code
def yX0_putAt : MethodName := ⟨RX0, "putAt", "(II)V"⟩
abbrev cX0_mark : ByteArray := prog_2_method_8_code
def yX0_mark : MethodName := ⟨RX0, "mark", "(I)V"⟩
abbrev cX0_takeOut : ByteArray := prog_2_method_9_code
def yX0_takeOut : MethodName := ⟨RX0, "takeOut", "(I)V"⟩
abbrev cX0_markAllAgain : ByteArray := prog_2_method_10_code
def yX0_markAllAgain : MethodName := ⟨RX0, "markAllAgain", "()V"⟩
abbrev cX0_putByRules : ByteArray := prog_2_method_11_code
def yX0_putByRules : MethodName := ⟨RX0, "putByRules", "(II)I"⟩
abbrev cX0_brokenRule : ByteArray := prog_2_method_12_code
def yX0_brokenRule : MethodName := ⟨RX0, "brokenRule", "(II)I"⟩
abbrev cX0_eitherClass : ByteArray := prog_2_method_13_code
def yX0_eitherClass : MethodName := ⟨RX0, "eitherClass", "([II)I"⟩
abbrev cX0_isLessonOnDay : ByteArray := prog_2_method_14_code
def yX0_isLessonOnDay : MethodName := ⟨RX0, "isLessonOnDay", "(II)Z"⟩
abbrev cX0_lowestRoom : ByteArray := prog_2_method_15_code
def yX0_lowestRoom : MethodName := ⟨RX0, "lowestRoom", "(II)I"⟩
abbrev cX0_weekPenalty : ByteArray := prog_2_method_16_code
def yX0_weekPenalty : MethodName := ⟨RX0, "weekPenalty", "()I"⟩
abbrev cX0_teacherPart : ByteArray := prog_2_method_17_code
def yX0_teacherPart : MethodName := ⟨RX0, "teacherPart", "(I)I"⟩
abbrev cX0_classPart : ByteArray := prog_2_method_18_code
def yX0_classPart : MethodName := ⟨RX0, "classPart", "(I)I"⟩
abbrev cX0_gapsIn : ByteArray := prog_2_method_19_code
def yX0_gapsIn : MethodName := ⟨RX0, "gapsIn", "(I)I"⟩
abbrev cX0_betterAll : ByteArray := prog_2_method_20_code
def yX0_betterAll : MethodName := ⟨RX0, "betterAll", "()Z"⟩
abbrev cX0_moveToBest : ByteArray := prog_2_method_21_code
def yX0_moveToBest : MethodName := ⟨RX0, "moveToBest", "(I)Z"⟩
abbrev cX0_partWith : ByteArray := prog_2_method_22_code
def yX0_partWith : MethodName := ⟨RX0, "partWith", "(II)I"⟩
abbrev cX0_letterAt : ByteArray := prog_2_method_23_code
def yX0_letterAt : MethodName := ⟨RX0, "letterAt", "(II)I"⟩
abbrev cX0_isUsedBy : ByteArray := prog_2_method_24_code
def yX0_isUsedBy : MethodName := ⟨RX0, "isUsedBy", "(II)Z"⟩
abbrev cX0_itemBeginningAt : ByteArray := prog_2_method_25_code
def yX0_itemBeginningAt : MethodName := ⟨RX0, "itemBeginningAt", "(II)I"⟩
abbrev cX0_itemsOnDay : ByteArray := prog_2_method_26_code
def yX0_itemsOnDay : MethodName := ⟨RX0, "itemsOnDay", "(II)I"⟩
def RX1 : String := "TimetableDesk$Cover"
def TX1 : u_T := fun k => match k with
  | 0 => ("TimetableDesk$Cover", "given", "[I", true)
  | _ => ("TimetableDesk$Cover", "count", "I", false)
def tyX1 : Nat → FieldType := fun k => match k with
  | 0 => .array .int
  | _ => .int
abbrev wsX10 : List Cond := u_ws RX1 TX1 2
theorem nmX1 : ∀ a, a < 2 → ∀ b, b < 2 → a ≠ b → (TX1 a).2.1 ≠ (TX1 b).2.1 := by decide +kernel
theorem tyX1_ok : ∀ k, k < 2 → parseFieldDescriptor (TX1 k).2.2.1 = some (tyX1 k) := by decide +kernel
abbrev cX1_init : ByteArray := prog_3_method_1_code
def yX1_init : MethodName := ⟨RX1, "<init>", "()V"⟩
abbrev cX1_find : ByteArray := prog_3_method_2_code
def yX1_find : MethodName := ⟨RX1, "find", "(LTimetableDesk$Board;II)V"⟩
abbrev cX1_bestFor : ByteArray := prog_3_method_3_code
def yX1_bestFor : MethodName := ⟨RX1, "bestFor", "(LTimetableDesk$Board;III)I"⟩
abbrev cX1_timesGiven : ByteArray := prog_3_method_4_code
def yX1_timesGiven : MethodName := ⟨RX1, "timesGiven", "(I)I"⟩
def RX2 : String := "TimetableDesk$Journal"
def TX2 : u_T := fun k => match k with
  | 0 => ("TimetableDesk$Journal", "rows", "[I", true)
  | 1 => ("TimetableDesk$Journal", "oldest", "I", false)
  | _ => ("TimetableDesk$Journal", "count", "I", false)
def tyX2 : Nat → FieldType := fun k => match k with
  | 0 => .array .int
  | 1 => .int
  | _ => .int
abbrev wsX20 : List Cond := u_ws RX2 TX2 3
theorem nmX2 : ∀ a, a < 3 → ∀ b, b < 3 → a ≠ b → (TX2 a).2.1 ≠ (TX2 b).2.1 := by decide +kernel
theorem tyX2_ok : ∀ k, k < 3 → parseFieldDescriptor (TX2 k).2.2.1 = some (tyX2 k) := by decide +kernel
abbrev cX2_init : ByteArray := prog_4_method_1_code
def yX2_init : MethodName := ⟨RX2, "<init>", "()V"⟩
abbrev cX2_startOf : ByteArray := prog_4_method_2_code
def yX2_startOf : MethodName := ⟨RX2, "startOf", "(I)I"⟩
abbrev cX2_draw : ByteArray := prog_4_method_3_code
def yX2_draw : MethodName := ⟨RX2, "draw", "([I)V"⟩
abbrev cX2_keep : ByteArray := prog_4_method_4_code
def yX2_keep : MethodName := ⟨RX2, "keep", "()V"⟩
abbrev cX2_takeBack : ByteArray := prog_4_method_5_code
def yX2_takeBack : MethodName := ⟨RX2, "takeBack", "([I)V"⟩
def RX3 : String := "TimetableDesk$Lessons"
def TX3 : u_T := fun k => match k with
  | 0 => ("TimetableDesk$Lessons", "first", "[I", true)
  | 1 => ("TimetableDesk$Lessons", "second", "[I", true)
  | 2 => ("TimetableDesk$Lessons", "teacher", "[I", true)
  | 3 => ("TimetableDesk$Lessons", "kind", "[I", true)
  | 4 => ("TimetableDesk$Lessons", "length", "[I", true)
  | 5 => ("TimetableDesk$Lessons", "times", "[I", true)
  | 6 => ("TimetableDesk$Lessons", "subject", "[I", true)
  | _ => ("TimetableDesk$Lessons", "count", "I", false)
def tyX3 : Nat → FieldType := fun k => match k with
  | 0 => .array .int
  | 1 => .array .int
  | 2 => .array .int
  | 3 => .array .int
  | 4 => .array .int
  | 5 => .array .int
  | 6 => .array .int
  | _ => .int
abbrev wsX30 : List Cond := u_ws RX3 TX3 8
theorem nmX3 : ∀ a, a < 8 → ∀ b, b < 8 → a ≠ b → (TX3 a).2.1 ≠ (TX3 b).2.1 := by decide +kernel
theorem tyX3_ok : ∀ k, k < 8 → parseFieldDescriptor (TX3 k).2.2.1 = some (tyX3 k) := by decide +kernel
abbrev cX3_init : ByteArray := prog_5_method_1_code
def yX3_init : MethodName := ⟨RX3, "<init>", "()V"⟩
abbrev cX3_add : ByteArray := prog_5_method_2_code
def yX3_add : MethodName := ⟨RX3, "add", "(IIIIII)I"⟩
abbrev cX3_hasItem : ByteArray := prog_5_method_3_code
def yX3_hasItem : MethodName := ⟨RX3, "hasItem", "(II)Z"⟩
abbrev cX3_bitsAt : ByteArray := prog_5_method_4_code
def yX3_bitsAt : MethodName := ⟨RX3, "bitsAt", "(II)I"⟩
def RX4 : String := "TimetableDesk$Search"
def TX4 : u_T := fun k => match k with
  | 0 => ("TimetableDesk$Search", "queue", "[I", true)
  | 1 => ("TimetableDesk$Search", "next", "[I", true)
  | 2 => ("TimetableDesk$Search", "queued", "I", false)
  | _ => ("TimetableDesk$Search", "tried", "I", false)
def tyX4 : Nat → FieldType := fun k => match k with
  | 0 => .array .int
  | 1 => .array .int
  | 2 => .int
  | _ => .int
abbrev wsX40 : List Cond := u_ws RX4 TX4 4
theorem nmX4 : ∀ a, a < 4 → ∀ b, b < 4 → a ≠ b → (TX4 a).2.1 ≠ (TX4 b).2.1 := by decide +kernel
theorem tyX4_ok : ∀ k, k < 4 → parseFieldDescriptor (TX4 k).2.2.1 = some (tyX4 k) := by decide +kernel
abbrev cX4_init : ByteArray := prog_6_method_1_code
def yX4_init : MethodName := ⟨RX4, "<init>", "()V"⟩
abbrev cX4_run : ByteArray := prog_6_method_2_code
def yX4_run : MethodName := ⟨RX4, "run", "(LTimetableDesk$Board;I)I"⟩
abbrev cX4_collect : ByteArray := prog_6_method_3_code
def yX4_collect : MethodName := ⟨RX4, "collect", "(LTimetableDesk$Board;)V"⟩
abbrev cX4_aim : ByteArray := prog_6_method_4_code
def yX4_aim : MethodName := ⟨RX4, "aim", "(LTimetableDesk$Board;I)V"⟩
abbrev cX4_tryNext : ByteArray := prog_6_method_5_code
def yX4_tryNext : MethodName := ⟨RX4, "tryNext", "(LTimetableDesk$Board;I)Z"⟩
abbrev cX4_takeAllOut : ByteArray := prog_6_method_6_code
def yX4_takeAllOut : MethodName := ⟨RX4, "takeAllOut", "(LTimetableDesk$Board;I)V"⟩
def RX5 : String := "TimetableDesk"
def TX5 : u_T := fun k => match k with
  | 0 => ("TimetableDesk", "board", "LTimetableDesk$Board;", true)
  | 1 => ("TimetableDesk", "search", "LTimetableDesk$Search;", true)
  | 2 => ("TimetableDesk", "cover", "LTimetableDesk$Cover;", true)
  | _ => ("TimetableDesk", "journal", "LTimetableDesk$Journal;", true)
def tyX5 : Nat → FieldType := fun k => match k with
  | 0 => .object "TimetableDesk$Board"
  | 1 => .object "TimetableDesk$Search"
  | 2 => .object "TimetableDesk$Cover"
  | _ => .object "TimetableDesk$Journal"
abbrev wsX50 : List Cond := u_ws RX5 TX5 4
theorem nmX5 : ∀ a, a < 4 → ∀ b, b < 4 → a ≠ b → (TX5 a).2.1 ≠ (TX5 b).2.1 := by decide +kernel
theorem tyX5_ok : ∀ k, k < 4 → parseFieldDescriptor (TX5 k).2.2.1 = some (tyX5 k) := by decide +kernel
abbrev cX5_init : ByteArray := prog_1_method_1_code
def yX5_init : MethodName := ⟨RX5, "<init>", "(II)V"⟩
abbrev cX5_room : ByteArray := prog_1_method_2_code
def yX5_room : MethodName := ⟨RX5, "room", "(II)V"⟩
abbrev cX5_lesson : ByteArray := prog_1_method_3_code
def yX5_lesson : MethodName := ⟨RX5, "lesson", "(IIIIII)I"⟩
abbrev cX5_block : ByteArray := prog_1_method_4_code
def yX5_block : MethodName := ⟨RX5, "block", "(IIIZ)V"⟩
abbrev cX5_place : ByteArray := prog_1_method_5_code
def yX5_place : MethodName := ⟨RX5, "place", "(III)I"⟩
abbrev cX5_drop : ByteArray := prog_1_method_6_code
def yX5_drop : MethodName := ⟨RX5, "drop", "(II)I"⟩
abbrev cX5_fill : ByteArray := prog_1_method_7_code
def yX5_fill : MethodName := ⟨RX5, "fill", "(I)I"⟩
abbrev cX5_tries : ByteArray := prog_1_method_8_code
def yX5_tries : MethodName := ⟨RX5, "tries", "()I"⟩
abbrev cX5_period : ByteArray := prog_1_method_9_code
def yX5_period : MethodName := ⟨RX5, "period", "(II)I"⟩
abbrev cX5_roomOf : ByteArray := prog_1_method_10_code
def yX5_roomOf : MethodName := ⟨RX5, "roomOf", "(II)I"⟩
abbrev cX5_penalty : ByteArray := prog_1_method_11_code
def yX5_penalty : MethodName := ⟨RX5, "penalty", "()I"⟩
abbrev cX5_improve : ByteArray := prog_1_method_12_code
def yX5_improve : MethodName := ⟨RX5, "improve", "(I)I"⟩
abbrev cX5_absent : ByteArray := prog_1_method_13_code
def yX5_absent : MethodName := ⟨RX5, "absent", "(II)I"⟩
abbrev cX5_substitute : ByteArray := prog_1_method_14_code
def yX5_substitute : MethodName := ⟨RX5, "substitute", "(I)I"⟩
abbrev cX5_undo : ByteArray := prog_1_method_15_code
def yX5_undo : MethodName := ⟨RX5, "undo", "()I"⟩
abbrev cX5_page : ByteArray := prog_1_method_16_code
def yX5_page : MethodName := ⟨RX5, "page", "(III)I"⟩
abbrev cX5_isWithin : ByteArray := prog_1_method_17_code
def yX5_isWithin : MethodName := ⟨RX5, "isWithin", "(III)Z"⟩
abbrev cX5_isUser : ByteArray := prog_1_method_18_code
def yX5_isUser : MethodName := ⟨RX5, "isUser", "(II)Z"⟩
abbrev cX5_userOf : ByteArray := prog_1_method_19_code
def yX5_userOf : MethodName := ⟨RX5, "userOf", "(II)I"⟩
abbrev cX5_itemOf : ByteArray := prog_1_method_20_code
def yX5_itemOf : MethodName := ⟨RX5, "itemOf", "(II)I"⟩
abbrev cX5_lessonOf : ByteArray := prog_1_method_21_code
def yX5_lessonOf : MethodName := ⟨RX5, "lessonOf", "(I)I"⟩
def RX6 : String := "TimetableDeskModel"
def TX6 : u_T := fun k => match k with
  | 0 => ("TimetableDeskModel", "thrown", "I", false)
  | 1 => ("TimetableDeskModel", "days", "I", true)
  | 2 => ("TimetableDeskModel", "perDay", "I", true)
  | 3 => ("TimetableDeskModel", "kindOfRoom", "[I", true)
  | 4 => ("TimetableDeskModel", "lessons", "I", false)
  | 5 => ("TimetableDeskModel", "first", "[I", true)
  | 6 => ("TimetableDeskModel", "second", "[I", true)
  | 7 => ("TimetableDeskModel", "teacher", "[I", true)
  | 8 => ("TimetableDeskModel", "kind", "[I", true)
  | 9 => ("TimetableDeskModel", "length", "[I", true)
  | 10 => ("TimetableDeskModel", "times", "[I", true)
  | 11 => ("TimetableDeskModel", "subject", "[I", true)
  | 12 => ("TimetableDeskModel", "periodOf", "[I", true)
  | 13 => ("TimetableDeskModel", "roomAt", "[I", true)
  | 14 => ("TimetableDeskModel", "blocked", "[Z", true)
  | 15 => ("TimetableDeskModel", "tries", "I", false)
  | 16 => ("TimetableDeskModel", "list", "[I", true)
  | 17 => ("TimetableDeskModel", "keptPeriods", "[I", true)
  | 18 => ("TimetableDeskModel", "keptRooms", "[I", true)
  | 19 => ("TimetableDeskModel", "oldPeriods", "[I", true)
  | 20 => ("TimetableDeskModel", "oldRooms", "[I", true)
  | 21 => ("TimetableDeskModel", "entries", "I", false)
  | 22 => ("TimetableDeskModel", "found", "[I", true)
  | _ => ("TimetableDeskModel", "absences", "I", false)
def tyX6 : Nat → FieldType := fun k => match k with
  | 0 => .int
  | 1 => .int
  | 2 => .int
  | 3 => .array .int
  | 4 => .int
  | 5 => .array .int
  | 6 => .array .int
  | 7 => .array .int
  | 8 => .array .int
  | 9 => .array .int
  | 10 => .array .int
  | 11 => .array .int
  | 12 => .array .int
  | 13 => .array .int
  | 14 => .array .boolean
  | 15 => .int
  | 16 => .array .int
  | 17 => .array .int
  | 18 => .array .int
  | 19 => .array .int
  | 20 => .array .int
  | 21 => .int
  | 22 => .array .int
  | _ => .int
abbrev wsX60 : List Cond := u_ws RX6 TX6 24
theorem nmX6 : ∀ a, a < 24 → ∀ b, b < 24 → a ≠ b → (TX6 a).2.1 ≠ (TX6 b).2.1 := by decide +kernel
theorem tyX6_ok : ∀ k, k < 24 → parseFieldDescriptor (TX6 k).2.2.1 = some (tyX6 k) := by decide +kernel
abbrev cX6_init : ByteArray := prog_8_method_1_code
def yX6_init : MethodName := ⟨RX6, "<init>", "(II)V"⟩
abbrev cX6_thrown : ByteArray := prog_8_method_2_code
def yX6_thrown : MethodName := ⟨RX6, "thrown", "()I"⟩
abbrev cX6_throwing : ByteArray := prog_8_method_3_code
def yX6_throwing : MethodName := ⟨RX6, "throwing", "(ZZ)Z"⟩
abbrev cX6_in : ByteArray := prog_8_method_4_code
def yX6_in : MethodName := ⟨RX6, "in", "(III)Z"⟩
abbrev cX6_isPeriod : ByteArray := prog_8_method_5_code
def yX6_isPeriod : MethodName := ⟨RX6, "isPeriod", "(I)Z"⟩
abbrev cX6_isItem : ByteArray := prog_8_method_6_code
def yX6_isItem : MethodName := ⟨RX6, "isItem", "(II)Z"⟩
abbrev cX6_lessonOf : ByteArray := prog_8_method_7_code
def yX6_lessonOf : MethodName := ⟨RX6, "lessonOf", "(I)I"⟩
abbrev cX6_covers : ByteArray := prog_8_method_8_code
def yX6_covers : MethodName := ⟨RX6, "covers", "(II)Z"⟩
abbrev cX6_isOf : ByteArray := prog_8_method_9_code
def yX6_isOf : MethodName := ⟨RX6, "isOf", "(III)Z"⟩
abbrev cX6_itemAt : ByteArray := prog_8_method_10_code
def yX6_itemAt : MethodName := ⟨RX6, "itemAt", "(III)I"⟩
abbrev cX6_isBlocked : ByteArray := prog_8_method_11_code
def yX6_isBlocked : MethodName := ⟨RX6, "isBlocked", "(III)Z"⟩
abbrev cX6_room : ByteArray := prog_8_method_12_code
def yX6_room : MethodName := ⟨RX6, "room", "(II)V"⟩
abbrev cX6_lesson : ByteArray := prog_8_method_13_code
def yX6_lesson : MethodName := ⟨RX6, "lesson", "(IIIIII)I"⟩
abbrev cX6_block : ByteArray := prog_8_method_14_code
def yX6_block : MethodName := ⟨RX6, "block", "(IIIZ)V"⟩
abbrev cX6_anyBlocked : ByteArray := prog_8_method_15_code
def yX6_anyBlocked : MethodName := ⟨RX6, "anyBlocked", "(IIII)Z"⟩
abbrev cX6_anyItem : ByteArray := prog_8_method_16_code
def yX6_anyItem : MethodName := ⟨RX6, "anyItem", "(IIII)Z"⟩
abbrev cX6_freeRoom : ByteArray := prog_8_method_17_code
def yX6_freeRoom : MethodName := ⟨RX6, "freeRoom", "(II)I"⟩
abbrev cX6_rule : ByteArray := prog_8_method_18_code
def yX6_rule : MethodName := ⟨RX6, "rule", "(II)I"⟩
abbrev cX6_put : ByteArray := prog_8_method_19_code
def yX6_put : MethodName := ⟨RX6, "put", "(II)V"⟩
abbrev cX6_out : ByteArray := prog_8_method_20_code
def yX6_out : MethodName := ⟨RX6, "out", "(I)V"⟩
abbrev cX6_keep : ByteArray := prog_8_method_21_code
def yX6_keep : MethodName := ⟨RX6, "keep", "()V"⟩
abbrev cX6_restore : ByteArray := prog_8_method_22_code
def yX6_restore : MethodName := ⟨RX6, "restore", "()V"⟩
abbrev cX6_note : ByteArray := prog_8_method_23_code
def yX6_note : MethodName := ⟨RX6, "note", "()V"⟩
abbrev cX6_undo : ByteArray := prog_8_method_24_code
def yX6_undo : MethodName := ⟨RX6, "undo", "()I"⟩
abbrev cX6_place : ByteArray := prog_8_method_25_code
def yX6_place : MethodName := ⟨RX6, "place", "(III)I"⟩
abbrev cX6_drop : ByteArray := prog_8_method_26_code
def yX6_drop : MethodName := ⟨RX6, "drop", "(II)I"⟩
abbrev cX6_fill : ByteArray := prog_8_method_27_code
def yX6_fill : MethodName := ⟨RX6, "fill", "(I)I"⟩
abbrev cX6_tries : ByteArray := prog_8_method_28_code
def yX6_tries : MethodName := ⟨RX6, "tries", "()I"⟩
abbrev cX6_period : ByteArray := prog_8_method_29_code
def yX6_period : MethodName := ⟨RX6, "period", "(II)I"⟩
abbrev cX6_roomOf : ByteArray := prog_8_method_30_code
def yX6_roomOf : MethodName := ⟨RX6, "roomOf", "(II)I"⟩
abbrev cX6_gaps : ByteArray := prog_8_method_31_code
def yX6_gaps : MethodName := ⟨RX6, "gaps", "(III)I"⟩
abbrev cX6_penaltyNow : ByteArray := prog_8_method_32_code
def yX6_penaltyNow : MethodName := ⟨RX6, "penaltyNow", "()I"⟩
abbrev cX6_penalty : ByteArray := prog_8_method_33_code
def yX6_penalty : MethodName := ⟨RX6, "penalty", "()I"⟩
abbrev cX6_move : ByteArray := prog_8_method_34_code
def yX6_move : MethodName := ⟨RX6, "move", "(I)Z"⟩
abbrev cX6_improve : ByteArray := prog_8_method_35_code
def yX6_improve : MethodName := ⟨RX6, "improve", "(I)I"⟩
abbrev cX6_load : ByteArray := prog_8_method_36_code
def yX6_load : MethodName := ⟨RX6, "load", "(II)I"⟩
abbrev cX6_mayTake : ByteArray := prog_8_method_37_code
def yX6_mayTake : MethodName := ⟨RX6, "mayTake", "(II)Z"⟩
abbrev cX6_absent : ByteArray := prog_8_method_38_code
def yX6_absent : MethodName := ⟨RX6, "absent", "(II)I"⟩
abbrev cX6_substitute : ByteArray := prog_8_method_39_code
def yX6_substitute : MethodName := ⟨RX6, "substitute", "(I)I"⟩
abbrev cX6_page : ByteArray := prog_8_method_40_code
def yX6_page : MethodName := ⟨RX6, "page", "(III)I"⟩
def RJ6 : String := "java/lang/Integer"
def TJ6 : u_T := fun k => match k with
  | _ => ("", "", "", false)
def tyJ6 : Nat → FieldType := fun k => match k with
  | _ => .int
abbrev wsJ60 : List Cond := u_ws RJ6 TJ6 0
theorem nmJ6 : ∀ a, a < 0 → ∀ b, b < 0 → a ≠ b → (TJ6 a).2.1 ≠ (TJ6 b).2.1 := by decide +kernel
theorem tyJ6_ok : ∀ k, k < 0 → parseFieldDescriptor (TJ6 k).2.2.1 = some (tyJ6 k) := by decide +kernel
abbrev cJ6_bitCount_0f7a4 : ByteArray := prog_13_method_49_code
def yJ6_bitCount_0f7a4 : MethodName := ⟨RJ6, "bitCount", "(I)I"⟩
def RJ0 : String := "java/lang/String"
def TJ0 : u_T := fun k => match k with
  | _ => ("", "", "", false)
def tyJ0 : Nat → FieldType := fun k => match k with
  | _ => .int
abbrev wsJ00 : List Cond := u_ws RJ0 TJ0 0
theorem nmJ0 : ∀ a, a < 0 → ∀ b, b < 0 → a ≠ b → (TJ0 a).2.1 ≠ (TJ0 b).2.1 := by decide +kernel
theorem tyJ0_ok : ∀ k, k < 0 → parseFieldDescriptor (TJ0 k).2.2.1 = some (tyJ0 k) := by decide +kernel
def RJ10 : String := "java/lang/System"
def TJ10 : u_T := fun k => match k with
  | _ => ("", "", "", false)
def tyJ10 : Nat → FieldType := fun k => match k with
  | _ => .int
abbrev wsJ100 : List Cond := u_ws RJ10 TJ10 0
theorem nmJ10 : ∀ a, a < 0 → ∀ b, b < 0 → a ≠ b → (TJ10 a).2.1 ≠ (TJ10 b).2.1 := by decide +kernel
theorem tyJ10_ok : ∀ k, k < 0 → parseFieldDescriptor (TJ10 k).2.2.1 = some (tyJ10 k) := by decide +kernel
def RJ7 : String := "java/util/Arrays"
def TJ7 : u_T := fun k => match k with
  | _ => ("", "", "", false)
def tyJ7 : Nat → FieldType := fun k => match k with
  | _ => .int
abbrev wsJ70 : List Cond := u_ws RJ7 TJ7 0
theorem nmJ7 : ∀ a, a < 0 → ∀ b, b < 0 → a ≠ b → (TJ7 a).2.1 ≠ (TJ7 b).2.1 := by decide +kernel
theorem tyJ7_ok : ∀ k, k < 0 → parseFieldDescriptor (TJ7 k).2.2.1 = some (tyJ7 k) := by decide +kernel
abbrev cJ7_fill_53178 : ByteArray := prog_18_method_103_code
def yJ7_fill_53178 : MethodName := ⟨RJ7, "fill", "([II)V"⟩
def RL : String := "TimetableDeskLaw"
abbrev cL_cell : ByteArray := method_2_code
def yL_cell : MethodName := ⟨RL, "cell", "([II)I"⟩
abbrev cL_room : ByteArray := method_3_code
def yL_room : MethodName := ⟨RL, "room", "(LTimetableDesk;II)I"⟩
abbrev cL_lesson : ByteArray := method_4_code
def yL_lesson : MethodName := ⟨RL, "lesson", "(LTimetableDesk;IIIIII[J)I"⟩
abbrev cL_block : ByteArray := method_5_code
def yL_block : MethodName := ⟨RL, "block", "(LTimetableDesk;IIIZ)I"⟩
abbrev cL_place : ByteArray := method_6_code
def yL_place : MethodName := ⟨RL, "place", "(LTimetableDesk;III[J)I"⟩
abbrev cL_drop : ByteArray := method_7_code
def yL_drop : MethodName := ⟨RL, "drop", "(LTimetableDesk;II[J)I"⟩
abbrev cL_fill : ByteArray := method_8_code
def yL_fill : MethodName := ⟨RL, "fill", "(LTimetableDesk;I[J)I"⟩
abbrev cL_period : ByteArray := method_9_code
def yL_period : MethodName := ⟨RL, "period", "(LTimetableDesk;II[J)I"⟩
abbrev cL_roomOf : ByteArray := method_10_code
def yL_roomOf : MethodName := ⟨RL, "roomOf", "(LTimetableDesk;II[J)I"⟩
abbrev cL_improve : ByteArray := method_11_code
def yL_improve : MethodName := ⟨RL, "improve", "(LTimetableDesk;I[J)I"⟩
abbrev cL_absent : ByteArray := method_12_code
def yL_absent : MethodName := ⟨RL, "absent", "(LTimetableDesk;II[J)I"⟩
abbrev cL_substitute : ByteArray := method_13_code
def yL_substitute : MethodName := ⟨RL, "substitute", "(LTimetableDesk;I[J)I"⟩
abbrev cL_undo : ByteArray := method_14_code
def yL_undo : MethodName := ⟨RL, "undo", "(LTimetableDesk;[J)I"⟩
abbrev cL_page : ByteArray := method_15_code
def yL_page : MethodName := ⟨RL, "page", "(LTimetableDesk;III[J)I"⟩
abbrev cL_law : ByteArray := code
def yL_law : MethodName := ⟨RL, "law", "([I)Z"⟩
abbrev vwCl : List vw_C := [(RX0, TX0, 10), (RX1, TX1, 2), (RX2, TX2, 3), (RX3, TX3, 8), (RX4, TX4, 4), (RX5, TX5, 4), (RX6, TX6, 24)]
end
section
theorem dX0_init_0 : decode cX0_init 0 = .ok (.aload_n 0, 1) := by decide +kernel
theorem dX0_init_1 : decode cX0_init 1 = .ok (.invokespecial 3, 3) := by decide +kernel
theorem dX0_init_4 : decode cX0_init 4 = .ok (.aload_n 0, 1) := by decide +kernel
theorem dX0_init_5 : decode cX0_init 5 = .ok (.new 9, 3) := by decide +kernel
theorem dX0_init_8 : decode cX0_init 8 = .ok (.dup, 1) := by decide +kernel
theorem dX0_init_9 : decode cX0_init 9 = .ok (.invokespecial 11, 3) := by decide +kernel
theorem dX0_init_12 : decode cX0_init 12 = .ok (.putfield 12, 3) := by decide +kernel
theorem dX0_init_15 : decode cX0_init 15 = .ok (.aload_n 0, 1) := by decide +kernel
theorem dX0_init_16 : decode cX0_init 16 = .ok (.bipush 6, 2) := by decide +kernel
theorem dX0_init_18 : decode cX0_init 18 = .ok (.newarray .int, 2) := by decide +kernel
theorem dX0_init_20 : decode cX0_init 20 = .ok (.putfield 18, 3) := by decide +kernel
theorem dX0_init_23 : decode cX0_init 23 = .ok (.aload_n 0, 1) := by decide +kernel
theorem dX0_init_24 : decode cX0_init 24 = .ok (.bipush 22, 2) := by decide +kernel
theorem dX0_init_26 : decode cX0_init 26 = .ok (.newarray .int, 2) := by decide +kernel
theorem dX0_init_28 : decode cX0_init 28 = .ok (.putfield 22, 3) := by decide +kernel
theorem dX0_init_31 : decode cX0_init 31 = .ok (.aload_n 0, 1) := by decide +kernel
theorem dX0_init_32 : decode cX0_init 32 = .ok (.bipush 22, 2) := by decide +kernel
theorem dX0_init_34 : decode cX0_init 34 = .ok (.newarray .int, 2) := by decide +kernel
theorem dX0_init_36 : decode cX0_init 36 = .ok (.putfield 25, 3) := by decide +kernel
theorem dX0_init_39 : decode cX0_init 39 = .ok (.aload_n 0, 1) := by decide +kernel
theorem dX0_init_40 : decode cX0_init 40 = .ok (.bipush 64, 2) := by decide +kernel
theorem dX0_init_42 : decode cX0_init 42 = .ok (.newarray .int, 2) := by decide +kernel
theorem dX0_init_44 : decode cX0_init 44 = .ok (.putfield 28, 3) := by decide +kernel
theorem dX0_init_47 : decode cX0_init 47 = .ok (.aload_n 0, 1) := by decide +kernel
theorem dX0_init_48 : decode cX0_init 48 = .ok (.iload_n 1, 1) := by decide +kernel
theorem dX0_init_49 : decode cX0_init 49 = .ok (.putfield 31, 3) := by decide +kernel
theorem dX0_init_52 : decode cX0_init 52 = .ok (.aload_n 0, 1) := by decide +kernel
theorem dX0_init_53 : decode cX0_init 53 = .ok (.iload_n 2, 1) := by decide +kernel
theorem dX0_init_54 : decode cX0_init 54 = .ok (.putfield 35, 3) := by decide +kernel
theorem dX0_init_57 : decode cX0_init 57 = .ok (.aload_n 0, 1) := by decide +kernel
theorem dX0_init_58 : decode cX0_init 58 = .ok (.iload_n 1, 1) := by decide +kernel
theorem dX0_init_59 : decode cX0_init 59 = .ok (.iload_n 2, 1) := by decide +kernel
theorem dX0_init_60 : decode cX0_init 60 = .ok (.imul, 1) := by decide +kernel
theorem dX0_init_61 : decode cX0_init 61 = .ok (.putfield 38, 3) := by decide +kernel
theorem dX0_init_64 : decode cX0_init 64 = .ok (.iconst 0, 1) := by decide +kernel
theorem dX0_init_65 : decode cX0_init 65 = .ok (.istore_n 3, 1) := by decide +kernel
theorem dX0_init_66 : decode cX0_init 66 = .ok (.iconst 0, 1) := by decide +kernel
theorem dX0_init_67 : decode cX0_init 67 = .ok (.istore 4, 2) := by decide +kernel
theorem dX0_init_69 : decode cX0_init 69 = .ok (.iload 4, 2) := by decide +kernel
theorem dX0_init_71 : decode cX0_init 71 = .ok (.iload_n 1, 1) := by decide +kernel
theorem dX0_init_72 : decode cX0_init 72 = .ok (.if_icmp .ge 18, 3) := by decide +kernel
theorem dX0_init_75 : decode cX0_init 75 = .ok (.iload_n 3, 1) := by decide +kernel
theorem dX0_init_76 : decode cX0_init 76 = .ok (.iconst 1, 1) := by decide +kernel
theorem dX0_init_77 : decode cX0_init 77 = .ok (.iload 4, 2) := by decide +kernel
theorem dX0_init_79 : decode cX0_init 79 = .ok (.iload_n 2, 1) := by decide +kernel
theorem dX0_init_80 : decode cX0_init 80 = .ok (.imul, 1) := by decide +kernel
theorem dX0_init_81 : decode cX0_init 81 = .ok (.ishl, 1) := by decide +kernel
theorem dX0_init_82 : decode cX0_init 82 = .ok (.ior, 1) := by decide +kernel
theorem dX0_init_83 : decode cX0_init 83 = .ok (.istore_n 3, 1) := by decide +kernel
theorem dX0_init_84 : decode cX0_init 84 = .ok (.iinc 4 1, 3) := by decide +kernel
theorem dX0_init_87 : decode cX0_init 87 = .ok (.goto (-18), 3) := by decide +kernel
theorem dX0_init_90 : decode cX0_init 90 = .ok (.aload_n 0, 1) := by decide +kernel
theorem dX0_init_91 : decode cX0_init 91 = .ok (.iload_n 3, 1) := by decide +kernel
theorem dX0_init_92 : decode cX0_init 92 = .ok (.putfield 41, 3) := by decide +kernel
theorem dX0_init_95 : decode cX0_init 95 = .ok (.aload_n 0, 1) := by decide +kernel
theorem dX0_init_96 : decode cX0_init 96 = .ok (.iload_n 3, 1) := by decide +kernel
theorem dX0_init_97 : decode cX0_init 97 = .ok (.iload_n 2, 1) := by decide +kernel
theorem dX0_init_98 : decode cX0_init 98 = .ok (.iconst 1, 1) := by decide +kernel
theorem dX0_init_99 : decode cX0_init 99 = .ok (.isub, 1) := by decide +kernel
theorem dX0_init_100 : decode cX0_init 100 = .ok (.ishl, 1) := by decide +kernel
theorem dX0_init_101 : decode cX0_init 101 = .ok (.putfield 44, 3) := by decide +kernel
theorem dX0_init_104 : decode cX0_init 104 = .ok (.aload_n 0, 1) := by decide +kernel
theorem dX0_init_105 : decode cX0_init 105 = .ok (.getfield 28, 3) := by decide +kernel
theorem dX0_init_108 : decode cX0_init 108 = .ok (.iconst (-1), 1) := by decide +kernel
theorem dX0_init_109 : decode cX0_init 109 = .ok (.invokestatic 47, 3) := by decide +kernel
theorem dX0_init_112 : decode cX0_init 112 = .ok (.return_, 1) := by decide +kernel
theorem dX0_isPlaced_0 : decode cX0_isPlaced 0 = .ok (.aload_n 0, 1) := by decide +kernel
theorem dX0_isPlaced_1 : decode cX0_isPlaced 1 = .ok (.getfield 28, 3) := by decide +kernel
theorem dX0_isPlaced_4 : decode cX0_isPlaced 4 = .ok (.iload_n 1, 1) := by decide +kernel
theorem dX0_isPlaced_5 : decode cX0_isPlaced 5 = .ok (.iaload, 1) := by decide +kernel
theorem dX0_isPlaced_6 : decode cX0_isPlaced 6 = .ok (.iconst (-1), 1) := by decide +kernel
theorem dX0_isPlaced_7 : decode cX0_isPlaced 7 = .ok (.if_icmp .eq 7, 3) := by decide +kernel
theorem dX0_isPlaced_10 : decode cX0_isPlaced 10 = .ok (.iconst 1, 1) := by decide +kernel
theorem dX0_isPlaced_11 : decode cX0_isPlaced 11 = .ok (.goto 4, 3) := by decide +kernel
theorem dX0_isPlaced_14 : decode cX0_isPlaced 14 = .ok (.iconst 0, 1) := by decide +kernel
theorem dX0_isPlaced_15 : decode cX0_isPlaced 15 = .ok (.ireturn, 1) := by decide +kernel
theorem dX0_periodOfItem_0 : decode cX0_periodOfItem 0 = .ok (.aload_n 0, 1) := by decide +kernel
theorem dX0_periodOfItem_1 : decode cX0_periodOfItem 1 = .ok (.iload_n 1, 1) := by decide +kernel
theorem dX0_periodOfItem_2 : decode cX0_periodOfItem 2 = .ok (.invokevirtual 53, 3) := by decide +kernel
theorem dX0_periodOfItem_5 : decode cX0_periodOfItem 5 = .ok (.ifCond .eq 15, 3) := by decide +kernel
theorem dX0_periodOfItem_8 : decode cX0_periodOfItem 8 = .ok (.aload_n 0, 1) := by decide +kernel
theorem dX0_periodOfItem_9 : decode cX0_periodOfItem 9 = .ok (.getfield 28, 3) := by decide +kernel
theorem dX0_periodOfItem_12 : decode cX0_periodOfItem 12 = .ok (.iload_n 1, 1) := by decide +kernel
theorem dX0_periodOfItem_13 : decode cX0_periodOfItem 13 = .ok (.iaload, 1) := by decide +kernel
theorem dX0_periodOfItem_14 : decode cX0_periodOfItem 14 = .ok (.bipush 6, 2) := by decide +kernel
theorem dX0_periodOfItem_16 : decode cX0_periodOfItem 16 = .ok (.idiv, 1) := by decide +kernel
theorem dX0_periodOfItem_17 : decode cX0_periodOfItem 17 = .ok (.goto 4, 3) := by decide +kernel
theorem dX0_periodOfItem_20 : decode cX0_periodOfItem 20 = .ok (.iconst (-1), 1) := by decide +kernel
theorem dX0_periodOfItem_21 : decode cX0_periodOfItem 21 = .ok (.ireturn, 1) := by decide +kernel
theorem dX0_roomOfItem_0 : decode cX0_roomOfItem 0 = .ok (.aload_n 0, 1) := by decide +kernel
theorem dX0_roomOfItem_1 : decode cX0_roomOfItem 1 = .ok (.iload_n 1, 1) := by decide +kernel
theorem dX0_roomOfItem_2 : decode cX0_roomOfItem 2 = .ok (.invokevirtual 53, 3) := by decide +kernel
theorem dX0_roomOfItem_5 : decode cX0_roomOfItem 5 = .ok (.ifCond .eq 15, 3) := by decide +kernel
theorem dX0_roomOfItem_8 : decode cX0_roomOfItem 8 = .ok (.aload_n 0, 1) := by decide +kernel
theorem dX0_roomOfItem_9 : decode cX0_roomOfItem 9 = .ok (.getfield 28, 3) := by decide +kernel
theorem dX0_roomOfItem_12 : decode cX0_roomOfItem 12 = .ok (.iload_n 1, 1) := by decide +kernel
theorem dX0_roomOfItem_13 : decode cX0_roomOfItem 13 = .ok (.iaload, 1) := by decide +kernel
theorem dX0_roomOfItem_14 : decode cX0_roomOfItem 14 = .ok (.bipush 6, 2) := by decide +kernel
theorem dX0_roomOfItem_16 : decode cX0_roomOfItem 16 = .ok (.irem, 1) := by decide +kernel
theorem dX0_roomOfItem_17 : decode cX0_roomOfItem 17 = .ok (.goto 4, 3) := by decide +kernel
theorem dX0_roomOfItem_20 : decode cX0_roomOfItem 20 = .ok (.iconst (-1), 1) := by decide +kernel
theorem dX0_roomOfItem_21 : decode cX0_roomOfItem 21 = .ok (.ireturn, 1) := by decide +kernel
theorem dX0_bitsOfItem_0 : decode cX0_bitsOfItem 0 = .ok (.aload_n 0, 1) := by decide +kernel
theorem dX0_bitsOfItem_1 : decode cX0_bitsOfItem 1 = .ok (.iload_n 1, 1) := by decide +kernel
theorem dX0_bitsOfItem_2 : decode cX0_bitsOfItem 2 = .ok (.invokevirtual 53, 3) := by decide +kernel
theorem dX0_bitsOfItem_5 : decode cX0_bitsOfItem 5 = .ok (.ifCond .eq 26, 3) := by decide +kernel
theorem dX0_bitsOfItem_8 : decode cX0_bitsOfItem 8 = .ok (.aload_n 0, 1) := by decide +kernel
theorem dX0_bitsOfItem_9 : decode cX0_bitsOfItem 9 = .ok (.getfield 12, 3) := by decide +kernel
theorem dX0_bitsOfItem_12 : decode cX0_bitsOfItem 12 = .ok (.iload_n 1, 1) := by decide +kernel
theorem dX0_bitsOfItem_13 : decode cX0_bitsOfItem 13 = .ok (.invokestatic 57, 3) := by decide +kernel
theorem dX0_bitsOfItem_16 : decode cX0_bitsOfItem 16 = .ok (.aload_n 0, 1) := by decide +kernel
theorem dX0_bitsOfItem_17 : decode cX0_bitsOfItem 17 = .ok (.getfield 28, 3) := by decide +kernel
theorem dX0_bitsOfItem_20 : decode cX0_bitsOfItem 20 = .ok (.iload_n 1, 1) := by decide +kernel
theorem dX0_bitsOfItem_21 : decode cX0_bitsOfItem 21 = .ok (.iaload, 1) := by decide +kernel
theorem dX0_bitsOfItem_22 : decode cX0_bitsOfItem 22 = .ok (.bipush 6, 2) := by decide +kernel
theorem dX0_bitsOfItem_24 : decode cX0_bitsOfItem 24 = .ok (.idiv, 1) := by decide +kernel
theorem dX0_bitsOfItem_25 : decode cX0_bitsOfItem 25 = .ok (.invokevirtual 61, 3) := by decide +kernel
theorem dX0_bitsOfItem_28 : decode cX0_bitsOfItem 28 = .ok (.goto 4, 3) := by decide +kernel
theorem dX0_bitsOfItem_31 : decode cX0_bitsOfItem 31 = .ok (.iconst 0, 1) := by decide +kernel
theorem dX0_bitsOfItem_32 : decode cX0_bitsOfItem 32 = .ok (.ireturn, 1) := by decide +kernel
theorem dX0_isOnDay_0 : decode cX0_isOnDay 0 = .ok (.aload_n 0, 1) := by decide +kernel
theorem dX0_isOnDay_1 : decode cX0_isOnDay 1 = .ok (.getfield 28, 3) := by decide +kernel
theorem dX0_isOnDay_4 : decode cX0_isOnDay 4 = .ok (.iload_n 1, 1) := by decide +kernel
theorem dX0_isOnDay_5 : decode cX0_isOnDay 5 = .ok (.iaload, 1) := by decide +kernel
theorem dX0_isOnDay_6 : decode cX0_isOnDay 6 = .ok (.iconst (-1), 1) := by decide +kernel
theorem dX0_isOnDay_7 : decode cX0_isOnDay 7 = .ok (.if_icmp .eq 25, 3) := by decide +kernel
theorem dX0_isOnDay_10 : decode cX0_isOnDay 10 = .ok (.aload_n 0, 1) := by decide +kernel
theorem dX0_isOnDay_11 : decode cX0_isOnDay 11 = .ok (.getfield 28, 3) := by decide +kernel
theorem dX0_isOnDay_14 : decode cX0_isOnDay 14 = .ok (.iload_n 1, 1) := by decide +kernel
theorem dX0_isOnDay_15 : decode cX0_isOnDay 15 = .ok (.iaload, 1) := by decide +kernel
theorem dX0_isOnDay_16 : decode cX0_isOnDay 16 = .ok (.bipush 6, 2) := by decide +kernel
theorem dX0_isOnDay_18 : decode cX0_isOnDay 18 = .ok (.idiv, 1) := by decide +kernel
theorem dX0_isOnDay_19 : decode cX0_isOnDay 19 = .ok (.aload_n 0, 1) := by decide +kernel
theorem dX0_isOnDay_20 : decode cX0_isOnDay 20 = .ok (.getfield 35, 3) := by decide +kernel
theorem dX0_isOnDay_23 : decode cX0_isOnDay 23 = .ok (.idiv, 1) := by decide +kernel
theorem dX0_isOnDay_24 : decode cX0_isOnDay 24 = .ok (.iload_n 2, 1) := by decide +kernel
theorem dX0_isOnDay_25 : decode cX0_isOnDay 25 = .ok (.if_icmp .ne 7, 3) := by decide +kernel
theorem dX0_isOnDay_28 : decode cX0_isOnDay 28 = .ok (.iconst 1, 1) := by decide +kernel
theorem dX0_isOnDay_29 : decode cX0_isOnDay 29 = .ok (.goto 4, 3) := by decide +kernel
theorem dX0_isOnDay_32 : decode cX0_isOnDay 32 = .ok (.iconst 0, 1) := by decide +kernel
theorem dX0_isOnDay_33 : decode cX0_isOnDay 33 = .ok (.ireturn, 1) := by decide +kernel
theorem dX0_putAt_0 : decode cX0_putAt 0 = .ok (.aload_n 0, 1) := by decide +kernel
theorem dX0_putAt_1 : decode cX0_putAt 1 = .ok (.getfield 28, 3) := by decide +kernel
theorem dX0_putAt_4 : decode cX0_putAt 4 = .ok (.iload_n 1, 1) := by decide +kernel
theorem dX0_putAt_5 : decode cX0_putAt 5 = .ok (.iload_n 2, 1) := by decide +kernel
theorem dX0_putAt_6 : decode cX0_putAt 6 = .ok (.iastore, 1) := by decide +kernel
theorem dX0_putAt_7 : decode cX0_putAt 7 = .ok (.aload_n 0, 1) := by decide +kernel
theorem dX0_putAt_8 : decode cX0_putAt 8 = .ok (.iload_n 1, 1) := by decide +kernel
theorem dX0_putAt_9 : decode cX0_putAt 9 = .ok (.invokevirtual 65, 3) := by decide +kernel
theorem dX0_putAt_12 : decode cX0_putAt 12 = .ok (.return_, 1) := by decide +kernel
theorem dX0_mark_0 : decode cX0_mark 0 = .ok (.iload_n 1, 1) := by decide +kernel
theorem dX0_mark_1 : decode cX0_mark 1 = .ok (.invokestatic 57, 3) := by decide +kernel
theorem dX0_mark_4 : decode cX0_mark 4 = .ok (.istore_n 2, 1) := by decide +kernel
theorem dX0_mark_5 : decode cX0_mark 5 = .ok (.aload_n 0, 1) := by decide +kernel
theorem dX0_mark_6 : decode cX0_mark 6 = .ok (.getfield 12, 3) := by decide +kernel
theorem dX0_mark_9 : decode cX0_mark 9 = .ok (.iload_n 2, 1) := by decide +kernel
theorem dX0_mark_10 : decode cX0_mark 10 = .ok (.aload_n 0, 1) := by decide +kernel
theorem dX0_mark_11 : decode cX0_mark 11 = .ok (.getfield 28, 3) := by decide +kernel
theorem dX0_mark_14 : decode cX0_mark 14 = .ok (.iload_n 1, 1) := by decide +kernel
theorem dX0_mark_15 : decode cX0_mark 15 = .ok (.iaload, 1) := by decide +kernel
theorem dX0_mark_16 : decode cX0_mark 16 = .ok (.bipush 6, 2) := by decide +kernel
theorem dX0_mark_18 : decode cX0_mark 18 = .ok (.idiv, 1) := by decide +kernel
theorem dX0_mark_19 : decode cX0_mark 19 = .ok (.invokevirtual 61, 3) := by decide +kernel
theorem dX0_mark_22 : decode cX0_mark 22 = .ok (.istore_n 3, 1) := by decide +kernel
theorem dX0_mark_23 : decode cX0_mark 23 = .ok (.aload_n 0, 1) := by decide +kernel
theorem dX0_mark_24 : decode cX0_mark 24 = .ok (.getfield 25, 3) := by decide +kernel
theorem dX0_mark_27 : decode cX0_mark 27 = .ok (.bipush 16, 2) := by decide +kernel
theorem dX0_mark_29 : decode cX0_mark 29 = .ok (.aload_n 0, 1) := by decide +kernel
theorem dX0_mark_30 : decode cX0_mark 30 = .ok (.getfield 28, 3) := by decide +kernel
theorem dX0_mark_33 : decode cX0_mark 33 = .ok (.iload_n 1, 1) := by decide +kernel
theorem dX0_mark_34 : decode cX0_mark 34 = .ok (.iaload, 1) := by decide +kernel
theorem dX0_mark_35 : decode cX0_mark 35 = .ok (.bipush 6, 2) := by decide +kernel
theorem dX0_mark_37 : decode cX0_mark 37 = .ok (.irem, 1) := by decide +kernel
theorem dX0_mark_38 : decode cX0_mark 38 = .ok (.iadd, 1) := by decide +kernel
theorem dX0_mark_39 : decode cX0_mark 39 = .ok (.dup2, 1) := by decide +kernel
theorem dX0_mark_40 : decode cX0_mark 40 = .ok (.iaload, 1) := by decide +kernel
theorem dX0_mark_41 : decode cX0_mark 41 = .ok (.iload_n 3, 1) := by decide +kernel
theorem dX0_mark_42 : decode cX0_mark 42 = .ok (.ior, 1) := by decide +kernel
theorem dX0_mark_43 : decode cX0_mark 43 = .ok (.iastore, 1) := by decide +kernel
theorem dX0_mark_44 : decode cX0_mark 44 = .ok (.aload_n 0, 1) := by decide +kernel
theorem dX0_mark_45 : decode cX0_mark 45 = .ok (.getfield 25, 3) := by decide +kernel
theorem dX0_mark_48 : decode cX0_mark 48 = .ok (.bipush 8, 2) := by decide +kernel
theorem dX0_mark_50 : decode cX0_mark 50 = .ok (.aload_n 0, 1) := by decide +kernel
theorem dX0_mark_51 : decode cX0_mark 51 = .ok (.getfield 12, 3) := by decide +kernel
theorem dX0_mark_54 : decode cX0_mark 54 = .ok (.getfield 69, 3) := by decide +kernel
theorem dX0_mark_57 : decode cX0_mark 57 = .ok (.iload_n 2, 1) := by decide +kernel
theorem dX0_mark_58 : decode cX0_mark 58 = .ok (.iaload, 1) := by decide +kernel
theorem dX0_mark_59 : decode cX0_mark 59 = .ok (.iadd, 1) := by decide +kernel
theorem dX0_mark_60 : decode cX0_mark 60 = .ok (.dup2, 1) := by decide +kernel
theorem dX0_mark_61 : decode cX0_mark 61 = .ok (.iaload, 1) := by decide +kernel
theorem dX0_mark_62 : decode cX0_mark 62 = .ok (.iload_n 3, 1) := by decide +kernel
theorem dX0_mark_63 : decode cX0_mark 63 = .ok (.ior, 1) := by decide +kernel
theorem dX0_mark_64 : decode cX0_mark 64 = .ok (.iastore, 1) := by decide +kernel
theorem dX0_mark_65 : decode cX0_mark 65 = .ok (.aload_n 0, 1) := by decide +kernel
theorem dX0_mark_66 : decode cX0_mark 66 = .ok (.getfield 25, 3) := by decide +kernel
theorem dX0_mark_69 : decode cX0_mark 69 = .ok (.aload_n 0, 1) := by decide +kernel
theorem dX0_mark_70 : decode cX0_mark 70 = .ok (.getfield 12, 3) := by decide +kernel
theorem dX0_mark_73 : decode cX0_mark 73 = .ok (.getfield 72, 3) := by decide +kernel
theorem dX0_mark_76 : decode cX0_mark 76 = .ok (.iload_n 2, 1) := by decide +kernel
theorem dX0_mark_77 : decode cX0_mark 77 = .ok (.iaload, 1) := by decide +kernel
theorem dX0_mark_78 : decode cX0_mark 78 = .ok (.dup2, 1) := by decide +kernel
theorem dX0_mark_79 : decode cX0_mark 79 = .ok (.iaload, 1) := by decide +kernel
theorem dX0_mark_80 : decode cX0_mark 80 = .ok (.iload_n 3, 1) := by decide +kernel
theorem dX0_mark_81 : decode cX0_mark 81 = .ok (.ior, 1) := by decide +kernel
theorem dX0_mark_82 : decode cX0_mark 82 = .ok (.iastore, 1) := by decide +kernel
theorem dX0_mark_83 : decode cX0_mark 83 = .ok (.aload_n 0, 1) := by decide +kernel
theorem dX0_mark_84 : decode cX0_mark 84 = .ok (.getfield 12, 3) := by decide +kernel
theorem dX0_mark_87 : decode cX0_mark 87 = .ok (.getfield 75, 3) := by decide +kernel
theorem dX0_mark_90 : decode cX0_mark 90 = .ok (.iload_n 2, 1) := by decide +kernel
theorem dX0_mark_91 : decode cX0_mark 91 = .ok (.iaload, 1) := by decide +kernel
theorem dX0_mark_92 : decode cX0_mark 92 = .ok (.iconst (-1), 1) := by decide +kernel
theorem dX0_mark_93 : decode cX0_mark 93 = .ok (.if_icmp .eq 21, 3) := by decide +kernel
theorem dX0_mark_96 : decode cX0_mark 96 = .ok (.aload_n 0, 1) := by decide +kernel
theorem dX0_mark_97 : decode cX0_mark 97 = .ok (.getfield 25, 3) := by decide +kernel
theorem dX0_mark_100 : decode cX0_mark 100 = .ok (.aload_n 0, 1) := by decide +kernel
theorem dX0_mark_101 : decode cX0_mark 101 = .ok (.getfield 12, 3) := by decide +kernel
theorem dX0_mark_104 : decode cX0_mark 104 = .ok (.getfield 75, 3) := by decide +kernel
theorem dX0_mark_107 : decode cX0_mark 107 = .ok (.iload_n 2, 1) := by decide +kernel
theorem dX0_mark_108 : decode cX0_mark 108 = .ok (.iaload, 1) := by decide +kernel
theorem dX0_mark_109 : decode cX0_mark 109 = .ok (.dup2, 1) := by decide +kernel
theorem dX0_mark_110 : decode cX0_mark 110 = .ok (.iaload, 1) := by decide +kernel
theorem dX0_mark_111 : decode cX0_mark 111 = .ok (.iload_n 3, 1) := by decide +kernel
theorem dX0_mark_112 : decode cX0_mark 112 = .ok (.ior, 1) := by decide +kernel
theorem dX0_mark_113 : decode cX0_mark 113 = .ok (.iastore, 1) := by decide +kernel
theorem dX0_mark_114 : decode cX0_mark 114 = .ok (.return_, 1) := by decide +kernel
theorem dX0_takeOut_0 : decode cX0_takeOut 0 = .ok (.iload_n 1, 1) := by decide +kernel
theorem dX0_takeOut_1 : decode cX0_takeOut 1 = .ok (.invokestatic 57, 3) := by decide +kernel
theorem dX0_takeOut_4 : decode cX0_takeOut 4 = .ok (.istore_n 2, 1) := by decide +kernel
theorem dX0_takeOut_5 : decode cX0_takeOut 5 = .ok (.aload_n 0, 1) := by decide +kernel
theorem dX0_takeOut_6 : decode cX0_takeOut 6 = .ok (.getfield 12, 3) := by decide +kernel
theorem dX0_takeOut_9 : decode cX0_takeOut 9 = .ok (.iload_n 2, 1) := by decide +kernel
theorem dX0_takeOut_10 : decode cX0_takeOut 10 = .ok (.aload_n 0, 1) := by decide +kernel
theorem dX0_takeOut_11 : decode cX0_takeOut 11 = .ok (.getfield 28, 3) := by decide +kernel
theorem dX0_takeOut_14 : decode cX0_takeOut 14 = .ok (.iload_n 1, 1) := by decide +kernel
theorem dX0_takeOut_15 : decode cX0_takeOut 15 = .ok (.iaload, 1) := by decide +kernel
theorem dX0_takeOut_16 : decode cX0_takeOut 16 = .ok (.bipush 6, 2) := by decide +kernel
theorem dX0_takeOut_18 : decode cX0_takeOut 18 = .ok (.idiv, 1) := by decide +kernel
theorem dX0_takeOut_19 : decode cX0_takeOut 19 = .ok (.invokevirtual 61, 3) := by decide +kernel
theorem dX0_takeOut_22 : decode cX0_takeOut 22 = .ok (.iconst (-1), 1) := by decide +kernel
theorem dX0_takeOut_23 : decode cX0_takeOut 23 = .ok (.ixor, 1) := by decide +kernel
theorem dX0_takeOut_24 : decode cX0_takeOut 24 = .ok (.istore_n 3, 1) := by decide +kernel
theorem dX0_takeOut_25 : decode cX0_takeOut 25 = .ok (.aload_n 0, 1) := by decide +kernel
theorem dX0_takeOut_26 : decode cX0_takeOut 26 = .ok (.getfield 25, 3) := by decide +kernel
theorem dX0_takeOut_29 : decode cX0_takeOut 29 = .ok (.bipush 16, 2) := by decide +kernel
theorem dX0_takeOut_31 : decode cX0_takeOut 31 = .ok (.aload_n 0, 1) := by decide +kernel
theorem dX0_takeOut_32 : decode cX0_takeOut 32 = .ok (.getfield 28, 3) := by decide +kernel
theorem dX0_takeOut_35 : decode cX0_takeOut 35 = .ok (.iload_n 1, 1) := by decide +kernel
theorem dX0_takeOut_36 : decode cX0_takeOut 36 = .ok (.iaload, 1) := by decide +kernel
theorem dX0_takeOut_37 : decode cX0_takeOut 37 = .ok (.bipush 6, 2) := by decide +kernel
theorem dX0_takeOut_39 : decode cX0_takeOut 39 = .ok (.irem, 1) := by decide +kernel
theorem dX0_takeOut_40 : decode cX0_takeOut 40 = .ok (.iadd, 1) := by decide +kernel
theorem dX0_takeOut_41 : decode cX0_takeOut 41 = .ok (.dup2, 1) := by decide +kernel
theorem dX0_takeOut_42 : decode cX0_takeOut 42 = .ok (.iaload, 1) := by decide +kernel
theorem dX0_takeOut_43 : decode cX0_takeOut 43 = .ok (.iload_n 3, 1) := by decide +kernel
theorem dX0_takeOut_44 : decode cX0_takeOut 44 = .ok (.iand, 1) := by decide +kernel
theorem dX0_takeOut_45 : decode cX0_takeOut 45 = .ok (.iastore, 1) := by decide +kernel
theorem dX0_takeOut_46 : decode cX0_takeOut 46 = .ok (.aload_n 0, 1) := by decide +kernel
theorem dX0_takeOut_47 : decode cX0_takeOut 47 = .ok (.getfield 25, 3) := by decide +kernel
theorem dX0_takeOut_50 : decode cX0_takeOut 50 = .ok (.bipush 8, 2) := by decide +kernel
theorem dX0_takeOut_52 : decode cX0_takeOut 52 = .ok (.aload_n 0, 1) := by decide +kernel
theorem dX0_takeOut_53 : decode cX0_takeOut 53 = .ok (.getfield 12, 3) := by decide +kernel
theorem dX0_takeOut_56 : decode cX0_takeOut 56 = .ok (.getfield 69, 3) := by decide +kernel
theorem dX0_takeOut_59 : decode cX0_takeOut 59 = .ok (.iload_n 2, 1) := by decide +kernel
theorem dX0_takeOut_60 : decode cX0_takeOut 60 = .ok (.iaload, 1) := by decide +kernel
theorem dX0_takeOut_61 : decode cX0_takeOut 61 = .ok (.iadd, 1) := by decide +kernel
theorem dX0_takeOut_62 : decode cX0_takeOut 62 = .ok (.dup2, 1) := by decide +kernel
theorem dX0_takeOut_63 : decode cX0_takeOut 63 = .ok (.iaload, 1) := by decide +kernel
theorem dX0_takeOut_64 : decode cX0_takeOut 64 = .ok (.iload_n 3, 1) := by decide +kernel
theorem dX0_takeOut_65 : decode cX0_takeOut 65 = .ok (.iand, 1) := by decide +kernel
theorem dX0_takeOut_66 : decode cX0_takeOut 66 = .ok (.iastore, 1) := by decide +kernel
theorem dX0_takeOut_67 : decode cX0_takeOut 67 = .ok (.aload_n 0, 1) := by decide +kernel
theorem dX0_takeOut_68 : decode cX0_takeOut 68 = .ok (.getfield 25, 3) := by decide +kernel
theorem dX0_takeOut_71 : decode cX0_takeOut 71 = .ok (.aload_n 0, 1) := by decide +kernel
theorem dX0_takeOut_72 : decode cX0_takeOut 72 = .ok (.getfield 12, 3) := by decide +kernel
theorem dX0_takeOut_75 : decode cX0_takeOut 75 = .ok (.getfield 72, 3) := by decide +kernel
theorem dX0_takeOut_78 : decode cX0_takeOut 78 = .ok (.iload_n 2, 1) := by decide +kernel
theorem dX0_takeOut_79 : decode cX0_takeOut 79 = .ok (.iaload, 1) := by decide +kernel
theorem dX0_takeOut_80 : decode cX0_takeOut 80 = .ok (.dup2, 1) := by decide +kernel
theorem dX0_takeOut_81 : decode cX0_takeOut 81 = .ok (.iaload, 1) := by decide +kernel
theorem dX0_takeOut_82 : decode cX0_takeOut 82 = .ok (.iload_n 3, 1) := by decide +kernel
theorem dX0_takeOut_83 : decode cX0_takeOut 83 = .ok (.iand, 1) := by decide +kernel
theorem dX0_takeOut_84 : decode cX0_takeOut 84 = .ok (.iastore, 1) := by decide +kernel
theorem dX0_takeOut_85 : decode cX0_takeOut 85 = .ok (.aload_n 0, 1) := by decide +kernel
theorem dX0_takeOut_86 : decode cX0_takeOut 86 = .ok (.getfield 12, 3) := by decide +kernel
theorem dX0_takeOut_89 : decode cX0_takeOut 89 = .ok (.getfield 75, 3) := by decide +kernel
theorem dX0_takeOut_92 : decode cX0_takeOut 92 = .ok (.iload_n 2, 1) := by decide +kernel
theorem dX0_takeOut_93 : decode cX0_takeOut 93 = .ok (.iaload, 1) := by decide +kernel
theorem dX0_takeOut_94 : decode cX0_takeOut 94 = .ok (.iconst (-1), 1) := by decide +kernel
theorem dX0_takeOut_95 : decode cX0_takeOut 95 = .ok (.if_icmp .eq 21, 3) := by decide +kernel
theorem dX0_takeOut_98 : decode cX0_takeOut 98 = .ok (.aload_n 0, 1) := by decide +kernel
theorem dX0_takeOut_99 : decode cX0_takeOut 99 = .ok (.getfield 25, 3) := by decide +kernel
theorem dX0_takeOut_102 : decode cX0_takeOut 102 = .ok (.aload_n 0, 1) := by decide +kernel
theorem dX0_takeOut_103 : decode cX0_takeOut 103 = .ok (.getfield 12, 3) := by decide +kernel
theorem dX0_takeOut_106 : decode cX0_takeOut 106 = .ok (.getfield 75, 3) := by decide +kernel
theorem dX0_takeOut_109 : decode cX0_takeOut 109 = .ok (.iload_n 2, 1) := by decide +kernel
theorem dX0_takeOut_110 : decode cX0_takeOut 110 = .ok (.iaload, 1) := by decide +kernel
theorem dX0_takeOut_111 : decode cX0_takeOut 111 = .ok (.dup2, 1) := by decide +kernel
theorem dX0_takeOut_112 : decode cX0_takeOut 112 = .ok (.iaload, 1) := by decide +kernel
theorem dX0_takeOut_113 : decode cX0_takeOut 113 = .ok (.iload_n 3, 1) := by decide +kernel
theorem dX0_takeOut_114 : decode cX0_takeOut 114 = .ok (.iand, 1) := by decide +kernel
theorem dX0_takeOut_115 : decode cX0_takeOut 115 = .ok (.iastore, 1) := by decide +kernel
theorem dX0_takeOut_116 : decode cX0_takeOut 116 = .ok (.aload_n 0, 1) := by decide +kernel
theorem dX0_takeOut_117 : decode cX0_takeOut 117 = .ok (.getfield 28, 3) := by decide +kernel
theorem dX0_takeOut_120 : decode cX0_takeOut 120 = .ok (.iload_n 1, 1) := by decide +kernel
theorem dX0_takeOut_121 : decode cX0_takeOut 121 = .ok (.iconst (-1), 1) := by decide +kernel
theorem dX0_takeOut_122 : decode cX0_takeOut 122 = .ok (.iastore, 1) := by decide +kernel
theorem dX0_takeOut_123 : decode cX0_takeOut 123 = .ok (.return_, 1) := by decide +kernel
theorem dX0_markAllAgain_0 : decode cX0_markAllAgain 0 = .ok (.aload_n 0, 1) := by decide +kernel
theorem dX0_markAllAgain_1 : decode cX0_markAllAgain 1 = .ok (.getfield 25, 3) := by decide +kernel
theorem dX0_markAllAgain_4 : decode cX0_markAllAgain 4 = .ok (.iconst 0, 1) := by decide +kernel
theorem dX0_markAllAgain_5 : decode cX0_markAllAgain 5 = .ok (.invokestatic 47, 3) := by decide +kernel
theorem dX0_markAllAgain_8 : decode cX0_markAllAgain 8 = .ok (.iconst 0, 1) := by decide +kernel
theorem dX0_markAllAgain_9 : decode cX0_markAllAgain 9 = .ok (.istore_n 1, 1) := by decide +kernel
theorem dX0_markAllAgain_10 : decode cX0_markAllAgain 10 = .ok (.iload_n 1, 1) := by decide +kernel
theorem dX0_markAllAgain_11 : decode cX0_markAllAgain 11 = .ok (.bipush 64, 2) := by decide +kernel
theorem dX0_markAllAgain_13 : decode cX0_markAllAgain 13 = .ok (.if_icmp .ge 22, 3) := by decide +kernel
theorem dX0_markAllAgain_16 : decode cX0_markAllAgain 16 = .ok (.aload_n 0, 1) := by decide +kernel
theorem dX0_markAllAgain_17 : decode cX0_markAllAgain 17 = .ok (.iload_n 1, 1) := by decide +kernel
theorem dX0_markAllAgain_18 : decode cX0_markAllAgain 18 = .ok (.invokevirtual 53, 3) := by decide +kernel
theorem dX0_markAllAgain_21 : decode cX0_markAllAgain 21 = .ok (.ifCond .eq 8, 3) := by decide +kernel
theorem dX0_markAllAgain_24 : decode cX0_markAllAgain 24 = .ok (.aload_n 0, 1) := by decide +kernel
theorem dX0_markAllAgain_25 : decode cX0_markAllAgain 25 = .ok (.iload_n 1, 1) := by decide +kernel
theorem dX0_markAllAgain_26 : decode cX0_markAllAgain 26 = .ok (.invokevirtual 65, 3) := by decide +kernel
theorem dX0_markAllAgain_29 : decode cX0_markAllAgain 29 = .ok (.iinc 1 1, 3) := by decide +kernel
theorem dX0_markAllAgain_32 : decode cX0_markAllAgain 32 = .ok (.goto (-22), 3) := by decide +kernel
theorem dX0_markAllAgain_35 : decode cX0_markAllAgain 35 = .ok (.return_, 1) := by decide +kernel
theorem dX0_putByRules_0 : decode cX0_putByRules 0 = .ok (.aload_n 0, 1) := by decide +kernel
theorem dX0_putByRules_1 : decode cX0_putByRules 1 = .ok (.iload_n 1, 1) := by decide +kernel
theorem dX0_putByRules_2 : decode cX0_putByRules 2 = .ok (.iload_n 2, 1) := by decide +kernel
theorem dX0_putByRules_3 : decode cX0_putByRules 3 = .ok (.invokevirtual 78, 3) := by decide +kernel
theorem dX0_putByRules_6 : decode cX0_putByRules 6 = .ok (.istore_n 3, 1) := by decide +kernel
theorem dX0_putByRules_7 : decode cX0_putByRules 7 = .ok (.iload_n 3, 1) := by decide +kernel
theorem dX0_putByRules_8 : decode cX0_putByRules 8 = .ok (.ifCond .ne 22, 3) := by decide +kernel
theorem dX0_putByRules_11 : decode cX0_putByRules 11 = .ok (.aload_n 0, 1) := by decide +kernel
theorem dX0_putByRules_12 : decode cX0_putByRules 12 = .ok (.iload_n 1, 1) := by decide +kernel
theorem dX0_putByRules_13 : decode cX0_putByRules 13 = .ok (.iload_n 2, 1) := by decide +kernel
theorem dX0_putByRules_14 : decode cX0_putByRules 14 = .ok (.bipush 6, 2) := by decide +kernel
theorem dX0_putByRules_16 : decode cX0_putByRules 16 = .ok (.imul, 1) := by decide +kernel
theorem dX0_putByRules_17 : decode cX0_putByRules 17 = .ok (.aload_n 0, 1) := by decide +kernel
theorem dX0_putByRules_18 : decode cX0_putByRules 18 = .ok (.iload_n 1, 1) := by decide +kernel
theorem dX0_putByRules_19 : decode cX0_putByRules 19 = .ok (.invokestatic 57, 3) := by decide +kernel
theorem dX0_putByRules_22 : decode cX0_putByRules 22 = .ok (.iload_n 2, 1) := by decide +kernel
theorem dX0_putByRules_23 : decode cX0_putByRules 23 = .ok (.invokevirtual 81, 3) := by decide +kernel
theorem dX0_putByRules_26 : decode cX0_putByRules 26 = .ok (.iadd, 1) := by decide +kernel
theorem dX0_putByRules_27 : decode cX0_putByRules 27 = .ok (.invokevirtual 84, 3) := by decide +kernel
theorem dX0_putByRules_30 : decode cX0_putByRules 30 = .ok (.iload_n 3, 1) := by decide +kernel
theorem dX0_putByRules_31 : decode cX0_putByRules 31 = .ok (.ireturn, 1) := by decide +kernel
theorem dX0_brokenRule_0 : decode cX0_brokenRule 0 = .ok (.iload_n 1, 1) := by decide +kernel
theorem dX0_brokenRule_1 : decode cX0_brokenRule 1 = .ok (.invokestatic 57, 3) := by decide +kernel
theorem dX0_brokenRule_4 : decode cX0_brokenRule 4 = .ok (.istore_n 3, 1) := by decide +kernel
theorem dX0_brokenRule_5 : decode cX0_brokenRule 5 = .ok (.aload_n 0, 1) := by decide +kernel
theorem dX0_brokenRule_6 : decode cX0_brokenRule 6 = .ok (.getfield 12, 3) := by decide +kernel
theorem dX0_brokenRule_9 : decode cX0_brokenRule 9 = .ok (.getfield 88, 3) := by decide +kernel
theorem dX0_brokenRule_12 : decode cX0_brokenRule 12 = .ok (.iload_n 3, 1) := by decide +kernel
theorem dX0_brokenRule_13 : decode cX0_brokenRule 13 = .ok (.iaload, 1) := by decide +kernel
theorem dX0_brokenRule_14 : decode cX0_brokenRule 14 = .ok (.iconst 2, 1) := by decide +kernel
theorem dX0_brokenRule_15 : decode cX0_brokenRule 15 = .ok (.if_icmp .ne 20, 3) := by decide +kernel
theorem dX0_brokenRule_18 : decode cX0_brokenRule 18 = .ok (.iload_n 2, 1) := by decide +kernel
theorem dX0_brokenRule_19 : decode cX0_brokenRule 19 = .ok (.aload_n 0, 1) := by decide +kernel
theorem dX0_brokenRule_20 : decode cX0_brokenRule 20 = .ok (.getfield 35, 3) := by decide +kernel
theorem dX0_brokenRule_23 : decode cX0_brokenRule 23 = .ok (.irem, 1) := by decide +kernel
theorem dX0_brokenRule_24 : decode cX0_brokenRule 24 = .ok (.aload_n 0, 1) := by decide +kernel
theorem dX0_brokenRule_25 : decode cX0_brokenRule 25 = .ok (.getfield 35, 3) := by decide +kernel
theorem dX0_brokenRule_28 : decode cX0_brokenRule 28 = .ok (.iconst 1, 1) := by decide +kernel
theorem dX0_brokenRule_29 : decode cX0_brokenRule 29 = .ok (.isub, 1) := by decide +kernel
theorem dX0_brokenRule_30 : decode cX0_brokenRule 30 = .ok (.if_icmp .ne 5, 3) := by decide +kernel
theorem dX0_brokenRule_33 : decode cX0_brokenRule 33 = .ok (.iconst 1, 1) := by decide +kernel
theorem dX0_brokenRule_34 : decode cX0_brokenRule 34 = .ok (.ireturn, 1) := by decide +kernel
theorem dX0_brokenRule_35 : decode cX0_brokenRule 35 = .ok (.aload_n 0, 1) := by decide +kernel
theorem dX0_brokenRule_36 : decode cX0_brokenRule 36 = .ok (.getfield 12, 3) := by decide +kernel
theorem dX0_brokenRule_39 : decode cX0_brokenRule 39 = .ok (.iload_n 3, 1) := by decide +kernel
theorem dX0_brokenRule_40 : decode cX0_brokenRule 40 = .ok (.iload_n 2, 1) := by decide +kernel
theorem dX0_brokenRule_41 : decode cX0_brokenRule 41 = .ok (.invokevirtual 61, 3) := by decide +kernel
theorem dX0_brokenRule_44 : decode cX0_brokenRule 44 = .ok (.istore 4, 2) := by decide +kernel
theorem dX0_brokenRule_46 : decode cX0_brokenRule 46 = .ok (.bipush 8, 2) := by decide +kernel
theorem dX0_brokenRule_48 : decode cX0_brokenRule 48 = .ok (.aload_n 0, 1) := by decide +kernel
theorem dX0_brokenRule_49 : decode cX0_brokenRule 49 = .ok (.getfield 12, 3) := by decide +kernel
theorem dX0_brokenRule_52 : decode cX0_brokenRule 52 = .ok (.getfield 69, 3) := by decide +kernel
theorem dX0_brokenRule_55 : decode cX0_brokenRule 55 = .ok (.iload_n 3, 1) := by decide +kernel
theorem dX0_brokenRule_56 : decode cX0_brokenRule 56 = .ok (.iaload, 1) := by decide +kernel
theorem dX0_brokenRule_57 : decode cX0_brokenRule 57 = .ok (.iadd, 1) := by decide +kernel
theorem dX0_brokenRule_58 : decode cX0_brokenRule 58 = .ok (.istore 5, 2) := by decide +kernel
theorem dX0_brokenRule_60 : decode cX0_brokenRule 60 = .ok (.aload_n 0, 1) := by decide +kernel
theorem dX0_brokenRule_61 : decode cX0_brokenRule 61 = .ok (.getfield 22, 3) := by decide +kernel
theorem dX0_brokenRule_64 : decode cX0_brokenRule 64 = .ok (.iload 5, 2) := by decide +kernel
theorem dX0_brokenRule_66 : decode cX0_brokenRule 66 = .ok (.iaload, 1) := by decide +kernel
theorem dX0_brokenRule_67 : decode cX0_brokenRule 67 = .ok (.iload 4, 2) := by decide +kernel
theorem dX0_brokenRule_69 : decode cX0_brokenRule 69 = .ok (.iand, 1) := by decide +kernel
theorem dX0_brokenRule_70 : decode cX0_brokenRule 70 = .ok (.ifCond .eq 5, 3) := by decide +kernel
theorem dX0_brokenRule_73 : decode cX0_brokenRule 73 = .ok (.iconst 2, 1) := by decide +kernel
theorem dX0_brokenRule_74 : decode cX0_brokenRule 74 = .ok (.ireturn, 1) := by decide +kernel
theorem dX0_brokenRule_75 : decode cX0_brokenRule 75 = .ok (.aload_n 0, 1) := by decide +kernel
theorem dX0_brokenRule_76 : decode cX0_brokenRule 76 = .ok (.getfield 25, 3) := by decide +kernel
theorem dX0_brokenRule_79 : decode cX0_brokenRule 79 = .ok (.iload 5, 2) := by decide +kernel
theorem dX0_brokenRule_81 : decode cX0_brokenRule 81 = .ok (.iaload, 1) := by decide +kernel
theorem dX0_brokenRule_82 : decode cX0_brokenRule 82 = .ok (.iload 4, 2) := by decide +kernel
theorem dX0_brokenRule_84 : decode cX0_brokenRule 84 = .ok (.iand, 1) := by decide +kernel
theorem dX0_brokenRule_85 : decode cX0_brokenRule 85 = .ok (.ifCond .eq 5, 3) := by decide +kernel
theorem dX0_brokenRule_88 : decode cX0_brokenRule 88 = .ok (.iconst 3, 1) := by decide +kernel
theorem dX0_brokenRule_89 : decode cX0_brokenRule 89 = .ok (.ireturn, 1) := by decide +kernel
theorem dX0_brokenRule_90 : decode cX0_brokenRule 90 = .ok (.aload_n 0, 1) := by decide +kernel
theorem dX0_brokenRule_91 : decode cX0_brokenRule 91 = .ok (.aload_n 0, 1) := by decide +kernel
theorem dX0_brokenRule_92 : decode cX0_brokenRule 92 = .ok (.getfield 22, 3) := by decide +kernel
theorem dX0_brokenRule_95 : decode cX0_brokenRule 95 = .ok (.iload_n 3, 1) := by decide +kernel
theorem dX0_brokenRule_96 : decode cX0_brokenRule 96 = .ok (.invokevirtual 91, 3) := by decide +kernel
theorem dX0_brokenRule_99 : decode cX0_brokenRule 99 = .ok (.iload 4, 2) := by decide +kernel
theorem dX0_brokenRule_101 : decode cX0_brokenRule 101 = .ok (.iand, 1) := by decide +kernel
theorem dX0_brokenRule_102 : decode cX0_brokenRule 102 = .ok (.ifCond .eq 5, 3) := by decide +kernel
theorem dX0_brokenRule_105 : decode cX0_brokenRule 105 = .ok (.iconst 4, 1) := by decide +kernel
theorem dX0_brokenRule_106 : decode cX0_brokenRule 106 = .ok (.ireturn, 1) := by decide +kernel
theorem dX0_brokenRule_107 : decode cX0_brokenRule 107 = .ok (.aload_n 0, 1) := by decide +kernel
theorem dX0_brokenRule_108 : decode cX0_brokenRule 108 = .ok (.aload_n 0, 1) := by decide +kernel
theorem dX0_brokenRule_109 : decode cX0_brokenRule 109 = .ok (.getfield 25, 3) := by decide +kernel
theorem dX0_brokenRule_112 : decode cX0_brokenRule 112 = .ok (.iload_n 3, 1) := by decide +kernel
theorem dX0_brokenRule_113 : decode cX0_brokenRule 113 = .ok (.invokevirtual 91, 3) := by decide +kernel
theorem dX0_brokenRule_116 : decode cX0_brokenRule 116 = .ok (.iload 4, 2) := by decide +kernel
theorem dX0_brokenRule_118 : decode cX0_brokenRule 118 = .ok (.iand, 1) := by decide +kernel
theorem dX0_brokenRule_119 : decode cX0_brokenRule 119 = .ok (.ifCond .eq 5, 3) := by decide +kernel
theorem dX0_brokenRule_122 : decode cX0_brokenRule 122 = .ok (.iconst 5, 1) := by decide +kernel
theorem dX0_brokenRule_123 : decode cX0_brokenRule 123 = .ok (.ireturn, 1) := by decide +kernel
theorem dX0_brokenRule_124 : decode cX0_brokenRule 124 = .ok (.aload_n 0, 1) := by decide +kernel
theorem dX0_brokenRule_125 : decode cX0_brokenRule 125 = .ok (.iload_n 3, 1) := by decide +kernel
theorem dX0_brokenRule_126 : decode cX0_brokenRule 126 = .ok (.iload_n 2, 1) := by decide +kernel
theorem dX0_brokenRule_127 : decode cX0_brokenRule 127 = .ok (.aload_n 0, 1) := by decide +kernel
theorem dX0_brokenRule_128 : decode cX0_brokenRule 128 = .ok (.getfield 35, 3) := by decide +kernel
theorem dX0_brokenRule_131 : decode cX0_brokenRule 131 = .ok (.idiv, 1) := by decide +kernel
theorem dX0_brokenRule_132 : decode cX0_brokenRule 132 = .ok (.invokevirtual 95, 3) := by decide +kernel
theorem dX0_brokenRule_135 : decode cX0_brokenRule 135 = .ok (.ifCond .eq 6, 3) := by decide +kernel
theorem dX0_brokenRule_138 : decode cX0_brokenRule 138 = .ok (.bipush 6, 2) := by decide +kernel
theorem dX0_brokenRule_140 : decode cX0_brokenRule 140 = .ok (.ireturn, 1) := by decide +kernel
theorem dX0_brokenRule_141 : decode cX0_brokenRule 141 = .ok (.aload_n 0, 1) := by decide +kernel
theorem dX0_brokenRule_142 : decode cX0_brokenRule 142 = .ok (.iload_n 3, 1) := by decide +kernel
theorem dX0_brokenRule_143 : decode cX0_brokenRule 143 = .ok (.iload_n 2, 1) := by decide +kernel
theorem dX0_brokenRule_144 : decode cX0_brokenRule 144 = .ok (.invokevirtual 81, 3) := by decide +kernel
theorem dX0_brokenRule_147 : decode cX0_brokenRule 147 = .ok (.iconst (-1), 1) := by decide +kernel
theorem dX0_brokenRule_148 : decode cX0_brokenRule 148 = .ok (.if_icmp .ne 8, 3) := by decide +kernel
theorem dX0_brokenRule_151 : decode cX0_brokenRule 151 = .ok (.bipush 7, 2) := by decide +kernel
theorem dX0_brokenRule_153 : decode cX0_brokenRule 153 = .ok (.goto 4, 3) := by decide +kernel
theorem dX0_brokenRule_156 : decode cX0_brokenRule 156 = .ok (.iconst 0, 1) := by decide +kernel
theorem dX0_brokenRule_157 : decode cX0_brokenRule 157 = .ok (.ireturn, 1) := by decide +kernel
theorem dX0_eitherClass_0 : decode cX0_eitherClass 0 = .ok (.aload_n 0, 1) := by decide +kernel
theorem dX0_eitherClass_1 : decode cX0_eitherClass 1 = .ok (.getfield 12, 3) := by decide +kernel
theorem dX0_eitherClass_4 : decode cX0_eitherClass 4 = .ok (.getfield 75, 3) := by decide +kernel
theorem dX0_eitherClass_7 : decode cX0_eitherClass 7 = .ok (.iload_n 2, 1) := by decide +kernel
theorem dX0_eitherClass_8 : decode cX0_eitherClass 8 = .ok (.iaload, 1) := by decide +kernel
theorem dX0_eitherClass_9 : decode cX0_eitherClass 9 = .ok (.istore_n 3, 1) := by decide +kernel
theorem dX0_eitherClass_10 : decode cX0_eitherClass 10 = .ok (.aload_n 1, 1) := by decide +kernel
theorem dX0_eitherClass_11 : decode cX0_eitherClass 11 = .ok (.aload_n 0, 1) := by decide +kernel
theorem dX0_eitherClass_12 : decode cX0_eitherClass 12 = .ok (.getfield 12, 3) := by decide +kernel
theorem dX0_eitherClass_15 : decode cX0_eitherClass 15 = .ok (.getfield 72, 3) := by decide +kernel
theorem dX0_eitherClass_18 : decode cX0_eitherClass 18 = .ok (.iload_n 2, 1) := by decide +kernel
theorem dX0_eitherClass_19 : decode cX0_eitherClass 19 = .ok (.iaload, 1) := by decide +kernel
theorem dX0_eitherClass_20 : decode cX0_eitherClass 20 = .ok (.iaload, 1) := by decide +kernel
theorem dX0_eitherClass_21 : decode cX0_eitherClass 21 = .ok (.iload_n 3, 1) := by decide +kernel
theorem dX0_eitherClass_22 : decode cX0_eitherClass 22 = .ok (.iconst (-1), 1) := by decide +kernel
theorem dX0_eitherClass_23 : decode cX0_eitherClass 23 = .ok (.if_icmp .ne 7, 3) := by decide +kernel
theorem dX0_eitherClass_26 : decode cX0_eitherClass 26 = .ok (.iconst 0, 1) := by decide +kernel
theorem dX0_eitherClass_27 : decode cX0_eitherClass 27 = .ok (.goto 6, 3) := by decide +kernel
theorem dX0_eitherClass_30 : decode cX0_eitherClass 30 = .ok (.aload_n 1, 1) := by decide +kernel
theorem dX0_eitherClass_31 : decode cX0_eitherClass 31 = .ok (.iload_n 3, 1) := by decide +kernel
theorem dX0_eitherClass_32 : decode cX0_eitherClass 32 = .ok (.iaload, 1) := by decide +kernel
theorem dX0_eitherClass_33 : decode cX0_eitherClass 33 = .ok (.ior, 1) := by decide +kernel
theorem dX0_eitherClass_34 : decode cX0_eitherClass 34 = .ok (.ireturn, 1) := by decide +kernel
theorem dX0_isLessonOnDay_0 : decode cX0_isLessonOnDay 0 = .ok (.iconst 0, 1) := by decide +kernel
theorem dX0_isLessonOnDay_1 : decode cX0_isLessonOnDay 1 = .ok (.istore_n 3, 1) := by decide +kernel
theorem dX0_isLessonOnDay_2 : decode cX0_isLessonOnDay 2 = .ok (.iload_n 3, 1) := by decide +kernel
theorem dX0_isLessonOnDay_3 : decode cX0_isLessonOnDay 3 = .ok (.aload_n 0, 1) := by decide +kernel
theorem dX0_isLessonOnDay_4 : decode cX0_isLessonOnDay 4 = .ok (.getfield 12, 3) := by decide +kernel
theorem dX0_isLessonOnDay_7 : decode cX0_isLessonOnDay 7 = .ok (.getfield 99, 3) := by decide +kernel
theorem dX0_isLessonOnDay_10 : decode cX0_isLessonOnDay 10 = .ok (.iload_n 1, 1) := by decide +kernel
theorem dX0_isLessonOnDay_11 : decode cX0_isLessonOnDay 11 = .ok (.iaload, 1) := by decide +kernel
theorem dX0_isLessonOnDay_12 : decode cX0_isLessonOnDay 12 = .ok (.if_icmp .ge 24, 3) := by decide +kernel
theorem dX0_isLessonOnDay_15 : decode cX0_isLessonOnDay 15 = .ok (.aload_n 0, 1) := by decide +kernel
theorem dX0_isLessonOnDay_16 : decode cX0_isLessonOnDay 16 = .ok (.iload_n 1, 1) := by decide +kernel
theorem dX0_isLessonOnDay_17 : decode cX0_isLessonOnDay 17 = .ok (.iload_n 3, 1) := by decide +kernel
theorem dX0_isLessonOnDay_18 : decode cX0_isLessonOnDay 18 = .ok (.invokestatic 102, 3) := by decide +kernel
theorem dX0_isLessonOnDay_21 : decode cX0_isLessonOnDay 21 = .ok (.iload_n 2, 1) := by decide +kernel
theorem dX0_isLessonOnDay_22 : decode cX0_isLessonOnDay 22 = .ok (.invokevirtual 105, 3) := by decide +kernel
theorem dX0_isLessonOnDay_25 : decode cX0_isLessonOnDay 25 = .ok (.ifCond .eq 5, 3) := by decide +kernel
theorem dX0_isLessonOnDay_28 : decode cX0_isLessonOnDay 28 = .ok (.iconst 1, 1) := by decide +kernel
theorem dX0_isLessonOnDay_29 : decode cX0_isLessonOnDay 29 = .ok (.ireturn, 1) := by decide +kernel
theorem dX0_isLessonOnDay_30 : decode cX0_isLessonOnDay 30 = .ok (.iinc 3 1, 3) := by decide +kernel
theorem dX0_isLessonOnDay_33 : decode cX0_isLessonOnDay 33 = .ok (.goto (-31), 3) := by decide +kernel
theorem dX0_isLessonOnDay_36 : decode cX0_isLessonOnDay 36 = .ok (.iconst 0, 1) := by decide +kernel
theorem dX0_isLessonOnDay_37 : decode cX0_isLessonOnDay 37 = .ok (.ireturn, 1) := by decide +kernel
theorem dX0_lowestRoom_0 : decode cX0_lowestRoom 0 = .ok (.aload_n 0, 1) := by decide +kernel
theorem dX0_lowestRoom_1 : decode cX0_lowestRoom 1 = .ok (.getfield 12, 3) := by decide +kernel
theorem dX0_lowestRoom_4 : decode cX0_lowestRoom 4 = .ok (.iload_n 1, 1) := by decide +kernel
theorem dX0_lowestRoom_5 : decode cX0_lowestRoom 5 = .ok (.iload_n 2, 1) := by decide +kernel
theorem dX0_lowestRoom_6 : decode cX0_lowestRoom 6 = .ok (.invokevirtual 61, 3) := by decide +kernel
theorem dX0_lowestRoom_9 : decode cX0_lowestRoom 9 = .ok (.istore_n 3, 1) := by decide +kernel
theorem dX0_lowestRoom_10 : decode cX0_lowestRoom 10 = .ok (.iconst 0, 1) := by decide +kernel
theorem dX0_lowestRoom_11 : decode cX0_lowestRoom 11 = .ok (.istore 4, 2) := by decide +kernel
theorem dX0_lowestRoom_13 : decode cX0_lowestRoom 13 = .ok (.iload 4, 2) := by decide +kernel
theorem dX0_lowestRoom_15 : decode cX0_lowestRoom 15 = .ok (.bipush 6, 2) := by decide +kernel
theorem dX0_lowestRoom_17 : decode cX0_lowestRoom 17 = .ok (.if_icmp .ge 58, 3) := by decide +kernel
theorem dX0_lowestRoom_20 : decode cX0_lowestRoom 20 = .ok (.bipush 16, 2) := by decide +kernel
theorem dX0_lowestRoom_22 : decode cX0_lowestRoom 22 = .ok (.iload 4, 2) := by decide +kernel
theorem dX0_lowestRoom_24 : decode cX0_lowestRoom 24 = .ok (.iadd, 1) := by decide +kernel
theorem dX0_lowestRoom_25 : decode cX0_lowestRoom 25 = .ok (.istore 5, 2) := by decide +kernel
theorem dX0_lowestRoom_27 : decode cX0_lowestRoom 27 = .ok (.aload_n 0, 1) := by decide +kernel
theorem dX0_lowestRoom_28 : decode cX0_lowestRoom 28 = .ok (.getfield 18, 3) := by decide +kernel
theorem dX0_lowestRoom_31 : decode cX0_lowestRoom 31 = .ok (.iload 4, 2) := by decide +kernel
theorem dX0_lowestRoom_33 : decode cX0_lowestRoom 33 = .ok (.iaload, 1) := by decide +kernel
theorem dX0_lowestRoom_34 : decode cX0_lowestRoom 34 = .ok (.aload_n 0, 1) := by decide +kernel
theorem dX0_lowestRoom_35 : decode cX0_lowestRoom 35 = .ok (.getfield 12, 3) := by decide +kernel
theorem dX0_lowestRoom_38 : decode cX0_lowestRoom 38 = .ok (.getfield 108, 3) := by decide +kernel
theorem dX0_lowestRoom_41 : decode cX0_lowestRoom 41 = .ok (.iload_n 1, 1) := by decide +kernel
theorem dX0_lowestRoom_42 : decode cX0_lowestRoom 42 = .ok (.iaload, 1) := by decide +kernel
theorem dX0_lowestRoom_43 : decode cX0_lowestRoom 43 = .ok (.if_icmp .ne 26, 3) := by decide +kernel
theorem dX0_lowestRoom_46 : decode cX0_lowestRoom 46 = .ok (.aload_n 0, 1) := by decide +kernel
theorem dX0_lowestRoom_47 : decode cX0_lowestRoom 47 = .ok (.getfield 25, 3) := by decide +kernel
theorem dX0_lowestRoom_50 : decode cX0_lowestRoom 50 = .ok (.iload 5, 2) := by decide +kernel
theorem dX0_lowestRoom_52 : decode cX0_lowestRoom 52 = .ok (.iaload, 1) := by decide +kernel
theorem dX0_lowestRoom_53 : decode cX0_lowestRoom 53 = .ok (.aload_n 0, 1) := by decide +kernel
theorem dX0_lowestRoom_54 : decode cX0_lowestRoom 54 = .ok (.getfield 22, 3) := by decide +kernel
theorem dX0_lowestRoom_57 : decode cX0_lowestRoom 57 = .ok (.iload 5, 2) := by decide +kernel
theorem dX0_lowestRoom_59 : decode cX0_lowestRoom 59 = .ok (.iaload, 1) := by decide +kernel
theorem dX0_lowestRoom_60 : decode cX0_lowestRoom 60 = .ok (.ior, 1) := by decide +kernel
theorem dX0_lowestRoom_61 : decode cX0_lowestRoom 61 = .ok (.iload_n 3, 1) := by decide +kernel
theorem dX0_lowestRoom_62 : decode cX0_lowestRoom 62 = .ok (.iand, 1) := by decide +kernel
theorem dX0_lowestRoom_63 : decode cX0_lowestRoom 63 = .ok (.ifCond .ne 6, 3) := by decide +kernel
theorem dX0_lowestRoom_66 : decode cX0_lowestRoom 66 = .ok (.iload 4, 2) := by decide +kernel
theorem dX0_lowestRoom_68 : decode cX0_lowestRoom 68 = .ok (.ireturn, 1) := by decide +kernel
theorem dX0_lowestRoom_69 : decode cX0_lowestRoom 69 = .ok (.iinc 4 1, 3) := by decide +kernel
theorem dX0_lowestRoom_72 : decode cX0_lowestRoom 72 = .ok (.goto (-59), 3) := by decide +kernel
theorem dX0_lowestRoom_75 : decode cX0_lowestRoom 75 = .ok (.iconst (-1), 1) := by decide +kernel
theorem dX0_lowestRoom_76 : decode cX0_lowestRoom 76 = .ok (.ireturn, 1) := by decide +kernel
theorem dX0_weekPenalty_0 : decode cX0_weekPenalty 0 = .ok (.iconst 0, 1) := by decide +kernel
theorem dX0_weekPenalty_1 : decode cX0_weekPenalty 1 = .ok (.istore_n 1, 1) := by decide +kernel
theorem dX0_weekPenalty_2 : decode cX0_weekPenalty 2 = .ok (.iconst 0, 1) := by decide +kernel
theorem dX0_weekPenalty_3 : decode cX0_weekPenalty 3 = .ok (.istore_n 2, 1) := by decide +kernel
theorem dX0_weekPenalty_4 : decode cX0_weekPenalty 4 = .ok (.iload_n 2, 1) := by decide +kernel
theorem dX0_weekPenalty_5 : decode cX0_weekPenalty 5 = .ok (.bipush 8, 2) := by decide +kernel
theorem dX0_weekPenalty_7 : decode cX0_weekPenalty 7 = .ok (.if_icmp .ge 25, 3) := by decide +kernel
theorem dX0_weekPenalty_10 : decode cX0_weekPenalty 10 = .ok (.iload_n 1, 1) := by decide +kernel
theorem dX0_weekPenalty_11 : decode cX0_weekPenalty 11 = .ok (.aload_n 0, 1) := by decide +kernel
theorem dX0_weekPenalty_12 : decode cX0_weekPenalty 12 = .ok (.aload_n 0, 1) := by decide +kernel
theorem dX0_weekPenalty_13 : decode cX0_weekPenalty 13 = .ok (.getfield 25, 3) := by decide +kernel
theorem dX0_weekPenalty_16 : decode cX0_weekPenalty 16 = .ok (.bipush 8, 2) := by decide +kernel
theorem dX0_weekPenalty_18 : decode cX0_weekPenalty 18 = .ok (.iload_n 2, 1) := by decide +kernel
theorem dX0_weekPenalty_19 : decode cX0_weekPenalty 19 = .ok (.iadd, 1) := by decide +kernel
theorem dX0_weekPenalty_20 : decode cX0_weekPenalty 20 = .ok (.iaload, 1) := by decide +kernel
theorem dX0_weekPenalty_21 : decode cX0_weekPenalty 21 = .ok (.invokevirtual 111, 3) := by decide +kernel
theorem dX0_weekPenalty_24 : decode cX0_weekPenalty 24 = .ok (.iadd, 1) := by decide +kernel
theorem dX0_weekPenalty_25 : decode cX0_weekPenalty 25 = .ok (.istore_n 1, 1) := by decide +kernel
theorem dX0_weekPenalty_26 : decode cX0_weekPenalty 26 = .ok (.iinc 2 1, 3) := by decide +kernel
theorem dX0_weekPenalty_29 : decode cX0_weekPenalty 29 = .ok (.goto (-25), 3) := by decide +kernel
theorem dX0_weekPenalty_32 : decode cX0_weekPenalty 32 = .ok (.iconst 0, 1) := by decide +kernel
theorem dX0_weekPenalty_33 : decode cX0_weekPenalty 33 = .ok (.istore_n 2, 1) := by decide +kernel
theorem dX0_weekPenalty_34 : decode cX0_weekPenalty 34 = .ok (.iload_n 2, 1) := by decide +kernel
theorem dX0_weekPenalty_35 : decode cX0_weekPenalty 35 = .ok (.bipush 8, 2) := by decide +kernel
theorem dX0_weekPenalty_37 : decode cX0_weekPenalty 37 = .ok (.if_icmp .ge 22, 3) := by decide +kernel
theorem dX0_weekPenalty_40 : decode cX0_weekPenalty 40 = .ok (.iload_n 1, 1) := by decide +kernel
theorem dX0_weekPenalty_41 : decode cX0_weekPenalty 41 = .ok (.aload_n 0, 1) := by decide +kernel
theorem dX0_weekPenalty_42 : decode cX0_weekPenalty 42 = .ok (.aload_n 0, 1) := by decide +kernel
theorem dX0_weekPenalty_43 : decode cX0_weekPenalty 43 = .ok (.getfield 25, 3) := by decide +kernel
theorem dX0_weekPenalty_46 : decode cX0_weekPenalty 46 = .ok (.iload_n 2, 1) := by decide +kernel
theorem dX0_weekPenalty_47 : decode cX0_weekPenalty 47 = .ok (.iaload, 1) := by decide +kernel
theorem dX0_weekPenalty_48 : decode cX0_weekPenalty 48 = .ok (.invokevirtual 114, 3) := by decide +kernel
theorem dX0_weekPenalty_51 : decode cX0_weekPenalty 51 = .ok (.iadd, 1) := by decide +kernel
theorem dX0_weekPenalty_52 : decode cX0_weekPenalty 52 = .ok (.istore_n 1, 1) := by decide +kernel
theorem dX0_weekPenalty_53 : decode cX0_weekPenalty 53 = .ok (.iinc 2 1, 3) := by decide +kernel
theorem dX0_weekPenalty_56 : decode cX0_weekPenalty 56 = .ok (.goto (-22), 3) := by decide +kernel
theorem dX0_weekPenalty_59 : decode cX0_weekPenalty 59 = .ok (.iload_n 1, 1) := by decide +kernel
theorem dX0_weekPenalty_60 : decode cX0_weekPenalty 60 = .ok (.ireturn, 1) := by decide +kernel
theorem dX0_teacherPart_0 : decode cX0_teacherPart 0 = .ok (.iconst 1, 1) := by decide +kernel
theorem dX0_teacherPart_1 : decode cX0_teacherPart 1 = .ok (.aload_n 0, 1) := by decide +kernel
theorem dX0_teacherPart_2 : decode cX0_teacherPart 2 = .ok (.iload_n 1, 1) := by decide +kernel
theorem dX0_teacherPart_3 : decode cX0_teacherPart 3 = .ok (.invokevirtual 117, 3) := by decide +kernel
theorem dX0_teacherPart_6 : decode cX0_teacherPart 6 = .ok (.imul, 1) := by decide +kernel
theorem dX0_teacherPart_7 : decode cX0_teacherPart 7 = .ok (.iconst 3, 1) := by decide +kernel
theorem dX0_teacherPart_8 : decode cX0_teacherPart 8 = .ok (.iload_n 1, 1) := by decide +kernel
theorem dX0_teacherPart_9 : decode cX0_teacherPart 9 = .ok (.aload_n 0, 1) := by decide +kernel
theorem dX0_teacherPart_10 : decode cX0_teacherPart 10 = .ok (.getfield 44, 3) := by decide +kernel
theorem dX0_teacherPart_13 : decode cX0_teacherPart 13 = .ok (.iand, 1) := by decide +kernel
theorem dX0_teacherPart_14 : decode cX0_teacherPart 14 = .ok (.invokestatic 120, 3) := by decide +kernel
theorem dX0_teacherPart_17 : decode cX0_teacherPart 17 = .ok (.imul, 1) := by decide +kernel
theorem dX0_teacherPart_18 : decode cX0_teacherPart 18 = .ok (.iadd, 1) := by decide +kernel
theorem dX0_teacherPart_19 : decode cX0_teacherPart 19 = .ok (.ireturn, 1) := by decide +kernel
theorem dX0_classPart_0 : decode cX0_classPart 0 = .ok (.iconst 2, 1) := by decide +kernel
theorem dX0_classPart_1 : decode cX0_classPart 1 = .ok (.aload_n 0, 1) := by decide +kernel
theorem dX0_classPart_2 : decode cX0_classPart 2 = .ok (.iload_n 1, 1) := by decide +kernel
theorem dX0_classPart_3 : decode cX0_classPart 3 = .ok (.invokevirtual 117, 3) := by decide +kernel
theorem dX0_classPart_6 : decode cX0_classPart 6 = .ok (.imul, 1) := by decide +kernel
theorem dX0_classPart_7 : decode cX0_classPart 7 = .ok (.ireturn, 1) := by decide +kernel
theorem dX0_gapsIn_0 : decode cX0_gapsIn 0 = .ok (.iload_n 1, 1) := by decide +kernel
theorem dX0_gapsIn_1 : decode cX0_gapsIn 1 = .ok (.istore_n 2, 1) := by decide +kernel
theorem dX0_gapsIn_2 : decode cX0_gapsIn 2 = .ok (.iload_n 1, 1) := by decide +kernel
theorem dX0_gapsIn_3 : decode cX0_gapsIn 3 = .ok (.istore_n 3, 1) := by decide +kernel
theorem dX0_gapsIn_4 : decode cX0_gapsIn 4 = .ok (.iconst 1, 1) := by decide +kernel
theorem dX0_gapsIn_5 : decode cX0_gapsIn 5 = .ok (.istore 4, 2) := by decide +kernel
theorem dX0_gapsIn_7 : decode cX0_gapsIn 7 = .ok (.iload 4, 2) := by decide +kernel
theorem dX0_gapsIn_9 : decode cX0_gapsIn 9 = .ok (.aload_n 0, 1) := by decide +kernel
theorem dX0_gapsIn_10 : decode cX0_gapsIn 10 = .ok (.getfield 35, 3) := by decide +kernel
theorem dX0_gapsIn_13 : decode cX0_gapsIn 13 = .ok (.if_icmp .ge 35, 3) := by decide +kernel
theorem dX0_gapsIn_16 : decode cX0_gapsIn 16 = .ok (.iload_n 2, 1) := by decide +kernel
theorem dX0_gapsIn_17 : decode cX0_gapsIn 17 = .ok (.iload_n 2, 1) := by decide +kernel
theorem dX0_gapsIn_18 : decode cX0_gapsIn 18 = .ok (.iconst 1, 1) := by decide +kernel
theorem dX0_gapsIn_19 : decode cX0_gapsIn 19 = .ok (.ishl, 1) := by decide +kernel
theorem dX0_gapsIn_20 : decode cX0_gapsIn 20 = .ok (.aload_n 0, 1) := by decide +kernel
theorem dX0_gapsIn_21 : decode cX0_gapsIn 21 = .ok (.getfield 41, 3) := by decide +kernel
theorem dX0_gapsIn_24 : decode cX0_gapsIn 24 = .ok (.iconst (-1), 1) := by decide +kernel
theorem dX0_gapsIn_25 : decode cX0_gapsIn 25 = .ok (.ixor, 1) := by decide +kernel
theorem dX0_gapsIn_26 : decode cX0_gapsIn 26 = .ok (.iand, 1) := by decide +kernel
theorem dX0_gapsIn_27 : decode cX0_gapsIn 27 = .ok (.ior, 1) := by decide +kernel
theorem dX0_gapsIn_28 : decode cX0_gapsIn 28 = .ok (.istore_n 2, 1) := by decide +kernel
theorem dX0_gapsIn_29 : decode cX0_gapsIn 29 = .ok (.iload_n 3, 1) := by decide +kernel
theorem dX0_gapsIn_30 : decode cX0_gapsIn 30 = .ok (.iload_n 3, 1) := by decide +kernel
theorem dX0_gapsIn_31 : decode cX0_gapsIn 31 = .ok (.iconst 1, 1) := by decide +kernel
theorem dX0_gapsIn_32 : decode cX0_gapsIn 32 = .ok (.ishr, 1) := by decide +kernel
theorem dX0_gapsIn_33 : decode cX0_gapsIn 33 = .ok (.aload_n 0, 1) := by decide +kernel
theorem dX0_gapsIn_34 : decode cX0_gapsIn 34 = .ok (.getfield 44, 3) := by decide +kernel
theorem dX0_gapsIn_37 : decode cX0_gapsIn 37 = .ok (.iconst (-1), 1) := by decide +kernel
theorem dX0_gapsIn_38 : decode cX0_gapsIn 38 = .ok (.ixor, 1) := by decide +kernel
theorem dX0_gapsIn_39 : decode cX0_gapsIn 39 = .ok (.iand, 1) := by decide +kernel
theorem dX0_gapsIn_40 : decode cX0_gapsIn 40 = .ok (.ior, 1) := by decide +kernel
theorem dX0_gapsIn_41 : decode cX0_gapsIn 41 = .ok (.istore_n 3, 1) := by decide +kernel
theorem dX0_gapsIn_42 : decode cX0_gapsIn 42 = .ok (.iinc 4 1, 3) := by decide +kernel
theorem dX0_gapsIn_45 : decode cX0_gapsIn 45 = .ok (.goto (-38), 3) := by decide +kernel
theorem dX0_gapsIn_48 : decode cX0_gapsIn 48 = .ok (.iload_n 2, 1) := by decide +kernel
theorem dX0_gapsIn_49 : decode cX0_gapsIn 49 = .ok (.iload_n 3, 1) := by decide +kernel
theorem dX0_gapsIn_50 : decode cX0_gapsIn 50 = .ok (.iand, 1) := by decide +kernel
theorem dX0_gapsIn_51 : decode cX0_gapsIn 51 = .ok (.iload_n 1, 1) := by decide +kernel
theorem dX0_gapsIn_52 : decode cX0_gapsIn 52 = .ok (.iconst (-1), 1) := by decide +kernel
theorem dX0_gapsIn_53 : decode cX0_gapsIn 53 = .ok (.ixor, 1) := by decide +kernel
theorem dX0_gapsIn_54 : decode cX0_gapsIn 54 = .ok (.iand, 1) := by decide +kernel
theorem dX0_gapsIn_55 : decode cX0_gapsIn 55 = .ok (.invokestatic 120, 3) := by decide +kernel
theorem dX0_gapsIn_58 : decode cX0_gapsIn 58 = .ok (.ireturn, 1) := by decide +kernel
theorem dX0_betterAll_0 : decode cX0_betterAll 0 = .ok (.iconst 0, 1) := by decide +kernel
theorem dX0_betterAll_1 : decode cX0_betterAll 1 = .ok (.istore_n 1, 1) := by decide +kernel
theorem dX0_betterAll_2 : decode cX0_betterAll 2 = .ok (.iconst 0, 1) := by decide +kernel
theorem dX0_betterAll_3 : decode cX0_betterAll 3 = .ok (.istore_n 2, 1) := by decide +kernel
theorem dX0_betterAll_4 : decode cX0_betterAll 4 = .ok (.iload_n 2, 1) := by decide +kernel
theorem dX0_betterAll_5 : decode cX0_betterAll 5 = .ok (.bipush 64, 2) := by decide +kernel
theorem dX0_betterAll_7 : decode cX0_betterAll 7 = .ok (.if_icmp .ge 27, 3) := by decide +kernel
theorem dX0_betterAll_10 : decode cX0_betterAll 10 = .ok (.aload_n 0, 1) := by decide +kernel
theorem dX0_betterAll_11 : decode cX0_betterAll 11 = .ok (.iload_n 2, 1) := by decide +kernel
theorem dX0_betterAll_12 : decode cX0_betterAll 12 = .ok (.invokevirtual 53, 3) := by decide +kernel
theorem dX0_betterAll_15 : decode cX0_betterAll 15 = .ok (.ifCond .eq 13, 3) := by decide +kernel
theorem dX0_betterAll_18 : decode cX0_betterAll 18 = .ok (.aload_n 0, 1) := by decide +kernel
theorem dX0_betterAll_19 : decode cX0_betterAll 19 = .ok (.iload_n 2, 1) := by decide +kernel
theorem dX0_betterAll_20 : decode cX0_betterAll 20 = .ok (.invokevirtual 125, 3) := by decide +kernel
theorem dX0_betterAll_23 : decode cX0_betterAll 23 = .ok (.ifCond .eq 5, 3) := by decide +kernel
theorem dX0_betterAll_26 : decode cX0_betterAll 26 = .ok (.iconst 1, 1) := by decide +kernel
theorem dX0_betterAll_27 : decode cX0_betterAll 27 = .ok (.istore_n 1, 1) := by decide +kernel
theorem dX0_betterAll_28 : decode cX0_betterAll 28 = .ok (.iinc 2 1, 3) := by decide +kernel
theorem dX0_betterAll_31 : decode cX0_betterAll 31 = .ok (.goto (-27), 3) := by decide +kernel
theorem dX0_betterAll_34 : decode cX0_betterAll 34 = .ok (.iload_n 1, 1) := by decide +kernel
theorem dX0_betterAll_35 : decode cX0_betterAll 35 = .ok (.ireturn, 1) := by decide +kernel
theorem dX0_moveToBest_0 : decode cX0_moveToBest 0 = .ok (.iload_n 1, 1) := by decide +kernel
theorem dX0_moveToBest_1 : decode cX0_moveToBest 1 = .ok (.invokestatic 57, 3) := by decide +kernel
theorem dX0_moveToBest_4 : decode cX0_moveToBest 4 = .ok (.istore_n 2, 1) := by decide +kernel
theorem dX0_moveToBest_5 : decode cX0_moveToBest 5 = .ok (.aload_n 0, 1) := by decide +kernel
theorem dX0_moveToBest_6 : decode cX0_moveToBest 6 = .ok (.getfield 28, 3) := by decide +kernel
theorem dX0_moveToBest_9 : decode cX0_moveToBest 9 = .ok (.iload_n 1, 1) := by decide +kernel
theorem dX0_moveToBest_10 : decode cX0_moveToBest 10 = .ok (.iaload, 1) := by decide +kernel
theorem dX0_moveToBest_11 : decode cX0_moveToBest 11 = .ok (.istore_n 3, 1) := by decide +kernel
theorem dX0_moveToBest_12 : decode cX0_moveToBest 12 = .ok (.aload_n 0, 1) := by decide +kernel
theorem dX0_moveToBest_13 : decode cX0_moveToBest 13 = .ok (.iload_n 1, 1) := by decide +kernel
theorem dX0_moveToBest_14 : decode cX0_moveToBest 14 = .ok (.invokevirtual 128, 3) := by decide +kernel
theorem dX0_moveToBest_17 : decode cX0_moveToBest 17 = .ok (.istore 4, 2) := by decide +kernel
theorem dX0_moveToBest_19 : decode cX0_moveToBest 19 = .ok (.aload_n 0, 1) := by decide +kernel
theorem dX0_moveToBest_20 : decode cX0_moveToBest 20 = .ok (.iload_n 1, 1) := by decide +kernel
theorem dX0_moveToBest_21 : decode cX0_moveToBest 21 = .ok (.invokevirtual 131, 3) := by decide +kernel
theorem dX0_moveToBest_24 : decode cX0_moveToBest 24 = .ok (.iload 4, 2) := by decide +kernel
theorem dX0_moveToBest_26 : decode cX0_moveToBest 26 = .ok (.istore 5, 2) := by decide +kernel
theorem dX0_moveToBest_28 : decode cX0_moveToBest 28 = .ok (.aload_n 0, 1) := by decide +kernel
theorem dX0_moveToBest_29 : decode cX0_moveToBest 29 = .ok (.iload_n 2, 1) := by decide +kernel
theorem dX0_moveToBest_30 : decode cX0_moveToBest 30 = .ok (.iload 4, 2) := by decide +kernel
theorem dX0_moveToBest_32 : decode cX0_moveToBest 32 = .ok (.invokevirtual 134, 3) := by decide +kernel
theorem dX0_moveToBest_35 : decode cX0_moveToBest 35 = .ok (.istore 6, 2) := by decide +kernel
theorem dX0_moveToBest_37 : decode cX0_moveToBest 37 = .ok (.iconst 0, 1) := by decide +kernel
theorem dX0_moveToBest_38 : decode cX0_moveToBest 38 = .ok (.istore 7, 2) := by decide +kernel
theorem dX0_moveToBest_40 : decode cX0_moveToBest 40 = .ok (.iload 7, 2) := by decide +kernel
theorem dX0_moveToBest_42 : decode cX0_moveToBest 42 = .ok (.aload_n 0, 1) := by decide +kernel
theorem dX0_moveToBest_43 : decode cX0_moveToBest 43 = .ok (.getfield 38, 3) := by decide +kernel
theorem dX0_moveToBest_46 : decode cX0_moveToBest 46 = .ok (.if_icmp .ge 44, 3) := by decide +kernel
theorem dX0_moveToBest_49 : decode cX0_moveToBest 49 = .ok (.aload_n 0, 1) := by decide +kernel
theorem dX0_moveToBest_50 : decode cX0_moveToBest 50 = .ok (.iload_n 1, 1) := by decide +kernel
theorem dX0_moveToBest_51 : decode cX0_moveToBest 51 = .ok (.iload 7, 2) := by decide +kernel
theorem dX0_moveToBest_53 : decode cX0_moveToBest 53 = .ok (.invokevirtual 78, 3) := by decide +kernel
theorem dX0_moveToBest_56 : decode cX0_moveToBest 56 = .ok (.ifCond .ne 28, 3) := by decide +kernel
theorem dX0_moveToBest_59 : decode cX0_moveToBest 59 = .ok (.aload_n 0, 1) := by decide +kernel
theorem dX0_moveToBest_60 : decode cX0_moveToBest 60 = .ok (.iload_n 2, 1) := by decide +kernel
theorem dX0_moveToBest_61 : decode cX0_moveToBest 61 = .ok (.iload 7, 2) := by decide +kernel
theorem dX0_moveToBest_63 : decode cX0_moveToBest 63 = .ok (.invokevirtual 134, 3) := by decide +kernel
theorem dX0_moveToBest_66 : decode cX0_moveToBest 66 = .ok (.iload 6, 2) := by decide +kernel
theorem dX0_moveToBest_68 : decode cX0_moveToBest 68 = .ok (.if_icmp .ge 16, 3) := by decide +kernel
theorem dX0_moveToBest_71 : decode cX0_moveToBest 71 = .ok (.iload 7, 2) := by decide +kernel
theorem dX0_moveToBest_73 : decode cX0_moveToBest 73 = .ok (.istore 5, 2) := by decide +kernel
theorem dX0_moveToBest_75 : decode cX0_moveToBest 75 = .ok (.aload_n 0, 1) := by decide +kernel
theorem dX0_moveToBest_76 : decode cX0_moveToBest 76 = .ok (.iload_n 2, 1) := by decide +kernel
theorem dX0_moveToBest_77 : decode cX0_moveToBest 77 = .ok (.iload 7, 2) := by decide +kernel
theorem dX0_moveToBest_79 : decode cX0_moveToBest 79 = .ok (.invokevirtual 134, 3) := by decide +kernel
theorem dX0_moveToBest_82 : decode cX0_moveToBest 82 = .ok (.istore 6, 2) := by decide +kernel
theorem dX0_moveToBest_84 : decode cX0_moveToBest 84 = .ok (.iinc 7 1, 3) := by decide +kernel
theorem dX0_moveToBest_87 : decode cX0_moveToBest 87 = .ok (.goto (-47), 3) := by decide +kernel
theorem dX0_moveToBest_90 : decode cX0_moveToBest 90 = .ok (.iload 5, 2) := by decide +kernel
theorem dX0_moveToBest_92 : decode cX0_moveToBest 92 = .ok (.iload 4, 2) := by decide +kernel
theorem dX0_moveToBest_94 : decode cX0_moveToBest 94 = .ok (.if_icmp .eq 7, 3) := by decide +kernel
theorem dX0_moveToBest_97 : decode cX0_moveToBest 97 = .ok (.iconst 1, 1) := by decide +kernel
theorem dX0_moveToBest_98 : decode cX0_moveToBest 98 = .ok (.goto 4, 3) := by decide +kernel
theorem dX0_moveToBest_101 : decode cX0_moveToBest 101 = .ok (.iconst 0, 1) := by decide +kernel
theorem dX0_moveToBest_102 : decode cX0_moveToBest 102 = .ok (.istore 7, 2) := by decide +kernel
theorem dX0_moveToBest_104 : decode cX0_moveToBest 104 = .ok (.aload_n 0, 1) := by decide +kernel
theorem dX0_moveToBest_105 : decode cX0_moveToBest 105 = .ok (.iload_n 1, 1) := by decide +kernel
theorem dX0_moveToBest_106 : decode cX0_moveToBest 106 = .ok (.iload 7, 2) := by decide +kernel
theorem dX0_moveToBest_108 : decode cX0_moveToBest 108 = .ok (.ifCond .eq 19, 3) := by decide +kernel
theorem dX0_moveToBest_111 : decode cX0_moveToBest 111 = .ok (.iload 5, 2) := by decide +kernel
theorem dX0_moveToBest_113 : decode cX0_moveToBest 113 = .ok (.bipush 6, 2) := by decide +kernel
theorem dX0_moveToBest_115 : decode cX0_moveToBest 115 = .ok (.imul, 1) := by decide +kernel
theorem dX0_moveToBest_116 : decode cX0_moveToBest 116 = .ok (.aload_n 0, 1) := by decide +kernel
theorem dX0_moveToBest_117 : decode cX0_moveToBest 117 = .ok (.iload_n 2, 1) := by decide +kernel
theorem dX0_moveToBest_118 : decode cX0_moveToBest 118 = .ok (.iload 5, 2) := by decide +kernel
theorem dX0_moveToBest_120 : decode cX0_moveToBest 120 = .ok (.invokevirtual 81, 3) := by decide +kernel
theorem dX0_moveToBest_123 : decode cX0_moveToBest 123 = .ok (.iadd, 1) := by decide +kernel
theorem dX0_moveToBest_124 : decode cX0_moveToBest 124 = .ok (.goto 4, 3) := by decide +kernel
theorem dX0_moveToBest_127 : decode cX0_moveToBest 127 = .ok (.iload_n 3, 1) := by decide +kernel
theorem dX0_moveToBest_128 : decode cX0_moveToBest 128 = .ok (.invokevirtual 84, 3) := by decide +kernel
theorem dX0_moveToBest_131 : decode cX0_moveToBest 131 = .ok (.iload 7, 2) := by decide +kernel
theorem dX0_moveToBest_133 : decode cX0_moveToBest 133 = .ok (.ireturn, 1) := by decide +kernel
theorem dX0_partWith_0 : decode cX0_partWith 0 = .ok (.aload_n 0, 1) := by decide +kernel
theorem dX0_partWith_1 : decode cX0_partWith 1 = .ok (.getfield 12, 3) := by decide +kernel
theorem dX0_partWith_4 : decode cX0_partWith 4 = .ok (.iload_n 1, 1) := by decide +kernel
theorem dX0_partWith_5 : decode cX0_partWith 5 = .ok (.iload_n 2, 1) := by decide +kernel
theorem dX0_partWith_6 : decode cX0_partWith 6 = .ok (.invokevirtual 61, 3) := by decide +kernel
theorem dX0_partWith_9 : decode cX0_partWith 9 = .ok (.istore_n 3, 1) := by decide +kernel
theorem dX0_partWith_10 : decode cX0_partWith 10 = .ok (.aload_n 0, 1) := by decide +kernel
theorem dX0_partWith_11 : decode cX0_partWith 11 = .ok (.getfield 12, 3) := by decide +kernel
theorem dX0_partWith_14 : decode cX0_partWith 14 = .ok (.getfield 75, 3) := by decide +kernel
theorem dX0_partWith_17 : decode cX0_partWith 17 = .ok (.iload_n 1, 1) := by decide +kernel
theorem dX0_partWith_18 : decode cX0_partWith 18 = .ok (.iaload, 1) := by decide +kernel
theorem dX0_partWith_19 : decode cX0_partWith 19 = .ok (.istore 4, 2) := by decide +kernel
theorem dX0_partWith_21 : decode cX0_partWith 21 = .ok (.aload_n 0, 1) := by decide +kernel
theorem dX0_partWith_22 : decode cX0_partWith 22 = .ok (.aload_n 0, 1) := by decide +kernel
theorem dX0_partWith_23 : decode cX0_partWith 23 = .ok (.getfield 25, 3) := by decide +kernel
theorem dX0_partWith_26 : decode cX0_partWith 26 = .ok (.bipush 8, 2) := by decide +kernel
theorem dX0_partWith_28 : decode cX0_partWith 28 = .ok (.aload_n 0, 1) := by decide +kernel
theorem dX0_partWith_29 : decode cX0_partWith 29 = .ok (.getfield 12, 3) := by decide +kernel
theorem dX0_partWith_32 : decode cX0_partWith 32 = .ok (.getfield 69, 3) := by decide +kernel
theorem dX0_partWith_35 : decode cX0_partWith 35 = .ok (.iload_n 1, 1) := by decide +kernel
theorem dX0_partWith_36 : decode cX0_partWith 36 = .ok (.iaload, 1) := by decide +kernel
theorem dX0_partWith_37 : decode cX0_partWith 37 = .ok (.iadd, 1) := by decide +kernel
theorem dX0_partWith_38 : decode cX0_partWith 38 = .ok (.iaload, 1) := by decide +kernel
theorem dX0_partWith_39 : decode cX0_partWith 39 = .ok (.iload_n 3, 1) := by decide +kernel
theorem dX0_partWith_40 : decode cX0_partWith 40 = .ok (.ior, 1) := by decide +kernel
theorem dX0_partWith_41 : decode cX0_partWith 41 = .ok (.invokevirtual 111, 3) := by decide +kernel
theorem dX0_partWith_44 : decode cX0_partWith 44 = .ok (.aload_n 0, 1) := by decide +kernel
theorem dX0_partWith_45 : decode cX0_partWith 45 = .ok (.aload_n 0, 1) := by decide +kernel
theorem dX0_partWith_46 : decode cX0_partWith 46 = .ok (.getfield 25, 3) := by decide +kernel
theorem dX0_partWith_49 : decode cX0_partWith 49 = .ok (.aload_n 0, 1) := by decide +kernel
theorem dX0_partWith_50 : decode cX0_partWith 50 = .ok (.getfield 12, 3) := by decide +kernel
theorem dX0_partWith_53 : decode cX0_partWith 53 = .ok (.getfield 72, 3) := by decide +kernel
theorem dX0_partWith_56 : decode cX0_partWith 56 = .ok (.iload_n 1, 1) := by decide +kernel
theorem dX0_partWith_57 : decode cX0_partWith 57 = .ok (.iaload, 1) := by decide +kernel
theorem dX0_partWith_58 : decode cX0_partWith 58 = .ok (.iaload, 1) := by decide +kernel
theorem dX0_partWith_59 : decode cX0_partWith 59 = .ok (.iload_n 3, 1) := by decide +kernel
theorem dX0_partWith_60 : decode cX0_partWith 60 = .ok (.ior, 1) := by decide +kernel
theorem dX0_partWith_61 : decode cX0_partWith 61 = .ok (.invokevirtual 114, 3) := by decide +kernel
theorem dX0_partWith_64 : decode cX0_partWith 64 = .ok (.iadd, 1) := by decide +kernel
theorem dX0_partWith_65 : decode cX0_partWith 65 = .ok (.iload 4, 2) := by decide +kernel
theorem dX0_partWith_67 : decode cX0_partWith 67 = .ok (.iconst (-1), 1) := by decide +kernel
theorem dX0_partWith_68 : decode cX0_partWith 68 = .ok (.if_icmp .ne 7, 3) := by decide +kernel
theorem dX0_partWith_71 : decode cX0_partWith 71 = .ok (.iconst 0, 1) := by decide +kernel
theorem dX0_partWith_72 : decode cX0_partWith 72 = .ok (.goto 16, 3) := by decide +kernel
theorem dX0_partWith_75 : decode cX0_partWith 75 = .ok (.aload_n 0, 1) := by decide +kernel
theorem dX0_partWith_76 : decode cX0_partWith 76 = .ok (.aload_n 0, 1) := by decide +kernel
theorem dX0_partWith_77 : decode cX0_partWith 77 = .ok (.getfield 25, 3) := by decide +kernel
theorem dX0_partWith_80 : decode cX0_partWith 80 = .ok (.iload 4, 2) := by decide +kernel
theorem dX0_partWith_82 : decode cX0_partWith 82 = .ok (.iaload, 1) := by decide +kernel
theorem dX0_partWith_83 : decode cX0_partWith 83 = .ok (.iload_n 3, 1) := by decide +kernel
theorem dX0_partWith_84 : decode cX0_partWith 84 = .ok (.ior, 1) := by decide +kernel
theorem dX0_partWith_85 : decode cX0_partWith 85 = .ok (.invokevirtual 114, 3) := by decide +kernel
theorem dX0_partWith_88 : decode cX0_partWith 88 = .ok (.iadd, 1) := by decide +kernel
theorem dX0_partWith_89 : decode cX0_partWith 89 = .ok (.ireturn, 1) := by decide +kernel
theorem dX0_letterAt_0 : decode cX0_letterAt 0 = .ok (.iconst 0, 1) := by decide +kernel
theorem dX0_letterAt_1 : decode cX0_letterAt 1 = .ok (.istore_n 3, 1) := by decide +kernel
theorem dX0_letterAt_2 : decode cX0_letterAt 2 = .ok (.iload_n 3, 1) := by decide +kernel
theorem dX0_letterAt_3 : decode cX0_letterAt 3 = .ok (.bipush 64, 2) := by decide +kernel
theorem dX0_letterAt_5 : decode cX0_letterAt 5 = .ok (.if_icmp .ge 43, 3) := by decide +kernel
theorem dX0_letterAt_8 : decode cX0_letterAt 8 = .ok (.aload_n 0, 1) := by decide +kernel
theorem dX0_letterAt_9 : decode cX0_letterAt 9 = .ok (.iload_n 3, 1) := by decide +kernel
theorem dX0_letterAt_10 : decode cX0_letterAt 10 = .ok (.invokevirtual 137, 3) := by decide +kernel
theorem dX0_letterAt_13 : decode cX0_letterAt 13 = .ok (.iconst 1, 1) := by decide +kernel
theorem dX0_letterAt_14 : decode cX0_letterAt 14 = .ok (.iload_n 2, 1) := by decide +kernel
theorem dX0_letterAt_15 : decode cX0_letterAt 15 = .ok (.ishl, 1) := by decide +kernel
theorem dX0_letterAt_16 : decode cX0_letterAt 16 = .ok (.iand, 1) := by decide +kernel
theorem dX0_letterAt_17 : decode cX0_letterAt 17 = .ok (.ifCond .eq 25, 3) := by decide +kernel
theorem dX0_letterAt_20 : decode cX0_letterAt 20 = .ok (.aload_n 0, 1) := by decide +kernel
theorem dX0_letterAt_21 : decode cX0_letterAt 21 = .ok (.iload_n 3, 1) := by decide +kernel
theorem dX0_letterAt_22 : decode cX0_letterAt 22 = .ok (.iload_n 1, 1) := by decide +kernel
theorem dX0_letterAt_23 : decode cX0_letterAt 23 = .ok (.invokevirtual 140, 3) := by decide +kernel
theorem dX0_letterAt_26 : decode cX0_letterAt 26 = .ok (.ifCond .eq 16, 3) := by decide +kernel
theorem dX0_letterAt_29 : decode cX0_letterAt 29 = .ok (.aload_n 0, 1) := by decide +kernel
theorem dX0_letterAt_30 : decode cX0_letterAt 30 = .ok (.getfield 12, 3) := by decide +kernel
theorem dX0_letterAt_33 : decode cX0_letterAt 33 = .ok (.getfield 143, 3) := by decide +kernel
theorem dX0_letterAt_36 : decode cX0_letterAt 36 = .ok (.iload_n 3, 1) := by decide +kernel
theorem dX0_letterAt_37 : decode cX0_letterAt 37 = .ok (.invokestatic 57, 3) := by decide +kernel
theorem dX0_letterAt_40 : decode cX0_letterAt 40 = .ok (.iaload, 1) := by decide +kernel
theorem dX0_letterAt_41 : decode cX0_letterAt 41 = .ok (.ireturn, 1) := by decide +kernel
theorem dX0_letterAt_42 : decode cX0_letterAt 42 = .ok (.iinc 3 1, 3) := by decide +kernel
theorem dX0_letterAt_45 : decode cX0_letterAt 45 = .ok (.goto (-43), 3) := by decide +kernel
theorem dX0_letterAt_48 : decode cX0_letterAt 48 = .ok (.bipush 46, 2) := by decide +kernel
theorem dX0_letterAt_50 : decode cX0_letterAt 50 = .ok (.ireturn, 1) := by decide +kernel
theorem dX0_isUsedBy_0 : decode cX0_isUsedBy 0 = .ok (.iload_n 1, 1) := by decide +kernel
theorem dX0_isUsedBy_1 : decode cX0_isUsedBy 1 = .ok (.invokestatic 57, 3) := by decide +kernel
theorem dX0_isUsedBy_4 : decode cX0_isUsedBy 4 = .ok (.istore_n 3, 1) := by decide +kernel
theorem dX0_isUsedBy_5 : decode cX0_isUsedBy 5 = .ok (.iload_n 2, 1) := by decide +kernel
theorem dX0_isUsedBy_6 : decode cX0_isUsedBy 6 = .ok (.aload_n 0, 1) := by decide +kernel
theorem dX0_isUsedBy_7 : decode cX0_isUsedBy 7 = .ok (.getfield 12, 3) := by decide +kernel
theorem dX0_isUsedBy_10 : decode cX0_isUsedBy 10 = .ok (.getfield 72, 3) := by decide +kernel
theorem dX0_isUsedBy_13 : decode cX0_isUsedBy 13 = .ok (.iload_n 3, 1) := by decide +kernel
theorem dX0_isUsedBy_14 : decode cX0_isUsedBy 14 = .ok (.iaload, 1) := by decide +kernel
theorem dX0_isUsedBy_15 : decode cX0_isUsedBy 15 = .ok (.if_icmp .eq 44, 3) := by decide +kernel
theorem dX0_isUsedBy_18 : decode cX0_isUsedBy 18 = .ok (.iload_n 2, 1) := by decide +kernel
theorem dX0_isUsedBy_19 : decode cX0_isUsedBy 19 = .ok (.aload_n 0, 1) := by decide +kernel
theorem dX0_isUsedBy_20 : decode cX0_isUsedBy 20 = .ok (.getfield 12, 3) := by decide +kernel
theorem dX0_isUsedBy_23 : decode cX0_isUsedBy 23 = .ok (.getfield 75, 3) := by decide +kernel
theorem dX0_isUsedBy_26 : decode cX0_isUsedBy 26 = .ok (.iload_n 3, 1) := by decide +kernel
theorem dX0_isUsedBy_27 : decode cX0_isUsedBy 27 = .ok (.iaload, 1) := by decide +kernel
theorem dX0_isUsedBy_28 : decode cX0_isUsedBy 28 = .ok (.if_icmp .eq 31, 3) := by decide +kernel
theorem dX0_isUsedBy_31 : decode cX0_isUsedBy 31 = .ok (.iload_n 2, 1) := by decide +kernel
theorem dX0_isUsedBy_32 : decode cX0_isUsedBy 32 = .ok (.bipush 8, 2) := by decide +kernel
theorem dX0_isUsedBy_34 : decode cX0_isUsedBy 34 = .ok (.aload_n 0, 1) := by decide +kernel
theorem dX0_isUsedBy_35 : decode cX0_isUsedBy 35 = .ok (.getfield 12, 3) := by decide +kernel
theorem dX0_isUsedBy_38 : decode cX0_isUsedBy 38 = .ok (.getfield 69, 3) := by decide +kernel
theorem dX0_isUsedBy_41 : decode cX0_isUsedBy 41 = .ok (.iload_n 3, 1) := by decide +kernel
theorem dX0_isUsedBy_42 : decode cX0_isUsedBy 42 = .ok (.iaload, 1) := by decide +kernel
theorem dX0_isUsedBy_43 : decode cX0_isUsedBy 43 = .ok (.iadd, 1) := by decide +kernel
theorem dX0_isUsedBy_44 : decode cX0_isUsedBy 44 = .ok (.if_icmp .eq 15, 3) := by decide +kernel
theorem dX0_isUsedBy_47 : decode cX0_isUsedBy 47 = .ok (.iload_n 2, 1) := by decide +kernel
theorem dX0_isUsedBy_48 : decode cX0_isUsedBy 48 = .ok (.bipush 16, 2) := by decide +kernel
theorem dX0_isUsedBy_50 : decode cX0_isUsedBy 50 = .ok (.aload_n 0, 1) := by decide +kernel
theorem dX0_isUsedBy_51 : decode cX0_isUsedBy 51 = .ok (.iload_n 1, 1) := by decide +kernel
theorem dX0_isUsedBy_52 : decode cX0_isUsedBy 52 = .ok (.invokevirtual 146, 3) := by decide +kernel
theorem dX0_isUsedBy_55 : decode cX0_isUsedBy 55 = .ok (.iadd, 1) := by decide +kernel
theorem dX0_isUsedBy_56 : decode cX0_isUsedBy 56 = .ok (.if_icmp .ne 7, 3) := by decide +kernel
theorem dX0_isUsedBy_59 : decode cX0_isUsedBy 59 = .ok (.iconst 1, 1) := by decide +kernel
theorem dX0_isUsedBy_60 : decode cX0_isUsedBy 60 = .ok (.goto 4, 3) := by decide +kernel
theorem dX0_isUsedBy_63 : decode cX0_isUsedBy 63 = .ok (.iconst 0, 1) := by decide +kernel
theorem dX0_isUsedBy_64 : decode cX0_isUsedBy 64 = .ok (.ireturn, 1) := by decide +kernel
theorem dX0_itemBeginningAt_0 : decode cX0_itemBeginningAt 0 = .ok (.iconst 0, 1) := by decide +kernel
theorem dX0_itemBeginningAt_1 : decode cX0_itemBeginningAt 1 = .ok (.istore_n 3, 1) := by decide +kernel
theorem dX0_itemBeginningAt_2 : decode cX0_itemBeginningAt 2 = .ok (.iload_n 3, 1) := by decide +kernel
theorem dX0_itemBeginningAt_3 : decode cX0_itemBeginningAt 3 = .ok (.bipush 64, 2) := by decide +kernel
theorem dX0_itemBeginningAt_5 : decode cX0_itemBeginningAt 5 = .ok (.if_icmp .ge 36, 3) := by decide +kernel
theorem dX0_itemBeginningAt_8 : decode cX0_itemBeginningAt 8 = .ok (.aload_n 0, 1) := by decide +kernel
theorem dX0_itemBeginningAt_9 : decode cX0_itemBeginningAt 9 = .ok (.getfield 12, 3) := by decide +kernel
theorem dX0_itemBeginningAt_12 : decode cX0_itemBeginningAt 12 = .ok (.getfield 69, 3) := by decide +kernel
theorem dX0_itemBeginningAt_15 : decode cX0_itemBeginningAt 15 = .ok (.iload_n 3, 1) := by decide +kernel
theorem dX0_itemBeginningAt_16 : decode cX0_itemBeginningAt 16 = .ok (.invokestatic 57, 3) := by decide +kernel
theorem dX0_itemBeginningAt_19 : decode cX0_itemBeginningAt 19 = .ok (.iaload, 1) := by decide +kernel
theorem dX0_itemBeginningAt_20 : decode cX0_itemBeginningAt 20 = .ok (.iload_n 1, 1) := by decide +kernel
theorem dX0_itemBeginningAt_21 : decode cX0_itemBeginningAt 21 = .ok (.if_icmp .ne 14, 3) := by decide +kernel
theorem dX0_itemBeginningAt_24 : decode cX0_itemBeginningAt 24 = .ok (.aload_n 0, 1) := by decide +kernel
theorem dX0_itemBeginningAt_25 : decode cX0_itemBeginningAt 25 = .ok (.iload_n 3, 1) := by decide +kernel
theorem dX0_itemBeginningAt_26 : decode cX0_itemBeginningAt 26 = .ok (.invokevirtual 128, 3) := by decide +kernel
theorem dX0_itemBeginningAt_29 : decode cX0_itemBeginningAt 29 = .ok (.iload_n 2, 1) := by decide +kernel
theorem dX0_itemBeginningAt_30 : decode cX0_itemBeginningAt 30 = .ok (.if_icmp .ne 5, 3) := by decide +kernel
theorem dX0_itemBeginningAt_33 : decode cX0_itemBeginningAt 33 = .ok (.iload_n 3, 1) := by decide +kernel
theorem dX0_itemBeginningAt_34 : decode cX0_itemBeginningAt 34 = .ok (.ireturn, 1) := by decide +kernel
theorem dX0_itemBeginningAt_35 : decode cX0_itemBeginningAt 35 = .ok (.iinc 3 1, 3) := by decide +kernel
theorem dX0_itemBeginningAt_38 : decode cX0_itemBeginningAt 38 = .ok (.goto (-36), 3) := by decide +kernel
theorem dX0_itemBeginningAt_41 : decode cX0_itemBeginningAt 41 = .ok (.iconst (-1), 1) := by decide +kernel
theorem dX0_itemBeginningAt_42 : decode cX0_itemBeginningAt 42 = .ok (.ireturn, 1) := by decide +kernel
theorem dX0_itemsOnDay_0 : decode cX0_itemsOnDay 0 = .ok (.iconst 0, 1) := by decide +kernel
theorem dX0_itemsOnDay_1 : decode cX0_itemsOnDay 1 = .ok (.istore_n 3, 1) := by decide +kernel
theorem dX0_itemsOnDay_2 : decode cX0_itemsOnDay 2 = .ok (.iconst 0, 1) := by decide +kernel
theorem dX0_itemsOnDay_3 : decode cX0_itemsOnDay 3 = .ok (.istore 4, 2) := by decide +kernel
theorem dX0_itemsOnDay_5 : decode cX0_itemsOnDay 5 = .ok (.iload 4, 2) := by decide +kernel
theorem dX0_itemsOnDay_7 : decode cX0_itemsOnDay 7 = .ok (.bipush 64, 2) := by decide +kernel
theorem dX0_itemsOnDay_9 : decode cX0_itemsOnDay 9 = .ok (.if_icmp .ge 39, 3) := by decide +kernel
theorem dX0_itemsOnDay_12 : decode cX0_itemsOnDay 12 = .ok (.aload_n 0, 1) := by decide +kernel
theorem dX0_itemsOnDay_13 : decode cX0_itemsOnDay 13 = .ok (.getfield 12, 3) := by decide +kernel
theorem dX0_itemsOnDay_16 : decode cX0_itemsOnDay 16 = .ok (.getfield 69, 3) := by decide +kernel
theorem dX0_itemsOnDay_19 : decode cX0_itemsOnDay 19 = .ok (.iload 4, 2) := by decide +kernel
theorem dX0_itemsOnDay_21 : decode cX0_itemsOnDay 21 = .ok (.invokestatic 57, 3) := by decide +kernel
theorem dX0_itemsOnDay_24 : decode cX0_itemsOnDay 24 = .ok (.iaload, 1) := by decide +kernel
theorem dX0_itemsOnDay_25 : decode cX0_itemsOnDay 25 = .ok (.iload_n 1, 1) := by decide +kernel
theorem dX0_itemsOnDay_26 : decode cX0_itemsOnDay 26 = .ok (.if_icmp .ne 16, 3) := by decide +kernel
theorem dX0_itemsOnDay_29 : decode cX0_itemsOnDay 29 = .ok (.aload_n 0, 1) := by decide +kernel
theorem dX0_itemsOnDay_30 : decode cX0_itemsOnDay 30 = .ok (.iload 4, 2) := by decide +kernel
theorem dX0_itemsOnDay_32 : decode cX0_itemsOnDay 32 = .ok (.iload_n 2, 1) := by decide +kernel
theorem dX0_itemsOnDay_33 : decode cX0_itemsOnDay 33 = .ok (.invokevirtual 105, 3) := by decide +kernel
theorem dX0_itemsOnDay_36 : decode cX0_itemsOnDay 36 = .ok (.ifCond .eq 6, 3) := by decide +kernel
theorem dX0_itemsOnDay_39 : decode cX0_itemsOnDay 39 = .ok (.iinc 3 1, 3) := by decide +kernel
theorem dX0_itemsOnDay_42 : decode cX0_itemsOnDay 42 = .ok (.iinc 4 1, 3) := by decide +kernel
theorem dX0_itemsOnDay_45 : decode cX0_itemsOnDay 45 = .ok (.goto (-40), 3) := by decide +kernel
theorem dX0_itemsOnDay_48 : decode cX0_itemsOnDay 48 = .ok (.iload_n 3, 1) := by decide +kernel
theorem dX0_itemsOnDay_49 : decode cX0_itemsOnDay 49 = .ok (.ireturn, 1) := by decide +kernel
theorem dX1_init_0 : decode cX1_init 0 = .ok (.aload_n 0, 1) := by decide +kernel
theorem dX1_init_1 : decode cX1_init 1 = .ok (.invokespecial 3, 3) := by decide +kernel
theorem dX1_init_4 : decode cX1_init 4 = .ok (.aload_n 0, 1) := by decide +kernel
theorem dX1_init_5 : decode cX1_init 5 = .ok (.bipush 6, 2) := by decide +kernel
theorem dX1_init_7 : decode cX1_init 7 = .ok (.newarray .int, 2) := by decide +kernel
theorem dX1_init_9 : decode cX1_init 9 = .ok (.putfield 9, 3) := by decide +kernel
theorem dX1_init_12 : decode cX1_init 12 = .ok (.return_, 1) := by decide +kernel
theorem dX1_find_0 : decode cX1_find 0 = .ok (.aload_n 0, 1) := by decide +kernel
theorem dX1_find_1 : decode cX1_find 1 = .ok (.iconst 0, 1) := by decide +kernel
end
section
theorem dX1_find_2 : decode cX1_find 2 = .ok (.putfield 15, 3) := by decide +kernel
theorem dX1_find_5 : decode cX1_find 5 = .ok (.iconst 0, 1) := by decide +kernel
theorem dX1_find_6 : decode cX1_find 6 = .ok (.istore 4, 2) := by decide +kernel
theorem dX1_find_8 : decode cX1_find 8 = .ok (.iload 4, 2) := by decide +kernel
theorem dX1_find_10 : decode cX1_find 10 = .ok (.aload_n 1, 1) := by decide +kernel
theorem dX1_find_11 : decode cX1_find 11 = .ok (.getfield 19, 3) := by decide +kernel
theorem dX1_find_14 : decode cX1_find 14 = .ok (.if_icmp .ge 67, 3) := by decide +kernel
theorem dX1_find_17 : decode cX1_find 17 = .ok (.iload_n 3, 1) := by decide +kernel
theorem dX1_find_18 : decode cX1_find 18 = .ok (.aload_n 1, 1) := by decide +kernel
theorem dX1_find_19 : decode cX1_find 19 = .ok (.getfield 19, 3) := by decide +kernel
theorem dX1_find_22 : decode cX1_find 22 = .ok (.imul, 1) := by decide +kernel
theorem dX1_find_23 : decode cX1_find 23 = .ok (.iload 4, 2) := by decide +kernel
theorem dX1_find_25 : decode cX1_find 25 = .ok (.iadd, 1) := by decide +kernel
theorem dX1_find_26 : decode cX1_find 26 = .ok (.istore 5, 2) := by decide +kernel
theorem dX1_find_28 : decode cX1_find 28 = .ok (.aload_n 1, 1) := by decide +kernel
theorem dX1_find_29 : decode cX1_find 29 = .ok (.iload_n 2, 1) := by decide +kernel
theorem dX1_find_30 : decode cX1_find 30 = .ok (.iload 5, 2) := by decide +kernel
theorem dX1_find_32 : decode cX1_find 32 = .ok (.invokevirtual 24, 3) := by decide +kernel
theorem dX1_find_35 : decode cX1_find 35 = .ok (.istore 6, 2) := by decide +kernel
theorem dX1_find_37 : decode cX1_find 37 = .ok (.iload 6, 2) := by decide +kernel
theorem dX1_find_39 : decode cX1_find 39 = .ok (.iconst (-1), 1) := by decide +kernel
theorem dX1_find_40 : decode cX1_find 40 = .ok (.if_icmp .eq 35, 3) := by decide +kernel
theorem dX1_find_43 : decode cX1_find 43 = .ok (.aload_n 0, 1) := by decide +kernel
theorem dX1_find_44 : decode cX1_find 44 = .ok (.getfield 9, 3) := by decide +kernel
theorem dX1_find_47 : decode cX1_find 47 = .ok (.aload_n 0, 1) := by decide +kernel
theorem dX1_find_48 : decode cX1_find 48 = .ok (.getfield 15, 3) := by decide +kernel
theorem dX1_find_51 : decode cX1_find 51 = .ok (.aload_n 0, 1) := by decide +kernel
theorem dX1_find_52 : decode cX1_find 52 = .ok (.aload_n 1, 1) := by decide +kernel
theorem dX1_find_53 : decode cX1_find 53 = .ok (.iload_n 2, 1) := by decide +kernel
theorem dX1_find_54 : decode cX1_find 54 = .ok (.aload_n 1, 1) := by decide +kernel
theorem dX1_find_55 : decode cX1_find 55 = .ok (.iload 6, 2) := by decide +kernel
theorem dX1_find_57 : decode cX1_find 57 = .ok (.invokevirtual 28, 3) := by decide +kernel
theorem dX1_find_60 : decode cX1_find 60 = .ok (.iload_n 3, 1) := by decide +kernel
theorem dX1_find_61 : decode cX1_find 61 = .ok (.invokevirtual 32, 3) := by decide +kernel
theorem dX1_find_64 : decode cX1_find 64 = .ok (.iastore, 1) := by decide +kernel
theorem dX1_find_65 : decode cX1_find 65 = .ok (.aload_n 0, 1) := by decide +kernel
theorem dX1_find_66 : decode cX1_find 66 = .ok (.dup, 1) := by decide +kernel
theorem dX1_find_67 : decode cX1_find 67 = .ok (.getfield 15, 3) := by decide +kernel
theorem dX1_find_70 : decode cX1_find 70 = .ok (.iconst 1, 1) := by decide +kernel
theorem dX1_find_71 : decode cX1_find 71 = .ok (.iadd, 1) := by decide +kernel
theorem dX1_find_72 : decode cX1_find 72 = .ok (.putfield 15, 3) := by decide +kernel
theorem dX1_find_75 : decode cX1_find 75 = .ok (.iinc 4 1, 3) := by decide +kernel
theorem dX1_find_78 : decode cX1_find 78 = .ok (.goto (-70), 3) := by decide +kernel
theorem dX1_find_81 : decode cX1_find 81 = .ok (.return_, 1) := by decide +kernel
theorem dX1_bestFor_0 : decode cX1_bestFor 0 = .ok (.iconst (-1), 1) := by decide +kernel
theorem dX1_bestFor_1 : decode cX1_bestFor 1 = .ok (.istore 5, 2) := by decide +kernel
theorem dX1_bestFor_3 : decode cX1_bestFor 3 = .ok (.iconst 0, 1) := by decide +kernel
theorem dX1_bestFor_4 : decode cX1_bestFor 4 = .ok (.istore 6, 2) := by decide +kernel
theorem dX1_bestFor_6 : decode cX1_bestFor 6 = .ok (.iconst 0, 1) := by decide +kernel
theorem dX1_bestFor_7 : decode cX1_bestFor 7 = .ok (.istore 7, 2) := by decide +kernel
theorem dX1_bestFor_9 : decode cX1_bestFor 9 = .ok (.iload 7, 2) := by decide +kernel
theorem dX1_bestFor_11 : decode cX1_bestFor 11 = .ok (.bipush 8, 2) := by decide +kernel
theorem dX1_bestFor_13 : decode cX1_bestFor 13 = .ok (.if_icmp .ge 83, 3) := by decide +kernel
theorem dX1_bestFor_16 : decode cX1_bestFor 16 = .ok (.bipush 8, 2) := by decide +kernel
theorem dX1_bestFor_18 : decode cX1_bestFor 18 = .ok (.iload 7, 2) := by decide +kernel
theorem dX1_bestFor_20 : decode cX1_bestFor 20 = .ok (.iadd, 1) := by decide +kernel
theorem dX1_bestFor_21 : decode cX1_bestFor 21 = .ok (.istore 8, 2) := by decide +kernel
theorem dX1_bestFor_23 : decode cX1_bestFor 23 = .ok (.iload 7, 2) := by decide +kernel
theorem dX1_bestFor_25 : decode cX1_bestFor 25 = .ok (.iload_n 2, 1) := by decide +kernel
theorem dX1_bestFor_26 : decode cX1_bestFor 26 = .ok (.if_icmp .eq 64, 3) := by decide +kernel
theorem dX1_bestFor_29 : decode cX1_bestFor 29 = .ok (.aload_n 1, 1) := by decide +kernel
theorem dX1_bestFor_30 : decode cX1_bestFor 30 = .ok (.getfield 36, 3) := by decide +kernel
theorem dX1_bestFor_33 : decode cX1_bestFor 33 = .ok (.iload 8, 2) := by decide +kernel
theorem dX1_bestFor_35 : decode cX1_bestFor 35 = .ok (.iaload, 1) := by decide +kernel
theorem dX1_bestFor_36 : decode cX1_bestFor 36 = .ok (.aload_n 1, 1) := by decide +kernel
theorem dX1_bestFor_37 : decode cX1_bestFor 37 = .ok (.getfield 39, 3) := by decide +kernel
theorem dX1_bestFor_40 : decode cX1_bestFor 40 = .ok (.iload 8, 2) := by decide +kernel
theorem dX1_bestFor_42 : decode cX1_bestFor 42 = .ok (.iaload, 1) := by decide +kernel
theorem dX1_bestFor_43 : decode cX1_bestFor 43 = .ok (.ior, 1) := by decide +kernel
theorem dX1_bestFor_44 : decode cX1_bestFor 44 = .ok (.iload_n 3, 1) := by decide +kernel
theorem dX1_bestFor_45 : decode cX1_bestFor 45 = .ok (.iand, 1) := by decide +kernel
theorem dX1_bestFor_46 : decode cX1_bestFor 46 = .ok (.ifCond .eq 6, 3) := by decide +kernel
theorem dX1_bestFor_49 : decode cX1_bestFor 49 = .ok (.goto 41, 3) := by decide +kernel
theorem dX1_bestFor_52 : decode cX1_bestFor 52 = .ok (.aload_n 1, 1) := by decide +kernel
theorem dX1_bestFor_53 : decode cX1_bestFor 53 = .ok (.iload 7, 2) := by decide +kernel
theorem dX1_bestFor_55 : decode cX1_bestFor 55 = .ok (.iload 4, 2) := by decide +kernel
theorem dX1_bestFor_57 : decode cX1_bestFor 57 = .ok (.invokevirtual 42, 3) := by decide +kernel
theorem dX1_bestFor_60 : decode cX1_bestFor 60 = .ok (.aload_n 0, 1) := by decide +kernel
theorem dX1_bestFor_61 : decode cX1_bestFor 61 = .ok (.iload 7, 2) := by decide +kernel
theorem dX1_bestFor_63 : decode cX1_bestFor 63 = .ok (.invokevirtual 45, 3) := by decide +kernel
theorem dX1_bestFor_66 : decode cX1_bestFor 66 = .ok (.iadd, 1) := by decide +kernel
theorem dX1_bestFor_67 : decode cX1_bestFor 67 = .ok (.istore 9, 2) := by decide +kernel
theorem dX1_bestFor_69 : decode cX1_bestFor 69 = .ok (.iload 5, 2) := by decide +kernel
theorem dX1_bestFor_71 : decode cX1_bestFor 71 = .ok (.iconst (-1), 1) := by decide +kernel
theorem dX1_bestFor_72 : decode cX1_bestFor 72 = .ok (.if_icmp .eq 10, 3) := by decide +kernel
theorem dX1_bestFor_75 : decode cX1_bestFor 75 = .ok (.iload 9, 2) := by decide +kernel
theorem dX1_bestFor_77 : decode cX1_bestFor 77 = .ok (.iload 6, 2) := by decide +kernel
theorem dX1_bestFor_79 : decode cX1_bestFor 79 = .ok (.if_icmp .ge 11, 3) := by decide +kernel
theorem dX1_bestFor_82 : decode cX1_bestFor 82 = .ok (.iload 7, 2) := by decide +kernel
theorem dX1_bestFor_84 : decode cX1_bestFor 84 = .ok (.istore 5, 2) := by decide +kernel
theorem dX1_bestFor_86 : decode cX1_bestFor 86 = .ok (.iload 9, 2) := by decide +kernel
theorem dX1_bestFor_88 : decode cX1_bestFor 88 = .ok (.istore 6, 2) := by decide +kernel
theorem dX1_bestFor_90 : decode cX1_bestFor 90 = .ok (.iinc 7 1, 3) := by decide +kernel
theorem dX1_bestFor_93 : decode cX1_bestFor 93 = .ok (.goto (-84), 3) := by decide +kernel
theorem dX1_bestFor_96 : decode cX1_bestFor 96 = .ok (.iload 5, 2) := by decide +kernel
theorem dX1_bestFor_98 : decode cX1_bestFor 98 = .ok (.ireturn, 1) := by decide +kernel
theorem dX1_timesGiven_0 : decode cX1_timesGiven 0 = .ok (.iconst 0, 1) := by decide +kernel
theorem dX1_timesGiven_1 : decode cX1_timesGiven 1 = .ok (.istore_n 2, 1) := by decide +kernel
theorem dX1_timesGiven_2 : decode cX1_timesGiven 2 = .ok (.iconst 0, 1) := by decide +kernel
theorem dX1_timesGiven_3 : decode cX1_timesGiven 3 = .ok (.istore_n 3, 1) := by decide +kernel
theorem dX1_timesGiven_4 : decode cX1_timesGiven 4 = .ok (.iload_n 3, 1) := by decide +kernel
theorem dX1_timesGiven_5 : decode cX1_timesGiven 5 = .ok (.aload_n 0, 1) := by decide +kernel
theorem dX1_timesGiven_6 : decode cX1_timesGiven 6 = .ok (.getfield 15, 3) := by decide +kernel
theorem dX1_timesGiven_9 : decode cX1_timesGiven 9 = .ok (.if_icmp .ge 22, 3) := by decide +kernel
theorem dX1_timesGiven_12 : decode cX1_timesGiven 12 = .ok (.aload_n 0, 1) := by decide +kernel
theorem dX1_timesGiven_13 : decode cX1_timesGiven 13 = .ok (.getfield 9, 3) := by decide +kernel
theorem dX1_timesGiven_16 : decode cX1_timesGiven 16 = .ok (.iload_n 3, 1) := by decide +kernel
theorem dX1_timesGiven_17 : decode cX1_timesGiven 17 = .ok (.iaload, 1) := by decide +kernel
theorem dX1_timesGiven_18 : decode cX1_timesGiven 18 = .ok (.iload_n 1, 1) := by decide +kernel
theorem dX1_timesGiven_19 : decode cX1_timesGiven 19 = .ok (.if_icmp .ne 6, 3) := by decide +kernel
theorem dX1_timesGiven_22 : decode cX1_timesGiven 22 = .ok (.iinc 2 1, 3) := by decide +kernel
theorem dX1_timesGiven_25 : decode cX1_timesGiven 25 = .ok (.iinc 3 1, 3) := by decide +kernel
theorem dX1_timesGiven_28 : decode cX1_timesGiven 28 = .ok (.goto (-24), 3) := by decide +kernel
theorem dX1_timesGiven_31 : decode cX1_timesGiven 31 = .ok (.iload_n 2, 1) := by decide +kernel
theorem dX1_timesGiven_32 : decode cX1_timesGiven 32 = .ok (.ireturn, 1) := by decide +kernel
theorem dX2_init_0 : decode cX2_init 0 = .ok (.aload_n 0, 1) := by decide +kernel
theorem dX2_init_1 : decode cX2_init 1 = .ok (.invokespecial 3, 3) := by decide +kernel
theorem dX2_init_4 : decode cX2_init 4 = .ok (.aload_n 0, 1) := by decide +kernel
theorem dX2_init_5 : decode cX2_init 5 = .ok (.sipush 1344, 3) := by decide +kernel
theorem dX2_init_8 : decode cX2_init 8 = .ok (.newarray .int, 2) := by decide +kernel
theorem dX2_init_10 : decode cX2_init 10 = .ok (.putfield 11, 3) := by decide +kernel
theorem dX2_init_13 : decode cX2_init 13 = .ok (.return_, 1) := by decide +kernel
theorem dX2_startOf_0 : decode cX2_startOf 0 = .ok (.aload_n 0, 1) := by decide +kernel
theorem dX2_startOf_1 : decode cX2_startOf 1 = .ok (.getfield 15, 3) := by decide +kernel
theorem dX2_startOf_4 : decode cX2_startOf 4 = .ok (.iload_n 1, 1) := by decide +kernel
theorem dX2_startOf_5 : decode cX2_startOf 5 = .ok (.iadd, 1) := by decide +kernel
theorem dX2_startOf_6 : decode cX2_startOf 6 = .ok (.bipush 21, 2) := by decide +kernel
theorem dX2_startOf_8 : decode cX2_startOf 8 = .ok (.irem, 1) := by decide +kernel
theorem dX2_startOf_9 : decode cX2_startOf 9 = .ok (.bipush 64, 2) := by decide +kernel
theorem dX2_startOf_11 : decode cX2_startOf 11 = .ok (.imul, 1) := by decide +kernel
theorem dX2_startOf_12 : decode cX2_startOf 12 = .ok (.ireturn, 1) := by decide +kernel
theorem dX2_draw_0 : decode cX2_draw 0 = .ok (.aload_n 1, 1) := by decide +kernel
theorem dX2_draw_1 : decode cX2_draw 1 = .ok (.iconst 0, 1) := by decide +kernel
theorem dX2_draw_2 : decode cX2_draw 2 = .ok (.aload_n 0, 1) := by decide +kernel
theorem dX2_draw_3 : decode cX2_draw 3 = .ok (.getfield 11, 3) := by decide +kernel
theorem dX2_draw_6 : decode cX2_draw 6 = .ok (.aload_n 0, 1) := by decide +kernel
theorem dX2_draw_7 : decode cX2_draw 7 = .ok (.aload_n 0, 1) := by decide +kernel
theorem dX2_draw_8 : decode cX2_draw 8 = .ok (.getfield 19, 3) := by decide +kernel
theorem dX2_draw_11 : decode cX2_draw 11 = .ok (.invokevirtual 22, 3) := by decide +kernel
theorem dX2_draw_14 : decode cX2_draw 14 = .ok (.bipush 64, 2) := by decide +kernel
theorem dX2_draw_16 : decode cX2_draw 16 = .ok (.invokestatic 26, 3) := by decide +kernel
theorem dX2_draw_19 : decode cX2_draw 19 = .ok (.return_, 1) := by decide +kernel
theorem dX2_keep_0 : decode cX2_keep 0 = .ok (.aload_n 0, 1) := by decide +kernel
theorem dX2_keep_1 : decode cX2_keep 1 = .ok (.getfield 19, 3) := by decide +kernel
theorem dX2_keep_4 : decode cX2_keep 4 = .ok (.bipush 20, 2) := by decide +kernel
theorem dX2_keep_6 : decode cX2_keep 6 = .ok (.if_icmp .ge 16, 3) := by decide +kernel
theorem dX2_keep_9 : decode cX2_keep 9 = .ok (.aload_n 0, 1) := by decide +kernel
theorem dX2_keep_10 : decode cX2_keep 10 = .ok (.dup, 1) := by decide +kernel
theorem dX2_keep_11 : decode cX2_keep 11 = .ok (.getfield 19, 3) := by decide +kernel
theorem dX2_keep_14 : decode cX2_keep 14 = .ok (.iconst 1, 1) := by decide +kernel
theorem dX2_keep_15 : decode cX2_keep 15 = .ok (.iadd, 1) := by decide +kernel
theorem dX2_keep_16 : decode cX2_keep 16 = .ok (.putfield 19, 3) := by decide +kernel
theorem dX2_keep_19 : decode cX2_keep 19 = .ok (.goto 16, 3) := by decide +kernel
theorem dX2_keep_22 : decode cX2_keep 22 = .ok (.aload_n 0, 1) := by decide +kernel
theorem dX2_keep_23 : decode cX2_keep 23 = .ok (.aload_n 0, 1) := by decide +kernel
theorem dX2_keep_24 : decode cX2_keep 24 = .ok (.getfield 15, 3) := by decide +kernel
theorem dX2_keep_27 : decode cX2_keep 27 = .ok (.iconst 1, 1) := by decide +kernel
theorem dX2_keep_28 : decode cX2_keep 28 = .ok (.iadd, 1) := by decide +kernel
theorem dX2_keep_29 : decode cX2_keep 29 = .ok (.bipush 21, 2) := by decide +kernel
theorem dX2_keep_31 : decode cX2_keep 31 = .ok (.irem, 1) := by decide +kernel
theorem dX2_keep_32 : decode cX2_keep 32 = .ok (.putfield 15, 3) := by decide +kernel
theorem dX2_keep_35 : decode cX2_keep 35 = .ok (.return_, 1) := by decide +kernel
theorem dX2_takeBack_0 : decode cX2_takeBack 0 = .ok (.aload_n 0, 1) := by decide +kernel
theorem dX2_takeBack_1 : decode cX2_takeBack 1 = .ok (.dup, 1) := by decide +kernel
theorem dX2_takeBack_2 : decode cX2_takeBack 2 = .ok (.getfield 19, 3) := by decide +kernel
theorem dX2_takeBack_5 : decode cX2_takeBack 5 = .ok (.iconst 1, 1) := by decide +kernel
theorem dX2_takeBack_6 : decode cX2_takeBack 6 = .ok (.isub, 1) := by decide +kernel
theorem dX2_takeBack_7 : decode cX2_takeBack 7 = .ok (.putfield 19, 3) := by decide +kernel
theorem dX2_takeBack_10 : decode cX2_takeBack 10 = .ok (.aload_n 0, 1) := by decide +kernel
theorem dX2_takeBack_11 : decode cX2_takeBack 11 = .ok (.getfield 11, 3) := by decide +kernel
theorem dX2_takeBack_14 : decode cX2_takeBack 14 = .ok (.aload_n 0, 1) := by decide +kernel
theorem dX2_takeBack_15 : decode cX2_takeBack 15 = .ok (.aload_n 0, 1) := by decide +kernel
theorem dX2_takeBack_16 : decode cX2_takeBack 16 = .ok (.getfield 19, 3) := by decide +kernel
theorem dX2_takeBack_19 : decode cX2_takeBack 19 = .ok (.invokevirtual 22, 3) := by decide +kernel
theorem dX2_takeBack_22 : decode cX2_takeBack 22 = .ok (.aload_n 1, 1) := by decide +kernel
theorem dX2_takeBack_23 : decode cX2_takeBack 23 = .ok (.iconst 0, 1) := by decide +kernel
theorem dX2_takeBack_24 : decode cX2_takeBack 24 = .ok (.bipush 64, 2) := by decide +kernel
theorem dX2_takeBack_26 : decode cX2_takeBack 26 = .ok (.invokestatic 26, 3) := by decide +kernel
theorem dX2_takeBack_29 : decode cX2_takeBack 29 = .ok (.return_, 1) := by decide +kernel
theorem dX3_init_0 : decode cX3_init 0 = .ok (.aload_n 0, 1) := by decide +kernel
theorem dX3_init_1 : decode cX3_init 1 = .ok (.invokespecial 3, 3) := by decide +kernel
theorem dX3_init_4 : decode cX3_init 4 = .ok (.aload_n 0, 1) := by decide +kernel
theorem dX3_init_5 : decode cX3_init 5 = .ok (.bipush 16, 2) := by decide +kernel
theorem dX3_init_7 : decode cX3_init 7 = .ok (.newarray .int, 2) := by decide +kernel
theorem dX3_init_9 : decode cX3_init 9 = .ok (.putfield 9, 3) := by decide +kernel
theorem dX3_init_12 : decode cX3_init 12 = .ok (.aload_n 0, 1) := by decide +kernel
theorem dX3_init_13 : decode cX3_init 13 = .ok (.bipush 16, 2) := by decide +kernel
theorem dX3_init_15 : decode cX3_init 15 = .ok (.newarray .int, 2) := by decide +kernel
theorem dX3_init_17 : decode cX3_init 17 = .ok (.putfield 15, 3) := by decide +kernel
theorem dX3_init_20 : decode cX3_init 20 = .ok (.aload_n 0, 1) := by decide +kernel
theorem dX3_init_21 : decode cX3_init 21 = .ok (.bipush 16, 2) := by decide +kernel
theorem dX3_init_23 : decode cX3_init 23 = .ok (.newarray .int, 2) := by decide +kernel
theorem dX3_init_25 : decode cX3_init 25 = .ok (.putfield 18, 3) := by decide +kernel
theorem dX3_init_28 : decode cX3_init 28 = .ok (.aload_n 0, 1) := by decide +kernel
theorem dX3_init_29 : decode cX3_init 29 = .ok (.bipush 16, 2) := by decide +kernel
theorem dX3_init_31 : decode cX3_init 31 = .ok (.newarray .int, 2) := by decide +kernel
theorem dX3_init_33 : decode cX3_init 33 = .ok (.putfield 21, 3) := by decide +kernel
theorem dX3_init_36 : decode cX3_init 36 = .ok (.aload_n 0, 1) := by decide +kernel
theorem dX3_init_37 : decode cX3_init 37 = .ok (.bipush 16, 2) := by decide +kernel
theorem dX3_init_39 : decode cX3_init 39 = .ok (.newarray .int, 2) := by decide +kernel
theorem dX3_init_41 : decode cX3_init 41 = .ok (.putfield 24, 3) := by decide +kernel
theorem dX3_init_44 : decode cX3_init 44 = .ok (.aload_n 0, 1) := by decide +kernel
theorem dX3_init_45 : decode cX3_init 45 = .ok (.bipush 16, 2) := by decide +kernel
theorem dX3_init_47 : decode cX3_init 47 = .ok (.newarray .int, 2) := by decide +kernel
theorem dX3_init_49 : decode cX3_init 49 = .ok (.putfield 27, 3) := by decide +kernel
theorem dX3_init_52 : decode cX3_init 52 = .ok (.aload_n 0, 1) := by decide +kernel
theorem dX3_init_53 : decode cX3_init 53 = .ok (.bipush 16, 2) := by decide +kernel
theorem dX3_init_55 : decode cX3_init 55 = .ok (.newarray .int, 2) := by decide +kernel
theorem dX3_init_57 : decode cX3_init 57 = .ok (.putfield 30, 3) := by decide +kernel
theorem dX3_init_60 : decode cX3_init 60 = .ok (.return_, 1) := by decide +kernel
theorem dX3_add_0 : decode cX3_add 0 = .ok (.aload_n 0, 1) := by decide +kernel
theorem dX3_add_1 : decode cX3_add 1 = .ok (.getfield 33, 3) := by decide +kernel
theorem dX3_add_4 : decode cX3_add 4 = .ok (.istore 7, 2) := by decide +kernel
theorem dX3_add_6 : decode cX3_add 6 = .ok (.aload_n 0, 1) := by decide +kernel
theorem dX3_add_7 : decode cX3_add 7 = .ok (.getfield 9, 3) := by decide +kernel
theorem dX3_add_10 : decode cX3_add 10 = .ok (.iload 7, 2) := by decide +kernel
theorem dX3_add_12 : decode cX3_add 12 = .ok (.iload_n 1, 1) := by decide +kernel
theorem dX3_add_13 : decode cX3_add 13 = .ok (.iastore, 1) := by decide +kernel
theorem dX3_add_14 : decode cX3_add 14 = .ok (.aload_n 0, 1) := by decide +kernel
theorem dX3_add_15 : decode cX3_add 15 = .ok (.getfield 15, 3) := by decide +kernel
theorem dX3_add_18 : decode cX3_add 18 = .ok (.iload 7, 2) := by decide +kernel
theorem dX3_add_20 : decode cX3_add 20 = .ok (.iload_n 2, 1) := by decide +kernel
theorem dX3_add_21 : decode cX3_add 21 = .ok (.iastore, 1) := by decide +kernel
theorem dX3_add_22 : decode cX3_add 22 = .ok (.aload_n 0, 1) := by decide +kernel
theorem dX3_add_23 : decode cX3_add 23 = .ok (.getfield 18, 3) := by decide +kernel
theorem dX3_add_26 : decode cX3_add 26 = .ok (.iload 7, 2) := by decide +kernel
theorem dX3_add_28 : decode cX3_add 28 = .ok (.iload_n 3, 1) := by decide +kernel
theorem dX3_add_29 : decode cX3_add 29 = .ok (.iastore, 1) := by decide +kernel
theorem dX3_add_30 : decode cX3_add 30 = .ok (.aload_n 0, 1) := by decide +kernel
theorem dX3_add_31 : decode cX3_add 31 = .ok (.getfield 21, 3) := by decide +kernel
theorem dX3_add_34 : decode cX3_add 34 = .ok (.iload 7, 2) := by decide +kernel
theorem dX3_add_36 : decode cX3_add 36 = .ok (.iload 4, 2) := by decide +kernel
theorem dX3_add_38 : decode cX3_add 38 = .ok (.iastore, 1) := by decide +kernel
theorem dX3_add_39 : decode cX3_add 39 = .ok (.aload_n 0, 1) := by decide +kernel
theorem dX3_add_40 : decode cX3_add 40 = .ok (.getfield 24, 3) := by decide +kernel
theorem dX3_add_43 : decode cX3_add 43 = .ok (.iload 7, 2) := by decide +kernel
theorem dX3_add_45 : decode cX3_add 45 = .ok (.iload 5, 2) := by decide +kernel
theorem dX3_add_47 : decode cX3_add 47 = .ok (.bipush 10, 2) := by decide +kernel
theorem dX3_add_49 : decode cX3_add 49 = .ok (.idiv, 1) := by decide +kernel
theorem dX3_add_50 : decode cX3_add 50 = .ok (.iastore, 1) := by decide +kernel
theorem dX3_add_51 : decode cX3_add 51 = .ok (.aload_n 0, 1) := by decide +kernel
theorem dX3_add_52 : decode cX3_add 52 = .ok (.getfield 27, 3) := by decide +kernel
theorem dX3_add_55 : decode cX3_add 55 = .ok (.iload 7, 2) := by decide +kernel
theorem dX3_add_57 : decode cX3_add 57 = .ok (.iload 5, 2) := by decide +kernel
theorem dX3_add_59 : decode cX3_add 59 = .ok (.bipush 10, 2) := by decide +kernel
theorem dX3_add_61 : decode cX3_add 61 = .ok (.irem, 1) := by decide +kernel
theorem dX3_add_62 : decode cX3_add 62 = .ok (.iastore, 1) := by decide +kernel
theorem dX3_add_63 : decode cX3_add 63 = .ok (.aload_n 0, 1) := by decide +kernel
theorem dX3_add_64 : decode cX3_add 64 = .ok (.getfield 30, 3) := by decide +kernel
theorem dX3_add_67 : decode cX3_add 67 = .ok (.iload 7, 2) := by decide +kernel
theorem dX3_add_69 : decode cX3_add 69 = .ok (.iload 6, 2) := by decide +kernel
theorem dX3_add_71 : decode cX3_add 71 = .ok (.iastore, 1) := by decide +kernel
theorem dX3_add_72 : decode cX3_add 72 = .ok (.aload_n 0, 1) := by decide +kernel
theorem dX3_add_73 : decode cX3_add 73 = .ok (.dup, 1) := by decide +kernel
theorem dX3_add_74 : decode cX3_add 74 = .ok (.getfield 33, 3) := by decide +kernel
theorem dX3_add_77 : decode cX3_add 77 = .ok (.iconst 1, 1) := by decide +kernel
theorem dX3_add_78 : decode cX3_add 78 = .ok (.iadd, 1) := by decide +kernel
theorem dX3_add_79 : decode cX3_add 79 = .ok (.putfield 33, 3) := by decide +kernel
theorem dX3_add_82 : decode cX3_add 82 = .ok (.iload 7, 2) := by decide +kernel
theorem dX3_add_84 : decode cX3_add 84 = .ok (.ireturn, 1) := by decide +kernel
theorem dX3_hasItem_0 : decode cX3_hasItem 0 = .ok (.iload_n 1, 1) := by decide +kernel
theorem dX3_hasItem_1 : decode cX3_hasItem 1 = .ok (.iconst 0, 1) := by decide +kernel
theorem dX3_hasItem_2 : decode cX3_hasItem 2 = .ok (.aload_n 0, 1) := by decide +kernel
theorem dX3_hasItem_3 : decode cX3_hasItem 3 = .ok (.getfield 33, 3) := by decide +kernel
theorem dX3_hasItem_6 : decode cX3_hasItem 6 = .ok (.iconst 1, 1) := by decide +kernel
theorem dX3_hasItem_7 : decode cX3_hasItem 7 = .ok (.isub, 1) := by decide +kernel
theorem dX3_hasItem_8 : decode cX3_hasItem 8 = .ok (.invokestatic 37, 3) := by decide +kernel
theorem dX3_hasItem_11 : decode cX3_hasItem 11 = .ok (.ifCond .eq 23, 3) := by decide +kernel
theorem dX3_hasItem_14 : decode cX3_hasItem 14 = .ok (.iload_n 2, 1) := by decide +kernel
theorem dX3_hasItem_15 : decode cX3_hasItem 15 = .ok (.iconst 0, 1) := by decide +kernel
theorem dX3_hasItem_16 : decode cX3_hasItem 16 = .ok (.aload_n 0, 1) := by decide +kernel
theorem dX3_hasItem_17 : decode cX3_hasItem 17 = .ok (.getfield 27, 3) := by decide +kernel
theorem dX3_hasItem_20 : decode cX3_hasItem 20 = .ok (.iload_n 1, 1) := by decide +kernel
theorem dX3_hasItem_21 : decode cX3_hasItem 21 = .ok (.iaload, 1) := by decide +kernel
theorem dX3_hasItem_22 : decode cX3_hasItem 22 = .ok (.iconst 1, 1) := by decide +kernel
theorem dX3_hasItem_23 : decode cX3_hasItem 23 = .ok (.isub, 1) := by decide +kernel
theorem dX3_hasItem_24 : decode cX3_hasItem 24 = .ok (.invokestatic 37, 3) := by decide +kernel
theorem dX3_hasItem_27 : decode cX3_hasItem 27 = .ok (.ifCond .eq 7, 3) := by decide +kernel
theorem dX3_hasItem_30 : decode cX3_hasItem 30 = .ok (.iconst 1, 1) := by decide +kernel
theorem dX3_hasItem_31 : decode cX3_hasItem 31 = .ok (.goto 4, 3) := by decide +kernel
theorem dX3_hasItem_34 : decode cX3_hasItem 34 = .ok (.iconst 0, 1) := by decide +kernel
theorem dX3_hasItem_35 : decode cX3_hasItem 35 = .ok (.ireturn, 1) := by decide +kernel
theorem dX3_bitsAt_0 : decode cX3_bitsAt 0 = .ok (.aload_n 0, 1) := by decide +kernel
theorem dX3_bitsAt_1 : decode cX3_bitsAt 1 = .ok (.getfield 24, 3) := by decide +kernel
theorem dX3_bitsAt_4 : decode cX3_bitsAt 4 = .ok (.iload_n 1, 1) := by decide +kernel
theorem dX3_bitsAt_5 : decode cX3_bitsAt 5 = .ok (.iaload, 1) := by decide +kernel
theorem dX3_bitsAt_6 : decode cX3_bitsAt 6 = .ok (.iconst 2, 1) := by decide +kernel
theorem dX3_bitsAt_7 : decode cX3_bitsAt 7 = .ok (.if_icmp .ne 9, 3) := by decide +kernel
theorem dX3_bitsAt_10 : decode cX3_bitsAt 10 = .ok (.iconst 3, 1) := by decide +kernel
theorem dX3_bitsAt_11 : decode cX3_bitsAt 11 = .ok (.iload_n 2, 1) := by decide +kernel
theorem dX3_bitsAt_12 : decode cX3_bitsAt 12 = .ok (.ishl, 1) := by decide +kernel
theorem dX3_bitsAt_13 : decode cX3_bitsAt 13 = .ok (.goto 6, 3) := by decide +kernel
theorem dX3_bitsAt_16 : decode cX3_bitsAt 16 = .ok (.iconst 1, 1) := by decide +kernel
theorem dX3_bitsAt_17 : decode cX3_bitsAt 17 = .ok (.iload_n 2, 1) := by decide +kernel
theorem dX3_bitsAt_18 : decode cX3_bitsAt 18 = .ok (.ishl, 1) := by decide +kernel
theorem dX3_bitsAt_19 : decode cX3_bitsAt 19 = .ok (.ireturn, 1) := by decide +kernel
theorem dX4_init_0 : decode cX4_init 0 = .ok (.aload_n 0, 1) := by decide +kernel
theorem dX4_init_1 : decode cX4_init 1 = .ok (.invokespecial 3, 3) := by decide +kernel
theorem dX4_init_4 : decode cX4_init 4 = .ok (.aload_n 0, 1) := by decide +kernel
theorem dX4_init_5 : decode cX4_init 5 = .ok (.bipush 64, 2) := by decide +kernel
theorem dX4_init_7 : decode cX4_init 7 = .ok (.newarray .int, 2) := by decide +kernel
theorem dX4_init_9 : decode cX4_init 9 = .ok (.putfield 9, 3) := by decide +kernel
theorem dX4_init_12 : decode cX4_init 12 = .ok (.aload_n 0, 1) := by decide +kernel
theorem dX4_init_13 : decode cX4_init 13 = .ok (.bipush 64, 2) := by decide +kernel
theorem dX4_init_15 : decode cX4_init 15 = .ok (.newarray .int, 2) := by decide +kernel
theorem dX4_init_17 : decode cX4_init 17 = .ok (.putfield 15, 3) := by decide +kernel
theorem dX4_init_20 : decode cX4_init 20 = .ok (.return_, 1) := by decide +kernel
theorem dX4_run_0 : decode cX4_run 0 = .ok (.aload_n 0, 1) := by decide +kernel
theorem dX4_run_1 : decode cX4_run 1 = .ok (.iconst 0, 1) := by decide +kernel
theorem dX4_run_2 : decode cX4_run 2 = .ok (.putfield 18, 3) := by decide +kernel
theorem dX4_run_5 : decode cX4_run 5 = .ok (.aload_n 0, 1) := by decide +kernel
theorem dX4_run_6 : decode cX4_run 6 = .ok (.aload_n 1, 1) := by decide +kernel
theorem dX4_run_7 : decode cX4_run 7 = .ok (.invokevirtual 22, 3) := by decide +kernel
theorem dX4_run_10 : decode cX4_run 10 = .ok (.aload_n 0, 1) := by decide +kernel
theorem dX4_run_11 : decode cX4_run 11 = .ok (.aload_n 1, 1) := by decide +kernel
theorem dX4_run_12 : decode cX4_run 12 = .ok (.iconst 0, 1) := by decide +kernel
theorem dX4_run_13 : decode cX4_run 13 = .ok (.invokevirtual 26, 3) := by decide +kernel
theorem dX4_run_16 : decode cX4_run 16 = .ok (.iconst 0, 1) := by decide +kernel
theorem dX4_run_17 : decode cX4_run 17 = .ok (.istore_n 3, 1) := by decide +kernel
theorem dX4_run_18 : decode cX4_run 18 = .ok (.iconst 0, 1) := by decide +kernel
theorem dX4_run_19 : decode cX4_run 19 = .ok (.istore 4, 2) := by decide +kernel
theorem dX4_run_21 : decode cX4_run 21 = .ok (.iload 4, 2) := by decide +kernel
theorem dX4_run_23 : decode cX4_run 23 = .ok (.ldc 30, 2) := by decide +kernel
theorem dX4_run_25 : decode cX4_run 25 = .ok (.if_icmp .ge 83, 3) := by decide +kernel
theorem dX4_run_28 : decode cX4_run 28 = .ok (.iload_n 3, 1) := by decide +kernel
theorem dX4_run_29 : decode cX4_run 29 = .ok (.aload_n 0, 1) := by decide +kernel
theorem dX4_run_30 : decode cX4_run 30 = .ok (.getfield 31, 3) := by decide +kernel
theorem dX4_run_33 : decode cX4_run 33 = .ok (.if_icmp .lt 5, 3) := by decide +kernel
theorem dX4_run_36 : decode cX4_run 36 = .ok (.iconst 1, 1) := by decide +kernel
theorem dX4_run_37 : decode cX4_run 37 = .ok (.ireturn, 1) := by decide +kernel
theorem dX4_run_38 : decode cX4_run 38 = .ok (.aload_n 0, 1) := by decide +kernel
theorem dX4_run_39 : decode cX4_run 39 = .ok (.getfield 15, 3) := by decide +kernel
theorem dX4_run_42 : decode cX4_run 42 = .ok (.iload_n 3, 1) := by decide +kernel
theorem dX4_run_43 : decode cX4_run 43 = .ok (.iaload, 1) := by decide +kernel
theorem dX4_run_44 : decode cX4_run 44 = .ok (.aload_n 1, 1) := by decide +kernel
theorem dX4_run_45 : decode cX4_run 45 = .ok (.getfield 34, 3) := by decide +kernel
theorem dX4_run_48 : decode cX4_run 48 = .ok (.if_icmp .lt 25, 3) := by decide +kernel
theorem dX4_run_51 : decode cX4_run 51 = .ok (.iinc 3 (-1), 3) := by decide +kernel
theorem dX4_run_54 : decode cX4_run 54 = .ok (.iload_n 3, 1) := by decide +kernel
theorem dX4_run_55 : decode cX4_run 55 = .ok (.ifCond .ge 5, 3) := by decide +kernel
theorem dX4_run_58 : decode cX4_run 58 = .ok (.iconst 0, 1) := by decide +kernel
theorem dX4_run_59 : decode cX4_run 59 = .ok (.ireturn, 1) := by decide +kernel
theorem dX4_run_60 : decode cX4_run 60 = .ok (.aload_n 1, 1) := by decide +kernel
theorem dX4_run_61 : decode cX4_run 61 = .ok (.aload_n 0, 1) := by decide +kernel
theorem dX4_run_62 : decode cX4_run 62 = .ok (.getfield 9, 3) := by decide +kernel
theorem dX4_run_65 : decode cX4_run 65 = .ok (.iload_n 3, 1) := by decide +kernel
theorem dX4_run_66 : decode cX4_run 66 = .ok (.iaload, 1) := by decide +kernel
theorem dX4_run_67 : decode cX4_run 67 = .ok (.invokevirtual 39, 3) := by decide +kernel
theorem dX4_run_70 : decode cX4_run 70 = .ok (.goto 32, 3) := by decide +kernel
theorem dX4_run_73 : decode cX4_run 73 = .ok (.aload_n 0, 1) := by decide +kernel
theorem dX4_run_74 : decode cX4_run 74 = .ok (.getfield 18, 3) := by decide +kernel
theorem dX4_run_77 : decode cX4_run 77 = .ok (.iload_n 2, 1) := by decide +kernel
theorem dX4_run_78 : decode cX4_run 78 = .ok (.if_icmp .lt 6, 3) := by decide +kernel
theorem dX4_run_81 : decode cX4_run 81 = .ok (.goto 27, 3) := by decide +kernel
theorem dX4_run_84 : decode cX4_run 84 = .ok (.aload_n 0, 1) := by decide +kernel
theorem dX4_run_85 : decode cX4_run 85 = .ok (.aload_n 1, 1) := by decide +kernel
theorem dX4_run_86 : decode cX4_run 86 = .ok (.iload_n 3, 1) := by decide +kernel
theorem dX4_run_87 : decode cX4_run 87 = .ok (.invokevirtual 43, 3) := by decide +kernel
theorem dX4_run_90 : decode cX4_run 90 = .ok (.ifCond .eq 12, 3) := by decide +kernel
theorem dX4_run_93 : decode cX4_run 93 = .ok (.iinc 3 1, 3) := by decide +kernel
theorem dX4_run_96 : decode cX4_run 96 = .ok (.aload_n 0, 1) := by decide +kernel
theorem dX4_run_97 : decode cX4_run 97 = .ok (.aload_n 1, 1) := by decide +kernel
theorem dX4_run_98 : decode cX4_run 98 = .ok (.iload_n 3, 1) := by decide +kernel
theorem dX4_run_99 : decode cX4_run 99 = .ok (.invokevirtual 26, 3) := by decide +kernel
theorem dX4_run_102 : decode cX4_run 102 = .ok (.iinc 4 1, 3) := by decide +kernel
theorem dX4_run_105 : decode cX4_run 105 = .ok (.goto (-84), 3) := by decide +kernel
theorem dX4_run_108 : decode cX4_run 108 = .ok (.aload_n 0, 1) := by decide +kernel
theorem dX4_run_109 : decode cX4_run 109 = .ok (.aload_n 1, 1) := by decide +kernel
theorem dX4_run_110 : decode cX4_run 110 = .ok (.iload_n 3, 1) := by decide +kernel
theorem dX4_run_111 : decode cX4_run 111 = .ok (.invokevirtual 47, 3) := by decide +kernel
theorem dX4_run_114 : decode cX4_run 114 = .ok (.iconst 2, 1) := by decide +kernel
theorem dX4_run_115 : decode cX4_run 115 = .ok (.ireturn, 1) := by decide +kernel
theorem dX4_collect_0 : decode cX4_collect 0 = .ok (.aload_n 0, 1) := by decide +kernel
theorem dX4_collect_1 : decode cX4_collect 1 = .ok (.iconst 0, 1) := by decide +kernel
theorem dX4_collect_2 : decode cX4_collect 2 = .ok (.putfield 31, 3) := by decide +kernel
theorem dX4_collect_5 : decode cX4_collect 5 = .ok (.iconst 0, 1) := by decide +kernel
theorem dX4_collect_6 : decode cX4_collect 6 = .ok (.istore_n 2, 1) := by decide +kernel
theorem dX4_collect_7 : decode cX4_collect 7 = .ok (.iload_n 2, 1) := by decide +kernel
theorem dX4_collect_8 : decode cX4_collect 8 = .ok (.aload_n 1, 1) := by decide +kernel
theorem dX4_collect_9 : decode cX4_collect 9 = .ok (.getfield 50, 3) := by decide +kernel
theorem dX4_collect_12 : decode cX4_collect 12 = .ok (.getfield 54, 3) := by decide +kernel
theorem dX4_collect_15 : decode cX4_collect 15 = .ok (.if_icmp .ge 66, 3) := by decide +kernel
theorem dX4_collect_18 : decode cX4_collect 18 = .ok (.iconst 0, 1) := by decide +kernel
theorem dX4_collect_19 : decode cX4_collect 19 = .ok (.istore_n 3, 1) := by decide +kernel
theorem dX4_collect_20 : decode cX4_collect 20 = .ok (.iload_n 3, 1) := by decide +kernel
theorem dX4_collect_21 : decode cX4_collect 21 = .ok (.aload_n 1, 1) := by decide +kernel
theorem dX4_collect_22 : decode cX4_collect 22 = .ok (.getfield 50, 3) := by decide +kernel
theorem dX4_collect_25 : decode cX4_collect 25 = .ok (.getfield 59, 3) := by decide +kernel
theorem dX4_collect_28 : decode cX4_collect 28 = .ok (.iload_n 2, 1) := by decide +kernel
theorem dX4_collect_29 : decode cX4_collect 29 = .ok (.iaload, 1) := by decide +kernel
theorem dX4_collect_30 : decode cX4_collect 30 = .ok (.if_icmp .ge 45, 3) := by decide +kernel
theorem dX4_collect_33 : decode cX4_collect 33 = .ok (.aload_n 1, 1) := by decide +kernel
theorem dX4_collect_34 : decode cX4_collect 34 = .ok (.iload_n 2, 1) := by decide +kernel
theorem dX4_collect_35 : decode cX4_collect 35 = .ok (.iload_n 3, 1) := by decide +kernel
theorem dX4_collect_36 : decode cX4_collect 36 = .ok (.invokestatic 62, 3) := by decide +kernel
theorem dX4_collect_39 : decode cX4_collect 39 = .ok (.invokevirtual 66, 3) := by decide +kernel
theorem dX4_collect_42 : decode cX4_collect 42 = .ok (.ifCond .ne 27, 3) := by decide +kernel
theorem dX4_collect_45 : decode cX4_collect 45 = .ok (.aload_n 0, 1) := by decide +kernel
theorem dX4_collect_46 : decode cX4_collect 46 = .ok (.getfield 9, 3) := by decide +kernel
theorem dX4_collect_49 : decode cX4_collect 49 = .ok (.aload_n 0, 1) := by decide +kernel
theorem dX4_collect_50 : decode cX4_collect 50 = .ok (.getfield 31, 3) := by decide +kernel
theorem dX4_collect_53 : decode cX4_collect 53 = .ok (.iload_n 2, 1) := by decide +kernel
theorem dX4_collect_54 : decode cX4_collect 54 = .ok (.iload_n 3, 1) := by decide +kernel
theorem dX4_collect_55 : decode cX4_collect 55 = .ok (.invokestatic 62, 3) := by decide +kernel
theorem dX4_collect_58 : decode cX4_collect 58 = .ok (.iastore, 1) := by decide +kernel
theorem dX4_collect_59 : decode cX4_collect 59 = .ok (.aload_n 0, 1) := by decide +kernel
theorem dX4_collect_60 : decode cX4_collect 60 = .ok (.dup, 1) := by decide +kernel
theorem dX4_collect_61 : decode cX4_collect 61 = .ok (.getfield 31, 3) := by decide +kernel
theorem dX4_collect_64 : decode cX4_collect 64 = .ok (.iconst 1, 1) := by decide +kernel
theorem dX4_collect_65 : decode cX4_collect 65 = .ok (.iadd, 1) := by decide +kernel
theorem dX4_collect_66 : decode cX4_collect 66 = .ok (.putfield 31, 3) := by decide +kernel
theorem dX4_collect_69 : decode cX4_collect 69 = .ok (.iinc 3 1, 3) := by decide +kernel
theorem dX4_collect_72 : decode cX4_collect 72 = .ok (.goto (-52), 3) := by decide +kernel
theorem dX4_collect_75 : decode cX4_collect 75 = .ok (.iinc 2 1, 3) := by decide +kernel
theorem dX4_collect_78 : decode cX4_collect 78 = .ok (.goto (-71), 3) := by decide +kernel
theorem dX4_collect_81 : decode cX4_collect 81 = .ok (.return_, 1) := by decide +kernel
theorem dX4_aim_0 : decode cX4_aim 0 = .ok (.iload_n 2, 1) := by decide +kernel
theorem dX4_aim_1 : decode cX4_aim 1 = .ok (.aload_n 0, 1) := by decide +kernel
theorem dX4_aim_2 : decode cX4_aim 2 = .ok (.getfield 31, 3) := by decide +kernel
theorem dX4_aim_5 : decode cX4_aim 5 = .ok (.if_icmp .lt 4, 3) := by decide +kernel
theorem dX4_aim_8 : decode cX4_aim 8 = .ok (.return_, 1) := by decide +kernel
theorem dX4_aim_9 : decode cX4_aim 9 = .ok (.iload_n 2, 1) := by decide +kernel
theorem dX4_aim_10 : decode cX4_aim 10 = .ok (.ifCond .le 30, 3) := by decide +kernel
theorem dX4_aim_13 : decode cX4_aim 13 = .ok (.aload_n 0, 1) := by decide +kernel
theorem dX4_aim_14 : decode cX4_aim 14 = .ok (.getfield 9, 3) := by decide +kernel
theorem dX4_aim_17 : decode cX4_aim 17 = .ok (.iload_n 2, 1) := by decide +kernel
theorem dX4_aim_18 : decode cX4_aim 18 = .ok (.iconst 1, 1) := by decide +kernel
theorem dX4_aim_19 : decode cX4_aim 19 = .ok (.isub, 1) := by decide +kernel
theorem dX4_aim_20 : decode cX4_aim 20 = .ok (.iaload, 1) := by decide +kernel
theorem dX4_aim_21 : decode cX4_aim 21 = .ok (.invokestatic 70, 3) := by decide +kernel
theorem dX4_aim_24 : decode cX4_aim 24 = .ok (.aload_n 0, 1) := by decide +kernel
theorem dX4_aim_25 : decode cX4_aim 25 = .ok (.getfield 9, 3) := by decide +kernel
theorem dX4_aim_28 : decode cX4_aim 28 = .ok (.iload_n 2, 1) := by decide +kernel
theorem dX4_aim_29 : decode cX4_aim 29 = .ok (.iaload, 1) := by decide +kernel
theorem dX4_aim_30 : decode cX4_aim 30 = .ok (.invokestatic 70, 3) := by decide +kernel
theorem dX4_aim_33 : decode cX4_aim 33 = .ok (.if_icmp .ne 7, 3) := by decide +kernel
theorem dX4_aim_36 : decode cX4_aim 36 = .ok (.iconst 1, 1) := by decide +kernel
theorem dX4_aim_37 : decode cX4_aim 37 = .ok (.goto 4, 3) := by decide +kernel
theorem dX4_aim_40 : decode cX4_aim 40 = .ok (.iconst 0, 1) := by decide +kernel
theorem dX4_aim_41 : decode cX4_aim 41 = .ok (.istore_n 3, 1) := by decide +kernel
theorem dX4_aim_42 : decode cX4_aim 42 = .ok (.aload_n 0, 1) := by decide +kernel
theorem dX4_aim_43 : decode cX4_aim 43 = .ok (.getfield 15, 3) := by decide +kernel
theorem dX4_aim_46 : decode cX4_aim 46 = .ok (.iload_n 2, 1) := by decide +kernel
theorem dX4_aim_47 : decode cX4_aim 47 = .ok (.iload_n 3, 1) := by decide +kernel
theorem dX4_aim_48 : decode cX4_aim 48 = .ok (.ifCond .eq 20, 3) := by decide +kernel
theorem dX4_aim_51 : decode cX4_aim 51 = .ok (.aload_n 1, 1) := by decide +kernel
theorem dX4_aim_52 : decode cX4_aim 52 = .ok (.aload_n 0, 1) := by decide +kernel
theorem dX4_aim_53 : decode cX4_aim 53 = .ok (.getfield 9, 3) := by decide +kernel
theorem dX4_aim_56 : decode cX4_aim 56 = .ok (.iload_n 2, 1) := by decide +kernel
theorem dX4_aim_57 : decode cX4_aim 57 = .ok (.iconst 1, 1) := by decide +kernel
theorem dX4_aim_58 : decode cX4_aim 58 = .ok (.isub, 1) := by decide +kernel
theorem dX4_aim_59 : decode cX4_aim 59 = .ok (.iaload, 1) := by decide +kernel
theorem dX4_aim_60 : decode cX4_aim 60 = .ok (.invokevirtual 74, 3) := by decide +kernel
theorem dX4_aim_63 : decode cX4_aim 63 = .ok (.iconst 1, 1) := by decide +kernel
theorem dX4_aim_64 : decode cX4_aim 64 = .ok (.iadd, 1) := by decide +kernel
theorem dX4_aim_65 : decode cX4_aim 65 = .ok (.goto 4, 3) := by decide +kernel
theorem dX4_aim_68 : decode cX4_aim 68 = .ok (.iconst 0, 1) := by decide +kernel
theorem dX4_aim_69 : decode cX4_aim 69 = .ok (.iastore, 1) := by decide +kernel
theorem dX4_aim_70 : decode cX4_aim 70 = .ok (.return_, 1) := by decide +kernel
theorem dX4_tryNext_0 : decode cX4_tryNext 0 = .ok (.aload_n 0, 1) := by decide +kernel
theorem dX4_tryNext_1 : decode cX4_tryNext 1 = .ok (.getfield 15, 3) := by decide +kernel
theorem dX4_tryNext_4 : decode cX4_tryNext 4 = .ok (.iload_n 2, 1) := by decide +kernel
theorem dX4_tryNext_5 : decode cX4_tryNext 5 = .ok (.iaload, 1) := by decide +kernel
theorem dX4_tryNext_6 : decode cX4_tryNext 6 = .ok (.istore_n 3, 1) := by decide +kernel
theorem dX4_tryNext_7 : decode cX4_tryNext 7 = .ok (.aload_n 0, 1) := by decide +kernel
theorem dX4_tryNext_8 : decode cX4_tryNext 8 = .ok (.getfield 15, 3) := by decide +kernel
theorem dX4_tryNext_11 : decode cX4_tryNext 11 = .ok (.iload_n 2, 1) := by decide +kernel
theorem dX4_tryNext_12 : decode cX4_tryNext 12 = .ok (.dup2, 1) := by decide +kernel
theorem dX4_tryNext_13 : decode cX4_tryNext 13 = .ok (.iaload, 1) := by decide +kernel
theorem dX4_tryNext_14 : decode cX4_tryNext 14 = .ok (.iconst 1, 1) := by decide +kernel
theorem dX4_tryNext_15 : decode cX4_tryNext 15 = .ok (.iadd, 1) := by decide +kernel
theorem dX4_tryNext_16 : decode cX4_tryNext 16 = .ok (.iastore, 1) := by decide +kernel
theorem dX4_tryNext_17 : decode cX4_tryNext 17 = .ok (.aload_n 0, 1) := by decide +kernel
theorem dX4_tryNext_18 : decode cX4_tryNext 18 = .ok (.dup, 1) := by decide +kernel
theorem dX4_tryNext_19 : decode cX4_tryNext 19 = .ok (.getfield 18, 3) := by decide +kernel
theorem dX4_tryNext_22 : decode cX4_tryNext 22 = .ok (.iconst 1, 1) := by decide +kernel
theorem dX4_tryNext_23 : decode cX4_tryNext 23 = .ok (.iadd, 1) := by decide +kernel
theorem dX4_tryNext_24 : decode cX4_tryNext 24 = .ok (.putfield 18, 3) := by decide +kernel
theorem dX4_tryNext_27 : decode cX4_tryNext 27 = .ok (.aload_n 1, 1) := by decide +kernel
theorem dX4_tryNext_28 : decode cX4_tryNext 28 = .ok (.aload_n 0, 1) := by decide +kernel
theorem dX4_tryNext_29 : decode cX4_tryNext 29 = .ok (.getfield 9, 3) := by decide +kernel
theorem dX4_tryNext_32 : decode cX4_tryNext 32 = .ok (.iload_n 2, 1) := by decide +kernel
theorem dX4_tryNext_33 : decode cX4_tryNext 33 = .ok (.iaload, 1) := by decide +kernel
theorem dX4_tryNext_34 : decode cX4_tryNext 34 = .ok (.iload_n 3, 1) := by decide +kernel
theorem dX4_tryNext_35 : decode cX4_tryNext 35 = .ok (.invokevirtual 77, 3) := by decide +kernel
theorem dX4_tryNext_38 : decode cX4_tryNext 38 = .ok (.ifCond .ne 7, 3) := by decide +kernel
theorem dX4_tryNext_41 : decode cX4_tryNext 41 = .ok (.iconst 1, 1) := by decide +kernel
theorem dX4_tryNext_42 : decode cX4_tryNext 42 = .ok (.goto 4, 3) := by decide +kernel
theorem dX4_tryNext_45 : decode cX4_tryNext 45 = .ok (.iconst 0, 1) := by decide +kernel
theorem dX4_tryNext_46 : decode cX4_tryNext 46 = .ok (.ireturn, 1) := by decide +kernel
theorem dX4_takeAllOut_0 : decode cX4_takeAllOut 0 = .ok (.iconst 0, 1) := by decide +kernel
theorem dX4_takeAllOut_1 : decode cX4_takeAllOut 1 = .ok (.istore_n 3, 1) := by decide +kernel
theorem dX4_takeAllOut_2 : decode cX4_takeAllOut 2 = .ok (.iload_n 3, 1) := by decide +kernel
theorem dX4_takeAllOut_3 : decode cX4_takeAllOut 3 = .ok (.iload_n 2, 1) := by decide +kernel
theorem dX4_takeAllOut_4 : decode cX4_takeAllOut 4 = .ok (.if_icmp .ge 19, 3) := by decide +kernel
theorem dX4_takeAllOut_7 : decode cX4_takeAllOut 7 = .ok (.aload_n 1, 1) := by decide +kernel
theorem dX4_takeAllOut_8 : decode cX4_takeAllOut 8 = .ok (.aload_n 0, 1) := by decide +kernel
theorem dX4_takeAllOut_9 : decode cX4_takeAllOut 9 = .ok (.getfield 9, 3) := by decide +kernel
theorem dX4_takeAllOut_12 : decode cX4_takeAllOut 12 = .ok (.iload_n 3, 1) := by decide +kernel
theorem dX4_takeAllOut_13 : decode cX4_takeAllOut 13 = .ok (.iaload, 1) := by decide +kernel
theorem dX4_takeAllOut_14 : decode cX4_takeAllOut 14 = .ok (.invokevirtual 39, 3) := by decide +kernel
theorem dX4_takeAllOut_17 : decode cX4_takeAllOut 17 = .ok (.iinc 3 1, 3) := by decide +kernel
theorem dX4_takeAllOut_20 : decode cX4_takeAllOut 20 = .ok (.goto (-18), 3) := by decide +kernel
theorem dX4_takeAllOut_23 : decode cX4_takeAllOut 23 = .ok (.return_, 1) := by decide +kernel
theorem dX5_init_0 : decode cX5_init 0 = .ok (.aload_n 0, 1) := by decide +kernel
theorem dX5_init_1 : decode cX5_init 1 = .ok (.invokespecial 3, 3) := by decide +kernel
theorem dX5_init_4 : decode cX5_init 4 = .ok (.aload_n 0, 1) := by decide +kernel
theorem dX5_init_5 : decode cX5_init 5 = .ok (.new 9, 3) := by decide +kernel
theorem dX5_init_8 : decode cX5_init 8 = .ok (.dup, 1) := by decide +kernel
theorem dX5_init_9 : decode cX5_init 9 = .ok (.invokespecial 11, 3) := by decide +kernel
theorem dX5_init_12 : decode cX5_init 12 = .ok (.putfield 12, 3) := by decide +kernel
theorem dX5_init_15 : decode cX5_init 15 = .ok (.aload_n 0, 1) := by decide +kernel
theorem dX5_init_16 : decode cX5_init 16 = .ok (.new 16, 3) := by decide +kernel
theorem dX5_init_19 : decode cX5_init 19 = .ok (.dup, 1) := by decide +kernel
theorem dX5_init_20 : decode cX5_init 20 = .ok (.invokespecial 18, 3) := by decide +kernel
theorem dX5_init_23 : decode cX5_init 23 = .ok (.putfield 19, 3) := by decide +kernel
theorem dX5_init_26 : decode cX5_init 26 = .ok (.aload_n 0, 1) := by decide +kernel
theorem dX5_init_27 : decode cX5_init 27 = .ok (.new 23, 3) := by decide +kernel
theorem dX5_init_30 : decode cX5_init 30 = .ok (.dup, 1) := by decide +kernel
theorem dX5_init_31 : decode cX5_init 31 = .ok (.invokespecial 25, 3) := by decide +kernel
theorem dX5_init_34 : decode cX5_init 34 = .ok (.putfield 26, 3) := by decide +kernel
theorem dX5_init_37 : decode cX5_init 37 = .ok (.aload_n 0, 1) := by decide +kernel
theorem dX5_init_38 : decode cX5_init 38 = .ok (.new 30, 3) := by decide +kernel
theorem dX5_init_41 : decode cX5_init 41 = .ok (.dup, 1) := by decide +kernel
theorem dX5_init_42 : decode cX5_init 42 = .ok (.iload_n 1, 1) := by decide +kernel
theorem dX5_init_43 : decode cX5_init 43 = .ok (.iconst 1, 1) := by decide +kernel
theorem dX5_init_44 : decode cX5_init 44 = .ok (.iconst 5, 1) := by decide +kernel
theorem dX5_init_45 : decode cX5_init 45 = .ok (.invokestatic 32, 3) := by decide +kernel
theorem dX5_init_48 : decode cX5_init 48 = .ok (.ifCond .eq 7, 3) := by decide +kernel
theorem dX5_init_51 : decode cX5_init 51 = .ok (.iload_n 1, 1) := by decide +kernel
theorem dX5_init_52 : decode cX5_init 52 = .ok (.goto 4, 3) := by decide +kernel
theorem dX5_init_55 : decode cX5_init 55 = .ok (.iconst 5, 1) := by decide +kernel
theorem dX5_init_56 : decode cX5_init 56 = .ok (.iload_n 2, 1) := by decide +kernel
theorem dX5_init_57 : decode cX5_init 57 = .ok (.iconst 1, 1) := by decide +kernel
theorem dX5_init_58 : decode cX5_init 58 = .ok (.bipush 6, 2) := by decide +kernel
theorem dX5_init_60 : decode cX5_init 60 = .ok (.invokestatic 32, 3) := by decide +kernel
theorem dX5_init_63 : decode cX5_init 63 = .ok (.ifCond .eq 7, 3) := by decide +kernel
theorem dX5_init_66 : decode cX5_init 66 = .ok (.iload_n 2, 1) := by decide +kernel
theorem dX5_init_67 : decode cX5_init 67 = .ok (.goto 5, 3) := by decide +kernel
theorem dX5_init_70 : decode cX5_init 70 = .ok (.bipush 6, 2) := by decide +kernel
theorem dX5_init_72 : decode cX5_init 72 = .ok (.invokespecial 36, 3) := by decide +kernel
theorem dX5_init_75 : decode cX5_init 75 = .ok (.putfield 39, 3) := by decide +kernel
theorem dX5_init_78 : decode cX5_init 78 = .ok (.return_, 1) := by decide +kernel
theorem dX5_room_0 : decode cX5_room 0 = .ok (.iload_n 1, 1) := by decide +kernel
theorem dX5_room_1 : decode cX5_room 1 = .ok (.iconst 0, 1) := by decide +kernel
theorem dX5_room_2 : decode cX5_room 2 = .ok (.iconst 5, 1) := by decide +kernel
theorem dX5_room_3 : decode cX5_room 3 = .ok (.invokestatic 32, 3) := by decide +kernel
theorem dX5_room_6 : decode cX5_room 6 = .ok (.ifCond .eq 12, 3) := by decide +kernel
theorem dX5_room_9 : decode cX5_room 9 = .ok (.iload_n 2, 1) := by decide +kernel
theorem dX5_room_10 : decode cX5_room 10 = .ok (.iconst 0, 1) := by decide +kernel
theorem dX5_room_11 : decode cX5_room 11 = .ok (.iconst 2, 1) := by decide +kernel
theorem dX5_room_12 : decode cX5_room 12 = .ok (.invokestatic 32, 3) := by decide +kernel
theorem dX5_room_15 : decode cX5_room 15 = .ok (.ifCond .ne 13, 3) := by decide +kernel
theorem dX5_room_18 : decode cX5_room 18 = .ok (.new 43, 3) := by decide +kernel
theorem dX5_room_21 : decode cX5_room 21 = .ok (.dup, 1) := by decide +kernel
theorem dX5_room_22 : decode cX5_room 22 = .ok (.ldc 45, 2) := by decide +kernel
theorem dX5_room_24 : decode cX5_room 24 = .ok (.invokespecial 47, 3) := by decide +kernel
theorem dX5_room_27 : decode cX5_room 27 = .ok (.athrow, 1) := by decide +kernel
theorem dX5_room_28 : decode cX5_room 28 = .ok (.aload_n 0, 1) := by decide +kernel
theorem dX5_room_29 : decode cX5_room 29 = .ok (.getfield 39, 3) := by decide +kernel
theorem dX5_room_32 : decode cX5_room 32 = .ok (.getfield 50, 3) := by decide +kernel
theorem dX5_room_35 : decode cX5_room 35 = .ok (.bipush 16, 2) := by decide +kernel
theorem dX5_room_37 : decode cX5_room 37 = .ok (.iload_n 1, 1) := by decide +kernel
theorem dX5_room_38 : decode cX5_room 38 = .ok (.iadd, 1) := by decide +kernel
theorem dX5_room_39 : decode cX5_room 39 = .ok (.iaload, 1) := by decide +kernel
theorem dX5_room_40 : decode cX5_room 40 = .ok (.ifCond .eq 13, 3) := by decide +kernel
theorem dX5_room_43 : decode cX5_room 43 = .ok (.new 54, 3) := by decide +kernel
theorem dX5_room_46 : decode cX5_room 46 = .ok (.dup, 1) := by decide +kernel
theorem dX5_room_47 : decode cX5_room 47 = .ok (.ldc 56, 2) := by decide +kernel
theorem dX5_room_49 : decode cX5_room 49 = .ok (.invokespecial 58, 3) := by decide +kernel
theorem dX5_room_52 : decode cX5_room 52 = .ok (.athrow, 1) := by decide +kernel
theorem dX5_room_53 : decode cX5_room 53 = .ok (.aload_n 0, 1) := by decide +kernel
theorem dX5_room_54 : decode cX5_room 54 = .ok (.getfield 39, 3) := by decide +kernel
theorem dX5_room_57 : decode cX5_room 57 = .ok (.getfield 59, 3) := by decide +kernel
theorem dX5_room_60 : decode cX5_room 60 = .ok (.iload_n 1, 1) := by decide +kernel
theorem dX5_room_61 : decode cX5_room 61 = .ok (.iload_n 2, 1) := by decide +kernel
theorem dX5_room_62 : decode cX5_room 62 = .ok (.iastore, 1) := by decide +kernel
theorem dX5_room_63 : decode cX5_room 63 = .ok (.return_, 1) := by decide +kernel
theorem dX5_lesson_0 : decode cX5_lesson 0 = .ok (.iload_n 1, 1) := by decide +kernel
theorem dX5_lesson_1 : decode cX5_lesson 1 = .ok (.iconst 0, 1) := by decide +kernel
theorem dX5_lesson_2 : decode cX5_lesson 2 = .ok (.bipush 7, 2) := by decide +kernel
theorem dX5_lesson_4 : decode cX5_lesson 4 = .ok (.invokestatic 32, 3) := by decide +kernel
theorem dX5_lesson_7 : decode cX5_lesson 7 = .ok (.ifCond .eq 18, 3) := by decide +kernel
theorem dX5_lesson_10 : decode cX5_lesson 10 = .ok (.iload_n 2, 1) := by decide +kernel
theorem dX5_lesson_11 : decode cX5_lesson 11 = .ok (.iconst (-1), 1) := by decide +kernel
theorem dX5_lesson_12 : decode cX5_lesson 12 = .ok (.bipush 7, 2) := by decide +kernel
theorem dX5_lesson_14 : decode cX5_lesson 14 = .ok (.invokestatic 32, 3) := by decide +kernel
theorem dX5_lesson_17 : decode cX5_lesson 17 = .ok (.ifCond .eq 8, 3) := by decide +kernel
theorem dX5_lesson_20 : decode cX5_lesson 20 = .ok (.iload_n 1, 1) := by decide +kernel
theorem dX5_lesson_21 : decode cX5_lesson 21 = .ok (.iload_n 2, 1) := by decide +kernel
theorem dX5_lesson_22 : decode cX5_lesson 22 = .ok (.if_icmp .ne 13, 3) := by decide +kernel
theorem dX5_lesson_25 : decode cX5_lesson 25 = .ok (.new 43, 3) := by decide +kernel
theorem dX5_lesson_28 : decode cX5_lesson 28 = .ok (.dup, 1) := by decide +kernel
theorem dX5_lesson_29 : decode cX5_lesson 29 = .ok (.ldc 62, 2) := by decide +kernel
theorem dX5_lesson_31 : decode cX5_lesson 31 = .ok (.invokespecial 47, 3) := by decide +kernel
theorem dX5_lesson_34 : decode cX5_lesson 34 = .ok (.athrow, 1) := by decide +kernel
theorem dX5_lesson_35 : decode cX5_lesson 35 = .ok (.iload_n 3, 1) := by decide +kernel
theorem dX5_lesson_36 : decode cX5_lesson 36 = .ok (.iconst 0, 1) := by decide +kernel
theorem dX5_lesson_37 : decode cX5_lesson 37 = .ok (.bipush 7, 2) := by decide +kernel
theorem dX5_lesson_39 : decode cX5_lesson 39 = .ok (.invokestatic 32, 3) := by decide +kernel
theorem dX5_lesson_42 : decode cX5_lesson 42 = .ok (.ifCond .eq 13, 3) := by decide +kernel
theorem dX5_lesson_45 : decode cX5_lesson 45 = .ok (.iload 4, 2) := by decide +kernel
theorem dX5_lesson_47 : decode cX5_lesson 47 = .ok (.iconst 0, 1) := by decide +kernel
theorem dX5_lesson_48 : decode cX5_lesson 48 = .ok (.iconst 2, 1) := by decide +kernel
theorem dX5_lesson_49 : decode cX5_lesson 49 = .ok (.invokestatic 32, 3) := by decide +kernel
theorem dX5_lesson_52 : decode cX5_lesson 52 = .ok (.ifCond .ne 13, 3) := by decide +kernel
theorem dX5_lesson_55 : decode cX5_lesson 55 = .ok (.new 43, 3) := by decide +kernel
theorem dX5_lesson_58 : decode cX5_lesson 58 = .ok (.dup, 1) := by decide +kernel
theorem dX5_lesson_59 : decode cX5_lesson 59 = .ok (.ldc 64, 2) := by decide +kernel
theorem dX5_lesson_61 : decode cX5_lesson 61 = .ok (.invokespecial 47, 3) := by decide +kernel
theorem dX5_lesson_64 : decode cX5_lesson 64 = .ok (.athrow, 1) := by decide +kernel
theorem dX5_lesson_65 : decode cX5_lesson 65 = .ok (.iload 5, 2) := by decide +kernel
theorem dX5_lesson_67 : decode cX5_lesson 67 = .ok (.bipush 10, 2) := by decide +kernel
theorem dX5_lesson_69 : decode cX5_lesson 69 = .ok (.idiv, 1) := by decide +kernel
theorem dX5_lesson_70 : decode cX5_lesson 70 = .ok (.iconst 1, 1) := by decide +kernel
theorem dX5_lesson_71 : decode cX5_lesson 71 = .ok (.iconst 2, 1) := by decide +kernel
theorem dX5_lesson_72 : decode cX5_lesson 72 = .ok (.invokestatic 32, 3) := by decide +kernel
theorem dX5_lesson_75 : decode cX5_lesson 75 = .ok (.ifCond .eq 16, 3) := by decide +kernel
theorem dX5_lesson_78 : decode cX5_lesson 78 = .ok (.iload 5, 2) := by decide +kernel
theorem dX5_lesson_80 : decode cX5_lesson 80 = .ok (.bipush 10, 2) := by decide +kernel
theorem dX5_lesson_82 : decode cX5_lesson 82 = .ok (.irem, 1) := by decide +kernel
theorem dX5_lesson_83 : decode cX5_lesson 83 = .ok (.iconst 1, 1) := by decide +kernel
theorem dX5_lesson_84 : decode cX5_lesson 84 = .ok (.iconst 4, 1) := by decide +kernel
theorem dX5_lesson_85 : decode cX5_lesson 85 = .ok (.invokestatic 32, 3) := by decide +kernel
theorem dX5_lesson_88 : decode cX5_lesson 88 = .ok (.ifCond .ne 13, 3) := by decide +kernel
theorem dX5_lesson_91 : decode cX5_lesson 91 = .ok (.new 43, 3) := by decide +kernel
theorem dX5_lesson_94 : decode cX5_lesson 94 = .ok (.dup, 1) := by decide +kernel
theorem dX5_lesson_95 : decode cX5_lesson 95 = .ok (.ldc 66, 2) := by decide +kernel
theorem dX5_lesson_97 : decode cX5_lesson 97 = .ok (.invokespecial 47, 3) := by decide +kernel
theorem dX5_lesson_100 : decode cX5_lesson 100 = .ok (.athrow, 1) := by decide +kernel
theorem dX5_lesson_101 : decode cX5_lesson 101 = .ok (.iload 6, 2) := by decide +kernel
theorem dX5_lesson_103 : decode cX5_lesson 103 = .ok (.bipush 33, 2) := by decide +kernel
theorem dX5_lesson_105 : decode cX5_lesson 105 = .ok (.bipush 126, 2) := by decide +kernel
theorem dX5_lesson_107 : decode cX5_lesson 107 = .ok (.invokestatic 32, 3) := by decide +kernel
theorem dX5_lesson_110 : decode cX5_lesson 110 = .ok (.ifCond .ne 13, 3) := by decide +kernel
theorem dX5_lesson_113 : decode cX5_lesson 113 = .ok (.new 43, 3) := by decide +kernel
theorem dX5_lesson_116 : decode cX5_lesson 116 = .ok (.dup, 1) := by decide +kernel
theorem dX5_lesson_117 : decode cX5_lesson 117 = .ok (.ldc 68, 2) := by decide +kernel
theorem dX5_lesson_119 : decode cX5_lesson 119 = .ok (.invokespecial 47, 3) := by decide +kernel
theorem dX5_lesson_122 : decode cX5_lesson 122 = .ok (.athrow, 1) := by decide +kernel
theorem dX5_lesson_123 : decode cX5_lesson 123 = .ok (.aload_n 0, 1) := by decide +kernel
theorem dX5_lesson_124 : decode cX5_lesson 124 = .ok (.getfield 39, 3) := by decide +kernel
theorem dX5_lesson_127 : decode cX5_lesson 127 = .ok (.getfield 70, 3) := by decide +kernel
theorem dX5_lesson_130 : decode cX5_lesson 130 = .ok (.getfield 74, 3) := by decide +kernel
theorem dX5_lesson_133 : decode cX5_lesson 133 = .ok (.bipush 16, 2) := by decide +kernel
theorem dX5_lesson_135 : decode cX5_lesson 135 = .ok (.if_icmp .lt 13, 3) := by decide +kernel
theorem dX5_lesson_138 : decode cX5_lesson 138 = .ok (.new 54, 3) := by decide +kernel
theorem dX5_lesson_141 : decode cX5_lesson 141 = .ok (.dup, 1) := by decide +kernel
theorem dX5_lesson_142 : decode cX5_lesson 142 = .ok (.ldc 80, 2) := by decide +kernel
theorem dX5_lesson_144 : decode cX5_lesson 144 = .ok (.invokespecial 58, 3) := by decide +kernel
theorem dX5_lesson_147 : decode cX5_lesson 147 = .ok (.athrow, 1) := by decide +kernel
theorem dX5_lesson_148 : decode cX5_lesson 148 = .ok (.aload_n 0, 1) := by decide +kernel
theorem dX5_lesson_149 : decode cX5_lesson 149 = .ok (.getfield 39, 3) := by decide +kernel
theorem dX5_lesson_152 : decode cX5_lesson 152 = .ok (.getfield 70, 3) := by decide +kernel
theorem dX5_lesson_155 : decode cX5_lesson 155 = .ok (.iload_n 1, 1) := by decide +kernel
theorem dX5_lesson_156 : decode cX5_lesson 156 = .ok (.iload_n 2, 1) := by decide +kernel
theorem dX5_lesson_157 : decode cX5_lesson 157 = .ok (.iload_n 3, 1) := by decide +kernel
theorem dX5_lesson_158 : decode cX5_lesson 158 = .ok (.iload 4, 2) := by decide +kernel
theorem dX5_lesson_160 : decode cX5_lesson 160 = .ok (.iload 5, 2) := by decide +kernel
theorem dX5_lesson_162 : decode cX5_lesson 162 = .ok (.iload 6, 2) := by decide +kernel
theorem dX5_lesson_164 : decode cX5_lesson 164 = .ok (.invokevirtual 82, 3) := by decide +kernel
theorem dX5_lesson_167 : decode cX5_lesson 167 = .ok (.ireturn, 1) := by decide +kernel
theorem dX5_block_0 : decode cX5_block 0 = .ok (.iload_n 1, 1) := by decide +kernel
theorem dX5_block_1 : decode cX5_block 1 = .ok (.iload_n 2, 1) := by decide +kernel
theorem dX5_block_2 : decode cX5_block 2 = .ok (.invokestatic 86, 3) := by decide +kernel
theorem dX5_block_5 : decode cX5_block 5 = .ok (.ifCond .eq 20, 3) := by decide +kernel
theorem dX5_block_8 : decode cX5_block 8 = .ok (.iload_n 3, 1) := by decide +kernel
theorem dX5_block_9 : decode cX5_block 9 = .ok (.iconst 0, 1) := by decide +kernel
theorem dX5_block_10 : decode cX5_block 10 = .ok (.aload_n 0, 1) := by decide +kernel
theorem dX5_block_11 : decode cX5_block 11 = .ok (.getfield 39, 3) := by decide +kernel
theorem dX5_block_14 : decode cX5_block 14 = .ok (.getfield 90, 3) := by decide +kernel
theorem dX5_block_17 : decode cX5_block 17 = .ok (.iconst 1, 1) := by decide +kernel
theorem dX5_block_18 : decode cX5_block 18 = .ok (.isub, 1) := by decide +kernel
theorem dX5_block_19 : decode cX5_block 19 = .ok (.invokestatic 32, 3) := by decide +kernel
theorem dX5_block_22 : decode cX5_block 22 = .ok (.ifCond .ne 13, 3) := by decide +kernel
theorem dX5_block_25 : decode cX5_block 25 = .ok (.new 43, 3) := by decide +kernel
theorem dX5_block_28 : decode cX5_block 28 = .ok (.dup, 1) := by decide +kernel
theorem dX5_block_29 : decode cX5_block 29 = .ok (.ldc 93, 2) := by decide +kernel
theorem dX5_block_31 : decode cX5_block 31 = .ok (.invokespecial 47, 3) := by decide +kernel
theorem dX5_block_34 : decode cX5_block 34 = .ok (.athrow, 1) := by decide +kernel
theorem dX5_block_35 : decode cX5_block 35 = .ok (.iload_n 1, 1) := by decide +kernel
theorem dX5_block_36 : decode cX5_block 36 = .ok (.iload_n 2, 1) := by decide +kernel
theorem dX5_block_37 : decode cX5_block 37 = .ok (.invokestatic 95, 3) := by decide +kernel
theorem dX5_block_40 : decode cX5_block 40 = .ok (.istore 5, 2) := by decide +kernel
theorem dX5_block_42 : decode cX5_block 42 = .ok (.iconst 1, 1) := by decide +kernel
theorem dX5_block_43 : decode cX5_block 43 = .ok (.iload_n 3, 1) := by decide +kernel
theorem dX5_block_44 : decode cX5_block 44 = .ok (.ishl, 1) := by decide +kernel
theorem dX5_block_45 : decode cX5_block 45 = .ok (.istore 6, 2) := by decide +kernel
theorem dX5_block_47 : decode cX5_block 47 = .ok (.iload 4, 2) := by decide +kernel
theorem dX5_block_49 : decode cX5_block 49 = .ok (.ifCond .eq 29, 3) := by decide +kernel
theorem dX5_block_52 : decode cX5_block 52 = .ok (.aload_n 0, 1) := by decide +kernel
theorem dX5_block_53 : decode cX5_block 53 = .ok (.getfield 39, 3) := by decide +kernel
theorem dX5_block_56 : decode cX5_block 56 = .ok (.getfield 50, 3) := by decide +kernel
theorem dX5_block_59 : decode cX5_block 59 = .ok (.iload 5, 2) := by decide +kernel
theorem dX5_block_61 : decode cX5_block 61 = .ok (.iaload, 1) := by decide +kernel
theorem dX5_block_62 : decode cX5_block 62 = .ok (.iload 6, 2) := by decide +kernel
theorem dX5_block_64 : decode cX5_block 64 = .ok (.iand, 1) := by decide +kernel
theorem dX5_block_65 : decode cX5_block 65 = .ok (.ifCond .eq 13, 3) := by decide +kernel
theorem dX5_block_68 : decode cX5_block 68 = .ok (.new 54, 3) := by decide +kernel
theorem dX5_block_71 : decode cX5_block 71 = .ok (.dup, 1) := by decide +kernel
theorem dX5_block_72 : decode cX5_block 72 = .ok (.ldc 99, 2) := by decide +kernel
theorem dX5_block_74 : decode cX5_block 74 = .ok (.invokespecial 58, 3) := by decide +kernel
theorem dX5_block_77 : decode cX5_block 77 = .ok (.athrow, 1) := by decide +kernel
theorem dX5_block_78 : decode cX5_block 78 = .ok (.iload 4, 2) := by decide +kernel
theorem dX5_block_80 : decode cX5_block 80 = .ok (.ifCond .eq 21, 3) := by decide +kernel
theorem dX5_block_83 : decode cX5_block 83 = .ok (.aload_n 0, 1) := by decide +kernel
theorem dX5_block_84 : decode cX5_block 84 = .ok (.getfield 39, 3) := by decide +kernel
theorem dX5_block_87 : decode cX5_block 87 = .ok (.getfield 101, 3) := by decide +kernel
theorem dX5_block_90 : decode cX5_block 90 = .ok (.iload 5, 2) := by decide +kernel
theorem dX5_block_92 : decode cX5_block 92 = .ok (.dup2, 1) := by decide +kernel
theorem dX5_block_93 : decode cX5_block 93 = .ok (.iaload, 1) := by decide +kernel
theorem dX5_block_94 : decode cX5_block 94 = .ok (.iload 6, 2) := by decide +kernel
theorem dX5_block_96 : decode cX5_block 96 = .ok (.ior, 1) := by decide +kernel
theorem dX5_block_97 : decode cX5_block 97 = .ok (.iastore, 1) := by decide +kernel
theorem dX5_block_98 : decode cX5_block 98 = .ok (.goto 20, 3) := by decide +kernel
theorem dX5_block_101 : decode cX5_block 101 = .ok (.aload_n 0, 1) := by decide +kernel
theorem dX5_block_102 : decode cX5_block 102 = .ok (.getfield 39, 3) := by decide +kernel
theorem dX5_block_105 : decode cX5_block 105 = .ok (.getfield 101, 3) := by decide +kernel
theorem dX5_block_108 : decode cX5_block 108 = .ok (.iload 5, 2) := by decide +kernel
theorem dX5_block_110 : decode cX5_block 110 = .ok (.dup2, 1) := by decide +kernel
theorem dX5_block_111 : decode cX5_block 111 = .ok (.iaload, 1) := by decide +kernel
theorem dX5_block_112 : decode cX5_block 112 = .ok (.iload 6, 2) := by decide +kernel
theorem dX5_block_114 : decode cX5_block 114 = .ok (.iconst (-1), 1) := by decide +kernel
theorem dX5_block_115 : decode cX5_block 115 = .ok (.ixor, 1) := by decide +kernel
theorem dX5_block_116 : decode cX5_block 116 = .ok (.iand, 1) := by decide +kernel
theorem dX5_block_117 : decode cX5_block 117 = .ok (.iastore, 1) := by decide +kernel
theorem dX5_block_118 : decode cX5_block 118 = .ok (.return_, 1) := by decide +kernel
theorem dX5_place_0 : decode cX5_place 0 = .ok (.aload_n 0, 1) := by decide +kernel
theorem dX5_place_1 : decode cX5_place 1 = .ok (.getfield 39, 3) := by decide +kernel
theorem dX5_place_4 : decode cX5_place 4 = .ok (.getfield 70, 3) := by decide +kernel
theorem dX5_place_7 : decode cX5_place 7 = .ok (.iload_n 1, 1) := by decide +kernel
theorem dX5_place_8 : decode cX5_place 8 = .ok (.iload_n 2, 1) := by decide +kernel
theorem dX5_place_9 : decode cX5_place 9 = .ok (.invokevirtual 104, 3) := by decide +kernel
theorem dX5_place_12 : decode cX5_place 12 = .ok (.ifCond .eq 20, 3) := by decide +kernel
theorem dX5_place_15 : decode cX5_place 15 = .ok (.iload_n 3, 1) := by decide +kernel
theorem dX5_place_16 : decode cX5_place 16 = .ok (.iconst 0, 1) := by decide +kernel
theorem dX5_place_17 : decode cX5_place 17 = .ok (.aload_n 0, 1) := by decide +kernel
theorem dX5_place_18 : decode cX5_place 18 = .ok (.getfield 39, 3) := by decide +kernel
theorem dX5_place_21 : decode cX5_place 21 = .ok (.getfield 90, 3) := by decide +kernel
theorem dX5_place_24 : decode cX5_place 24 = .ok (.iconst 1, 1) := by decide +kernel
theorem dX5_place_25 : decode cX5_place 25 = .ok (.isub, 1) := by decide +kernel
theorem dX5_place_26 : decode cX5_place 26 = .ok (.invokestatic 32, 3) := by decide +kernel
theorem dX5_place_29 : decode cX5_place 29 = .ok (.ifCond .ne 13, 3) := by decide +kernel
theorem dX5_place_32 : decode cX5_place 32 = .ok (.new 43, 3) := by decide +kernel
theorem dX5_place_35 : decode cX5_place 35 = .ok (.dup, 1) := by decide +kernel
theorem dX5_place_36 : decode cX5_place 36 = .ok (.ldc 107, 2) := by decide +kernel
theorem dX5_place_38 : decode cX5_place 38 = .ok (.invokespecial 47, 3) := by decide +kernel
theorem dX5_place_41 : decode cX5_place 41 = .ok (.athrow, 1) := by decide +kernel
theorem dX5_place_42 : decode cX5_place 42 = .ok (.iload_n 1, 1) := by decide +kernel
theorem dX5_place_43 : decode cX5_place 43 = .ok (.iload_n 2, 1) := by decide +kernel
theorem dX5_place_44 : decode cX5_place 44 = .ok (.invokestatic 109, 3) := by decide +kernel
theorem dX5_place_47 : decode cX5_place 47 = .ok (.istore 4, 2) := by decide +kernel
theorem dX5_place_49 : decode cX5_place 49 = .ok (.aload_n 0, 1) := by decide +kernel
theorem dX5_place_50 : decode cX5_place 50 = .ok (.getfield 39, 3) := by decide +kernel
theorem dX5_place_53 : decode cX5_place 53 = .ok (.iload 4, 2) := by decide +kernel
theorem dX5_place_55 : decode cX5_place 55 = .ok (.invokevirtual 112, 3) := by decide +kernel
theorem dX5_place_58 : decode cX5_place 58 = .ok (.ifCond .eq 13, 3) := by decide +kernel
theorem dX5_place_61 : decode cX5_place 61 = .ok (.new 54, 3) := by decide +kernel
theorem dX5_place_64 : decode cX5_place 64 = .ok (.dup, 1) := by decide +kernel
theorem dX5_place_65 : decode cX5_place 65 = .ok (.ldc 116, 2) := by decide +kernel
theorem dX5_place_67 : decode cX5_place 67 = .ok (.invokespecial 58, 3) := by decide +kernel
theorem dX5_place_70 : decode cX5_place 70 = .ok (.athrow, 1) := by decide +kernel
theorem dX5_place_71 : decode cX5_place 71 = .ok (.aload_n 0, 1) := by decide +kernel
theorem dX5_place_72 : decode cX5_place 72 = .ok (.getfield 26, 3) := by decide +kernel
theorem dX5_place_75 : decode cX5_place 75 = .ok (.aload_n 0, 1) := by decide +kernel
theorem dX5_place_76 : decode cX5_place 76 = .ok (.getfield 39, 3) := by decide +kernel
theorem dX5_place_79 : decode cX5_place 79 = .ok (.getfield 118, 3) := by decide +kernel
theorem dX5_place_82 : decode cX5_place 82 = .ok (.invokevirtual 121, 3) := by decide +kernel
theorem dX5_place_85 : decode cX5_place 85 = .ok (.aload_n 0, 1) := by decide +kernel
theorem dX5_place_86 : decode cX5_place 86 = .ok (.getfield 39, 3) := by decide +kernel
theorem dX5_place_89 : decode cX5_place 89 = .ok (.iload 4, 2) := by decide +kernel
theorem dX5_place_91 : decode cX5_place 91 = .ok (.iload_n 3, 1) := by decide +kernel
theorem dX5_place_92 : decode cX5_place 92 = .ok (.invokevirtual 125, 3) := by decide +kernel
theorem dX5_place_95 : decode cX5_place 95 = .ok (.istore 5, 2) := by decide +kernel
theorem dX5_place_97 : decode cX5_place 97 = .ok (.iload 5, 2) := by decide +kernel
theorem dX5_place_99 : decode cX5_place 99 = .ok (.ifCond .ne 10, 3) := by decide +kernel
theorem dX5_place_102 : decode cX5_place 102 = .ok (.aload_n 0, 1) := by decide +kernel
theorem dX5_place_103 : decode cX5_place 103 = .ok (.getfield 26, 3) := by decide +kernel
theorem dX5_place_106 : decode cX5_place 106 = .ok (.invokevirtual 128, 3) := by decide +kernel
theorem dX5_place_109 : decode cX5_place 109 = .ok (.iload 5, 2) := by decide +kernel
theorem dX5_place_111 : decode cX5_place 111 = .ok (.ireturn, 1) := by decide +kernel
theorem dX5_drop_0 : decode cX5_drop 0 = .ok (.aload_n 0, 1) := by decide +kernel
theorem dX5_drop_1 : decode cX5_drop 1 = .ok (.getfield 39, 3) := by decide +kernel
theorem dX5_drop_4 : decode cX5_drop 4 = .ok (.getfield 70, 3) := by decide +kernel
theorem dX5_drop_7 : decode cX5_drop 7 = .ok (.iload_n 1, 1) := by decide +kernel
theorem dX5_drop_8 : decode cX5_drop 8 = .ok (.iload_n 2, 1) := by decide +kernel
theorem dX5_drop_9 : decode cX5_drop 9 = .ok (.invokevirtual 104, 3) := by decide +kernel
theorem dX5_drop_12 : decode cX5_drop 12 = .ok (.ifCond .ne 13, 3) := by decide +kernel
theorem dX5_drop_15 : decode cX5_drop 15 = .ok (.new 43, 3) := by decide +kernel
theorem dX5_drop_18 : decode cX5_drop 18 = .ok (.dup, 1) := by decide +kernel
theorem dX5_drop_19 : decode cX5_drop 19 = .ok (.ldc 131, 2) := by decide +kernel
theorem dX5_drop_21 : decode cX5_drop 21 = .ok (.invokespecial 47, 3) := by decide +kernel
theorem dX5_drop_24 : decode cX5_drop 24 = .ok (.athrow, 1) := by decide +kernel
theorem dX5_drop_25 : decode cX5_drop 25 = .ok (.iload_n 1, 1) := by decide +kernel
theorem dX5_drop_26 : decode cX5_drop 26 = .ok (.iload_n 2, 1) := by decide +kernel
theorem dX5_drop_27 : decode cX5_drop 27 = .ok (.invokestatic 109, 3) := by decide +kernel
theorem dX5_drop_30 : decode cX5_drop 30 = .ok (.istore_n 3, 1) := by decide +kernel
theorem dX5_drop_31 : decode cX5_drop 31 = .ok (.aload_n 0, 1) := by decide +kernel
theorem dX5_drop_32 : decode cX5_drop 32 = .ok (.getfield 39, 3) := by decide +kernel
theorem dX5_drop_35 : decode cX5_drop 35 = .ok (.iload_n 3, 1) := by decide +kernel
theorem dX5_drop_36 : decode cX5_drop 36 = .ok (.invokevirtual 112, 3) := by decide +kernel
theorem dX5_drop_39 : decode cX5_drop 39 = .ok (.ifCond .ne 13, 3) := by decide +kernel
theorem dX5_drop_42 : decode cX5_drop 42 = .ok (.new 54, 3) := by decide +kernel
theorem dX5_drop_45 : decode cX5_drop 45 = .ok (.dup, 1) := by decide +kernel
theorem dX5_drop_46 : decode cX5_drop 46 = .ok (.ldc 133, 2) := by decide +kernel
theorem dX5_drop_48 : decode cX5_drop 48 = .ok (.invokespecial 58, 3) := by decide +kernel
theorem dX5_drop_51 : decode cX5_drop 51 = .ok (.athrow, 1) := by decide +kernel
theorem dX5_drop_52 : decode cX5_drop 52 = .ok (.aload_n 0, 1) := by decide +kernel
theorem dX5_drop_53 : decode cX5_drop 53 = .ok (.getfield 39, 3) := by decide +kernel
theorem dX5_drop_56 : decode cX5_drop 56 = .ok (.iload_n 3, 1) := by decide +kernel
theorem dX5_drop_57 : decode cX5_drop 57 = .ok (.invokevirtual 135, 3) := by decide +kernel
theorem dX5_drop_60 : decode cX5_drop 60 = .ok (.istore 4, 2) := by decide +kernel
theorem dX5_drop_62 : decode cX5_drop 62 = .ok (.aload_n 0, 1) := by decide +kernel
theorem dX5_drop_63 : decode cX5_drop 63 = .ok (.getfield 26, 3) := by decide +kernel
theorem dX5_drop_66 : decode cX5_drop 66 = .ok (.aload_n 0, 1) := by decide +kernel
theorem dX5_drop_67 : decode cX5_drop 67 = .ok (.getfield 39, 3) := by decide +kernel
theorem dX5_drop_70 : decode cX5_drop 70 = .ok (.getfield 118, 3) := by decide +kernel
theorem dX5_drop_73 : decode cX5_drop 73 = .ok (.invokevirtual 121, 3) := by decide +kernel
theorem dX5_drop_76 : decode cX5_drop 76 = .ok (.aload_n 0, 1) := by decide +kernel
theorem dX5_drop_77 : decode cX5_drop 77 = .ok (.getfield 39, 3) := by decide +kernel
theorem dX5_drop_80 : decode cX5_drop 80 = .ok (.iload_n 3, 1) := by decide +kernel
theorem dX5_drop_81 : decode cX5_drop 81 = .ok (.invokevirtual 139, 3) := by decide +kernel
theorem dX5_drop_84 : decode cX5_drop 84 = .ok (.aload_n 0, 1) := by decide +kernel
theorem dX5_drop_85 : decode cX5_drop 85 = .ok (.getfield 26, 3) := by decide +kernel
theorem dX5_drop_88 : decode cX5_drop 88 = .ok (.invokevirtual 128, 3) := by decide +kernel
theorem dX5_drop_91 : decode cX5_drop 91 = .ok (.iload 4, 2) := by decide +kernel
theorem dX5_drop_93 : decode cX5_drop 93 = .ok (.ireturn, 1) := by decide +kernel
theorem dX5_fill_0 : decode cX5_fill 0 = .ok (.iload_n 1, 1) := by decide +kernel
theorem dX5_fill_1 : decode cX5_fill 1 = .ok (.iconst 1, 1) := by decide +kernel
theorem dX5_fill_2 : decode cX5_fill 2 = .ok (.sipush 20000, 3) := by decide +kernel
theorem dX5_fill_5 : decode cX5_fill 5 = .ok (.invokestatic 32, 3) := by decide +kernel
theorem dX5_fill_8 : decode cX5_fill 8 = .ok (.ifCond .ne 13, 3) := by decide +kernel
theorem dX5_fill_11 : decode cX5_fill 11 = .ok (.new 43, 3) := by decide +kernel
theorem dX5_fill_14 : decode cX5_fill 14 = .ok (.dup, 1) := by decide +kernel
theorem dX5_fill_15 : decode cX5_fill 15 = .ok (.ldc 143, 2) := by decide +kernel
theorem dX5_fill_17 : decode cX5_fill 17 = .ok (.invokespecial 47, 3) := by decide +kernel
theorem dX5_fill_20 : decode cX5_fill 20 = .ok (.athrow, 1) := by decide +kernel
theorem dX5_fill_21 : decode cX5_fill 21 = .ok (.aload_n 0, 1) := by decide +kernel
theorem dX5_fill_22 : decode cX5_fill 22 = .ok (.getfield 26, 3) := by decide +kernel
theorem dX5_fill_25 : decode cX5_fill 25 = .ok (.aload_n 0, 1) := by decide +kernel
theorem dX5_fill_26 : decode cX5_fill 26 = .ok (.getfield 39, 3) := by decide +kernel
theorem dX5_fill_29 : decode cX5_fill 29 = .ok (.getfield 118, 3) := by decide +kernel
theorem dX5_fill_32 : decode cX5_fill 32 = .ok (.invokevirtual 121, 3) := by decide +kernel
theorem dX5_fill_35 : decode cX5_fill 35 = .ok (.aload_n 0, 1) := by decide +kernel
theorem dX5_fill_36 : decode cX5_fill 36 = .ok (.getfield 12, 3) := by decide +kernel
theorem dX5_fill_39 : decode cX5_fill 39 = .ok (.aload_n 0, 1) := by decide +kernel
theorem dX5_fill_40 : decode cX5_fill 40 = .ok (.getfield 39, 3) := by decide +kernel
theorem dX5_fill_43 : decode cX5_fill 43 = .ok (.iload_n 1, 1) := by decide +kernel
theorem dX5_fill_44 : decode cX5_fill 44 = .ok (.invokevirtual 145, 3) := by decide +kernel
theorem dX5_fill_47 : decode cX5_fill 47 = .ok (.istore_n 2, 1) := by decide +kernel
theorem dX5_fill_48 : decode cX5_fill 48 = .ok (.iload_n 2, 1) := by decide +kernel
theorem dX5_fill_49 : decode cX5_fill 49 = .ok (.iconst 1, 1) := by decide +kernel
theorem dX5_fill_50 : decode cX5_fill 50 = .ok (.if_icmp .ne 20, 3) := by decide +kernel
theorem dX5_fill_53 : decode cX5_fill 53 = .ok (.aload_n 0, 1) := by decide +kernel
theorem dX5_fill_54 : decode cX5_fill 54 = .ok (.getfield 12, 3) := by decide +kernel
theorem dX5_fill_57 : decode cX5_fill 57 = .ok (.getfield 149, 3) := by decide +kernel
theorem dX5_fill_60 : decode cX5_fill 60 = .ok (.ifCond .le 10, 3) := by decide +kernel
theorem dX5_fill_63 : decode cX5_fill 63 = .ok (.aload_n 0, 1) := by decide +kernel
theorem dX5_fill_64 : decode cX5_fill 64 = .ok (.getfield 26, 3) := by decide +kernel
theorem dX5_fill_67 : decode cX5_fill 67 = .ok (.invokevirtual 128, 3) := by decide +kernel
theorem dX5_fill_70 : decode cX5_fill 70 = .ok (.iload_n 2, 1) := by decide +kernel
theorem dX5_fill_71 : decode cX5_fill 71 = .ok (.ireturn, 1) := by decide +kernel
theorem dX5_tries_0 : decode cX5_tries 0 = .ok (.aload_n 0, 1) := by decide +kernel
theorem dX5_tries_1 : decode cX5_tries 1 = .ok (.getfield 12, 3) := by decide +kernel
theorem dX5_tries_4 : decode cX5_tries 4 = .ok (.getfield 152, 3) := by decide +kernel
theorem dX5_tries_7 : decode cX5_tries 7 = .ok (.ireturn, 1) := by decide +kernel
theorem dX5_period_0 : decode cX5_period 0 = .ok (.aload_n 0, 1) := by decide +kernel
theorem dX5_period_1 : decode cX5_period 1 = .ok (.getfield 39, 3) := by decide +kernel
theorem dX5_period_4 : decode cX5_period 4 = .ok (.getfield 70, 3) := by decide +kernel
theorem dX5_period_7 : decode cX5_period 7 = .ok (.iload_n 1, 1) := by decide +kernel
theorem dX5_period_8 : decode cX5_period 8 = .ok (.iload_n 2, 1) := by decide +kernel
theorem dX5_period_9 : decode cX5_period 9 = .ok (.invokevirtual 104, 3) := by decide +kernel
theorem dX5_period_12 : decode cX5_period 12 = .ok (.ifCond .ne 13, 3) := by decide +kernel
theorem dX5_period_15 : decode cX5_period 15 = .ok (.new 43, 3) := by decide +kernel
theorem dX5_period_18 : decode cX5_period 18 = .ok (.dup, 1) := by decide +kernel
theorem dX5_period_19 : decode cX5_period 19 = .ok (.ldc 131, 2) := by decide +kernel
theorem dX5_period_21 : decode cX5_period 21 = .ok (.invokespecial 47, 3) := by decide +kernel
theorem dX5_period_24 : decode cX5_period 24 = .ok (.athrow, 1) := by decide +kernel
theorem dX5_period_25 : decode cX5_period 25 = .ok (.aload_n 0, 1) := by decide +kernel
theorem dX5_period_26 : decode cX5_period 26 = .ok (.getfield 39, 3) := by decide +kernel
theorem dX5_period_29 : decode cX5_period 29 = .ok (.iload_n 1, 1) := by decide +kernel
theorem dX5_period_30 : decode cX5_period 30 = .ok (.iload_n 2, 1) := by decide +kernel
theorem dX5_period_31 : decode cX5_period 31 = .ok (.invokestatic 109, 3) := by decide +kernel
theorem dX5_period_34 : decode cX5_period 34 = .ok (.invokevirtual 135, 3) := by decide +kernel
theorem dX5_period_37 : decode cX5_period 37 = .ok (.ireturn, 1) := by decide +kernel
theorem dX5_roomOf_0 : decode cX5_roomOf 0 = .ok (.aload_n 0, 1) := by decide +kernel
theorem dX5_roomOf_1 : decode cX5_roomOf 1 = .ok (.getfield 39, 3) := by decide +kernel
theorem dX5_roomOf_4 : decode cX5_roomOf 4 = .ok (.getfield 70, 3) := by decide +kernel
theorem dX5_roomOf_7 : decode cX5_roomOf 7 = .ok (.iload_n 1, 1) := by decide +kernel
theorem dX5_roomOf_8 : decode cX5_roomOf 8 = .ok (.iload_n 2, 1) := by decide +kernel
theorem dX5_roomOf_9 : decode cX5_roomOf 9 = .ok (.invokevirtual 104, 3) := by decide +kernel
theorem dX5_roomOf_12 : decode cX5_roomOf 12 = .ok (.ifCond .ne 13, 3) := by decide +kernel
theorem dX5_roomOf_15 : decode cX5_roomOf 15 = .ok (.new 43, 3) := by decide +kernel
theorem dX5_roomOf_18 : decode cX5_roomOf 18 = .ok (.dup, 1) := by decide +kernel
theorem dX5_roomOf_19 : decode cX5_roomOf 19 = .ok (.ldc 131, 2) := by decide +kernel
theorem dX5_roomOf_21 : decode cX5_roomOf 21 = .ok (.invokespecial 47, 3) := by decide +kernel
theorem dX5_roomOf_24 : decode cX5_roomOf 24 = .ok (.athrow, 1) := by decide +kernel
theorem dX5_roomOf_25 : decode cX5_roomOf 25 = .ok (.aload_n 0, 1) := by decide +kernel
theorem dX5_roomOf_26 : decode cX5_roomOf 26 = .ok (.getfield 39, 3) := by decide +kernel
theorem dX5_roomOf_29 : decode cX5_roomOf 29 = .ok (.iload_n 1, 1) := by decide +kernel
end
section
theorem dX5_roomOf_30 : decode cX5_roomOf 30 = .ok (.iload_n 2, 1) := by decide +kernel
theorem dX5_roomOf_31 : decode cX5_roomOf 31 = .ok (.invokestatic 109, 3) := by decide +kernel
theorem dX5_roomOf_34 : decode cX5_roomOf 34 = .ok (.invokevirtual 155, 3) := by decide +kernel
theorem dX5_roomOf_37 : decode cX5_roomOf 37 = .ok (.ireturn, 1) := by decide +kernel
theorem dX5_penalty_0 : decode cX5_penalty 0 = .ok (.aload_n 0, 1) := by decide +kernel
theorem dX5_penalty_1 : decode cX5_penalty 1 = .ok (.getfield 39, 3) := by decide +kernel
theorem dX5_penalty_4 : decode cX5_penalty 4 = .ok (.invokevirtual 158, 3) := by decide +kernel
theorem dX5_penalty_7 : decode cX5_penalty 7 = .ok (.ireturn, 1) := by decide +kernel
theorem dX5_improve_0 : decode cX5_improve 0 = .ok (.iload_n 1, 1) := by decide +kernel
theorem dX5_improve_1 : decode cX5_improve 1 = .ok (.iconst 1, 1) := by decide +kernel
theorem dX5_improve_2 : decode cX5_improve 2 = .ok (.bipush 10, 2) := by decide +kernel
theorem dX5_improve_4 : decode cX5_improve 4 = .ok (.invokestatic 32, 3) := by decide +kernel
theorem dX5_improve_7 : decode cX5_improve 7 = .ok (.ifCond .ne 13, 3) := by decide +kernel
theorem dX5_improve_10 : decode cX5_improve 10 = .ok (.new 43, 3) := by decide +kernel
theorem dX5_improve_13 : decode cX5_improve 13 = .ok (.dup, 1) := by decide +kernel
theorem dX5_improve_14 : decode cX5_improve 14 = .ok (.ldc 162, 2) := by decide +kernel
theorem dX5_improve_16 : decode cX5_improve 16 = .ok (.invokespecial 47, 3) := by decide +kernel
theorem dX5_improve_19 : decode cX5_improve 19 = .ok (.athrow, 1) := by decide +kernel
theorem dX5_improve_20 : decode cX5_improve 20 = .ok (.aload_n 0, 1) := by decide +kernel
theorem dX5_improve_21 : decode cX5_improve 21 = .ok (.getfield 26, 3) := by decide +kernel
theorem dX5_improve_24 : decode cX5_improve 24 = .ok (.aload_n 0, 1) := by decide +kernel
theorem dX5_improve_25 : decode cX5_improve 25 = .ok (.getfield 39, 3) := by decide +kernel
theorem dX5_improve_28 : decode cX5_improve 28 = .ok (.getfield 118, 3) := by decide +kernel
theorem dX5_improve_31 : decode cX5_improve 31 = .ok (.invokevirtual 121, 3) := by decide +kernel
theorem dX5_improve_34 : decode cX5_improve 34 = .ok (.iconst 0, 1) := by decide +kernel
theorem dX5_improve_35 : decode cX5_improve 35 = .ok (.istore_n 2, 1) := by decide +kernel
theorem dX5_improve_36 : decode cX5_improve 36 = .ok (.iconst 0, 1) := by decide +kernel
theorem dX5_improve_37 : decode cX5_improve 37 = .ok (.istore_n 3, 1) := by decide +kernel
theorem dX5_improve_38 : decode cX5_improve 38 = .ok (.iload_n 3, 1) := by decide +kernel
theorem dX5_improve_39 : decode cX5_improve 39 = .ok (.iload_n 1, 1) := by decide +kernel
theorem dX5_improve_40 : decode cX5_improve 40 = .ok (.if_icmp .ge 24, 3) := by decide +kernel
theorem dX5_improve_43 : decode cX5_improve 43 = .ok (.aload_n 0, 1) := by decide +kernel
theorem dX5_improve_44 : decode cX5_improve 44 = .ok (.getfield 39, 3) := by decide +kernel
theorem dX5_improve_47 : decode cX5_improve 47 = .ok (.invokevirtual 164, 3) := by decide +kernel
theorem dX5_improve_50 : decode cX5_improve 50 = .ok (.ifCond .ne 6, 3) := by decide +kernel
theorem dX5_improve_53 : decode cX5_improve 53 = .ok (.goto 11, 3) := by decide +kernel
theorem dX5_improve_56 : decode cX5_improve 56 = .ok (.iconst 1, 1) := by decide +kernel
theorem dX5_improve_57 : decode cX5_improve 57 = .ok (.istore_n 2, 1) := by decide +kernel
theorem dX5_improve_58 : decode cX5_improve 58 = .ok (.iinc 3 1, 3) := by decide +kernel
theorem dX5_improve_61 : decode cX5_improve 61 = .ok (.goto (-23), 3) := by decide +kernel
theorem dX5_improve_64 : decode cX5_improve 64 = .ok (.iload_n 2, 1) := by decide +kernel
theorem dX5_improve_65 : decode cX5_improve 65 = .ok (.ifCond .eq 10, 3) := by decide +kernel
theorem dX5_improve_68 : decode cX5_improve 68 = .ok (.aload_n 0, 1) := by decide +kernel
theorem dX5_improve_69 : decode cX5_improve 69 = .ok (.getfield 26, 3) := by decide +kernel
theorem dX5_improve_72 : decode cX5_improve 72 = .ok (.invokevirtual 128, 3) := by decide +kernel
theorem dX5_improve_75 : decode cX5_improve 75 = .ok (.aload_n 0, 1) := by decide +kernel
theorem dX5_improve_76 : decode cX5_improve 76 = .ok (.getfield 39, 3) := by decide +kernel
theorem dX5_improve_79 : decode cX5_improve 79 = .ok (.invokevirtual 158, 3) := by decide +kernel
theorem dX5_improve_82 : decode cX5_improve 82 = .ok (.ireturn, 1) := by decide +kernel
theorem dX5_absent_0 : decode cX5_absent 0 = .ok (.iload_n 1, 1) := by decide +kernel
theorem dX5_absent_1 : decode cX5_absent 1 = .ok (.iconst 0, 1) := by decide +kernel
theorem dX5_absent_2 : decode cX5_absent 2 = .ok (.bipush 7, 2) := by decide +kernel
theorem dX5_absent_4 : decode cX5_absent 4 = .ok (.invokestatic 32, 3) := by decide +kernel
theorem dX5_absent_7 : decode cX5_absent 7 = .ok (.ifCond .eq 20, 3) := by decide +kernel
theorem dX5_absent_10 : decode cX5_absent 10 = .ok (.iload_n 2, 1) := by decide +kernel
theorem dX5_absent_11 : decode cX5_absent 11 = .ok (.iconst 0, 1) := by decide +kernel
theorem dX5_absent_12 : decode cX5_absent 12 = .ok (.aload_n 0, 1) := by decide +kernel
theorem dX5_absent_13 : decode cX5_absent 13 = .ok (.getfield 39, 3) := by decide +kernel
theorem dX5_absent_16 : decode cX5_absent 16 = .ok (.getfield 168, 3) := by decide +kernel
theorem dX5_absent_19 : decode cX5_absent 19 = .ok (.iconst 1, 1) := by decide +kernel
theorem dX5_absent_20 : decode cX5_absent 20 = .ok (.isub, 1) := by decide +kernel
theorem dX5_absent_21 : decode cX5_absent 21 = .ok (.invokestatic 32, 3) := by decide +kernel
theorem dX5_absent_24 : decode cX5_absent 24 = .ok (.ifCond .ne 13, 3) := by decide +kernel
theorem dX5_absent_27 : decode cX5_absent 27 = .ok (.new 43, 3) := by decide +kernel
theorem dX5_absent_30 : decode cX5_absent 30 = .ok (.dup, 1) := by decide +kernel
theorem dX5_absent_31 : decode cX5_absent 31 = .ok (.ldc 171, 2) := by decide +kernel
theorem dX5_absent_33 : decode cX5_absent 33 = .ok (.invokespecial 47, 3) := by decide +kernel
theorem dX5_absent_36 : decode cX5_absent 36 = .ok (.athrow, 1) := by decide +kernel
theorem dX5_absent_37 : decode cX5_absent 37 = .ok (.aload_n 0, 1) := by decide +kernel
theorem dX5_absent_38 : decode cX5_absent 38 = .ok (.getfield 19, 3) := by decide +kernel
theorem dX5_absent_41 : decode cX5_absent 41 = .ok (.aload_n 0, 1) := by decide +kernel
theorem dX5_absent_42 : decode cX5_absent 42 = .ok (.getfield 39, 3) := by decide +kernel
theorem dX5_absent_45 : decode cX5_absent 45 = .ok (.iload_n 1, 1) := by decide +kernel
theorem dX5_absent_46 : decode cX5_absent 46 = .ok (.iload_n 2, 1) := by decide +kernel
theorem dX5_absent_47 : decode cX5_absent 47 = .ok (.invokevirtual 173, 3) := by decide +kernel
theorem dX5_absent_50 : decode cX5_absent 50 = .ok (.aload_n 0, 1) := by decide +kernel
theorem dX5_absent_51 : decode cX5_absent 51 = .ok (.getfield 19, 3) := by decide +kernel
theorem dX5_absent_54 : decode cX5_absent 54 = .ok (.getfield 177, 3) := by decide +kernel
theorem dX5_absent_57 : decode cX5_absent 57 = .ok (.ireturn, 1) := by decide +kernel
theorem dX5_substitute_0 : decode cX5_substitute 0 = .ok (.iload_n 1, 1) := by decide +kernel
theorem dX5_substitute_1 : decode cX5_substitute 1 = .ok (.iconst 0, 1) := by decide +kernel
theorem dX5_substitute_2 : decode cX5_substitute 2 = .ok (.aload_n 0, 1) := by decide +kernel
theorem dX5_substitute_3 : decode cX5_substitute 3 = .ok (.getfield 19, 3) := by decide +kernel
theorem dX5_substitute_6 : decode cX5_substitute 6 = .ok (.getfield 177, 3) := by decide +kernel
theorem dX5_substitute_9 : decode cX5_substitute 9 = .ok (.iconst 1, 1) := by decide +kernel
theorem dX5_substitute_10 : decode cX5_substitute 10 = .ok (.isub, 1) := by decide +kernel
theorem dX5_substitute_11 : decode cX5_substitute 11 = .ok (.invokestatic 32, 3) := by decide +kernel
theorem dX5_substitute_14 : decode cX5_substitute 14 = .ok (.ifCond .ne 13, 3) := by decide +kernel
theorem dX5_substitute_17 : decode cX5_substitute 17 = .ok (.new 178, 3) := by decide +kernel
theorem dX5_substitute_20 : decode cX5_substitute 20 = .ok (.dup, 1) := by decide +kernel
theorem dX5_substitute_21 : decode cX5_substitute 21 = .ok (.ldc 131, 2) := by decide +kernel
theorem dX5_substitute_23 : decode cX5_substitute 23 = .ok (.invokespecial 180, 3) := by decide +kernel
theorem dX5_substitute_26 : decode cX5_substitute 26 = .ok (.athrow, 1) := by decide +kernel
theorem dX5_substitute_27 : decode cX5_substitute 27 = .ok (.aload_n 0, 1) := by decide +kernel
theorem dX5_substitute_28 : decode cX5_substitute 28 = .ok (.getfield 19, 3) := by decide +kernel
theorem dX5_substitute_31 : decode cX5_substitute 31 = .ok (.getfield 181, 3) := by decide +kernel
theorem dX5_substitute_34 : decode cX5_substitute 34 = .ok (.iload_n 1, 1) := by decide +kernel
theorem dX5_substitute_35 : decode cX5_substitute 35 = .ok (.iaload, 1) := by decide +kernel
theorem dX5_substitute_36 : decode cX5_substitute 36 = .ok (.ireturn, 1) := by decide +kernel
theorem dX5_undo_0 : decode cX5_undo 0 = .ok (.aload_n 0, 1) := by decide +kernel
theorem dX5_undo_1 : decode cX5_undo 1 = .ok (.getfield 26, 3) := by decide +kernel
theorem dX5_undo_4 : decode cX5_undo 4 = .ok (.getfield 184, 3) := by decide +kernel
theorem dX5_undo_7 : decode cX5_undo 7 = .ok (.ifCond .ne 13, 3) := by decide +kernel
theorem dX5_undo_10 : decode cX5_undo 10 = .ok (.new 54, 3) := by decide +kernel
theorem dX5_undo_13 : decode cX5_undo 13 = .ok (.dup, 1) := by decide +kernel
theorem dX5_undo_14 : decode cX5_undo 14 = .ok (.ldc 185, 2) := by decide +kernel
theorem dX5_undo_16 : decode cX5_undo 16 = .ok (.invokespecial 58, 3) := by decide +kernel
theorem dX5_undo_19 : decode cX5_undo 19 = .ok (.athrow, 1) := by decide +kernel
theorem dX5_undo_20 : decode cX5_undo 20 = .ok (.aload_n 0, 1) := by decide +kernel
theorem dX5_undo_21 : decode cX5_undo 21 = .ok (.getfield 26, 3) := by decide +kernel
theorem dX5_undo_24 : decode cX5_undo 24 = .ok (.aload_n 0, 1) := by decide +kernel
theorem dX5_undo_25 : decode cX5_undo 25 = .ok (.getfield 39, 3) := by decide +kernel
theorem dX5_undo_28 : decode cX5_undo 28 = .ok (.getfield 118, 3) := by decide +kernel
theorem dX5_undo_31 : decode cX5_undo 31 = .ok (.invokevirtual 187, 3) := by decide +kernel
theorem dX5_undo_34 : decode cX5_undo 34 = .ok (.aload_n 0, 1) := by decide +kernel
theorem dX5_undo_35 : decode cX5_undo 35 = .ok (.getfield 39, 3) := by decide +kernel
theorem dX5_undo_38 : decode cX5_undo 38 = .ok (.invokevirtual 190, 3) := by decide +kernel
theorem dX5_undo_41 : decode cX5_undo 41 = .ok (.aload_n 0, 1) := by decide +kernel
theorem dX5_undo_42 : decode cX5_undo 42 = .ok (.getfield 26, 3) := by decide +kernel
theorem dX5_undo_45 : decode cX5_undo 45 = .ok (.getfield 184, 3) := by decide +kernel
theorem dX5_undo_48 : decode cX5_undo 48 = .ok (.ireturn, 1) := by decide +kernel
theorem dX5_page_0 : decode cX5_page 0 = .ok (.iload_n 1, 1) := by decide +kernel
theorem dX5_page_1 : decode cX5_page 1 = .ok (.iload_n 2, 1) := by decide +kernel
theorem dX5_page_2 : decode cX5_page 2 = .ok (.invokestatic 86, 3) := by decide +kernel
theorem dX5_page_5 : decode cX5_page 5 = .ok (.ifCond .ne 13, 3) := by decide +kernel
theorem dX5_page_8 : decode cX5_page 8 = .ok (.new 43, 3) := by decide +kernel
theorem dX5_page_11 : decode cX5_page 11 = .ok (.dup, 1) := by decide +kernel
theorem dX5_page_12 : decode cX5_page 12 = .ok (.ldc 193, 2) := by decide +kernel
theorem dX5_page_14 : decode cX5_page 14 = .ok (.invokespecial 47, 3) := by decide +kernel
theorem dX5_page_17 : decode cX5_page 17 = .ok (.athrow, 1) := by decide +kernel
theorem dX5_page_18 : decode cX5_page 18 = .ok (.aload_n 0, 1) := by decide +kernel
theorem dX5_page_19 : decode cX5_page 19 = .ok (.getfield 39, 3) := by decide +kernel
theorem dX5_page_22 : decode cX5_page 22 = .ok (.getfield 195, 3) := by decide +kernel
theorem dX5_page_25 : decode cX5_page 25 = .ok (.iconst 1, 1) := by decide +kernel
theorem dX5_page_26 : decode cX5_page 26 = .ok (.iadd, 1) := by decide +kernel
theorem dX5_page_27 : decode cX5_page 27 = .ok (.istore 4, 2) := by decide +kernel
theorem dX5_page_29 : decode cX5_page 29 = .ok (.iload_n 3, 1) := by decide +kernel
theorem dX5_page_30 : decode cX5_page 30 = .ok (.iconst 0, 1) := by decide +kernel
theorem dX5_page_31 : decode cX5_page 31 = .ok (.aload_n 0, 1) := by decide +kernel
theorem dX5_page_32 : decode cX5_page 32 = .ok (.getfield 39, 3) := by decide +kernel
theorem dX5_page_35 : decode cX5_page 35 = .ok (.getfield 168, 3) := by decide +kernel
theorem dX5_page_38 : decode cX5_page 38 = .ok (.iload 4, 2) := by decide +kernel
theorem dX5_page_40 : decode cX5_page 40 = .ok (.imul, 1) := by decide +kernel
theorem dX5_page_41 : decode cX5_page 41 = .ok (.iconst 1, 1) := by decide +kernel
theorem dX5_page_42 : decode cX5_page 42 = .ok (.isub, 1) := by decide +kernel
theorem dX5_page_43 : decode cX5_page 43 = .ok (.invokestatic 32, 3) := by decide +kernel
theorem dX5_page_46 : decode cX5_page 46 = .ok (.ifCond .ne 13, 3) := by decide +kernel
theorem dX5_page_49 : decode cX5_page 49 = .ok (.new 178, 3) := by decide +kernel
theorem dX5_page_52 : decode cX5_page 52 = .ok (.dup, 1) := by decide +kernel
theorem dX5_page_53 : decode cX5_page 53 = .ok (.ldc 198, 2) := by decide +kernel
theorem dX5_page_55 : decode cX5_page 55 = .ok (.invokespecial 180, 3) := by decide +kernel
theorem dX5_page_58 : decode cX5_page 58 = .ok (.athrow, 1) := by decide +kernel
theorem dX5_page_59 : decode cX5_page 59 = .ok (.iload_n 3, 1) := by decide +kernel
theorem dX5_page_60 : decode cX5_page 60 = .ok (.iload 4, 2) := by decide +kernel
theorem dX5_page_62 : decode cX5_page 62 = .ok (.irem, 1) := by decide +kernel
theorem dX5_page_63 : decode cX5_page 63 = .ok (.istore 5, 2) := by decide +kernel
theorem dX5_page_65 : decode cX5_page 65 = .ok (.iload 5, 2) := by decide +kernel
theorem dX5_page_67 : decode cX5_page 67 = .ok (.aload_n 0, 1) := by decide +kernel
theorem dX5_page_68 : decode cX5_page 68 = .ok (.getfield 39, 3) := by decide +kernel
theorem dX5_page_71 : decode cX5_page 71 = .ok (.getfield 195, 3) := by decide +kernel
theorem dX5_page_74 : decode cX5_page 74 = .ok (.if_icmp .ne 6, 3) := by decide +kernel
theorem dX5_page_77 : decode cX5_page 77 = .ok (.bipush 10, 2) := by decide +kernel
theorem dX5_page_79 : decode cX5_page 79 = .ok (.ireturn, 1) := by decide +kernel
theorem dX5_page_80 : decode cX5_page 80 = .ok (.aload_n 0, 1) := by decide +kernel
theorem dX5_page_81 : decode cX5_page 81 = .ok (.getfield 39, 3) := by decide +kernel
theorem dX5_page_84 : decode cX5_page 84 = .ok (.iload_n 1, 1) := by decide +kernel
theorem dX5_page_85 : decode cX5_page 85 = .ok (.iload_n 2, 1) := by decide +kernel
theorem dX5_page_86 : decode cX5_page 86 = .ok (.invokestatic 95, 3) := by decide +kernel
theorem dX5_page_89 : decode cX5_page 89 = .ok (.iload_n 3, 1) := by decide +kernel
theorem dX5_page_90 : decode cX5_page 90 = .ok (.iload 4, 2) := by decide +kernel
theorem dX5_page_92 : decode cX5_page 92 = .ok (.idiv, 1) := by decide +kernel
theorem dX5_page_93 : decode cX5_page 93 = .ok (.aload_n 0, 1) := by decide +kernel
theorem dX5_page_94 : decode cX5_page 94 = .ok (.getfield 39, 3) := by decide +kernel
theorem dX5_page_97 : decode cX5_page 97 = .ok (.getfield 195, 3) := by decide +kernel
theorem dX5_page_100 : decode cX5_page 100 = .ok (.imul, 1) := by decide +kernel
theorem dX5_page_101 : decode cX5_page 101 = .ok (.iload 5, 2) := by decide +kernel
theorem dX5_page_103 : decode cX5_page 103 = .ok (.iadd, 1) := by decide +kernel
theorem dX5_page_104 : decode cX5_page 104 = .ok (.invokevirtual 200, 3) := by decide +kernel
theorem dX5_page_107 : decode cX5_page 107 = .ok (.ireturn, 1) := by decide +kernel
theorem dX5_isWithin_0 : decode cX5_isWithin 0 = .ok (.iload_n 0, 1) := by decide +kernel
theorem dX5_isWithin_1 : decode cX5_isWithin 1 = .ok (.iload_n 1, 1) := by decide +kernel
theorem dX5_isWithin_2 : decode cX5_isWithin 2 = .ok (.if_icmp .lt 12, 3) := by decide +kernel
theorem dX5_isWithin_5 : decode cX5_isWithin 5 = .ok (.iload_n 0, 1) := by decide +kernel
theorem dX5_isWithin_6 : decode cX5_isWithin 6 = .ok (.iload_n 2, 1) := by decide +kernel
theorem dX5_isWithin_7 : decode cX5_isWithin 7 = .ok (.if_icmp .gt 7, 3) := by decide +kernel
theorem dX5_isWithin_10 : decode cX5_isWithin 10 = .ok (.iconst 1, 1) := by decide +kernel
theorem dX5_isWithin_11 : decode cX5_isWithin 11 = .ok (.goto 4, 3) := by decide +kernel
theorem dX5_isWithin_14 : decode cX5_isWithin 14 = .ok (.iconst 0, 1) := by decide +kernel
theorem dX5_isWithin_15 : decode cX5_isWithin 15 = .ok (.ireturn, 1) := by decide +kernel
theorem dX5_isUser_0 : decode cX5_isUser 0 = .ok (.iload_n 0, 1) := by decide +kernel
theorem dX5_isUser_1 : decode cX5_isUser 1 = .ok (.tableswitch 50 0 2 #[27, 35, 43], 27) := by decide +kernel
theorem dX5_isUser_28 : decode cX5_isUser 28 = .ok (.iload_n 1, 1) := by decide +kernel
theorem dX5_isUser_29 : decode cX5_isUser 29 = .ok (.iconst 0, 1) := by decide +kernel
theorem dX5_isUser_30 : decode cX5_isUser 30 = .ok (.bipush 7, 2) := by decide +kernel
theorem dX5_isUser_32 : decode cX5_isUser 32 = .ok (.invokestatic 32, 3) := by decide +kernel
theorem dX5_isUser_35 : decode cX5_isUser 35 = .ok (.ireturn, 1) := by decide +kernel
theorem dX5_isUser_36 : decode cX5_isUser 36 = .ok (.iload_n 1, 1) := by decide +kernel
theorem dX5_isUser_37 : decode cX5_isUser 37 = .ok (.iconst 0, 1) := by decide +kernel
theorem dX5_isUser_38 : decode cX5_isUser 38 = .ok (.bipush 7, 2) := by decide +kernel
theorem dX5_isUser_40 : decode cX5_isUser 40 = .ok (.invokestatic 32, 3) := by decide +kernel
theorem dX5_isUser_43 : decode cX5_isUser 43 = .ok (.ireturn, 1) := by decide +kernel
theorem dX5_isUser_44 : decode cX5_isUser 44 = .ok (.iload_n 1, 1) := by decide +kernel
theorem dX5_isUser_45 : decode cX5_isUser 45 = .ok (.iconst 0, 1) := by decide +kernel
theorem dX5_isUser_46 : decode cX5_isUser 46 = .ok (.iconst 5, 1) := by decide +kernel
theorem dX5_isUser_47 : decode cX5_isUser 47 = .ok (.invokestatic 32, 3) := by decide +kernel
theorem dX5_isUser_50 : decode cX5_isUser 50 = .ok (.ireturn, 1) := by decide +kernel
theorem dX5_isUser_51 : decode cX5_isUser 51 = .ok (.iconst 0, 1) := by decide +kernel
theorem dX5_isUser_52 : decode cX5_isUser 52 = .ok (.ireturn, 1) := by decide +kernel
theorem dX5_userOf_0 : decode cX5_userOf 0 = .ok (.iload_n 0, 1) := by decide +kernel
theorem dX5_userOf_1 : decode cX5_userOf 1 = .ok (.iconst 2, 1) := by decide +kernel
theorem dX5_userOf_2 : decode cX5_userOf 2 = .ok (.if_icmp .ne 8, 3) := by decide +kernel
theorem dX5_userOf_5 : decode cX5_userOf 5 = .ok (.bipush 16, 2) := by decide +kernel
theorem dX5_userOf_7 : decode cX5_userOf 7 = .ok (.iload_n 1, 1) := by decide +kernel
theorem dX5_userOf_8 : decode cX5_userOf 8 = .ok (.iadd, 1) := by decide +kernel
theorem dX5_userOf_9 : decode cX5_userOf 9 = .ok (.ireturn, 1) := by decide +kernel
theorem dX5_userOf_10 : decode cX5_userOf 10 = .ok (.iload_n 0, 1) := by decide +kernel
theorem dX5_userOf_11 : decode cX5_userOf 11 = .ok (.iconst 1, 1) := by decide +kernel
theorem dX5_userOf_12 : decode cX5_userOf 12 = .ok (.if_icmp .ne 10, 3) := by decide +kernel
theorem dX5_userOf_15 : decode cX5_userOf 15 = .ok (.bipush 8, 2) := by decide +kernel
theorem dX5_userOf_17 : decode cX5_userOf 17 = .ok (.iload_n 1, 1) := by decide +kernel
theorem dX5_userOf_18 : decode cX5_userOf 18 = .ok (.iadd, 1) := by decide +kernel
theorem dX5_userOf_19 : decode cX5_userOf 19 = .ok (.goto 4, 3) := by decide +kernel
theorem dX5_userOf_22 : decode cX5_userOf 22 = .ok (.iload_n 1, 1) := by decide +kernel
theorem dX5_userOf_23 : decode cX5_userOf 23 = .ok (.ireturn, 1) := by decide +kernel
theorem dX5_itemOf_0 : decode cX5_itemOf 0 = .ok (.iload_n 0, 1) := by decide +kernel
theorem dX5_itemOf_1 : decode cX5_itemOf 1 = .ok (.iconst 4, 1) := by decide +kernel
theorem dX5_itemOf_2 : decode cX5_itemOf 2 = .ok (.imul, 1) := by decide +kernel
theorem dX5_itemOf_3 : decode cX5_itemOf 3 = .ok (.iload_n 1, 1) := by decide +kernel
theorem dX5_itemOf_4 : decode cX5_itemOf 4 = .ok (.iadd, 1) := by decide +kernel
theorem dX5_itemOf_5 : decode cX5_itemOf 5 = .ok (.ireturn, 1) := by decide +kernel
theorem dX5_lessonOf_0 : decode cX5_lessonOf 0 = .ok (.iload_n 0, 1) := by decide +kernel
theorem dX5_lessonOf_1 : decode cX5_lessonOf 1 = .ok (.iconst 4, 1) := by decide +kernel
theorem dX5_lessonOf_2 : decode cX5_lessonOf 2 = .ok (.idiv, 1) := by decide +kernel
theorem dX5_lessonOf_3 : decode cX5_lessonOf 3 = .ok (.ireturn, 1) := by decide +kernel
theorem dX6_init_0 : decode cX6_init 0 = .ok (.aload_n 0, 1) := by decide +kernel
theorem dX6_init_1 : decode cX6_init 1 = .ok (.invokespecial 1, 3) := by decide +kernel
theorem dX6_init_4 : decode cX6_init 4 = .ok (.aload_n 0, 1) := by decide +kernel
theorem dX6_init_5 : decode cX6_init 5 = .ok (.bipush 6, 2) := by decide +kernel
theorem dX6_init_7 : decode cX6_init 7 = .ok (.newarray .int, 2) := by decide +kernel
theorem dX6_init_9 : decode cX6_init 9 = .ok (.putfield 7, 3) := by decide +kernel
theorem dX6_init_12 : decode cX6_init 12 = .ok (.aload_n 0, 1) := by decide +kernel
theorem dX6_init_13 : decode cX6_init 13 = .ok (.bipush 16, 2) := by decide +kernel
theorem dX6_init_15 : decode cX6_init 15 = .ok (.newarray .int, 2) := by decide +kernel
theorem dX6_init_17 : decode cX6_init 17 = .ok (.putfield 13, 3) := by decide +kernel
theorem dX6_init_20 : decode cX6_init 20 = .ok (.aload_n 0, 1) := by decide +kernel
theorem dX6_init_21 : decode cX6_init 21 = .ok (.bipush 16, 2) := by decide +kernel
theorem dX6_init_23 : decode cX6_init 23 = .ok (.newarray .int, 2) := by decide +kernel
theorem dX6_init_25 : decode cX6_init 25 = .ok (.putfield 16, 3) := by decide +kernel
theorem dX6_init_28 : decode cX6_init 28 = .ok (.aload_n 0, 1) := by decide +kernel
theorem dX6_init_29 : decode cX6_init 29 = .ok (.bipush 16, 2) := by decide +kernel
theorem dX6_init_31 : decode cX6_init 31 = .ok (.newarray .int, 2) := by decide +kernel
theorem dX6_init_33 : decode cX6_init 33 = .ok (.putfield 19, 3) := by decide +kernel
theorem dX6_init_36 : decode cX6_init 36 = .ok (.aload_n 0, 1) := by decide +kernel
theorem dX6_init_37 : decode cX6_init 37 = .ok (.bipush 16, 2) := by decide +kernel
theorem dX6_init_39 : decode cX6_init 39 = .ok (.newarray .int, 2) := by decide +kernel
theorem dX6_init_41 : decode cX6_init 41 = .ok (.putfield 22, 3) := by decide +kernel
theorem dX6_init_44 : decode cX6_init 44 = .ok (.aload_n 0, 1) := by decide +kernel
theorem dX6_init_45 : decode cX6_init 45 = .ok (.bipush 16, 2) := by decide +kernel
theorem dX6_init_47 : decode cX6_init 47 = .ok (.newarray .int, 2) := by decide +kernel
theorem dX6_init_49 : decode cX6_init 49 = .ok (.putfield 25, 3) := by decide +kernel
theorem dX6_init_52 : decode cX6_init 52 = .ok (.aload_n 0, 1) := by decide +kernel
theorem dX6_init_53 : decode cX6_init 53 = .ok (.bipush 16, 2) := by decide +kernel
theorem dX6_init_55 : decode cX6_init 55 = .ok (.newarray .int, 2) := by decide +kernel
theorem dX6_init_57 : decode cX6_init 57 = .ok (.putfield 28, 3) := by decide +kernel
theorem dX6_init_60 : decode cX6_init 60 = .ok (.aload_n 0, 1) := by decide +kernel
theorem dX6_init_61 : decode cX6_init 61 = .ok (.bipush 16, 2) := by decide +kernel
theorem dX6_init_63 : decode cX6_init 63 = .ok (.newarray .int, 2) := by decide +kernel
theorem dX6_init_65 : decode cX6_init 65 = .ok (.putfield 31, 3) := by decide +kernel
theorem dX6_init_68 : decode cX6_init 68 = .ok (.aload_n 0, 1) := by decide +kernel
theorem dX6_init_69 : decode cX6_init 69 = .ok (.bipush 64, 2) := by decide +kernel
theorem dX6_init_71 : decode cX6_init 71 = .ok (.newarray .int, 2) := by decide +kernel
theorem dX6_init_73 : decode cX6_init 73 = .ok (.putfield 34, 3) := by decide +kernel
theorem dX6_init_76 : decode cX6_init 76 = .ok (.aload_n 0, 1) := by decide +kernel
theorem dX6_init_77 : decode cX6_init 77 = .ok (.bipush 64, 2) := by decide +kernel
theorem dX6_init_79 : decode cX6_init 79 = .ok (.newarray .int, 2) := by decide +kernel
theorem dX6_init_81 : decode cX6_init 81 = .ok (.putfield 37, 3) := by decide +kernel
theorem dX6_init_84 : decode cX6_init 84 = .ok (.aload_n 0, 1) := by decide +kernel
theorem dX6_init_85 : decode cX6_init 85 = .ok (.sipush 660, 3) := by decide +kernel
theorem dX6_init_88 : decode cX6_init 88 = .ok (.newarray .boolean, 2) := by decide +kernel
theorem dX6_init_90 : decode cX6_init 90 = .ok (.putfield 40, 3) := by decide +kernel
theorem dX6_init_93 : decode cX6_init 93 = .ok (.aload_n 0, 1) := by decide +kernel
theorem dX6_init_94 : decode cX6_init 94 = .ok (.bipush 64, 2) := by decide +kernel
theorem dX6_init_96 : decode cX6_init 96 = .ok (.newarray .int, 2) := by decide +kernel
theorem dX6_init_98 : decode cX6_init 98 = .ok (.putfield 44, 3) := by decide +kernel
theorem dX6_init_101 : decode cX6_init 101 = .ok (.aload_n 0, 1) := by decide +kernel
theorem dX6_init_102 : decode cX6_init 102 = .ok (.bipush 64, 2) := by decide +kernel
theorem dX6_init_104 : decode cX6_init 104 = .ok (.newarray .int, 2) := by decide +kernel
theorem dX6_init_106 : decode cX6_init 106 = .ok (.putfield 47, 3) := by decide +kernel
theorem dX6_init_109 : decode cX6_init 109 = .ok (.aload_n 0, 1) := by decide +kernel
theorem dX6_init_110 : decode cX6_init 110 = .ok (.bipush 64, 2) := by decide +kernel
theorem dX6_init_112 : decode cX6_init 112 = .ok (.newarray .int, 2) := by decide +kernel
theorem dX6_init_114 : decode cX6_init 114 = .ok (.putfield 50, 3) := by decide +kernel
theorem dX6_init_117 : decode cX6_init 117 = .ok (.aload_n 0, 1) := by decide +kernel
theorem dX6_init_118 : decode cX6_init 118 = .ok (.sipush 1280, 3) := by decide +kernel
theorem dX6_init_121 : decode cX6_init 121 = .ok (.newarray .int, 2) := by decide +kernel
theorem dX6_init_123 : decode cX6_init 123 = .ok (.putfield 53, 3) := by decide +kernel
theorem dX6_init_126 : decode cX6_init 126 = .ok (.aload_n 0, 1) := by decide +kernel
theorem dX6_init_127 : decode cX6_init 127 = .ok (.sipush 1280, 3) := by decide +kernel
theorem dX6_init_130 : decode cX6_init 130 = .ok (.newarray .int, 2) := by decide +kernel
theorem dX6_init_132 : decode cX6_init 132 = .ok (.putfield 56, 3) := by decide +kernel
theorem dX6_init_135 : decode cX6_init 135 = .ok (.aload_n 0, 1) := by decide +kernel
theorem dX6_init_136 : decode cX6_init 136 = .ok (.bipush 64, 2) := by decide +kernel
theorem dX6_init_138 : decode cX6_init 138 = .ok (.newarray .int, 2) := by decide +kernel
theorem dX6_init_140 : decode cX6_init 140 = .ok (.putfield 59, 3) := by decide +kernel
theorem dX6_init_143 : decode cX6_init 143 = .ok (.aload_n 0, 1) := by decide +kernel
theorem dX6_init_144 : decode cX6_init 144 = .ok (.iload_n 1, 1) := by decide +kernel
theorem dX6_init_145 : decode cX6_init 145 = .ok (.iconst 1, 1) := by decide +kernel
theorem dX6_init_146 : decode cX6_init 146 = .ok (.if_icmp .lt 8, 3) := by decide +kernel
theorem dX6_init_149 : decode cX6_init 149 = .ok (.iload_n 1, 1) := by decide +kernel
theorem dX6_init_150 : decode cX6_init 150 = .ok (.iconst 5, 1) := by decide +kernel
theorem dX6_init_151 : decode cX6_init 151 = .ok (.if_icmp .le 7, 3) := by decide +kernel
theorem dX6_init_154 : decode cX6_init 154 = .ok (.iconst 5, 1) := by decide +kernel
theorem dX6_init_155 : decode cX6_init 155 = .ok (.goto 4, 3) := by decide +kernel
theorem dX6_init_158 : decode cX6_init 158 = .ok (.iload_n 1, 1) := by decide +kernel
theorem dX6_init_159 : decode cX6_init 159 = .ok (.putfield 62, 3) := by decide +kernel
theorem dX6_init_162 : decode cX6_init 162 = .ok (.aload_n 0, 1) := by decide +kernel
theorem dX6_init_163 : decode cX6_init 163 = .ok (.iload_n 2, 1) := by decide +kernel
theorem dX6_init_164 : decode cX6_init 164 = .ok (.iconst 1, 1) := by decide +kernel
theorem dX6_init_165 : decode cX6_init 165 = .ok (.if_icmp .lt 9, 3) := by decide +kernel
theorem dX6_init_168 : decode cX6_init 168 = .ok (.iload_n 2, 1) := by decide +kernel
theorem dX6_init_169 : decode cX6_init 169 = .ok (.bipush 6, 2) := by decide +kernel
theorem dX6_init_171 : decode cX6_init 171 = .ok (.if_icmp .le 8, 3) := by decide +kernel
theorem dX6_init_174 : decode cX6_init 174 = .ok (.bipush 6, 2) := by decide +kernel
theorem dX6_init_176 : decode cX6_init 176 = .ok (.goto 4, 3) := by decide +kernel
theorem dX6_init_179 : decode cX6_init 179 = .ok (.iload_n 2, 1) := by decide +kernel
theorem dX6_init_180 : decode cX6_init 180 = .ok (.putfield 66, 3) := by decide +kernel
theorem dX6_init_183 : decode cX6_init 183 = .ok (.iconst 0, 1) := by decide +kernel
theorem dX6_init_184 : decode cX6_init 184 = .ok (.istore_n 3, 1) := by decide +kernel
theorem dX6_init_185 : decode cX6_init 185 = .ok (.iload_n 3, 1) := by decide +kernel
theorem dX6_init_186 : decode cX6_init 186 = .ok (.bipush 64, 2) := by decide +kernel
theorem dX6_init_188 : decode cX6_init 188 = .ok (.if_icmp .ge 23, 3) := by decide +kernel
theorem dX6_init_191 : decode cX6_init 191 = .ok (.aload_n 0, 1) := by decide +kernel
theorem dX6_init_192 : decode cX6_init 192 = .ok (.getfield 34, 3) := by decide +kernel
theorem dX6_init_195 : decode cX6_init 195 = .ok (.iload_n 3, 1) := by decide +kernel
theorem dX6_init_196 : decode cX6_init 196 = .ok (.iconst (-1), 1) := by decide +kernel
theorem dX6_init_197 : decode cX6_init 197 = .ok (.iastore, 1) := by decide +kernel
theorem dX6_init_198 : decode cX6_init 198 = .ok (.aload_n 0, 1) := by decide +kernel
theorem dX6_init_199 : decode cX6_init 199 = .ok (.getfield 37, 3) := by decide +kernel
theorem dX6_init_202 : decode cX6_init 202 = .ok (.iload_n 3, 1) := by decide +kernel
theorem dX6_init_203 : decode cX6_init 203 = .ok (.iconst (-1), 1) := by decide +kernel
theorem dX6_init_204 : decode cX6_init 204 = .ok (.iastore, 1) := by decide +kernel
theorem dX6_init_205 : decode cX6_init 205 = .ok (.iinc 3 1, 3) := by decide +kernel
theorem dX6_init_208 : decode cX6_init 208 = .ok (.goto (-23), 3) := by decide +kernel
theorem dX6_init_211 : decode cX6_init 211 = .ok (.return_, 1) := by decide +kernel
theorem dX6_thrown_0 : decode cX6_thrown 0 = .ok (.aload_n 0, 1) := by decide +kernel
theorem dX6_thrown_1 : decode cX6_thrown 1 = .ok (.getfield 69, 3) := by decide +kernel
theorem dX6_thrown_4 : decode cX6_thrown 4 = .ok (.ireturn, 1) := by decide +kernel
theorem dX6_throwing_0 : decode cX6_throwing 0 = .ok (.aload_n 0, 1) := by decide +kernel
theorem dX6_throwing_1 : decode cX6_throwing 1 = .ok (.iload_n 1, 1) := by decide +kernel
theorem dX6_throwing_2 : decode cX6_throwing 2 = .ok (.ifCond .eq 7, 3) := by decide +kernel
theorem dX6_throwing_5 : decode cX6_throwing 5 = .ok (.iconst 1, 1) := by decide +kernel
theorem dX6_throwing_6 : decode cX6_throwing 6 = .ok (.goto 12, 3) := by decide +kernel
theorem dX6_throwing_9 : decode cX6_throwing 9 = .ok (.iload_n 2, 1) := by decide +kernel
theorem dX6_throwing_10 : decode cX6_throwing 10 = .ok (.ifCond .eq 7, 3) := by decide +kernel
theorem dX6_throwing_13 : decode cX6_throwing 13 = .ok (.iconst 2, 1) := by decide +kernel
theorem dX6_throwing_14 : decode cX6_throwing 14 = .ok (.goto 4, 3) := by decide +kernel
theorem dX6_throwing_17 : decode cX6_throwing 17 = .ok (.iconst 0, 1) := by decide +kernel
theorem dX6_throwing_18 : decode cX6_throwing 18 = .ok (.putfield 69, 3) := by decide +kernel
theorem dX6_throwing_21 : decode cX6_throwing 21 = .ok (.aload_n 0, 1) := by decide +kernel
theorem dX6_throwing_22 : decode cX6_throwing 22 = .ok (.getfield 69, 3) := by decide +kernel
theorem dX6_throwing_25 : decode cX6_throwing 25 = .ok (.ifCond .le 7, 3) := by decide +kernel
theorem dX6_throwing_28 : decode cX6_throwing 28 = .ok (.iconst 1, 1) := by decide +kernel
theorem dX6_throwing_29 : decode cX6_throwing 29 = .ok (.goto 4, 3) := by decide +kernel
theorem dX6_throwing_32 : decode cX6_throwing 32 = .ok (.iconst 0, 1) := by decide +kernel
theorem dX6_throwing_33 : decode cX6_throwing 33 = .ok (.ireturn, 1) := by decide +kernel
theorem dX6_in_0 : decode cX6_in 0 = .ok (.iload_n 0, 1) := by decide +kernel
theorem dX6_in_1 : decode cX6_in 1 = .ok (.iload_n 1, 1) := by decide +kernel
theorem dX6_in_2 : decode cX6_in 2 = .ok (.if_icmp .lt 12, 3) := by decide +kernel
theorem dX6_in_5 : decode cX6_in 5 = .ok (.iload_n 0, 1) := by decide +kernel
theorem dX6_in_6 : decode cX6_in 6 = .ok (.iload_n 2, 1) := by decide +kernel
theorem dX6_in_7 : decode cX6_in 7 = .ok (.if_icmp .gt 7, 3) := by decide +kernel
theorem dX6_in_10 : decode cX6_in 10 = .ok (.iconst 1, 1) := by decide +kernel
theorem dX6_in_11 : decode cX6_in 11 = .ok (.goto 4, 3) := by decide +kernel
theorem dX6_in_14 : decode cX6_in 14 = .ok (.iconst 0, 1) := by decide +kernel
theorem dX6_in_15 : decode cX6_in 15 = .ok (.ireturn, 1) := by decide +kernel
theorem dX6_isPeriod_0 : decode cX6_isPeriod 0 = .ok (.iload_n 1, 1) := by decide +kernel
theorem dX6_isPeriod_1 : decode cX6_isPeriod 1 = .ok (.iconst 0, 1) := by decide +kernel
theorem dX6_isPeriod_2 : decode cX6_isPeriod 2 = .ok (.aload_n 0, 1) := by decide +kernel
theorem dX6_isPeriod_3 : decode cX6_isPeriod 3 = .ok (.getfield 62, 3) := by decide +kernel
theorem dX6_isPeriod_6 : decode cX6_isPeriod 6 = .ok (.aload_n 0, 1) := by decide +kernel
theorem dX6_isPeriod_7 : decode cX6_isPeriod 7 = .ok (.getfield 66, 3) := by decide +kernel
theorem dX6_isPeriod_10 : decode cX6_isPeriod 10 = .ok (.imul, 1) := by decide +kernel
theorem dX6_isPeriod_11 : decode cX6_isPeriod 11 = .ok (.iconst 1, 1) := by decide +kernel
theorem dX6_isPeriod_12 : decode cX6_isPeriod 12 = .ok (.isub, 1) := by decide +kernel
theorem dX6_isPeriod_13 : decode cX6_isPeriod 13 = .ok (.invokestatic 72, 3) := by decide +kernel
theorem dX6_isPeriod_16 : decode cX6_isPeriod 16 = .ok (.ireturn, 1) := by decide +kernel
theorem dX6_isItem_0 : decode cX6_isItem 0 = .ok (.iload_n 1, 1) := by decide +kernel
theorem dX6_isItem_1 : decode cX6_isItem 1 = .ok (.iconst 0, 1) := by decide +kernel
theorem dX6_isItem_2 : decode cX6_isItem 2 = .ok (.aload_n 0, 1) := by decide +kernel
theorem dX6_isItem_3 : decode cX6_isItem 3 = .ok (.getfield 76, 3) := by decide +kernel
theorem dX6_isItem_6 : decode cX6_isItem 6 = .ok (.iconst 1, 1) := by decide +kernel
theorem dX6_isItem_7 : decode cX6_isItem 7 = .ok (.isub, 1) := by decide +kernel
theorem dX6_isItem_8 : decode cX6_isItem 8 = .ok (.invokestatic 72, 3) := by decide +kernel
theorem dX6_isItem_11 : decode cX6_isItem 11 = .ok (.ifCond .eq 23, 3) := by decide +kernel
theorem dX6_isItem_14 : decode cX6_isItem 14 = .ok (.iload_n 2, 1) := by decide +kernel
theorem dX6_isItem_15 : decode cX6_isItem 15 = .ok (.iconst 0, 1) := by decide +kernel
theorem dX6_isItem_16 : decode cX6_isItem 16 = .ok (.aload_n 0, 1) := by decide +kernel
theorem dX6_isItem_17 : decode cX6_isItem 17 = .ok (.getfield 28, 3) := by decide +kernel
theorem dX6_isItem_20 : decode cX6_isItem 20 = .ok (.iload_n 1, 1) := by decide +kernel
theorem dX6_isItem_21 : decode cX6_isItem 21 = .ok (.iaload, 1) := by decide +kernel
theorem dX6_isItem_22 : decode cX6_isItem 22 = .ok (.iconst 1, 1) := by decide +kernel
theorem dX6_isItem_23 : decode cX6_isItem 23 = .ok (.isub, 1) := by decide +kernel
theorem dX6_isItem_24 : decode cX6_isItem 24 = .ok (.invokestatic 72, 3) := by decide +kernel
theorem dX6_isItem_27 : decode cX6_isItem 27 = .ok (.ifCond .eq 7, 3) := by decide +kernel
theorem dX6_isItem_30 : decode cX6_isItem 30 = .ok (.iconst 1, 1) := by decide +kernel
theorem dX6_isItem_31 : decode cX6_isItem 31 = .ok (.goto 4, 3) := by decide +kernel
theorem dX6_isItem_34 : decode cX6_isItem 34 = .ok (.iconst 0, 1) := by decide +kernel
theorem dX6_isItem_35 : decode cX6_isItem 35 = .ok (.ireturn, 1) := by decide +kernel
theorem dX6_lessonOf_0 : decode cX6_lessonOf 0 = .ok (.iload_n 0, 1) := by decide +kernel
theorem dX6_lessonOf_1 : decode cX6_lessonOf 1 = .ok (.iconst 4, 1) := by decide +kernel
theorem dX6_lessonOf_2 : decode cX6_lessonOf 2 = .ok (.idiv, 1) := by decide +kernel
theorem dX6_lessonOf_3 : decode cX6_lessonOf 3 = .ok (.ireturn, 1) := by decide +kernel
theorem dX6_covers_0 : decode cX6_covers 0 = .ok (.aload_n 0, 1) := by decide +kernel
theorem dX6_covers_1 : decode cX6_covers 1 = .ok (.getfield 34, 3) := by decide +kernel
theorem dX6_covers_4 : decode cX6_covers 4 = .ok (.iload_n 1, 1) := by decide +kernel
theorem dX6_covers_5 : decode cX6_covers 5 = .ok (.iaload, 1) := by decide +kernel
theorem dX6_covers_6 : decode cX6_covers 6 = .ok (.ifCond .lt 38, 3) := by decide +kernel
theorem dX6_covers_9 : decode cX6_covers 9 = .ok (.iload_n 2, 1) := by decide +kernel
theorem dX6_covers_10 : decode cX6_covers 10 = .ok (.aload_n 0, 1) := by decide +kernel
theorem dX6_covers_11 : decode cX6_covers 11 = .ok (.getfield 34, 3) := by decide +kernel
theorem dX6_covers_14 : decode cX6_covers 14 = .ok (.iload_n 1, 1) := by decide +kernel
theorem dX6_covers_15 : decode cX6_covers 15 = .ok (.iaload, 1) := by decide +kernel
theorem dX6_covers_16 : decode cX6_covers 16 = .ok (.aload_n 0, 1) := by decide +kernel
theorem dX6_covers_17 : decode cX6_covers 17 = .ok (.getfield 34, 3) := by decide +kernel
theorem dX6_covers_20 : decode cX6_covers 20 = .ok (.iload_n 1, 1) := by decide +kernel
theorem dX6_covers_21 : decode cX6_covers 21 = .ok (.iaload, 1) := by decide +kernel
theorem dX6_covers_22 : decode cX6_covers 22 = .ok (.aload_n 0, 1) := by decide +kernel
theorem dX6_covers_23 : decode cX6_covers 23 = .ok (.getfield 25, 3) := by decide +kernel
theorem dX6_covers_26 : decode cX6_covers 26 = .ok (.iload_n 1, 1) := by decide +kernel
theorem dX6_covers_27 : decode cX6_covers 27 = .ok (.invokestatic 79, 3) := by decide +kernel
theorem dX6_covers_30 : decode cX6_covers 30 = .ok (.iaload, 1) := by decide +kernel
theorem dX6_covers_31 : decode cX6_covers 31 = .ok (.iadd, 1) := by decide +kernel
theorem dX6_covers_32 : decode cX6_covers 32 = .ok (.iconst 1, 1) := by decide +kernel
theorem dX6_covers_33 : decode cX6_covers 33 = .ok (.isub, 1) := by decide +kernel
theorem dX6_covers_34 : decode cX6_covers 34 = .ok (.invokestatic 72, 3) := by decide +kernel
theorem dX6_covers_37 : decode cX6_covers 37 = .ok (.ifCond .eq 7, 3) := by decide +kernel
theorem dX6_covers_40 : decode cX6_covers 40 = .ok (.iconst 1, 1) := by decide +kernel
theorem dX6_covers_41 : decode cX6_covers 41 = .ok (.goto 4, 3) := by decide +kernel
theorem dX6_covers_44 : decode cX6_covers 44 = .ok (.iconst 0, 1) := by decide +kernel
theorem dX6_covers_45 : decode cX6_covers 45 = .ok (.ireturn, 1) := by decide +kernel
theorem dX6_isOf_0 : decode cX6_isOf 0 = .ok (.iload_n 1, 1) := by decide +kernel
theorem dX6_isOf_1 : decode cX6_isOf 1 = .ok (.invokestatic 79, 3) := by decide +kernel
theorem dX6_isOf_4 : decode cX6_isOf 4 = .ok (.istore 4, 2) := by decide +kernel
theorem dX6_isOf_6 : decode cX6_isOf 6 = .ok (.iload 4, 2) := by decide +kernel
theorem dX6_isOf_8 : decode cX6_isOf 8 = .ok (.aload_n 0, 1) := by decide +kernel
theorem dX6_isOf_9 : decode cX6_isOf 9 = .ok (.getfield 76, 3) := by decide +kernel
theorem dX6_isOf_12 : decode cX6_isOf 12 = .ok (.if_icmp .lt 5, 3) := by decide +kernel
theorem dX6_isOf_15 : decode cX6_isOf 15 = .ok (.iconst 0, 1) := by decide +kernel
theorem dX6_isOf_16 : decode cX6_isOf 16 = .ok (.ireturn, 1) := by decide +kernel
theorem dX6_isOf_17 : decode cX6_isOf 17 = .ok (.iload_n 2, 1) := by decide +kernel
theorem dX6_isOf_18 : decode cX6_isOf 18 = .ok (.ifCond .ne 33, 3) := by decide +kernel
theorem dX6_isOf_21 : decode cX6_isOf 21 = .ok (.aload_n 0, 1) := by decide +kernel
theorem dX6_isOf_22 : decode cX6_isOf 22 = .ok (.getfield 13, 3) := by decide +kernel
theorem dX6_isOf_25 : decode cX6_isOf 25 = .ok (.iload 4, 2) := by decide +kernel
theorem dX6_isOf_27 : decode cX6_isOf 27 = .ok (.iaload, 1) := by decide +kernel
theorem dX6_isOf_28 : decode cX6_isOf 28 = .ok (.iload_n 3, 1) := by decide +kernel
theorem dX6_isOf_29 : decode cX6_isOf 29 = .ok (.if_icmp .eq 14, 3) := by decide +kernel
theorem dX6_isOf_32 : decode cX6_isOf 32 = .ok (.aload_n 0, 1) := by decide +kernel
theorem dX6_isOf_33 : decode cX6_isOf 33 = .ok (.getfield 16, 3) := by decide +kernel
theorem dX6_isOf_36 : decode cX6_isOf 36 = .ok (.iload 4, 2) := by decide +kernel
theorem dX6_isOf_38 : decode cX6_isOf 38 = .ok (.iaload, 1) := by decide +kernel
theorem dX6_isOf_39 : decode cX6_isOf 39 = .ok (.iload_n 3, 1) := by decide +kernel
theorem dX6_isOf_40 : decode cX6_isOf 40 = .ok (.if_icmp .ne 7, 3) := by decide +kernel
theorem dX6_isOf_43 : decode cX6_isOf 43 = .ok (.iconst 1, 1) := by decide +kernel
theorem dX6_isOf_44 : decode cX6_isOf 44 = .ok (.goto 46, 3) := by decide +kernel
theorem dX6_isOf_47 : decode cX6_isOf 47 = .ok (.iconst 0, 1) := by decide +kernel
theorem dX6_isOf_48 : decode cX6_isOf 48 = .ok (.goto 42, 3) := by decide +kernel
theorem dX6_isOf_51 : decode cX6_isOf 51 = .ok (.iload_n 2, 1) := by decide +kernel
theorem dX6_isOf_52 : decode cX6_isOf 52 = .ok (.iconst 1, 1) := by decide +kernel
theorem dX6_isOf_53 : decode cX6_isOf 53 = .ok (.if_icmp .ne 22, 3) := by decide +kernel
theorem dX6_isOf_56 : decode cX6_isOf 56 = .ok (.aload_n 0, 1) := by decide +kernel
theorem dX6_isOf_57 : decode cX6_isOf 57 = .ok (.getfield 19, 3) := by decide +kernel
theorem dX6_isOf_60 : decode cX6_isOf 60 = .ok (.iload 4, 2) := by decide +kernel
theorem dX6_isOf_62 : decode cX6_isOf 62 = .ok (.iaload, 1) := by decide +kernel
theorem dX6_isOf_63 : decode cX6_isOf 63 = .ok (.iload_n 3, 1) := by decide +kernel
theorem dX6_isOf_64 : decode cX6_isOf 64 = .ok (.if_icmp .ne 7, 3) := by decide +kernel
theorem dX6_isOf_67 : decode cX6_isOf 67 = .ok (.iconst 1, 1) := by decide +kernel
theorem dX6_isOf_68 : decode cX6_isOf 68 = .ok (.goto 22, 3) := by decide +kernel
theorem dX6_isOf_71 : decode cX6_isOf 71 = .ok (.iconst 0, 1) := by decide +kernel
theorem dX6_isOf_72 : decode cX6_isOf 72 = .ok (.goto 18, 3) := by decide +kernel
theorem dX6_isOf_75 : decode cX6_isOf 75 = .ok (.aload_n 0, 1) := by decide +kernel
theorem dX6_isOf_76 : decode cX6_isOf 76 = .ok (.getfield 37, 3) := by decide +kernel
theorem dX6_isOf_79 : decode cX6_isOf 79 = .ok (.iload_n 1, 1) := by decide +kernel
theorem dX6_isOf_80 : decode cX6_isOf 80 = .ok (.iaload, 1) := by decide +kernel
theorem dX6_isOf_81 : decode cX6_isOf 81 = .ok (.iload_n 3, 1) := by decide +kernel
theorem dX6_isOf_82 : decode cX6_isOf 82 = .ok (.if_icmp .ne 7, 3) := by decide +kernel
theorem dX6_isOf_85 : decode cX6_isOf 85 = .ok (.iconst 1, 1) := by decide +kernel
theorem dX6_isOf_86 : decode cX6_isOf 86 = .ok (.goto 4, 3) := by decide +kernel
theorem dX6_isOf_89 : decode cX6_isOf 89 = .ok (.iconst 0, 1) := by decide +kernel
theorem dX6_isOf_90 : decode cX6_isOf 90 = .ok (.ireturn, 1) := by decide +kernel
theorem dX6_itemAt_0 : decode cX6_itemAt 0 = .ok (.iconst 0, 1) := by decide +kernel
theorem dX6_itemAt_1 : decode cX6_itemAt 1 = .ok (.istore 4, 2) := by decide +kernel
theorem dX6_itemAt_3 : decode cX6_itemAt 3 = .ok (.iload 4, 2) := by decide +kernel
theorem dX6_itemAt_5 : decode cX6_itemAt 5 = .ok (.bipush 64, 2) := by decide +kernel
theorem dX6_itemAt_7 : decode cX6_itemAt 7 = .ok (.if_icmp .ge 33, 3) := by decide +kernel
theorem dX6_itemAt_10 : decode cX6_itemAt 10 = .ok (.aload_n 0, 1) := by decide +kernel
theorem dX6_itemAt_11 : decode cX6_itemAt 11 = .ok (.iload 4, 2) := by decide +kernel
theorem dX6_itemAt_13 : decode cX6_itemAt 13 = .ok (.iload_n 3, 1) := by decide +kernel
theorem dX6_itemAt_14 : decode cX6_itemAt 14 = .ok (.invokevirtual 83, 3) := by decide +kernel
theorem dX6_itemAt_17 : decode cX6_itemAt 17 = .ok (.ifCond .eq 17, 3) := by decide +kernel
theorem dX6_itemAt_20 : decode cX6_itemAt 20 = .ok (.aload_n 0, 1) := by decide +kernel
theorem dX6_itemAt_21 : decode cX6_itemAt 21 = .ok (.iload 4, 2) := by decide +kernel
theorem dX6_itemAt_23 : decode cX6_itemAt 23 = .ok (.iload_n 1, 1) := by decide +kernel
theorem dX6_itemAt_24 : decode cX6_itemAt 24 = .ok (.iload_n 2, 1) := by decide +kernel
theorem dX6_itemAt_25 : decode cX6_itemAt 25 = .ok (.invokevirtual 87, 3) := by decide +kernel
theorem dX6_itemAt_28 : decode cX6_itemAt 28 = .ok (.ifCond .eq 6, 3) := by decide +kernel
theorem dX6_itemAt_31 : decode cX6_itemAt 31 = .ok (.iload 4, 2) := by decide +kernel
theorem dX6_itemAt_33 : decode cX6_itemAt 33 = .ok (.ireturn, 1) := by decide +kernel
theorem dX6_itemAt_34 : decode cX6_itemAt 34 = .ok (.iinc 4 1, 3) := by decide +kernel
theorem dX6_itemAt_37 : decode cX6_itemAt 37 = .ok (.goto (-34), 3) := by decide +kernel
theorem dX6_itemAt_40 : decode cX6_itemAt 40 = .ok (.iconst (-1), 1) := by decide +kernel
theorem dX6_itemAt_41 : decode cX6_itemAt 41 = .ok (.ireturn, 1) := by decide +kernel
theorem dX6_isBlocked_0 : decode cX6_isBlocked 0 = .ok (.aload_n 0, 1) := by decide +kernel
theorem dX6_isBlocked_1 : decode cX6_isBlocked 1 = .ok (.getfield 40, 3) := by decide +kernel
theorem dX6_isBlocked_4 : decode cX6_isBlocked 4 = .ok (.sipush 240, 3) := by decide +kernel
theorem dX6_isBlocked_7 : decode cX6_isBlocked 7 = .ok (.iload_n 1, 1) := by decide +kernel
theorem dX6_isBlocked_8 : decode cX6_isBlocked 8 = .ok (.imul, 1) := by decide +kernel
theorem dX6_isBlocked_9 : decode cX6_isBlocked 9 = .ok (.bipush 30, 2) := by decide +kernel
theorem dX6_isBlocked_11 : decode cX6_isBlocked 11 = .ok (.iload_n 2, 1) := by decide +kernel
theorem dX6_isBlocked_12 : decode cX6_isBlocked 12 = .ok (.imul, 1) := by decide +kernel
theorem dX6_isBlocked_13 : decode cX6_isBlocked 13 = .ok (.iadd, 1) := by decide +kernel
theorem dX6_isBlocked_14 : decode cX6_isBlocked 14 = .ok (.iload_n 3, 1) := by decide +kernel
theorem dX6_isBlocked_15 : decode cX6_isBlocked 15 = .ok (.iadd, 1) := by decide +kernel
theorem dX6_isBlocked_16 : decode cX6_isBlocked 16 = .ok (.baload, 1) := by decide +kernel
theorem dX6_isBlocked_17 : decode cX6_isBlocked 17 = .ok (.ireturn, 1) := by decide +kernel
theorem dX6_room_0 : decode cX6_room 0 = .ok (.iload_n 1, 1) := by decide +kernel
theorem dX6_room_1 : decode cX6_room 1 = .ok (.iconst 0, 1) := by decide +kernel
theorem dX6_room_2 : decode cX6_room 2 = .ok (.iconst 5, 1) := by decide +kernel
theorem dX6_room_3 : decode cX6_room 3 = .ok (.invokestatic 72, 3) := by decide +kernel
theorem dX6_room_6 : decode cX6_room 6 = .ok (.ifCond .eq 12, 3) := by decide +kernel
theorem dX6_room_9 : decode cX6_room 9 = .ok (.iload_n 2, 1) := by decide +kernel
theorem dX6_room_10 : decode cX6_room 10 = .ok (.iconst 0, 1) := by decide +kernel
theorem dX6_room_11 : decode cX6_room 11 = .ok (.iconst 2, 1) := by decide +kernel
theorem dX6_room_12 : decode cX6_room 12 = .ok (.invokestatic 72, 3) := by decide +kernel
theorem dX6_room_15 : decode cX6_room 15 = .ok (.ifCond .ne 7, 3) := by decide +kernel
theorem dX6_room_18 : decode cX6_room 18 = .ok (.iconst 1, 1) := by decide +kernel
theorem dX6_room_19 : decode cX6_room 19 = .ok (.goto 4, 3) := by decide +kernel
theorem dX6_room_22 : decode cX6_room 22 = .ok (.iconst 0, 1) := by decide +kernel
theorem dX6_room_23 : decode cX6_room 23 = .ok (.istore_n 3, 1) := by decide +kernel
theorem dX6_room_24 : decode cX6_room 24 = .ok (.iconst 0, 1) := by decide +kernel
theorem dX6_room_25 : decode cX6_room 25 = .ok (.istore 4, 2) := by decide +kernel
theorem dX6_room_27 : decode cX6_room 27 = .ok (.iconst 0, 1) := by decide +kernel
theorem dX6_room_28 : decode cX6_room 28 = .ok (.istore 5, 2) := by decide +kernel
theorem dX6_room_30 : decode cX6_room 30 = .ok (.iload 5, 2) := by decide +kernel
theorem dX6_room_32 : decode cX6_room 32 = .ok (.bipush 64, 2) := by decide +kernel
theorem dX6_room_34 : decode cX6_room 34 = .ok (.if_icmp .ge 46, 3) := by decide +kernel
theorem dX6_room_37 : decode cX6_room 37 = .ok (.iload_n 3, 1) := by decide +kernel
theorem dX6_room_38 : decode cX6_room 38 = .ok (.ifCond .ne 42, 3) := by decide +kernel
theorem dX6_room_41 : decode cX6_room 41 = .ok (.iload 4, 2) := by decide +kernel
theorem dX6_room_43 : decode cX6_room 43 = .ok (.ifCond .ne 24, 3) := by decide +kernel
theorem dX6_room_46 : decode cX6_room 46 = .ok (.aload_n 0, 1) := by decide +kernel
theorem dX6_room_47 : decode cX6_room 47 = .ok (.getfield 34, 3) := by decide +kernel
theorem dX6_room_50 : decode cX6_room 50 = .ok (.iload 5, 2) := by decide +kernel
theorem dX6_room_52 : decode cX6_room 52 = .ok (.iaload, 1) := by decide +kernel
theorem dX6_room_53 : decode cX6_room 53 = .ok (.ifCond .lt 18, 3) := by decide +kernel
theorem dX6_room_56 : decode cX6_room 56 = .ok (.aload_n 0, 1) := by decide +kernel
theorem dX6_room_57 : decode cX6_room 57 = .ok (.getfield 37, 3) := by decide +kernel
theorem dX6_room_60 : decode cX6_room 60 = .ok (.iload 5, 2) := by decide +kernel
theorem dX6_room_62 : decode cX6_room 62 = .ok (.iaload, 1) := by decide +kernel
theorem dX6_room_63 : decode cX6_room 63 = .ok (.iload_n 1, 1) := by decide +kernel
theorem dX6_room_64 : decode cX6_room 64 = .ok (.if_icmp .ne 7, 3) := by decide +kernel
theorem dX6_room_67 : decode cX6_room 67 = .ok (.iconst 1, 1) := by decide +kernel
theorem dX6_room_68 : decode cX6_room 68 = .ok (.goto 4, 3) := by decide +kernel
theorem dX6_room_71 : decode cX6_room 71 = .ok (.iconst 0, 1) := by decide +kernel
theorem dX6_room_72 : decode cX6_room 72 = .ok (.istore 4, 2) := by decide +kernel
theorem dX6_room_74 : decode cX6_room 74 = .ok (.iinc 5 1, 3) := by decide +kernel
theorem dX6_room_77 : decode cX6_room 77 = .ok (.goto (-47), 3) := by decide +kernel
theorem dX6_room_80 : decode cX6_room 80 = .ok (.aload_n 0, 1) := by decide +kernel
theorem dX6_room_81 : decode cX6_room 81 = .ok (.iload_n 3, 1) := by decide +kernel
theorem dX6_room_82 : decode cX6_room 82 = .ok (.iload 4, 2) := by decide +kernel
theorem dX6_room_84 : decode cX6_room 84 = .ok (.invokevirtual 90, 3) := by decide +kernel
theorem dX6_room_87 : decode cX6_room 87 = .ok (.ifCond .eq 4, 3) := by decide +kernel
theorem dX6_room_90 : decode cX6_room 90 = .ok (.return_, 1) := by decide +kernel
theorem dX6_room_91 : decode cX6_room 91 = .ok (.aload_n 0, 1) := by decide +kernel
theorem dX6_room_92 : decode cX6_room 92 = .ok (.getfield 7, 3) := by decide +kernel
theorem dX6_room_95 : decode cX6_room 95 = .ok (.iload_n 1, 1) := by decide +kernel
theorem dX6_room_96 : decode cX6_room 96 = .ok (.iload_n 2, 1) := by decide +kernel
theorem dX6_room_97 : decode cX6_room 97 = .ok (.iastore, 1) := by decide +kernel
theorem dX6_room_98 : decode cX6_room 98 = .ok (.return_, 1) := by decide +kernel
theorem dX6_lesson_0 : decode cX6_lesson 0 = .ok (.iload_n 1, 1) := by decide +kernel
theorem dX6_lesson_1 : decode cX6_lesson 1 = .ok (.iconst 0, 1) := by decide +kernel
theorem dX6_lesson_2 : decode cX6_lesson 2 = .ok (.bipush 7, 2) := by decide +kernel
theorem dX6_lesson_4 : decode cX6_lesson 4 = .ok (.invokestatic 72, 3) := by decide +kernel
theorem dX6_lesson_7 : decode cX6_lesson 7 = .ok (.ifCond .eq 50, 3) := by decide +kernel
theorem dX6_lesson_10 : decode cX6_lesson 10 = .ok (.iload_n 2, 1) := by decide +kernel
theorem dX6_lesson_11 : decode cX6_lesson 11 = .ok (.iconst (-1), 1) := by decide +kernel
theorem dX6_lesson_12 : decode cX6_lesson 12 = .ok (.bipush 7, 2) := by decide +kernel
theorem dX6_lesson_14 : decode cX6_lesson 14 = .ok (.invokestatic 72, 3) := by decide +kernel
theorem dX6_lesson_17 : decode cX6_lesson 17 = .ok (.ifCond .eq 40, 3) := by decide +kernel
theorem dX6_lesson_20 : decode cX6_lesson 20 = .ok (.iload_n 1, 1) := by decide +kernel
theorem dX6_lesson_21 : decode cX6_lesson 21 = .ok (.iload_n 2, 1) := by decide +kernel
theorem dX6_lesson_22 : decode cX6_lesson 22 = .ok (.if_icmp .eq 35, 3) := by decide +kernel
theorem dX6_lesson_25 : decode cX6_lesson 25 = .ok (.iload_n 3, 1) := by decide +kernel
theorem dX6_lesson_26 : decode cX6_lesson 26 = .ok (.iconst 0, 1) := by decide +kernel
theorem dX6_lesson_27 : decode cX6_lesson 27 = .ok (.bipush 7, 2) := by decide +kernel
theorem dX6_lesson_29 : decode cX6_lesson 29 = .ok (.invokestatic 72, 3) := by decide +kernel
theorem dX6_lesson_32 : decode cX6_lesson 32 = .ok (.ifCond .eq 25, 3) := by decide +kernel
theorem dX6_lesson_35 : decode cX6_lesson 35 = .ok (.iload 4, 2) := by decide +kernel
theorem dX6_lesson_37 : decode cX6_lesson 37 = .ok (.iconst 0, 1) := by decide +kernel
theorem dX6_lesson_38 : decode cX6_lesson 38 = .ok (.iconst 2, 1) := by decide +kernel
theorem dX6_lesson_39 : decode cX6_lesson 39 = .ok (.invokestatic 72, 3) := by decide +kernel
theorem dX6_lesson_42 : decode cX6_lesson 42 = .ok (.ifCond .eq 15, 3) := by decide +kernel
theorem dX6_lesson_45 : decode cX6_lesson 45 = .ok (.iload 6, 2) := by decide +kernel
theorem dX6_lesson_47 : decode cX6_lesson 47 = .ok (.bipush 33, 2) := by decide +kernel
theorem dX6_lesson_49 : decode cX6_lesson 49 = .ok (.bipush 126, 2) := by decide +kernel
theorem dX6_lesson_51 : decode cX6_lesson 51 = .ok (.invokestatic 72, 3) := by decide +kernel
theorem dX6_lesson_54 : decode cX6_lesson 54 = .ok (.ifCond .ne 7, 3) := by decide +kernel
theorem dX6_lesson_57 : decode cX6_lesson 57 = .ok (.iconst 1, 1) := by decide +kernel
theorem dX6_lesson_58 : decode cX6_lesson 58 = .ok (.goto 4, 3) := by decide +kernel
theorem dX6_lesson_61 : decode cX6_lesson 61 = .ok (.iconst 0, 1) := by decide +kernel
theorem dX6_lesson_62 : decode cX6_lesson 62 = .ok (.istore 7, 2) := by decide +kernel
theorem dX6_lesson_64 : decode cX6_lesson 64 = .ok (.iload 7, 2) := by decide +kernel
theorem dX6_lesson_66 : decode cX6_lesson 66 = .ok (.ifCond .ne 34, 3) := by decide +kernel
theorem dX6_lesson_69 : decode cX6_lesson 69 = .ok (.iload 5, 2) := by decide +kernel
theorem dX6_lesson_71 : decode cX6_lesson 71 = .ok (.ifCond .lt 29, 3) := by decide +kernel
theorem dX6_lesson_74 : decode cX6_lesson 74 = .ok (.iload 5, 2) := by decide +kernel
theorem dX6_lesson_76 : decode cX6_lesson 76 = .ok (.bipush 10, 2) := by decide +kernel
theorem dX6_lesson_78 : decode cX6_lesson 78 = .ok (.idiv, 1) := by decide +kernel
theorem dX6_lesson_79 : decode cX6_lesson 79 = .ok (.iconst 1, 1) := by decide +kernel
theorem dX6_lesson_80 : decode cX6_lesson 80 = .ok (.iconst 2, 1) := by decide +kernel
theorem dX6_lesson_81 : decode cX6_lesson 81 = .ok (.invokestatic 72, 3) := by decide +kernel
theorem dX6_lesson_84 : decode cX6_lesson 84 = .ok (.ifCond .eq 16, 3) := by decide +kernel
theorem dX6_lesson_87 : decode cX6_lesson 87 = .ok (.iload 5, 2) := by decide +kernel
theorem dX6_lesson_89 : decode cX6_lesson 89 = .ok (.bipush 10, 2) := by decide +kernel
theorem dX6_lesson_91 : decode cX6_lesson 91 = .ok (.irem, 1) := by decide +kernel
theorem dX6_lesson_92 : decode cX6_lesson 92 = .ok (.iconst 1, 1) := by decide +kernel
theorem dX6_lesson_93 : decode cX6_lesson 93 = .ok (.iconst 4, 1) := by decide +kernel
theorem dX6_lesson_94 : decode cX6_lesson 94 = .ok (.invokestatic 72, 3) := by decide +kernel
theorem dX6_lesson_97 : decode cX6_lesson 97 = .ok (.ifCond .ne 7, 3) := by decide +kernel
theorem dX6_lesson_100 : decode cX6_lesson 100 = .ok (.iconst 1, 1) := by decide +kernel
theorem dX6_lesson_101 : decode cX6_lesson 101 = .ok (.goto 4, 3) := by decide +kernel
theorem dX6_lesson_104 : decode cX6_lesson 104 = .ok (.iconst 0, 1) := by decide +kernel
theorem dX6_lesson_105 : decode cX6_lesson 105 = .ok (.istore 7, 2) := by decide +kernel
theorem dX6_lesson_107 : decode cX6_lesson 107 = .ok (.aload_n 0, 1) := by decide +kernel
theorem dX6_lesson_108 : decode cX6_lesson 108 = .ok (.iload 7, 2) := by decide +kernel
theorem dX6_lesson_110 : decode cX6_lesson 110 = .ok (.iload 7, 2) := by decide +kernel
theorem dX6_lesson_112 : decode cX6_lesson 112 = .ok (.ifCond .ne 16, 3) := by decide +kernel
theorem dX6_lesson_115 : decode cX6_lesson 115 = .ok (.aload_n 0, 1) := by decide +kernel
theorem dX6_lesson_116 : decode cX6_lesson 116 = .ok (.getfield 76, 3) := by decide +kernel
theorem dX6_lesson_119 : decode cX6_lesson 119 = .ok (.bipush 16, 2) := by decide +kernel
theorem dX6_lesson_121 : decode cX6_lesson 121 = .ok (.if_icmp .ne 7, 3) := by decide +kernel
theorem dX6_lesson_124 : decode cX6_lesson 124 = .ok (.iconst 1, 1) := by decide +kernel
theorem dX6_lesson_125 : decode cX6_lesson 125 = .ok (.goto 4, 3) := by decide +kernel
theorem dX6_lesson_128 : decode cX6_lesson 128 = .ok (.iconst 0, 1) := by decide +kernel
theorem dX6_lesson_129 : decode cX6_lesson 129 = .ok (.invokevirtual 90, 3) := by decide +kernel
theorem dX6_lesson_132 : decode cX6_lesson 132 = .ok (.ifCond .eq 5, 3) := by decide +kernel
theorem dX6_lesson_135 : decode cX6_lesson 135 = .ok (.iconst 0, 1) := by decide +kernel
theorem dX6_lesson_136 : decode cX6_lesson 136 = .ok (.ireturn, 1) := by decide +kernel
theorem dX6_lesson_137 : decode cX6_lesson 137 = .ok (.aload_n 0, 1) := by decide +kernel
theorem dX6_lesson_138 : decode cX6_lesson 138 = .ok (.getfield 13, 3) := by decide +kernel
theorem dX6_lesson_141 : decode cX6_lesson 141 = .ok (.aload_n 0, 1) := by decide +kernel
theorem dX6_lesson_142 : decode cX6_lesson 142 = .ok (.getfield 76, 3) := by decide +kernel
theorem dX6_lesson_145 : decode cX6_lesson 145 = .ok (.iload_n 1, 1) := by decide +kernel
theorem dX6_lesson_146 : decode cX6_lesson 146 = .ok (.iastore, 1) := by decide +kernel
theorem dX6_lesson_147 : decode cX6_lesson 147 = .ok (.aload_n 0, 1) := by decide +kernel
theorem dX6_lesson_148 : decode cX6_lesson 148 = .ok (.getfield 16, 3) := by decide +kernel
theorem dX6_lesson_151 : decode cX6_lesson 151 = .ok (.aload_n 0, 1) := by decide +kernel
theorem dX6_lesson_152 : decode cX6_lesson 152 = .ok (.getfield 76, 3) := by decide +kernel
theorem dX6_lesson_155 : decode cX6_lesson 155 = .ok (.iload_n 2, 1) := by decide +kernel
theorem dX6_lesson_156 : decode cX6_lesson 156 = .ok (.iastore, 1) := by decide +kernel
theorem dX6_lesson_157 : decode cX6_lesson 157 = .ok (.aload_n 0, 1) := by decide +kernel
theorem dX6_lesson_158 : decode cX6_lesson 158 = .ok (.getfield 19, 3) := by decide +kernel
theorem dX6_lesson_161 : decode cX6_lesson 161 = .ok (.aload_n 0, 1) := by decide +kernel
theorem dX6_lesson_162 : decode cX6_lesson 162 = .ok (.getfield 76, 3) := by decide +kernel
theorem dX6_lesson_165 : decode cX6_lesson 165 = .ok (.iload_n 3, 1) := by decide +kernel
theorem dX6_lesson_166 : decode cX6_lesson 166 = .ok (.iastore, 1) := by decide +kernel
theorem dX6_lesson_167 : decode cX6_lesson 167 = .ok (.aload_n 0, 1) := by decide +kernel
theorem dX6_lesson_168 : decode cX6_lesson 168 = .ok (.getfield 22, 3) := by decide +kernel
theorem dX6_lesson_171 : decode cX6_lesson 171 = .ok (.aload_n 0, 1) := by decide +kernel
theorem dX6_lesson_172 : decode cX6_lesson 172 = .ok (.getfield 76, 3) := by decide +kernel
theorem dX6_lesson_175 : decode cX6_lesson 175 = .ok (.iload 4, 2) := by decide +kernel
theorem dX6_lesson_177 : decode cX6_lesson 177 = .ok (.iastore, 1) := by decide +kernel
theorem dX6_lesson_178 : decode cX6_lesson 178 = .ok (.aload_n 0, 1) := by decide +kernel
theorem dX6_lesson_179 : decode cX6_lesson 179 = .ok (.getfield 25, 3) := by decide +kernel
theorem dX6_lesson_182 : decode cX6_lesson 182 = .ok (.aload_n 0, 1) := by decide +kernel
theorem dX6_lesson_183 : decode cX6_lesson 183 = .ok (.getfield 76, 3) := by decide +kernel
theorem dX6_lesson_186 : decode cX6_lesson 186 = .ok (.iload 5, 2) := by decide +kernel
theorem dX6_lesson_188 : decode cX6_lesson 188 = .ok (.bipush 10, 2) := by decide +kernel
theorem dX6_lesson_190 : decode cX6_lesson 190 = .ok (.idiv, 1) := by decide +kernel
theorem dX6_lesson_191 : decode cX6_lesson 191 = .ok (.iastore, 1) := by decide +kernel
theorem dX6_lesson_192 : decode cX6_lesson 192 = .ok (.aload_n 0, 1) := by decide +kernel
theorem dX6_lesson_193 : decode cX6_lesson 193 = .ok (.getfield 28, 3) := by decide +kernel
theorem dX6_lesson_196 : decode cX6_lesson 196 = .ok (.aload_n 0, 1) := by decide +kernel
theorem dX6_lesson_197 : decode cX6_lesson 197 = .ok (.getfield 76, 3) := by decide +kernel
theorem dX6_lesson_200 : decode cX6_lesson 200 = .ok (.iload 5, 2) := by decide +kernel
theorem dX6_lesson_202 : decode cX6_lesson 202 = .ok (.bipush 10, 2) := by decide +kernel
theorem dX6_lesson_204 : decode cX6_lesson 204 = .ok (.irem, 1) := by decide +kernel
theorem dX6_lesson_205 : decode cX6_lesson 205 = .ok (.iastore, 1) := by decide +kernel
theorem dX6_lesson_206 : decode cX6_lesson 206 = .ok (.aload_n 0, 1) := by decide +kernel
theorem dX6_lesson_207 : decode cX6_lesson 207 = .ok (.getfield 31, 3) := by decide +kernel
theorem dX6_lesson_210 : decode cX6_lesson 210 = .ok (.aload_n 0, 1) := by decide +kernel
theorem dX6_lesson_211 : decode cX6_lesson 211 = .ok (.getfield 76, 3) := by decide +kernel
theorem dX6_lesson_214 : decode cX6_lesson 214 = .ok (.iload 6, 2) := by decide +kernel
theorem dX6_lesson_216 : decode cX6_lesson 216 = .ok (.iastore, 1) := by decide +kernel
theorem dX6_lesson_217 : decode cX6_lesson 217 = .ok (.aload_n 0, 1) := by decide +kernel
theorem dX6_lesson_218 : decode cX6_lesson 218 = .ok (.dup, 1) := by decide +kernel
theorem dX6_lesson_219 : decode cX6_lesson 219 = .ok (.getfield 76, 3) := by decide +kernel
theorem dX6_lesson_222 : decode cX6_lesson 222 = .ok (.iconst 1, 1) := by decide +kernel
theorem dX6_lesson_223 : decode cX6_lesson 223 = .ok (.iadd, 1) := by decide +kernel
theorem dX6_lesson_224 : decode cX6_lesson 224 = .ok (.putfield 76, 3) := by decide +kernel
theorem dX6_lesson_227 : decode cX6_lesson 227 = .ok (.aload_n 0, 1) := by decide +kernel
theorem dX6_lesson_228 : decode cX6_lesson 228 = .ok (.getfield 76, 3) := by decide +kernel
theorem dX6_lesson_231 : decode cX6_lesson 231 = .ok (.iconst 1, 1) := by decide +kernel
theorem dX6_lesson_232 : decode cX6_lesson 232 = .ok (.isub, 1) := by decide +kernel
theorem dX6_lesson_233 : decode cX6_lesson 233 = .ok (.ireturn, 1) := by decide +kernel
theorem dX6_block_0 : decode cX6_block 0 = .ok (.iload_n 1, 1) := by decide +kernel
theorem dX6_block_1 : decode cX6_block 1 = .ok (.iconst 0, 1) := by decide +kernel
theorem dX6_block_2 : decode cX6_block 2 = .ok (.iconst 2, 1) := by decide +kernel
theorem dX6_block_3 : decode cX6_block 3 = .ok (.invokestatic 72, 3) := by decide +kernel
theorem dX6_block_6 : decode cX6_block 6 = .ok (.ifCond .eq 30, 3) := by decide +kernel
theorem dX6_block_9 : decode cX6_block 9 = .ok (.iload_n 2, 1) := by decide +kernel
theorem dX6_block_10 : decode cX6_block 10 = .ok (.iconst 0, 1) := by decide +kernel
theorem dX6_block_11 : decode cX6_block 11 = .ok (.iload_n 1, 1) := by decide +kernel
theorem dX6_block_12 : decode cX6_block 12 = .ok (.iconst 2, 1) := by decide +kernel
theorem dX6_block_13 : decode cX6_block 13 = .ok (.if_icmp .ne 7, 3) := by decide +kernel
theorem dX6_block_16 : decode cX6_block 16 = .ok (.iconst 5, 1) := by decide +kernel
theorem dX6_block_17 : decode cX6_block 17 = .ok (.goto 5, 3) := by decide +kernel
theorem dX6_block_20 : decode cX6_block 20 = .ok (.bipush 7, 2) := by decide +kernel
theorem dX6_block_22 : decode cX6_block 22 = .ok (.invokestatic 72, 3) := by decide +kernel
theorem dX6_block_25 : decode cX6_block 25 = .ok (.ifCond .eq 11, 3) := by decide +kernel
theorem dX6_block_28 : decode cX6_block 28 = .ok (.aload_n 0, 1) := by decide +kernel
theorem dX6_block_29 : decode cX6_block 29 = .ok (.iload_n 3, 1) := by decide +kernel
theorem dX6_block_30 : decode cX6_block 30 = .ok (.invokevirtual 94, 3) := by decide +kernel
theorem dX6_block_33 : decode cX6_block 33 = .ok (.ifCond .ne 7, 3) := by decide +kernel
theorem dX6_block_36 : decode cX6_block 36 = .ok (.iconst 1, 1) := by decide +kernel
theorem dX6_block_37 : decode cX6_block 37 = .ok (.goto 4, 3) := by decide +kernel
theorem dX6_block_40 : decode cX6_block 40 = .ok (.iconst 0, 1) := by decide +kernel
theorem dX6_block_41 : decode cX6_block 41 = .ok (.istore 5, 2) := by decide +kernel
theorem dX6_block_43 : decode cX6_block 43 = .ok (.aload_n 0, 1) := by decide +kernel
theorem dX6_block_44 : decode cX6_block 44 = .ok (.iload 5, 2) := by decide +kernel
theorem dX6_block_46 : decode cX6_block 46 = .ok (.iload 5, 2) := by decide +kernel
theorem dX6_block_48 : decode cX6_block 48 = .ok (.ifCond .ne 22, 3) := by decide +kernel
theorem dX6_block_51 : decode cX6_block 51 = .ok (.iload 4, 2) := by decide +kernel
theorem dX6_block_53 : decode cX6_block 53 = .ok (.ifCond .eq 17, 3) := by decide +kernel
theorem dX6_block_56 : decode cX6_block 56 = .ok (.aload_n 0, 1) := by decide +kernel
theorem dX6_block_57 : decode cX6_block 57 = .ok (.iload_n 1, 1) := by decide +kernel
theorem dX6_block_58 : decode cX6_block 58 = .ok (.iload_n 2, 1) := by decide +kernel
theorem dX6_block_59 : decode cX6_block 59 = .ok (.iload_n 3, 1) := by decide +kernel
theorem dX6_block_60 : decode cX6_block 60 = .ok (.invokevirtual 98, 3) := by decide +kernel
theorem dX6_block_63 : decode cX6_block 63 = .ok (.ifCond .lt 7, 3) := by decide +kernel
theorem dX6_block_66 : decode cX6_block 66 = .ok (.iconst 1, 1) := by decide +kernel
theorem dX6_block_67 : decode cX6_block 67 = .ok (.goto 4, 3) := by decide +kernel
theorem dX6_block_70 : decode cX6_block 70 = .ok (.iconst 0, 1) := by decide +kernel
theorem dX6_block_71 : decode cX6_block 71 = .ok (.invokevirtual 90, 3) := by decide +kernel
theorem dX6_block_74 : decode cX6_block 74 = .ok (.ifCond .eq 4, 3) := by decide +kernel
theorem dX6_block_77 : decode cX6_block 77 = .ok (.return_, 1) := by decide +kernel
theorem dX6_block_78 : decode cX6_block 78 = .ok (.aload_n 0, 1) := by decide +kernel
theorem dX6_block_79 : decode cX6_block 79 = .ok (.getfield 40, 3) := by decide +kernel
theorem dX6_block_82 : decode cX6_block 82 = .ok (.sipush 240, 3) := by decide +kernel
theorem dX6_block_85 : decode cX6_block 85 = .ok (.iload_n 1, 1) := by decide +kernel
theorem dX6_block_86 : decode cX6_block 86 = .ok (.imul, 1) := by decide +kernel
theorem dX6_block_87 : decode cX6_block 87 = .ok (.bipush 30, 2) := by decide +kernel
theorem dX6_block_89 : decode cX6_block 89 = .ok (.iload_n 2, 1) := by decide +kernel
theorem dX6_block_90 : decode cX6_block 90 = .ok (.imul, 1) := by decide +kernel
theorem dX6_block_91 : decode cX6_block 91 = .ok (.iadd, 1) := by decide +kernel
theorem dX6_block_92 : decode cX6_block 92 = .ok (.iload_n 3, 1) := by decide +kernel
theorem dX6_block_93 : decode cX6_block 93 = .ok (.iadd, 1) := by decide +kernel
theorem dX6_block_94 : decode cX6_block 94 = .ok (.iload 4, 2) := by decide +kernel
theorem dX6_block_96 : decode cX6_block 96 = .ok (.bastore, 1) := by decide +kernel
theorem dX6_block_97 : decode cX6_block 97 = .ok (.return_, 1) := by decide +kernel
theorem dX6_anyBlocked_0 : decode cX6_anyBlocked 0 = .ok (.iconst 0, 1) := by decide +kernel
theorem dX6_anyBlocked_1 : decode cX6_anyBlocked 1 = .ok (.istore 5, 2) := by decide +kernel
theorem dX6_anyBlocked_3 : decode cX6_anyBlocked 3 = .ok (.iconst 0, 1) := by decide +kernel
theorem dX6_anyBlocked_4 : decode cX6_anyBlocked 4 = .ok (.istore 6, 2) := by decide +kernel
theorem dX6_anyBlocked_6 : decode cX6_anyBlocked 6 = .ok (.iload 6, 2) := by decide +kernel
theorem dX6_anyBlocked_8 : decode cX6_anyBlocked 8 = .ok (.iload 4, 2) := by decide +kernel
theorem dX6_anyBlocked_10 : decode cX6_anyBlocked 10 = .ok (.if_icmp .ge 34, 3) := by decide +kernel
theorem dX6_anyBlocked_13 : decode cX6_anyBlocked 13 = .ok (.iload 5, 2) := by decide +kernel
theorem dX6_anyBlocked_15 : decode cX6_anyBlocked 15 = .ok (.ifCond .ne 16, 3) := by decide +kernel
theorem dX6_anyBlocked_18 : decode cX6_anyBlocked 18 = .ok (.aload_n 0, 1) := by decide +kernel
theorem dX6_anyBlocked_19 : decode cX6_anyBlocked 19 = .ok (.iload_n 1, 1) := by decide +kernel
theorem dX6_anyBlocked_20 : decode cX6_anyBlocked 20 = .ok (.iload_n 2, 1) := by decide +kernel
theorem dX6_anyBlocked_21 : decode cX6_anyBlocked 21 = .ok (.iload_n 3, 1) := by decide +kernel
theorem dX6_anyBlocked_22 : decode cX6_anyBlocked 22 = .ok (.iload 6, 2) := by decide +kernel
theorem dX6_anyBlocked_24 : decode cX6_anyBlocked 24 = .ok (.iadd, 1) := by decide +kernel
theorem dX6_anyBlocked_25 : decode cX6_anyBlocked 25 = .ok (.invokevirtual 102, 3) := by decide +kernel
theorem dX6_anyBlocked_28 : decode cX6_anyBlocked 28 = .ok (.ifCond .eq 7, 3) := by decide +kernel
theorem dX6_anyBlocked_31 : decode cX6_anyBlocked 31 = .ok (.iconst 1, 1) := by decide +kernel
theorem dX6_anyBlocked_32 : decode cX6_anyBlocked 32 = .ok (.goto 4, 3) := by decide +kernel
theorem dX6_anyBlocked_35 : decode cX6_anyBlocked 35 = .ok (.iconst 0, 1) := by decide +kernel
theorem dX6_anyBlocked_36 : decode cX6_anyBlocked 36 = .ok (.istore 5, 2) := by decide +kernel
theorem dX6_anyBlocked_38 : decode cX6_anyBlocked 38 = .ok (.iinc 6 1, 3) := by decide +kernel
theorem dX6_anyBlocked_41 : decode cX6_anyBlocked 41 = .ok (.goto (-35), 3) := by decide +kernel
theorem dX6_anyBlocked_44 : decode cX6_anyBlocked 44 = .ok (.iload 5, 2) := by decide +kernel
theorem dX6_anyBlocked_46 : decode cX6_anyBlocked 46 = .ok (.ireturn, 1) := by decide +kernel
theorem dX6_anyItem_0 : decode cX6_anyItem 0 = .ok (.iconst 0, 1) := by decide +kernel
theorem dX6_anyItem_1 : decode cX6_anyItem 1 = .ok (.istore 5, 2) := by decide +kernel
theorem dX6_anyItem_3 : decode cX6_anyItem 3 = .ok (.iconst 0, 1) := by decide +kernel
theorem dX6_anyItem_4 : decode cX6_anyItem 4 = .ok (.istore 6, 2) := by decide +kernel
theorem dX6_anyItem_6 : decode cX6_anyItem 6 = .ok (.iload 6, 2) := by decide +kernel
theorem dX6_anyItem_8 : decode cX6_anyItem 8 = .ok (.iload 4, 2) := by decide +kernel
theorem dX6_anyItem_10 : decode cX6_anyItem 10 = .ok (.if_icmp .ge 34, 3) := by decide +kernel
theorem dX6_anyItem_13 : decode cX6_anyItem 13 = .ok (.iload 5, 2) := by decide +kernel
theorem dX6_anyItem_15 : decode cX6_anyItem 15 = .ok (.ifCond .ne 16, 3) := by decide +kernel
theorem dX6_anyItem_18 : decode cX6_anyItem 18 = .ok (.aload_n 0, 1) := by decide +kernel
theorem dX6_anyItem_19 : decode cX6_anyItem 19 = .ok (.iload_n 1, 1) := by decide +kernel
theorem dX6_anyItem_20 : decode cX6_anyItem 20 = .ok (.iload_n 2, 1) := by decide +kernel
theorem dX6_anyItem_21 : decode cX6_anyItem 21 = .ok (.iload_n 3, 1) := by decide +kernel
theorem dX6_anyItem_22 : decode cX6_anyItem 22 = .ok (.iload 6, 2) := by decide +kernel
theorem dX6_anyItem_24 : decode cX6_anyItem 24 = .ok (.iadd, 1) := by decide +kernel
theorem dX6_anyItem_25 : decode cX6_anyItem 25 = .ok (.invokevirtual 98, 3) := by decide +kernel
theorem dX6_anyItem_28 : decode cX6_anyItem 28 = .ok (.ifCond .lt 7, 3) := by decide +kernel
theorem dX6_anyItem_31 : decode cX6_anyItem 31 = .ok (.iconst 1, 1) := by decide +kernel
theorem dX6_anyItem_32 : decode cX6_anyItem 32 = .ok (.goto 4, 3) := by decide +kernel
theorem dX6_anyItem_35 : decode cX6_anyItem 35 = .ok (.iconst 0, 1) := by decide +kernel
theorem dX6_anyItem_36 : decode cX6_anyItem 36 = .ok (.istore 5, 2) := by decide +kernel
theorem dX6_anyItem_38 : decode cX6_anyItem 38 = .ok (.iinc 6 1, 3) := by decide +kernel
theorem dX6_anyItem_41 : decode cX6_anyItem 41 = .ok (.goto (-35), 3) := by decide +kernel
theorem dX6_anyItem_44 : decode cX6_anyItem 44 = .ok (.iload 5, 2) := by decide +kernel
theorem dX6_anyItem_46 : decode cX6_anyItem 46 = .ok (.ireturn, 1) := by decide +kernel
theorem dX6_freeRoom_0 : decode cX6_freeRoom 0 = .ok (.iconst 0, 1) := by decide +kernel
theorem dX6_freeRoom_1 : decode cX6_freeRoom 1 = .ok (.istore_n 3, 1) := by decide +kernel
theorem dX6_freeRoom_2 : decode cX6_freeRoom 2 = .ok (.iload_n 3, 1) := by decide +kernel
theorem dX6_freeRoom_3 : decode cX6_freeRoom 3 = .ok (.bipush 6, 2) := by decide +kernel
theorem dX6_freeRoom_5 : decode cX6_freeRoom 5 = .ok (.if_icmp .ge 58, 3) := by decide +kernel
theorem dX6_freeRoom_8 : decode cX6_freeRoom 8 = .ok (.aload_n 0, 1) := by decide +kernel
theorem dX6_freeRoom_9 : decode cX6_freeRoom 9 = .ok (.getfield 7, 3) := by decide +kernel
theorem dX6_freeRoom_12 : decode cX6_freeRoom 12 = .ok (.iload_n 3, 1) := by decide +kernel
theorem dX6_freeRoom_13 : decode cX6_freeRoom 13 = .ok (.iaload, 1) := by decide +kernel
theorem dX6_freeRoom_14 : decode cX6_freeRoom 14 = .ok (.aload_n 0, 1) := by decide +kernel
theorem dX6_freeRoom_15 : decode cX6_freeRoom 15 = .ok (.getfield 22, 3) := by decide +kernel
theorem dX6_freeRoom_18 : decode cX6_freeRoom 18 = .ok (.iload_n 1, 1) := by decide +kernel
theorem dX6_freeRoom_19 : decode cX6_freeRoom 19 = .ok (.iaload, 1) := by decide +kernel
theorem dX6_freeRoom_20 : decode cX6_freeRoom 20 = .ok (.if_icmp .ne 37, 3) := by decide +kernel
theorem dX6_freeRoom_23 : decode cX6_freeRoom 23 = .ok (.aload_n 0, 1) := by decide +kernel
theorem dX6_freeRoom_24 : decode cX6_freeRoom 24 = .ok (.iconst 2, 1) := by decide +kernel
theorem dX6_freeRoom_25 : decode cX6_freeRoom 25 = .ok (.iload_n 3, 1) := by decide +kernel
theorem dX6_freeRoom_26 : decode cX6_freeRoom 26 = .ok (.iload_n 2, 1) := by decide +kernel
theorem dX6_freeRoom_27 : decode cX6_freeRoom 27 = .ok (.aload_n 0, 1) := by decide +kernel
theorem dX6_freeRoom_28 : decode cX6_freeRoom 28 = .ok (.getfield 25, 3) := by decide +kernel
theorem dX6_freeRoom_31 : decode cX6_freeRoom 31 = .ok (.iload_n 1, 1) := by decide +kernel
theorem dX6_freeRoom_32 : decode cX6_freeRoom 32 = .ok (.iaload, 1) := by decide +kernel
theorem dX6_freeRoom_33 : decode cX6_freeRoom 33 = .ok (.invokevirtual 105, 3) := by decide +kernel
theorem dX6_freeRoom_36 : decode cX6_freeRoom 36 = .ok (.ifCond .ne 21, 3) := by decide +kernel
theorem dX6_freeRoom_39 : decode cX6_freeRoom 39 = .ok (.aload_n 0, 1) := by decide +kernel
theorem dX6_freeRoom_40 : decode cX6_freeRoom 40 = .ok (.iconst 2, 1) := by decide +kernel
theorem dX6_freeRoom_41 : decode cX6_freeRoom 41 = .ok (.iload_n 3, 1) := by decide +kernel
theorem dX6_freeRoom_42 : decode cX6_freeRoom 42 = .ok (.iload_n 2, 1) := by decide +kernel
theorem dX6_freeRoom_43 : decode cX6_freeRoom 43 = .ok (.aload_n 0, 1) := by decide +kernel
theorem dX6_freeRoom_44 : decode cX6_freeRoom 44 = .ok (.getfield 25, 3) := by decide +kernel
theorem dX6_freeRoom_47 : decode cX6_freeRoom 47 = .ok (.iload_n 1, 1) := by decide +kernel
theorem dX6_freeRoom_48 : decode cX6_freeRoom 48 = .ok (.iaload, 1) := by decide +kernel
theorem dX6_freeRoom_49 : decode cX6_freeRoom 49 = .ok (.invokevirtual 109, 3) := by decide +kernel
theorem dX6_freeRoom_52 : decode cX6_freeRoom 52 = .ok (.ifCond .ne 5, 3) := by decide +kernel
theorem dX6_freeRoom_55 : decode cX6_freeRoom 55 = .ok (.iload_n 3, 1) := by decide +kernel
theorem dX6_freeRoom_56 : decode cX6_freeRoom 56 = .ok (.ireturn, 1) := by decide +kernel
theorem dX6_freeRoom_57 : decode cX6_freeRoom 57 = .ok (.iinc 3 1, 3) := by decide +kernel
theorem dX6_freeRoom_60 : decode cX6_freeRoom 60 = .ok (.goto (-58), 3) := by decide +kernel
theorem dX6_freeRoom_63 : decode cX6_freeRoom 63 = .ok (.iconst (-1), 1) := by decide +kernel
theorem dX6_freeRoom_64 : decode cX6_freeRoom 64 = .ok (.ireturn, 1) := by decide +kernel
theorem dX6_rule_0 : decode cX6_rule 0 = .ok (.iload_n 1, 1) := by decide +kernel
theorem dX6_rule_1 : decode cX6_rule 1 = .ok (.invokestatic 79, 3) := by decide +kernel
theorem dX6_rule_4 : decode cX6_rule 4 = .ok (.istore_n 3, 1) := by decide +kernel
theorem dX6_rule_5 : decode cX6_rule 5 = .ok (.aload_n 0, 1) := by decide +kernel
theorem dX6_rule_6 : decode cX6_rule 6 = .ok (.getfield 25, 3) := by decide +kernel
theorem dX6_rule_9 : decode cX6_rule 9 = .ok (.iload_n 3, 1) := by decide +kernel
theorem dX6_rule_10 : decode cX6_rule 10 = .ok (.iaload, 1) := by decide +kernel
theorem dX6_rule_11 : decode cX6_rule 11 = .ok (.istore 4, 2) := by decide +kernel
theorem dX6_rule_13 : decode cX6_rule 13 = .ok (.iload_n 2, 1) := by decide +kernel
theorem dX6_rule_14 : decode cX6_rule 14 = .ok (.aload_n 0, 1) := by decide +kernel
theorem dX6_rule_15 : decode cX6_rule 15 = .ok (.getfield 66, 3) := by decide +kernel
theorem dX6_rule_18 : decode cX6_rule 18 = .ok (.irem, 1) := by decide +kernel
theorem dX6_rule_19 : decode cX6_rule 19 = .ok (.iload 4, 2) := by decide +kernel
theorem dX6_rule_21 : decode cX6_rule 21 = .ok (.iadd, 1) := by decide +kernel
theorem dX6_rule_22 : decode cX6_rule 22 = .ok (.aload_n 0, 1) := by decide +kernel
theorem dX6_rule_23 : decode cX6_rule 23 = .ok (.getfield 66, 3) := by decide +kernel
theorem dX6_rule_26 : decode cX6_rule 26 = .ok (.if_icmp .le 5, 3) := by decide +kernel
theorem dX6_rule_29 : decode cX6_rule 29 = .ok (.iconst 1, 1) := by decide +kernel
theorem dX6_rule_30 : decode cX6_rule 30 = .ok (.ireturn, 1) := by decide +kernel
theorem dX6_rule_31 : decode cX6_rule 31 = .ok (.aload_n 0, 1) := by decide +kernel
theorem dX6_rule_32 : decode cX6_rule 32 = .ok (.iconst 1, 1) := by decide +kernel
theorem dX6_rule_33 : decode cX6_rule 33 = .ok (.aload_n 0, 1) := by decide +kernel
theorem dX6_rule_34 : decode cX6_rule 34 = .ok (.getfield 19, 3) := by decide +kernel
theorem dX6_rule_37 : decode cX6_rule 37 = .ok (.iload_n 3, 1) := by decide +kernel
theorem dX6_rule_38 : decode cX6_rule 38 = .ok (.iaload, 1) := by decide +kernel
theorem dX6_rule_39 : decode cX6_rule 39 = .ok (.iload_n 2, 1) := by decide +kernel
theorem dX6_rule_40 : decode cX6_rule 40 = .ok (.iload 4, 2) := by decide +kernel
theorem dX6_rule_42 : decode cX6_rule 42 = .ok (.invokevirtual 105, 3) := by decide +kernel
theorem dX6_rule_45 : decode cX6_rule 45 = .ok (.ifCond .eq 5, 3) := by decide +kernel
theorem dX6_rule_48 : decode cX6_rule 48 = .ok (.iconst 2, 1) := by decide +kernel
theorem dX6_rule_49 : decode cX6_rule 49 = .ok (.ireturn, 1) := by decide +kernel
theorem dX6_rule_50 : decode cX6_rule 50 = .ok (.aload_n 0, 1) := by decide +kernel
theorem dX6_rule_51 : decode cX6_rule 51 = .ok (.iconst 1, 1) := by decide +kernel
theorem dX6_rule_52 : decode cX6_rule 52 = .ok (.aload_n 0, 1) := by decide +kernel
theorem dX6_rule_53 : decode cX6_rule 53 = .ok (.getfield 19, 3) := by decide +kernel
theorem dX6_rule_56 : decode cX6_rule 56 = .ok (.iload_n 3, 1) := by decide +kernel
theorem dX6_rule_57 : decode cX6_rule 57 = .ok (.iaload, 1) := by decide +kernel
theorem dX6_rule_58 : decode cX6_rule 58 = .ok (.iload_n 2, 1) := by decide +kernel
theorem dX6_rule_59 : decode cX6_rule 59 = .ok (.iload 4, 2) := by decide +kernel
theorem dX6_rule_61 : decode cX6_rule 61 = .ok (.invokevirtual 109, 3) := by decide +kernel
theorem dX6_rule_64 : decode cX6_rule 64 = .ok (.ifCond .eq 5, 3) := by decide +kernel
theorem dX6_rule_67 : decode cX6_rule 67 = .ok (.iconst 3, 1) := by decide +kernel
theorem dX6_rule_68 : decode cX6_rule 68 = .ok (.ireturn, 1) := by decide +kernel
theorem dX6_rule_69 : decode cX6_rule 69 = .ok (.aload_n 0, 1) := by decide +kernel
theorem dX6_rule_70 : decode cX6_rule 70 = .ok (.getfield 16, 3) := by decide +kernel
theorem dX6_rule_73 : decode cX6_rule 73 = .ok (.iload_n 3, 1) := by decide +kernel
theorem dX6_rule_74 : decode cX6_rule 74 = .ok (.iaload, 1) := by decide +kernel
theorem dX6_rule_75 : decode cX6_rule 75 = .ok (.ifCond .lt 7, 3) := by decide +kernel
theorem dX6_rule_78 : decode cX6_rule 78 = .ok (.iconst 1, 1) := by decide +kernel
theorem dX6_rule_79 : decode cX6_rule 79 = .ok (.goto 4, 3) := by decide +kernel
end
section
theorem dX6_rule_82 : decode cX6_rule 82 = .ok (.iconst 0, 1) := by decide +kernel
theorem dX6_rule_83 : decode cX6_rule 83 = .ok (.istore 5, 2) := by decide +kernel
theorem dX6_rule_85 : decode cX6_rule 85 = .ok (.aload_n 0, 1) := by decide +kernel
theorem dX6_rule_86 : decode cX6_rule 86 = .ok (.iconst 0, 1) := by decide +kernel
theorem dX6_rule_87 : decode cX6_rule 87 = .ok (.aload_n 0, 1) := by decide +kernel
theorem dX6_rule_88 : decode cX6_rule 88 = .ok (.getfield 13, 3) := by decide +kernel
theorem dX6_rule_91 : decode cX6_rule 91 = .ok (.iload_n 3, 1) := by decide +kernel
theorem dX6_rule_92 : decode cX6_rule 92 = .ok (.iaload, 1) := by decide +kernel
theorem dX6_rule_93 : decode cX6_rule 93 = .ok (.iload_n 2, 1) := by decide +kernel
theorem dX6_rule_94 : decode cX6_rule 94 = .ok (.iload 4, 2) := by decide +kernel
theorem dX6_rule_96 : decode cX6_rule 96 = .ok (.invokevirtual 105, 3) := by decide +kernel
theorem dX6_rule_99 : decode cX6_rule 99 = .ok (.ifCond .ne 25, 3) := by decide +kernel
theorem dX6_rule_102 : decode cX6_rule 102 = .ok (.iload 5, 2) := by decide +kernel
theorem dX6_rule_104 : decode cX6_rule 104 = .ok (.ifCond .eq 22, 3) := by decide +kernel
theorem dX6_rule_107 : decode cX6_rule 107 = .ok (.aload_n 0, 1) := by decide +kernel
theorem dX6_rule_108 : decode cX6_rule 108 = .ok (.iconst 0, 1) := by decide +kernel
theorem dX6_rule_109 : decode cX6_rule 109 = .ok (.aload_n 0, 1) := by decide +kernel
theorem dX6_rule_110 : decode cX6_rule 110 = .ok (.getfield 16, 3) := by decide +kernel
theorem dX6_rule_113 : decode cX6_rule 113 = .ok (.iload_n 3, 1) := by decide +kernel
theorem dX6_rule_114 : decode cX6_rule 114 = .ok (.iaload, 1) := by decide +kernel
theorem dX6_rule_115 : decode cX6_rule 115 = .ok (.iload_n 2, 1) := by decide +kernel
theorem dX6_rule_116 : decode cX6_rule 116 = .ok (.iload 4, 2) := by decide +kernel
theorem dX6_rule_118 : decode cX6_rule 118 = .ok (.invokevirtual 105, 3) := by decide +kernel
theorem dX6_rule_121 : decode cX6_rule 121 = .ok (.ifCond .eq 5, 3) := by decide +kernel
theorem dX6_rule_124 : decode cX6_rule 124 = .ok (.iconst 4, 1) := by decide +kernel
theorem dX6_rule_125 : decode cX6_rule 125 = .ok (.ireturn, 1) := by decide +kernel
theorem dX6_rule_126 : decode cX6_rule 126 = .ok (.aload_n 0, 1) := by decide +kernel
theorem dX6_rule_127 : decode cX6_rule 127 = .ok (.iconst 0, 1) := by decide +kernel
theorem dX6_rule_128 : decode cX6_rule 128 = .ok (.aload_n 0, 1) := by decide +kernel
theorem dX6_rule_129 : decode cX6_rule 129 = .ok (.getfield 13, 3) := by decide +kernel
theorem dX6_rule_132 : decode cX6_rule 132 = .ok (.iload_n 3, 1) := by decide +kernel
theorem dX6_rule_133 : decode cX6_rule 133 = .ok (.iaload, 1) := by decide +kernel
theorem dX6_rule_134 : decode cX6_rule 134 = .ok (.iload_n 2, 1) := by decide +kernel
theorem dX6_rule_135 : decode cX6_rule 135 = .ok (.iload 4, 2) := by decide +kernel
theorem dX6_rule_137 : decode cX6_rule 137 = .ok (.invokevirtual 109, 3) := by decide +kernel
theorem dX6_rule_140 : decode cX6_rule 140 = .ok (.ifCond .ne 25, 3) := by decide +kernel
theorem dX6_rule_143 : decode cX6_rule 143 = .ok (.iload 5, 2) := by decide +kernel
theorem dX6_rule_145 : decode cX6_rule 145 = .ok (.ifCond .eq 22, 3) := by decide +kernel
theorem dX6_rule_148 : decode cX6_rule 148 = .ok (.aload_n 0, 1) := by decide +kernel
theorem dX6_rule_149 : decode cX6_rule 149 = .ok (.iconst 0, 1) := by decide +kernel
theorem dX6_rule_150 : decode cX6_rule 150 = .ok (.aload_n 0, 1) := by decide +kernel
theorem dX6_rule_151 : decode cX6_rule 151 = .ok (.getfield 16, 3) := by decide +kernel
theorem dX6_rule_154 : decode cX6_rule 154 = .ok (.iload_n 3, 1) := by decide +kernel
theorem dX6_rule_155 : decode cX6_rule 155 = .ok (.iaload, 1) := by decide +kernel
theorem dX6_rule_156 : decode cX6_rule 156 = .ok (.iload_n 2, 1) := by decide +kernel
theorem dX6_rule_157 : decode cX6_rule 157 = .ok (.iload 4, 2) := by decide +kernel
theorem dX6_rule_159 : decode cX6_rule 159 = .ok (.invokevirtual 109, 3) := by decide +kernel
theorem dX6_rule_162 : decode cX6_rule 162 = .ok (.ifCond .eq 5, 3) := by decide +kernel
theorem dX6_rule_165 : decode cX6_rule 165 = .ok (.iconst 5, 1) := by decide +kernel
theorem dX6_rule_166 : decode cX6_rule 166 = .ok (.ireturn, 1) := by decide +kernel
theorem dX6_rule_167 : decode cX6_rule 167 = .ok (.iconst 4, 1) := by decide +kernel
theorem dX6_rule_168 : decode cX6_rule 168 = .ok (.iload_n 3, 1) := by decide +kernel
theorem dX6_rule_169 : decode cX6_rule 169 = .ok (.imul, 1) := by decide +kernel
theorem dX6_rule_170 : decode cX6_rule 170 = .ok (.istore 6, 2) := by decide +kernel
theorem dX6_rule_172 : decode cX6_rule 172 = .ok (.iload 6, 2) := by decide +kernel
theorem dX6_rule_174 : decode cX6_rule 174 = .ok (.iconst 4, 1) := by decide +kernel
theorem dX6_rule_175 : decode cX6_rule 175 = .ok (.iload_n 3, 1) := by decide +kernel
theorem dX6_rule_176 : decode cX6_rule 176 = .ok (.imul, 1) := by decide +kernel
theorem dX6_rule_177 : decode cX6_rule 177 = .ok (.iconst 4, 1) := by decide +kernel
theorem dX6_rule_178 : decode cX6_rule 178 = .ok (.iadd, 1) := by decide +kernel
theorem dX6_rule_179 : decode cX6_rule 179 = .ok (.if_icmp .ge 49, 3) := by decide +kernel
theorem dX6_rule_182 : decode cX6_rule 182 = .ok (.iload 6, 2) := by decide +kernel
theorem dX6_rule_184 : decode cX6_rule 184 = .ok (.iload_n 1, 1) := by decide +kernel
theorem dX6_rule_185 : decode cX6_rule 185 = .ok (.if_icmp .eq 37, 3) := by decide +kernel
theorem dX6_rule_188 : decode cX6_rule 188 = .ok (.aload_n 0, 1) := by decide +kernel
theorem dX6_rule_189 : decode cX6_rule 189 = .ok (.getfield 34, 3) := by decide +kernel
theorem dX6_rule_192 : decode cX6_rule 192 = .ok (.iload 6, 2) := by decide +kernel
theorem dX6_rule_194 : decode cX6_rule 194 = .ok (.iaload, 1) := by decide +kernel
theorem dX6_rule_195 : decode cX6_rule 195 = .ok (.ifCond .lt 27, 3) := by decide +kernel
theorem dX6_rule_198 : decode cX6_rule 198 = .ok (.aload_n 0, 1) := by decide +kernel
theorem dX6_rule_199 : decode cX6_rule 199 = .ok (.getfield 34, 3) := by decide +kernel
theorem dX6_rule_202 : decode cX6_rule 202 = .ok (.iload 6, 2) := by decide +kernel
theorem dX6_rule_204 : decode cX6_rule 204 = .ok (.iaload, 1) := by decide +kernel
theorem dX6_rule_205 : decode cX6_rule 205 = .ok (.aload_n 0, 1) := by decide +kernel
theorem dX6_rule_206 : decode cX6_rule 206 = .ok (.getfield 66, 3) := by decide +kernel
theorem dX6_rule_209 : decode cX6_rule 209 = .ok (.idiv, 1) := by decide +kernel
theorem dX6_rule_210 : decode cX6_rule 210 = .ok (.iload_n 2, 1) := by decide +kernel
theorem dX6_rule_211 : decode cX6_rule 211 = .ok (.aload_n 0, 1) := by decide +kernel
theorem dX6_rule_212 : decode cX6_rule 212 = .ok (.getfield 66, 3) := by decide +kernel
theorem dX6_rule_215 : decode cX6_rule 215 = .ok (.idiv, 1) := by decide +kernel
theorem dX6_rule_216 : decode cX6_rule 216 = .ok (.if_icmp .ne 6, 3) := by decide +kernel
theorem dX6_rule_219 : decode cX6_rule 219 = .ok (.bipush 6, 2) := by decide +kernel
theorem dX6_rule_221 : decode cX6_rule 221 = .ok (.ireturn, 1) := by decide +kernel
theorem dX6_rule_222 : decode cX6_rule 222 = .ok (.iinc 6 1, 3) := by decide +kernel
theorem dX6_rule_225 : decode cX6_rule 225 = .ok (.goto (-53), 3) := by decide +kernel
theorem dX6_rule_228 : decode cX6_rule 228 = .ok (.aload_n 0, 1) := by decide +kernel
theorem dX6_rule_229 : decode cX6_rule 229 = .ok (.iload_n 3, 1) := by decide +kernel
theorem dX6_rule_230 : decode cX6_rule 230 = .ok (.iload_n 2, 1) := by decide +kernel
theorem dX6_rule_231 : decode cX6_rule 231 = .ok (.invokevirtual 112, 3) := by decide +kernel
theorem dX6_rule_234 : decode cX6_rule 234 = .ok (.ifCond .ge 8, 3) := by decide +kernel
theorem dX6_rule_237 : decode cX6_rule 237 = .ok (.bipush 7, 2) := by decide +kernel
theorem dX6_rule_239 : decode cX6_rule 239 = .ok (.goto 4, 3) := by decide +kernel
theorem dX6_rule_242 : decode cX6_rule 242 = .ok (.iconst 0, 1) := by decide +kernel
theorem dX6_rule_243 : decode cX6_rule 243 = .ok (.ireturn, 1) := by decide +kernel
theorem dX6_put_0 : decode cX6_put 0 = .ok (.aload_n 0, 1) := by decide +kernel
theorem dX6_put_1 : decode cX6_put 1 = .ok (.iload_n 1, 1) := by decide +kernel
theorem dX6_put_2 : decode cX6_put 2 = .ok (.invokestatic 79, 3) := by decide +kernel
theorem dX6_put_5 : decode cX6_put 5 = .ok (.iload_n 2, 1) := by decide +kernel
theorem dX6_put_6 : decode cX6_put 6 = .ok (.invokevirtual 112, 3) := by decide +kernel
theorem dX6_put_9 : decode cX6_put 9 = .ok (.istore_n 3, 1) := by decide +kernel
theorem dX6_put_10 : decode cX6_put 10 = .ok (.aload_n 0, 1) := by decide +kernel
theorem dX6_put_11 : decode cX6_put 11 = .ok (.getfield 34, 3) := by decide +kernel
theorem dX6_put_14 : decode cX6_put 14 = .ok (.iload_n 1, 1) := by decide +kernel
theorem dX6_put_15 : decode cX6_put 15 = .ok (.iload_n 2, 1) := by decide +kernel
theorem dX6_put_16 : decode cX6_put 16 = .ok (.iastore, 1) := by decide +kernel
theorem dX6_put_17 : decode cX6_put 17 = .ok (.aload_n 0, 1) := by decide +kernel
theorem dX6_put_18 : decode cX6_put 18 = .ok (.getfield 37, 3) := by decide +kernel
theorem dX6_put_21 : decode cX6_put 21 = .ok (.iload_n 1, 1) := by decide +kernel
theorem dX6_put_22 : decode cX6_put 22 = .ok (.iload_n 3, 1) := by decide +kernel
theorem dX6_put_23 : decode cX6_put 23 = .ok (.iastore, 1) := by decide +kernel
theorem dX6_put_24 : decode cX6_put 24 = .ok (.return_, 1) := by decide +kernel
theorem dX6_out_0 : decode cX6_out 0 = .ok (.aload_n 0, 1) := by decide +kernel
theorem dX6_out_1 : decode cX6_out 1 = .ok (.getfield 34, 3) := by decide +kernel
theorem dX6_out_4 : decode cX6_out 4 = .ok (.iload_n 1, 1) := by decide +kernel
theorem dX6_out_5 : decode cX6_out 5 = .ok (.iconst (-1), 1) := by decide +kernel
theorem dX6_out_6 : decode cX6_out 6 = .ok (.iastore, 1) := by decide +kernel
theorem dX6_out_7 : decode cX6_out 7 = .ok (.aload_n 0, 1) := by decide +kernel
theorem dX6_out_8 : decode cX6_out 8 = .ok (.getfield 37, 3) := by decide +kernel
theorem dX6_out_11 : decode cX6_out 11 = .ok (.iload_n 1, 1) := by decide +kernel
theorem dX6_out_12 : decode cX6_out 12 = .ok (.iconst (-1), 1) := by decide +kernel
theorem dX6_out_13 : decode cX6_out 13 = .ok (.iastore, 1) := by decide +kernel
theorem dX6_out_14 : decode cX6_out 14 = .ok (.return_, 1) := by decide +kernel
theorem dX6_keep_0 : decode cX6_keep 0 = .ok (.iconst 0, 1) := by decide +kernel
theorem dX6_keep_1 : decode cX6_keep 1 = .ok (.istore_n 1, 1) := by decide +kernel
theorem dX6_keep_2 : decode cX6_keep 2 = .ok (.iload_n 1, 1) := by decide +kernel
theorem dX6_keep_3 : decode cX6_keep 3 = .ok (.bipush 64, 2) := by decide +kernel
theorem dX6_keep_5 : decode cX6_keep 5 = .ok (.if_icmp .ge 33, 3) := by decide +kernel
theorem dX6_keep_8 : decode cX6_keep 8 = .ok (.aload_n 0, 1) := by decide +kernel
theorem dX6_keep_9 : decode cX6_keep 9 = .ok (.getfield 47, 3) := by decide +kernel
theorem dX6_keep_12 : decode cX6_keep 12 = .ok (.iload_n 1, 1) := by decide +kernel
theorem dX6_keep_13 : decode cX6_keep 13 = .ok (.aload_n 0, 1) := by decide +kernel
theorem dX6_keep_14 : decode cX6_keep 14 = .ok (.getfield 34, 3) := by decide +kernel
theorem dX6_keep_17 : decode cX6_keep 17 = .ok (.iload_n 1, 1) := by decide +kernel
theorem dX6_keep_18 : decode cX6_keep 18 = .ok (.iaload, 1) := by decide +kernel
theorem dX6_keep_19 : decode cX6_keep 19 = .ok (.iastore, 1) := by decide +kernel
theorem dX6_keep_20 : decode cX6_keep 20 = .ok (.aload_n 0, 1) := by decide +kernel
theorem dX6_keep_21 : decode cX6_keep 21 = .ok (.getfield 50, 3) := by decide +kernel
theorem dX6_keep_24 : decode cX6_keep 24 = .ok (.iload_n 1, 1) := by decide +kernel
theorem dX6_keep_25 : decode cX6_keep 25 = .ok (.aload_n 0, 1) := by decide +kernel
theorem dX6_keep_26 : decode cX6_keep 26 = .ok (.getfield 37, 3) := by decide +kernel
theorem dX6_keep_29 : decode cX6_keep 29 = .ok (.iload_n 1, 1) := by decide +kernel
theorem dX6_keep_30 : decode cX6_keep 30 = .ok (.iaload, 1) := by decide +kernel
theorem dX6_keep_31 : decode cX6_keep 31 = .ok (.iastore, 1) := by decide +kernel
theorem dX6_keep_32 : decode cX6_keep 32 = .ok (.iinc 1 1, 3) := by decide +kernel
theorem dX6_keep_35 : decode cX6_keep 35 = .ok (.goto (-33), 3) := by decide +kernel
theorem dX6_keep_38 : decode cX6_keep 38 = .ok (.return_, 1) := by decide +kernel
theorem dX6_restore_0 : decode cX6_restore 0 = .ok (.iconst 0, 1) := by decide +kernel
theorem dX6_restore_1 : decode cX6_restore 1 = .ok (.istore_n 1, 1) := by decide +kernel
theorem dX6_restore_2 : decode cX6_restore 2 = .ok (.iload_n 1, 1) := by decide +kernel
theorem dX6_restore_3 : decode cX6_restore 3 = .ok (.bipush 64, 2) := by decide +kernel
theorem dX6_restore_5 : decode cX6_restore 5 = .ok (.if_icmp .ge 33, 3) := by decide +kernel
theorem dX6_restore_8 : decode cX6_restore 8 = .ok (.aload_n 0, 1) := by decide +kernel
theorem dX6_restore_9 : decode cX6_restore 9 = .ok (.getfield 34, 3) := by decide +kernel
theorem dX6_restore_12 : decode cX6_restore 12 = .ok (.iload_n 1, 1) := by decide +kernel
theorem dX6_restore_13 : decode cX6_restore 13 = .ok (.aload_n 0, 1) := by decide +kernel
theorem dX6_restore_14 : decode cX6_restore 14 = .ok (.getfield 47, 3) := by decide +kernel
theorem dX6_restore_17 : decode cX6_restore 17 = .ok (.iload_n 1, 1) := by decide +kernel
theorem dX6_restore_18 : decode cX6_restore 18 = .ok (.iaload, 1) := by decide +kernel
theorem dX6_restore_19 : decode cX6_restore 19 = .ok (.iastore, 1) := by decide +kernel
theorem dX6_restore_20 : decode cX6_restore 20 = .ok (.aload_n 0, 1) := by decide +kernel
theorem dX6_restore_21 : decode cX6_restore 21 = .ok (.getfield 37, 3) := by decide +kernel
theorem dX6_restore_24 : decode cX6_restore 24 = .ok (.iload_n 1, 1) := by decide +kernel
theorem dX6_restore_25 : decode cX6_restore 25 = .ok (.aload_n 0, 1) := by decide +kernel
theorem dX6_restore_26 : decode cX6_restore 26 = .ok (.getfield 50, 3) := by decide +kernel
theorem dX6_restore_29 : decode cX6_restore 29 = .ok (.iload_n 1, 1) := by decide +kernel
theorem dX6_restore_30 : decode cX6_restore 30 = .ok (.iaload, 1) := by decide +kernel
theorem dX6_restore_31 : decode cX6_restore 31 = .ok (.iastore, 1) := by decide +kernel
theorem dX6_restore_32 : decode cX6_restore 32 = .ok (.iinc 1 1, 3) := by decide +kernel
theorem dX6_restore_35 : decode cX6_restore 35 = .ok (.goto (-33), 3) := by decide +kernel
theorem dX6_restore_38 : decode cX6_restore 38 = .ok (.return_, 1) := by decide +kernel
theorem dX6_note_0 : decode cX6_note 0 = .ok (.iconst 0, 1) := by decide +kernel
theorem dX6_note_1 : decode cX6_note 1 = .ok (.istore_n 1, 1) := by decide +kernel
theorem dX6_note_2 : decode cX6_note 2 = .ok (.iconst 0, 1) := by decide +kernel
theorem dX6_note_3 : decode cX6_note 3 = .ok (.istore_n 2, 1) := by decide +kernel
theorem dX6_note_4 : decode cX6_note 4 = .ok (.iload_n 2, 1) := by decide +kernel
theorem dX6_note_5 : decode cX6_note 5 = .ok (.bipush 64, 2) := by decide +kernel
theorem dX6_note_7 : decode cX6_note 7 = .ok (.if_icmp .ge 49, 3) := by decide +kernel
theorem dX6_note_10 : decode cX6_note 10 = .ok (.iload_n 1, 1) := by decide +kernel
theorem dX6_note_11 : decode cX6_note 11 = .ok (.ifCond .ne 33, 3) := by decide +kernel
theorem dX6_note_14 : decode cX6_note 14 = .ok (.aload_n 0, 1) := by decide +kernel
theorem dX6_note_15 : decode cX6_note 15 = .ok (.getfield 47, 3) := by decide +kernel
theorem dX6_note_18 : decode cX6_note 18 = .ok (.iload_n 2, 1) := by decide +kernel
theorem dX6_note_19 : decode cX6_note 19 = .ok (.iaload, 1) := by decide +kernel
theorem dX6_note_20 : decode cX6_note 20 = .ok (.aload_n 0, 1) := by decide +kernel
theorem dX6_note_21 : decode cX6_note 21 = .ok (.getfield 34, 3) := by decide +kernel
theorem dX6_note_24 : decode cX6_note 24 = .ok (.iload_n 2, 1) := by decide +kernel
theorem dX6_note_25 : decode cX6_note 25 = .ok (.iaload, 1) := by decide +kernel
theorem dX6_note_26 : decode cX6_note 26 = .ok (.if_icmp .ne 18, 3) := by decide +kernel
theorem dX6_note_29 : decode cX6_note 29 = .ok (.aload_n 0, 1) := by decide +kernel
theorem dX6_note_30 : decode cX6_note 30 = .ok (.getfield 50, 3) := by decide +kernel
theorem dX6_note_33 : decode cX6_note 33 = .ok (.iload_n 2, 1) := by decide +kernel
theorem dX6_note_34 : decode cX6_note 34 = .ok (.iaload, 1) := by decide +kernel
theorem dX6_note_35 : decode cX6_note 35 = .ok (.aload_n 0, 1) := by decide +kernel
theorem dX6_note_36 : decode cX6_note 36 = .ok (.getfield 37, 3) := by decide +kernel
theorem dX6_note_39 : decode cX6_note 39 = .ok (.iload_n 2, 1) := by decide +kernel
theorem dX6_note_40 : decode cX6_note 40 = .ok (.iaload, 1) := by decide +kernel
theorem dX6_note_41 : decode cX6_note 41 = .ok (.if_icmp .eq 7, 3) := by decide +kernel
theorem dX6_note_44 : decode cX6_note 44 = .ok (.iconst 1, 1) := by decide +kernel
theorem dX6_note_45 : decode cX6_note 45 = .ok (.goto 4, 3) := by decide +kernel
theorem dX6_note_48 : decode cX6_note 48 = .ok (.iconst 0, 1) := by decide +kernel
theorem dX6_note_49 : decode cX6_note 49 = .ok (.istore_n 1, 1) := by decide +kernel
theorem dX6_note_50 : decode cX6_note 50 = .ok (.iinc 2 1, 3) := by decide +kernel
theorem dX6_note_53 : decode cX6_note 53 = .ok (.goto (-49), 3) := by decide +kernel
theorem dX6_note_56 : decode cX6_note 56 = .ok (.iload_n 1, 1) := by decide +kernel
theorem dX6_note_57 : decode cX6_note 57 = .ok (.ifCond .ne 4, 3) := by decide +kernel
theorem dX6_note_60 : decode cX6_note 60 = .ok (.return_, 1) := by decide +kernel
theorem dX6_note_61 : decode cX6_note 61 = .ok (.aload_n 0, 1) := by decide +kernel
theorem dX6_note_62 : decode cX6_note 62 = .ok (.getfield 116, 3) := by decide +kernel
theorem dX6_note_65 : decode cX6_note 65 = .ok (.bipush 20, 2) := by decide +kernel
theorem dX6_note_67 : decode cX6_note 67 = .ok (.if_icmp .ne 58, 3) := by decide +kernel
theorem dX6_note_70 : decode cX6_note 70 = .ok (.iconst 0, 1) := by decide +kernel
theorem dX6_note_71 : decode cX6_note 71 = .ok (.istore_n 2, 1) := by decide +kernel
theorem dX6_note_72 : decode cX6_note 72 = .ok (.iload_n 2, 1) := by decide +kernel
theorem dX6_note_73 : decode cX6_note 73 = .ok (.sipush 1216, 3) := by decide +kernel
theorem dX6_note_76 : decode cX6_note 76 = .ok (.if_icmp .ge 39, 3) := by decide +kernel
theorem dX6_note_79 : decode cX6_note 79 = .ok (.aload_n 0, 1) := by decide +kernel
theorem dX6_note_80 : decode cX6_note 80 = .ok (.getfield 53, 3) := by decide +kernel
theorem dX6_note_83 : decode cX6_note 83 = .ok (.iload_n 2, 1) := by decide +kernel
theorem dX6_note_84 : decode cX6_note 84 = .ok (.aload_n 0, 1) := by decide +kernel
theorem dX6_note_85 : decode cX6_note 85 = .ok (.getfield 53, 3) := by decide +kernel
theorem dX6_note_88 : decode cX6_note 88 = .ok (.iload_n 2, 1) := by decide +kernel
theorem dX6_note_89 : decode cX6_note 89 = .ok (.bipush 64, 2) := by decide +kernel
theorem dX6_note_91 : decode cX6_note 91 = .ok (.iadd, 1) := by decide +kernel
theorem dX6_note_92 : decode cX6_note 92 = .ok (.iaload, 1) := by decide +kernel
theorem dX6_note_93 : decode cX6_note 93 = .ok (.iastore, 1) := by decide +kernel
theorem dX6_note_94 : decode cX6_note 94 = .ok (.aload_n 0, 1) := by decide +kernel
theorem dX6_note_95 : decode cX6_note 95 = .ok (.getfield 56, 3) := by decide +kernel
theorem dX6_note_98 : decode cX6_note 98 = .ok (.iload_n 2, 1) := by decide +kernel
theorem dX6_note_99 : decode cX6_note 99 = .ok (.aload_n 0, 1) := by decide +kernel
theorem dX6_note_100 : decode cX6_note 100 = .ok (.getfield 56, 3) := by decide +kernel
theorem dX6_note_103 : decode cX6_note 103 = .ok (.iload_n 2, 1) := by decide +kernel
theorem dX6_note_104 : decode cX6_note 104 = .ok (.bipush 64, 2) := by decide +kernel
theorem dX6_note_106 : decode cX6_note 106 = .ok (.iadd, 1) := by decide +kernel
theorem dX6_note_107 : decode cX6_note 107 = .ok (.iaload, 1) := by decide +kernel
theorem dX6_note_108 : decode cX6_note 108 = .ok (.iastore, 1) := by decide +kernel
theorem dX6_note_109 : decode cX6_note 109 = .ok (.iinc 2 1, 3) := by decide +kernel
theorem dX6_note_112 : decode cX6_note 112 = .ok (.goto (-40), 3) := by decide +kernel
theorem dX6_note_115 : decode cX6_note 115 = .ok (.aload_n 0, 1) := by decide +kernel
theorem dX6_note_116 : decode cX6_note 116 = .ok (.dup, 1) := by decide +kernel
theorem dX6_note_117 : decode cX6_note 117 = .ok (.getfield 116, 3) := by decide +kernel
theorem dX6_note_120 : decode cX6_note 120 = .ok (.iconst 1, 1) := by decide +kernel
theorem dX6_note_121 : decode cX6_note 121 = .ok (.isub, 1) := by decide +kernel
theorem dX6_note_122 : decode cX6_note 122 = .ok (.putfield 116, 3) := by decide +kernel
theorem dX6_note_125 : decode cX6_note 125 = .ok (.iconst 0, 1) := by decide +kernel
theorem dX6_note_126 : decode cX6_note 126 = .ok (.istore_n 2, 1) := by decide +kernel
theorem dX6_note_127 : decode cX6_note 127 = .ok (.iload_n 2, 1) := by decide +kernel
theorem dX6_note_128 : decode cX6_note 128 = .ok (.bipush 64, 2) := by decide +kernel
theorem dX6_note_130 : decode cX6_note 130 = .ok (.if_icmp .ge 49, 3) := by decide +kernel
theorem dX6_note_133 : decode cX6_note 133 = .ok (.aload_n 0, 1) := by decide +kernel
theorem dX6_note_134 : decode cX6_note 134 = .ok (.getfield 53, 3) := by decide +kernel
theorem dX6_note_137 : decode cX6_note 137 = .ok (.bipush 64, 2) := by decide +kernel
theorem dX6_note_139 : decode cX6_note 139 = .ok (.aload_n 0, 1) := by decide +kernel
theorem dX6_note_140 : decode cX6_note 140 = .ok (.getfield 116, 3) := by decide +kernel
theorem dX6_note_143 : decode cX6_note 143 = .ok (.imul, 1) := by decide +kernel
theorem dX6_note_144 : decode cX6_note 144 = .ok (.iload_n 2, 1) := by decide +kernel
theorem dX6_note_145 : decode cX6_note 145 = .ok (.iadd, 1) := by decide +kernel
theorem dX6_note_146 : decode cX6_note 146 = .ok (.aload_n 0, 1) := by decide +kernel
theorem dX6_note_147 : decode cX6_note 147 = .ok (.getfield 47, 3) := by decide +kernel
theorem dX6_note_150 : decode cX6_note 150 = .ok (.iload_n 2, 1) := by decide +kernel
theorem dX6_note_151 : decode cX6_note 151 = .ok (.iaload, 1) := by decide +kernel
theorem dX6_note_152 : decode cX6_note 152 = .ok (.iastore, 1) := by decide +kernel
theorem dX6_note_153 : decode cX6_note 153 = .ok (.aload_n 0, 1) := by decide +kernel
theorem dX6_note_154 : decode cX6_note 154 = .ok (.getfield 56, 3) := by decide +kernel
theorem dX6_note_157 : decode cX6_note 157 = .ok (.bipush 64, 2) := by decide +kernel
theorem dX6_note_159 : decode cX6_note 159 = .ok (.aload_n 0, 1) := by decide +kernel
theorem dX6_note_160 : decode cX6_note 160 = .ok (.getfield 116, 3) := by decide +kernel
theorem dX6_note_163 : decode cX6_note 163 = .ok (.imul, 1) := by decide +kernel
theorem dX6_note_164 : decode cX6_note 164 = .ok (.iload_n 2, 1) := by decide +kernel
theorem dX6_note_165 : decode cX6_note 165 = .ok (.iadd, 1) := by decide +kernel
theorem dX6_note_166 : decode cX6_note 166 = .ok (.aload_n 0, 1) := by decide +kernel
theorem dX6_note_167 : decode cX6_note 167 = .ok (.getfield 50, 3) := by decide +kernel
theorem dX6_note_170 : decode cX6_note 170 = .ok (.iload_n 2, 1) := by decide +kernel
theorem dX6_note_171 : decode cX6_note 171 = .ok (.iaload, 1) := by decide +kernel
theorem dX6_note_172 : decode cX6_note 172 = .ok (.iastore, 1) := by decide +kernel
theorem dX6_note_173 : decode cX6_note 173 = .ok (.iinc 2 1, 3) := by decide +kernel
theorem dX6_note_176 : decode cX6_note 176 = .ok (.goto (-49), 3) := by decide +kernel
theorem dX6_note_179 : decode cX6_note 179 = .ok (.aload_n 0, 1) := by decide +kernel
theorem dX6_note_180 : decode cX6_note 180 = .ok (.dup, 1) := by decide +kernel
theorem dX6_note_181 : decode cX6_note 181 = .ok (.getfield 116, 3) := by decide +kernel
theorem dX6_note_184 : decode cX6_note 184 = .ok (.iconst 1, 1) := by decide +kernel
theorem dX6_note_185 : decode cX6_note 185 = .ok (.iadd, 1) := by decide +kernel
theorem dX6_note_186 : decode cX6_note 186 = .ok (.putfield 116, 3) := by decide +kernel
theorem dX6_note_189 : decode cX6_note 189 = .ok (.return_, 1) := by decide +kernel
theorem dX6_undo_0 : decode cX6_undo 0 = .ok (.aload_n 0, 1) := by decide +kernel
theorem dX6_undo_1 : decode cX6_undo 1 = .ok (.aload_n 0, 1) := by decide +kernel
theorem dX6_undo_2 : decode cX6_undo 2 = .ok (.getfield 116, 3) := by decide +kernel
theorem dX6_undo_5 : decode cX6_undo 5 = .ok (.ifCond .ne 7, 3) := by decide +kernel
theorem dX6_undo_8 : decode cX6_undo 8 = .ok (.iconst 1, 1) := by decide +kernel
theorem dX6_undo_9 : decode cX6_undo 9 = .ok (.goto 4, 3) := by decide +kernel
theorem dX6_undo_12 : decode cX6_undo 12 = .ok (.iconst 0, 1) := by decide +kernel
theorem dX6_undo_13 : decode cX6_undo 13 = .ok (.iconst 0, 1) := by decide +kernel
theorem dX6_undo_14 : decode cX6_undo 14 = .ok (.invokevirtual 90, 3) := by decide +kernel
theorem dX6_undo_17 : decode cX6_undo 17 = .ok (.ifCond .eq 5, 3) := by decide +kernel
theorem dX6_undo_20 : decode cX6_undo 20 = .ok (.iconst 0, 1) := by decide +kernel
theorem dX6_undo_21 : decode cX6_undo 21 = .ok (.ireturn, 1) := by decide +kernel
theorem dX6_undo_22 : decode cX6_undo 22 = .ok (.aload_n 0, 1) := by decide +kernel
theorem dX6_undo_23 : decode cX6_undo 23 = .ok (.dup, 1) := by decide +kernel
theorem dX6_undo_24 : decode cX6_undo 24 = .ok (.getfield 116, 3) := by decide +kernel
theorem dX6_undo_27 : decode cX6_undo 27 = .ok (.iconst 1, 1) := by decide +kernel
theorem dX6_undo_28 : decode cX6_undo 28 = .ok (.isub, 1) := by decide +kernel
theorem dX6_undo_29 : decode cX6_undo 29 = .ok (.putfield 116, 3) := by decide +kernel
theorem dX6_undo_32 : decode cX6_undo 32 = .ok (.iconst 0, 1) := by decide +kernel
theorem dX6_undo_33 : decode cX6_undo 33 = .ok (.istore_n 1, 1) := by decide +kernel
theorem dX6_undo_34 : decode cX6_undo 34 = .ok (.iload_n 1, 1) := by decide +kernel
theorem dX6_undo_35 : decode cX6_undo 35 = .ok (.bipush 64, 2) := by decide +kernel
theorem dX6_undo_37 : decode cX6_undo 37 = .ok (.if_icmp .ge 49, 3) := by decide +kernel
theorem dX6_undo_40 : decode cX6_undo 40 = .ok (.aload_n 0, 1) := by decide +kernel
theorem dX6_undo_41 : decode cX6_undo 41 = .ok (.getfield 34, 3) := by decide +kernel
theorem dX6_undo_44 : decode cX6_undo 44 = .ok (.iload_n 1, 1) := by decide +kernel
theorem dX6_undo_45 : decode cX6_undo 45 = .ok (.aload_n 0, 1) := by decide +kernel
theorem dX6_undo_46 : decode cX6_undo 46 = .ok (.getfield 53, 3) := by decide +kernel
theorem dX6_undo_49 : decode cX6_undo 49 = .ok (.bipush 64, 2) := by decide +kernel
theorem dX6_undo_51 : decode cX6_undo 51 = .ok (.aload_n 0, 1) := by decide +kernel
theorem dX6_undo_52 : decode cX6_undo 52 = .ok (.getfield 116, 3) := by decide +kernel
theorem dX6_undo_55 : decode cX6_undo 55 = .ok (.imul, 1) := by decide +kernel
theorem dX6_undo_56 : decode cX6_undo 56 = .ok (.iload_n 1, 1) := by decide +kernel
theorem dX6_undo_57 : decode cX6_undo 57 = .ok (.iadd, 1) := by decide +kernel
theorem dX6_undo_58 : decode cX6_undo 58 = .ok (.iaload, 1) := by decide +kernel
theorem dX6_undo_59 : decode cX6_undo 59 = .ok (.iastore, 1) := by decide +kernel
theorem dX6_undo_60 : decode cX6_undo 60 = .ok (.aload_n 0, 1) := by decide +kernel
theorem dX6_undo_61 : decode cX6_undo 61 = .ok (.getfield 37, 3) := by decide +kernel
theorem dX6_undo_64 : decode cX6_undo 64 = .ok (.iload_n 1, 1) := by decide +kernel
theorem dX6_undo_65 : decode cX6_undo 65 = .ok (.aload_n 0, 1) := by decide +kernel
theorem dX6_undo_66 : decode cX6_undo 66 = .ok (.getfield 56, 3) := by decide +kernel
theorem dX6_undo_69 : decode cX6_undo 69 = .ok (.bipush 64, 2) := by decide +kernel
theorem dX6_undo_71 : decode cX6_undo 71 = .ok (.aload_n 0, 1) := by decide +kernel
theorem dX6_undo_72 : decode cX6_undo 72 = .ok (.getfield 116, 3) := by decide +kernel
theorem dX6_undo_75 : decode cX6_undo 75 = .ok (.imul, 1) := by decide +kernel
theorem dX6_undo_76 : decode cX6_undo 76 = .ok (.iload_n 1, 1) := by decide +kernel
theorem dX6_undo_77 : decode cX6_undo 77 = .ok (.iadd, 1) := by decide +kernel
theorem dX6_undo_78 : decode cX6_undo 78 = .ok (.iaload, 1) := by decide +kernel
theorem dX6_undo_79 : decode cX6_undo 79 = .ok (.iastore, 1) := by decide +kernel
theorem dX6_undo_80 : decode cX6_undo 80 = .ok (.iinc 1 1, 3) := by decide +kernel
theorem dX6_undo_83 : decode cX6_undo 83 = .ok (.goto (-49), 3) := by decide +kernel
theorem dX6_undo_86 : decode cX6_undo 86 = .ok (.aload_n 0, 1) := by decide +kernel
theorem dX6_undo_87 : decode cX6_undo 87 = .ok (.getfield 116, 3) := by decide +kernel
theorem dX6_undo_90 : decode cX6_undo 90 = .ok (.ireturn, 1) := by decide +kernel
theorem dX6_place_0 : decode cX6_place 0 = .ok (.aload_n 0, 1) := by decide +kernel
theorem dX6_place_1 : decode cX6_place 1 = .ok (.iload_n 1, 1) := by decide +kernel
theorem dX6_place_2 : decode cX6_place 2 = .ok (.iload_n 2, 1) := by decide +kernel
theorem dX6_place_3 : decode cX6_place 3 = .ok (.invokevirtual 119, 3) := by decide +kernel
theorem dX6_place_6 : decode cX6_place 6 = .ok (.ifCond .eq 11, 3) := by decide +kernel
theorem dX6_place_9 : decode cX6_place 9 = .ok (.aload_n 0, 1) := by decide +kernel
theorem dX6_place_10 : decode cX6_place 10 = .ok (.iload_n 3, 1) := by decide +kernel
theorem dX6_place_11 : decode cX6_place 11 = .ok (.invokevirtual 94, 3) := by decide +kernel
theorem dX6_place_14 : decode cX6_place 14 = .ok (.ifCond .ne 7, 3) := by decide +kernel
theorem dX6_place_17 : decode cX6_place 17 = .ok (.iconst 1, 1) := by decide +kernel
theorem dX6_place_18 : decode cX6_place 18 = .ok (.goto 4, 3) := by decide +kernel
theorem dX6_place_21 : decode cX6_place 21 = .ok (.iconst 0, 1) := by decide +kernel
theorem dX6_place_22 : decode cX6_place 22 = .ok (.istore 4, 2) := by decide +kernel
theorem dX6_place_24 : decode cX6_place 24 = .ok (.aload_n 0, 1) := by decide +kernel
theorem dX6_place_25 : decode cX6_place 25 = .ok (.iload 4, 2) := by decide +kernel
theorem dX6_place_27 : decode cX6_place 27 = .ok (.iload 4, 2) := by decide +kernel
theorem dX6_place_29 : decode cX6_place 29 = .ok (.ifCond .ne 20, 3) := by decide +kernel
theorem dX6_place_32 : decode cX6_place 32 = .ok (.aload_n 0, 1) := by decide +kernel
theorem dX6_place_33 : decode cX6_place 33 = .ok (.getfield 34, 3) := by decide +kernel
theorem dX6_place_36 : decode cX6_place 36 = .ok (.iconst 4, 1) := by decide +kernel
theorem dX6_place_37 : decode cX6_place 37 = .ok (.iload_n 1, 1) := by decide +kernel
theorem dX6_place_38 : decode cX6_place 38 = .ok (.imul, 1) := by decide +kernel
theorem dX6_place_39 : decode cX6_place 39 = .ok (.iload_n 2, 1) := by decide +kernel
theorem dX6_place_40 : decode cX6_place 40 = .ok (.iadd, 1) := by decide +kernel
theorem dX6_place_41 : decode cX6_place 41 = .ok (.iaload, 1) := by decide +kernel
theorem dX6_place_42 : decode cX6_place 42 = .ok (.ifCond .lt 7, 3) := by decide +kernel
theorem dX6_place_45 : decode cX6_place 45 = .ok (.iconst 1, 1) := by decide +kernel
theorem dX6_place_46 : decode cX6_place 46 = .ok (.goto 4, 3) := by decide +kernel
theorem dX6_place_49 : decode cX6_place 49 = .ok (.iconst 0, 1) := by decide +kernel
theorem dX6_place_50 : decode cX6_place 50 = .ok (.invokevirtual 90, 3) := by decide +kernel
theorem dX6_place_53 : decode cX6_place 53 = .ok (.ifCond .eq 5, 3) := by decide +kernel
theorem dX6_place_56 : decode cX6_place 56 = .ok (.iconst 0, 1) := by decide +kernel
theorem dX6_place_57 : decode cX6_place 57 = .ok (.ireturn, 1) := by decide +kernel
theorem dX6_place_58 : decode cX6_place 58 = .ok (.aload_n 0, 1) := by decide +kernel
theorem dX6_place_59 : decode cX6_place 59 = .ok (.iconst 4, 1) := by decide +kernel
theorem dX6_place_60 : decode cX6_place 60 = .ok (.iload_n 1, 1) := by decide +kernel
theorem dX6_place_61 : decode cX6_place 61 = .ok (.imul, 1) := by decide +kernel
theorem dX6_place_62 : decode cX6_place 62 = .ok (.iload_n 2, 1) := by decide +kernel
theorem dX6_place_63 : decode cX6_place 63 = .ok (.iadd, 1) := by decide +kernel
theorem dX6_place_64 : decode cX6_place 64 = .ok (.iload_n 3, 1) := by decide +kernel
theorem dX6_place_65 : decode cX6_place 65 = .ok (.invokevirtual 122, 3) := by decide +kernel
theorem dX6_place_68 : decode cX6_place 68 = .ok (.istore 5, 2) := by decide +kernel
theorem dX6_place_70 : decode cX6_place 70 = .ok (.iload 5, 2) := by decide +kernel
theorem dX6_place_72 : decode cX6_place 72 = .ok (.ifCond .le 6, 3) := by decide +kernel
theorem dX6_place_75 : decode cX6_place 75 = .ok (.iload 5, 2) := by decide +kernel
theorem dX6_place_77 : decode cX6_place 77 = .ok (.ireturn, 1) := by decide +kernel
theorem dX6_place_78 : decode cX6_place 78 = .ok (.aload_n 0, 1) := by decide +kernel
theorem dX6_place_79 : decode cX6_place 79 = .ok (.invokevirtual 125, 3) := by decide +kernel
theorem dX6_place_82 : decode cX6_place 82 = .ok (.aload_n 0, 1) := by decide +kernel
theorem dX6_place_83 : decode cX6_place 83 = .ok (.iconst 4, 1) := by decide +kernel
theorem dX6_place_84 : decode cX6_place 84 = .ok (.iload_n 1, 1) := by decide +kernel
theorem dX6_place_85 : decode cX6_place 85 = .ok (.imul, 1) := by decide +kernel
theorem dX6_place_86 : decode cX6_place 86 = .ok (.iload_n 2, 1) := by decide +kernel
theorem dX6_place_87 : decode cX6_place 87 = .ok (.iadd, 1) := by decide +kernel
theorem dX6_place_88 : decode cX6_place 88 = .ok (.iload_n 3, 1) := by decide +kernel
theorem dX6_place_89 : decode cX6_place 89 = .ok (.invokevirtual 128, 3) := by decide +kernel
theorem dX6_place_92 : decode cX6_place 92 = .ok (.aload_n 0, 1) := by decide +kernel
theorem dX6_place_93 : decode cX6_place 93 = .ok (.invokevirtual 132, 3) := by decide +kernel
theorem dX6_place_96 : decode cX6_place 96 = .ok (.iconst 0, 1) := by decide +kernel
theorem dX6_place_97 : decode cX6_place 97 = .ok (.ireturn, 1) := by decide +kernel
theorem dX6_drop_0 : decode cX6_drop 0 = .ok (.aload_n 0, 1) := by decide +kernel
theorem dX6_drop_1 : decode cX6_drop 1 = .ok (.iload_n 1, 1) := by decide +kernel
theorem dX6_drop_2 : decode cX6_drop 2 = .ok (.iload_n 2, 1) := by decide +kernel
theorem dX6_drop_3 : decode cX6_drop 3 = .ok (.invokevirtual 119, 3) := by decide +kernel
theorem dX6_drop_6 : decode cX6_drop 6 = .ok (.ifCond .ne 7, 3) := by decide +kernel
theorem dX6_drop_9 : decode cX6_drop 9 = .ok (.iconst 1, 1) := by decide +kernel
theorem dX6_drop_10 : decode cX6_drop 10 = .ok (.goto 4, 3) := by decide +kernel
theorem dX6_drop_13 : decode cX6_drop 13 = .ok (.iconst 0, 1) := by decide +kernel
theorem dX6_drop_14 : decode cX6_drop 14 = .ok (.istore_n 3, 1) := by decide +kernel
theorem dX6_drop_15 : decode cX6_drop 15 = .ok (.aload_n 0, 1) := by decide +kernel
theorem dX6_drop_16 : decode cX6_drop 16 = .ok (.iload_n 3, 1) := by decide +kernel
theorem dX6_drop_17 : decode cX6_drop 17 = .ok (.iload_n 3, 1) := by decide +kernel
theorem dX6_drop_18 : decode cX6_drop 18 = .ok (.ifCond .ne 20, 3) := by decide +kernel
theorem dX6_drop_21 : decode cX6_drop 21 = .ok (.aload_n 0, 1) := by decide +kernel
theorem dX6_drop_22 : decode cX6_drop 22 = .ok (.getfield 34, 3) := by decide +kernel
theorem dX6_drop_25 : decode cX6_drop 25 = .ok (.iconst 4, 1) := by decide +kernel
theorem dX6_drop_26 : decode cX6_drop 26 = .ok (.iload_n 1, 1) := by decide +kernel
theorem dX6_drop_27 : decode cX6_drop 27 = .ok (.imul, 1) := by decide +kernel
theorem dX6_drop_28 : decode cX6_drop 28 = .ok (.iload_n 2, 1) := by decide +kernel
theorem dX6_drop_29 : decode cX6_drop 29 = .ok (.iadd, 1) := by decide +kernel
theorem dX6_drop_30 : decode cX6_drop 30 = .ok (.iaload, 1) := by decide +kernel
theorem dX6_drop_31 : decode cX6_drop 31 = .ok (.ifCond .ge 7, 3) := by decide +kernel
theorem dX6_drop_34 : decode cX6_drop 34 = .ok (.iconst 1, 1) := by decide +kernel
theorem dX6_drop_35 : decode cX6_drop 35 = .ok (.goto 4, 3) := by decide +kernel
theorem dX6_drop_38 : decode cX6_drop 38 = .ok (.iconst 0, 1) := by decide +kernel
theorem dX6_drop_39 : decode cX6_drop 39 = .ok (.invokevirtual 90, 3) := by decide +kernel
theorem dX6_drop_42 : decode cX6_drop 42 = .ok (.ifCond .eq 5, 3) := by decide +kernel
theorem dX6_drop_45 : decode cX6_drop 45 = .ok (.iconst 0, 1) := by decide +kernel
theorem dX6_drop_46 : decode cX6_drop 46 = .ok (.ireturn, 1) := by decide +kernel
theorem dX6_drop_47 : decode cX6_drop 47 = .ok (.aload_n 0, 1) := by decide +kernel
theorem dX6_drop_48 : decode cX6_drop 48 = .ok (.getfield 34, 3) := by decide +kernel
theorem dX6_drop_51 : decode cX6_drop 51 = .ok (.iconst 4, 1) := by decide +kernel
theorem dX6_drop_52 : decode cX6_drop 52 = .ok (.iload_n 1, 1) := by decide +kernel
theorem dX6_drop_53 : decode cX6_drop 53 = .ok (.imul, 1) := by decide +kernel
theorem dX6_drop_54 : decode cX6_drop 54 = .ok (.iload_n 2, 1) := by decide +kernel
theorem dX6_drop_55 : decode cX6_drop 55 = .ok (.iadd, 1) := by decide +kernel
theorem dX6_drop_56 : decode cX6_drop 56 = .ok (.iaload, 1) := by decide +kernel
theorem dX6_drop_57 : decode cX6_drop 57 = .ok (.istore 4, 2) := by decide +kernel
theorem dX6_drop_59 : decode cX6_drop 59 = .ok (.aload_n 0, 1) := by decide +kernel
theorem dX6_drop_60 : decode cX6_drop 60 = .ok (.invokevirtual 125, 3) := by decide +kernel
theorem dX6_drop_63 : decode cX6_drop 63 = .ok (.aload_n 0, 1) := by decide +kernel
theorem dX6_drop_64 : decode cX6_drop 64 = .ok (.iconst 4, 1) := by decide +kernel
theorem dX6_drop_65 : decode cX6_drop 65 = .ok (.iload_n 1, 1) := by decide +kernel
theorem dX6_drop_66 : decode cX6_drop 66 = .ok (.imul, 1) := by decide +kernel
theorem dX6_drop_67 : decode cX6_drop 67 = .ok (.iload_n 2, 1) := by decide +kernel
theorem dX6_drop_68 : decode cX6_drop 68 = .ok (.iadd, 1) := by decide +kernel
theorem dX6_drop_69 : decode cX6_drop 69 = .ok (.invokevirtual 135, 3) := by decide +kernel
theorem dX6_drop_72 : decode cX6_drop 72 = .ok (.aload_n 0, 1) := by decide +kernel
theorem dX6_drop_73 : decode cX6_drop 73 = .ok (.invokevirtual 132, 3) := by decide +kernel
theorem dX6_drop_76 : decode cX6_drop 76 = .ok (.iload 4, 2) := by decide +kernel
theorem dX6_drop_78 : decode cX6_drop 78 = .ok (.ireturn, 1) := by decide +kernel
theorem dX6_fill_0 : decode cX6_fill 0 = .ok (.aload_n 0, 1) := by decide +kernel
theorem dX6_fill_1 : decode cX6_fill 1 = .ok (.iload_n 1, 1) := by decide +kernel
theorem dX6_fill_2 : decode cX6_fill 2 = .ok (.iconst 1, 1) := by decide +kernel
theorem dX6_fill_3 : decode cX6_fill 3 = .ok (.sipush 20000, 3) := by decide +kernel
theorem dX6_fill_6 : decode cX6_fill 6 = .ok (.invokestatic 72, 3) := by decide +kernel
theorem dX6_fill_9 : decode cX6_fill 9 = .ok (.ifCond .ne 7, 3) := by decide +kernel
theorem dX6_fill_12 : decode cX6_fill 12 = .ok (.iconst 1, 1) := by decide +kernel
theorem dX6_fill_13 : decode cX6_fill 13 = .ok (.goto 4, 3) := by decide +kernel
theorem dX6_fill_16 : decode cX6_fill 16 = .ok (.iconst 0, 1) := by decide +kernel
theorem dX6_fill_17 : decode cX6_fill 17 = .ok (.iconst 0, 1) := by decide +kernel
theorem dX6_fill_18 : decode cX6_fill 18 = .ok (.invokevirtual 90, 3) := by decide +kernel
theorem dX6_fill_21 : decode cX6_fill 21 = .ok (.ifCond .eq 5, 3) := by decide +kernel
theorem dX6_fill_24 : decode cX6_fill 24 = .ok (.iconst 0, 1) := by decide +kernel
theorem dX6_fill_25 : decode cX6_fill 25 = .ok (.ireturn, 1) := by decide +kernel
theorem dX6_fill_26 : decode cX6_fill 26 = .ok (.aload_n 0, 1) := by decide +kernel
theorem dX6_fill_27 : decode cX6_fill 27 = .ok (.invokevirtual 125, 3) := by decide +kernel
theorem dX6_fill_30 : decode cX6_fill 30 = .ok (.iconst 0, 1) := by decide +kernel
theorem dX6_fill_31 : decode cX6_fill 31 = .ok (.istore_n 2, 1) := by decide +kernel
theorem dX6_fill_32 : decode cX6_fill 32 = .ok (.iconst 0, 1) := by decide +kernel
theorem dX6_fill_33 : decode cX6_fill 33 = .ok (.istore_n 3, 1) := by decide +kernel
theorem dX6_fill_34 : decode cX6_fill 34 = .ok (.iload_n 3, 1) := by decide +kernel
theorem dX6_fill_35 : decode cX6_fill 35 = .ok (.aload_n 0, 1) := by decide +kernel
theorem dX6_fill_36 : decode cX6_fill 36 = .ok (.getfield 76, 3) := by decide +kernel
theorem dX6_fill_39 : decode cX6_fill 39 = .ok (.if_icmp .ge 58, 3) := by decide +kernel
theorem dX6_fill_42 : decode cX6_fill 42 = .ok (.iconst 0, 1) := by decide +kernel
theorem dX6_fill_43 : decode cX6_fill 43 = .ok (.istore 4, 2) := by decide +kernel
theorem dX6_fill_45 : decode cX6_fill 45 = .ok (.iload 4, 2) := by decide +kernel
theorem dX6_fill_47 : decode cX6_fill 47 = .ok (.aload_n 0, 1) := by decide +kernel
theorem dX6_fill_48 : decode cX6_fill 48 = .ok (.getfield 28, 3) := by decide +kernel
theorem dX6_fill_51 : decode cX6_fill 51 = .ok (.iload_n 3, 1) := by decide +kernel
theorem dX6_fill_52 : decode cX6_fill 52 = .ok (.iaload, 1) := by decide +kernel
theorem dX6_fill_53 : decode cX6_fill 53 = .ok (.if_icmp .ge 38, 3) := by decide +kernel
theorem dX6_fill_56 : decode cX6_fill 56 = .ok (.aload_n 0, 1) := by decide +kernel
theorem dX6_fill_57 : decode cX6_fill 57 = .ok (.getfield 34, 3) := by decide +kernel
theorem dX6_fill_60 : decode cX6_fill 60 = .ok (.iconst 4, 1) := by decide +kernel
theorem dX6_fill_61 : decode cX6_fill 61 = .ok (.iload_n 3, 1) := by decide +kernel
theorem dX6_fill_62 : decode cX6_fill 62 = .ok (.imul, 1) := by decide +kernel
theorem dX6_fill_63 : decode cX6_fill 63 = .ok (.iload 4, 2) := by decide +kernel
theorem dX6_fill_65 : decode cX6_fill 65 = .ok (.iadd, 1) := by decide +kernel
theorem dX6_fill_66 : decode cX6_fill 66 = .ok (.iaload, 1) := by decide +kernel
theorem dX6_fill_67 : decode cX6_fill 67 = .ok (.ifCond .ge 18, 3) := by decide +kernel
theorem dX6_fill_70 : decode cX6_fill 70 = .ok (.aload_n 0, 1) := by decide +kernel
theorem dX6_fill_71 : decode cX6_fill 71 = .ok (.getfield 44, 3) := by decide +kernel
theorem dX6_fill_74 : decode cX6_fill 74 = .ok (.iload_n 2, 1) := by decide +kernel
theorem dX6_fill_75 : decode cX6_fill 75 = .ok (.iconst 4, 1) := by decide +kernel
theorem dX6_fill_76 : decode cX6_fill 76 = .ok (.iload_n 3, 1) := by decide +kernel
theorem dX6_fill_77 : decode cX6_fill 77 = .ok (.imul, 1) := by decide +kernel
theorem dX6_fill_78 : decode cX6_fill 78 = .ok (.iload 4, 2) := by decide +kernel
theorem dX6_fill_80 : decode cX6_fill 80 = .ok (.iadd, 1) := by decide +kernel
theorem dX6_fill_81 : decode cX6_fill 81 = .ok (.iastore, 1) := by decide +kernel
theorem dX6_fill_82 : decode cX6_fill 82 = .ok (.iinc 2 1, 3) := by decide +kernel
theorem dX6_fill_85 : decode cX6_fill 85 = .ok (.iinc 4 1, 3) := by decide +kernel
theorem dX6_fill_88 : decode cX6_fill 88 = .ok (.goto (-43), 3) := by decide +kernel
theorem dX6_fill_91 : decode cX6_fill 91 = .ok (.iinc 3 1, 3) := by decide +kernel
theorem dX6_fill_94 : decode cX6_fill 94 = .ok (.goto (-60), 3) := by decide +kernel
theorem dX6_fill_97 : decode cX6_fill 97 = .ok (.aload_n 0, 1) := by decide +kernel
theorem dX6_fill_98 : decode cX6_fill 98 = .ok (.iconst 0, 1) := by decide +kernel
theorem dX6_fill_99 : decode cX6_fill 99 = .ok (.putfield 139, 3) := by decide +kernel
theorem dX6_fill_102 : decode cX6_fill 102 = .ok (.iconst 0, 1) := by decide +kernel
theorem dX6_fill_103 : decode cX6_fill 103 = .ok (.istore_n 3, 1) := by decide +kernel
theorem dX6_fill_104 : decode cX6_fill 104 = .ok (.iconst 0, 1) := by decide +kernel
theorem dX6_fill_105 : decode cX6_fill 105 = .ok (.istore 4, 2) := by decide +kernel
theorem dX6_fill_107 : decode cX6_fill 107 = .ok (.iconst 0, 1) := by decide +kernel
theorem dX6_fill_108 : decode cX6_fill 108 = .ok (.istore 5, 2) := by decide +kernel
theorem dX6_fill_110 : decode cX6_fill 110 = .ok (.iload_n 3, 1) := by decide +kernel
theorem dX6_fill_111 : decode cX6_fill 111 = .ok (.ifCond .lt 213, 3) := by decide +kernel
theorem dX6_fill_114 : decode cX6_fill 114 = .ok (.iload_n 3, 1) := by decide +kernel
theorem dX6_fill_115 : decode cX6_fill 115 = .ok (.iload_n 2, 1) := by decide +kernel
theorem dX6_fill_116 : decode cX6_fill 116 = .ok (.if_icmp .ge 208, 3) := by decide +kernel
theorem dX6_fill_119 : decode cX6_fill 119 = .ok (.iload 5, 2) := by decide +kernel
theorem dX6_fill_121 : decode cX6_fill 121 = .ok (.ifCond .ne 203, 3) := by decide +kernel
theorem dX6_fill_124 : decode cX6_fill 124 = .ok (.aload_n 0, 1) := by decide +kernel
theorem dX6_fill_125 : decode cX6_fill 125 = .ok (.getfield 44, 3) := by decide +kernel
theorem dX6_fill_128 : decode cX6_fill 128 = .ok (.iload_n 3, 1) := by decide +kernel
theorem dX6_fill_129 : decode cX6_fill 129 = .ok (.iaload, 1) := by decide +kernel
theorem dX6_fill_130 : decode cX6_fill 130 = .ok (.istore 6, 2) := by decide +kernel
theorem dX6_fill_132 : decode cX6_fill 132 = .ok (.iconst 0, 1) := by decide +kernel
theorem dX6_fill_133 : decode cX6_fill 133 = .ok (.istore 7, 2) := by decide +kernel
theorem dX6_fill_135 : decode cX6_fill 135 = .ok (.iload 7, 2) := by decide +kernel
theorem dX6_fill_137 : decode cX6_fill 137 = .ok (.ifCond .ne 92, 3) := by decide +kernel
theorem dX6_fill_140 : decode cX6_fill 140 = .ok (.iload 5, 2) := by decide +kernel
theorem dX6_fill_142 : decode cX6_fill 142 = .ok (.ifCond .ne 87, 3) := by decide +kernel
theorem dX6_fill_145 : decode cX6_fill 145 = .ok (.iload 4, 2) := by decide +kernel
theorem dX6_fill_147 : decode cX6_fill 147 = .ok (.aload_n 0, 1) := by decide +kernel
theorem dX6_fill_148 : decode cX6_fill 148 = .ok (.getfield 62, 3) := by decide +kernel
theorem dX6_fill_151 : decode cX6_fill 151 = .ok (.aload_n 0, 1) := by decide +kernel
theorem dX6_fill_152 : decode cX6_fill 152 = .ok (.getfield 66, 3) := by decide +kernel
theorem dX6_fill_155 : decode cX6_fill 155 = .ok (.imul, 1) := by decide +kernel
theorem dX6_fill_156 : decode cX6_fill 156 = .ok (.if_icmp .ge 73, 3) := by decide +kernel
theorem dX6_fill_159 : decode cX6_fill 159 = .ok (.aload_n 0, 1) := by decide +kernel
theorem dX6_fill_160 : decode cX6_fill 160 = .ok (.getfield 139, 3) := by decide +kernel
theorem dX6_fill_163 : decode cX6_fill 163 = .ok (.iload_n 1, 1) := by decide +kernel
theorem dX6_fill_164 : decode cX6_fill 164 = .ok (.if_icmp .ne 7, 3) := by decide +kernel
theorem dX6_fill_167 : decode cX6_fill 167 = .ok (.iconst 1, 1) := by decide +kernel
theorem dX6_fill_168 : decode cX6_fill 168 = .ok (.goto 4, 3) := by decide +kernel
theorem dX6_fill_171 : decode cX6_fill 171 = .ok (.iconst 0, 1) := by decide +kernel
theorem dX6_fill_172 : decode cX6_fill 172 = .ok (.istore 5, 2) := by decide +kernel
theorem dX6_fill_174 : decode cX6_fill 174 = .ok (.iload 5, 2) := by decide +kernel
theorem dX6_fill_176 : decode cX6_fill 176 = .ok (.ifCond .ne (-41), 3) := by decide +kernel
theorem dX6_fill_179 : decode cX6_fill 179 = .ok (.aload_n 0, 1) := by decide +kernel
theorem dX6_fill_180 : decode cX6_fill 180 = .ok (.dup, 1) := by decide +kernel
theorem dX6_fill_181 : decode cX6_fill 181 = .ok (.getfield 139, 3) := by decide +kernel
theorem dX6_fill_184 : decode cX6_fill 184 = .ok (.iconst 1, 1) := by decide +kernel
theorem dX6_fill_185 : decode cX6_fill 185 = .ok (.iadd, 1) := by decide +kernel
theorem dX6_fill_186 : decode cX6_fill 186 = .ok (.putfield 139, 3) := by decide +kernel
theorem dX6_fill_189 : decode cX6_fill 189 = .ok (.aload_n 0, 1) := by decide +kernel
theorem dX6_fill_190 : decode cX6_fill 190 = .ok (.iload 6, 2) := by decide +kernel
theorem dX6_fill_192 : decode cX6_fill 192 = .ok (.iload 4, 2) := by decide +kernel
theorem dX6_fill_194 : decode cX6_fill 194 = .ok (.invokevirtual 122, 3) := by decide +kernel
theorem dX6_fill_197 : decode cX6_fill 197 = .ok (.ifCond .ne 7, 3) := by decide +kernel
theorem dX6_fill_200 : decode cX6_fill 200 = .ok (.iconst 1, 1) := by decide +kernel
theorem dX6_fill_201 : decode cX6_fill 201 = .ok (.goto 4, 3) := by decide +kernel
theorem dX6_fill_204 : decode cX6_fill 204 = .ok (.iconst 0, 1) := by decide +kernel
theorem dX6_fill_205 : decode cX6_fill 205 = .ok (.istore 7, 2) := by decide +kernel
theorem dX6_fill_207 : decode cX6_fill 207 = .ok (.iload 7, 2) := by decide +kernel
theorem dX6_fill_209 : decode cX6_fill 209 = .ok (.ifCond .eq 14, 3) := by decide +kernel
theorem dX6_fill_212 : decode cX6_fill 212 = .ok (.aload_n 0, 1) := by decide +kernel
theorem dX6_fill_213 : decode cX6_fill 213 = .ok (.iload 6, 2) := by decide +kernel
theorem dX6_fill_215 : decode cX6_fill 215 = .ok (.iload 4, 2) := by decide +kernel
theorem dX6_fill_217 : decode cX6_fill 217 = .ok (.invokevirtual 128, 3) := by decide +kernel
theorem dX6_fill_220 : decode cX6_fill 220 = .ok (.goto (-85), 3) := by decide +kernel
theorem dX6_fill_223 : decode cX6_fill 223 = .ok (.iinc 4 1, 3) := by decide +kernel
theorem dX6_fill_226 : decode cX6_fill 226 = .ok (.goto (-91), 3) := by decide +kernel
theorem dX6_fill_229 : decode cX6_fill 229 = .ok (.iload 7, 2) := by decide +kernel
theorem dX6_fill_231 : decode cX6_fill 231 = .ok (.ifCond .eq 53, 3) := by decide +kernel
theorem dX6_fill_234 : decode cX6_fill 234 = .ok (.iinc 3 1, 3) := by decide +kernel
theorem dX6_fill_237 : decode cX6_fill 237 = .ok (.iload_n 3, 1) := by decide +kernel
theorem dX6_fill_238 : decode cX6_fill 238 = .ok (.iload_n 2, 1) := by decide +kernel
theorem dX6_fill_239 : decode cX6_fill 239 = .ok (.if_icmp .ge 24, 3) := by decide +kernel
theorem dX6_fill_242 : decode cX6_fill 242 = .ok (.aload_n 0, 1) := by decide +kernel
theorem dX6_fill_243 : decode cX6_fill 243 = .ok (.getfield 44, 3) := by decide +kernel
theorem dX6_fill_246 : decode cX6_fill 246 = .ok (.iload_n 3, 1) := by decide +kernel
theorem dX6_fill_247 : decode cX6_fill 247 = .ok (.iaload, 1) := by decide +kernel
theorem dX6_fill_248 : decode cX6_fill 248 = .ok (.invokestatic 79, 3) := by decide +kernel
theorem dX6_fill_251 : decode cX6_fill 251 = .ok (.iload 6, 2) := by decide +kernel
theorem dX6_fill_253 : decode cX6_fill 253 = .ok (.invokestatic 79, 3) := by decide +kernel
theorem dX6_fill_256 : decode cX6_fill 256 = .ok (.if_icmp .ne 7, 3) := by decide +kernel
theorem dX6_fill_259 : decode cX6_fill 259 = .ok (.iconst 1, 1) := by decide +kernel
theorem dX6_fill_260 : decode cX6_fill 260 = .ok (.goto 4, 3) := by decide +kernel
theorem dX6_fill_263 : decode cX6_fill 263 = .ok (.iconst 0, 1) := by decide +kernel
theorem dX6_fill_264 : decode cX6_fill 264 = .ok (.istore 8, 2) := by decide +kernel
theorem dX6_fill_266 : decode cX6_fill 266 = .ok (.iload 8, 2) := by decide +kernel
theorem dX6_fill_268 : decode cX6_fill 268 = .ok (.ifCond .eq 10, 3) := by decide +kernel
theorem dX6_fill_271 : decode cX6_fill 271 = .ok (.iload 4, 2) := by decide +kernel
theorem dX6_fill_273 : decode cX6_fill 273 = .ok (.iconst 1, 1) := by decide +kernel
theorem dX6_fill_274 : decode cX6_fill 274 = .ok (.iadd, 1) := by decide +kernel
theorem dX6_fill_275 : decode cX6_fill 275 = .ok (.goto 4, 3) := by decide +kernel
theorem dX6_fill_278 : decode cX6_fill 278 = .ok (.iconst 0, 1) := by decide +kernel
theorem dX6_fill_279 : decode cX6_fill 279 = .ok (.istore 4, 2) := by decide +kernel
theorem dX6_fill_281 : decode cX6_fill 281 = .ok (.goto 40, 3) := by decide +kernel
theorem dX6_fill_284 : decode cX6_fill 284 = .ok (.iload 5, 2) := by decide +kernel
theorem dX6_fill_286 : decode cX6_fill 286 = .ok (.ifCond .ne 35, 3) := by decide +kernel
theorem dX6_fill_289 : decode cX6_fill 289 = .ok (.iinc 3 (-1), 3) := by decide +kernel
theorem dX6_fill_292 : decode cX6_fill 292 = .ok (.iload_n 3, 1) := by decide +kernel
theorem dX6_fill_293 : decode cX6_fill 293 = .ok (.ifCond .lt 28, 3) := by decide +kernel
theorem dX6_fill_296 : decode cX6_fill 296 = .ok (.aload_n 0, 1) := by decide +kernel
theorem dX6_fill_297 : decode cX6_fill 297 = .ok (.getfield 34, 3) := by decide +kernel
theorem dX6_fill_300 : decode cX6_fill 300 = .ok (.aload_n 0, 1) := by decide +kernel
theorem dX6_fill_301 : decode cX6_fill 301 = .ok (.getfield 44, 3) := by decide +kernel
theorem dX6_fill_304 : decode cX6_fill 304 = .ok (.iload_n 3, 1) := by decide +kernel
theorem dX6_fill_305 : decode cX6_fill 305 = .ok (.iaload, 1) := by decide +kernel
theorem dX6_fill_306 : decode cX6_fill 306 = .ok (.iaload, 1) := by decide +kernel
theorem dX6_fill_307 : decode cX6_fill 307 = .ok (.iconst 1, 1) := by decide +kernel
theorem dX6_fill_308 : decode cX6_fill 308 = .ok (.iadd, 1) := by decide +kernel
theorem dX6_fill_309 : decode cX6_fill 309 = .ok (.istore 4, 2) := by decide +kernel
theorem dX6_fill_311 : decode cX6_fill 311 = .ok (.aload_n 0, 1) := by decide +kernel
theorem dX6_fill_312 : decode cX6_fill 312 = .ok (.aload_n 0, 1) := by decide +kernel
theorem dX6_fill_313 : decode cX6_fill 313 = .ok (.getfield 44, 3) := by decide +kernel
theorem dX6_fill_316 : decode cX6_fill 316 = .ok (.iload_n 3, 1) := by decide +kernel
theorem dX6_fill_317 : decode cX6_fill 317 = .ok (.iaload, 1) := by decide +kernel
theorem dX6_fill_318 : decode cX6_fill 318 = .ok (.invokevirtual 135, 3) := by decide +kernel
theorem dX6_fill_321 : decode cX6_fill 321 = .ok (.goto (-211), 3) := by decide +kernel
theorem dX6_fill_324 : decode cX6_fill 324 = .ok (.iload 5, 2) := by decide +kernel
theorem dX6_fill_326 : decode cX6_fill 326 = .ok (.ifCond .ne 7, 3) := by decide +kernel
theorem dX6_fill_329 : decode cX6_fill 329 = .ok (.iload_n 3, 1) := by decide +kernel
theorem dX6_fill_330 : decode cX6_fill 330 = .ok (.ifCond .ge 7, 3) := by decide +kernel
theorem dX6_fill_333 : decode cX6_fill 333 = .ok (.aload_n 0, 1) := by decide +kernel
theorem dX6_fill_334 : decode cX6_fill 334 = .ok (.invokevirtual 142, 3) := by decide +kernel
theorem dX6_fill_337 : decode cX6_fill 337 = .ok (.aload_n 0, 1) := by decide +kernel
theorem dX6_fill_338 : decode cX6_fill 338 = .ok (.invokevirtual 132, 3) := by decide +kernel
theorem dX6_fill_341 : decode cX6_fill 341 = .ok (.iload 5, 2) := by decide +kernel
theorem dX6_fill_343 : decode cX6_fill 343 = .ok (.ifCond .eq 7, 3) := by decide +kernel
theorem dX6_fill_346 : decode cX6_fill 346 = .ok (.iconst 2, 1) := by decide +kernel
theorem dX6_fill_347 : decode cX6_fill 347 = .ok (.goto 12, 3) := by decide +kernel
theorem dX6_fill_350 : decode cX6_fill 350 = .ok (.iload_n 3, 1) := by decide +kernel
theorem dX6_fill_351 : decode cX6_fill 351 = .ok (.ifCond .ge 7, 3) := by decide +kernel
theorem dX6_fill_354 : decode cX6_fill 354 = .ok (.iconst 0, 1) := by decide +kernel
theorem dX6_fill_355 : decode cX6_fill 355 = .ok (.goto 4, 3) := by decide +kernel
theorem dX6_fill_358 : decode cX6_fill 358 = .ok (.iconst 1, 1) := by decide +kernel
theorem dX6_fill_359 : decode cX6_fill 359 = .ok (.ireturn, 1) := by decide +kernel
theorem dX6_tries_0 : decode cX6_tries 0 = .ok (.aload_n 0, 1) := by decide +kernel
theorem dX6_tries_1 : decode cX6_tries 1 = .ok (.iconst 0, 1) := by decide +kernel
theorem dX6_tries_2 : decode cX6_tries 2 = .ok (.putfield 69, 3) := by decide +kernel
theorem dX6_tries_5 : decode cX6_tries 5 = .ok (.aload_n 0, 1) := by decide +kernel
theorem dX6_tries_6 : decode cX6_tries 6 = .ok (.getfield 139, 3) := by decide +kernel
theorem dX6_tries_9 : decode cX6_tries 9 = .ok (.ireturn, 1) := by decide +kernel
theorem dX6_period_0 : decode cX6_period 0 = .ok (.aload_n 0, 1) := by decide +kernel
theorem dX6_period_1 : decode cX6_period 1 = .ok (.aload_n 0, 1) := by decide +kernel
theorem dX6_period_2 : decode cX6_period 2 = .ok (.iload_n 1, 1) := by decide +kernel
theorem dX6_period_3 : decode cX6_period 3 = .ok (.iload_n 2, 1) := by decide +kernel
theorem dX6_period_4 : decode cX6_period 4 = .ok (.invokevirtual 119, 3) := by decide +kernel
theorem dX6_period_7 : decode cX6_period 7 = .ok (.ifCond .ne 7, 3) := by decide +kernel
theorem dX6_period_10 : decode cX6_period 10 = .ok (.iconst 1, 1) := by decide +kernel
theorem dX6_period_11 : decode cX6_period 11 = .ok (.goto 4, 3) := by decide +kernel
theorem dX6_period_14 : decode cX6_period 14 = .ok (.iconst 0, 1) := by decide +kernel
theorem dX6_period_15 : decode cX6_period 15 = .ok (.iconst 0, 1) := by decide +kernel
theorem dX6_period_16 : decode cX6_period 16 = .ok (.invokevirtual 90, 3) := by decide +kernel
theorem dX6_period_19 : decode cX6_period 19 = .ok (.ifCond .eq 5, 3) := by decide +kernel
theorem dX6_period_22 : decode cX6_period 22 = .ok (.iconst 0, 1) := by decide +kernel
theorem dX6_period_23 : decode cX6_period 23 = .ok (.ireturn, 1) := by decide +kernel
theorem dX6_period_24 : decode cX6_period 24 = .ok (.aload_n 0, 1) := by decide +kernel
theorem dX6_period_25 : decode cX6_period 25 = .ok (.getfield 34, 3) := by decide +kernel
theorem dX6_period_28 : decode cX6_period 28 = .ok (.iconst 4, 1) := by decide +kernel
theorem dX6_period_29 : decode cX6_period 29 = .ok (.iload_n 1, 1) := by decide +kernel
theorem dX6_period_30 : decode cX6_period 30 = .ok (.imul, 1) := by decide +kernel
theorem dX6_period_31 : decode cX6_period 31 = .ok (.iload_n 2, 1) := by decide +kernel
theorem dX6_period_32 : decode cX6_period 32 = .ok (.iadd, 1) := by decide +kernel
theorem dX6_period_33 : decode cX6_period 33 = .ok (.iaload, 1) := by decide +kernel
theorem dX6_period_34 : decode cX6_period 34 = .ok (.ireturn, 1) := by decide +kernel
theorem dX6_roomOf_0 : decode cX6_roomOf 0 = .ok (.aload_n 0, 1) := by decide +kernel
theorem dX6_roomOf_1 : decode cX6_roomOf 1 = .ok (.aload_n 0, 1) := by decide +kernel
theorem dX6_roomOf_2 : decode cX6_roomOf 2 = .ok (.iload_n 1, 1) := by decide +kernel
theorem dX6_roomOf_3 : decode cX6_roomOf 3 = .ok (.iload_n 2, 1) := by decide +kernel
theorem dX6_roomOf_4 : decode cX6_roomOf 4 = .ok (.invokevirtual 119, 3) := by decide +kernel
theorem dX6_roomOf_7 : decode cX6_roomOf 7 = .ok (.ifCond .ne 7, 3) := by decide +kernel
theorem dX6_roomOf_10 : decode cX6_roomOf 10 = .ok (.iconst 1, 1) := by decide +kernel
theorem dX6_roomOf_11 : decode cX6_roomOf 11 = .ok (.goto 4, 3) := by decide +kernel
theorem dX6_roomOf_14 : decode cX6_roomOf 14 = .ok (.iconst 0, 1) := by decide +kernel
theorem dX6_roomOf_15 : decode cX6_roomOf 15 = .ok (.iconst 0, 1) := by decide +kernel
theorem dX6_roomOf_16 : decode cX6_roomOf 16 = .ok (.invokevirtual 90, 3) := by decide +kernel
theorem dX6_roomOf_19 : decode cX6_roomOf 19 = .ok (.ifCond .eq 5, 3) := by decide +kernel
theorem dX6_roomOf_22 : decode cX6_roomOf 22 = .ok (.iconst 0, 1) := by decide +kernel
theorem dX6_roomOf_23 : decode cX6_roomOf 23 = .ok (.ireturn, 1) := by decide +kernel
theorem dX6_roomOf_24 : decode cX6_roomOf 24 = .ok (.aload_n 0, 1) := by decide +kernel
theorem dX6_roomOf_25 : decode cX6_roomOf 25 = .ok (.getfield 37, 3) := by decide +kernel
theorem dX6_roomOf_28 : decode cX6_roomOf 28 = .ok (.iconst 4, 1) := by decide +kernel
theorem dX6_roomOf_29 : decode cX6_roomOf 29 = .ok (.iload_n 1, 1) := by decide +kernel
theorem dX6_roomOf_30 : decode cX6_roomOf 30 = .ok (.imul, 1) := by decide +kernel
theorem dX6_roomOf_31 : decode cX6_roomOf 31 = .ok (.iload_n 2, 1) := by decide +kernel
theorem dX6_roomOf_32 : decode cX6_roomOf 32 = .ok (.iadd, 1) := by decide +kernel
theorem dX6_roomOf_33 : decode cX6_roomOf 33 = .ok (.iaload, 1) := by decide +kernel
theorem dX6_roomOf_34 : decode cX6_roomOf 34 = .ok (.ireturn, 1) := by decide +kernel
theorem dX6_gaps_0 : decode cX6_gaps 0 = .ok (.iconst (-1), 1) := by decide +kernel
theorem dX6_gaps_1 : decode cX6_gaps 1 = .ok (.istore 4, 2) := by decide +kernel
theorem dX6_gaps_3 : decode cX6_gaps 3 = .ok (.iconst (-1), 1) := by decide +kernel
theorem dX6_gaps_4 : decode cX6_gaps 4 = .ok (.istore 5, 2) := by decide +kernel
theorem dX6_gaps_6 : decode cX6_gaps 6 = .ok (.iconst 0, 1) := by decide +kernel
theorem dX6_gaps_7 : decode cX6_gaps 7 = .ok (.istore 6, 2) := by decide +kernel
theorem dX6_gaps_9 : decode cX6_gaps 9 = .ok (.iload_n 3, 1) := by decide +kernel
theorem dX6_gaps_10 : decode cX6_gaps 10 = .ok (.aload_n 0, 1) := by decide +kernel
theorem dX6_gaps_11 : decode cX6_gaps 11 = .ok (.getfield 66, 3) := by decide +kernel
theorem dX6_gaps_14 : decode cX6_gaps 14 = .ok (.imul, 1) := by decide +kernel
theorem dX6_gaps_15 : decode cX6_gaps 15 = .ok (.istore 7, 2) := by decide +kernel
theorem dX6_gaps_17 : decode cX6_gaps 17 = .ok (.iload 7, 2) := by decide +kernel
theorem dX6_gaps_19 : decode cX6_gaps 19 = .ok (.iload_n 3, 1) := by decide +kernel
theorem dX6_gaps_20 : decode cX6_gaps 20 = .ok (.iconst 1, 1) := by decide +kernel
theorem dX6_gaps_21 : decode cX6_gaps 21 = .ok (.iadd, 1) := by decide +kernel
theorem dX6_gaps_22 : decode cX6_gaps 22 = .ok (.aload_n 0, 1) := by decide +kernel
theorem dX6_gaps_23 : decode cX6_gaps 23 = .ok (.getfield 66, 3) := by decide +kernel
theorem dX6_gaps_26 : decode cX6_gaps 26 = .ok (.imul, 1) := by decide +kernel
theorem dX6_gaps_27 : decode cX6_gaps 27 = .ok (.if_icmp .ge 41, 3) := by decide +kernel
theorem dX6_gaps_30 : decode cX6_gaps 30 = .ok (.aload_n 0, 1) := by decide +kernel
theorem dX6_gaps_31 : decode cX6_gaps 31 = .ok (.iload_n 1, 1) := by decide +kernel
theorem dX6_gaps_32 : decode cX6_gaps 32 = .ok (.iload_n 2, 1) := by decide +kernel
theorem dX6_gaps_33 : decode cX6_gaps 33 = .ok (.iload 7, 2) := by decide +kernel
theorem dX6_gaps_35 : decode cX6_gaps 35 = .ok (.invokevirtual 98, 3) := by decide +kernel
theorem dX6_gaps_38 : decode cX6_gaps 38 = .ok (.ifCond .lt 24, 3) := by decide +kernel
theorem dX6_gaps_41 : decode cX6_gaps 41 = .ok (.iload 4, 2) := by decide +kernel
theorem dX6_gaps_43 : decode cX6_gaps 43 = .ok (.ifCond .ge 8, 3) := by decide +kernel
theorem dX6_gaps_46 : decode cX6_gaps 46 = .ok (.iload 7, 2) := by decide +kernel
theorem dX6_gaps_48 : decode cX6_gaps 48 = .ok (.goto 5, 3) := by decide +kernel
theorem dX6_gaps_51 : decode cX6_gaps 51 = .ok (.iload 4, 2) := by decide +kernel
theorem dX6_gaps_53 : decode cX6_gaps 53 = .ok (.istore 4, 2) := by decide +kernel
theorem dX6_gaps_55 : decode cX6_gaps 55 = .ok (.iload 7, 2) := by decide +kernel
theorem dX6_gaps_57 : decode cX6_gaps 57 = .ok (.istore 5, 2) := by decide +kernel
theorem dX6_gaps_59 : decode cX6_gaps 59 = .ok (.iinc 6 1, 3) := by decide +kernel
theorem dX6_gaps_62 : decode cX6_gaps 62 = .ok (.iinc 7 1, 3) := by decide +kernel
theorem dX6_gaps_65 : decode cX6_gaps 65 = .ok (.goto (-48), 3) := by decide +kernel
theorem dX6_gaps_68 : decode cX6_gaps 68 = .ok (.iload 6, 2) := by decide +kernel
theorem dX6_gaps_70 : decode cX6_gaps 70 = .ok (.ifCond .ne 7, 3) := by decide +kernel
theorem dX6_gaps_73 : decode cX6_gaps 73 = .ok (.iconst 0, 1) := by decide +kernel
theorem dX6_gaps_74 : decode cX6_gaps 74 = .ok (.goto 13, 3) := by decide +kernel
theorem dX6_gaps_77 : decode cX6_gaps 77 = .ok (.iload 5, 2) := by decide +kernel
theorem dX6_gaps_79 : decode cX6_gaps 79 = .ok (.iload 4, 2) := by decide +kernel
theorem dX6_gaps_81 : decode cX6_gaps 81 = .ok (.isub, 1) := by decide +kernel
theorem dX6_gaps_82 : decode cX6_gaps 82 = .ok (.iconst 1, 1) := by decide +kernel
theorem dX6_gaps_83 : decode cX6_gaps 83 = .ok (.iadd, 1) := by decide +kernel
theorem dX6_gaps_84 : decode cX6_gaps 84 = .ok (.iload 6, 2) := by decide +kernel
theorem dX6_gaps_86 : decode cX6_gaps 86 = .ok (.isub, 1) := by decide +kernel
theorem dX6_gaps_87 : decode cX6_gaps 87 = .ok (.ireturn, 1) := by decide +kernel
theorem dX6_penaltyNow_0 : decode cX6_penaltyNow 0 = .ok (.iconst 0, 1) := by decide +kernel
theorem dX6_penaltyNow_1 : decode cX6_penaltyNow 1 = .ok (.istore_n 1, 1) := by decide +kernel
theorem dX6_penaltyNow_2 : decode cX6_penaltyNow 2 = .ok (.iconst 0, 1) := by decide +kernel
theorem dX6_penaltyNow_3 : decode cX6_penaltyNow 3 = .ok (.istore_n 2, 1) := by decide +kernel
theorem dX6_penaltyNow_4 : decode cX6_penaltyNow 4 = .ok (.iload_n 2, 1) := by decide +kernel
theorem dX6_penaltyNow_5 : decode cX6_penaltyNow 5 = .ok (.bipush 8, 2) := by decide +kernel
theorem dX6_penaltyNow_7 : decode cX6_penaltyNow 7 = .ok (.if_icmp .ge 45, 3) := by decide +kernel
theorem dX6_penaltyNow_10 : decode cX6_penaltyNow 10 = .ok (.iconst 0, 1) := by decide +kernel
theorem dX6_penaltyNow_11 : decode cX6_penaltyNow 11 = .ok (.istore_n 3, 1) := by decide +kernel
theorem dX6_penaltyNow_12 : decode cX6_penaltyNow 12 = .ok (.iload_n 3, 1) := by decide +kernel
theorem dX6_penaltyNow_13 : decode cX6_penaltyNow 13 = .ok (.aload_n 0, 1) := by decide +kernel
theorem dX6_penaltyNow_14 : decode cX6_penaltyNow 14 = .ok (.getfield 62, 3) := by decide +kernel
theorem dX6_penaltyNow_17 : decode cX6_penaltyNow 17 = .ok (.if_icmp .ge 29, 3) := by decide +kernel
theorem dX6_penaltyNow_20 : decode cX6_penaltyNow 20 = .ok (.iload_n 1, 1) := by decide +kernel
theorem dX6_penaltyNow_21 : decode cX6_penaltyNow 21 = .ok (.iconst 2, 1) := by decide +kernel
theorem dX6_penaltyNow_22 : decode cX6_penaltyNow 22 = .ok (.aload_n 0, 1) := by decide +kernel
theorem dX6_penaltyNow_23 : decode cX6_penaltyNow 23 = .ok (.iconst 0, 1) := by decide +kernel
theorem dX6_penaltyNow_24 : decode cX6_penaltyNow 24 = .ok (.iload_n 2, 1) := by decide +kernel
theorem dX6_penaltyNow_25 : decode cX6_penaltyNow 25 = .ok (.iload_n 3, 1) := by decide +kernel
theorem dX6_penaltyNow_26 : decode cX6_penaltyNow 26 = .ok (.invokevirtual 145, 3) := by decide +kernel
theorem dX6_penaltyNow_29 : decode cX6_penaltyNow 29 = .ok (.imul, 1) := by decide +kernel
theorem dX6_penaltyNow_30 : decode cX6_penaltyNow 30 = .ok (.aload_n 0, 1) := by decide +kernel
theorem dX6_penaltyNow_31 : decode cX6_penaltyNow 31 = .ok (.iconst 1, 1) := by decide +kernel
theorem dX6_penaltyNow_32 : decode cX6_penaltyNow 32 = .ok (.iload_n 2, 1) := by decide +kernel
theorem dX6_penaltyNow_33 : decode cX6_penaltyNow 33 = .ok (.iload_n 3, 1) := by decide +kernel
theorem dX6_penaltyNow_34 : decode cX6_penaltyNow 34 = .ok (.invokevirtual 145, 3) := by decide +kernel
theorem dX6_penaltyNow_37 : decode cX6_penaltyNow 37 = .ok (.iadd, 1) := by decide +kernel
theorem dX6_penaltyNow_38 : decode cX6_penaltyNow 38 = .ok (.iadd, 1) := by decide +kernel
theorem dX6_penaltyNow_39 : decode cX6_penaltyNow 39 = .ok (.istore_n 1, 1) := by decide +kernel
theorem dX6_penaltyNow_40 : decode cX6_penaltyNow 40 = .ok (.iinc 3 1, 3) := by decide +kernel
theorem dX6_penaltyNow_43 : decode cX6_penaltyNow 43 = .ok (.goto (-31), 3) := by decide +kernel
theorem dX6_penaltyNow_46 : decode cX6_penaltyNow 46 = .ok (.iinc 2 1, 3) := by decide +kernel
theorem dX6_penaltyNow_49 : decode cX6_penaltyNow 49 = .ok (.goto (-45), 3) := by decide +kernel
theorem dX6_penaltyNow_52 : decode cX6_penaltyNow 52 = .ok (.iconst 0, 1) := by decide +kernel
theorem dX6_penaltyNow_53 : decode cX6_penaltyNow 53 = .ok (.istore_n 2, 1) := by decide +kernel
theorem dX6_penaltyNow_54 : decode cX6_penaltyNow 54 = .ok (.iload_n 2, 1) := by decide +kernel
theorem dX6_penaltyNow_55 : decode cX6_penaltyNow 55 = .ok (.bipush 64, 2) := by decide +kernel
theorem dX6_penaltyNow_57 : decode cX6_penaltyNow 57 = .ok (.if_icmp .ge 60, 3) := by decide +kernel
theorem dX6_penaltyNow_60 : decode cX6_penaltyNow 60 = .ok (.aload_n 0, 1) := by decide +kernel
theorem dX6_penaltyNow_61 : decode cX6_penaltyNow 61 = .ok (.getfield 34, 3) := by decide +kernel
theorem dX6_penaltyNow_64 : decode cX6_penaltyNow 64 = .ok (.iload_n 2, 1) := by decide +kernel
theorem dX6_penaltyNow_65 : decode cX6_penaltyNow 65 = .ok (.iaload, 1) := by decide +kernel
theorem dX6_penaltyNow_66 : decode cX6_penaltyNow 66 = .ok (.ifCond .lt 31, 3) := by decide +kernel
theorem dX6_penaltyNow_69 : decode cX6_penaltyNow 69 = .ok (.aload_n 0, 1) := by decide +kernel
theorem dX6_penaltyNow_70 : decode cX6_penaltyNow 70 = .ok (.getfield 34, 3) := by decide +kernel
theorem dX6_penaltyNow_73 : decode cX6_penaltyNow 73 = .ok (.iload_n 2, 1) := by decide +kernel
theorem dX6_penaltyNow_74 : decode cX6_penaltyNow 74 = .ok (.iaload, 1) := by decide +kernel
theorem dX6_penaltyNow_75 : decode cX6_penaltyNow 75 = .ok (.aload_n 0, 1) := by decide +kernel
theorem dX6_penaltyNow_76 : decode cX6_penaltyNow 76 = .ok (.getfield 25, 3) := by decide +kernel
theorem dX6_penaltyNow_79 : decode cX6_penaltyNow 79 = .ok (.iload_n 2, 1) := by decide +kernel
theorem dX6_penaltyNow_80 : decode cX6_penaltyNow 80 = .ok (.invokestatic 79, 3) := by decide +kernel
theorem dX6_penaltyNow_83 : decode cX6_penaltyNow 83 = .ok (.iaload, 1) := by decide +kernel
theorem dX6_penaltyNow_84 : decode cX6_penaltyNow 84 = .ok (.iadd, 1) := by decide +kernel
theorem dX6_penaltyNow_85 : decode cX6_penaltyNow 85 = .ok (.aload_n 0, 1) := by decide +kernel
theorem dX6_penaltyNow_86 : decode cX6_penaltyNow 86 = .ok (.getfield 66, 3) := by decide +kernel
theorem dX6_penaltyNow_89 : decode cX6_penaltyNow 89 = .ok (.irem, 1) := by decide +kernel
theorem dX6_penaltyNow_90 : decode cX6_penaltyNow 90 = .ok (.ifCond .ne 7, 3) := by decide +kernel
theorem dX6_penaltyNow_93 : decode cX6_penaltyNow 93 = .ok (.iconst 1, 1) := by decide +kernel
theorem dX6_penaltyNow_94 : decode cX6_penaltyNow 94 = .ok (.goto 4, 3) := by decide +kernel
theorem dX6_penaltyNow_97 : decode cX6_penaltyNow 97 = .ok (.iconst 0, 1) := by decide +kernel
theorem dX6_penaltyNow_98 : decode cX6_penaltyNow 98 = .ok (.istore_n 3, 1) := by decide +kernel
theorem dX6_penaltyNow_99 : decode cX6_penaltyNow 99 = .ok (.iload_n 1, 1) := by decide +kernel
theorem dX6_penaltyNow_100 : decode cX6_penaltyNow 100 = .ok (.iload_n 3, 1) := by decide +kernel
theorem dX6_penaltyNow_101 : decode cX6_penaltyNow 101 = .ok (.ifCond .eq 7, 3) := by decide +kernel
theorem dX6_penaltyNow_104 : decode cX6_penaltyNow 104 = .ok (.iconst 3, 1) := by decide +kernel
theorem dX6_penaltyNow_105 : decode cX6_penaltyNow 105 = .ok (.goto 4, 3) := by decide +kernel
theorem dX6_penaltyNow_108 : decode cX6_penaltyNow 108 = .ok (.iconst 0, 1) := by decide +kernel
theorem dX6_penaltyNow_109 : decode cX6_penaltyNow 109 = .ok (.iadd, 1) := by decide +kernel
theorem dX6_penaltyNow_110 : decode cX6_penaltyNow 110 = .ok (.istore_n 1, 1) := by decide +kernel
theorem dX6_penaltyNow_111 : decode cX6_penaltyNow 111 = .ok (.iinc 2 1, 3) := by decide +kernel
theorem dX6_penaltyNow_114 : decode cX6_penaltyNow 114 = .ok (.goto (-60), 3) := by decide +kernel
theorem dX6_penaltyNow_117 : decode cX6_penaltyNow 117 = .ok (.iload_n 1, 1) := by decide +kernel
theorem dX6_penaltyNow_118 : decode cX6_penaltyNow 118 = .ok (.ireturn, 1) := by decide +kernel
theorem dX6_penalty_0 : decode cX6_penalty 0 = .ok (.aload_n 0, 1) := by decide +kernel
theorem dX6_penalty_1 : decode cX6_penalty 1 = .ok (.iconst 0, 1) := by decide +kernel
theorem dX6_penalty_2 : decode cX6_penalty 2 = .ok (.putfield 69, 3) := by decide +kernel
theorem dX6_penalty_5 : decode cX6_penalty 5 = .ok (.aload_n 0, 1) := by decide +kernel
theorem dX6_penalty_6 : decode cX6_penalty 6 = .ok (.invokevirtual 148, 3) := by decide +kernel
theorem dX6_penalty_9 : decode cX6_penalty 9 = .ok (.ireturn, 1) := by decide +kernel
theorem dX6_move_0 : decode cX6_move 0 = .ok (.aload_n 0, 1) := by decide +kernel
theorem dX6_move_1 : decode cX6_move 1 = .ok (.getfield 34, 3) := by decide +kernel
theorem dX6_move_4 : decode cX6_move 4 = .ok (.iload_n 1, 1) := by decide +kernel
theorem dX6_move_5 : decode cX6_move 5 = .ok (.iaload, 1) := by decide +kernel
theorem dX6_move_6 : decode cX6_move 6 = .ok (.istore_n 2, 1) := by decide +kernel
theorem dX6_move_7 : decode cX6_move 7 = .ok (.aload_n 0, 1) := by decide +kernel
theorem dX6_move_8 : decode cX6_move 8 = .ok (.getfield 37, 3) := by decide +kernel
theorem dX6_move_11 : decode cX6_move 11 = .ok (.iload_n 1, 1) := by decide +kernel
theorem dX6_move_12 : decode cX6_move 12 = .ok (.iaload, 1) := by decide +kernel
theorem dX6_move_13 : decode cX6_move 13 = .ok (.istore_n 3, 1) := by decide +kernel
theorem dX6_move_14 : decode cX6_move 14 = .ok (.aload_n 0, 1) := by decide +kernel
theorem dX6_move_15 : decode cX6_move 15 = .ok (.invokevirtual 148, 3) := by decide +kernel
theorem dX6_move_18 : decode cX6_move 18 = .ok (.istore 4, 2) := by decide +kernel
theorem dX6_move_20 : decode cX6_move 20 = .ok (.iconst (-1), 1) := by decide +kernel
theorem dX6_move_21 : decode cX6_move 21 = .ok (.istore 5, 2) := by decide +kernel
theorem dX6_move_23 : decode cX6_move 23 = .ok (.aload_n 0, 1) := by decide +kernel
theorem dX6_move_24 : decode cX6_move 24 = .ok (.iload_n 1, 1) := by decide +kernel
theorem dX6_move_25 : decode cX6_move 25 = .ok (.invokevirtual 135, 3) := by decide +kernel
theorem dX6_move_28 : decode cX6_move 28 = .ok (.iconst 0, 1) := by decide +kernel
theorem dX6_move_29 : decode cX6_move 29 = .ok (.istore 6, 2) := by decide +kernel
theorem dX6_move_31 : decode cX6_move 31 = .ok (.iload 6, 2) := by decide +kernel
theorem dX6_move_33 : decode cX6_move 33 = .ok (.aload_n 0, 1) := by decide +kernel
theorem dX6_move_34 : decode cX6_move 34 = .ok (.getfield 62, 3) := by decide +kernel
theorem dX6_move_37 : decode cX6_move 37 = .ok (.aload_n 0, 1) := by decide +kernel
theorem dX6_move_38 : decode cX6_move 38 = .ok (.getfield 66, 3) := by decide +kernel
theorem dX6_move_41 : decode cX6_move 41 = .ok (.imul, 1) := by decide +kernel
theorem dX6_move_42 : decode cX6_move 42 = .ok (.if_icmp .ge 69, 3) := by decide +kernel
theorem dX6_move_45 : decode cX6_move 45 = .ok (.aload_n 0, 1) := by decide +kernel
theorem dX6_move_46 : decode cX6_move 46 = .ok (.iload_n 1, 1) := by decide +kernel
theorem dX6_move_47 : decode cX6_move 47 = .ok (.iload 6, 2) := by decide +kernel
theorem dX6_move_49 : decode cX6_move 49 = .ok (.invokevirtual 122, 3) := by decide +kernel
theorem dX6_move_52 : decode cX6_move 52 = .ok (.ifCond .ne 53, 3) := by decide +kernel
theorem dX6_move_55 : decode cX6_move 55 = .ok (.aload_n 0, 1) := by decide +kernel
theorem dX6_move_56 : decode cX6_move 56 = .ok (.iload_n 1, 1) := by decide +kernel
theorem dX6_move_57 : decode cX6_move 57 = .ok (.iload 6, 2) := by decide +kernel
theorem dX6_move_59 : decode cX6_move 59 = .ok (.invokevirtual 128, 3) := by decide +kernel
theorem dX6_move_62 : decode cX6_move 62 = .ok (.aload_n 0, 1) := by decide +kernel
theorem dX6_move_63 : decode cX6_move 63 = .ok (.invokevirtual 148, 3) := by decide +kernel
theorem dX6_move_66 : decode cX6_move 66 = .ok (.istore 7, 2) := by decide +kernel
theorem dX6_move_68 : decode cX6_move 68 = .ok (.iload 7, 2) := by decide +kernel
theorem dX6_move_70 : decode cX6_move 70 = .ok (.iload 4, 2) := by decide +kernel
theorem dX6_move_72 : decode cX6_move 72 = .ok (.if_icmp .ge 8, 3) := by decide +kernel
theorem dX6_move_75 : decode cX6_move 75 = .ok (.iload 6, 2) := by decide +kernel
theorem dX6_move_77 : decode cX6_move 77 = .ok (.goto 5, 3) := by decide +kernel
theorem dX6_move_80 : decode cX6_move 80 = .ok (.iload 5, 2) := by decide +kernel
theorem dX6_move_82 : decode cX6_move 82 = .ok (.istore 5, 2) := by decide +kernel
theorem dX6_move_84 : decode cX6_move 84 = .ok (.iload 7, 2) := by decide +kernel
theorem dX6_move_86 : decode cX6_move 86 = .ok (.iload 4, 2) := by decide +kernel
theorem dX6_move_88 : decode cX6_move 88 = .ok (.if_icmp .ge 8, 3) := by decide +kernel
theorem dX6_move_91 : decode cX6_move 91 = .ok (.iload 7, 2) := by decide +kernel
theorem dX6_move_93 : decode cX6_move 93 = .ok (.goto 5, 3) := by decide +kernel
theorem dX6_move_96 : decode cX6_move 96 = .ok (.iload 4, 2) := by decide +kernel
theorem dX6_move_98 : decode cX6_move 98 = .ok (.istore 4, 2) := by decide +kernel
theorem dX6_move_100 : decode cX6_move 100 = .ok (.aload_n 0, 1) := by decide +kernel
theorem dX6_move_101 : decode cX6_move 101 = .ok (.iload_n 1, 1) := by decide +kernel
theorem dX6_move_102 : decode cX6_move 102 = .ok (.invokevirtual 135, 3) := by decide +kernel
theorem dX6_move_105 : decode cX6_move 105 = .ok (.iinc 6 1, 3) := by decide +kernel
theorem dX6_move_108 : decode cX6_move 108 = .ok (.goto (-77), 3) := by decide +kernel
theorem dX6_move_111 : decode cX6_move 111 = .ok (.iload 5, 2) := by decide +kernel
theorem dX6_move_113 : decode cX6_move 113 = .ok (.ifCond .lt 12, 3) := by decide +kernel
theorem dX6_move_116 : decode cX6_move 116 = .ok (.aload_n 0, 1) := by decide +kernel
theorem dX6_move_117 : decode cX6_move 117 = .ok (.iload_n 1, 1) := by decide +kernel
theorem dX6_move_118 : decode cX6_move 118 = .ok (.iload 5, 2) := by decide +kernel
theorem dX6_move_120 : decode cX6_move 120 = .ok (.invokevirtual 128, 3) := by decide +kernel
theorem dX6_move_123 : decode cX6_move 123 = .ok (.iconst 1, 1) := by decide +kernel
theorem dX6_move_124 : decode cX6_move 124 = .ok (.ireturn, 1) := by decide +kernel
theorem dX6_move_125 : decode cX6_move 125 = .ok (.aload_n 0, 1) := by decide +kernel
theorem dX6_move_126 : decode cX6_move 126 = .ok (.getfield 34, 3) := by decide +kernel
theorem dX6_move_129 : decode cX6_move 129 = .ok (.iload_n 1, 1) := by decide +kernel
theorem dX6_move_130 : decode cX6_move 130 = .ok (.iload_n 2, 1) := by decide +kernel
theorem dX6_move_131 : decode cX6_move 131 = .ok (.iastore, 1) := by decide +kernel
theorem dX6_move_132 : decode cX6_move 132 = .ok (.aload_n 0, 1) := by decide +kernel
theorem dX6_move_133 : decode cX6_move 133 = .ok (.getfield 37, 3) := by decide +kernel
theorem dX6_move_136 : decode cX6_move 136 = .ok (.iload_n 1, 1) := by decide +kernel
theorem dX6_move_137 : decode cX6_move 137 = .ok (.iload_n 3, 1) := by decide +kernel
theorem dX6_move_138 : decode cX6_move 138 = .ok (.iastore, 1) := by decide +kernel
theorem dX6_move_139 : decode cX6_move 139 = .ok (.iconst 0, 1) := by decide +kernel
theorem dX6_move_140 : decode cX6_move 140 = .ok (.ireturn, 1) := by decide +kernel
theorem dX6_improve_0 : decode cX6_improve 0 = .ok (.aload_n 0, 1) := by decide +kernel
theorem dX6_improve_1 : decode cX6_improve 1 = .ok (.iload_n 1, 1) := by decide +kernel
theorem dX6_improve_2 : decode cX6_improve 2 = .ok (.iconst 1, 1) := by decide +kernel
theorem dX6_improve_3 : decode cX6_improve 3 = .ok (.bipush 10, 2) := by decide +kernel
theorem dX6_improve_5 : decode cX6_improve 5 = .ok (.invokestatic 72, 3) := by decide +kernel
end
section
theorem dX6_improve_8 : decode cX6_improve 8 = .ok (.ifCond .ne 7, 3) := by decide +kernel
theorem dX6_improve_11 : decode cX6_improve 11 = .ok (.iconst 1, 1) := by decide +kernel
theorem dX6_improve_12 : decode cX6_improve 12 = .ok (.goto 4, 3) := by decide +kernel
theorem dX6_improve_15 : decode cX6_improve 15 = .ok (.iconst 0, 1) := by decide +kernel
theorem dX6_improve_16 : decode cX6_improve 16 = .ok (.iconst 0, 1) := by decide +kernel
theorem dX6_improve_17 : decode cX6_improve 17 = .ok (.invokevirtual 90, 3) := by decide +kernel
theorem dX6_improve_20 : decode cX6_improve 20 = .ok (.ifCond .eq 5, 3) := by decide +kernel
theorem dX6_improve_23 : decode cX6_improve 23 = .ok (.iconst 0, 1) := by decide +kernel
theorem dX6_improve_24 : decode cX6_improve 24 = .ok (.ireturn, 1) := by decide +kernel
theorem dX6_improve_25 : decode cX6_improve 25 = .ok (.aload_n 0, 1) := by decide +kernel
theorem dX6_improve_26 : decode cX6_improve 26 = .ok (.invokevirtual 125, 3) := by decide +kernel
theorem dX6_improve_29 : decode cX6_improve 29 = .ok (.iconst 1, 1) := by decide +kernel
theorem dX6_improve_30 : decode cX6_improve 30 = .ok (.istore_n 2, 1) := by decide +kernel
theorem dX6_improve_31 : decode cX6_improve 31 = .ok (.iconst 0, 1) := by decide +kernel
theorem dX6_improve_32 : decode cX6_improve 32 = .ok (.istore_n 3, 1) := by decide +kernel
theorem dX6_improve_33 : decode cX6_improve 33 = .ok (.iload_n 3, 1) := by decide +kernel
theorem dX6_improve_34 : decode cX6_improve 34 = .ok (.iload_n 1, 1) := by decide +kernel
theorem dX6_improve_35 : decode cX6_improve 35 = .ok (.if_icmp .ge 52, 3) := by decide +kernel
theorem dX6_improve_38 : decode cX6_improve 38 = .ok (.iload_n 2, 1) := by decide +kernel
theorem dX6_improve_39 : decode cX6_improve 39 = .ok (.ifCond .eq 48, 3) := by decide +kernel
theorem dX6_improve_42 : decode cX6_improve 42 = .ok (.iconst 0, 1) := by decide +kernel
theorem dX6_improve_43 : decode cX6_improve 43 = .ok (.istore_n 2, 1) := by decide +kernel
theorem dX6_improve_44 : decode cX6_improve 44 = .ok (.iconst 0, 1) := by decide +kernel
theorem dX6_improve_45 : decode cX6_improve 45 = .ok (.istore 4, 2) := by decide +kernel
theorem dX6_improve_47 : decode cX6_improve 47 = .ok (.iload 4, 2) := by decide +kernel
theorem dX6_improve_49 : decode cX6_improve 49 = .ok (.bipush 64, 2) := by decide +kernel
theorem dX6_improve_51 : decode cX6_improve 51 = .ok (.if_icmp .ge 30, 3) := by decide +kernel
theorem dX6_improve_54 : decode cX6_improve 54 = .ok (.aload_n 0, 1) := by decide +kernel
theorem dX6_improve_55 : decode cX6_improve 55 = .ok (.getfield 34, 3) := by decide +kernel
theorem dX6_improve_58 : decode cX6_improve 58 = .ok (.iload 4, 2) := by decide +kernel
theorem dX6_improve_60 : decode cX6_improve 60 = .ok (.iaload, 1) := by decide +kernel
theorem dX6_improve_61 : decode cX6_improve 61 = .ok (.ifCond .lt 14, 3) := by decide +kernel
theorem dX6_improve_64 : decode cX6_improve 64 = .ok (.aload_n 0, 1) := by decide +kernel
theorem dX6_improve_65 : decode cX6_improve 65 = .ok (.iload 4, 2) := by decide +kernel
theorem dX6_improve_67 : decode cX6_improve 67 = .ok (.invokevirtual 152, 3) := by decide +kernel
theorem dX6_improve_70 : decode cX6_improve 70 = .ok (.ifCond .eq 5, 3) := by decide +kernel
theorem dX6_improve_73 : decode cX6_improve 73 = .ok (.iconst 1, 1) := by decide +kernel
theorem dX6_improve_74 : decode cX6_improve 74 = .ok (.istore_n 2, 1) := by decide +kernel
theorem dX6_improve_75 : decode cX6_improve 75 = .ok (.iinc 4 1, 3) := by decide +kernel
theorem dX6_improve_78 : decode cX6_improve 78 = .ok (.goto (-31), 3) := by decide +kernel
theorem dX6_improve_81 : decode cX6_improve 81 = .ok (.iinc 3 1, 3) := by decide +kernel
theorem dX6_improve_84 : decode cX6_improve 84 = .ok (.goto (-51), 3) := by decide +kernel
theorem dX6_improve_87 : decode cX6_improve 87 = .ok (.aload_n 0, 1) := by decide +kernel
theorem dX6_improve_88 : decode cX6_improve 88 = .ok (.invokevirtual 132, 3) := by decide +kernel
theorem dX6_improve_91 : decode cX6_improve 91 = .ok (.aload_n 0, 1) := by decide +kernel
theorem dX6_improve_92 : decode cX6_improve 92 = .ok (.invokevirtual 148, 3) := by decide +kernel
theorem dX6_improve_95 : decode cX6_improve 95 = .ok (.ireturn, 1) := by decide +kernel
theorem dX6_load_0 : decode cX6_load 0 = .ok (.iconst 0, 1) := by decide +kernel
theorem dX6_load_1 : decode cX6_load 1 = .ok (.istore_n 3, 1) := by decide +kernel
theorem dX6_load_2 : decode cX6_load 2 = .ok (.iconst 0, 1) := by decide +kernel
theorem dX6_load_3 : decode cX6_load 3 = .ok (.istore 4, 2) := by decide +kernel
theorem dX6_load_5 : decode cX6_load 5 = .ok (.iload 4, 2) := by decide +kernel
theorem dX6_load_7 : decode cX6_load 7 = .ok (.bipush 64, 2) := by decide +kernel
theorem dX6_load_9 : decode cX6_load 9 = .ok (.if_icmp .ge 54, 3) := by decide +kernel
theorem dX6_load_12 : decode cX6_load 12 = .ok (.iload_n 3, 1) := by decide +kernel
theorem dX6_load_13 : decode cX6_load 13 = .ok (.aload_n 0, 1) := by decide +kernel
theorem dX6_load_14 : decode cX6_load 14 = .ok (.getfield 34, 3) := by decide +kernel
theorem dX6_load_17 : decode cX6_load 17 = .ok (.iload 4, 2) := by decide +kernel
theorem dX6_load_19 : decode cX6_load 19 = .ok (.iaload, 1) := by decide +kernel
theorem dX6_load_20 : decode cX6_load 20 = .ok (.ifCond .lt 34, 3) := by decide +kernel
theorem dX6_load_23 : decode cX6_load 23 = .ok (.aload_n 0, 1) := by decide +kernel
theorem dX6_load_24 : decode cX6_load 24 = .ok (.getfield 34, 3) := by decide +kernel
theorem dX6_load_27 : decode cX6_load 27 = .ok (.iload 4, 2) := by decide +kernel
theorem dX6_load_29 : decode cX6_load 29 = .ok (.iaload, 1) := by decide +kernel
theorem dX6_load_30 : decode cX6_load 30 = .ok (.aload_n 0, 1) := by decide +kernel
theorem dX6_load_31 : decode cX6_load 31 = .ok (.getfield 66, 3) := by decide +kernel
theorem dX6_load_34 : decode cX6_load 34 = .ok (.idiv, 1) := by decide +kernel
theorem dX6_load_35 : decode cX6_load 35 = .ok (.iload_n 2, 1) := by decide +kernel
theorem dX6_load_36 : decode cX6_load 36 = .ok (.if_icmp .ne 18, 3) := by decide +kernel
theorem dX6_load_39 : decode cX6_load 39 = .ok (.aload_n 0, 1) := by decide +kernel
theorem dX6_load_40 : decode cX6_load 40 = .ok (.iload 4, 2) := by decide +kernel
theorem dX6_load_42 : decode cX6_load 42 = .ok (.iconst 1, 1) := by decide +kernel
theorem dX6_load_43 : decode cX6_load 43 = .ok (.iload_n 1, 1) := by decide +kernel
theorem dX6_load_44 : decode cX6_load 44 = .ok (.invokevirtual 87, 3) := by decide +kernel
theorem dX6_load_47 : decode cX6_load 47 = .ok (.ifCond .eq 7, 3) := by decide +kernel
theorem dX6_load_50 : decode cX6_load 50 = .ok (.iconst 1, 1) := by decide +kernel
theorem dX6_load_51 : decode cX6_load 51 = .ok (.goto 4, 3) := by decide +kernel
theorem dX6_load_54 : decode cX6_load 54 = .ok (.iconst 0, 1) := by decide +kernel
theorem dX6_load_55 : decode cX6_load 55 = .ok (.iadd, 1) := by decide +kernel
theorem dX6_load_56 : decode cX6_load 56 = .ok (.istore_n 3, 1) := by decide +kernel
theorem dX6_load_57 : decode cX6_load 57 = .ok (.iinc 4 1, 3) := by decide +kernel
theorem dX6_load_60 : decode cX6_load 60 = .ok (.goto (-55), 3) := by decide +kernel
theorem dX6_load_63 : decode cX6_load 63 = .ok (.iconst 0, 1) := by decide +kernel
theorem dX6_load_64 : decode cX6_load 64 = .ok (.istore 4, 2) := by decide +kernel
theorem dX6_load_66 : decode cX6_load 66 = .ok (.iload 4, 2) := by decide +kernel
theorem dX6_load_68 : decode cX6_load 68 = .ok (.aload_n 0, 1) := by decide +kernel
theorem dX6_load_69 : decode cX6_load 69 = .ok (.getfield 155, 3) := by decide +kernel
theorem dX6_load_72 : decode cX6_load 72 = .ok (.if_icmp .ge 28, 3) := by decide +kernel
theorem dX6_load_75 : decode cX6_load 75 = .ok (.iload_n 3, 1) := by decide +kernel
theorem dX6_load_76 : decode cX6_load 76 = .ok (.aload_n 0, 1) := by decide +kernel
theorem dX6_load_77 : decode cX6_load 77 = .ok (.getfield 59, 3) := by decide +kernel
theorem dX6_load_80 : decode cX6_load 80 = .ok (.iload 4, 2) := by decide +kernel
theorem dX6_load_82 : decode cX6_load 82 = .ok (.iaload, 1) := by decide +kernel
theorem dX6_load_83 : decode cX6_load 83 = .ok (.iload_n 1, 1) := by decide +kernel
theorem dX6_load_84 : decode cX6_load 84 = .ok (.if_icmp .ne 7, 3) := by decide +kernel
theorem dX6_load_87 : decode cX6_load 87 = .ok (.iconst 1, 1) := by decide +kernel
theorem dX6_load_88 : decode cX6_load 88 = .ok (.goto 4, 3) := by decide +kernel
theorem dX6_load_91 : decode cX6_load 91 = .ok (.iconst 0, 1) := by decide +kernel
theorem dX6_load_92 : decode cX6_load 92 = .ok (.iadd, 1) := by decide +kernel
theorem dX6_load_93 : decode cX6_load 93 = .ok (.istore_n 3, 1) := by decide +kernel
theorem dX6_load_94 : decode cX6_load 94 = .ok (.iinc 4 1, 3) := by decide +kernel
theorem dX6_load_97 : decode cX6_load 97 = .ok (.goto (-31), 3) := by decide +kernel
theorem dX6_load_100 : decode cX6_load 100 = .ok (.iload_n 3, 1) := by decide +kernel
theorem dX6_load_101 : decode cX6_load 101 = .ok (.ireturn, 1) := by decide +kernel
theorem dX6_mayTake_0 : decode cX6_mayTake 0 = .ok (.aload_n 0, 1) := by decide +kernel
theorem dX6_mayTake_1 : decode cX6_mayTake 1 = .ok (.getfield 34, 3) := by decide +kernel
theorem dX6_mayTake_4 : decode cX6_mayTake 4 = .ok (.iload_n 2, 1) := by decide +kernel
theorem dX6_mayTake_5 : decode cX6_mayTake 5 = .ok (.iaload, 1) := by decide +kernel
theorem dX6_mayTake_6 : decode cX6_mayTake 6 = .ok (.istore_n 3, 1) := by decide +kernel
theorem dX6_mayTake_7 : decode cX6_mayTake 7 = .ok (.aload_n 0, 1) := by decide +kernel
theorem dX6_mayTake_8 : decode cX6_mayTake 8 = .ok (.getfield 25, 3) := by decide +kernel
theorem dX6_mayTake_11 : decode cX6_mayTake 11 = .ok (.iload_n 2, 1) := by decide +kernel
theorem dX6_mayTake_12 : decode cX6_mayTake 12 = .ok (.invokestatic 79, 3) := by decide +kernel
theorem dX6_mayTake_15 : decode cX6_mayTake 15 = .ok (.iaload, 1) := by decide +kernel
theorem dX6_mayTake_16 : decode cX6_mayTake 16 = .ok (.istore 4, 2) := by decide +kernel
theorem dX6_mayTake_18 : decode cX6_mayTake 18 = .ok (.aload_n 0, 1) := by decide +kernel
theorem dX6_mayTake_19 : decode cX6_mayTake 19 = .ok (.iconst 1, 1) := by decide +kernel
theorem dX6_mayTake_20 : decode cX6_mayTake 20 = .ok (.iload_n 1, 1) := by decide +kernel
theorem dX6_mayTake_21 : decode cX6_mayTake 21 = .ok (.iload_n 3, 1) := by decide +kernel
theorem dX6_mayTake_22 : decode cX6_mayTake 22 = .ok (.iload 4, 2) := by decide +kernel
theorem dX6_mayTake_24 : decode cX6_mayTake 24 = .ok (.invokevirtual 105, 3) := by decide +kernel
theorem dX6_mayTake_27 : decode cX6_mayTake 27 = .ok (.ifCond .ne 19, 3) := by decide +kernel
theorem dX6_mayTake_30 : decode cX6_mayTake 30 = .ok (.aload_n 0, 1) := by decide +kernel
theorem dX6_mayTake_31 : decode cX6_mayTake 31 = .ok (.iconst 1, 1) := by decide +kernel
theorem dX6_mayTake_32 : decode cX6_mayTake 32 = .ok (.iload_n 1, 1) := by decide +kernel
theorem dX6_mayTake_33 : decode cX6_mayTake 33 = .ok (.iload_n 3, 1) := by decide +kernel
theorem dX6_mayTake_34 : decode cX6_mayTake 34 = .ok (.iload 4, 2) := by decide +kernel
theorem dX6_mayTake_36 : decode cX6_mayTake 36 = .ok (.invokevirtual 109, 3) := by decide +kernel
theorem dX6_mayTake_39 : decode cX6_mayTake 39 = .ok (.ifCond .ne 7, 3) := by decide +kernel
theorem dX6_mayTake_42 : decode cX6_mayTake 42 = .ok (.iconst 1, 1) := by decide +kernel
theorem dX6_mayTake_43 : decode cX6_mayTake 43 = .ok (.goto 4, 3) := by decide +kernel
theorem dX6_mayTake_46 : decode cX6_mayTake 46 = .ok (.iconst 0, 1) := by decide +kernel
theorem dX6_mayTake_47 : decode cX6_mayTake 47 = .ok (.istore 5, 2) := by decide +kernel
theorem dX6_mayTake_49 : decode cX6_mayTake 49 = .ok (.iconst 0, 1) := by decide +kernel
theorem dX6_mayTake_50 : decode cX6_mayTake 50 = .ok (.istore 6, 2) := by decide +kernel
theorem dX6_mayTake_52 : decode cX6_mayTake 52 = .ok (.iload 6, 2) := by decide +kernel
theorem dX6_mayTake_54 : decode cX6_mayTake 54 = .ok (.aload_n 0, 1) := by decide +kernel
theorem dX6_mayTake_55 : decode cX6_mayTake 55 = .ok (.getfield 155, 3) := by decide +kernel
theorem dX6_mayTake_58 : decode cX6_mayTake 58 = .ok (.if_icmp .ge 77, 3) := by decide +kernel
theorem dX6_mayTake_61 : decode cX6_mayTake 61 = .ok (.aload_n 0, 1) := by decide +kernel
theorem dX6_mayTake_62 : decode cX6_mayTake 62 = .ok (.getfield 34, 3) := by decide +kernel
theorem dX6_mayTake_65 : decode cX6_mayTake 65 = .ok (.aload_n 0, 1) := by decide +kernel
theorem dX6_mayTake_66 : decode cX6_mayTake 66 = .ok (.getfield 44, 3) := by decide +kernel
theorem dX6_mayTake_69 : decode cX6_mayTake 69 = .ok (.iload 6, 2) := by decide +kernel
theorem dX6_mayTake_71 : decode cX6_mayTake 71 = .ok (.iaload, 1) := by decide +kernel
theorem dX6_mayTake_72 : decode cX6_mayTake 72 = .ok (.iaload, 1) := by decide +kernel
theorem dX6_mayTake_73 : decode cX6_mayTake 73 = .ok (.istore 7, 2) := by decide +kernel
theorem dX6_mayTake_75 : decode cX6_mayTake 75 = .ok (.iload 5, 2) := by decide +kernel
theorem dX6_mayTake_77 : decode cX6_mayTake 77 = .ok (.ifCond .eq 49, 3) := by decide +kernel
theorem dX6_mayTake_80 : decode cX6_mayTake 80 = .ok (.aload_n 0, 1) := by decide +kernel
theorem dX6_mayTake_81 : decode cX6_mayTake 81 = .ok (.getfield 59, 3) := by decide +kernel
theorem dX6_mayTake_84 : decode cX6_mayTake 84 = .ok (.iload 6, 2) := by decide +kernel
theorem dX6_mayTake_86 : decode cX6_mayTake 86 = .ok (.iaload, 1) := by decide +kernel
theorem dX6_mayTake_87 : decode cX6_mayTake 87 = .ok (.iload_n 1, 1) := by decide +kernel
theorem dX6_mayTake_88 : decode cX6_mayTake 88 = .ok (.if_icmp .ne 34, 3) := by decide +kernel
theorem dX6_mayTake_91 : decode cX6_mayTake 91 = .ok (.iload 7, 2) := by decide +kernel
theorem dX6_mayTake_93 : decode cX6_mayTake 93 = .ok (.aload_n 0, 1) := by decide +kernel
theorem dX6_mayTake_94 : decode cX6_mayTake 94 = .ok (.getfield 25, 3) := by decide +kernel
theorem dX6_mayTake_97 : decode cX6_mayTake 97 = .ok (.aload_n 0, 1) := by decide +kernel
theorem dX6_mayTake_98 : decode cX6_mayTake 98 = .ok (.getfield 44, 3) := by decide +kernel
theorem dX6_mayTake_101 : decode cX6_mayTake 101 = .ok (.iload 6, 2) := by decide +kernel
theorem dX6_mayTake_103 : decode cX6_mayTake 103 = .ok (.iaload, 1) := by decide +kernel
theorem dX6_mayTake_104 : decode cX6_mayTake 104 = .ok (.invokestatic 79, 3) := by decide +kernel
theorem dX6_mayTake_107 : decode cX6_mayTake 107 = .ok (.iaload, 1) := by decide +kernel
theorem dX6_mayTake_108 : decode cX6_mayTake 108 = .ok (.iadd, 1) := by decide +kernel
theorem dX6_mayTake_109 : decode cX6_mayTake 109 = .ok (.iload_n 3, 1) := by decide +kernel
theorem dX6_mayTake_110 : decode cX6_mayTake 110 = .ok (.if_icmp .le 12, 3) := by decide +kernel
theorem dX6_mayTake_113 : decode cX6_mayTake 113 = .ok (.iload_n 3, 1) := by decide +kernel
theorem dX6_mayTake_114 : decode cX6_mayTake 114 = .ok (.iload 4, 2) := by decide +kernel
theorem dX6_mayTake_116 : decode cX6_mayTake 116 = .ok (.iadd, 1) := by decide +kernel
theorem dX6_mayTake_117 : decode cX6_mayTake 117 = .ok (.iload 7, 2) := by decide +kernel
theorem dX6_mayTake_119 : decode cX6_mayTake 119 = .ok (.if_icmp .gt 7, 3) := by decide +kernel
theorem dX6_mayTake_122 : decode cX6_mayTake 122 = .ok (.iconst 1, 1) := by decide +kernel
theorem dX6_mayTake_123 : decode cX6_mayTake 123 = .ok (.goto 4, 3) := by decide +kernel
theorem dX6_mayTake_126 : decode cX6_mayTake 126 = .ok (.iconst 0, 1) := by decide +kernel
theorem dX6_mayTake_127 : decode cX6_mayTake 127 = .ok (.istore 5, 2) := by decide +kernel
theorem dX6_mayTake_129 : decode cX6_mayTake 129 = .ok (.iinc 6 1, 3) := by decide +kernel
theorem dX6_mayTake_132 : decode cX6_mayTake 132 = .ok (.goto (-80), 3) := by decide +kernel
theorem dX6_mayTake_135 : decode cX6_mayTake 135 = .ok (.iload 5, 2) := by decide +kernel
theorem dX6_mayTake_137 : decode cX6_mayTake 137 = .ok (.ireturn, 1) := by decide +kernel
theorem dX6_absent_0 : decode cX6_absent 0 = .ok (.aload_n 0, 1) := by decide +kernel
theorem dX6_absent_1 : decode cX6_absent 1 = .ok (.iload_n 1, 1) := by decide +kernel
theorem dX6_absent_2 : decode cX6_absent 2 = .ok (.iconst 0, 1) := by decide +kernel
theorem dX6_absent_3 : decode cX6_absent 3 = .ok (.bipush 7, 2) := by decide +kernel
theorem dX6_absent_5 : decode cX6_absent 5 = .ok (.invokestatic 72, 3) := by decide +kernel
theorem dX6_absent_8 : decode cX6_absent 8 = .ok (.ifCond .eq 17, 3) := by decide +kernel
theorem dX6_absent_11 : decode cX6_absent 11 = .ok (.iload_n 2, 1) := by decide +kernel
theorem dX6_absent_12 : decode cX6_absent 12 = .ok (.iconst 0, 1) := by decide +kernel
theorem dX6_absent_13 : decode cX6_absent 13 = .ok (.aload_n 0, 1) := by decide +kernel
theorem dX6_absent_14 : decode cX6_absent 14 = .ok (.getfield 62, 3) := by decide +kernel
theorem dX6_absent_17 : decode cX6_absent 17 = .ok (.iconst 1, 1) := by decide +kernel
theorem dX6_absent_18 : decode cX6_absent 18 = .ok (.isub, 1) := by decide +kernel
theorem dX6_absent_19 : decode cX6_absent 19 = .ok (.invokestatic 72, 3) := by decide +kernel
theorem dX6_absent_22 : decode cX6_absent 22 = .ok (.ifCond .ne 7, 3) := by decide +kernel
theorem dX6_absent_25 : decode cX6_absent 25 = .ok (.iconst 1, 1) := by decide +kernel
theorem dX6_absent_26 : decode cX6_absent 26 = .ok (.goto 4, 3) := by decide +kernel
theorem dX6_absent_29 : decode cX6_absent 29 = .ok (.iconst 0, 1) := by decide +kernel
theorem dX6_absent_30 : decode cX6_absent 30 = .ok (.iconst 0, 1) := by decide +kernel
theorem dX6_absent_31 : decode cX6_absent 31 = .ok (.invokevirtual 90, 3) := by decide +kernel
theorem dX6_absent_34 : decode cX6_absent 34 = .ok (.ifCond .eq 5, 3) := by decide +kernel
theorem dX6_absent_37 : decode cX6_absent 37 = .ok (.iconst 0, 1) := by decide +kernel
theorem dX6_absent_38 : decode cX6_absent 38 = .ok (.ireturn, 1) := by decide +kernel
theorem dX6_absent_39 : decode cX6_absent 39 = .ok (.aload_n 0, 1) := by decide +kernel
theorem dX6_absent_40 : decode cX6_absent 40 = .ok (.iconst 0, 1) := by decide +kernel
theorem dX6_absent_41 : decode cX6_absent 41 = .ok (.putfield 155, 3) := by decide +kernel
theorem dX6_absent_44 : decode cX6_absent 44 = .ok (.iload_n 2, 1) := by decide +kernel
theorem dX6_absent_45 : decode cX6_absent 45 = .ok (.aload_n 0, 1) := by decide +kernel
theorem dX6_absent_46 : decode cX6_absent 46 = .ok (.getfield 66, 3) := by decide +kernel
theorem dX6_absent_49 : decode cX6_absent 49 = .ok (.imul, 1) := by decide +kernel
theorem dX6_absent_50 : decode cX6_absent 50 = .ok (.istore_n 3, 1) := by decide +kernel
theorem dX6_absent_51 : decode cX6_absent 51 = .ok (.iload_n 3, 1) := by decide +kernel
theorem dX6_absent_52 : decode cX6_absent 52 = .ok (.iload_n 2, 1) := by decide +kernel
theorem dX6_absent_53 : decode cX6_absent 53 = .ok (.iconst 1, 1) := by decide +kernel
theorem dX6_absent_54 : decode cX6_absent 54 = .ok (.iadd, 1) := by decide +kernel
theorem dX6_absent_55 : decode cX6_absent 55 = .ok (.aload_n 0, 1) := by decide +kernel
theorem dX6_absent_56 : decode cX6_absent 56 = .ok (.getfield 66, 3) := by decide +kernel
theorem dX6_absent_59 : decode cX6_absent 59 = .ok (.imul, 1) := by decide +kernel
theorem dX6_absent_60 : decode cX6_absent 60 = .ok (.if_icmp .ge 145, 3) := by decide +kernel
theorem dX6_absent_63 : decode cX6_absent 63 = .ok (.aload_n 0, 1) := by decide +kernel
theorem dX6_absent_64 : decode cX6_absent 64 = .ok (.iconst 1, 1) := by decide +kernel
theorem dX6_absent_65 : decode cX6_absent 65 = .ok (.iload_n 1, 1) := by decide +kernel
theorem dX6_absent_66 : decode cX6_absent 66 = .ok (.iload_n 3, 1) := by decide +kernel
theorem dX6_absent_67 : decode cX6_absent 67 = .ok (.invokevirtual 98, 3) := by decide +kernel
theorem dX6_absent_70 : decode cX6_absent 70 = .ok (.istore 4, 2) := by decide +kernel
theorem dX6_absent_72 : decode cX6_absent 72 = .ok (.iload 4, 2) := by decide +kernel
theorem dX6_absent_74 : decode cX6_absent 74 = .ok (.ifCond .lt 125, 3) := by decide +kernel
theorem dX6_absent_77 : decode cX6_absent 77 = .ok (.aload_n 0, 1) := by decide +kernel
theorem dX6_absent_78 : decode cX6_absent 78 = .ok (.getfield 34, 3) := by decide +kernel
theorem dX6_absent_81 : decode cX6_absent 81 = .ok (.iload 4, 2) := by decide +kernel
theorem dX6_absent_83 : decode cX6_absent 83 = .ok (.iaload, 1) := by decide +kernel
theorem dX6_absent_84 : decode cX6_absent 84 = .ok (.iload_n 3, 1) := by decide +kernel
theorem dX6_absent_85 : decode cX6_absent 85 = .ok (.if_icmp .ne 114, 3) := by decide +kernel
theorem dX6_absent_88 : decode cX6_absent 88 = .ok (.aload_n 0, 1) := by decide +kernel
theorem dX6_absent_89 : decode cX6_absent 89 = .ok (.getfield 44, 3) := by decide +kernel
theorem dX6_absent_92 : decode cX6_absent 92 = .ok (.aload_n 0, 1) := by decide +kernel
theorem dX6_absent_93 : decode cX6_absent 93 = .ok (.getfield 155, 3) := by decide +kernel
theorem dX6_absent_96 : decode cX6_absent 96 = .ok (.iload 4, 2) := by decide +kernel
theorem dX6_absent_98 : decode cX6_absent 98 = .ok (.iastore, 1) := by decide +kernel
theorem dX6_absent_99 : decode cX6_absent 99 = .ok (.iconst (-1), 1) := by decide +kernel
theorem dX6_absent_100 : decode cX6_absent 100 = .ok (.istore 5, 2) := by decide +kernel
theorem dX6_absent_102 : decode cX6_absent 102 = .ok (.iconst 0, 1) := by decide +kernel
theorem dX6_absent_103 : decode cX6_absent 103 = .ok (.istore 6, 2) := by decide +kernel
theorem dX6_absent_105 : decode cX6_absent 105 = .ok (.iload 6, 2) := by decide +kernel
theorem dX6_absent_107 : decode cX6_absent 107 = .ok (.bipush 8, 2) := by decide +kernel
theorem dX6_absent_109 : decode cX6_absent 109 = .ok (.if_icmp .ge 69, 3) := by decide +kernel
theorem dX6_absent_112 : decode cX6_absent 112 = .ok (.iload 6, 2) := by decide +kernel
theorem dX6_absent_114 : decode cX6_absent 114 = .ok (.iload_n 1, 1) := by decide +kernel
theorem dX6_absent_115 : decode cX6_absent 115 = .ok (.if_icmp .eq 40, 3) := by decide +kernel
theorem dX6_absent_118 : decode cX6_absent 118 = .ok (.aload_n 0, 1) := by decide +kernel
theorem dX6_absent_119 : decode cX6_absent 119 = .ok (.iload 6, 2) := by decide +kernel
theorem dX6_absent_121 : decode cX6_absent 121 = .ok (.iload 4, 2) := by decide +kernel
theorem dX6_absent_123 : decode cX6_absent 123 = .ok (.invokevirtual 158, 3) := by decide +kernel
theorem dX6_absent_126 : decode cX6_absent 126 = .ok (.ifCond .eq 29, 3) := by decide +kernel
theorem dX6_absent_129 : decode cX6_absent 129 = .ok (.iload 5, 2) := by decide +kernel
theorem dX6_absent_131 : decode cX6_absent 131 = .ok (.ifCond .lt 20, 3) := by decide +kernel
theorem dX6_absent_134 : decode cX6_absent 134 = .ok (.aload_n 0, 1) := by decide +kernel
theorem dX6_absent_135 : decode cX6_absent 135 = .ok (.iload 6, 2) := by decide +kernel
theorem dX6_absent_137 : decode cX6_absent 137 = .ok (.iload_n 2, 1) := by decide +kernel
theorem dX6_absent_138 : decode cX6_absent 138 = .ok (.invokevirtual 161, 3) := by decide +kernel
theorem dX6_absent_141 : decode cX6_absent 141 = .ok (.aload_n 0, 1) := by decide +kernel
theorem dX6_absent_142 : decode cX6_absent 142 = .ok (.iload 5, 2) := by decide +kernel
theorem dX6_absent_144 : decode cX6_absent 144 = .ok (.iload_n 2, 1) := by decide +kernel
theorem dX6_absent_145 : decode cX6_absent 145 = .ok (.invokevirtual 161, 3) := by decide +kernel
theorem dX6_absent_148 : decode cX6_absent 148 = .ok (.if_icmp .ge 7, 3) := by decide +kernel
theorem dX6_absent_151 : decode cX6_absent 151 = .ok (.iconst 1, 1) := by decide +kernel
theorem dX6_absent_152 : decode cX6_absent 152 = .ok (.goto 4, 3) := by decide +kernel
theorem dX6_absent_155 : decode cX6_absent 155 = .ok (.iconst 0, 1) := by decide +kernel
theorem dX6_absent_156 : decode cX6_absent 156 = .ok (.istore 7, 2) := by decide +kernel
theorem dX6_absent_158 : decode cX6_absent 158 = .ok (.iload 7, 2) := by decide +kernel
theorem dX6_absent_160 : decode cX6_absent 160 = .ok (.ifCond .eq 8, 3) := by decide +kernel
theorem dX6_absent_163 : decode cX6_absent 163 = .ok (.iload 6, 2) := by decide +kernel
theorem dX6_absent_165 : decode cX6_absent 165 = .ok (.goto 5, 3) := by decide +kernel
theorem dX6_absent_168 : decode cX6_absent 168 = .ok (.iload 5, 2) := by decide +kernel
theorem dX6_absent_170 : decode cX6_absent 170 = .ok (.istore 5, 2) := by decide +kernel
theorem dX6_absent_172 : decode cX6_absent 172 = .ok (.iinc 6 1, 3) := by decide +kernel
theorem dX6_absent_175 : decode cX6_absent 175 = .ok (.goto (-70), 3) := by decide +kernel
theorem dX6_absent_178 : decode cX6_absent 178 = .ok (.aload_n 0, 1) := by decide +kernel
theorem dX6_absent_179 : decode cX6_absent 179 = .ok (.getfield 59, 3) := by decide +kernel
theorem dX6_absent_182 : decode cX6_absent 182 = .ok (.aload_n 0, 1) := by decide +kernel
theorem dX6_absent_183 : decode cX6_absent 183 = .ok (.getfield 155, 3) := by decide +kernel
theorem dX6_absent_186 : decode cX6_absent 186 = .ok (.iload 5, 2) := by decide +kernel
theorem dX6_absent_188 : decode cX6_absent 188 = .ok (.iastore, 1) := by decide +kernel
theorem dX6_absent_189 : decode cX6_absent 189 = .ok (.aload_n 0, 1) := by decide +kernel
theorem dX6_absent_190 : decode cX6_absent 190 = .ok (.dup, 1) := by decide +kernel
theorem dX6_absent_191 : decode cX6_absent 191 = .ok (.getfield 155, 3) := by decide +kernel
theorem dX6_absent_194 : decode cX6_absent 194 = .ok (.iconst 1, 1) := by decide +kernel
theorem dX6_absent_195 : decode cX6_absent 195 = .ok (.iadd, 1) := by decide +kernel
theorem dX6_absent_196 : decode cX6_absent 196 = .ok (.putfield 155, 3) := by decide +kernel
theorem dX6_absent_199 : decode cX6_absent 199 = .ok (.iinc 3 1, 3) := by decide +kernel
theorem dX6_absent_202 : decode cX6_absent 202 = .ok (.goto (-151), 3) := by decide +kernel
theorem dX6_absent_205 : decode cX6_absent 205 = .ok (.aload_n 0, 1) := by decide +kernel
theorem dX6_absent_206 : decode cX6_absent 206 = .ok (.getfield 155, 3) := by decide +kernel
theorem dX6_absent_209 : decode cX6_absent 209 = .ok (.ireturn, 1) := by decide +kernel
theorem dX6_substitute_0 : decode cX6_substitute 0 = .ok (.aload_n 0, 1) := by decide +kernel
theorem dX6_substitute_1 : decode cX6_substitute 1 = .ok (.iload_n 1, 1) := by decide +kernel
theorem dX6_substitute_2 : decode cX6_substitute 2 = .ok (.iconst 0, 1) := by decide +kernel
theorem dX6_substitute_3 : decode cX6_substitute 3 = .ok (.aload_n 0, 1) := by decide +kernel
theorem dX6_substitute_4 : decode cX6_substitute 4 = .ok (.getfield 155, 3) := by decide +kernel
theorem dX6_substitute_7 : decode cX6_substitute 7 = .ok (.iconst 1, 1) := by decide +kernel
theorem dX6_substitute_8 : decode cX6_substitute 8 = .ok (.isub, 1) := by decide +kernel
theorem dX6_substitute_9 : decode cX6_substitute 9 = .ok (.invokestatic 72, 3) := by decide +kernel
theorem dX6_substitute_12 : decode cX6_substitute 12 = .ok (.ifCond .ne 7, 3) := by decide +kernel
theorem dX6_substitute_15 : decode cX6_substitute 15 = .ok (.iconst 1, 1) := by decide +kernel
theorem dX6_substitute_16 : decode cX6_substitute 16 = .ok (.goto 4, 3) := by decide +kernel
theorem dX6_substitute_19 : decode cX6_substitute 19 = .ok (.iconst 0, 1) := by decide +kernel
theorem dX6_substitute_20 : decode cX6_substitute 20 = .ok (.iconst 0, 1) := by decide +kernel
theorem dX6_substitute_21 : decode cX6_substitute 21 = .ok (.invokevirtual 90, 3) := by decide +kernel
theorem dX6_substitute_24 : decode cX6_substitute 24 = .ok (.ifCond .eq 5, 3) := by decide +kernel
theorem dX6_substitute_27 : decode cX6_substitute 27 = .ok (.iconst 0, 1) := by decide +kernel
theorem dX6_substitute_28 : decode cX6_substitute 28 = .ok (.ireturn, 1) := by decide +kernel
theorem dX6_substitute_29 : decode cX6_substitute 29 = .ok (.aload_n 0, 1) := by decide +kernel
theorem dX6_substitute_30 : decode cX6_substitute 30 = .ok (.getfield 59, 3) := by decide +kernel
theorem dX6_substitute_33 : decode cX6_substitute 33 = .ok (.iload_n 1, 1) := by decide +kernel
theorem dX6_substitute_34 : decode cX6_substitute 34 = .ok (.iaload, 1) := by decide +kernel
theorem dX6_substitute_35 : decode cX6_substitute 35 = .ok (.ireturn, 1) := by decide +kernel
theorem dX6_page_0 : decode cX6_page 0 = .ok (.iload_n 1, 1) := by decide +kernel
theorem dX6_page_1 : decode cX6_page 1 = .ok (.iconst 0, 1) := by decide +kernel
theorem dX6_page_2 : decode cX6_page 2 = .ok (.iconst 2, 1) := by decide +kernel
theorem dX6_page_3 : decode cX6_page 3 = .ok (.invokestatic 72, 3) := by decide +kernel
theorem dX6_page_6 : decode cX6_page 6 = .ok (.ifCond .eq 22, 3) := by decide +kernel
theorem dX6_page_9 : decode cX6_page 9 = .ok (.iload_n 2, 1) := by decide +kernel
theorem dX6_page_10 : decode cX6_page 10 = .ok (.iconst 0, 1) := by decide +kernel
theorem dX6_page_11 : decode cX6_page 11 = .ok (.iload_n 1, 1) := by decide +kernel
theorem dX6_page_12 : decode cX6_page 12 = .ok (.iconst 2, 1) := by decide +kernel
theorem dX6_page_13 : decode cX6_page 13 = .ok (.if_icmp .ne 7, 3) := by decide +kernel
theorem dX6_page_16 : decode cX6_page 16 = .ok (.iconst 5, 1) := by decide +kernel
theorem dX6_page_17 : decode cX6_page 17 = .ok (.goto 5, 3) := by decide +kernel
theorem dX6_page_20 : decode cX6_page 20 = .ok (.bipush 7, 2) := by decide +kernel
theorem dX6_page_22 : decode cX6_page 22 = .ok (.invokestatic 72, 3) := by decide +kernel
theorem dX6_page_25 : decode cX6_page 25 = .ok (.ifCond .ne 7, 3) := by decide +kernel
theorem dX6_page_28 : decode cX6_page 28 = .ok (.iconst 1, 1) := by decide +kernel
theorem dX6_page_29 : decode cX6_page 29 = .ok (.goto 4, 3) := by decide +kernel
theorem dX6_page_32 : decode cX6_page 32 = .ok (.iconst 0, 1) := by decide +kernel
theorem dX6_page_33 : decode cX6_page 33 = .ok (.istore 4, 2) := by decide +kernel
theorem dX6_page_35 : decode cX6_page 35 = .ok (.aload_n 0, 1) := by decide +kernel
theorem dX6_page_36 : decode cX6_page 36 = .ok (.iload 4, 2) := by decide +kernel
theorem dX6_page_38 : decode cX6_page 38 = .ok (.iload 4, 2) := by decide +kernel
theorem dX6_page_40 : decode cX6_page 40 = .ok (.ifCond .ne 28, 3) := by decide +kernel
theorem dX6_page_43 : decode cX6_page 43 = .ok (.iload_n 3, 1) := by decide +kernel
theorem dX6_page_44 : decode cX6_page 44 = .ok (.iconst 0, 1) := by decide +kernel
theorem dX6_page_45 : decode cX6_page 45 = .ok (.aload_n 0, 1) := by decide +kernel
theorem dX6_page_46 : decode cX6_page 46 = .ok (.getfield 62, 3) := by decide +kernel
theorem dX6_page_49 : decode cX6_page 49 = .ok (.aload_n 0, 1) := by decide +kernel
theorem dX6_page_50 : decode cX6_page 50 = .ok (.getfield 66, 3) := by decide +kernel
theorem dX6_page_53 : decode cX6_page 53 = .ok (.iconst 1, 1) := by decide +kernel
theorem dX6_page_54 : decode cX6_page 54 = .ok (.iadd, 1) := by decide +kernel
theorem dX6_page_55 : decode cX6_page 55 = .ok (.imul, 1) := by decide +kernel
theorem dX6_page_56 : decode cX6_page 56 = .ok (.iconst 1, 1) := by decide +kernel
theorem dX6_page_57 : decode cX6_page 57 = .ok (.isub, 1) := by decide +kernel
theorem dX6_page_58 : decode cX6_page 58 = .ok (.invokestatic 72, 3) := by decide +kernel
theorem dX6_page_61 : decode cX6_page 61 = .ok (.ifCond .ne 7, 3) := by decide +kernel
theorem dX6_page_64 : decode cX6_page 64 = .ok (.iconst 1, 1) := by decide +kernel
theorem dX6_page_65 : decode cX6_page 65 = .ok (.goto 4, 3) := by decide +kernel
theorem dX6_page_68 : decode cX6_page 68 = .ok (.iconst 0, 1) := by decide +kernel
theorem dX6_page_69 : decode cX6_page 69 = .ok (.invokevirtual 90, 3) := by decide +kernel
theorem dX6_page_72 : decode cX6_page 72 = .ok (.ifCond .eq 5, 3) := by decide +kernel
theorem dX6_page_75 : decode cX6_page 75 = .ok (.iconst 0, 1) := by decide +kernel
theorem dX6_page_76 : decode cX6_page 76 = .ok (.ireturn, 1) := by decide +kernel
theorem dX6_page_77 : decode cX6_page 77 = .ok (.iload_n 3, 1) := by decide +kernel
theorem dX6_page_78 : decode cX6_page 78 = .ok (.aload_n 0, 1) := by decide +kernel
theorem dX6_page_79 : decode cX6_page 79 = .ok (.getfield 66, 3) := by decide +kernel
theorem dX6_page_82 : decode cX6_page 82 = .ok (.iconst 1, 1) := by decide +kernel
theorem dX6_page_83 : decode cX6_page 83 = .ok (.iadd, 1) := by decide +kernel
theorem dX6_page_84 : decode cX6_page 84 = .ok (.irem, 1) := by decide +kernel
theorem dX6_page_85 : decode cX6_page 85 = .ok (.istore 5, 2) := by decide +kernel
theorem dX6_page_87 : decode cX6_page 87 = .ok (.iload 5, 2) := by decide +kernel
theorem dX6_page_89 : decode cX6_page 89 = .ok (.aload_n 0, 1) := by decide +kernel
theorem dX6_page_90 : decode cX6_page 90 = .ok (.getfield 66, 3) := by decide +kernel
theorem dX6_page_93 : decode cX6_page 93 = .ok (.if_icmp .ne 6, 3) := by decide +kernel
theorem dX6_page_96 : decode cX6_page 96 = .ok (.bipush 10, 2) := by decide +kernel
theorem dX6_page_98 : decode cX6_page 98 = .ok (.ireturn, 1) := by decide +kernel
theorem dX6_page_99 : decode cX6_page 99 = .ok (.aload_n 0, 1) := by decide +kernel
theorem dX6_page_100 : decode cX6_page 100 = .ok (.iload_n 1, 1) := by decide +kernel
theorem dX6_page_101 : decode cX6_page 101 = .ok (.iload_n 2, 1) := by decide +kernel
theorem dX6_page_102 : decode cX6_page 102 = .ok (.iload_n 3, 1) := by decide +kernel
theorem dX6_page_103 : decode cX6_page 103 = .ok (.aload_n 0, 1) := by decide +kernel
theorem dX6_page_104 : decode cX6_page 104 = .ok (.getfield 66, 3) := by decide +kernel
theorem dX6_page_107 : decode cX6_page 107 = .ok (.iconst 1, 1) := by decide +kernel
theorem dX6_page_108 : decode cX6_page 108 = .ok (.iadd, 1) := by decide +kernel
theorem dX6_page_109 : decode cX6_page 109 = .ok (.idiv, 1) := by decide +kernel
theorem dX6_page_110 : decode cX6_page 110 = .ok (.aload_n 0, 1) := by decide +kernel
theorem dX6_page_111 : decode cX6_page 111 = .ok (.getfield 66, 3) := by decide +kernel
theorem dX6_page_114 : decode cX6_page 114 = .ok (.imul, 1) := by decide +kernel
theorem dX6_page_115 : decode cX6_page 115 = .ok (.iload 5, 2) := by decide +kernel
theorem dX6_page_117 : decode cX6_page 117 = .ok (.iadd, 1) := by decide +kernel
theorem dX6_page_118 : decode cX6_page 118 = .ok (.invokevirtual 98, 3) := by decide +kernel
theorem dX6_page_121 : decode cX6_page 121 = .ok (.istore 6, 2) := by decide +kernel
theorem dX6_page_123 : decode cX6_page 123 = .ok (.iload 6, 2) := by decide +kernel
theorem dX6_page_125 : decode cX6_page 125 = .ok (.ifCond .ge 8, 3) := by decide +kernel
theorem dX6_page_128 : decode cX6_page 128 = .ok (.bipush 46, 2) := by decide +kernel
theorem dX6_page_130 : decode cX6_page 130 = .ok (.goto 13, 3) := by decide +kernel
theorem dX6_page_133 : decode cX6_page 133 = .ok (.aload_n 0, 1) := by decide +kernel
theorem dX6_page_134 : decode cX6_page 134 = .ok (.getfield 31, 3) := by decide +kernel
theorem dX6_page_137 : decode cX6_page 137 = .ok (.iload 6, 2) := by decide +kernel
theorem dX6_page_139 : decode cX6_page 139 = .ok (.invokestatic 79, 3) := by decide +kernel
theorem dX6_page_142 : decode cX6_page 142 = .ok (.iaload, 1) := by decide +kernel
theorem dX6_page_143 : decode cX6_page 143 = .ok (.ireturn, 1) := by decide +kernel
theorem dJ6_bitCount_0f7a4_0 : decode cJ6_bitCount_0f7a4 0 = .ok (.iload_n 0, 1) := by decide +kernel
theorem dJ6_bitCount_0f7a4_1 : decode cJ6_bitCount_0f7a4 1 = .ok (.iload_n 0, 1) := by decide +kernel
theorem dJ6_bitCount_0f7a4_2 : decode cJ6_bitCount_0f7a4 2 = .ok (.iconst 1, 1) := by decide +kernel
theorem dJ6_bitCount_0f7a4_3 : decode cJ6_bitCount_0f7a4 3 = .ok (.iushr, 1) := by decide +kernel
theorem dJ6_bitCount_0f7a4_4 : decode cJ6_bitCount_0f7a4 4 = .ok (.ldc_w 265, 3) := by decide +kernel
theorem dJ6_bitCount_0f7a4_7 : decode cJ6_bitCount_0f7a4 7 = .ok (.iand, 1) := by decide +kernel
theorem dJ6_bitCount_0f7a4_8 : decode cJ6_bitCount_0f7a4 8 = .ok (.isub, 1) := by decide +kernel
theorem dJ6_bitCount_0f7a4_9 : decode cJ6_bitCount_0f7a4 9 = .ok (.istore_n 0, 1) := by decide +kernel
theorem dJ6_bitCount_0f7a4_10 : decode cJ6_bitCount_0f7a4 10 = .ok (.iload_n 0, 1) := by decide +kernel
theorem dJ6_bitCount_0f7a4_11 : decode cJ6_bitCount_0f7a4 11 = .ok (.ldc_w 266, 3) := by decide +kernel
theorem dJ6_bitCount_0f7a4_14 : decode cJ6_bitCount_0f7a4 14 = .ok (.iand, 1) := by decide +kernel
theorem dJ6_bitCount_0f7a4_15 : decode cJ6_bitCount_0f7a4 15 = .ok (.iload_n 0, 1) := by decide +kernel
theorem dJ6_bitCount_0f7a4_16 : decode cJ6_bitCount_0f7a4 16 = .ok (.iconst 2, 1) := by decide +kernel
theorem dJ6_bitCount_0f7a4_17 : decode cJ6_bitCount_0f7a4 17 = .ok (.iushr, 1) := by decide +kernel
theorem dJ6_bitCount_0f7a4_18 : decode cJ6_bitCount_0f7a4 18 = .ok (.ldc_w 266, 3) := by decide +kernel
theorem dJ6_bitCount_0f7a4_21 : decode cJ6_bitCount_0f7a4 21 = .ok (.iand, 1) := by decide +kernel
theorem dJ6_bitCount_0f7a4_22 : decode cJ6_bitCount_0f7a4 22 = .ok (.iadd, 1) := by decide +kernel
theorem dJ6_bitCount_0f7a4_23 : decode cJ6_bitCount_0f7a4 23 = .ok (.istore_n 0, 1) := by decide +kernel
theorem dJ6_bitCount_0f7a4_24 : decode cJ6_bitCount_0f7a4 24 = .ok (.iload_n 0, 1) := by decide +kernel
theorem dJ6_bitCount_0f7a4_25 : decode cJ6_bitCount_0f7a4 25 = .ok (.iload_n 0, 1) := by decide +kernel
theorem dJ6_bitCount_0f7a4_26 : decode cJ6_bitCount_0f7a4 26 = .ok (.iconst 4, 1) := by decide +kernel
theorem dJ6_bitCount_0f7a4_27 : decode cJ6_bitCount_0f7a4 27 = .ok (.iushr, 1) := by decide +kernel
theorem dJ6_bitCount_0f7a4_28 : decode cJ6_bitCount_0f7a4 28 = .ok (.iadd, 1) := by decide +kernel
theorem dJ6_bitCount_0f7a4_29 : decode cJ6_bitCount_0f7a4 29 = .ok (.ldc_w 267, 3) := by decide +kernel
theorem dJ6_bitCount_0f7a4_32 : decode cJ6_bitCount_0f7a4 32 = .ok (.iand, 1) := by decide +kernel
theorem dJ6_bitCount_0f7a4_33 : decode cJ6_bitCount_0f7a4 33 = .ok (.istore_n 0, 1) := by decide +kernel
theorem dJ6_bitCount_0f7a4_34 : decode cJ6_bitCount_0f7a4 34 = .ok (.iload_n 0, 1) := by decide +kernel
theorem dJ6_bitCount_0f7a4_35 : decode cJ6_bitCount_0f7a4 35 = .ok (.iload_n 0, 1) := by decide +kernel
theorem dJ6_bitCount_0f7a4_36 : decode cJ6_bitCount_0f7a4 36 = .ok (.bipush 8, 2) := by decide +kernel
theorem dJ6_bitCount_0f7a4_38 : decode cJ6_bitCount_0f7a4 38 = .ok (.iushr, 1) := by decide +kernel
theorem dJ6_bitCount_0f7a4_39 : decode cJ6_bitCount_0f7a4 39 = .ok (.iadd, 1) := by decide +kernel
theorem dJ6_bitCount_0f7a4_40 : decode cJ6_bitCount_0f7a4 40 = .ok (.istore_n 0, 1) := by decide +kernel
theorem dJ6_bitCount_0f7a4_41 : decode cJ6_bitCount_0f7a4 41 = .ok (.iload_n 0, 1) := by decide +kernel
theorem dJ6_bitCount_0f7a4_42 : decode cJ6_bitCount_0f7a4 42 = .ok (.iload_n 0, 1) := by decide +kernel
theorem dJ6_bitCount_0f7a4_43 : decode cJ6_bitCount_0f7a4 43 = .ok (.bipush 16, 2) := by decide +kernel
theorem dJ6_bitCount_0f7a4_45 : decode cJ6_bitCount_0f7a4 45 = .ok (.iushr, 1) := by decide +kernel
theorem dJ6_bitCount_0f7a4_46 : decode cJ6_bitCount_0f7a4 46 = .ok (.iadd, 1) := by decide +kernel
theorem dJ6_bitCount_0f7a4_47 : decode cJ6_bitCount_0f7a4 47 = .ok (.istore_n 0, 1) := by decide +kernel
theorem dJ6_bitCount_0f7a4_48 : decode cJ6_bitCount_0f7a4 48 = .ok (.iload_n 0, 1) := by decide +kernel
theorem dJ6_bitCount_0f7a4_49 : decode cJ6_bitCount_0f7a4 49 = .ok (.bipush 63, 2) := by decide +kernel
theorem dJ6_bitCount_0f7a4_51 : decode cJ6_bitCount_0f7a4 51 = .ok (.iand, 1) := by decide +kernel
theorem dJ6_bitCount_0f7a4_52 : decode cJ6_bitCount_0f7a4 52 = .ok (.ireturn, 1) := by decide +kernel
theorem dJ7_fill_53178_0 : decode cJ7_fill_53178 0 = .ok (.iconst 0, 1) := by decide +kernel
theorem dJ7_fill_53178_1 : decode cJ7_fill_53178 1 = .ok (.istore_n 2, 1) := by decide +kernel
theorem dJ7_fill_53178_2 : decode cJ7_fill_53178 2 = .ok (.aload_n 0, 1) := by decide +kernel
theorem dJ7_fill_53178_3 : decode cJ7_fill_53178 3 = .ok (.arraylength, 1) := by decide +kernel
theorem dJ7_fill_53178_4 : decode cJ7_fill_53178 4 = .ok (.istore_n 3, 1) := by decide +kernel
theorem dJ7_fill_53178_5 : decode cJ7_fill_53178 5 = .ok (.iload_n 2, 1) := by decide +kernel
theorem dJ7_fill_53178_6 : decode cJ7_fill_53178 6 = .ok (.iload_n 3, 1) := by decide +kernel
theorem dJ7_fill_53178_7 : decode cJ7_fill_53178 7 = .ok (.if_icmp .ge 13, 3) := by decide +kernel
theorem dJ7_fill_53178_10 : decode cJ7_fill_53178 10 = .ok (.aload_n 0, 1) := by decide +kernel
theorem dJ7_fill_53178_11 : decode cJ7_fill_53178 11 = .ok (.iload_n 2, 1) := by decide +kernel
theorem dJ7_fill_53178_12 : decode cJ7_fill_53178 12 = .ok (.iload_n 1, 1) := by decide +kernel
theorem dJ7_fill_53178_13 : decode cJ7_fill_53178 13 = .ok (.iastore, 1) := by decide +kernel
theorem dJ7_fill_53178_14 : decode cJ7_fill_53178 14 = .ok (.iinc 2 1, 3) := by decide +kernel
theorem dJ7_fill_53178_17 : decode cJ7_fill_53178 17 = .ok (.goto (-12), 3) := by decide +kernel
theorem dJ7_fill_53178_20 : decode cJ7_fill_53178 20 = .ok (.return_, 1) := by decide +kernel
theorem dL_cell_0 : decode cL_cell 0 = .ok (.iload_n 1, 1) := by decide +kernel
theorem dL_cell_1 : decode cL_cell 1 = .ok (.aload_n 0, 1) := by decide +kernel
theorem dL_cell_2 : decode cL_cell 2 = .ok (.arraylength, 1) := by decide +kernel
theorem dL_cell_3 : decode cL_cell 3 = .ok (.if_icmp .ge 9, 3) := by decide +kernel
theorem dL_cell_6 : decode cL_cell 6 = .ok (.aload_n 0, 1) := by decide +kernel
theorem dL_cell_7 : decode cL_cell 7 = .ok (.iload_n 1, 1) := by decide +kernel
theorem dL_cell_8 : decode cL_cell 8 = .ok (.iaload, 1) := by decide +kernel
theorem dL_cell_9 : decode cL_cell 9 = .ok (.goto 4, 3) := by decide +kernel
theorem dL_cell_12 : decode cL_cell 12 = .ok (.iconst 0, 1) := by decide +kernel
theorem dL_cell_13 : decode cL_cell 13 = .ok (.ireturn, 1) := by decide +kernel
theorem dL_room_0 : decode cL_room 0 = .ok (.aload_n 0, 1) := by decide +kernel
theorem dL_room_1 : decode cL_room 1 = .ok (.iload_n 1, 1) := by decide +kernel
theorem dL_room_2 : decode cL_room 2 = .ok (.iload_n 2, 1) := by decide +kernel
theorem dL_room_3 : decode cL_room 3 = .ok (.invokevirtual 7, 3) := by decide +kernel
theorem dL_room_6 : decode cL_room 6 = .ok (.goto 9, 3) := by decide +kernel
theorem dL_room_9 : decode cL_room 9 = .ok (.astore_n 3, 1) := by decide +kernel
theorem dL_room_10 : decode cL_room 10 = .ok (.iconst 1, 1) := by decide +kernel
theorem dL_room_11 : decode cL_room 11 = .ok (.ireturn, 1) := by decide +kernel
theorem dL_room_12 : decode cL_room 12 = .ok (.astore_n 3, 1) := by decide +kernel
theorem dL_room_13 : decode cL_room 13 = .ok (.iconst 2, 1) := by decide +kernel
theorem dL_room_14 : decode cL_room 14 = .ok (.ireturn, 1) := by decide +kernel
theorem dL_room_15 : decode cL_room 15 = .ok (.iconst 0, 1) := by decide +kernel
theorem dL_room_16 : decode cL_room 16 = .ok (.ireturn, 1) := by decide +kernel
theorem dL_lesson_0 : decode cL_lesson 0 = .ok (.aload 7, 2) := by decide +kernel
theorem dL_lesson_2 : decode cL_lesson 2 = .ok (.iconst 0, 1) := by decide +kernel
theorem dL_lesson_3 : decode cL_lesson 3 = .ok (.aload_n 0, 1) := by decide +kernel
theorem dL_lesson_4 : decode cL_lesson 4 = .ok (.iload_n 1, 1) := by decide +kernel
theorem dL_lesson_5 : decode cL_lesson 5 = .ok (.iload_n 2, 1) := by decide +kernel
theorem dL_lesson_6 : decode cL_lesson 6 = .ok (.iload_n 3, 1) := by decide +kernel
theorem dL_lesson_7 : decode cL_lesson 7 = .ok (.iload 4, 2) := by decide +kernel
theorem dL_lesson_9 : decode cL_lesson 9 = .ok (.iload 5, 2) := by decide +kernel
theorem dL_lesson_11 : decode cL_lesson 11 = .ok (.iload 6, 2) := by decide +kernel
theorem dL_lesson_13 : decode cL_lesson 13 = .ok (.invokevirtual 17, 3) := by decide +kernel
theorem dL_lesson_16 : decode cL_lesson 16 = .ok (.i2l, 1) := by decide +kernel
theorem dL_lesson_17 : decode cL_lesson 17 = .ok (.lastore, 1) := by decide +kernel
theorem dL_lesson_18 : decode cL_lesson 18 = .ok (.goto 11, 3) := by decide +kernel
theorem dL_lesson_21 : decode cL_lesson 21 = .ok (.astore 8, 2) := by decide +kernel
theorem dL_lesson_23 : decode cL_lesson 23 = .ok (.iconst 1, 1) := by decide +kernel
theorem dL_lesson_24 : decode cL_lesson 24 = .ok (.ireturn, 1) := by decide +kernel
theorem dL_lesson_25 : decode cL_lesson 25 = .ok (.astore 8, 2) := by decide +kernel
theorem dL_lesson_27 : decode cL_lesson 27 = .ok (.iconst 2, 1) := by decide +kernel
theorem dL_lesson_28 : decode cL_lesson 28 = .ok (.ireturn, 1) := by decide +kernel
theorem dL_lesson_29 : decode cL_lesson 29 = .ok (.iconst 0, 1) := by decide +kernel
theorem dL_lesson_30 : decode cL_lesson 30 = .ok (.ireturn, 1) := by decide +kernel
theorem dL_block_0 : decode cL_block 0 = .ok (.aload_n 0, 1) := by decide +kernel
theorem dL_block_1 : decode cL_block 1 = .ok (.iload_n 1, 1) := by decide +kernel
theorem dL_block_2 : decode cL_block 2 = .ok (.iload_n 2, 1) := by decide +kernel
theorem dL_block_3 : decode cL_block 3 = .ok (.iload_n 3, 1) := by decide +kernel
theorem dL_block_4 : decode cL_block 4 = .ok (.iload 4, 2) := by decide +kernel
theorem dL_block_6 : decode cL_block 6 = .ok (.invokevirtual 21, 3) := by decide +kernel
theorem dL_block_9 : decode cL_block 9 = .ok (.goto 11, 3) := by decide +kernel
theorem dL_block_12 : decode cL_block 12 = .ok (.astore 5, 2) := by decide +kernel
theorem dL_block_14 : decode cL_block 14 = .ok (.iconst 1, 1) := by decide +kernel
theorem dL_block_15 : decode cL_block 15 = .ok (.ireturn, 1) := by decide +kernel
theorem dL_block_16 : decode cL_block 16 = .ok (.astore 5, 2) := by decide +kernel
theorem dL_block_18 : decode cL_block 18 = .ok (.iconst 2, 1) := by decide +kernel
theorem dL_block_19 : decode cL_block 19 = .ok (.ireturn, 1) := by decide +kernel
theorem dL_block_20 : decode cL_block 20 = .ok (.iconst 0, 1) := by decide +kernel
theorem dL_block_21 : decode cL_block 21 = .ok (.ireturn, 1) := by decide +kernel
theorem dL_place_0 : decode cL_place 0 = .ok (.aload 4, 2) := by decide +kernel
theorem dL_place_2 : decode cL_place 2 = .ok (.iconst 0, 1) := by decide +kernel
theorem dL_place_3 : decode cL_place 3 = .ok (.aload_n 0, 1) := by decide +kernel
theorem dL_place_4 : decode cL_place 4 = .ok (.iload_n 1, 1) := by decide +kernel
theorem dL_place_5 : decode cL_place 5 = .ok (.iload_n 2, 1) := by decide +kernel
theorem dL_place_6 : decode cL_place 6 = .ok (.iload_n 3, 1) := by decide +kernel
theorem dL_place_7 : decode cL_place 7 = .ok (.invokevirtual 25, 3) := by decide +kernel
theorem dL_place_10 : decode cL_place 10 = .ok (.i2l, 1) := by decide +kernel
theorem dL_place_11 : decode cL_place 11 = .ok (.lastore, 1) := by decide +kernel
theorem dL_place_12 : decode cL_place 12 = .ok (.goto 11, 3) := by decide +kernel
theorem dL_place_15 : decode cL_place 15 = .ok (.astore 5, 2) := by decide +kernel
theorem dL_place_17 : decode cL_place 17 = .ok (.iconst 1, 1) := by decide +kernel
theorem dL_place_18 : decode cL_place 18 = .ok (.ireturn, 1) := by decide +kernel
theorem dL_place_19 : decode cL_place 19 = .ok (.astore 5, 2) := by decide +kernel
theorem dL_place_21 : decode cL_place 21 = .ok (.iconst 2, 1) := by decide +kernel
theorem dL_place_22 : decode cL_place 22 = .ok (.ireturn, 1) := by decide +kernel
theorem dL_place_23 : decode cL_place 23 = .ok (.iconst 0, 1) := by decide +kernel
theorem dL_place_24 : decode cL_place 24 = .ok (.ireturn, 1) := by decide +kernel
theorem dL_drop_0 : decode cL_drop 0 = .ok (.aload_n 3, 1) := by decide +kernel
theorem dL_drop_1 : decode cL_drop 1 = .ok (.iconst 0, 1) := by decide +kernel
theorem dL_drop_2 : decode cL_drop 2 = .ok (.aload_n 0, 1) := by decide +kernel
theorem dL_drop_3 : decode cL_drop 3 = .ok (.iload_n 1, 1) := by decide +kernel
theorem dL_drop_4 : decode cL_drop 4 = .ok (.iload_n 2, 1) := by decide +kernel
theorem dL_drop_5 : decode cL_drop 5 = .ok (.invokevirtual 29, 3) := by decide +kernel
theorem dL_drop_8 : decode cL_drop 8 = .ok (.i2l, 1) := by decide +kernel
theorem dL_drop_9 : decode cL_drop 9 = .ok (.lastore, 1) := by decide +kernel
theorem dL_drop_10 : decode cL_drop 10 = .ok (.goto 11, 3) := by decide +kernel
theorem dL_drop_13 : decode cL_drop 13 = .ok (.astore 4, 2) := by decide +kernel
theorem dL_drop_15 : decode cL_drop 15 = .ok (.iconst 1, 1) := by decide +kernel
theorem dL_drop_16 : decode cL_drop 16 = .ok (.ireturn, 1) := by decide +kernel
theorem dL_drop_17 : decode cL_drop 17 = .ok (.astore 4, 2) := by decide +kernel
theorem dL_drop_19 : decode cL_drop 19 = .ok (.iconst 2, 1) := by decide +kernel
theorem dL_drop_20 : decode cL_drop 20 = .ok (.ireturn, 1) := by decide +kernel
theorem dL_drop_21 : decode cL_drop 21 = .ok (.iconst 0, 1) := by decide +kernel
theorem dL_drop_22 : decode cL_drop 22 = .ok (.ireturn, 1) := by decide +kernel
theorem dL_fill_0 : decode cL_fill 0 = .ok (.aload_n 2, 1) := by decide +kernel
theorem dL_fill_1 : decode cL_fill 1 = .ok (.iconst 0, 1) := by decide +kernel
theorem dL_fill_2 : decode cL_fill 2 = .ok (.aload_n 0, 1) := by decide +kernel
theorem dL_fill_3 : decode cL_fill 3 = .ok (.iload_n 1, 1) := by decide +kernel
theorem dL_fill_4 : decode cL_fill 4 = .ok (.invokevirtual 33, 3) := by decide +kernel
theorem dL_fill_7 : decode cL_fill 7 = .ok (.i2l, 1) := by decide +kernel
theorem dL_fill_8 : decode cL_fill 8 = .ok (.lastore, 1) := by decide +kernel
theorem dL_fill_9 : decode cL_fill 9 = .ok (.goto 6, 3) := by decide +kernel
theorem dL_fill_12 : decode cL_fill 12 = .ok (.astore_n 3, 1) := by decide +kernel
theorem dL_fill_13 : decode cL_fill 13 = .ok (.iconst 1, 1) := by decide +kernel
theorem dL_fill_14 : decode cL_fill 14 = .ok (.ireturn, 1) := by decide +kernel
theorem dL_fill_15 : decode cL_fill 15 = .ok (.iconst 0, 1) := by decide +kernel
theorem dL_fill_16 : decode cL_fill 16 = .ok (.ireturn, 1) := by decide +kernel
theorem dL_period_0 : decode cL_period 0 = .ok (.aload_n 3, 1) := by decide +kernel
theorem dL_period_1 : decode cL_period 1 = .ok (.iconst 0, 1) := by decide +kernel
theorem dL_period_2 : decode cL_period 2 = .ok (.aload_n 0, 1) := by decide +kernel
theorem dL_period_3 : decode cL_period 3 = .ok (.iload_n 1, 1) := by decide +kernel
theorem dL_period_4 : decode cL_period 4 = .ok (.iload_n 2, 1) := by decide +kernel
theorem dL_period_5 : decode cL_period 5 = .ok (.invokevirtual 37, 3) := by decide +kernel
theorem dL_period_8 : decode cL_period 8 = .ok (.i2l, 1) := by decide +kernel
theorem dL_period_9 : decode cL_period 9 = .ok (.lastore, 1) := by decide +kernel
theorem dL_period_10 : decode cL_period 10 = .ok (.goto 7, 3) := by decide +kernel
theorem dL_period_13 : decode cL_period 13 = .ok (.astore 4, 2) := by decide +kernel
theorem dL_period_15 : decode cL_period 15 = .ok (.iconst 1, 1) := by decide +kernel
theorem dL_period_16 : decode cL_period 16 = .ok (.ireturn, 1) := by decide +kernel
theorem dL_period_17 : decode cL_period 17 = .ok (.iconst 0, 1) := by decide +kernel
theorem dL_period_18 : decode cL_period 18 = .ok (.ireturn, 1) := by decide +kernel
theorem dL_roomOf_0 : decode cL_roomOf 0 = .ok (.aload_n 3, 1) := by decide +kernel
theorem dL_roomOf_1 : decode cL_roomOf 1 = .ok (.iconst 0, 1) := by decide +kernel
theorem dL_roomOf_2 : decode cL_roomOf 2 = .ok (.aload_n 0, 1) := by decide +kernel
theorem dL_roomOf_3 : decode cL_roomOf 3 = .ok (.iload_n 1, 1) := by decide +kernel
theorem dL_roomOf_4 : decode cL_roomOf 4 = .ok (.iload_n 2, 1) := by decide +kernel
theorem dL_roomOf_5 : decode cL_roomOf 5 = .ok (.invokevirtual 40, 3) := by decide +kernel
theorem dL_roomOf_8 : decode cL_roomOf 8 = .ok (.i2l, 1) := by decide +kernel
theorem dL_roomOf_9 : decode cL_roomOf 9 = .ok (.lastore, 1) := by decide +kernel
theorem dL_roomOf_10 : decode cL_roomOf 10 = .ok (.goto 7, 3) := by decide +kernel
theorem dL_roomOf_13 : decode cL_roomOf 13 = .ok (.astore 4, 2) := by decide +kernel
theorem dL_roomOf_15 : decode cL_roomOf 15 = .ok (.iconst 1, 1) := by decide +kernel
theorem dL_roomOf_16 : decode cL_roomOf 16 = .ok (.ireturn, 1) := by decide +kernel
theorem dL_roomOf_17 : decode cL_roomOf 17 = .ok (.iconst 0, 1) := by decide +kernel
theorem dL_roomOf_18 : decode cL_roomOf 18 = .ok (.ireturn, 1) := by decide +kernel
theorem dL_improve_0 : decode cL_improve 0 = .ok (.aload_n 2, 1) := by decide +kernel
theorem dL_improve_1 : decode cL_improve 1 = .ok (.iconst 0, 1) := by decide +kernel
theorem dL_improve_2 : decode cL_improve 2 = .ok (.aload_n 0, 1) := by decide +kernel
theorem dL_improve_3 : decode cL_improve 3 = .ok (.iload_n 1, 1) := by decide +kernel
theorem dL_improve_4 : decode cL_improve 4 = .ok (.invokevirtual 43, 3) := by decide +kernel
theorem dL_improve_7 : decode cL_improve 7 = .ok (.i2l, 1) := by decide +kernel
theorem dL_improve_8 : decode cL_improve 8 = .ok (.lastore, 1) := by decide +kernel
theorem dL_improve_9 : decode cL_improve 9 = .ok (.goto 6, 3) := by decide +kernel
theorem dL_improve_12 : decode cL_improve 12 = .ok (.astore_n 3, 1) := by decide +kernel
theorem dL_improve_13 : decode cL_improve 13 = .ok (.iconst 1, 1) := by decide +kernel
theorem dL_improve_14 : decode cL_improve 14 = .ok (.ireturn, 1) := by decide +kernel
theorem dL_improve_15 : decode cL_improve 15 = .ok (.iconst 0, 1) := by decide +kernel
theorem dL_improve_16 : decode cL_improve 16 = .ok (.ireturn, 1) := by decide +kernel
theorem dL_absent_0 : decode cL_absent 0 = .ok (.aload_n 3, 1) := by decide +kernel
theorem dL_absent_1 : decode cL_absent 1 = .ok (.iconst 0, 1) := by decide +kernel
theorem dL_absent_2 : decode cL_absent 2 = .ok (.aload_n 0, 1) := by decide +kernel
theorem dL_absent_3 : decode cL_absent 3 = .ok (.iload_n 1, 1) := by decide +kernel
theorem dL_absent_4 : decode cL_absent 4 = .ok (.iload_n 2, 1) := by decide +kernel
theorem dL_absent_5 : decode cL_absent 5 = .ok (.invokevirtual 46, 3) := by decide +kernel
theorem dL_absent_8 : decode cL_absent 8 = .ok (.i2l, 1) := by decide +kernel
theorem dL_absent_9 : decode cL_absent 9 = .ok (.lastore, 1) := by decide +kernel
theorem dL_absent_10 : decode cL_absent 10 = .ok (.goto 7, 3) := by decide +kernel
theorem dL_absent_13 : decode cL_absent 13 = .ok (.astore 4, 2) := by decide +kernel
theorem dL_absent_15 : decode cL_absent 15 = .ok (.iconst 1, 1) := by decide +kernel
theorem dL_absent_16 : decode cL_absent 16 = .ok (.ireturn, 1) := by decide +kernel
theorem dL_absent_17 : decode cL_absent 17 = .ok (.iconst 0, 1) := by decide +kernel
theorem dL_absent_18 : decode cL_absent 18 = .ok (.ireturn, 1) := by decide +kernel
theorem dL_substitute_0 : decode cL_substitute 0 = .ok (.aload_n 2, 1) := by decide +kernel
theorem dL_substitute_1 : decode cL_substitute 1 = .ok (.iconst 0, 1) := by decide +kernel
theorem dL_substitute_2 : decode cL_substitute 2 = .ok (.aload_n 0, 1) := by decide +kernel
theorem dL_substitute_3 : decode cL_substitute 3 = .ok (.iload_n 1, 1) := by decide +kernel
theorem dL_substitute_4 : decode cL_substitute 4 = .ok (.invokevirtual 49, 3) := by decide +kernel
theorem dL_substitute_7 : decode cL_substitute 7 = .ok (.i2l, 1) := by decide +kernel
theorem dL_substitute_8 : decode cL_substitute 8 = .ok (.lastore, 1) := by decide +kernel
theorem dL_substitute_9 : decode cL_substitute 9 = .ok (.goto 6, 3) := by decide +kernel
theorem dL_substitute_12 : decode cL_substitute 12 = .ok (.astore_n 3, 1) := by decide +kernel
theorem dL_substitute_13 : decode cL_substitute 13 = .ok (.iconst 1, 1) := by decide +kernel
theorem dL_substitute_14 : decode cL_substitute 14 = .ok (.ireturn, 1) := by decide +kernel
theorem dL_substitute_15 : decode cL_substitute 15 = .ok (.iconst 0, 1) := by decide +kernel
theorem dL_substitute_16 : decode cL_substitute 16 = .ok (.ireturn, 1) := by decide +kernel
theorem dL_undo_0 : decode cL_undo 0 = .ok (.aload_n 1, 1) := by decide +kernel
theorem dL_undo_1 : decode cL_undo 1 = .ok (.iconst 0, 1) := by decide +kernel
theorem dL_undo_2 : decode cL_undo 2 = .ok (.aload_n 0, 1) := by decide +kernel
theorem dL_undo_3 : decode cL_undo 3 = .ok (.invokevirtual 54, 3) := by decide +kernel
theorem dL_undo_6 : decode cL_undo 6 = .ok (.i2l, 1) := by decide +kernel
theorem dL_undo_7 : decode cL_undo 7 = .ok (.lastore, 1) := by decide +kernel
theorem dL_undo_8 : decode cL_undo 8 = .ok (.goto 6, 3) := by decide +kernel
theorem dL_undo_11 : decode cL_undo 11 = .ok (.astore_n 2, 1) := by decide +kernel
theorem dL_undo_12 : decode cL_undo 12 = .ok (.iconst 1, 1) := by decide +kernel
theorem dL_undo_13 : decode cL_undo 13 = .ok (.ireturn, 1) := by decide +kernel
theorem dL_undo_14 : decode cL_undo 14 = .ok (.iconst 0, 1) := by decide +kernel
theorem dL_undo_15 : decode cL_undo 15 = .ok (.ireturn, 1) := by decide +kernel
theorem dL_page_0 : decode cL_page 0 = .ok (.aload 4, 2) := by decide +kernel
theorem dL_page_2 : decode cL_page 2 = .ok (.iconst 0, 1) := by decide +kernel
theorem dL_page_3 : decode cL_page 3 = .ok (.aload_n 0, 1) := by decide +kernel
theorem dL_page_4 : decode cL_page 4 = .ok (.iload_n 1, 1) := by decide +kernel
theorem dL_page_5 : decode cL_page 5 = .ok (.iload_n 2, 1) := by decide +kernel
theorem dL_page_6 : decode cL_page 6 = .ok (.iload_n 3, 1) := by decide +kernel
theorem dL_page_7 : decode cL_page 7 = .ok (.invokevirtual 58, 3) := by decide +kernel
theorem dL_page_10 : decode cL_page 10 = .ok (.i2l, 1) := by decide +kernel
theorem dL_page_11 : decode cL_page 11 = .ok (.lastore, 1) := by decide +kernel
theorem dL_page_12 : decode cL_page 12 = .ok (.goto 11, 3) := by decide +kernel
theorem dL_page_15 : decode cL_page 15 = .ok (.astore 5, 2) := by decide +kernel
theorem dL_page_17 : decode cL_page 17 = .ok (.iconst 1, 1) := by decide +kernel
theorem dL_page_18 : decode cL_page 18 = .ok (.ireturn, 1) := by decide +kernel
theorem dL_page_19 : decode cL_page 19 = .ok (.astore 5, 2) := by decide +kernel
theorem dL_page_21 : decode cL_page 21 = .ok (.iconst 2, 1) := by decide +kernel
theorem dL_page_22 : decode cL_page 22 = .ok (.ireturn, 1) := by decide +kernel
theorem dL_page_23 : decode cL_page 23 = .ok (.iconst 0, 1) := by decide +kernel
theorem dL_page_24 : decode cL_page 24 = .ok (.ireturn, 1) := by decide +kernel
theorem dL_law_0 : decode cL_law 0 = .ok (.new 8, 3) := by decide +kernel
theorem dL_law_3 : decode cL_law 3 = .ok (.dup, 1) := by decide +kernel
theorem dL_law_4 : decode cL_law 4 = .ok (.aload_n 0, 1) := by decide +kernel
theorem dL_law_5 : decode cL_law 5 = .ok (.iconst 0, 1) := by decide +kernel
theorem dL_law_6 : decode cL_law 6 = .ok (.invokestatic 61, 3) := by decide +kernel
theorem dL_law_9 : decode cL_law 9 = .ok (.aload_n 0, 1) := by decide +kernel
theorem dL_law_10 : decode cL_law 10 = .ok (.iconst 1, 1) := by decide +kernel
theorem dL_law_11 : decode cL_law 11 = .ok (.invokestatic 61, 3) := by decide +kernel
theorem dL_law_14 : decode cL_law 14 = .ok (.invokespecial 67, 3) := by decide +kernel
theorem dL_law_17 : decode cL_law 17 = .ok (.astore_n 1, 1) := by decide +kernel
theorem dL_law_18 : decode cL_law 18 = .ok (.new 69, 3) := by decide +kernel
theorem dL_law_21 : decode cL_law 21 = .ok (.dup, 1) := by decide +kernel
theorem dL_law_22 : decode cL_law 22 = .ok (.aload_n 0, 1) := by decide +kernel
theorem dL_law_23 : decode cL_law 23 = .ok (.iconst 0, 1) := by decide +kernel
theorem dL_law_24 : decode cL_law 24 = .ok (.invokestatic 61, 3) := by decide +kernel
theorem dL_law_27 : decode cL_law 27 = .ok (.aload_n 0, 1) := by decide +kernel
theorem dL_law_28 : decode cL_law 28 = .ok (.iconst 1, 1) := by decide +kernel
theorem dL_law_29 : decode cL_law 29 = .ok (.invokestatic 61, 3) := by decide +kernel
theorem dL_law_32 : decode cL_law 32 = .ok (.invokespecial 71, 3) := by decide +kernel
theorem dL_law_35 : decode cL_law 35 = .ok (.astore_n 2, 1) := by decide +kernel
theorem dL_law_36 : decode cL_law 36 = .ok (.iconst 1, 1) := by decide +kernel
theorem dL_law_37 : decode cL_law 37 = .ok (.newarray .long, 2) := by decide +kernel
theorem dL_law_39 : decode cL_law 39 = .ok (.astore_n 3, 1) := by decide +kernel
theorem dL_law_40 : decode cL_law 40 = .ok (.iconst 2, 1) := by decide +kernel
theorem dL_law_41 : decode cL_law 41 = .ok (.istore 4, 2) := by decide +kernel
theorem dL_law_43 : decode cL_law 43 = .ok (.iload 4, 2) := by decide +kernel
theorem dL_law_45 : decode cL_law 45 = .ok (.aload_n 0, 1) := by decide +kernel
theorem dL_law_46 : decode cL_law 46 = .ok (.arraylength, 1) := by decide +kernel
theorem dL_law_47 : decode cL_law 47 = .ok (.bipush 7, 2) := by decide +kernel
theorem dL_law_49 : decode cL_law 49 = .ok (.isub, 1) := by decide +kernel
theorem dL_law_50 : decode cL_law 50 = .ok (.if_icmp .gt 1016, 3) := by decide +kernel
theorem dL_law_53 : decode cL_law 53 = .ok (.aload_n 0, 1) := by decide +kernel
theorem dL_law_54 : decode cL_law 54 = .ok (.iload 4, 2) := by decide +kernel
theorem dL_law_56 : decode cL_law 56 = .ok (.iaload, 1) := by decide +kernel
theorem dL_law_57 : decode cL_law 57 = .ok (.bipush 15, 2) := by decide +kernel
theorem dL_law_59 : decode cL_law 59 = .ok (.iand, 1) := by decide +kernel
theorem dL_law_60 : decode cL_law 60 = .ok (.tableswitch 1000 0 14 #[76, 124, 242, 330, 410, 478, 534, 547, 615, 683, 696, 752, 820, 876, 920], 76) := by decide +kernel
theorem dL_law_136 : decode cL_law 136 = .ok (.aload_n 1, 1) := by decide +kernel
theorem dL_law_137 : decode cL_law 137 = .ok (.aload_n 0, 1) := by decide +kernel
theorem dL_law_138 : decode cL_law 138 = .ok (.iload 4, 2) := by decide +kernel
theorem dL_law_140 : decode cL_law 140 = .ok (.iconst 1, 1) := by decide +kernel
theorem dL_law_141 : decode cL_law 141 = .ok (.iadd, 1) := by decide +kernel
theorem dL_law_142 : decode cL_law 142 = .ok (.iaload, 1) := by decide +kernel
theorem dL_law_143 : decode cL_law 143 = .ok (.aload_n 0, 1) := by decide +kernel
theorem dL_law_144 : decode cL_law 144 = .ok (.iload 4, 2) := by decide +kernel
theorem dL_law_146 : decode cL_law 146 = .ok (.iconst 2, 1) := by decide +kernel
theorem dL_law_147 : decode cL_law 147 = .ok (.iadd, 1) := by decide +kernel
theorem dL_law_148 : decode cL_law 148 = .ok (.iaload, 1) := by decide +kernel
theorem dL_law_149 : decode cL_law 149 = .ok (.invokestatic 72, 3) := by decide +kernel
theorem dL_law_152 : decode cL_law 152 = .ok (.istore 5, 2) := by decide +kernel
theorem dL_law_154 : decode cL_law 154 = .ok (.aload_n 2, 1) := by decide +kernel
theorem dL_law_155 : decode cL_law 155 = .ok (.aload_n 0, 1) := by decide +kernel
theorem dL_law_156 : decode cL_law 156 = .ok (.iload 4, 2) := by decide +kernel
theorem dL_law_158 : decode cL_law 158 = .ok (.iconst 1, 1) := by decide +kernel
theorem dL_law_159 : decode cL_law 159 = .ok (.iadd, 1) := by decide +kernel
theorem dL_law_160 : decode cL_law 160 = .ok (.iaload, 1) := by decide +kernel
theorem dL_law_161 : decode cL_law 161 = .ok (.aload_n 0, 1) := by decide +kernel
theorem dL_law_162 : decode cL_law 162 = .ok (.iload 4, 2) := by decide +kernel
theorem dL_law_164 : decode cL_law 164 = .ok (.iconst 2, 1) := by decide +kernel
theorem dL_law_165 : decode cL_law 165 = .ok (.iadd, 1) := by decide +kernel
theorem dL_law_166 : decode cL_law 166 = .ok (.iaload, 1) := by decide +kernel
theorem dL_law_167 : decode cL_law 167 = .ok (.invokevirtual 75, 3) := by decide +kernel
theorem dL_law_170 : decode cL_law 170 = .ok (.aload_n 2, 1) := by decide +kernel
theorem dL_law_171 : decode cL_law 171 = .ok (.invokevirtual 76, 3) := by decide +kernel
theorem dL_law_174 : decode cL_law 174 = .ok (.iload 5, 2) := by decide +kernel
theorem dL_law_176 : decode cL_law 176 = .ok (.if_icmp .eq 5, 3) := by decide +kernel
theorem dL_law_179 : decode cL_law 179 = .ok (.iconst 0, 1) := by decide +kernel
theorem dL_law_180 : decode cL_law 180 = .ok (.ireturn, 1) := by decide +kernel
theorem dL_law_181 : decode cL_law 181 = .ok (.goto 879, 3) := by decide +kernel
theorem dL_law_184 : decode cL_law 184 = .ok (.aload_n 1, 1) := by decide +kernel
theorem dL_law_185 : decode cL_law 185 = .ok (.aload_n 0, 1) := by decide +kernel
theorem dL_law_186 : decode cL_law 186 = .ok (.iload 4, 2) := by decide +kernel
theorem dL_law_188 : decode cL_law 188 = .ok (.iconst 1, 1) := by decide +kernel
theorem dL_law_189 : decode cL_law 189 = .ok (.iadd, 1) := by decide +kernel
theorem dL_law_190 : decode cL_law 190 = .ok (.iaload, 1) := by decide +kernel
theorem dL_law_191 : decode cL_law 191 = .ok (.aload_n 0, 1) := by decide +kernel
theorem dL_law_192 : decode cL_law 192 = .ok (.iload 4, 2) := by decide +kernel
theorem dL_law_194 : decode cL_law 194 = .ok (.iconst 2, 1) := by decide +kernel
theorem dL_law_195 : decode cL_law 195 = .ok (.iadd, 1) := by decide +kernel
theorem dL_law_196 : decode cL_law 196 = .ok (.iaload, 1) := by decide +kernel
theorem dL_law_197 : decode cL_law 197 = .ok (.aload_n 0, 1) := by decide +kernel
theorem dL_law_198 : decode cL_law 198 = .ok (.iload 4, 2) := by decide +kernel
theorem dL_law_200 : decode cL_law 200 = .ok (.iconst 3, 1) := by decide +kernel
theorem dL_law_201 : decode cL_law 201 = .ok (.iadd, 1) := by decide +kernel
theorem dL_law_202 : decode cL_law 202 = .ok (.iaload, 1) := by decide +kernel
theorem dL_law_203 : decode cL_law 203 = .ok (.aload_n 0, 1) := by decide +kernel
theorem dL_law_204 : decode cL_law 204 = .ok (.iload 4, 2) := by decide +kernel
theorem dL_law_206 : decode cL_law 206 = .ok (.iconst 4, 1) := by decide +kernel
theorem dL_law_207 : decode cL_law 207 = .ok (.iadd, 1) := by decide +kernel
theorem dL_law_208 : decode cL_law 208 = .ok (.iaload, 1) := by decide +kernel
theorem dL_law_209 : decode cL_law 209 = .ok (.aload_n 0, 1) := by decide +kernel
theorem dL_law_210 : decode cL_law 210 = .ok (.iload 4, 2) := by decide +kernel
theorem dL_law_212 : decode cL_law 212 = .ok (.iconst 5, 1) := by decide +kernel
theorem dL_law_213 : decode cL_law 213 = .ok (.iadd, 1) := by decide +kernel
theorem dL_law_214 : decode cL_law 214 = .ok (.iaload, 1) := by decide +kernel
theorem dL_law_215 : decode cL_law 215 = .ok (.aload_n 0, 1) := by decide +kernel
theorem dL_law_216 : decode cL_law 216 = .ok (.iload 4, 2) := by decide +kernel
theorem dL_law_218 : decode cL_law 218 = .ok (.bipush 6, 2) := by decide +kernel
theorem dL_law_220 : decode cL_law 220 = .ok (.iadd, 1) := by decide +kernel
theorem dL_law_221 : decode cL_law 221 = .ok (.iaload, 1) := by decide +kernel
theorem dL_law_222 : decode cL_law 222 = .ok (.aload_n 3, 1) := by decide +kernel
theorem dL_law_223 : decode cL_law 223 = .ok (.invokestatic 79, 3) := by decide +kernel
theorem dL_law_226 : decode cL_law 226 = .ok (.istore 5, 2) := by decide +kernel
theorem dL_law_228 : decode cL_law 228 = .ok (.aload_n 2, 1) := by decide +kernel
theorem dL_law_229 : decode cL_law 229 = .ok (.aload_n 0, 1) := by decide +kernel
theorem dL_law_230 : decode cL_law 230 = .ok (.iload 4, 2) := by decide +kernel
theorem dL_law_232 : decode cL_law 232 = .ok (.iconst 1, 1) := by decide +kernel
theorem dL_law_233 : decode cL_law 233 = .ok (.iadd, 1) := by decide +kernel
theorem dL_law_234 : decode cL_law 234 = .ok (.iaload, 1) := by decide +kernel
theorem dL_law_235 : decode cL_law 235 = .ok (.aload_n 0, 1) := by decide +kernel
theorem dL_law_236 : decode cL_law 236 = .ok (.iload 4, 2) := by decide +kernel
theorem dL_law_238 : decode cL_law 238 = .ok (.iconst 2, 1) := by decide +kernel
theorem dL_law_239 : decode cL_law 239 = .ok (.iadd, 1) := by decide +kernel
theorem dL_law_240 : decode cL_law 240 = .ok (.iaload, 1) := by decide +kernel
theorem dL_law_241 : decode cL_law 241 = .ok (.aload_n 0, 1) := by decide +kernel
theorem dL_law_242 : decode cL_law 242 = .ok (.iload 4, 2) := by decide +kernel
theorem dL_law_244 : decode cL_law 244 = .ok (.iconst 3, 1) := by decide +kernel
theorem dL_law_245 : decode cL_law 245 = .ok (.iadd, 1) := by decide +kernel
theorem dL_law_246 : decode cL_law 246 = .ok (.iaload, 1) := by decide +kernel
theorem dL_law_247 : decode cL_law 247 = .ok (.aload_n 0, 1) := by decide +kernel
theorem dL_law_248 : decode cL_law 248 = .ok (.iload 4, 2) := by decide +kernel
theorem dL_law_250 : decode cL_law 250 = .ok (.iconst 4, 1) := by decide +kernel
theorem dL_law_251 : decode cL_law 251 = .ok (.iadd, 1) := by decide +kernel
theorem dL_law_252 : decode cL_law 252 = .ok (.iaload, 1) := by decide +kernel
theorem dL_law_253 : decode cL_law 253 = .ok (.aload_n 0, 1) := by decide +kernel
theorem dL_law_254 : decode cL_law 254 = .ok (.iload 4, 2) := by decide +kernel
theorem dL_law_256 : decode cL_law 256 = .ok (.iconst 5, 1) := by decide +kernel
theorem dL_law_257 : decode cL_law 257 = .ok (.iadd, 1) := by decide +kernel
theorem dL_law_258 : decode cL_law 258 = .ok (.iaload, 1) := by decide +kernel
theorem dL_law_259 : decode cL_law 259 = .ok (.aload_n 0, 1) := by decide +kernel
theorem dL_law_260 : decode cL_law 260 = .ok (.iload 4, 2) := by decide +kernel
theorem dL_law_262 : decode cL_law 262 = .ok (.bipush 6, 2) := by decide +kernel
theorem dL_law_264 : decode cL_law 264 = .ok (.iadd, 1) := by decide +kernel
theorem dL_law_265 : decode cL_law 265 = .ok (.iaload, 1) := by decide +kernel
theorem dL_law_266 : decode cL_law 266 = .ok (.invokevirtual 82, 3) := by decide +kernel
theorem dL_law_269 : decode cL_law 269 = .ok (.istore 6, 2) := by decide +kernel
theorem dL_law_271 : decode cL_law 271 = .ok (.aload_n 2, 1) := by decide +kernel
theorem dL_law_272 : decode cL_law 272 = .ok (.invokevirtual 76, 3) := by decide +kernel
theorem dL_law_275 : decode cL_law 275 = .ok (.iload 5, 2) := by decide +kernel
theorem dL_law_277 : decode cL_law 277 = .ok (.if_icmp .eq 5, 3) := by decide +kernel
theorem dL_law_280 : decode cL_law 280 = .ok (.iconst 0, 1) := by decide +kernel
theorem dL_law_281 : decode cL_law 281 = .ok (.ireturn, 1) := by decide +kernel
theorem dL_law_282 : decode cL_law 282 = .ok (.iload 5, 2) := by decide +kernel
theorem dL_law_284 : decode cL_law 284 = .ok (.ifCond .ne 15, 3) := by decide +kernel
theorem dL_law_287 : decode cL_law 287 = .ok (.aload_n 3, 1) := by decide +kernel
theorem dL_law_288 : decode cL_law 288 = .ok (.iconst 0, 1) := by decide +kernel
theorem dL_law_289 : decode cL_law 289 = .ok (.laload, 1) := by decide +kernel
theorem dL_law_290 : decode cL_law 290 = .ok (.iload 6, 2) := by decide +kernel
theorem dL_law_292 : decode cL_law 292 = .ok (.i2l, 1) := by decide +kernel
theorem dL_law_293 : decode cL_law 293 = .ok (.lcmp, 1) := by decide +kernel
theorem dL_law_294 : decode cL_law 294 = .ok (.ifCond .eq 5, 3) := by decide +kernel
theorem dL_law_297 : decode cL_law 297 = .ok (.iconst 0, 1) := by decide +kernel
theorem dL_law_298 : decode cL_law 298 = .ok (.ireturn, 1) := by decide +kernel
theorem dL_law_299 : decode cL_law 299 = .ok (.goto 761, 3) := by decide +kernel
theorem dL_law_302 : decode cL_law 302 = .ok (.aload_n 1, 1) := by decide +kernel
theorem dL_law_303 : decode cL_law 303 = .ok (.aload_n 0, 1) := by decide +kernel
theorem dL_law_304 : decode cL_law 304 = .ok (.iload 4, 2) := by decide +kernel
theorem dL_law_306 : decode cL_law 306 = .ok (.iconst 1, 1) := by decide +kernel
theorem dL_law_307 : decode cL_law 307 = .ok (.iadd, 1) := by decide +kernel
theorem dL_law_308 : decode cL_law 308 = .ok (.iaload, 1) := by decide +kernel
theorem dL_law_309 : decode cL_law 309 = .ok (.aload_n 0, 1) := by decide +kernel
theorem dL_law_310 : decode cL_law 310 = .ok (.iload 4, 2) := by decide +kernel
theorem dL_law_312 : decode cL_law 312 = .ok (.iconst 2, 1) := by decide +kernel
theorem dL_law_313 : decode cL_law 313 = .ok (.iadd, 1) := by decide +kernel
theorem dL_law_314 : decode cL_law 314 = .ok (.iaload, 1) := by decide +kernel
theorem dL_law_315 : decode cL_law 315 = .ok (.aload_n 0, 1) := by decide +kernel
theorem dL_law_316 : decode cL_law 316 = .ok (.iload 4, 2) := by decide +kernel
theorem dL_law_318 : decode cL_law 318 = .ok (.iconst 3, 1) := by decide +kernel
theorem dL_law_319 : decode cL_law 319 = .ok (.iadd, 1) := by decide +kernel
theorem dL_law_320 : decode cL_law 320 = .ok (.iaload, 1) := by decide +kernel
theorem dL_law_321 : decode cL_law 321 = .ok (.aload_n 0, 1) := by decide +kernel
theorem dL_law_322 : decode cL_law 322 = .ok (.iload 4, 2) := by decide +kernel
theorem dL_law_324 : decode cL_law 324 = .ok (.iconst 4, 1) := by decide +kernel
theorem dL_law_325 : decode cL_law 325 = .ok (.iadd, 1) := by decide +kernel
theorem dL_law_326 : decode cL_law 326 = .ok (.iaload, 1) := by decide +kernel
theorem dL_law_327 : decode cL_law 327 = .ok (.ifCond .eq 7, 3) := by decide +kernel
theorem dL_law_330 : decode cL_law 330 = .ok (.iconst 1, 1) := by decide +kernel
theorem dL_law_331 : decode cL_law 331 = .ok (.goto 4, 3) := by decide +kernel
theorem dL_law_334 : decode cL_law 334 = .ok (.iconst 0, 1) := by decide +kernel
theorem dL_law_335 : decode cL_law 335 = .ok (.invokestatic 83, 3) := by decide +kernel
theorem dL_law_338 : decode cL_law 338 = .ok (.istore 5, 2) := by decide +kernel
theorem dL_law_340 : decode cL_law 340 = .ok (.aload_n 2, 1) := by decide +kernel
theorem dL_law_341 : decode cL_law 341 = .ok (.aload_n 0, 1) := by decide +kernel
theorem dL_law_342 : decode cL_law 342 = .ok (.iload 4, 2) := by decide +kernel
theorem dL_law_344 : decode cL_law 344 = .ok (.iconst 1, 1) := by decide +kernel
theorem dL_law_345 : decode cL_law 345 = .ok (.iadd, 1) := by decide +kernel
theorem dL_law_346 : decode cL_law 346 = .ok (.iaload, 1) := by decide +kernel
theorem dL_law_347 : decode cL_law 347 = .ok (.aload_n 0, 1) := by decide +kernel
theorem dL_law_348 : decode cL_law 348 = .ok (.iload 4, 2) := by decide +kernel
theorem dL_law_350 : decode cL_law 350 = .ok (.iconst 2, 1) := by decide +kernel
theorem dL_law_351 : decode cL_law 351 = .ok (.iadd, 1) := by decide +kernel
theorem dL_law_352 : decode cL_law 352 = .ok (.iaload, 1) := by decide +kernel
theorem dL_law_353 : decode cL_law 353 = .ok (.aload_n 0, 1) := by decide +kernel
theorem dL_law_354 : decode cL_law 354 = .ok (.iload 4, 2) := by decide +kernel
theorem dL_law_356 : decode cL_law 356 = .ok (.iconst 3, 1) := by decide +kernel
theorem dL_law_357 : decode cL_law 357 = .ok (.iadd, 1) := by decide +kernel
theorem dL_law_358 : decode cL_law 358 = .ok (.iaload, 1) := by decide +kernel
theorem dL_law_359 : decode cL_law 359 = .ok (.aload_n 0, 1) := by decide +kernel
theorem dL_law_360 : decode cL_law 360 = .ok (.iload 4, 2) := by decide +kernel
theorem dL_law_362 : decode cL_law 362 = .ok (.iconst 4, 1) := by decide +kernel
theorem dL_law_363 : decode cL_law 363 = .ok (.iadd, 1) := by decide +kernel
theorem dL_law_364 : decode cL_law 364 = .ok (.iaload, 1) := by decide +kernel
theorem dL_law_365 : decode cL_law 365 = .ok (.ifCond .eq 7, 3) := by decide +kernel
theorem dL_law_368 : decode cL_law 368 = .ok (.iconst 1, 1) := by decide +kernel
theorem dL_law_369 : decode cL_law 369 = .ok (.goto 4, 3) := by decide +kernel
theorem dL_law_372 : decode cL_law 372 = .ok (.iconst 0, 1) := by decide +kernel
theorem dL_law_373 : decode cL_law 373 = .ok (.invokevirtual 86, 3) := by decide +kernel
theorem dL_law_376 : decode cL_law 376 = .ok (.aload_n 2, 1) := by decide +kernel
theorem dL_law_377 : decode cL_law 377 = .ok (.invokevirtual 76, 3) := by decide +kernel
theorem dL_law_380 : decode cL_law 380 = .ok (.iload 5, 2) := by decide +kernel
theorem dL_law_382 : decode cL_law 382 = .ok (.if_icmp .eq 5, 3) := by decide +kernel
theorem dL_law_385 : decode cL_law 385 = .ok (.iconst 0, 1) := by decide +kernel
theorem dL_law_386 : decode cL_law 386 = .ok (.ireturn, 1) := by decide +kernel
theorem dL_law_387 : decode cL_law 387 = .ok (.goto 673, 3) := by decide +kernel
theorem dL_law_390 : decode cL_law 390 = .ok (.aload_n 1, 1) := by decide +kernel
theorem dL_law_391 : decode cL_law 391 = .ok (.aload_n 0, 1) := by decide +kernel
theorem dL_law_392 : decode cL_law 392 = .ok (.iload 4, 2) := by decide +kernel
theorem dL_law_394 : decode cL_law 394 = .ok (.iconst 1, 1) := by decide +kernel
theorem dL_law_395 : decode cL_law 395 = .ok (.iadd, 1) := by decide +kernel
theorem dL_law_396 : decode cL_law 396 = .ok (.iaload, 1) := by decide +kernel
theorem dL_law_397 : decode cL_law 397 = .ok (.aload_n 0, 1) := by decide +kernel
theorem dL_law_398 : decode cL_law 398 = .ok (.iload 4, 2) := by decide +kernel
theorem dL_law_400 : decode cL_law 400 = .ok (.iconst 2, 1) := by decide +kernel
theorem dL_law_401 : decode cL_law 401 = .ok (.iadd, 1) := by decide +kernel
theorem dL_law_402 : decode cL_law 402 = .ok (.iaload, 1) := by decide +kernel
theorem dL_law_403 : decode cL_law 403 = .ok (.aload_n 0, 1) := by decide +kernel
theorem dL_law_404 : decode cL_law 404 = .ok (.iload 4, 2) := by decide +kernel
theorem dL_law_406 : decode cL_law 406 = .ok (.iconst 3, 1) := by decide +kernel
theorem dL_law_407 : decode cL_law 407 = .ok (.iadd, 1) := by decide +kernel
theorem dL_law_408 : decode cL_law 408 = .ok (.iaload, 1) := by decide +kernel
theorem dL_law_409 : decode cL_law 409 = .ok (.aload_n 3, 1) := by decide +kernel
theorem dL_law_410 : decode cL_law 410 = .ok (.invokestatic 87, 3) := by decide +kernel
theorem dL_law_413 : decode cL_law 413 = .ok (.istore 5, 2) := by decide +kernel
theorem dL_law_415 : decode cL_law 415 = .ok (.aload_n 2, 1) := by decide +kernel
theorem dL_law_416 : decode cL_law 416 = .ok (.aload_n 0, 1) := by decide +kernel
theorem dL_law_417 : decode cL_law 417 = .ok (.iload 4, 2) := by decide +kernel
theorem dL_law_419 : decode cL_law 419 = .ok (.iconst 1, 1) := by decide +kernel
theorem dL_law_420 : decode cL_law 420 = .ok (.iadd, 1) := by decide +kernel
theorem dL_law_421 : decode cL_law 421 = .ok (.iaload, 1) := by decide +kernel
theorem dL_law_422 : decode cL_law 422 = .ok (.aload_n 0, 1) := by decide +kernel
theorem dL_law_423 : decode cL_law 423 = .ok (.iload 4, 2) := by decide +kernel
end
section
theorem dL_law_425 : decode cL_law 425 = .ok (.iconst 2, 1) := by decide +kernel
theorem dL_law_426 : decode cL_law 426 = .ok (.iadd, 1) := by decide +kernel
theorem dL_law_427 : decode cL_law 427 = .ok (.iaload, 1) := by decide +kernel
theorem dL_law_428 : decode cL_law 428 = .ok (.aload_n 0, 1) := by decide +kernel
theorem dL_law_429 : decode cL_law 429 = .ok (.iload 4, 2) := by decide +kernel
theorem dL_law_431 : decode cL_law 431 = .ok (.iconst 3, 1) := by decide +kernel
theorem dL_law_432 : decode cL_law 432 = .ok (.iadd, 1) := by decide +kernel
theorem dL_law_433 : decode cL_law 433 = .ok (.iaload, 1) := by decide +kernel
theorem dL_law_434 : decode cL_law 434 = .ok (.invokevirtual 90, 3) := by decide +kernel
theorem dL_law_437 : decode cL_law 437 = .ok (.istore 6, 2) := by decide +kernel
theorem dL_law_439 : decode cL_law 439 = .ok (.aload_n 2, 1) := by decide +kernel
theorem dL_law_440 : decode cL_law 440 = .ok (.invokevirtual 76, 3) := by decide +kernel
theorem dL_law_443 : decode cL_law 443 = .ok (.iload 5, 2) := by decide +kernel
theorem dL_law_445 : decode cL_law 445 = .ok (.if_icmp .eq 5, 3) := by decide +kernel
theorem dL_law_448 : decode cL_law 448 = .ok (.iconst 0, 1) := by decide +kernel
theorem dL_law_449 : decode cL_law 449 = .ok (.ireturn, 1) := by decide +kernel
theorem dL_law_450 : decode cL_law 450 = .ok (.iload 5, 2) := by decide +kernel
theorem dL_law_452 : decode cL_law 452 = .ok (.ifCond .ne 15, 3) := by decide +kernel
theorem dL_law_455 : decode cL_law 455 = .ok (.aload_n 3, 1) := by decide +kernel
theorem dL_law_456 : decode cL_law 456 = .ok (.iconst 0, 1) := by decide +kernel
theorem dL_law_457 : decode cL_law 457 = .ok (.laload, 1) := by decide +kernel
theorem dL_law_458 : decode cL_law 458 = .ok (.iload 6, 2) := by decide +kernel
theorem dL_law_460 : decode cL_law 460 = .ok (.i2l, 1) := by decide +kernel
theorem dL_law_461 : decode cL_law 461 = .ok (.lcmp, 1) := by decide +kernel
theorem dL_law_462 : decode cL_law 462 = .ok (.ifCond .eq 5, 3) := by decide +kernel
theorem dL_law_465 : decode cL_law 465 = .ok (.iconst 0, 1) := by decide +kernel
theorem dL_law_466 : decode cL_law 466 = .ok (.ireturn, 1) := by decide +kernel
theorem dL_law_467 : decode cL_law 467 = .ok (.goto 593, 3) := by decide +kernel
theorem dL_law_470 : decode cL_law 470 = .ok (.aload_n 1, 1) := by decide +kernel
theorem dL_law_471 : decode cL_law 471 = .ok (.aload_n 0, 1) := by decide +kernel
theorem dL_law_472 : decode cL_law 472 = .ok (.iload 4, 2) := by decide +kernel
theorem dL_law_474 : decode cL_law 474 = .ok (.iconst 1, 1) := by decide +kernel
theorem dL_law_475 : decode cL_law 475 = .ok (.iadd, 1) := by decide +kernel
theorem dL_law_476 : decode cL_law 476 = .ok (.iaload, 1) := by decide +kernel
theorem dL_law_477 : decode cL_law 477 = .ok (.aload_n 0, 1) := by decide +kernel
theorem dL_law_478 : decode cL_law 478 = .ok (.iload 4, 2) := by decide +kernel
theorem dL_law_480 : decode cL_law 480 = .ok (.iconst 2, 1) := by decide +kernel
theorem dL_law_481 : decode cL_law 481 = .ok (.iadd, 1) := by decide +kernel
theorem dL_law_482 : decode cL_law 482 = .ok (.iaload, 1) := by decide +kernel
theorem dL_law_483 : decode cL_law 483 = .ok (.aload_n 3, 1) := by decide +kernel
theorem dL_law_484 : decode cL_law 484 = .ok (.invokestatic 91, 3) := by decide +kernel
theorem dL_law_487 : decode cL_law 487 = .ok (.istore 5, 2) := by decide +kernel
theorem dL_law_489 : decode cL_law 489 = .ok (.aload_n 2, 1) := by decide +kernel
theorem dL_law_490 : decode cL_law 490 = .ok (.aload_n 0, 1) := by decide +kernel
theorem dL_law_491 : decode cL_law 491 = .ok (.iload 4, 2) := by decide +kernel
theorem dL_law_493 : decode cL_law 493 = .ok (.iconst 1, 1) := by decide +kernel
theorem dL_law_494 : decode cL_law 494 = .ok (.iadd, 1) := by decide +kernel
theorem dL_law_495 : decode cL_law 495 = .ok (.iaload, 1) := by decide +kernel
theorem dL_law_496 : decode cL_law 496 = .ok (.aload_n 0, 1) := by decide +kernel
theorem dL_law_497 : decode cL_law 497 = .ok (.iload 4, 2) := by decide +kernel
theorem dL_law_499 : decode cL_law 499 = .ok (.iconst 2, 1) := by decide +kernel
theorem dL_law_500 : decode cL_law 500 = .ok (.iadd, 1) := by decide +kernel
theorem dL_law_501 : decode cL_law 501 = .ok (.iaload, 1) := by decide +kernel
theorem dL_law_502 : decode cL_law 502 = .ok (.invokevirtual 94, 3) := by decide +kernel
theorem dL_law_505 : decode cL_law 505 = .ok (.istore 6, 2) := by decide +kernel
theorem dL_law_507 : decode cL_law 507 = .ok (.aload_n 2, 1) := by decide +kernel
theorem dL_law_508 : decode cL_law 508 = .ok (.invokevirtual 76, 3) := by decide +kernel
theorem dL_law_511 : decode cL_law 511 = .ok (.iload 5, 2) := by decide +kernel
theorem dL_law_513 : decode cL_law 513 = .ok (.if_icmp .eq 5, 3) := by decide +kernel
theorem dL_law_516 : decode cL_law 516 = .ok (.iconst 0, 1) := by decide +kernel
theorem dL_law_517 : decode cL_law 517 = .ok (.ireturn, 1) := by decide +kernel
theorem dL_law_518 : decode cL_law 518 = .ok (.iload 5, 2) := by decide +kernel
theorem dL_law_520 : decode cL_law 520 = .ok (.ifCond .ne 15, 3) := by decide +kernel
theorem dL_law_523 : decode cL_law 523 = .ok (.aload_n 3, 1) := by decide +kernel
theorem dL_law_524 : decode cL_law 524 = .ok (.iconst 0, 1) := by decide +kernel
theorem dL_law_525 : decode cL_law 525 = .ok (.laload, 1) := by decide +kernel
theorem dL_law_526 : decode cL_law 526 = .ok (.iload 6, 2) := by decide +kernel
theorem dL_law_528 : decode cL_law 528 = .ok (.i2l, 1) := by decide +kernel
theorem dL_law_529 : decode cL_law 529 = .ok (.lcmp, 1) := by decide +kernel
theorem dL_law_530 : decode cL_law 530 = .ok (.ifCond .eq 5, 3) := by decide +kernel
theorem dL_law_533 : decode cL_law 533 = .ok (.iconst 0, 1) := by decide +kernel
theorem dL_law_534 : decode cL_law 534 = .ok (.ireturn, 1) := by decide +kernel
theorem dL_law_535 : decode cL_law 535 = .ok (.goto 525, 3) := by decide +kernel
theorem dL_law_538 : decode cL_law 538 = .ok (.aload_n 1, 1) := by decide +kernel
theorem dL_law_539 : decode cL_law 539 = .ok (.aload_n 0, 1) := by decide +kernel
theorem dL_law_540 : decode cL_law 540 = .ok (.iload 4, 2) := by decide +kernel
theorem dL_law_542 : decode cL_law 542 = .ok (.iconst 1, 1) := by decide +kernel
theorem dL_law_543 : decode cL_law 543 = .ok (.iadd, 1) := by decide +kernel
theorem dL_law_544 : decode cL_law 544 = .ok (.iaload, 1) := by decide +kernel
theorem dL_law_545 : decode cL_law 545 = .ok (.aload_n 3, 1) := by decide +kernel
theorem dL_law_546 : decode cL_law 546 = .ok (.invokestatic 95, 3) := by decide +kernel
theorem dL_law_549 : decode cL_law 549 = .ok (.istore 5, 2) := by decide +kernel
theorem dL_law_551 : decode cL_law 551 = .ok (.aload_n 2, 1) := by decide +kernel
theorem dL_law_552 : decode cL_law 552 = .ok (.aload_n 0, 1) := by decide +kernel
theorem dL_law_553 : decode cL_law 553 = .ok (.iload 4, 2) := by decide +kernel
theorem dL_law_555 : decode cL_law 555 = .ok (.iconst 1, 1) := by decide +kernel
theorem dL_law_556 : decode cL_law 556 = .ok (.iadd, 1) := by decide +kernel
theorem dL_law_557 : decode cL_law 557 = .ok (.iaload, 1) := by decide +kernel
theorem dL_law_558 : decode cL_law 558 = .ok (.invokevirtual 98, 3) := by decide +kernel
theorem dL_law_561 : decode cL_law 561 = .ok (.istore 6, 2) := by decide +kernel
theorem dL_law_563 : decode cL_law 563 = .ok (.aload_n 2, 1) := by decide +kernel
theorem dL_law_564 : decode cL_law 564 = .ok (.invokevirtual 76, 3) := by decide +kernel
theorem dL_law_567 : decode cL_law 567 = .ok (.iload 5, 2) := by decide +kernel
theorem dL_law_569 : decode cL_law 569 = .ok (.if_icmp .eq 5, 3) := by decide +kernel
theorem dL_law_572 : decode cL_law 572 = .ok (.iconst 0, 1) := by decide +kernel
theorem dL_law_573 : decode cL_law 573 = .ok (.ireturn, 1) := by decide +kernel
theorem dL_law_574 : decode cL_law 574 = .ok (.iload 5, 2) := by decide +kernel
theorem dL_law_576 : decode cL_law 576 = .ok (.ifCond .ne 15, 3) := by decide +kernel
theorem dL_law_579 : decode cL_law 579 = .ok (.aload_n 3, 1) := by decide +kernel
theorem dL_law_580 : decode cL_law 580 = .ok (.iconst 0, 1) := by decide +kernel
theorem dL_law_581 : decode cL_law 581 = .ok (.laload, 1) := by decide +kernel
theorem dL_law_582 : decode cL_law 582 = .ok (.iload 6, 2) := by decide +kernel
theorem dL_law_584 : decode cL_law 584 = .ok (.i2l, 1) := by decide +kernel
theorem dL_law_585 : decode cL_law 585 = .ok (.lcmp, 1) := by decide +kernel
theorem dL_law_586 : decode cL_law 586 = .ok (.ifCond .eq 5, 3) := by decide +kernel
theorem dL_law_589 : decode cL_law 589 = .ok (.iconst 0, 1) := by decide +kernel
theorem dL_law_590 : decode cL_law 590 = .ok (.ireturn, 1) := by decide +kernel
theorem dL_law_591 : decode cL_law 591 = .ok (.goto 469, 3) := by decide +kernel
theorem dL_law_594 : decode cL_law 594 = .ok (.aload_n 1, 1) := by decide +kernel
theorem dL_law_595 : decode cL_law 595 = .ok (.invokevirtual 99, 3) := by decide +kernel
theorem dL_law_598 : decode cL_law 598 = .ok (.aload_n 2, 1) := by decide +kernel
theorem dL_law_599 : decode cL_law 599 = .ok (.invokevirtual 102, 3) := by decide +kernel
theorem dL_law_602 : decode cL_law 602 = .ok (.if_icmp .eq 458, 3) := by decide +kernel
theorem dL_law_605 : decode cL_law 605 = .ok (.iconst 0, 1) := by decide +kernel
theorem dL_law_606 : decode cL_law 606 = .ok (.ireturn, 1) := by decide +kernel
theorem dL_law_607 : decode cL_law 607 = .ok (.aload_n 1, 1) := by decide +kernel
theorem dL_law_608 : decode cL_law 608 = .ok (.aload_n 0, 1) := by decide +kernel
theorem dL_law_609 : decode cL_law 609 = .ok (.iload 4, 2) := by decide +kernel
theorem dL_law_611 : decode cL_law 611 = .ok (.iconst 1, 1) := by decide +kernel
theorem dL_law_612 : decode cL_law 612 = .ok (.iadd, 1) := by decide +kernel
theorem dL_law_613 : decode cL_law 613 = .ok (.iaload, 1) := by decide +kernel
theorem dL_law_614 : decode cL_law 614 = .ok (.aload_n 0, 1) := by decide +kernel
theorem dL_law_615 : decode cL_law 615 = .ok (.iload 4, 2) := by decide +kernel
theorem dL_law_617 : decode cL_law 617 = .ok (.iconst 2, 1) := by decide +kernel
theorem dL_law_618 : decode cL_law 618 = .ok (.iadd, 1) := by decide +kernel
theorem dL_law_619 : decode cL_law 619 = .ok (.iaload, 1) := by decide +kernel
theorem dL_law_620 : decode cL_law 620 = .ok (.aload_n 3, 1) := by decide +kernel
theorem dL_law_621 : decode cL_law 621 = .ok (.invokestatic 103, 3) := by decide +kernel
theorem dL_law_624 : decode cL_law 624 = .ok (.istore 5, 2) := by decide +kernel
theorem dL_law_626 : decode cL_law 626 = .ok (.aload_n 2, 1) := by decide +kernel
theorem dL_law_627 : decode cL_law 627 = .ok (.aload_n 0, 1) := by decide +kernel
theorem dL_law_628 : decode cL_law 628 = .ok (.iload 4, 2) := by decide +kernel
theorem dL_law_630 : decode cL_law 630 = .ok (.iconst 1, 1) := by decide +kernel
theorem dL_law_631 : decode cL_law 631 = .ok (.iadd, 1) := by decide +kernel
theorem dL_law_632 : decode cL_law 632 = .ok (.iaload, 1) := by decide +kernel
theorem dL_law_633 : decode cL_law 633 = .ok (.aload_n 0, 1) := by decide +kernel
theorem dL_law_634 : decode cL_law 634 = .ok (.iload 4, 2) := by decide +kernel
theorem dL_law_636 : decode cL_law 636 = .ok (.iconst 2, 1) := by decide +kernel
theorem dL_law_637 : decode cL_law 637 = .ok (.iadd, 1) := by decide +kernel
theorem dL_law_638 : decode cL_law 638 = .ok (.iaload, 1) := by decide +kernel
theorem dL_law_639 : decode cL_law 639 = .ok (.invokevirtual 105, 3) := by decide +kernel
theorem dL_law_642 : decode cL_law 642 = .ok (.istore 6, 2) := by decide +kernel
theorem dL_law_644 : decode cL_law 644 = .ok (.aload_n 2, 1) := by decide +kernel
theorem dL_law_645 : decode cL_law 645 = .ok (.invokevirtual 76, 3) := by decide +kernel
theorem dL_law_648 : decode cL_law 648 = .ok (.iload 5, 2) := by decide +kernel
theorem dL_law_650 : decode cL_law 650 = .ok (.if_icmp .eq 5, 3) := by decide +kernel
theorem dL_law_653 : decode cL_law 653 = .ok (.iconst 0, 1) := by decide +kernel
theorem dL_law_654 : decode cL_law 654 = .ok (.ireturn, 1) := by decide +kernel
theorem dL_law_655 : decode cL_law 655 = .ok (.iload 5, 2) := by decide +kernel
theorem dL_law_657 : decode cL_law 657 = .ok (.ifCond .ne 15, 3) := by decide +kernel
theorem dL_law_660 : decode cL_law 660 = .ok (.aload_n 3, 1) := by decide +kernel
theorem dL_law_661 : decode cL_law 661 = .ok (.iconst 0, 1) := by decide +kernel
theorem dL_law_662 : decode cL_law 662 = .ok (.laload, 1) := by decide +kernel
theorem dL_law_663 : decode cL_law 663 = .ok (.iload 6, 2) := by decide +kernel
theorem dL_law_665 : decode cL_law 665 = .ok (.i2l, 1) := by decide +kernel
theorem dL_law_666 : decode cL_law 666 = .ok (.lcmp, 1) := by decide +kernel
theorem dL_law_667 : decode cL_law 667 = .ok (.ifCond .eq 5, 3) := by decide +kernel
theorem dL_law_670 : decode cL_law 670 = .ok (.iconst 0, 1) := by decide +kernel
theorem dL_law_671 : decode cL_law 671 = .ok (.ireturn, 1) := by decide +kernel
theorem dL_law_672 : decode cL_law 672 = .ok (.goto 388, 3) := by decide +kernel
theorem dL_law_675 : decode cL_law 675 = .ok (.aload_n 1, 1) := by decide +kernel
theorem dL_law_676 : decode cL_law 676 = .ok (.aload_n 0, 1) := by decide +kernel
theorem dL_law_677 : decode cL_law 677 = .ok (.iload 4, 2) := by decide +kernel
theorem dL_law_679 : decode cL_law 679 = .ok (.iconst 1, 1) := by decide +kernel
theorem dL_law_680 : decode cL_law 680 = .ok (.iadd, 1) := by decide +kernel
theorem dL_law_681 : decode cL_law 681 = .ok (.iaload, 1) := by decide +kernel
theorem dL_law_682 : decode cL_law 682 = .ok (.aload_n 0, 1) := by decide +kernel
theorem dL_law_683 : decode cL_law 683 = .ok (.iload 4, 2) := by decide +kernel
theorem dL_law_685 : decode cL_law 685 = .ok (.iconst 2, 1) := by decide +kernel
theorem dL_law_686 : decode cL_law 686 = .ok (.iadd, 1) := by decide +kernel
theorem dL_law_687 : decode cL_law 687 = .ok (.iaload, 1) := by decide +kernel
theorem dL_law_688 : decode cL_law 688 = .ok (.aload_n 3, 1) := by decide +kernel
theorem dL_law_689 : decode cL_law 689 = .ok (.invokestatic 106, 3) := by decide +kernel
theorem dL_law_692 : decode cL_law 692 = .ok (.istore 5, 2) := by decide +kernel
theorem dL_law_694 : decode cL_law 694 = .ok (.aload_n 2, 1) := by decide +kernel
theorem dL_law_695 : decode cL_law 695 = .ok (.aload_n 0, 1) := by decide +kernel
theorem dL_law_696 : decode cL_law 696 = .ok (.iload 4, 2) := by decide +kernel
theorem dL_law_698 : decode cL_law 698 = .ok (.iconst 1, 1) := by decide +kernel
theorem dL_law_699 : decode cL_law 699 = .ok (.iadd, 1) := by decide +kernel
theorem dL_law_700 : decode cL_law 700 = .ok (.iaload, 1) := by decide +kernel
theorem dL_law_701 : decode cL_law 701 = .ok (.aload_n 0, 1) := by decide +kernel
theorem dL_law_702 : decode cL_law 702 = .ok (.iload 4, 2) := by decide +kernel
theorem dL_law_704 : decode cL_law 704 = .ok (.iconst 2, 1) := by decide +kernel
theorem dL_law_705 : decode cL_law 705 = .ok (.iadd, 1) := by decide +kernel
theorem dL_law_706 : decode cL_law 706 = .ok (.iaload, 1) := by decide +kernel
theorem dL_law_707 : decode cL_law 707 = .ok (.invokevirtual 108, 3) := by decide +kernel
theorem dL_law_710 : decode cL_law 710 = .ok (.istore 6, 2) := by decide +kernel
theorem dL_law_712 : decode cL_law 712 = .ok (.aload_n 2, 1) := by decide +kernel
theorem dL_law_713 : decode cL_law 713 = .ok (.invokevirtual 76, 3) := by decide +kernel
theorem dL_law_716 : decode cL_law 716 = .ok (.iload 5, 2) := by decide +kernel
theorem dL_law_718 : decode cL_law 718 = .ok (.if_icmp .eq 5, 3) := by decide +kernel
theorem dL_law_721 : decode cL_law 721 = .ok (.iconst 0, 1) := by decide +kernel
theorem dL_law_722 : decode cL_law 722 = .ok (.ireturn, 1) := by decide +kernel
theorem dL_law_723 : decode cL_law 723 = .ok (.iload 5, 2) := by decide +kernel
theorem dL_law_725 : decode cL_law 725 = .ok (.ifCond .ne 15, 3) := by decide +kernel
theorem dL_law_728 : decode cL_law 728 = .ok (.aload_n 3, 1) := by decide +kernel
theorem dL_law_729 : decode cL_law 729 = .ok (.iconst 0, 1) := by decide +kernel
theorem dL_law_730 : decode cL_law 730 = .ok (.laload, 1) := by decide +kernel
theorem dL_law_731 : decode cL_law 731 = .ok (.iload 6, 2) := by decide +kernel
theorem dL_law_733 : decode cL_law 733 = .ok (.i2l, 1) := by decide +kernel
theorem dL_law_734 : decode cL_law 734 = .ok (.lcmp, 1) := by decide +kernel
theorem dL_law_735 : decode cL_law 735 = .ok (.ifCond .eq 5, 3) := by decide +kernel
theorem dL_law_738 : decode cL_law 738 = .ok (.iconst 0, 1) := by decide +kernel
theorem dL_law_739 : decode cL_law 739 = .ok (.ireturn, 1) := by decide +kernel
theorem dL_law_740 : decode cL_law 740 = .ok (.goto 320, 3) := by decide +kernel
theorem dL_law_743 : decode cL_law 743 = .ok (.aload_n 1, 1) := by decide +kernel
theorem dL_law_744 : decode cL_law 744 = .ok (.invokevirtual 109, 3) := by decide +kernel
theorem dL_law_747 : decode cL_law 747 = .ok (.aload_n 2, 1) := by decide +kernel
theorem dL_law_748 : decode cL_law 748 = .ok (.invokevirtual 112, 3) := by decide +kernel
theorem dL_law_751 : decode cL_law 751 = .ok (.if_icmp .eq 309, 3) := by decide +kernel
theorem dL_law_754 : decode cL_law 754 = .ok (.iconst 0, 1) := by decide +kernel
theorem dL_law_755 : decode cL_law 755 = .ok (.ireturn, 1) := by decide +kernel
theorem dL_law_756 : decode cL_law 756 = .ok (.aload_n 1, 1) := by decide +kernel
theorem dL_law_757 : decode cL_law 757 = .ok (.aload_n 0, 1) := by decide +kernel
theorem dL_law_758 : decode cL_law 758 = .ok (.iload 4, 2) := by decide +kernel
theorem dL_law_760 : decode cL_law 760 = .ok (.iconst 1, 1) := by decide +kernel
theorem dL_law_761 : decode cL_law 761 = .ok (.iadd, 1) := by decide +kernel
theorem dL_law_762 : decode cL_law 762 = .ok (.iaload, 1) := by decide +kernel
theorem dL_law_763 : decode cL_law 763 = .ok (.aload_n 3, 1) := by decide +kernel
theorem dL_law_764 : decode cL_law 764 = .ok (.invokestatic 113, 3) := by decide +kernel
theorem dL_law_767 : decode cL_law 767 = .ok (.istore 5, 2) := by decide +kernel
theorem dL_law_769 : decode cL_law 769 = .ok (.aload_n 2, 1) := by decide +kernel
theorem dL_law_770 : decode cL_law 770 = .ok (.aload_n 0, 1) := by decide +kernel
theorem dL_law_771 : decode cL_law 771 = .ok (.iload 4, 2) := by decide +kernel
theorem dL_law_773 : decode cL_law 773 = .ok (.iconst 1, 1) := by decide +kernel
theorem dL_law_774 : decode cL_law 774 = .ok (.iadd, 1) := by decide +kernel
theorem dL_law_775 : decode cL_law 775 = .ok (.iaload, 1) := by decide +kernel
theorem dL_law_776 : decode cL_law 776 = .ok (.invokevirtual 115, 3) := by decide +kernel
theorem dL_law_779 : decode cL_law 779 = .ok (.istore 6, 2) := by decide +kernel
theorem dL_law_781 : decode cL_law 781 = .ok (.aload_n 2, 1) := by decide +kernel
theorem dL_law_782 : decode cL_law 782 = .ok (.invokevirtual 76, 3) := by decide +kernel
theorem dL_law_785 : decode cL_law 785 = .ok (.iload 5, 2) := by decide +kernel
theorem dL_law_787 : decode cL_law 787 = .ok (.if_icmp .eq 5, 3) := by decide +kernel
theorem dL_law_790 : decode cL_law 790 = .ok (.iconst 0, 1) := by decide +kernel
theorem dL_law_791 : decode cL_law 791 = .ok (.ireturn, 1) := by decide +kernel
theorem dL_law_792 : decode cL_law 792 = .ok (.iload 5, 2) := by decide +kernel
theorem dL_law_794 : decode cL_law 794 = .ok (.ifCond .ne 15, 3) := by decide +kernel
theorem dL_law_797 : decode cL_law 797 = .ok (.aload_n 3, 1) := by decide +kernel
theorem dL_law_798 : decode cL_law 798 = .ok (.iconst 0, 1) := by decide +kernel
theorem dL_law_799 : decode cL_law 799 = .ok (.laload, 1) := by decide +kernel
theorem dL_law_800 : decode cL_law 800 = .ok (.iload 6, 2) := by decide +kernel
theorem dL_law_802 : decode cL_law 802 = .ok (.i2l, 1) := by decide +kernel
theorem dL_law_803 : decode cL_law 803 = .ok (.lcmp, 1) := by decide +kernel
theorem dL_law_804 : decode cL_law 804 = .ok (.ifCond .eq 5, 3) := by decide +kernel
theorem dL_law_807 : decode cL_law 807 = .ok (.iconst 0, 1) := by decide +kernel
theorem dL_law_808 : decode cL_law 808 = .ok (.ireturn, 1) := by decide +kernel
theorem dL_law_809 : decode cL_law 809 = .ok (.goto 251, 3) := by decide +kernel
theorem dL_law_812 : decode cL_law 812 = .ok (.aload_n 1, 1) := by decide +kernel
theorem dL_law_813 : decode cL_law 813 = .ok (.aload_n 0, 1) := by decide +kernel
theorem dL_law_814 : decode cL_law 814 = .ok (.iload 4, 2) := by decide +kernel
theorem dL_law_816 : decode cL_law 816 = .ok (.iconst 1, 1) := by decide +kernel
theorem dL_law_817 : decode cL_law 817 = .ok (.iadd, 1) := by decide +kernel
theorem dL_law_818 : decode cL_law 818 = .ok (.iaload, 1) := by decide +kernel
theorem dL_law_819 : decode cL_law 819 = .ok (.aload_n 0, 1) := by decide +kernel
theorem dL_law_820 : decode cL_law 820 = .ok (.iload 4, 2) := by decide +kernel
theorem dL_law_822 : decode cL_law 822 = .ok (.iconst 2, 1) := by decide +kernel
theorem dL_law_823 : decode cL_law 823 = .ok (.iadd, 1) := by decide +kernel
theorem dL_law_824 : decode cL_law 824 = .ok (.iaload, 1) := by decide +kernel
theorem dL_law_825 : decode cL_law 825 = .ok (.aload_n 3, 1) := by decide +kernel
theorem dL_law_826 : decode cL_law 826 = .ok (.invokestatic 116, 3) := by decide +kernel
theorem dL_law_829 : decode cL_law 829 = .ok (.istore 5, 2) := by decide +kernel
theorem dL_law_831 : decode cL_law 831 = .ok (.aload_n 2, 1) := by decide +kernel
theorem dL_law_832 : decode cL_law 832 = .ok (.aload_n 0, 1) := by decide +kernel
theorem dL_law_833 : decode cL_law 833 = .ok (.iload 4, 2) := by decide +kernel
theorem dL_law_835 : decode cL_law 835 = .ok (.iconst 1, 1) := by decide +kernel
theorem dL_law_836 : decode cL_law 836 = .ok (.iadd, 1) := by decide +kernel
theorem dL_law_837 : decode cL_law 837 = .ok (.iaload, 1) := by decide +kernel
theorem dL_law_838 : decode cL_law 838 = .ok (.aload_n 0, 1) := by decide +kernel
theorem dL_law_839 : decode cL_law 839 = .ok (.iload 4, 2) := by decide +kernel
theorem dL_law_841 : decode cL_law 841 = .ok (.iconst 2, 1) := by decide +kernel
theorem dL_law_842 : decode cL_law 842 = .ok (.iadd, 1) := by decide +kernel
theorem dL_law_843 : decode cL_law 843 = .ok (.iaload, 1) := by decide +kernel
theorem dL_law_844 : decode cL_law 844 = .ok (.invokevirtual 118, 3) := by decide +kernel
theorem dL_law_847 : decode cL_law 847 = .ok (.istore 6, 2) := by decide +kernel
theorem dL_law_849 : decode cL_law 849 = .ok (.aload_n 2, 1) := by decide +kernel
theorem dL_law_850 : decode cL_law 850 = .ok (.invokevirtual 76, 3) := by decide +kernel
theorem dL_law_853 : decode cL_law 853 = .ok (.iload 5, 2) := by decide +kernel
theorem dL_law_855 : decode cL_law 855 = .ok (.if_icmp .eq 5, 3) := by decide +kernel
theorem dL_law_858 : decode cL_law 858 = .ok (.iconst 0, 1) := by decide +kernel
theorem dL_law_859 : decode cL_law 859 = .ok (.ireturn, 1) := by decide +kernel
theorem dL_law_860 : decode cL_law 860 = .ok (.iload 5, 2) := by decide +kernel
theorem dL_law_862 : decode cL_law 862 = .ok (.ifCond .ne 15, 3) := by decide +kernel
theorem dL_law_865 : decode cL_law 865 = .ok (.aload_n 3, 1) := by decide +kernel
theorem dL_law_866 : decode cL_law 866 = .ok (.iconst 0, 1) := by decide +kernel
theorem dL_law_867 : decode cL_law 867 = .ok (.laload, 1) := by decide +kernel
theorem dL_law_868 : decode cL_law 868 = .ok (.iload 6, 2) := by decide +kernel
theorem dL_law_870 : decode cL_law 870 = .ok (.i2l, 1) := by decide +kernel
theorem dL_law_871 : decode cL_law 871 = .ok (.lcmp, 1) := by decide +kernel
theorem dL_law_872 : decode cL_law 872 = .ok (.ifCond .eq 5, 3) := by decide +kernel
theorem dL_law_875 : decode cL_law 875 = .ok (.iconst 0, 1) := by decide +kernel
theorem dL_law_876 : decode cL_law 876 = .ok (.ireturn, 1) := by decide +kernel
theorem dL_law_877 : decode cL_law 877 = .ok (.goto 183, 3) := by decide +kernel
theorem dL_law_880 : decode cL_law 880 = .ok (.aload_n 1, 1) := by decide +kernel
theorem dL_law_881 : decode cL_law 881 = .ok (.aload_n 0, 1) := by decide +kernel
theorem dL_law_882 : decode cL_law 882 = .ok (.iload 4, 2) := by decide +kernel
theorem dL_law_884 : decode cL_law 884 = .ok (.iconst 1, 1) := by decide +kernel
theorem dL_law_885 : decode cL_law 885 = .ok (.iadd, 1) := by decide +kernel
theorem dL_law_886 : decode cL_law 886 = .ok (.iaload, 1) := by decide +kernel
theorem dL_law_887 : decode cL_law 887 = .ok (.aload_n 3, 1) := by decide +kernel
theorem dL_law_888 : decode cL_law 888 = .ok (.invokestatic 119, 3) := by decide +kernel
theorem dL_law_891 : decode cL_law 891 = .ok (.istore 5, 2) := by decide +kernel
theorem dL_law_893 : decode cL_law 893 = .ok (.aload_n 2, 1) := by decide +kernel
theorem dL_law_894 : decode cL_law 894 = .ok (.aload_n 0, 1) := by decide +kernel
theorem dL_law_895 : decode cL_law 895 = .ok (.iload 4, 2) := by decide +kernel
theorem dL_law_897 : decode cL_law 897 = .ok (.iconst 1, 1) := by decide +kernel
theorem dL_law_898 : decode cL_law 898 = .ok (.iadd, 1) := by decide +kernel
theorem dL_law_899 : decode cL_law 899 = .ok (.iaload, 1) := by decide +kernel
theorem dL_law_900 : decode cL_law 900 = .ok (.invokevirtual 121, 3) := by decide +kernel
theorem dL_law_903 : decode cL_law 903 = .ok (.istore 6, 2) := by decide +kernel
theorem dL_law_905 : decode cL_law 905 = .ok (.aload_n 2, 1) := by decide +kernel
theorem dL_law_906 : decode cL_law 906 = .ok (.invokevirtual 76, 3) := by decide +kernel
theorem dL_law_909 : decode cL_law 909 = .ok (.iload 5, 2) := by decide +kernel
theorem dL_law_911 : decode cL_law 911 = .ok (.if_icmp .eq 5, 3) := by decide +kernel
theorem dL_law_914 : decode cL_law 914 = .ok (.iconst 0, 1) := by decide +kernel
theorem dL_law_915 : decode cL_law 915 = .ok (.ireturn, 1) := by decide +kernel
theorem dL_law_916 : decode cL_law 916 = .ok (.iload 5, 2) := by decide +kernel
theorem dL_law_918 : decode cL_law 918 = .ok (.ifCond .ne 15, 3) := by decide +kernel
theorem dL_law_921 : decode cL_law 921 = .ok (.aload_n 3, 1) := by decide +kernel
theorem dL_law_922 : decode cL_law 922 = .ok (.iconst 0, 1) := by decide +kernel
theorem dL_law_923 : decode cL_law 923 = .ok (.laload, 1) := by decide +kernel
theorem dL_law_924 : decode cL_law 924 = .ok (.iload 6, 2) := by decide +kernel
theorem dL_law_926 : decode cL_law 926 = .ok (.i2l, 1) := by decide +kernel
theorem dL_law_927 : decode cL_law 927 = .ok (.lcmp, 1) := by decide +kernel
theorem dL_law_928 : decode cL_law 928 = .ok (.ifCond .eq 5, 3) := by decide +kernel
theorem dL_law_931 : decode cL_law 931 = .ok (.iconst 0, 1) := by decide +kernel
theorem dL_law_932 : decode cL_law 932 = .ok (.ireturn, 1) := by decide +kernel
theorem dL_law_933 : decode cL_law 933 = .ok (.goto 127, 3) := by decide +kernel
theorem dL_law_936 : decode cL_law 936 = .ok (.aload_n 1, 1) := by decide +kernel
theorem dL_law_937 : decode cL_law 937 = .ok (.aload_n 3, 1) := by decide +kernel
theorem dL_law_938 : decode cL_law 938 = .ok (.invokestatic 122, 3) := by decide +kernel
theorem dL_law_941 : decode cL_law 941 = .ok (.istore 5, 2) := by decide +kernel
theorem dL_law_943 : decode cL_law 943 = .ok (.aload_n 2, 1) := by decide +kernel
theorem dL_law_944 : decode cL_law 944 = .ok (.invokevirtual 125, 3) := by decide +kernel
theorem dL_law_947 : decode cL_law 947 = .ok (.istore 6, 2) := by decide +kernel
theorem dL_law_949 : decode cL_law 949 = .ok (.aload_n 2, 1) := by decide +kernel
theorem dL_law_950 : decode cL_law 950 = .ok (.invokevirtual 76, 3) := by decide +kernel
theorem dL_law_953 : decode cL_law 953 = .ok (.iload 5, 2) := by decide +kernel
theorem dL_law_955 : decode cL_law 955 = .ok (.if_icmp .eq 5, 3) := by decide +kernel
theorem dL_law_958 : decode cL_law 958 = .ok (.iconst 0, 1) := by decide +kernel
theorem dL_law_959 : decode cL_law 959 = .ok (.ireturn, 1) := by decide +kernel
theorem dL_law_960 : decode cL_law 960 = .ok (.iload 5, 2) := by decide +kernel
theorem dL_law_962 : decode cL_law 962 = .ok (.ifCond .ne 15, 3) := by decide +kernel
theorem dL_law_965 : decode cL_law 965 = .ok (.aload_n 3, 1) := by decide +kernel
theorem dL_law_966 : decode cL_law 966 = .ok (.iconst 0, 1) := by decide +kernel
theorem dL_law_967 : decode cL_law 967 = .ok (.laload, 1) := by decide +kernel
theorem dL_law_968 : decode cL_law 968 = .ok (.iload 6, 2) := by decide +kernel
theorem dL_law_970 : decode cL_law 970 = .ok (.i2l, 1) := by decide +kernel
theorem dL_law_971 : decode cL_law 971 = .ok (.lcmp, 1) := by decide +kernel
theorem dL_law_972 : decode cL_law 972 = .ok (.ifCond .eq 5, 3) := by decide +kernel
theorem dL_law_975 : decode cL_law 975 = .ok (.iconst 0, 1) := by decide +kernel
theorem dL_law_976 : decode cL_law 976 = .ok (.ireturn, 1) := by decide +kernel
theorem dL_law_977 : decode cL_law 977 = .ok (.goto 83, 3) := by decide +kernel
theorem dL_law_980 : decode cL_law 980 = .ok (.aload_n 1, 1) := by decide +kernel
theorem dL_law_981 : decode cL_law 981 = .ok (.aload_n 0, 1) := by decide +kernel
theorem dL_law_982 : decode cL_law 982 = .ok (.iload 4, 2) := by decide +kernel
theorem dL_law_984 : decode cL_law 984 = .ok (.iconst 1, 1) := by decide +kernel
theorem dL_law_985 : decode cL_law 985 = .ok (.iadd, 1) := by decide +kernel
theorem dL_law_986 : decode cL_law 986 = .ok (.iaload, 1) := by decide +kernel
theorem dL_law_987 : decode cL_law 987 = .ok (.aload_n 0, 1) := by decide +kernel
theorem dL_law_988 : decode cL_law 988 = .ok (.iload 4, 2) := by decide +kernel
theorem dL_law_990 : decode cL_law 990 = .ok (.iconst 2, 1) := by decide +kernel
theorem dL_law_991 : decode cL_law 991 = .ok (.iadd, 1) := by decide +kernel
theorem dL_law_992 : decode cL_law 992 = .ok (.iaload, 1) := by decide +kernel
theorem dL_law_993 : decode cL_law 993 = .ok (.aload_n 0, 1) := by decide +kernel
theorem dL_law_994 : decode cL_law 994 = .ok (.iload 4, 2) := by decide +kernel
theorem dL_law_996 : decode cL_law 996 = .ok (.iconst 3, 1) := by decide +kernel
theorem dL_law_997 : decode cL_law 997 = .ok (.iadd, 1) := by decide +kernel
theorem dL_law_998 : decode cL_law 998 = .ok (.iaload, 1) := by decide +kernel
theorem dL_law_999 : decode cL_law 999 = .ok (.aload_n 3, 1) := by decide +kernel
theorem dL_law_1000 : decode cL_law 1000 = .ok (.invokestatic 126, 3) := by decide +kernel
theorem dL_law_1003 : decode cL_law 1003 = .ok (.istore 5, 2) := by decide +kernel
theorem dL_law_1005 : decode cL_law 1005 = .ok (.aload_n 2, 1) := by decide +kernel
theorem dL_law_1006 : decode cL_law 1006 = .ok (.aload_n 0, 1) := by decide +kernel
theorem dL_law_1007 : decode cL_law 1007 = .ok (.iload 4, 2) := by decide +kernel
theorem dL_law_1009 : decode cL_law 1009 = .ok (.iconst 1, 1) := by decide +kernel
theorem dL_law_1010 : decode cL_law 1010 = .ok (.iadd, 1) := by decide +kernel
theorem dL_law_1011 : decode cL_law 1011 = .ok (.iaload, 1) := by decide +kernel
theorem dL_law_1012 : decode cL_law 1012 = .ok (.aload_n 0, 1) := by decide +kernel
theorem dL_law_1013 : decode cL_law 1013 = .ok (.iload 4, 2) := by decide +kernel
theorem dL_law_1015 : decode cL_law 1015 = .ok (.iconst 2, 1) := by decide +kernel
theorem dL_law_1016 : decode cL_law 1016 = .ok (.iadd, 1) := by decide +kernel
theorem dL_law_1017 : decode cL_law 1017 = .ok (.iaload, 1) := by decide +kernel
theorem dL_law_1018 : decode cL_law 1018 = .ok (.aload_n 0, 1) := by decide +kernel
theorem dL_law_1019 : decode cL_law 1019 = .ok (.iload 4, 2) := by decide +kernel
theorem dL_law_1021 : decode cL_law 1021 = .ok (.iconst 3, 1) := by decide +kernel
theorem dL_law_1022 : decode cL_law 1022 = .ok (.iadd, 1) := by decide +kernel
theorem dL_law_1023 : decode cL_law 1023 = .ok (.iaload, 1) := by decide +kernel
theorem dL_law_1024 : decode cL_law 1024 = .ok (.invokevirtual 128, 3) := by decide +kernel
theorem dL_law_1027 : decode cL_law 1027 = .ok (.istore 6, 2) := by decide +kernel
theorem dL_law_1029 : decode cL_law 1029 = .ok (.aload_n 2, 1) := by decide +kernel
theorem dL_law_1030 : decode cL_law 1030 = .ok (.invokevirtual 76, 3) := by decide +kernel
theorem dL_law_1033 : decode cL_law 1033 = .ok (.iload 5, 2) := by decide +kernel
theorem dL_law_1035 : decode cL_law 1035 = .ok (.if_icmp .eq 5, 3) := by decide +kernel
theorem dL_law_1038 : decode cL_law 1038 = .ok (.iconst 0, 1) := by decide +kernel
theorem dL_law_1039 : decode cL_law 1039 = .ok (.ireturn, 1) := by decide +kernel
theorem dL_law_1040 : decode cL_law 1040 = .ok (.iload 5, 2) := by decide +kernel
theorem dL_law_1042 : decode cL_law 1042 = .ok (.ifCond .ne 15, 3) := by decide +kernel
theorem dL_law_1045 : decode cL_law 1045 = .ok (.aload_n 3, 1) := by decide +kernel
theorem dL_law_1046 : decode cL_law 1046 = .ok (.iconst 0, 1) := by decide +kernel
theorem dL_law_1047 : decode cL_law 1047 = .ok (.laload, 1) := by decide +kernel
theorem dL_law_1048 : decode cL_law 1048 = .ok (.iload 6, 2) := by decide +kernel
theorem dL_law_1050 : decode cL_law 1050 = .ok (.i2l, 1) := by decide +kernel
theorem dL_law_1051 : decode cL_law 1051 = .ok (.lcmp, 1) := by decide +kernel
theorem dL_law_1052 : decode cL_law 1052 = .ok (.ifCond .eq 5, 3) := by decide +kernel
theorem dL_law_1055 : decode cL_law 1055 = .ok (.iconst 0, 1) := by decide +kernel
theorem dL_law_1056 : decode cL_law 1056 = .ok (.ireturn, 1) := by decide +kernel
theorem dL_law_1057 : decode cL_law 1057 = .ok (.goto 3, 3) := by decide +kernel
theorem dL_law_1060 : decode cL_law 1060 = .ok (.iinc 4 7, 3) := by decide +kernel
theorem dL_law_1063 : decode cL_law 1063 = .ok (.goto (-1020), 3) := by decide +kernel
theorem dL_law_1066 : decode cL_law 1066 = .ok (.iconst 1, 1) := by decide +kernel
theorem dL_law_1067 : decode cL_law 1067 = .ok (.ireturn, 1) := by decide +kernel
end
section
/-! ===== an abstract heap: a list of things, a reference is a thing's place in it; 'ad' says where each lies ===== -/
def SCR : Nat := 1000000
def cv (ad : Nat → Nat) : Value → Value
  | .ref k => .ref (ad k)
  | v => v
def ce (ad : Nat → Nat) (tc : Nat → ClassId) : va_E → va_E
  | .inl (k, a) => .inl (tc k, a)
  | .inr (ci, fs) => .inr (ci, fs.map (cv ad))
def cw (ad : Nat → Nat) (tc : Nat → ClassId) (h : List va_E) : va_W := h.mapIdx (fun k e => (ad k, ce ad tc e))
theorem cw_get {ad : Nat → Nat} {tc : Nat → ClassId} {h : List va_E} {k : Nat} {e : va_E} (he : h[k]? = some e) : (cw ad tc h)[k]? = some (ad k, ce ad tc e) := by
  simp [cw, List.getElem?_mapIdx, he]
theorem cw_get' {ad : Nat → Nat} {tc : Nat → ClassId} {h : List va_E} {k : Nat} {q : Nat × va_E} (he : (cw ad tc h)[k]? = some q) : ∃ e, h[k]? = some e ∧ q = (ad k, ce ad tc e) := by
  simp only [cw, List.getElem?_mapIdx, Option.map_eq_some_iff] at he
  obtain ⟨e, h1, h2⟩ := he
  exact ⟨e, h1, h2.symm⟩
theorem cw_set {ad : Nat → Nat} {tc : Nat → ClassId} {h : List va_E} {k : Nat} {e : va_E} : (cw ad tc h).set k (ad k, ce ad tc e) = cw ad tc (h.set k e) := by
  apply List.ext_getElem?
  intro i
  simp only [cw, List.getElem?_set, List.getElem?_mapIdx, List.length_mapIdx]
  by_cases hi : k = i
  · subst hi
    by_cases hl : k < h.length <;> simp [hl]
  · simp [hi]
theorem cw_len {ad : Nat → Nat} {tc : Nat → ClassId} {h : List va_E} : (cw ad tc h).length = h.length := by simp [cw]
def rok (N : Nat) : Value → Bool
  | .ref k => k.blt N || k == SCR
  | _ => true
def roO (N : Nat) : Option Value → Bool
  | none => true
  | some v => rok N v
def roE (N : Nat) : va_E → Bool
  | .inl _ => true
  | .inr (_, fs) => fs.all (rok N)
theorem cv_same {N : Nat} {ad ad' : Nat → Nat} {v : Value} (h : rok N v = true) (ha : ∀ j, j < N → ad' j = ad j) (hs : ad' SCR = ad SCR) : cv ad' v = cv ad v := by
  cases v with
  | ref k =>
    simp only [rok, Bool.or_eq_true, Nat.blt_eq, beq_iff_eq] at h
    rcases h with h | h
    · simp [cv, ha k h]
    · subst h; simp [cv, hs]
  | _ => rfl
theorem cvs_same {N : Nat} {ad ad' : Nat → Nat} {l : List Value} (h : l.all (rok N) = true) (ha : ∀ j, j < N → ad' j = ad j) (hs : ad' SCR = ad SCR) : l.map (cv ad') = l.map (cv ad) := by
  apply List.map_congr_left
  intro v hv
  exact cv_same (List.all_eq_true.mp h v hv) ha hs
theorem ce_same {N : Nat} {ad ad' : Nat → Nat} {tc : Nat → ClassId} {e : va_E} (h : roE N e = true) (ha : ∀ j, j < N → ad' j = ad j) (hs : ad' SCR = ad SCR) : ce ad' tc e = ce ad tc e := by
  rcases e with ⟨k, a⟩ | ⟨ci, fs⟩
  · rfl
  · show Sum.inr (ci, fs.map (cv ad')) = Sum.inr (ci, fs.map (cv ad))
    rw [cvs_same h ha hs]
/-- one thing more, at a new place -/
theorem cw_push {ad : Nat → Nat} {tc : Nat → ClassId} {h : List va_E} {e : va_E} {q : Nat} (hh : h.all (roE h.length) = true) (he : roE h.length e = true) (hn : h.length < SCR) : cw (va_up ad h.length q) tc (h ++ [e]) = cw ad tc h ++ [(q, ce ad tc e)] := by
  have ha : ∀ j, j < h.length → va_up ad h.length q j = ad j := fun j hj => by simp [va_up, Nat.ne_of_lt hj]
  have hs : va_up ad h.length q SCR = ad SCR := by
    have : SCR ≠ h.length := fun e => by rw [← e] at hn; exact Nat.lt_irrefl _ hn
    simp [va_up, this]
  apply List.ext_getElem?
  intro i
  rw [List.getElem?_append, cw_len]
  simp only [cw, List.getElem?_mapIdx]
  by_cases hi : i < h.length
  · rw [if_pos hi, List.getElem?_append_left hi]
    cases hx : h[i]? with
    | none => rfl
    | some x =>
      have hx2 : x ∈ h := List.mem_of_getElem? hx
      simp [ha i hi, ce_same (List.all_eq_true.mp hh x hx2) ha hs]
  · rw [if_neg hi, List.getElem?_append_right (Nat.le_of_not_lt hi)]
    by_cases h2 : i = h.length
    · subst h2
      simp [va_up, ce_same he ha hs]
    · have h3 : 1 ≤ i - h.length := by omega
      rw [List.getElem?_eq_none (by simpa using h3), List.getElem?_eq_none (by simpa using h3)]
      rfl
/-! locals -/
def lc (ad : Nat → Nat) (lv : List (Option Value)) : List (Nat × Value) := (lv.mapIdx (fun i o => o.map (fun v => (i, cv ad v)))).filterMap id
def lvOk (lv : List (Option Value)) : Bool := lv.all fun o => match o with
  | none => true
  | some v => v.category == 1
theorem lc_mem {ad : Nat → Nat} {lv : List (Option Value)} {i : Nat} {v : Value} (h : lv[i]? = some (some v)) : (i, cv ad v) ∈ lc ad lv := by
  refine List.mem_filterMap.mpr ⟨some (i, cv ad v), ?_, rfl⟩
  refine List.mem_of_getElem? (i := i) ?_
  rw [List.getElem?_mapIdx, h]
  rfl
theorem lc_of {ad : Nat → Nat} {lv : List (Option Value)} {q : Nat × Value} (h : q ∈ lc ad lv) : ∃ v, lv[q.1]? = some (some v) ∧ q.2 = cv ad v := by
  obtain ⟨o, ho, hq⟩ := List.mem_filterMap.mp h
  obtain ⟨i, hi⟩ := List.getElem?_of_mem ho
  rw [List.getElem?_mapIdx] at hi
  cases hx : lv[i]? with
  | none => rw [hx] at hi; cases hi
  | some x =>
    rw [hx] at hi
    cases x with
    | none => simp at hi; subst hi; cases hq
    | some v => simp at hi; subst hi; simp at hq; subst hq; exact ⟨v, hx, rfl⟩
theorem cv_cat (ad : Nat → Nat) (v : Value) : (cv ad v).category = v.category := by cases v <;> rfl
theorem lc_get {ad : Nat → Nat} {lv : List (Option Value)} {ls : Array Slot} {nL i : Nat} {v : Value} (h : lv_has ls nL (lc ad lv)) (hl : lv[i]? = some (some v)) : ls[i]? = some (.val (cv ad v)) := h.2.2 _ (lc_mem hl)
theorem lc_same {N : Nat} {ad ad' : Nat → Nat} {lv : List (Option Value)} (h : lv.all (roO N) = true) (ha : ∀ j, j < N → ad' j = ad j) (hs : ad' SCR = ad SCR) {ls : Array Slot} {nL : Nat} (hl : lv_has ls nL (lc ad lv)) : lv_has ls nL (lc ad' lv) := by
  refine ⟨hl.1, hl.2.1, fun q hq => ?_⟩
  obtain ⟨v, h1, h2⟩ := lc_of hq
  have h3 := lc_get hl h1
  rw [h2, cv_same (List.all_eq_true.mp h _ (List.mem_of_getElem? h1)) ha hs]
  exact h3
theorem lc_store {ad : Nat → Nat} {lv : List (Option Value)} {ls : Array Slot} {nL i : Nat} {v : Value} (ho : lvOk lv = true) (h : lv_has ls nL ((i, cv ad v) :: (lc ad lv).filter (fun q => !(q.1 == i) && !(q.1 + 1 == i && q.2.category == 2)))) : lv_has ls nL (lc ad (lv.set i (some v))) := by
  refine ⟨h.1, h.2.1, fun q hq => ?_⟩
  obtain ⟨w, h1, h2⟩ := lc_of hq
  obtain ⟨j, x⟩ := q
  dsimp only at h1 h2 ⊢
  by_cases hj : j = i
  · subst hj
    rw [List.getElem?_set_self'] at h1
    have hw : w = v := by
      cases hx : lv[j]? with
      | none => rw [hx] at h1; simp at h1
      | some _ => rw [hx] at h1; simp at h1; exact h1.symm
    subst hw
    rw [h2]
    exact h.2.2 _ List.mem_cons_self
  · rw [List.getElem?_set_ne (Ne.symm hj)] at h1
    have hc : w.category = 1 := by
      have := List.all_eq_true.mp ho _ (List.mem_of_getElem? h1)
      simpa using this
    have hm : (j, cv ad w) ∈ lc ad lv := lc_mem h1
    have h3 := h.2.2 (j, cv ad w) (List.mem_cons_of_mem _ (List.mem_filter.mpr ⟨hm, by simp [hj, cv_cat, hc]⟩))
    rw [h2]
    exact h3
/-! the start, seen from every method -/
abbrev Uv : Type := Launch × State × Nat × Nat × (Nat → Int32) × va_G × (Nat → ClassId)
def tyl (tc : Nat → ClassId) : List (ClassId × FieldType) := [(tc 0, .int), (tc 1, .long), (tc 2, .boolean)]
def A00 (s0 : State) : Nat → Prop := fun q => s0.heap.size ≤ q
def Un : Uv → Prop
  | (l, s0, b, L, xs, D, tc) => (∀ w ∈ lw_tbl, w.before #[Value.ref b] s0 = true) ∧ va_K D vwCl (tyl tc) s0 ∧ va_X b L xs s0 s0.heap ∧ b < s0.heap.size ∧ l.stackTraces = false ∧ vx_Zq Bundle.tN "UNASSIGNED_STACK" Bundle.steD (A00 s0) s0 s0.heap ∧ vx_Zq Bundle.tN "SUPPRESSED_SENTINEL" Bundle.listD (A00 s0) s0 s0.heap ∧ (Jvm.Cond.and given_1 narrow_1).before #[Value.ref b] s0 = true
def Old (s0 : State) (H : Heap) : Prop := s0.heap.size ≤ H.size ∧ ∀ q, q < s0.heap.size → H[q]? = s0.heap[q]?
def rm (d K N : Nat) : Room := { frames := d, cells := K, slots := N, locals := 39 * d }
abbrev Mac : Type := Program × Env × Room × State × MethodId × Array Value × List Frame × Method × Code × (State → Prop)
abbrev Cx : Type := Mac × Uv × (Nat → Prop) × (Nat → Nat) × Nat × Nat
def AW : Cx → List va_E → Nat → Nat → List (Option Value) → List Value → Nat → Prop
  | ((p, e, R, s, m, args, below, meth, c, Q), (l, s0, b, L, xs, D, tc), A, ad0, n0, nL), h, k, n, lv, st, pc =>
    ∀ (ad : Nat → Nat) (H : Heap) (locs : List Loc) (ls : Array Slot), n0 ≤ h.length → (∀ j, j < n0 → ad j = ad0 j) → ad SCR = b → va_P D vwCl (cw ad tc h) H → va_D A (cw ad tc h) → va_S A s.heap H locs → lv_has ls nL (lc ad lv) →
      W p l e R s m args below meth c H locs k n Q (F0 m pc ls (st.map (cv ad)))
def Cok : Cx → ByteArray → String → Option FieldType → Nat → Nat → Nat → Prop
  | ((p, e, R, s, m, args, below, meth, c, Q), (l, s0, b, L, xs, D, tc), A, ad0, n0, nL), cc, own, ret, d, K, N =>
    p.tables.exec = Jvm.exec ∧ c.code = cc ∧ c.maxLocals = nL ∧ s.vm.findClass own = some m.cls ∧ meth.sig.returnType = ret ∧ meth.locks = false ∧ R = rm d K N ∧ Un (l, s0, b, L, xs, D, tc) ∧ s0.WarmedH s.vm ∧ Old s0 s.heap ∧ (∀ q, s.heap.size ≤ q → A q) ∧ (∀ q, A q → s0.heap.size ≤ q)
/-- what a method's end must be: the value rv, the heap h' -/
def Qt (u : Uv) (A : Nat → Prop) (ad0 : Nat → Nat) (n0 : Nat) (rv : Option Value) (h' : List va_E) : Array Value → State → Outcome → State → Prop := match u with
  | (_, _, b, _, _, D, tc) => fun _ st o t => ∃ ad' : Nat → Nat, (∀ j, j < n0 → ad' j = ad0 j) ∧ ad' SCR = b ∧ n0 ≤ h'.length ∧ o = .returned (rv.map (cv ad')) ∧ va_P D vwCl (cw ad' tc h') t.heap ∧ va_D A (cw ad' tc h') ∧ va_F A st t
def Tgt : Cx → Nat → Nat → Option Value → List va_E → Prop
  | ((p, e, R, s, m, args, below, meth, c, Q), u, A, ad0, n0, nL), mc, ms, rv, h' => Q = MQ below (Qt u A ad0 n0 rv h') args s mc ms A
def PcA (u : Uv) (ad : Nat → Nat) (sz : Nat) (av : List Value) (h : List va_E) : Array Value → State → Prop := match u with
  | (_, s0, _, _, _, D, tc) => fun v U => v = (av.map (cv ad)).toArray ∧ U.heap.size = sz ∧ s0.WarmedH U.vm ∧ Old s0 U.heap ∧ va_P D vwCl (cw ad tc h) U.heap ∧ va_D (A00 s0) (cw ad tc h)
abbrev Mi : Type := MethodName × ByteArray × Nat × Option FieldType
/-- a method's CONTRACT: called with av over the heap h it returns rv over the heap h' -/
def AM : Uv → Mi → Nat → Nat → Nat → List Value → List va_E → Option Value → List va_E → Prop
  | (l, s0, b, L, xs, D, tc), (y, bytes, maxL, ret), d, mc, ms, av, h, rv, h' =>
    ∀ (ad : Nat → Nat) (sz : Nat), ad SCR = b → Met l y [.code y bytes maxL ret] (rm d mc ms) (PcA (l, s0, b, L, xs, D, tc) ad sz av h) (Qt (l, s0, b, L, xs, D, tc) (va_A (cw ad tc h) sz) ad h.length rv h') mc ms (va_A (cw ad tc h) sz)
/-- a word of the tables holds in every later state -/
theorem un_word {l : Launch} {s0 : State} {b L : Nat} {xs : Nat → Int32} {D : va_G} {tc : Nat → ClassId} (hu : Un (l, s0, b, L, xs, D, tc)) {w : Cond} (hw : (decide (w ∈ lw_tbl) && goodWord w) = true) {U : State} (hU : s0.WarmedH U.vm) (a' : Array Value) : w.before a' U = true := by
  rw [Bool.and_eq_true, decide_eq_true_eq] at hw
  exact word_at hU (good_of_word hw.2) (hu.1 w hw.1)
theorem un_nestF {l : Launch} {s0 : State} {b L : Nat} {xs : Nat → Int32} {D : va_G} {tc : Nat → ClassId} (hu : Un (l, s0, b, L, xs, D, tc)) {a : String} {i : Nat} {x n t h : String} (hw : Cond.fieldLinkNest a i x n t h ∈ lw_tbl) {U : State} (hU : s0.WarmedH U.vm) : va_Nw (.fieldLinkNest a i x n t h) U :=
  va_Nw.warmF hU (va_Nw.of rfl (hu.1 _ hw))
theorem un_nestM {l : Launch} {s0 : State} {b L : Nat} {xs : Nat → Int32} {D : va_G} {tc : Nat → ClassId} (hu : Un (l, s0, b, L, xs, D, tc)) {a : String} {i : Nat} {x : MethodName} {h : String} (hw : Cond.methodLinkNest a i x h ∈ lw_tbl) {U : State} (hU : s0.WarmedH U.vm) : va_Nw (.methodLinkNest a i x h) U :=
  va_Nw.warmM hU (va_Nw.of rfl (hu.1 _ hw))
/-- the body of a contract -/
theorem AM.of {u : Uv} (hu : Un u) {y : MethodName} {cc : ByteArray} {maxL : Nat} {ret : Option FieldType} {d mc ms : Nat} {av : List Value} {h : List va_E} {rv : Option Value} {h' : List va_E} {lv : List (Option Value)}
    (hy : plainName y.cls = true) (hcat : av.all (fun v => v.category == 1) = true) (hmax : av.length ≤ maxL) (hlv : lv = av.map some ++ List.replicate (maxL - av.length) none)
    (body : ∀ Γ : Cx, Γ.2.1 = u → Cok Γ cc y.cls ret d mc ms → Tgt Γ mc ms rv h' → AW Γ h 0 0 lv [] 0) : AM u (y, cc, maxL, ret) d mc ms av h rv h' := by
  obtain ⟨l, s0, b, L, xs, D, tc⟩ := u
  intro ad sz hsc
  refine Met.ofW (cc := cc) (maxL := maxL) (ret := ret) hy rfl ?_
  intro p e s m args below meth c s₁ B hml hv
  obtain ⟨hargs, hsz, hW0, hold, hP, hD⟩ := hv
  subst hsz
  have hD1 : va_D (va_A (cw ad tc h) s.heap.size) (cw ad tc h) := hD.self
  have hown : s.vm.findClass y.cls = some m.cls := findClass_of_methodNamed B.named
  have h1 := body ((p, e, rm d mc ms, s, m, args, below, meth, c, MQ below (Qt (l, s0, b, L, xs, D, tc) (va_A (cw ad tc h) s.heap.size) ad h.length rv h') args s mc ms (va_A (cw ad tc h) s.heap.size)), (l, s0, b, L, xs, D, tc), va_A (cw ad tc h) s.heap.size, ad, h.length, maxL) rfl
    ⟨B.exec, B.bytes, hml, hown, B.returns, B.notSynchronized, rfl, hu, hW0, hold, fun q hq => Or.inr hq, fun q hq => by
      rcases hq with ⟨k, e9, hk⟩ | hq
      · exact hD.2 k _ hk
      · exact Nat.le_trans hold.1 hq⟩ rfl
  have hl := lv_entry (av.map (cv ad)) (n := maxL) (by
    rw [show (lg_sl (av.map (cv ad))).length = av.length from ?_]; exact hmax
    clear hargs hlv hmax hP hD hD1 h1
    induction av with
    | nil => rfl
    | cons v r ih =>
      rw [List.all_cons, Bool.and_eq_true] at hcat
      have hc : (cv ad v).category = 1 := by rw [cv_cat]; simpa using hcat.1
      have := ih hcat.2
      cases hv : cv ad v <;> simp_all [lg_sl, Value.category])
  subst hargs
  rw [lg_entry_eq]
  refine h1 ad s.heap [] _ (Nat.le_refl _) (fun _ _ => rfl) hsc hP hD1 va_S.rf ⟨hl.1, hl.2.1, fun q hq => ?_⟩
  obtain ⟨v, h2, h3⟩ := lc_of hq
  refine hl.2.2 q ?_
  have h4 : av[q.1]? = some v := by
    rw [hlv, List.getElem?_append] at h2
    by_cases hlt : q.1 < (av.map some).length
    · rw [if_pos hlt, List.getElem?_map] at h2
      cases hx : av[q.1]? with
      | none => rw [hx] at h2; cases h2
      | some z => rw [hx] at h2; simp at h2; rw [h2]
    · rw [if_neg hlt, List.getElem?_replicate] at h2
      split at h2 <;> simp at h2
  have key : ∀ (vs : List Value) (n i : Nat) (w : Value), vs.all (fun v => v.category == 1) = true → vs[i]? = some w → (n + i, w) ∈ lv_args n vs := by
    intro vs
    induction vs with
    | nil => intro n i w _ hw; simp at hw
    | cons x r ih =>
      intro n i w hc hw
      rw [List.all_cons, Bool.and_eq_true] at hc
      have hx1 : x.category = 1 := by simpa using hc.1
      cases i with
      | zero => simp at hw; subst hw; simp [lv_args]
      | succ i =>
        have := ih (n + 1) i w hc.2 (by simpa using hw)
        rw [show n + (i + 1) = n + 1 + i by omega]
        simp only [lv_args, hx1]
        exact List.mem_cons_of_mem _ this
  have hcat2 : (av.map (cv ad)).all (fun v => v.category == 1) = true := by
    rw [List.all_map]
    refine List.all_eq_true.mpr fun v hv => ?_
    have := List.all_eq_true.mp hcat v hv
    simpa [cv_cat] using this
  have := key (av.map (cv ad)) 0 q.1 (cv ad v) hcat2 (by rw [List.getElem?_map, h4]; rfl)
  rw [Nat.zero_add] at this
  rw [show q = (q.1, cv ad v) from by rw [← h3]]
  exact this
section Rules
variable {Γ : Cx} {cc : ByteArray} {own : String} {ret : Option FieldType} {d K N : Nat} {h : List va_E} {k n : Nat} {lv : List (Option Value)} {st : List Value} {pc pc' : Nat}

theorem A_iconst (C : Cok Γ cc own ret d K N) {z : Int} {x : Int32} (dg : decode cc pc = .ok (.iconst z, 1)) (hv : Int32.ofInt z = x) (hp : pc + 1 = pc') (kk : AW Γ h k n lv (.int x :: st) pc') : AW Γ h k n lv (st) pc := by
  obtain ⟨⟨p, e, R, s, m, args, below, meth, c, Q⟩, ⟨l, s0, b, L, xs, D, tc⟩, A, ad0, n0, nL⟩ := Γ
  obtain ⟨hx, hb, hml, hown, hr, hlocks, hR, hu, hW0, hold, hA, hA0⟩ := C
  subst hp
  intro ad H locs ls g0 g1 g2 hP hD hS hl
  exact lv_iconst hx hb dg hv (kk ad H locs ls g0 g1 g2 hP hD hS hl)
theorem A_bipush (C : Cok Γ cc own ret d K N) {z : Int} {x : Int32} (dg : decode cc pc = .ok (.bipush z, 2)) (hv : (Int8.ofInt z).toInt32 = x) (hp : pc + 2 = pc') (kk : AW Γ h k n lv (.int x :: st) pc') : AW Γ h k n lv (st) pc := by
  obtain ⟨⟨p, e, R, s, m, args, below, meth, c, Q⟩, ⟨l, s0, b, L, xs, D, tc⟩, A, ad0, n0, nL⟩ := Γ
  obtain ⟨hx, hb, hml, hown, hr, hlocks, hR, hu, hW0, hold, hA, hA0⟩ := C
  subst hp
  intro ad H locs ls g0 g1 g2 hP hD hS hl
  exact lv_bipush hx hb dg hv (kk ad H locs ls g0 g1 g2 hP hD hS hl)
theorem A_sipush (C : Cok Γ cc own ret d K N) {z : Int} {x : Int32} (dg : decode cc pc = .ok (.sipush z, 3)) (hv : (Int16.ofInt z).toInt32 = x) (hp : pc + 3 = pc') (kk : AW Γ h k n lv (.int x :: st) pc') : AW Γ h k n lv (st) pc := by
  obtain ⟨⟨p, e, R, s, m, args, below, meth, c, Q⟩, ⟨l, s0, b, L, xs, D, tc⟩, A, ad0, n0, nL⟩ := Γ
  obtain ⟨hx, hb, hml, hown, hr, hlocks, hR, hu, hW0, hold, hA, hA0⟩ := C
  subst hp
  intro ad H locs ls g0 g1 g2 hP hD hS hl
  exact lv_sipush hx hb dg hv (kk ad H locs ls g0 g1 g2 hP hD hS hl)
theorem A_ldc (C : Cok Γ cc own ret d K N) {i : Nat} {x : Int32} (dg : decode cc pc = .ok (.ldc i, 2)) (hw : (decide (Cond.constant own i x ∈ lw_tbl) && goodWord (Cond.constant own i x)) = true) (hp : pc + 2 = pc') (kk : AW Γ h k n lv (.int x :: st) pc') : AW Γ h k n lv (st) pc := by
  obtain ⟨⟨p, e, R, s, m, args, below, meth, c, Q⟩, ⟨l, s0, b, L, xs, D, tc⟩, A, ad0, n0, nL⟩ := Γ
  obtain ⟨hx, hb, hml, hown, hr, hlocks, hR, hu, hW0, hold, hA, hA0⟩ := C
  subst hp
  intro ad H locs ls g0 g1 g2 hP hD hS hl
  exact lv_ldc hx hb hown (un_word hu hw hW0 args) dg (kk ad H locs ls g0 g1 g2 hP hD hS hl)
theorem A_ldcw (C : Cok Γ cc own ret d K N) {i : Nat} {x : Int32} (dg : decode cc pc = .ok (.ldc_w i, 3)) (hw : (decide (Cond.constant own i x ∈ lw_tbl) && goodWord (Cond.constant own i x)) = true) (hp : pc + 3 = pc') (kk : AW Γ h k n lv (.int x :: st) pc') : AW Γ h k n lv (st) pc := by
  obtain ⟨⟨p, e, R, s, m, args, below, meth, c, Q⟩, ⟨l, s0, b, L, xs, D, tc⟩, A, ad0, n0, nL⟩ := Γ
  obtain ⟨hx, hb, hml, hown, hr, hlocks, hR, hu, hW0, hold, hA, hA0⟩ := C
  subst hp
  intro ad H locs ls g0 g1 g2 hP hD hS hl
  exact lv_ldcw hx hb hown (un_word hu hw hW0 args) dg (kk ad H locs ls g0 g1 g2 hP hD hS hl)
theorem A_iload_n (C : Cok Γ cc own ret d K N) {i : Fin 4} {x : Int32} (dg : decode cc pc = .ok (.iload_n i, 1)) (hlv : lv[(i : Nat)]? = some (some (.int x))) (hp : pc + 1 = pc') (kk : AW Γ h k n lv (.int x :: st) pc') : AW Γ h k n lv (st) pc := by
  obtain ⟨⟨p, e, R, s, m, args, below, meth, c, Q⟩, ⟨l, s0, b, L, xs, D, tc⟩, A, ad0, n0, nL⟩ := Γ
  obtain ⟨hx, hb, hml, hown, hr, hlocks, hR, hu, hW0, hold, hA, hA0⟩ := C
  subst hp
  intro ad H locs ls g0 g1 g2 hP hD hS hl
  exact lv_iload_n hx hb dg rfl (lc_get hl hlv) (kk ad H locs ls g0 g1 g2 hP hD hS hl)
theorem A_iload (C : Cok Γ cc own ret d K N) {i : Nat} {x : Int32} (dg : decode cc pc = .ok (.iload i, 2)) (hlv : lv[i]? = some (some (.int x))) (hp : pc + 2 = pc') (kk : AW Γ h k n lv (.int x :: st) pc') : AW Γ h k n lv (st) pc := by
  obtain ⟨⟨p, e, R, s, m, args, below, meth, c, Q⟩, ⟨l, s0, b, L, xs, D, tc⟩, A, ad0, n0, nL⟩ := Γ
  obtain ⟨hx, hb, hml, hown, hr, hlocks, hR, hu, hW0, hold, hA, hA0⟩ := C
  subst hp
  intro ad H locs ls g0 g1 g2 hP hD hS hl
  exact lv_iload hx hb dg (lc_get hl hlv) (kk ad H locs ls g0 g1 g2 hP hD hS hl)
theorem A_aload_n (C : Cok Γ cc own ret d K N) {i : Fin 4} {x : Nat} (dg : decode cc pc = .ok (.aload_n i, 1)) (hlv : lv[(i : Nat)]? = some (some (.ref x))) (hp : pc + 1 = pc') (kk : AW Γ h k n lv (.ref x :: st) pc') : AW Γ h k n lv (st) pc := by
  obtain ⟨⟨p, e, R, s, m, args, below, meth, c, Q⟩, ⟨l, s0, b, L, xs, D, tc⟩, A, ad0, n0, nL⟩ := Γ
  obtain ⟨hx, hb, hml, hown, hr, hlocks, hR, hu, hW0, hold, hA, hA0⟩ := C
  subst hp
  intro ad H locs ls g0 g1 g2 hP hD hS hl
  exact lv_aload_n hx hb dg rfl (lc_get hl hlv) (kk ad H locs ls g0 g1 g2 hP hD hS hl)
theorem A_aload (C : Cok Γ cc own ret d K N) {i : Nat} {x : Nat} (dg : decode cc pc = .ok (.aload i, 2)) (hlv : lv[i]? = some (some (.ref x))) (hp : pc + 2 = pc') (kk : AW Γ h k n lv (.ref x :: st) pc') : AW Γ h k n lv (st) pc := by
  obtain ⟨⟨p, e, R, s, m, args, below, meth, c, Q⟩, ⟨l, s0, b, L, xs, D, tc⟩, A, ad0, n0, nL⟩ := Γ
  obtain ⟨hx, hb, hml, hown, hr, hlocks, hR, hu, hW0, hold, hA, hA0⟩ := C
  subst hp
  intro ad H locs ls g0 g1 g2 hP hD hS hl
  exact lv_aload hx hb dg (lc_get hl hlv) (kk ad H locs ls g0 g1 g2 hP hD hS hl)
theorem A_istore_n (C : Cok Γ cc own ret d K N) {i : Fin 4} {x : Int32} {lv' : List (Option Value)} (dg : decode cc pc = .ok (.istore_n i, 1)) (hn : ((i : Nat)).blt lv.length = true) (hnL : lv.length = Γ.2.2.2.2.2) (ho : lvOk lv = true) (hlv : lv.set (i : Nat) (some (.int x)) = lv') (hp : pc + 1 = pc') (kk : AW Γ h k n lv' st pc') : AW Γ h k n lv (.int x :: st) pc := by
  obtain ⟨⟨p, e, R, s, m, args, below, meth, c, Q⟩, ⟨l, s0, b, L, xs, D, tc⟩, A, ad0, n0, nL⟩ := Γ
  obtain ⟨hx, hb, hml, hown, hr, hlocks, hR, hu, hW0, hold, hA, hA0⟩ := C
  subst hp hlv
  intro ad H locs ls g0 g1 g2 hP hD hS hl
  have hn2 : (i : Nat) < nL := by rw [Nat.blt_eq] at hn; rw [show nL = lv.length from hnL.symm]; exact hn
  exact lv_istore_n hx hb dg rfl hl hn2 rfl (fun ls' hl' => kk ad H locs ls' g0 g1 g2 hP hD hS (lc_store ho hl'))
theorem A_istore (C : Cok Γ cc own ret d K N) {i : Nat} {x : Int32} {lv' : List (Option Value)} (dg : decode cc pc = .ok (.istore i, 2)) (hn : (i).blt lv.length = true) (hnL : lv.length = Γ.2.2.2.2.2) (ho : lvOk lv = true) (hlv : lv.set i (some (.int x)) = lv') (hp : pc + 2 = pc') (kk : AW Γ h k n lv' st pc') : AW Γ h k n lv (.int x :: st) pc := by
  obtain ⟨⟨p, e, R, s, m, args, below, meth, c, Q⟩, ⟨l, s0, b, L, xs, D, tc⟩, A, ad0, n0, nL⟩ := Γ
  obtain ⟨hx, hb, hml, hown, hr, hlocks, hR, hu, hW0, hold, hA, hA0⟩ := C
  subst hp hlv
  intro ad H locs ls g0 g1 g2 hP hD hS hl
  have hn2 : i < nL := by rw [Nat.blt_eq] at hn; rw [show nL = lv.length from hnL.symm]; exact hn
  exact lv_istore hx hb dg hl hn2 rfl (fun ls' hl' => kk ad H locs ls' g0 g1 g2 hP hD hS (lc_store ho hl'))
theorem A_astore_n (C : Cok Γ cc own ret d K N) {i : Fin 4} {x : Nat} {lv' : List (Option Value)} (dg : decode cc pc = .ok (.astore_n i, 1)) (hn : ((i : Nat)).blt lv.length = true) (hnL : lv.length = Γ.2.2.2.2.2) (ho : lvOk lv = true) (hlv : lv.set (i : Nat) (some (.ref x)) = lv') (hp : pc + 1 = pc') (kk : AW Γ h k n lv' st pc') : AW Γ h k n lv (.ref x :: st) pc := by
  obtain ⟨⟨p, e, R, s, m, args, below, meth, c, Q⟩, ⟨l, s0, b, L, xs, D, tc⟩, A, ad0, n0, nL⟩ := Γ
  obtain ⟨hx, hb, hml, hown, hr, hlocks, hR, hu, hW0, hold, hA, hA0⟩ := C
  subst hp hlv
  intro ad H locs ls g0 g1 g2 hP hD hS hl
  have hn2 : (i : Nat) < nL := by rw [Nat.blt_eq] at hn; rw [show nL = lv.length from hnL.symm]; exact hn
  exact lv_astore_n hx hb dg rfl hl hn2 rfl (fun ls' hl' => kk ad H locs ls' g0 g1 g2 hP hD hS (lc_store ho hl'))
theorem A_astore (C : Cok Γ cc own ret d K N) {i : Nat} {x : Nat} {lv' : List (Option Value)} (dg : decode cc pc = .ok (.astore i, 2)) (hn : (i).blt lv.length = true) (hnL : lv.length = Γ.2.2.2.2.2) (ho : lvOk lv = true) (hlv : lv.set i (some (.ref x)) = lv') (hp : pc + 2 = pc') (kk : AW Γ h k n lv' st pc') : AW Γ h k n lv (.ref x :: st) pc := by
  obtain ⟨⟨p, e, R, s, m, args, below, meth, c, Q⟩, ⟨l, s0, b, L, xs, D, tc⟩, A, ad0, n0, nL⟩ := Γ
  obtain ⟨hx, hb, hml, hown, hr, hlocks, hR, hu, hW0, hold, hA, hA0⟩ := C
  subst hp hlv
  intro ad H locs ls g0 g1 g2 hP hD hS hl
  have hn2 : i < nL := by rw [Nat.blt_eq] at hn; rw [show nL = lv.length from hnL.symm]; exact hn
  exact lv_astore hx hb dg hl hn2 rfl (fun ls' hl' => kk ad H locs ls' g0 g1 g2 hP hD hS (lc_store ho hl'))
theorem A_iinc (C : Cok Γ cc own ret d K N) {i : Nat} {z : Int} {x v : Int32} {lv' : List (Option Value)} (dg : decode cc pc = .ok (.iinc i z, 3)) (hx0 : lv[i]? = some (some (.int x))) (hv : x + Int32.ofInt z = v) (hn : i.blt lv.length = true) (hnL : lv.length = Γ.2.2.2.2.2) (ho : lvOk lv = true) (hlv : lv.set i (some (.int v)) = lv') (hp : pc + 3 = pc') (kk : AW Γ h k n lv' st pc') : AW Γ h k n lv st pc := by
  obtain ⟨⟨p, e, R, s, m, args, below, meth, c, Q⟩, ⟨l, s0, b, L, xs, D, tc⟩, A, ad0, n0, nL⟩ := Γ
  obtain ⟨hx, hb, hml, hown, hr, hlocks, hR, hu, hW0, hold, hA, hA0⟩ := C
  subst hp hlv
  intro ad H locs ls g0 g1 g2 hP hD hS hl
  have hn2 : i < nL := by rw [Nat.blt_eq] at hn; rw [show nL = lv.length from hnL.symm]; exact hn
  obtain ⟨j, hj⟩ := List.getElem?_of_mem (lc_mem (ad := ad) hx0)
  exact lv_iinc hx hb dg hl hj hv hn2 rfl (fun ls' hl' => kk ad H locs ls' g0 g1 g2 hP hD hS (lc_store ho hl'))
theorem A_iadd (C : Cok Γ cc own ret d K N) {x y : Int32} (dg : decode cc pc = .ok (.iadd, 1)) (hp : pc + 1 = pc') (kk : AW Γ h k n lv (.int (x + y) :: st) pc') : AW Γ h k n lv (.int y :: .int x :: st) pc := by
  obtain ⟨⟨p, e, R, s, m, args, below, meth, c, Q⟩, ⟨l, s0, b, L, xs, D, tc⟩, A, ad0, n0, nL⟩ := Γ
  obtain ⟨hx, hb, hml, hown, hr, hlocks, hR, hu, hW0, hold, hA, hA0⟩ := C
  subst hp
  intro ad H locs ls g0 g1 g2 hP hD hS hl
  exact lv_iadd hx hb dg (kk ad H locs ls g0 g1 g2 hP hD hS hl)
theorem A_isub (C : Cok Γ cc own ret d K N) {x y : Int32} (dg : decode cc pc = .ok (.isub, 1)) (hp : pc + 1 = pc') (kk : AW Γ h k n lv (.int (x - y) :: st) pc') : AW Γ h k n lv (.int y :: .int x :: st) pc := by
  obtain ⟨⟨p, e, R, s, m, args, below, meth, c, Q⟩, ⟨l, s0, b, L, xs, D, tc⟩, A, ad0, n0, nL⟩ := Γ
  obtain ⟨hx, hb, hml, hown, hr, hlocks, hR, hu, hW0, hold, hA, hA0⟩ := C
  subst hp
  intro ad H locs ls g0 g1 g2 hP hD hS hl
  exact lv_isub hx hb dg (kk ad H locs ls g0 g1 g2 hP hD hS hl)
theorem A_imul (C : Cok Γ cc own ret d K N) {x y : Int32} (dg : decode cc pc = .ok (.imul, 1)) (hp : pc + 1 = pc') (kk : AW Γ h k n lv (.int (x * y) :: st) pc') : AW Γ h k n lv (.int y :: .int x :: st) pc := by
  obtain ⟨⟨p, e, R, s, m, args, below, meth, c, Q⟩, ⟨l, s0, b, L, xs, D, tc⟩, A, ad0, n0, nL⟩ := Γ
  obtain ⟨hx, hb, hml, hown, hr, hlocks, hR, hu, hW0, hold, hA, hA0⟩ := C
  subst hp
  intro ad H locs ls g0 g1 g2 hP hD hS hl
  exact lv_imul hx hb dg (kk ad H locs ls g0 g1 g2 hP hD hS hl)
theorem A_iand (C : Cok Γ cc own ret d K N) {x y : Int32} (dg : decode cc pc = .ok (.iand, 1)) (hp : pc + 1 = pc') (kk : AW Γ h k n lv (.int (x &&& y) :: st) pc') : AW Γ h k n lv (.int y :: .int x :: st) pc := by
  obtain ⟨⟨p, e, R, s, m, args, below, meth, c, Q⟩, ⟨l, s0, b, L, xs, D, tc⟩, A, ad0, n0, nL⟩ := Γ
  obtain ⟨hx, hb, hml, hown, hr, hlocks, hR, hu, hW0, hold, hA, hA0⟩ := C
  subst hp
  intro ad H locs ls g0 g1 g2 hP hD hS hl
  exact lv_iand hx hb dg (kk ad H locs ls g0 g1 g2 hP hD hS hl)
theorem A_ior (C : Cok Γ cc own ret d K N) {x y : Int32} (dg : decode cc pc = .ok (.ior, 1)) (hp : pc + 1 = pc') (kk : AW Γ h k n lv (.int (x ||| y) :: st) pc') : AW Γ h k n lv (.int y :: .int x :: st) pc := by
  obtain ⟨⟨p, e, R, s, m, args, below, meth, c, Q⟩, ⟨l, s0, b, L, xs, D, tc⟩, A, ad0, n0, nL⟩ := Γ
  obtain ⟨hx, hb, hml, hown, hr, hlocks, hR, hu, hW0, hold, hA, hA0⟩ := C
  subst hp
  intro ad H locs ls g0 g1 g2 hP hD hS hl
  exact lv_ior hx hb dg (kk ad H locs ls g0 g1 g2 hP hD hS hl)
theorem A_ixor (C : Cok Γ cc own ret d K N) {x y : Int32} (dg : decode cc pc = .ok (.ixor, 1)) (hp : pc + 1 = pc') (kk : AW Γ h k n lv (.int (x ^^^ y) :: st) pc') : AW Γ h k n lv (.int y :: .int x :: st) pc := by
  obtain ⟨⟨p, e, R, s, m, args, below, meth, c, Q⟩, ⟨l, s0, b, L, xs, D, tc⟩, A, ad0, n0, nL⟩ := Γ
  obtain ⟨hx, hb, hml, hown, hr, hlocks, hR, hu, hW0, hold, hA, hA0⟩ := C
  subst hp
  intro ad H locs ls g0 g1 g2 hP hD hS hl
  exact lv_ixor hx hb dg (kk ad H locs ls g0 g1 g2 hP hD hS hl)
theorem A_idiv (C : Cok Γ cc own ret d K N) {x y : Int32} (dg : decode cc pc = .ok (.idiv, 1)) (hne : ¬ y = 0) (hp : pc + 1 = pc') (kk : AW Γ h k n lv (.int (x / y) :: st) pc') : AW Γ h k n lv (.int y :: .int x :: st) pc := by
  obtain ⟨⟨p, e, R, s, m, args, below, meth, c, Q⟩, ⟨l, s0, b, L, xs, D, tc⟩, A, ad0, n0, nL⟩ := Γ
  obtain ⟨hx, hb, hml, hown, hr, hlocks, hR, hu, hW0, hold, hA, hA0⟩ := C
  subst hp
  intro ad H locs ls g0 g1 g2 hP hD hS hl
  exact lv_idiv hx hb dg hne (kk ad H locs ls g0 g1 g2 hP hD hS hl)
theorem A_irem (C : Cok Γ cc own ret d K N) {x y : Int32} (dg : decode cc pc = .ok (.irem, 1)) (hne : ¬ y = 0) (hp : pc + 1 = pc') (kk : AW Γ h k n lv (.int (x - x / y * y) :: st) pc') : AW Γ h k n lv (.int y :: .int x :: st) pc := by
  obtain ⟨⟨p, e, R, s, m, args, below, meth, c, Q⟩, ⟨l, s0, b, L, xs, D, tc⟩, A, ad0, n0, nL⟩ := Γ
  obtain ⟨hx, hb, hml, hown, hr, hlocks, hR, hu, hW0, hold, hA, hA0⟩ := C
  subst hp
  intro ad H locs ls g0 g1 g2 hP hD hS hl
  exact lv_irem hx hb dg hne (kk ad H locs ls g0 g1 g2 hP hD hS hl)
theorem A_ishl (C : Cok Γ cc own ret d K N) {x y : Int32} (dg : decode cc pc = .ok (.ishl, 1)) (hp : pc + 1 = pc') (kk : AW Γ h k n lv (.int (x <<< (y &&& 31)) :: st) pc') : AW Γ h k n lv (.int y :: .int x :: st) pc := by
  obtain ⟨⟨p, e, R, s, m, args, below, meth, c, Q⟩, ⟨l, s0, b, L, xs, D, tc⟩, A, ad0, n0, nL⟩ := Γ
  obtain ⟨hx, hb, hml, hown, hr, hlocks, hR, hu, hW0, hold, hA, hA0⟩ := C
  subst hp
  intro ad H locs ls g0 g1 g2 hP hD hS hl
  exact lv_ishl hx hb dg (kk ad H locs ls g0 g1 g2 hP hD hS hl)
theorem A_ishr (C : Cok Γ cc own ret d K N) {x y : Int32} (dg : decode cc pc = .ok (.ishr, 1)) (hp : pc + 1 = pc') (kk : AW Γ h k n lv (.int (x >>> (y &&& 31)) :: st) pc') : AW Γ h k n lv (.int y :: .int x :: st) pc := by
  obtain ⟨⟨p, e, R, s, m, args, below, meth, c, Q⟩, ⟨l, s0, b, L, xs, D, tc⟩, A, ad0, n0, nL⟩ := Γ
  obtain ⟨hx, hb, hml, hown, hr, hlocks, hR, hu, hW0, hold, hA, hA0⟩ := C
  subst hp
  intro ad H locs ls g0 g1 g2 hP hD hS hl
  exact lv_ishr hx hb dg (kk ad H locs ls g0 g1 g2 hP hD hS hl)
theorem A_iushr (C : Cok Γ cc own ret d K N) {x y : Int32} (dg : decode cc pc = .ok (.iushr, 1)) (hp : pc + 1 = pc') (kk : AW Γ h k n lv (.int ((x.toUInt32 >>> (y.toUInt32 &&& Int32.toUInt32 31)).toInt32) :: st) pc') : AW Γ h k n lv (.int y :: .int x :: st) pc := by
  obtain ⟨⟨p, e, R, s, m, args, below, meth, c, Q⟩, ⟨l, s0, b, L, xs, D, tc⟩, A, ad0, n0, nL⟩ := Γ
  obtain ⟨hx, hb, hml, hown, hr, hlocks, hR, hu, hW0, hold, hA, hA0⟩ := C
  subst hp
  intro ad H locs ls g0 g1 g2 hP hD hS hl
  exact lv_iushr hx hb dg rfl (kk ad H locs ls g0 g1 g2 hP hD hS hl)
theorem A_i2l (C : Cok Γ cc own ret d K N) {x : Int32} (dg : decode cc pc = .ok (.i2l, 1)) (hp : pc + 1 = pc') (kk : AW Γ h k n lv (.long x.toInt64 :: st) pc') : AW Γ h k n lv (.int x :: st) pc := by
  obtain ⟨⟨p, e, R, s, m, args, below, meth, c, Q⟩, ⟨l, s0, b, L, xs, D, tc⟩, A, ad0, n0, nL⟩ := Γ
  obtain ⟨hx, hb, hml, hown, hr, hlocks, hR, hu, hW0, hold, hA, hA0⟩ := C
  subst hp
  intro ad H locs ls g0 g1 g2 hP hD hS hl
  exact lv_i2l hx hb dg rfl (kk ad H locs ls g0 g1 g2 hP hD hS hl)
theorem A_lcmp (C : Cok Γ cc own ret d K N) {x y : Int64} (dg : decode cc pc = .ok (.lcmp, 1)) (hp : pc + 1 = pc') (kk : AW Γ h k n lv (.int (lg_cmp x y) :: st) pc') : AW Γ h k n lv (.long y :: .long x :: st) pc := by
  obtain ⟨⟨p, e, R, s, m, args, below, meth, c, Q⟩, ⟨l, s0, b, L, xs, D, tc⟩, A, ad0, n0, nL⟩ := Γ
  obtain ⟨hx, hb, hml, hown, hr, hlocks, hR, hu, hW0, hold, hA, hA0⟩ := C
  subst hp
  intro ad H locs ls g0 g1 g2 hP hD hS hl
  exact W.lcmp hx hb dg (kk ad H locs ls g0 g1 g2 hP hD hS hl)
theorem A_dup (C : Cok Γ cc own ret d K N) {v : Value} (dg : decode cc pc = .ok (.dup, 1)) (hc : v.category = 1) (hp : pc + 1 = pc') (kk : AW Γ h k n lv (v :: v :: st) pc') : AW Γ h k n lv (v :: st) pc := by
  obtain ⟨⟨p, e, R, s, m, args, below, meth, c, Q⟩, ⟨l, s0, b, L, xs, D, tc⟩, A, ad0, n0, nL⟩ := Γ
  obtain ⟨hx, hb, hml, hown, hr, hlocks, hR, hu, hW0, hold, hA, hA0⟩ := C
  subst hp
  intro ad H locs ls g0 g1 g2 hP hD hS hl
  exact lv_dup hx hb dg (by rw [cv_cat]; exact hc) (kk ad H locs ls g0 g1 g2 hP hD hS hl)
theorem A_pop (C : Cok Γ cc own ret d K N) {v : Value} (dg : decode cc pc = .ok (.pop, 1)) (hc : v.category = 1) (hp : pc + 1 = pc') (kk : AW Γ h k n lv (st) pc') : AW Γ h k n lv (v :: st) pc := by
  obtain ⟨⟨p, e, R, s, m, args, below, meth, c, Q⟩, ⟨l, s0, b, L, xs, D, tc⟩, A, ad0, n0, nL⟩ := Γ
  obtain ⟨hx, hb, hml, hown, hr, hlocks, hR, hu, hW0, hold, hA, hA0⟩ := C
  subst hp
  intro ad H locs ls g0 g1 g2 hP hD hS hl
  exact lv_pop hx hb dg (by rw [cv_cat]; exact hc) (kk ad H locs ls g0 g1 g2 hP hD hS hl)
theorem A_dup2 (C : Cok Γ cc own ret d K N) {v u : Value} (dg : decode cc pc = .ok (.dup2, 1)) (hc : v.category = 1) (hc2 : u.category = 1) (hp : pc + 1 = pc') (kk : AW Γ h k n lv (v :: u :: v :: u :: st) pc') : AW Γ h k n lv (v :: u :: st) pc := by
  obtain ⟨⟨p, e, R, s, m, args, below, meth, c, Q⟩, ⟨l, s0, b, L, xs, D, tc⟩, A, ad0, n0, nL⟩ := Γ
  obtain ⟨hx, hb, hml, hown, hr, hlocks, hR, hu, hW0, hold, hA, hA0⟩ := C
  subst hp
  intro ad H locs ls g0 g1 g2 hP hD hS hl
  exact lv_dup2_11 hx hb dg (by rw [cv_cat]; exact hc) (by rw [cv_cat]; exact hc2) (kk ad H locs ls g0 g1 g2 hP hD hS hl)
theorem A_if_eq (C : Cok Γ cc own ret d K N) {x : Int32} {off : Int} {tgt : Nat} (dg : decode cc pc = .ok (.ifCond .eq off, 3)) (ht : (pc : Int) + off = (tgt : Int)) (hp : pc + 3 = pc') (kt : x = 0 → AW Γ h k n lv st tgt) (kf : ¬ x = 0 → AW Γ h k n lv st pc') : AW Γ h k n lv (.int x :: st) pc := by
  obtain ⟨⟨p, e, R, s, m, args, below, meth, c, Q⟩, ⟨l, s0, b, L, xs, D, tc⟩, A, ad0, n0, nL⟩ := Γ
  obtain ⟨hx, hb, hml, hown, hr, hlocks, hR, hu, hW0, hold, hA, hA0⟩ := C
  subst hp
  intro ad H locs ls g0 g1 g2 hP hD hS hl
  exact lv_if_eq hx hb dg ht (fun z => kt z ad H locs ls g0 g1 g2 hP hD hS hl) (fun z => kf z ad H locs ls g0 g1 g2 hP hD hS hl)
theorem A_icmp_eq (C : Cok Γ cc own ret d K N) {x y : Int32} {off : Int} {tgt : Nat} (dg : decode cc pc = .ok (.if_icmp .eq off, 3)) (ht : (pc : Int) + off = (tgt : Int)) (hp : pc + 3 = pc') (kt : x = y → AW Γ h k n lv st tgt) (kf : ¬ x = y → AW Γ h k n lv st pc') : AW Γ h k n lv (.int y :: .int x :: st) pc := by
  obtain ⟨⟨p, e, R, s, m, args, below, meth, c, Q⟩, ⟨l, s0, b, L, xs, D, tc⟩, A, ad0, n0, nL⟩ := Γ
  obtain ⟨hx, hb, hml, hown, hr, hlocks, hR, hu, hW0, hold, hA, hA0⟩ := C
  subst hp
  intro ad H locs ls g0 g1 g2 hP hD hS hl
  exact lv_icmp_eq hx hb dg ht (fun z => kt z ad H locs ls g0 g1 g2 hP hD hS hl) (fun z => kf z ad H locs ls g0 g1 g2 hP hD hS hl)
theorem A_if_ne (C : Cok Γ cc own ret d K N) {x : Int32} {off : Int} {tgt : Nat} (dg : decode cc pc = .ok (.ifCond .ne off, 3)) (ht : (pc : Int) + off = (tgt : Int)) (hp : pc + 3 = pc') (kt : ¬ x = 0 → AW Γ h k n lv st tgt) (kf : x = 0 → AW Γ h k n lv st pc') : AW Γ h k n lv (.int x :: st) pc := by
  obtain ⟨⟨p, e, R, s, m, args, below, meth, c, Q⟩, ⟨l, s0, b, L, xs, D, tc⟩, A, ad0, n0, nL⟩ := Γ
  obtain ⟨hx, hb, hml, hown, hr, hlocks, hR, hu, hW0, hold, hA, hA0⟩ := C
  subst hp
  intro ad H locs ls g0 g1 g2 hP hD hS hl
  exact lv_if_ne hx hb dg ht (fun z => kt z ad H locs ls g0 g1 g2 hP hD hS hl) (fun z => kf z ad H locs ls g0 g1 g2 hP hD hS hl)
theorem A_icmp_ne (C : Cok Γ cc own ret d K N) {x y : Int32} {off : Int} {tgt : Nat} (dg : decode cc pc = .ok (.if_icmp .ne off, 3)) (ht : (pc : Int) + off = (tgt : Int)) (hp : pc + 3 = pc') (kt : ¬ x = y → AW Γ h k n lv st tgt) (kf : x = y → AW Γ h k n lv st pc') : AW Γ h k n lv (.int y :: .int x :: st) pc := by
  obtain ⟨⟨p, e, R, s, m, args, below, meth, c, Q⟩, ⟨l, s0, b, L, xs, D, tc⟩, A, ad0, n0, nL⟩ := Γ
  obtain ⟨hx, hb, hml, hown, hr, hlocks, hR, hu, hW0, hold, hA, hA0⟩ := C
  subst hp
  intro ad H locs ls g0 g1 g2 hP hD hS hl
  exact lv_icmp_ne hx hb dg ht (fun z => kt z ad H locs ls g0 g1 g2 hP hD hS hl) (fun z => kf z ad H locs ls g0 g1 g2 hP hD hS hl)
theorem A_if_lt (C : Cok Γ cc own ret d K N) {x : Int32} {off : Int} {tgt : Nat} (dg : decode cc pc = .ok (.ifCond .lt off, 3)) (ht : (pc : Int) + off = (tgt : Int)) (hp : pc + 3 = pc') (kt : x < 0 → AW Γ h k n lv st tgt) (kf : ¬ x < 0 → AW Γ h k n lv st pc') : AW Γ h k n lv (.int x :: st) pc := by
  obtain ⟨⟨p, e, R, s, m, args, below, meth, c, Q⟩, ⟨l, s0, b, L, xs, D, tc⟩, A, ad0, n0, nL⟩ := Γ
  obtain ⟨hx, hb, hml, hown, hr, hlocks, hR, hu, hW0, hold, hA, hA0⟩ := C
  subst hp
  intro ad H locs ls g0 g1 g2 hP hD hS hl
  exact lv_if_lt hx hb dg ht (fun z => kt z ad H locs ls g0 g1 g2 hP hD hS hl) (fun z => kf z ad H locs ls g0 g1 g2 hP hD hS hl)
theorem A_icmp_lt (C : Cok Γ cc own ret d K N) {x y : Int32} {off : Int} {tgt : Nat} (dg : decode cc pc = .ok (.if_icmp .lt off, 3)) (ht : (pc : Int) + off = (tgt : Int)) (hp : pc + 3 = pc') (kt : x < y → AW Γ h k n lv st tgt) (kf : ¬ x < y → AW Γ h k n lv st pc') : AW Γ h k n lv (.int y :: .int x :: st) pc := by
  obtain ⟨⟨p, e, R, s, m, args, below, meth, c, Q⟩, ⟨l, s0, b, L, xs, D, tc⟩, A, ad0, n0, nL⟩ := Γ
  obtain ⟨hx, hb, hml, hown, hr, hlocks, hR, hu, hW0, hold, hA, hA0⟩ := C
  subst hp
  intro ad H locs ls g0 g1 g2 hP hD hS hl
  exact lv_icmp_lt hx hb dg ht (fun z => kt z ad H locs ls g0 g1 g2 hP hD hS hl) (fun z => kf z ad H locs ls g0 g1 g2 hP hD hS hl)
theorem A_if_ge (C : Cok Γ cc own ret d K N) {x : Int32} {off : Int} {tgt : Nat} (dg : decode cc pc = .ok (.ifCond .ge off, 3)) (ht : (pc : Int) + off = (tgt : Int)) (hp : pc + 3 = pc') (kt : 0 ≤ x → AW Γ h k n lv st tgt) (kf : ¬ 0 ≤ x → AW Γ h k n lv st pc') : AW Γ h k n lv (.int x :: st) pc := by
  obtain ⟨⟨p, e, R, s, m, args, below, meth, c, Q⟩, ⟨l, s0, b, L, xs, D, tc⟩, A, ad0, n0, nL⟩ := Γ
  obtain ⟨hx, hb, hml, hown, hr, hlocks, hR, hu, hW0, hold, hA, hA0⟩ := C
  subst hp
  intro ad H locs ls g0 g1 g2 hP hD hS hl
  exact lv_if_ge hx hb dg ht (fun z => kt z ad H locs ls g0 g1 g2 hP hD hS hl) (fun z => kf z ad H locs ls g0 g1 g2 hP hD hS hl)
theorem A_icmp_ge (C : Cok Γ cc own ret d K N) {x y : Int32} {off : Int} {tgt : Nat} (dg : decode cc pc = .ok (.if_icmp .ge off, 3)) (ht : (pc : Int) + off = (tgt : Int)) (hp : pc + 3 = pc') (kt : y ≤ x → AW Γ h k n lv st tgt) (kf : ¬ y ≤ x → AW Γ h k n lv st pc') : AW Γ h k n lv (.int y :: .int x :: st) pc := by
  obtain ⟨⟨p, e, R, s, m, args, below, meth, c, Q⟩, ⟨l, s0, b, L, xs, D, tc⟩, A, ad0, n0, nL⟩ := Γ
  obtain ⟨hx, hb, hml, hown, hr, hlocks, hR, hu, hW0, hold, hA, hA0⟩ := C
  subst hp
  intro ad H locs ls g0 g1 g2 hP hD hS hl
  exact lv_icmp_ge hx hb dg ht (fun z => kt z ad H locs ls g0 g1 g2 hP hD hS hl) (fun z => kf z ad H locs ls g0 g1 g2 hP hD hS hl)
theorem A_if_gt (C : Cok Γ cc own ret d K N) {x : Int32} {off : Int} {tgt : Nat} (dg : decode cc pc = .ok (.ifCond .gt off, 3)) (ht : (pc : Int) + off = (tgt : Int)) (hp : pc + 3 = pc') (kt : 0 < x → AW Γ h k n lv st tgt) (kf : ¬ 0 < x → AW Γ h k n lv st pc') : AW Γ h k n lv (.int x :: st) pc := by
  obtain ⟨⟨p, e, R, s, m, args, below, meth, c, Q⟩, ⟨l, s0, b, L, xs, D, tc⟩, A, ad0, n0, nL⟩ := Γ
  obtain ⟨hx, hb, hml, hown, hr, hlocks, hR, hu, hW0, hold, hA, hA0⟩ := C
  subst hp
  intro ad H locs ls g0 g1 g2 hP hD hS hl
  exact lv_if_gt hx hb dg ht (fun z => kt z ad H locs ls g0 g1 g2 hP hD hS hl) (fun z => kf z ad H locs ls g0 g1 g2 hP hD hS hl)
theorem A_icmp_gt (C : Cok Γ cc own ret d K N) {x y : Int32} {off : Int} {tgt : Nat} (dg : decode cc pc = .ok (.if_icmp .gt off, 3)) (ht : (pc : Int) + off = (tgt : Int)) (hp : pc + 3 = pc') (kt : y < x → AW Γ h k n lv st tgt) (kf : ¬ y < x → AW Γ h k n lv st pc') : AW Γ h k n lv (.int y :: .int x :: st) pc := by
  obtain ⟨⟨p, e, R, s, m, args, below, meth, c, Q⟩, ⟨l, s0, b, L, xs, D, tc⟩, A, ad0, n0, nL⟩ := Γ
  obtain ⟨hx, hb, hml, hown, hr, hlocks, hR, hu, hW0, hold, hA, hA0⟩ := C
  subst hp
  intro ad H locs ls g0 g1 g2 hP hD hS hl
  exact lv_icmp_gt hx hb dg ht (fun z => kt z ad H locs ls g0 g1 g2 hP hD hS hl) (fun z => kf z ad H locs ls g0 g1 g2 hP hD hS hl)
theorem A_if_le (C : Cok Γ cc own ret d K N) {x : Int32} {off : Int} {tgt : Nat} (dg : decode cc pc = .ok (.ifCond .le off, 3)) (ht : (pc : Int) + off = (tgt : Int)) (hp : pc + 3 = pc') (kt : x ≤ 0 → AW Γ h k n lv st tgt) (kf : ¬ x ≤ 0 → AW Γ h k n lv st pc') : AW Γ h k n lv (.int x :: st) pc := by
  obtain ⟨⟨p, e, R, s, m, args, below, meth, c, Q⟩, ⟨l, s0, b, L, xs, D, tc⟩, A, ad0, n0, nL⟩ := Γ
  obtain ⟨hx, hb, hml, hown, hr, hlocks, hR, hu, hW0, hold, hA, hA0⟩ := C
  subst hp
  intro ad H locs ls g0 g1 g2 hP hD hS hl
  exact lv_if_le hx hb dg ht (fun z => kt z ad H locs ls g0 g1 g2 hP hD hS hl) (fun z => kf z ad H locs ls g0 g1 g2 hP hD hS hl)
theorem A_icmp_le (C : Cok Γ cc own ret d K N) {x y : Int32} {off : Int} {tgt : Nat} (dg : decode cc pc = .ok (.if_icmp .le off, 3)) (ht : (pc : Int) + off = (tgt : Int)) (hp : pc + 3 = pc') (kt : x ≤ y → AW Γ h k n lv st tgt) (kf : ¬ x ≤ y → AW Γ h k n lv st pc') : AW Γ h k n lv (.int y :: .int x :: st) pc := by
  obtain ⟨⟨p, e, R, s, m, args, below, meth, c, Q⟩, ⟨l, s0, b, L, xs, D, tc⟩, A, ad0, n0, nL⟩ := Γ
  obtain ⟨hx, hb, hml, hown, hr, hlocks, hR, hu, hW0, hold, hA, hA0⟩ := C
  subst hp
  intro ad H locs ls g0 g1 g2 hP hD hS hl
  exact lv_icmp_le hx hb dg ht (fun z => kt z ad H locs ls g0 g1 g2 hP hD hS hl) (fun z => kf z ad H locs ls g0 g1 g2 hP hD hS hl)
theorem A_goto (C : Cok Γ cc own ret d K N) {off : Int} {tgt : Nat} (dg : decode cc pc = .ok (.goto off, 3)) (ht : (pc : Int) + off = (tgt : Int)) (kk : AW Γ h k n lv st tgt) : AW Γ h k n lv st pc := by
  obtain ⟨⟨p, e, R, s, m, args, below, meth, c, Q⟩, ⟨l, s0, b, L, xs, D, tc⟩, A, ad0, n0, nL⟩ := Γ
  obtain ⟨hx, hb, hml, hown, hr, hlocks, hR, hu, hW0, hold, hA, hA0⟩ := C
  intro ad H locs ls g0 g1 g2 hP hD hS hl
  exact lv_goto hx hb dg ht (kk ad H locs ls g0 g1 g2 hP hD hS hl)
theorem A_tableOut (C : Cok Γ cc own ret d K N) {dflt lo hi : Int} {offs : Array Int} {len tgt : Nat} {x : Int32} (dg : decode cc pc = .ok (.tableswitch dflt lo hi offs, len)) (hc : x.toInt < lo ∨ hi < x.toInt) (ht : (pc : Int) + dflt = (tgt : Int)) (kk : AW Γ h k n lv st tgt) : AW Γ h k n lv (.int x :: st) pc := by
  obtain ⟨⟨p, e, R, s, m, args, below, meth, c, Q⟩, ⟨l, s0, b, L, xs, D, tc⟩, A, ad0, n0, nL⟩ := Γ
  obtain ⟨hx, hb, hml, hown, hr, hlocks, hR, hu, hW0, hold, hA, hA0⟩ := C
  intro ad H locs ls g0 g1 g2 hP hD hS hl
  exact lv_tableOut hx hb dg hc ht (kk ad H locs ls g0 g1 g2 hP hD hS hl)
theorem A_tableIn (C : Cok Γ cc own ret d K N) {dflt lo hi : Int} {offs : Array Int} {len tgt : Nat} {x : Int32} {off : Int} (dg : decode cc pc = .ok (.tableswitch dflt lo hi offs, len)) (h1 : ¬ x.toInt < lo) (h2 : ¬ hi < x.toInt) (ho : offs[(x.toInt - lo).toNat]? = some off) (ht : (pc : Int) + off = (tgt : Int)) (kk : AW Γ h k n lv st tgt) : AW Γ h k n lv (.int x :: st) pc := by
  obtain ⟨⟨p, e, R, s, m, args, below, meth, c, Q⟩, ⟨l, s0, b, L, xs, D, tc⟩, A, ad0, n0, nL⟩ := Γ
  obtain ⟨hx, hb, hml, hown, hr, hlocks, hR, hu, hW0, hold, hA, hA0⟩ := C
  intro ad H locs ls g0 g1 g2 hP hD hS hl
  exact lv_tableIn hx hb dg h1 h2 ho ht (kk ad H locs ls g0 g1 g2 hP hD hS hl)
/-- a class's words are among the tables' -/
def clOk (C : String) (T : u_T) (M : Nat) : Bool := (u_ws C T M).all (fun w => decide (w ∈ lw_tbl) && goodWord w)
theorem un_cl {l : Launch} {s0 : State} {b L : Nat} {xs : Nat → Int32} {D : va_G} {tc : Nat → ClassId} (hu : Un (l, s0, b, L, xs, D, tc)) {C : String} {T : u_T} {M : Nat} (hc : clOk C T M = true) {U : State} (hU : s0.WarmedH U.vm) (a' : Array Value) : ∀ w ∈ u_ws C T M, w.before a' U = true := fun w hw => un_word hu (List.all_eq_true.mp hc w hw) hU a'
theorem A_get (C : Cok Γ cc own ret d K N) {i : Nat} {Cn : String} {T : u_T} {M ci j id : Nat} {fs : List Value} {v : Value} (hcl : clOk Cn T M = true) (hci : vwCl[ci]? = some (Cn, T, M)) (hj : j.blt M = true) (hw : (decide (Cond.fieldLink own i (T j).1 (T j).2.1 (T j).2.2.1 ∈ lw_tbl) && goodWord (Cond.fieldLink own i (T j).1 (T j).2.1 (T j).2.2.1)) = true) (dg : decode cc pc = .ok (.getfield i, 3)) (he : h[id]? = some (.inr (ci, fs))) (hv : fs[j]? = some v) (hp : pc + 3 = pc') (kk : AW Γ h k n lv (v :: st) pc') : AW Γ h k n lv (.ref id :: st) pc := by
  obtain ⟨⟨p, e, R, s, m, args, below, meth, c, Q⟩, ⟨l, s0, b, L, xs, D, tc⟩, A, ad0, n0, nL⟩ := Γ
  obtain ⟨hx, hb, hml, hown, hr, hlocks, hR, hu, hW0, hold, hA, hA0⟩ := C
  subst hp
  intro ad H locs ls g0 g1 g2 hP hD hS hl
  exact va_get (D := D) hx hb (un_cl hu hcl hW0 args) (fun _ z => z) hown (va_K.moved hW0.alike hu.2.1) hP id (cw_get he) hci j (by rw [Nat.blt_eq] at hj; exact hj) (un_word hu hw hW0 args) (fun _ z => z) (by rw [List.getElem?_map, hv]; rfl) dg (kk ad H locs ls g0 g1 g2 hP hD hS hl)
theorem A_getN (C : Cok Γ cc own ret d K N) {i : Nat} {Cn host : String} {T : u_T} {M ci j id : Nat} {fs : List Value} {v : Value} (hcl : clOk Cn T M = true) (hci : vwCl[ci]? = some (Cn, T, M)) (hj : j.blt M = true) (hw : Cond.fieldLinkNest own i (T j).1 (T j).2.1 (T j).2.2.1 host ∈ lw_tbl) (dg : decode cc pc = .ok (.getfield i, 3)) (he : h[id]? = some (.inr (ci, fs))) (hv : fs[j]? = some v) (hp : pc + 3 = pc') (kk : AW Γ h k n lv (v :: st) pc') : AW Γ h k n lv (.ref id :: st) pc := by
  obtain ⟨⟨p, e, R, s, m, args, below, meth, c, Q⟩, ⟨l, s0, b, L, xs, D, tc⟩, A, ad0, n0, nL⟩ := Γ
  obtain ⟨hx, hb, hml, hown, hr, hlocks, hR, hu, hW0, hold, hA, hA0⟩ := C
  subst hp
  intro ad H locs ls g0 g1 g2 hP hD hS hl
  exact va_getN (D := D) hx hb (un_cl hu hcl hW0 args) (fun _ z => z) hown (va_K.moved hW0.alike hu.2.1) hP id (cw_get he) hci j (by rw [Nat.blt_eq] at hj; exact hj) (va_Nw.use rfl (un_nestF hu hw hW0)) (fun _ z => z) (by rw [List.getElem?_map, hv]; rfl) dg (kk ad H locs ls g0 g1 g2 hP hD hS hl)
theorem A_put (C : Cok Γ cc own ret d K N) {i : Nat} {Cn : String} {T : u_T} {M ci j id : Nat} {fs : List Value} {v : Value} {ty : FieldType} {h1 : List va_E} (ty0 : Nat → FieldType) (hty : ∀ q, q < M → parseFieldDescriptor (T q).2.2.1 = some (ty0 q)) (hnm : ∀ a, a < M → ∀ b, b < M → a ≠ b → (T a).2.1 ≠ (T b).2.1) (hcl : clOk Cn T M = true) (hci : vwCl[ci]? = some (Cn, T, M)) (hj : j.blt M = true) (hw : (decide (Cond.fieldLink own i (T j).1 (T j).2.1 (T j).2.2.1 ∈ lw_tbl) && goodWord (Cond.fieldLink own i (T j).1 (T j).2.1 (T j).2.2.1)) = true) (hfin : (T j).2.2.2 = false) (hd : parseFieldDescriptor (T j).2.2.1 = some ty) (hna : ∀ ad, narrow ty (cv ad v) = cv ad v) (hfit : ∀ ad, fits ty (cv ad v) = true) (hlen : j.blt fs.length = true) (dg : decode cc pc = .ok (.putfield i, 3)) (he : h[id]? = some (.inr (ci, fs))) (hh : h.set id (.inr (ci, fs.set j v)) = h1) (hp : pc + 3 = pc') (kk : AW Γ h1 k n lv st pc') : AW Γ h k n lv (v :: .ref id :: st) pc := by
  obtain ⟨⟨p, e, R, s, m, args, below, meth, c, Q⟩, ⟨l, s0, b, L, xs, D, tc⟩, A, ad0, n0, nL⟩ := Γ
  obtain ⟨hx, hb, hml, hown, hr, hlocks, hR, hu, hW0, hold, hA, hA0⟩ := C
  subst hp hh
  intro ad H locs ls g0 g1 g2 hP hD hS hl
  refine va_put (D := D) hx hb (un_cl hu hcl hW0 args) (fun _ z => z) ty0 hty hnm hown (va_K.moved hW0.alike hu.2.1) hP hD hS id (cw_get he) hci j (by rw [Nat.blt_eq] at hj; exact hj) (un_word hu hw hW0 args) (fun _ z => z) hfin hd (hna ad) (hfit ad) (by rw [List.length_map]; rw [Nat.blt_eq] at hlen; exact hlen) dg ?_
  intro H1 locs1 hP1 hD1 hS1
  have e1 : (ad id, (Sum.inr (ci, (fs.map (cv ad)).set j (cv ad v)) : va_E)) = (ad id, ce ad tc (.inr (ci, fs.set j v))) := by
    show _ = (ad id, (Sum.inr (ci, (fs.set j v).map (cv ad)) : va_E))
    rw [List.map_set]
  rw [e1, cw_set] at hP1 hD1
  exact kk ad H1 locs1 ls (by rw [List.length_set]; exact g0) g1 g2 hP1 hD1 hS1 hl
theorem A_putN (C : Cok Γ cc own ret d K N) {i : Nat} {Cn : String} {T : u_T} {M ci j id : Nat} {fs : List Value} {v : Value} {ty : FieldType} {h1 : List va_E} (ty0 : Nat → FieldType) (hty : ∀ q, q < M → parseFieldDescriptor (T q).2.2.1 = some (ty0 q)) (hnm : ∀ a, a < M → ∀ b, b < M → a ≠ b → (T a).2.1 ≠ (T b).2.1) (hcl : clOk Cn T M = true) (hci : vwCl[ci]? = some (Cn, T, M)) (hj : j.blt M = true) {host : String} (hw : Cond.fieldLinkNest own i (T j).1 (T j).2.1 (T j).2.2.1 host ∈ lw_tbl) (hfin : (T j).2.2.2 = false) (hd : parseFieldDescriptor (T j).2.2.1 = some ty) (hna : ∀ ad, narrow ty (cv ad v) = cv ad v) (hfit : ∀ ad, fits ty (cv ad v) = true) (hlen : j.blt fs.length = true) (dg : decode cc pc = .ok (.putfield i, 3)) (he : h[id]? = some (.inr (ci, fs))) (hh : h.set id (.inr (ci, fs.set j v)) = h1) (hp : pc + 3 = pc') (kk : AW Γ h1 k n lv st pc') : AW Γ h k n lv (v :: .ref id :: st) pc := by
  obtain ⟨⟨p, e, R, s, m, args, below, meth, c, Q⟩, ⟨l, s0, b, L, xs, D, tc⟩, A, ad0, n0, nL⟩ := Γ
  obtain ⟨hx, hb, hml, hown, hr, hlocks, hR, hu, hW0, hold, hA, hA0⟩ := C
  subst hp hh
  intro ad H locs ls g0 g1 g2 hP hD hS hl
  refine va_putN (D := D) hx hb (un_cl hu hcl hW0 args) (fun _ z => z) ty0 hty hnm hown (va_K.moved hW0.alike hu.2.1) hP hD hS id (cw_get he) hci j (by rw [Nat.blt_eq] at hj; exact hj) (va_Nw.use rfl (un_nestF hu hw hW0)) (fun _ z => z) hfin hd (hna ad) (hfit ad) (by rw [List.length_map]; rw [Nat.blt_eq] at hlen; exact hlen) dg ?_
  intro H1 locs1 hP1 hD1 hS1
  have e1 : (ad id, (Sum.inr (ci, (fs.map (cv ad)).set j (cv ad v)) : va_E)) = (ad id, ce ad tc (.inr (ci, fs.set j v))) := by
    show _ = (ad id, (Sum.inr (ci, (fs.set j v).map (cv ad)) : va_E))
    rw [List.map_set]
  rw [e1, cw_set] at hP1 hD1
  exact kk ad H1 locs1 ls (by rw [List.length_set]; exact g0) g1 g2 hP1 hD1 hS1 hl
theorem A_putF (C : Cok Γ cc own ret d K N) {i : Nat} {Cn : String} {T : u_T} {M ci j id : Nat} {fs : List Value} {v : Value} {ty : FieldType} {h1 : List va_E} (ty0 : Nat → FieldType) (hty : ∀ q, q < M → parseFieldDescriptor (T q).2.2.1 = some (ty0 q)) (hnm : ∀ a, a < M → ∀ b, b < M → a ≠ b → (T a).2.1 ≠ (T b).2.1) (hcl : clOk Cn T M = true) (hci : vwCl[ci]? = some (Cn, T, M)) (hj : j.blt M = true) (hw : (decide (Cond.fieldLink own i (T j).1 (T j).2.1 (T j).2.2.1 ∈ lw_tbl) && goodWord (Cond.fieldLink own i (T j).1 (T j).2.1 (T j).2.2.1)) = true) (hfin : (T j).2.2.2 = true) (hin2 : Γ.1.2.2.2.2.2.2.2.1.name = "<init>") (hdecl : (T j).1 = own) (hd : parseFieldDescriptor (T j).2.2.1 = some ty) (hna : ∀ ad, narrow ty (cv ad v) = cv ad v) (hfit : ∀ ad, fits ty (cv ad v) = true) (hlen : j.blt fs.length = true) (dg : decode cc pc = .ok (.putfield i, 3)) (he : h[id]? = some (.inr (ci, fs))) (hh : h.set id (.inr (ci, fs.set j v)) = h1) (hp : pc + 3 = pc') (kk : AW Γ h1 k n lv st pc') : AW Γ h k n lv (v :: .ref id :: st) pc := by
  obtain ⟨⟨p, e, R, s, m, args, below, meth, c, Q⟩, ⟨l, s0, b, L, xs, D, tc⟩, A, ad0, n0, nL⟩ := Γ
  obtain ⟨hx, hb, hml, hown, hr, hlocks, hR, hu, hW0, hold, hA, hA0⟩ := C
  subst hp hh
  intro ad H locs ls g0 g1 g2 hP hD hS hl
  refine va_putF (D := D) hx hb (un_cl hu hcl hW0 args) (fun _ z => z) ty0 hty hnm hown (va_K.moved hW0.alike hu.2.1) hP hD hS id (cw_get he) hci j (by rw [Nat.blt_eq] at hj; exact hj) (un_word hu hw hW0 args) (fun _ z => z) hfin hin2 hdecl hd (hna ad) (hfit ad) (by rw [List.length_map]; rw [Nat.blt_eq] at hlen; exact hlen) dg ?_
  intro H1 locs1 hP1 hD1 hS1
  have e1 : (ad id, (Sum.inr (ci, (fs.map (cv ad)).set j (cv ad v)) : va_E)) = (ad id, ce ad tc (.inr (ci, fs.set j v))) := by
    show _ = (ad id, (Sum.inr (ci, (fs.set j v).map (cv ad)) : va_E))
    rw [List.map_set]
  rw [e1, cw_set] at hP1 hD1
  exact kk ad H1 locs1 ls (by rw [List.length_set]; exact g0) g1 g2 hP1 hD1 hS1 hl
theorem A_iald (C : Cok Γ cc own ret d K N) {id M : Nat} {f : Nat → Int32} {i : Int32} (he : h[id]? = some (.inl (0, M, .inl f))) (hin : vp_in i M) (dg : decode cc pc = .ok (.iaload, 1)) (hp : pc + 1 = pc') (kk : AW Γ h k n lv (.int (f i.toNatClampNeg) :: st) pc') : AW Γ h k n lv (.int i :: .ref id :: st) pc := by
  obtain ⟨⟨p, e, R, s, m, args, below, meth, c, Q⟩, ⟨l, s0, b, L, xs, D, tc⟩, A, ad0, n0, nL⟩ := Γ
  obtain ⟨hx, hb, hml, hown, hr, hlocks, hR, hu, hW0, hold, hA, hA0⟩ := C
  subst hp
  intro ad H locs ls g0 g1 g2 hP hD hS hl
  exact va_iald (D := D) hx hb (va_K.moved hW0.alike hu.2.1) hP id 0 (cw_get he) rfl hin dg (kk ad H locs ls g0 g1 g2 hP hD hS hl)
theorem A_zald (C : Cok Γ cc own ret d K N) {id M : Nat} {f : Nat → Int32} {i : Int32} (he : h[id]? = some (.inl (2, M, .inl f))) (hin : vp_in i M) (dg : decode cc pc = .ok (.baload, 1)) (hp : pc + 1 = pc') (kk : AW Γ h k n lv (.int (f i.toNatClampNeg) :: st) pc') : AW Γ h k n lv (.int i :: .ref id :: st) pc := by
  obtain ⟨⟨p, e, R, s, m, args, below, meth, c, Q⟩, ⟨l, s0, b, L, xs, D, tc⟩, A, ad0, n0, nL⟩ := Γ
  obtain ⟨hx, hb, hml, hown, hr, hlocks, hR, hu, hW0, hold, hA, hA0⟩ := C
  subst hp
  intro ad H locs ls g0 g1 g2 hP hD hS hl
  exact va_zald (D := D) hx hb (va_K.moved hW0.alike hu.2.1) hP id 2 (cw_get he) rfl hin dg (kk ad H locs ls g0 g1 g2 hP hD hS hl)
theorem A_lald (C : Cok Γ cc own ret d K N) {id M : Nat} {f : Nat → Int64} {i : Int32} (he : h[id]? = some (.inl (1, M, .inr (.inl f)))) (hin : vp_in i M) (dg : decode cc pc = .ok (.laload, 1)) (hp : pc + 1 = pc') (kk : AW Γ h k n lv (.long (f i.toNatClampNeg) :: st) pc') : AW Γ h k n lv (.int i :: .ref id :: st) pc := by
  obtain ⟨⟨p, e, R, s, m, args, below, meth, c, Q⟩, ⟨l, s0, b, L, xs, D, tc⟩, A, ad0, n0, nL⟩ := Γ
  obtain ⟨hx, hb, hml, hown, hr, hlocks, hR, hu, hW0, hold, hA, hA0⟩ := C
  subst hp
  intro ad H locs ls g0 g1 g2 hP hD hS hl
  exact va_lald (D := D) hx hb (va_K.moved hW0.alike hu.2.1) hP id 1 (cw_get he) rfl hin dg (kk ad H locs ls g0 g1 g2 hP hD hS hl)
theorem A_sald (C : Cok Γ cc own ret d K N) {i : Int32} (hin : vp_in i Γ.2.1.2.2.2.1) (dg : decode cc pc = .ok (.iaload, 1)) (hp : pc + 1 = pc') (kk : AW Γ h k n lv (.int (Γ.2.1.2.2.2.2.1 i.toNatClampNeg) :: st) pc') : AW Γ h k n lv (.int i :: .ref SCR :: st) pc := by
  obtain ⟨⟨p, e, R, s, m, args, below, meth, c, Q⟩, ⟨l, s0, b, L, xs, D, tc⟩, A, ad0, n0, nL⟩ := Γ
  obtain ⟨hx, hb, hml, hown, hr, hlocks, hR, hu, hW0, hold, hA, hA0⟩ := C
  subst hp
  intro ad H locs ls g0 g1 g2 hP hD hS hl
  have hX : va_X b L xs s s.heap := (hu.2.2.1.kept (hold.2 b hu.2.2.2.1)).moved hW0.alike
  have e1 : List.map (cv ad) (.int i :: .ref SCR :: st) = .int i :: .ref b :: st.map (cv ad) := by simp [cv, g2]
  rw [e1]
  exact va_sld hx hb hX (Nat.lt_of_lt_of_le hu.2.2.2.1 hold.1) (fun z => absurd (hA0 b z) (Nat.not_le.mpr hu.2.2.2.1)) hS hin dg (kk ad H locs ls g0 g1 g2 hP hD hS hl)
theorem A_slen (C : Cok Γ cc own ret d K N) (dg : decode cc pc = .ok (.arraylength, 1)) (hp : pc + 1 = pc') (kk : AW Γ h k n lv (.int (Int32.ofNat Γ.2.1.2.2.2.1) :: st) pc') : AW Γ h k n lv (.ref SCR :: st) pc := by
  obtain ⟨⟨p, e, R, s, m, args, below, meth, c, Q⟩, ⟨l, s0, b, L, xs, D, tc⟩, A, ad0, n0, nL⟩ := Γ
  obtain ⟨hx, hb, hml, hown, hr, hlocks, hR, hu, hW0, hold, hA, hA0⟩ := C
  subst hp
  intro ad H locs ls g0 g1 g2 hP hD hS hl
  have hX : va_X b L xs s s.heap := (hu.2.2.1.kept (hold.2 b hu.2.2.2.1)).moved hW0.alike
  have e1 : List.map (cv ad) (.ref SCR :: st) = .ref b :: st.map (cv ad) := by simp [cv, g2]
  rw [e1]
  exact va_slen hx hb hX (Nat.lt_of_lt_of_le hu.2.2.2.1 hold.1) (fun z => absurd (hA0 b z) (Nat.not_le.mpr hu.2.2.2.1)) hS dg (kk ad H locs ls g0 g1 g2 hP hD hS hl)
theorem A_alen (C : Cok Γ cc own ret d K N) {id M tix : Nat} {x : vp_A} {ty : FieldType} {v : Int32} (he : h[id]? = some (.inl (tix, x))) (ht : ∀ tc : Nat → ClassId, (tyl tc)[tix]? = some (tc tix, ty)) (hv : Int32.ofNat x.1 = v) (dg : decode cc pc = .ok (.arraylength, 1)) (hp : pc + 1 = pc') (kk : AW Γ h k n lv (.int v :: st) pc') : AW Γ h k n lv (.ref id :: st) pc := by
  obtain ⟨⟨p, e, R, s, m, args, below, meth, c, Q⟩, ⟨l, s0, b, L, xs, D, tc⟩, A, ad0, n0, nL⟩ := Γ
  obtain ⟨hx, hb, hml, hown, hr, hlocks, hR, hu, hW0, hold, hA, hA0⟩ := C
  subst hp
  intro ad H locs ls g0 g1 g2 hP hD hS hl
  exact va_alen (D := D) hx hb (va_K.moved hW0.alike hu.2.1) hP id tix (cw_get he) (ht tc) hv dg (kk ad H locs ls g0 g1 g2 hP hD hS hl)
theorem A_iast (C : Cok Γ cc own ret d K N) {id M : Nat} {f : Nat → Int32} {i : Int32} {x : Int32} {h1 : List va_E} (he : h[id]? = some (.inl (0, M, .inl f))) (hin : vp_in i M) (hh : h.set id (.inl (0, M, .inl (upd f i.toNatClampNeg x))) = h1) (dg : decode cc pc = .ok (.iastore, 1)) (hp : pc + 1 = pc') (kk : AW Γ h1 k n lv st pc') : AW Γ h k n lv (.int x :: .int i :: .ref id :: st) pc := by
  obtain ⟨⟨p, e, R, s, m, args, below, meth, c, Q⟩, ⟨l, s0, b, L, xs, D, tc⟩, A, ad0, n0, nL⟩ := Γ
  obtain ⟨hx, hb, hml, hown, hr, hlocks, hR, hu, hW0, hold, hA, hA0⟩ := C
  subst hp hh
  intro ad H locs ls g0 g1 g2 hP hD hS hl
  refine va_iast (D := D) hx hb (va_K.moved hW0.alike hu.2.1) hP hD hS id 0 (cw_get he) rfl hin dg ?_
  intro H1 locs1 hP1 hD1 hS1
  rw [show (ad id, (Sum.inl (tc 0, M, .inl (upd f i.toNatClampNeg x)) : va_E)) = (ad id, ce ad tc (.inl (0, M, .inl (upd f i.toNatClampNeg x)))) from rfl, cw_set] at hP1 hD1
  exact kk ad H1 locs1 ls (by rw [List.length_set]; exact g0) g1 g2 hP1 hD1 hS1 hl
theorem A_zast (C : Cok Γ cc own ret d K N) {id M : Nat} {f : Nat → Int32} {i : Int32} {x : Int32} {h1 : List va_E} (he : h[id]? = some (.inl (2, M, .inl f))) (hin : vp_in i M) (hh : h.set id (.inl (2, M, .inl (upd f i.toNatClampNeg (vp_nar .boolean x)))) = h1) (dg : decode cc pc = .ok (.bastore, 1)) (hp : pc + 1 = pc') (kk : AW Γ h1 k n lv st pc') : AW Γ h k n lv (.int x :: .int i :: .ref id :: st) pc := by
  obtain ⟨⟨p, e, R, s, m, args, below, meth, c, Q⟩, ⟨l, s0, b, L, xs, D, tc⟩, A, ad0, n0, nL⟩ := Γ
  obtain ⟨hx, hb, hml, hown, hr, hlocks, hR, hu, hW0, hold, hA, hA0⟩ := C
  subst hp hh
  intro ad H locs ls g0 g1 g2 hP hD hS hl
  refine va_zast (D := D) hx hb (va_K.moved hW0.alike hu.2.1) hP hD hS id 2 (cw_get he) rfl hin dg ?_
  intro H1 locs1 hP1 hD1 hS1
  rw [show (ad id, (Sum.inl (tc 2, M, .inl (upd f i.toNatClampNeg (vp_nar .boolean x))) : va_E)) = (ad id, ce ad tc (.inl (2, M, .inl (upd f i.toNatClampNeg (vp_nar .boolean x))))) from rfl, cw_set] at hP1 hD1
  exact kk ad H1 locs1 ls (by rw [List.length_set]; exact g0) g1 g2 hP1 hD1 hS1 hl
theorem A_last (C : Cok Γ cc own ret d K N) {id M : Nat} {f : Nat → Int64} {i : Int32} {x : Int64} {h1 : List va_E} (he : h[id]? = some (.inl (1, M, .inr (.inl f)))) (hin : vp_in i M) (hh : h.set id (.inl (1, M, .inr (.inl (vp_updL f i.toNatClampNeg x)))) = h1) (dg : decode cc pc = .ok (.lastore, 1)) (hp : pc + 1 = pc') (kk : AW Γ h1 k n lv st pc') : AW Γ h k n lv (.long x :: .int i :: .ref id :: st) pc := by
  obtain ⟨⟨p, e, R, s, m, args, below, meth, c, Q⟩, ⟨l, s0, b, L, xs, D, tc⟩, A, ad0, n0, nL⟩ := Γ
  obtain ⟨hx, hb, hml, hown, hr, hlocks, hR, hu, hW0, hold, hA, hA0⟩ := C
  subst hp hh
  intro ad H locs ls g0 g1 g2 hP hD hS hl
  refine va_last (D := D) hx hb (va_K.moved hW0.alike hu.2.1) hP hD hS id 1 (cw_get he) rfl hin dg ?_
  intro H1 locs1 hP1 hD1 hS1
  rw [show (ad id, (Sum.inl (tc 1, M, .inr (.inl (vp_updL f i.toNatClampNeg x))) : va_E)) = (ad id, ce ad tc (.inl (1, M, .inr (.inl (vp_updL f i.toNatClampNeg x))))) from rfl, cw_set] at hP1 hD1
  exact kk ad H1 locs1 ls (by rw [List.length_set]; exact g0) g1 g2 hP1 hD1 hS1 hl
theorem A_copyi (C : Cok Γ cc own ret d K N) {i ia ib Ma Mb : Nat} {f g : Nat → Int32} {sp dp z : Int32} {h1 : List va_E} (hw : (decide (Cond.methodLink own i arraycopyName ∈ lw_tbl) && goodWord (Cond.methodLink own i arraycopyName)) = true) (hw2 : (decide (Cond.native arraycopyName ∈ lw_tbl) && goodWord (Cond.native arraycopyName)) = true) (hw3 : (decide (Cond.static arraycopyName ∈ lw_tbl) && goodWord (Cond.static arraycopyName)) = true) (hw4 : (decide (Cond.initialized "java/lang/System" ∈ lw_tbl) && goodWord (Cond.initialized "java/lang/System")) = true)
    (hea : h[ia]? = some (.inl (0, Ma, .inl f))) (heb : h[ib]? = some (.inl (0, Mb, .inl g))) (q1 : ¬ sp < 0) (q2 : ¬ dp < 0) (q3 : ¬ z < 0) (q4 : sp.toNatClampNeg + z.toNatClampNeg ≤ Ma) (q5 : dp.toNatClampNeg + z.toNatClampNeg ≤ Mb) (hd1 : 1 ≤ d) (hroom : (st.map fun v => v.category).sum + (nativeFrameWords "java/lang/System" "arraycopy" 5 + 11) ≤ 39 * d)
    (hh : h.set ib (.inl (0, Mb, .inl (va_cpy f g sp.toNatClampNeg dp.toNatClampNeg z.toNatClampNeg))) = h1) (dg : decode cc pc = .ok (.invokestatic i, 3)) (hp : pc + 3 = pc') (kk : AW Γ h1 k n lv st pc') : AW Γ h k n lv (.int z :: .int dp :: .ref ib :: .int sp :: .ref ia :: st) pc := by
  obtain ⟨⟨p, e, R, s, m, args, below, meth, c, Q⟩, ⟨l, s0, b, L, xs, D, tc⟩, A, ad0, n0, nL⟩ := Γ
  obtain ⟨hx, hb, hml, hown, hr, hlocks, hR, hu, hW0, hold, hA, hA0⟩ := C
  subst hp hh hR
  intro ad H locs ls g0 g1 g2 hP hD hS hl
  have hcat : ((st.map (cv ad)).map fun v => v.category) = st.map fun v => v.category := by rw [List.map_map]; exact List.map_congr_left fun v _ => cv_cat ad v
  refine va_copyi (D := D) hx hb (hml.trans hl.1.symm) hown (un_word hu hw hW0 args) (un_word hu hw2 hW0 args) (un_word hu hw3 hW0 args) (un_word hu hw4 hW0 args) (va_K.moved hW0.alike hu.2.1) hP hD hS ia ib 0 0 (cw_get hea) (cw_get heb) rfl rfl rfl q1 q2 q3 q4 q5 (fun _ _ => rfl) hd1 (by rw [hcat]; exact hroom) dg ?_
  intro H1 locs1 hP1 hD1 hS1
  rw [show (ad ib, (Sum.inl (tc 0, Mb, .inl (va_cpy f g sp.toNatClampNeg dp.toNatClampNeg z.toNatClampNeg)) : va_E)) = (ad ib, ce ad tc (.inl (0, Mb, .inl (va_cpy f g sp.toNatClampNeg dp.toNatClampNeg z.toNatClampNeg)))) from rfl, cw_set] at hP1 hD1
  exact kk ad H1 locs1 ls (by rw [List.length_set]; exact g0) g1 g2 hP1 hD1 hS1 hl
theorem A_iret (C : Cok Γ cc own (some .int) d K N) {v : Int32} {mc ms : Nat} (T : Tgt Γ mc ms (some (.int v)) h) (hk : k ≤ mc) (hn : n ≤ ms) (dg : decode cc pc = .ok (.ireturn, 1)) : AW Γ h k n lv [.int v] pc := by
  obtain ⟨⟨p, e, R, s, m, args, below, meth, c, Q⟩, ⟨l, s0, b, L, xs, D, tc⟩, A, ad0, n0, nL⟩ := Γ
  obtain ⟨hx, hb, hml, hown, hr, hlocks, hR, hu, hW0, hold, hA, hA0⟩ := C
  intro ad H locs ls g0 g1 g2 hP hD hS hl
  have T : Q = _ := T
  rw [T]
  refine W.widen hk hn ?_
  exact W.iret hx hb hr (fun t ht hW => ⟨ad, g1, g2, g0, rfl, by rw [ht]; exact hP, hD, hS.F ht⟩) hS.2.2 dg
theorem A_zret (C : Cok Γ cc own (some .boolean) d K N) {v : Int32} {mc ms : Nat} (T : Tgt Γ mc ms (some (.int v)) h) (hv : v = 0 ∨ v = 1) (hk : k ≤ mc) (hn : n ≤ ms) (dg : decode cc pc = .ok (.ireturn, 1)) : AW Γ h k n lv [.int v] pc := by
  obtain ⟨⟨p, e, R, s, m, args, below, meth, c, Q⟩, ⟨l, s0, b, L, xs, D, tc⟩, A, ad0, n0, nL⟩ := Γ
  obtain ⟨hx, hb, hml, hown, hr, hlocks, hR, hu, hW0, hold, hA, hA0⟩ := C
  intro ad H locs ls g0 g1 g2 hP hD hS hl
  have T : Q = _ := T
  rw [T]
  refine W.widen hk hn ?_
  exact W.zret hx hb hr (by rcases hv with rfl | rfl <;> decide +kernel) (fun t ht hW => ⟨ad, g1, g2, g0, rfl, by rw [ht]; exact hP, hD, hS.F ht⟩) hS.2.2 dg
theorem A_vret (C : Cok Γ cc own none d K N) {mc ms : Nat} (T : Tgt Γ mc ms none h) (hk : k ≤ mc) (hn : n ≤ ms) (dg : decode cc pc = .ok (.return_, 1)) : AW Γ h k n lv [] pc := by
  obtain ⟨⟨p, e, R, s, m, args, below, meth, c, Q⟩, ⟨l, s0, b, L, xs, D, tc⟩, A, ad0, n0, nL⟩ := Γ
  obtain ⟨hx, hb, hml, hown, hr, hlocks, hR, hu, hW0, hold, hA, hA0⟩ := C
  intro ad H locs ls g0 g1 g2 hP hD hS hl
  have T : Q = _ := T
  rw [T]
  refine W.widen hk hn ?_
  exact W.vret hx hb hr (fun t ht hW => ⟨ad, g1, g2, g0, rfl, by rw [ht]; exact hP, hD, hS.F ht⟩) hS.2.2 dg
theorem A_eq {h1 : List va_E} (e : h = h1) (kk : AW Γ h1 k n lv st pc) : AW Γ h k n lv st pc := e ▸ kk
theorem A_widen {k1 n1 : Nat} (hk : k ≤ k1) (hn : n ≤ n1) (kk : AW Γ h k1 n1 lv st pc) : AW Γ h k n lv st pc := by
  obtain ⟨⟨p, e, R, s, m, args, below, meth, c, Q⟩, ⟨l, s0, b, L, xs, D, tc⟩, A, ad0, n0, nL⟩ := Γ
  intro ad H locs ls g0 g1 g2 hP hD hS hl
  exact W.widen hk hn (kk ad H locs ls g0 g1 g2 hP hD hS hl)
end Rules
end
section
/-! ===== calls over contracts ===== -/
def wOk (x : Cond) : Bool := decide (x ∈ lw_tbl) && goodWord x
def mOk : Mi → Nat → Bool
  | (y, bytes, maxL, rt), np => wOk (.code y bytes maxL rt) && wOk (.initialized y.cls) && (decide (y.cls ≠ "java/lang/invoke/MethodHandle") && decide (y.cls ≠ "java/lang/invoke/VarHandle")) && decide ((parseMethodDescriptor y.desc).map (fun d => d.parameters.length) = some np) && maxL.ble 20
theorem mOk_use {l : Launch} {s0 : State} {b L : Nat} {xs : Nat → Int32} {D : va_G} {tc : Nat → ClassId} (hu : Un (l, s0, b, L, xs, D, tc)) {y : MethodName} {bytes : ByteArray} {maxL np : Nat} {rt : Option FieldType} (hm : mOk (y, bytes, maxL, rt) np = true) {s : State} (hW0 : s0.WarmedH s.vm) (args : Array Value) :
    (∀ w ∈ [Cond.code y bytes maxL rt], ∀ (a' : Array Value) (U : State), s.WarmedH U.vm → w.before a' U = true) ∧ (Cond.code y bytes maxL rt).before args s = true ∧ (Cond.initialized y.cls).before args s = true ∧ (y.cls ≠ "java/lang/invoke/MethodHandle" ∧ y.cls ≠ "java/lang/invoke/VarHandle") ∧ (∀ sig, parseMethodDescriptor y.desc = some sig → np = sig.parameters.length) ∧ maxL ≤ 20 := by
  simp only [mOk, Bool.and_eq_true, decide_eq_true_eq] at hm
  obtain ⟨⟨⟨⟨h1, h2⟩, h3⟩, h4⟩, h5⟩ := hm
  refine ⟨fun w hw a' U hU => ?_, un_word hu h1 hW0 args, un_word hu h2 hW0 args, h3, fun sig hs => ?_, Nat.le_of_ble_eq_true h5⟩
  · rw [List.mem_singleton] at hw
    subst hw
    exact un_word hu h1 (State.WarmedH.trans hW0 hU) a'
  · rw [hs] at h4
    exact (Option.some.inj h4).symm
theorem blindA {u : Uv} {ad : Nat → Nat} {sz : Nat} {av : List Value} {h : List va_E} : FrameBlind (PcA u ad sz av h) := by
  obtain ⟨l, s0, b, L, xs, D, tc⟩ := u
  exact fun a U g mk q => ⟨q.1, q.2.1, q.2.2.1, q.2.2.2.1, q.2.2.2.2.1, q.2.2.2.2.2⟩
theorem preA {l : Launch} {s0 : State} {b L : Nat} {xs : Nat → Int32} {D : va_G} {tc : Nat → ClassId} {s : State} {A : Nat → Prop} {ad : Nat → Nat} {h : List va_E} {H : Heap} {locs : List Loc} (hW0 : s0.WarmedH s.vm) (hold : Old s0 s.heap) (hA0 : ∀ q, A q → s0.heap.size ≤ q) (hP : va_P D vwCl (cw ad tc h) H) (hD : va_D A (cw ad tc h)) (hS : va_S A s.heap H locs) (av : List Value) :
    ∀ U : State, U.heap = H → s.WarmedH U.vm → PcA (l, s0, b, L, xs, D, tc) ad H.size av h (av.map (cv ad)).toArray U := by
  intro U hU hW
  refine ⟨rfl, by rw [hU], State.WarmedH.trans hW0 hW, ⟨by rw [hU]; exact Nat.le_trans hold.1 hS.1, fun q hq => ?_⟩, by rw [hU]; exact hP, hD.weaken fun _ q _ hq => hA0 _ hq⟩
  rw [hU, hS.2.1 q (Nat.lt_of_lt_of_le hq hold.1) (fun z => absurd (hA0 q z) (Nat.not_le.mpr hq))]
  exact hold.2 q hq
/-- behind a call: the callee's heap, the caller's frame -/
theorem A_cont {p : Program} {l : Launch} {e : Env} {R : Room} {s : State} {m : MethodId} {args : Array Value} {below : List Frame} {meth : Method} {c : Code} {Q : State → Prop} {s0 : State} {b L : Nat} {xs : Nat → Int32} {D : va_G} {tc : Nat → ClassId} {A : Nat → Prop} {ad0 : Nat → Nat} {n0 nL : Nat} {h h' : List va_E} {k n mc ms : Nat} {lv : List (Option Value)} {rest stc : List Value} {rv : Option Value} {pc : Nat} {ad : Nat → Nat} {H : Heap} {locs : List Loc} {ls : Array Slot} {aa : Array Value}
    (hr : va_Run p l e R s m args below meth c H locs k n mc ms (F0 m pc ls stc) (rest.map (cv ad)) (Qt (l, s0, b, L, xs, D, tc) (va_A (cw ad tc h) H.size) ad h.length rv h' aa) (va_A (cw ad tc h) H.size))
    (hA : ∀ q, s.heap.size ≤ q → A q) (g0 : n0 ≤ h.length) (g1 : ∀ j, j < n0 → ad j = ad0 j) (g2 : ad SCR = b) (hD : va_D A (cw ad tc h)) (hS : va_S A s.heap H locs) (hl : lv_has ls nL (lc ad lv)) (ho1 : lv.all (roO h.length) = true) (ho2 : rest.all (rok h.length) = true)
    (kk : AW ((p, e, R, s, m, args, below, meth, c, Q), (l, s0, b, L, xs, D, tc), A, ad0, n0, nL) h' (k + mc) (n + ms) lv (rv.toList ++ rest) (pc + 3)) : W p l e R s m args below meth c H locs k n Q (F0 m pc ls stc) := by
  intro T hT X
  obtain ⟨v, st0, t, T', L9, e0, X', hL, e1, e2, ⟨ad', a1, a2, a0, a3, a4, a5, hz, hk⟩, stp⟩ := hr T hT X
  have a3 : v = rv.map (cv ad') := Outcome.returned.inj a3
  subst a3
  have hAA : ∀ q, va_A (cw ad tc h) H.size q → A q := fun q hq => by
    rcases hq with ⟨i, e9, hi⟩ | hq
    · exact hD.2 i _ hi
    · exact hA q (Nat.le_trans hS.1 hq)
  rw [e0] at hz hk
  have hS' : va_S A s.heap T'.heap (locs ++ L9) := ⟨Nat.le_trans hS.1 (by rw [e1]; exact hz), fun q h1 h2 => by
      rw [e1, hk q (Nat.lt_of_lt_of_le h1 hS.1) (fun z => h2 (hAA q z))]; exact hS.2.1 q h1 h2, fun q hq => by
      rcases List.mem_append.mp hq with h1 | h1
      · exact hS.2.2 q h1
      · exact hAA _ (hL q h1)⟩
  obtain ⟨t2, b1, b2⟩ := kk ad' T'.heap (locs ++ L9) ls (Nat.le_trans g0 a0) (fun j hj => (a1 j (Nat.lt_of_lt_of_le hj g0)).trans (g1 j hj)) a2 (by rw [e1]; exact a4) (a5.weaken (fun _ q _ hq => hAA _ hq)) hS' (lc_same ho1 a1 (a2.trans g2.symm) hl) T' rfl X'
  have e9 : (rv.toList ++ rest).map (cv ad') = (rv.map (cv ad')).toList ++ rest.map (cv ad) := by
    rw [List.map_append, cvs_same ho2 a1 (a2.trans g2.symm)]
    cases rv <;> rfl
  rw [e9] at b1
  exact ⟨t2, stp t2 b1, b2⟩
theorem cats (ad : Nat → Nat) (st : List Value) : ((st.map (cv ad)).map fun v => v.category) = st.map fun v => v.category := by
  rw [List.map_map]; exact List.map_congr_left fun v _ => cv_cat ad v
section Calls9
variable {Γ : Cx} {cc : ByteArray} {own : String} {ret : Option FieldType} {d K N : Nat} {h : List va_E} {k n : Nat} {lv : List (Option Value)} {st : List Value} {pc pc' : Nat}
variable {y : MethodName} {bytes : ByteArray} {maxL : Nat} {rt : Option FieldType} {np d' mc ms idx id ci : Nat} {fs : List Value} {Cq : vw_C} {av rest : List Value} {rv : Option Value} {h' : List va_E}
theorem A_callV (C : Cok Γ cc own ret d K N) (hM : AM Γ.2.1 (y, bytes, maxL, rt) d' mc ms (.ref id :: av) h rv h') (hm : mOk (y, bytes, maxL, rt) np = true) (hlk : wOk (.methodLink own idx y) = true) (hwi : wOk (.instanceMethod y) = true) (hws : wOk (.selects Cq.1 y y) = true) (he : h[id]? = some (.inr (ci, fs))) (hci : vwCl[ci]? = some Cq) (hst : st = av.reverse ++ .ref id :: rest) (hav : av.length = np) (hd : (d' + 1).ble d = true) (hcap : k + mc ≤ K ∧ n + ms ≤ N) (hsum : (rest.map fun v => v.category).sum ≤ 8) (ho1 : lv.all (roO h.length) = true) (ho2 : rest.all (rok h.length) = true) (dg : decode cc pc = .ok (.invokevirtual idx, 3)) (hp : pc + 3 = pc') (kk : AW Γ h' (k + mc) (n + ms) lv (rv.toList ++ rest) pc') : AW Γ h k n lv st pc := by
  obtain ⟨⟨p, e, R, s, m, args, below, meth, c, Q⟩, ⟨l, s0, b, L, xs, D, tc⟩, A, ad0, n0, nL⟩ := Γ
  obtain ⟨hx, hb, hml, hown, hr, hlocks, hR, hu, hW0, hold, hA, hA0⟩ := C
  subst hp hst hR
  intro ad H locs ls g0 g1 g2 hP hD hS hl
  have hM := hM ad H.size g2
  obtain ⟨m1, m2, m3, m4, m5, m6⟩ := mOk_use hu hm hW0 args
  have hd := Nat.le_of_ble_eq_true hd
  have hloc : 8 + (maxL + 11) + 39 * d' ≤ 39 * d := by omega
  exact A_cont (rest := rest) (va_runV (Ts := []) (As := av.map (cv ad)) (b := ad id) (rest := rest.map (cv ad)) ⟨hx, hb, hml, hown, fun _ z => absurd z List.not_mem_nil⟩ hM ⟨⟨rfl, rfl, hd, hloc, m1, List.mem_cons_self, m2, m3, m4, m5, (un_word hu hlk hW0 args)⟩, un_word hu hwi hW0 args, un_word hu hws hW0 args⟩ ⟨blindA, va_recv (va_K.moved hW0.alike hu.2.1) hP hci (cw_get he), preA hW0 hold hA0 hP hD hS (.ref id :: av)⟩ rfl (by rw [List.length_map]; exact hav) hl.1 (by simp [cv, List.map_append, List.map_reverse]) (lv_room (by rw [cats]; exact hsum)) dg hcap) hA g0 g1 g2 hD hS hl ho1 ho2 kk
theorem A_callVN (C : Cok Γ cc own ret d K N) (hM : AM Γ.2.1 (y, bytes, maxL, rt) d' mc ms (.ref id :: av) h rv h') (hm : mOk (y, bytes, maxL, rt) np = true) {host : String} (hlk : Cond.methodLinkNest own idx y host ∈ lw_tbl) (hwi : wOk (.instanceMethod y) = true) (hws : wOk (.selects Cq.1 y y) = true) (he : h[id]? = some (.inr (ci, fs))) (hci : vwCl[ci]? = some Cq) (hst : st = av.reverse ++ .ref id :: rest) (hav : av.length = np) (hd : (d' + 1).ble d = true) (hcap : k + mc ≤ K ∧ n + ms ≤ N) (hsum : (rest.map fun v => v.category).sum ≤ 8) (ho1 : lv.all (roO h.length) = true) (ho2 : rest.all (rok h.length) = true) (dg : decode cc pc = .ok (.invokevirtual idx, 3)) (hp : pc + 3 = pc') (kk : AW Γ h' (k + mc) (n + ms) lv (rv.toList ++ rest) pc') : AW Γ h k n lv st pc := by
  obtain ⟨⟨p, e, R, s, m, args, below, meth, c, Q⟩, ⟨l, s0, b, L, xs, D, tc⟩, A, ad0, n0, nL⟩ := Γ
  obtain ⟨hx, hb, hml, hown, hr, hlocks, hR, hu, hW0, hold, hA, hA0⟩ := C
  subst hp hst hR
  intro ad H locs ls g0 g1 g2 hP hD hS hl
  have hM := hM ad H.size g2
  obtain ⟨m1, m2, m3, m4, m5, m6⟩ := mOk_use hu hm hW0 args
  have hd := Nat.le_of_ble_eq_true hd
  have hloc : 8 + (maxL + 11) + 39 * d' ≤ 39 * d := by omega
  exact A_cont (rest := rest) (va_runVN (Ts := []) (As := av.map (cv ad)) (b := ad id) (rest := rest.map (cv ad)) ⟨hx, hb, hml, hown, fun _ z => absurd z List.not_mem_nil⟩ hM ⟨⟨⟨rfl, rfl, hd, hloc, m1, List.mem_cons_self⟩, m2, m3, m4, m5, (va_Nw.use rfl (un_nestM hu hlk hW0))⟩, un_word hu hwi hW0 args, un_word hu hws hW0 args⟩ ⟨blindA, va_recv (va_K.moved hW0.alike hu.2.1) hP hci (cw_get he), preA hW0 hold hA0 hP hD hS (.ref id :: av)⟩ rfl (by rw [List.length_map]; exact hav) hl.1 (by simp [cv, List.map_append, List.map_reverse]) (lv_room (by rw [cats]; exact hsum)) dg hcap) hA g0 g1 g2 hD hS hl ho1 ho2 kk
theorem A_callS (C : Cok Γ cc own ret d K N) (hM : AM Γ.2.1 (y, bytes, maxL, rt) d' mc ms av h rv h') (hm : mOk (y, bytes, maxL, rt) np = true) (hlk : wOk (.methodLink own idx y) = true) (hws : wOk (.static y) = true) (hst : st = av.reverse ++ rest) (hav : av.length = np) (hd : (d' + 1).ble d = true) (hcap : k + mc ≤ K ∧ n + ms ≤ N) (hsum : (rest.map fun v => v.category).sum ≤ 8) (ho1 : lv.all (roO h.length) = true) (ho2 : rest.all (rok h.length) = true) (dg : decode cc pc = .ok (.invokestatic idx, 3)) (hp : pc + 3 = pc') (kk : AW Γ h' (k + mc) (n + ms) lv (rv.toList ++ rest) pc') : AW Γ h k n lv st pc := by
  obtain ⟨⟨p, e, R, s, m, args, below, meth, c, Q⟩, ⟨l, s0, b, L, xs, D, tc⟩, A, ad0, n0, nL⟩ := Γ
  obtain ⟨hx, hb, hml, hown, hr, hlocks, hR, hu, hW0, hold, hA, hA0⟩ := C
  subst hp hst hR
  intro ad H locs ls g0 g1 g2 hP hD hS hl
  have hM := hM ad H.size g2
  obtain ⟨m1, m2, m3, m4, m5, m6⟩ := mOk_use hu hm hW0 args
  have hd := Nat.le_of_ble_eq_true hd
  have hloc : 8 + (maxL + 11) + 39 * d' ≤ 39 * d := by omega
  exact A_cont (rest := rest) (va_runS (Ts := []) (As := av.map (cv ad)) (rest := rest.map (cv ad)) ⟨hx, hb, hml, hown, fun _ z => absurd z List.not_mem_nil⟩ hM ⟨⟨rfl, rfl, hd, hloc, m1, List.mem_cons_self, m2, m3, m4, m5, (un_word hu hlk hW0 args)⟩, un_word hu hws hW0 args⟩ ⟨blindA, preA hW0 hold hA0 hP hD hS av⟩ rfl (by rw [List.length_map]; exact hav) hl.1 (by simp [cv, List.map_append, List.map_reverse]) (lv_room (by rw [cats]; exact hsum)) dg hcap) hA g0 g1 g2 hD hS hl ho1 ho2 kk
theorem A_callSN (C : Cok Γ cc own ret d K N) (hM : AM Γ.2.1 (y, bytes, maxL, rt) d' mc ms av h rv h') (hm : mOk (y, bytes, maxL, rt) np = true) {host : String} (hlk : Cond.methodLinkNest own idx y host ∈ lw_tbl) (hws : wOk (.static y) = true) (hst : st = av.reverse ++ rest) (hav : av.length = np) (hd : (d' + 1).ble d = true) (hcap : k + mc ≤ K ∧ n + ms ≤ N) (hsum : (rest.map fun v => v.category).sum ≤ 8) (ho1 : lv.all (roO h.length) = true) (ho2 : rest.all (rok h.length) = true) (dg : decode cc pc = .ok (.invokestatic idx, 3)) (hp : pc + 3 = pc') (kk : AW Γ h' (k + mc) (n + ms) lv (rv.toList ++ rest) pc') : AW Γ h k n lv st pc := by
  obtain ⟨⟨p, e, R, s, m, args, below, meth, c, Q⟩, ⟨l, s0, b, L, xs, D, tc⟩, A, ad0, n0, nL⟩ := Γ
  obtain ⟨hx, hb, hml, hown, hr, hlocks, hR, hu, hW0, hold, hA, hA0⟩ := C
  subst hp hst hR
  intro ad H locs ls g0 g1 g2 hP hD hS hl
  have hM := hM ad H.size g2
  obtain ⟨m1, m2, m3, m4, m5, m6⟩ := mOk_use hu hm hW0 args
  have hd := Nat.le_of_ble_eq_true hd
  have hloc : 8 + (maxL + 11) + 39 * d' ≤ 39 * d := by omega
  exact A_cont (rest := rest) (va_runSN (Ts := []) (As := av.map (cv ad)) (rest := rest.map (cv ad)) ⟨hx, hb, hml, hown, fun _ z => absurd z List.not_mem_nil⟩ hM ⟨⟨⟨rfl, rfl, hd, hloc, m1, List.mem_cons_self⟩, m2, m3, m4, m5, (va_Nw.use rfl (un_nestM hu hlk hW0))⟩, un_word hu hws hW0 args, trivial⟩ ⟨blindA, preA hW0 hold hA0 hP hD hS av⟩ rfl (by rw [List.length_map]; exact hav) hl.1 (by simp [cv, List.map_append, List.map_reverse]) (lv_room (by rw [cats]; exact hsum)) dg hcap) hA g0 g1 g2 hD hS hl ho1 ho2 kk
theorem A_callI (C : Cok Γ cc own ret d K N) (hM : AM Γ.2.1 (y, bytes, maxL, none) d' mc ms (.ref id :: av) h rv h') (hm : mOk (y, bytes, maxL, none) np = true) (hlk : wOk (.methodLink own idx y) = true) (hwi : wOk (.instanceMethod y) = true) (hyn : y.name = "<init>") (hst : st = av.reverse ++ .ref id :: rest) (hav : av.length = np) (hd : (d' + 1).ble d = true) (hcap : k + mc ≤ K ∧ n + ms ≤ N) (hsum : (rest.map fun v => v.category).sum ≤ 8) (ho1 : lv.all (roO h.length) = true) (ho2 : rest.all (rok h.length) = true) (dg : decode cc pc = .ok (.invokespecial idx, 3)) (hp : pc + 3 = pc') (kk : AW Γ h' (k + mc) (n + ms) lv (rv.toList ++ rest) pc') : AW Γ h k n lv st pc := by
  obtain ⟨⟨p, e, R, s, m, args, below, meth, c, Q⟩, ⟨l, s0, b, L, xs, D, tc⟩, A, ad0, n0, nL⟩ := Γ
  obtain ⟨hx, hb, hml, hown, hr, hlocks, hR, hu, hW0, hold, hA, hA0⟩ := C
  subst hp hst hR
  intro ad H locs ls g0 g1 g2 hP hD hS hl
  have hM := hM ad H.size g2
  obtain ⟨m1, m2, m3, m4, m5, m6⟩ := mOk_use hu hm hW0 args
  have hd := Nat.le_of_ble_eq_true hd
  have hloc : 8 + (maxL + 11) + 39 * d' ≤ 39 * d := by omega
  exact A_cont (rest := rest) (va_runI (Ts := []) (As := av.map (cv ad)) (b := ad id) (rest := rest.map (cv ad)) ⟨hx, hb, hml, hown, fun _ z => absurd z List.not_mem_nil⟩ hM ⟨⟨rfl, rfl, hd, hloc, m1, List.mem_cons_self, m2, m3, m4, m5, (un_word hu hlk hW0 args)⟩, hyn, un_word hu hwi hW0 args⟩ ⟨blindA, preA hW0 hold hA0 hP hD hS (.ref id :: av)⟩ rfl (by rw [List.length_map]; exact hav) hl.1 (by simp [cv, List.map_append, List.map_reverse]) (lv_room (by rw [cats]; exact hsum)) dg hcap) hA g0 g1 g2 hD hS hl ho1 ho2 kk
theorem A_callIN (C : Cok Γ cc own ret d K N) (hM : AM Γ.2.1 (y, bytes, maxL, none) d' mc ms (.ref id :: av) h rv h') (hm : mOk (y, bytes, maxL, none) np = true) {host : String} (hlk : Cond.methodLinkNest own idx y host ∈ lw_tbl) (hwi : wOk (.instanceMethod y) = true) (hyn : y.name = "<init>") (hst : st = av.reverse ++ .ref id :: rest) (hav : av.length = np) (hd : (d' + 1).ble d = true) (hcap : k + mc ≤ K ∧ n + ms ≤ N) (hsum : (rest.map fun v => v.category).sum ≤ 8) (ho1 : lv.all (roO h.length) = true) (ho2 : rest.all (rok h.length) = true) (dg : decode cc pc = .ok (.invokespecial idx, 3)) (hp : pc + 3 = pc') (kk : AW Γ h' (k + mc) (n + ms) lv (rv.toList ++ rest) pc') : AW Γ h k n lv st pc := by
  obtain ⟨⟨p, e, R, s, m, args, below, meth, c, Q⟩, ⟨l, s0, b, L, xs, D, tc⟩, A, ad0, n0, nL⟩ := Γ
  obtain ⟨hx, hb, hml, hown, hr, hlocks, hR, hu, hW0, hold, hA, hA0⟩ := C
  subst hp hst hR
  intro ad H locs ls g0 g1 g2 hP hD hS hl
  have hM := hM ad H.size g2
  obtain ⟨m1, m2, m3, m4, m5, m6⟩ := mOk_use hu hm hW0 args
  have hd := Nat.le_of_ble_eq_true hd
  have hloc : 8 + (maxL + 11) + 39 * d' ≤ 39 * d := by omega
  exact A_cont (rest := rest) (va_runIN (Ts := []) (As := av.map (cv ad)) (b := ad id) (rest := rest.map (cv ad)) ⟨hx, hb, hml, hown, fun _ z => absurd z List.not_mem_nil⟩ hM ⟨⟨⟨rfl, rfl, hd, hloc, m1, List.mem_cons_self⟩, m2, m3, m4, m5, (va_Nw.use rfl (un_nestM hu hlk hW0))⟩, hyn, un_word hu hwi hW0 args⟩ ⟨blindA, preA hW0 hold hA0 hP hD hS (.ref id :: av)⟩ rfl (by rw [List.length_map]; exact hav) hl.1 (by simp [cv, List.map_append, List.map_reverse]) (lv_room (by rw [cats]; exact hsum)) dg hcap) hA g0 g1 g2 hD hS hl ho1 ho2 kk
theorem A_obj (C : Cok Γ cc own ret d K N) (hw : wOk (.methodLink own idx objectInit) = true) (hw2 : wOk (.instanceMethod objectInit) = true) (hw3 : wOk (.code objectInit ⟨#[0xb1]⟩ 1 none) = true) (hd1 : (1).ble d = true) (hsum : (st.map fun v => v.category).sum ≤ 8) (dg : decode cc pc = .ok (.invokespecial idx, 3)) (hp : pc + 3 = pc') (kk : AW Γ h k n lv st pc') : AW Γ h k n lv (.ref id :: st) pc := by
  obtain ⟨⟨p, e, R, s, m, args, below, meth, c, Q⟩, ⟨l, s0, b, L, xs, D, tc⟩, A, ad0, n0, nL⟩ := Γ
  obtain ⟨hx, hb, hml, hown, hr, hlocks, hR, hu, hW0, hold, hA, hA0⟩ := C
  subst hp hR
  intro ad H locs ls g0 g1 g2 hP hD hS hl
  have hd1 := Nat.le_of_ble_eq_true hd1
  refine W.objInit hx hb hown (un_word hu hw hW0 args) (un_word hu hw2 hW0 args) (un_word hu hw3 hW0 args) rfl (hl.1.trans hml.symm) (rest := st.map (cv ad)) rfl dg hd1 ?_ (kk ad H locs ls g0 g1 g2 hP hD hS hl)
  show 2 * 0 + _ + 12 ≤ 39 * d
  rw [cats]
  omega
theorem A_new (C : Cok Γ cc own ret d K N) {Cn : String} {T : u_T} {M : Nat} {fs0 : List Value} {h1 : List va_E} (ty : Nat → FieldType) (hty : ∀ q, q < M → parseFieldDescriptor (T q).2.2.1 = some (ty q)) (hcl : clOk Cn T M = true) (hci : vwCl[ci]? = some (Cn, T, M)) (hw : wOk (.classLink own idx Cn) = true) (hw2 : wOk (.instantiable Cn M) = true) (hw3 : wOk (.initialized Cn) = true) (hfs : ∀ j, j < M → defaultValue (ty j) = vp_V fs0 j) (hf0 : ∀ ad, fs0.map (cv ad) = fs0) (hrok : fs0.all (rok h.length) = true)
    (hh : h.all (roE h.length) = true) (hlt : h.length.blt SCR = true) (ho1 : lv.all (roO h.length) = true) (ho2 : st.all (rok h.length) = true) (hcap : k + 1 ≤ K ∧ n + M ≤ N) (dg : decode cc pc = .ok (.new idx, 3)) (hid : h.length = id) (hh1 : h ++ [.inr (ci, fs0)] = h1) (hp : pc + 3 = pc') (kk : AW Γ h1 (k + 1) (n + M) lv (.ref id :: st) pc') : AW Γ h k n lv st pc := by
  obtain ⟨⟨p, e, R, s, m, args, below, meth, c, Q⟩, ⟨l, s0, b, L, xs, D, tc⟩, A, ad0, n0, nL⟩ := Γ
  obtain ⟨hx, hb, hml, hown, hr, hlocks, hR, hu, hW0, hold, hA, hA0⟩ := C
  subst hp hR hh1 hid
  intro ad H locs ls g0 g1 g2 hP hD hS hl
  have hlt : h.length < SCR := by rw [Nat.blt_eq] at hlt; exact hlt
  refine va_new (D := D) hx hb (un_cl hu hcl hW0 args) (fun _ z => z) ty hty hown (un_word hu hw hW0 args) (un_word hu hw2 hW0 args) (un_word hu hw3 hW0 args) (va_K.moved hW0.alike hu.2.1) hP hD hS hA hci hfs hcap.1 hcap.2 dg ?_
  intro q H1 hP1 hD1 hS1
  have e1 : cw ad tc h ++ [(q, (Sum.inr (ci, fs0) : va_E))] = cw (va_up ad h.length q) tc (h ++ [.inr (ci, fs0)]) := by
    rw [cw_push hh (show roE h.length (.inr (ci, fs0)) = true from hrok) hlt]
    show _ = _ ++ [(q, (Sum.inr (ci, fs0.map (cv ad)) : va_E))]
    rw [hf0]
  rw [e1] at hP1 hD1
  have ha : ∀ j, j < h.length → va_up ad h.length q j = ad j := fun j hj => by simp [va_up, Nat.ne_of_lt hj]
  have hs : va_up ad h.length q SCR = ad SCR := by
    have : SCR ≠ h.length := fun e => by rw [← e] at hlt; exact Nat.lt_irrefl _ hlt
    simp [va_up, this]
  have := kk (va_up ad h.length q) H1 locs ls (by rw [List.length_append]; exact Nat.le_trans g0 (Nat.le_add_right _ _)) (fun j hj => (ha j (Nat.lt_of_lt_of_le hj g0)).trans (g1 j hj)) (hs.trans g2) hP1 hD1 hS1 (lc_same ho1 ha hs hl)
  rw [List.map_cons, cvs_same ho2 ha hs, show cv (va_up ad h.length q) (.ref h.length) = .ref q from by simp [cv, va_up]] at this
  exact this
theorem A_newa (C : Cok Γ cc own ret d K N) {at9 : ArrayType} {ty : FieldType} {tix : Nat} {z : Int32} {M : Nat} {a0 : vp_A} {h1 : List va_E} (hty : newarray.typeOf at9 = ty) (hwa : wOk (.arrayClass (newarray.typeOf at9)) = true) (ht : ∀ tc : Nat → ClassId, (tyl tc)[tix]? = some (tc tix, ty)) (hra : ∀ (U : State) (cA : ClassId), va_RA U cA ty → U.vm.findClass ("[" ++ ty.toString) = some cA) (ha0 : ∀ cA : ClassId, vp_cell cA a0 = arrV cA M (fun _ => defaultValue ty)) (hz : ¬ z < 0) (hM : z.toNatClampNeg = M) (hbytes : M * componentBytes ty ≤ 536870912)
    (hh : h.all (roE h.length) = true) (hlt : h.length.blt SCR = true) (ho1 : lv.all (roO h.length) = true) (ho2 : st.all (rok h.length) = true) (hcap : k + 1 ≤ K ∧ n + M ≤ N) (dg : decode cc pc = .ok (.newarray at9, 2)) (hid : h.length = id) (hh1 : h ++ [.inl (tix, a0)] = h1) (hp : pc + 2 = pc') (kk : AW Γ h1 (k + 1) (n + M) lv (.ref id :: st) pc') : AW Γ h k n lv (.int z :: st) pc := by
  obtain ⟨⟨p, e, R, s, m, args, below, meth, c, Q⟩, ⟨l, s0, b, L, xs, D, tc⟩, A, ad0, n0, nL⟩ := Γ
  obtain ⟨hx, hb, hml, hown, hr, hlocks, hR, hu, hW0, hold, hA, hA0⟩ := C
  subst hp hR hh1 hid
  intro ad H locs ls g0 g1 g2 hP hD hS hl
  have hlt : h.length < SCR := by rw [Nat.blt_eq] at hlt; exact hlt
  have hK := va_K.moved hW0.alike hu.2.1
  refine va_newa (D := D) hx hb (un_word hu hwa hW0 args) hty hK hP hD hS hA ha0 hz hM hbytes hcap.1 hcap.2 dg ?_
  intro q cA H1 hK1 hP1 hD1 hS1
  have hc : cA = tc tix := by
    have h1 := hra _ _ (hK1.2 3 (cA, ty) rfl).2
    have h2 := hra _ _ (hK.2 tix (tc tix, ty) (ht tc)).2
    exact Option.some.inj (h1.symm.trans h2)
  subst hc
  have e1 : cw ad tc h ++ [(q, (Sum.inl (tc tix, a0) : va_E))] = cw (va_up ad h.length q) tc (h ++ [.inl (tix, a0)]) := by
    rw [cw_push hh rfl hlt]
    rfl
  rw [e1] at hP1 hD1
  have ha : ∀ j, j < h.length → va_up ad h.length q j = ad j := fun j hj => by simp [va_up, Nat.ne_of_lt hj]
  have hs : va_up ad h.length q SCR = ad SCR := by
    have : SCR ≠ h.length := fun e => by rw [← e] at hlt; exact Nat.lt_irrefl _ hlt
    simp [va_up, this]
  have := kk (va_up ad h.length q) H1 locs ls (by rw [List.length_append]; exact Nat.le_trans g0 (Nat.le_add_right _ _)) (fun j hj => (ha j (Nat.lt_of_lt_of_le hj g0)).trans (g1 j hj)) (hs.trans g2) hP1 hD1 hS1 (lc_same ho1 ha hs hl)
  rw [List.map_cons, cvs_same ho2 ha hs, show cv (va_up ad h.length q) (.ref h.length) = .ref q from by simp [cv, va_up]] at this
  exact this
end Calls9
end
section
theorem zz_t : True := trivial
end
